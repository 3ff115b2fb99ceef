section
/-! ===== the law is decoded ===== -/
theorem jm_ML_k0 : jm_rck jm_YN jm_ML 0 jm_ML_r0 = true := by decide +kernel
theorem jm_ML_k1 : jm_rck jm_YN jm_ML 16 jm_ML_r1 = true := by decide +kernel
theorem jm_ML_k2 : jm_rck jm_YN jm_ML 32 jm_ML_r2 = true := by decide +kernel
theorem jm_ML_k3 : jm_rck jm_YN jm_ML 48 jm_ML_r3 = true := by decide +kernel
theorem jm_ML_k4 : jm_rck jm_YN jm_ML 64 jm_ML_r4 = true := by decide +kernel
theorem jm_ML_k5 : jm_rck jm_YN jm_ML 80 jm_ML_r5 = true := by decide +kernel
theorem jm_ML_k6 : jm_rck jm_YN jm_ML 96 jm_ML_r6 = true := by decide +kernel
theorem jm_ML_k7 : jm_rck jm_YN jm_ML 112 jm_ML_r7 = true := by decide +kernel
theorem jm_ML_k8 : jm_rck jm_YN jm_ML 128 jm_ML_r8 = true := by decide +kernel
theorem jm_ML_k9 : jm_rck jm_YN jm_ML 144 jm_ML_r9 = true := by decide +kernel
theorem jm_ML_k10 : jm_rck jm_YN jm_ML 160 jm_ML_r10 = true := by decide +kernel
theorem jm_ML_k11 : jm_rck jm_YN jm_ML 176 jm_ML_r11 = true := by decide +kernel
theorem jm_ML_k12 : jm_rck jm_YN jm_ML 192 jm_ML_r12 = true := by decide +kernel
theorem jm_ML_k13 : jm_rck jm_YN jm_ML 208 jm_ML_r13 = true := by decide +kernel
theorem jm_ML_k14 : jm_rck jm_YN jm_ML 224 jm_ML_r14 = true := by decide +kernel
theorem jm_ML_k15 : jm_rck jm_YN jm_ML 240 jm_ML_r15 = true := by decide +kernel
theorem jm_ML_k16 : jm_rck jm_YN jm_ML 256 jm_ML_r16 = true := by decide +kernel
theorem jm_ML_k17 : jm_rck jm_YN jm_ML 272 jm_ML_r17 = true := by decide +kernel
theorem jm_ML_k18 : jm_rck jm_YN jm_ML 288 jm_ML_r18 = true := by decide +kernel
theorem jm_ML_k19 : jm_rck jm_YN jm_ML 304 jm_ML_r19 = true := by decide +kernel
theorem jm_ML_k20 : jm_rck jm_YN jm_ML 320 jm_ML_r20 = true := by decide +kernel
theorem jm_ML_k21 : jm_rck jm_YN jm_ML 336 jm_ML_r21 = true := by decide +kernel
theorem jm_ML_k22 : jm_rck jm_YN jm_ML 352 jm_ML_r22 = true := by decide +kernel
theorem jm_ML_k23 : jm_rck jm_YN jm_ML 368 jm_ML_r23 = true := by decide +kernel
theorem jm_ML_k24 : jm_rck jm_YN jm_ML 384 jm_ML_r24 = true := by decide +kernel
theorem jm_ML_k25 : jm_rck jm_YN jm_ML 400 jm_ML_r25 = true := by decide +kernel
theorem jm_ML_k26 : jm_rck jm_YN jm_ML 416 jm_ML_r26 = true := by decide +kernel
theorem jm_ML_k27 : jm_rck jm_YN jm_ML 432 jm_ML_r27 = true := by decide +kernel
theorem jm_ML_k28 : jm_rck jm_YN jm_ML 448 jm_ML_r28 = true := by decide +kernel
theorem jm_ML_k29 : jm_rck jm_YN jm_ML 464 jm_ML_r29 = true := by decide +kernel
theorem jm_ML_k30 : jm_rck jm_YN jm_ML 480 jm_ML_r30 = true := by decide +kernel
theorem jm_ML_k31 : jm_rck jm_YN jm_ML 496 jm_ML_r31 = true := by decide +kernel
theorem jm_ML_k32 : jm_rck jm_YN jm_ML 512 jm_ML_r32 = true := by decide +kernel
theorem jm_ML_k33 : jm_rck jm_YN jm_ML 528 jm_ML_r33 = true := by decide +kernel
theorem jm_ML_k34 : jm_rck jm_YN jm_ML 544 jm_ML_r34 = true := by decide +kernel
theorem jm_ML_k35 : jm_rck jm_YN jm_ML 560 jm_ML_r35 = true := by decide +kernel
theorem jm_ML_k36 : jm_rck jm_YN jm_ML 576 jm_ML_r36 = true := by decide +kernel
theorem jm_ML_k37 : jm_rck jm_YN jm_ML 592 jm_ML_r37 = true := by decide +kernel
theorem jm_ML_k38 : jm_rck jm_YN jm_ML 608 jm_ML_r38 = true := by decide +kernel
theorem jm_ML_k39 : jm_rck jm_YN jm_ML 624 jm_ML_r39 = true := by decide +kernel
theorem jm_ML_k40 : jm_rck jm_YN jm_ML 640 jm_ML_r40 = true := by decide +kernel
theorem jm_ML_k41 : jm_rck jm_YN jm_ML 656 jm_ML_r41 = true := by decide +kernel
theorem jm_ML_k42 : jm_rck jm_YN jm_ML 672 jm_ML_r42 = true := by decide +kernel
theorem jm_ML_k43 : jm_rck jm_YN jm_ML 688 jm_ML_r43 = true := by decide +kernel
theorem jm_ML_k44 : jm_rck jm_YN jm_ML 704 jm_ML_r44 = true := by decide +kernel
theorem jm_ML_k45 : jm_rck jm_YN jm_ML 720 jm_ML_r45 = true := by decide +kernel
theorem jm_ML_k46 : jm_rck jm_YN jm_ML 736 jm_ML_r46 = true := by decide +kernel
theorem jm_ML_k47 : jm_rck jm_YN jm_ML 752 jm_ML_r47 = true := by decide +kernel
theorem jm_ML_k48 : jm_rck jm_YN jm_ML 768 jm_ML_r48 = true := by decide +kernel
theorem jm_ML_k49 : jm_rck jm_YN jm_ML 784 jm_ML_r49 = true := by decide +kernel
theorem jm_ML_k50 : jm_rck jm_YN jm_ML 800 jm_ML_r50 = true := by decide +kernel
theorem jm_ML_k51 : jm_rck jm_YN jm_ML 816 jm_ML_r51 = true := by decide +kernel
theorem jm_ML_k52 : jm_rck jm_YN jm_ML 832 jm_ML_r52 = true := by decide +kernel
theorem jm_ML_k53 : jm_rck jm_YN jm_ML 848 jm_ML_r53 = true := by decide +kernel
theorem jm_ML_k54 : jm_rck jm_YN jm_ML 864 jm_ML_r54 = true := by decide +kernel
theorem jm_ML_k55 : jm_rck jm_YN jm_ML 880 jm_ML_r55 = true := by decide +kernel
theorem jm_ML_k56 : jm_rck jm_YN jm_ML 896 jm_ML_r56 = true := by decide +kernel
theorem jm_ML_k57 : jm_rck jm_YN jm_ML 912 jm_ML_r57 = true := by decide +kernel
theorem jm_ML_k58 : jm_rck jm_YN jm_ML 928 jm_ML_r58 = true := by decide +kernel
theorem jm_ML_k59 : jm_rck jm_YN jm_ML 944 jm_ML_r59 = true := by decide +kernel
theorem jm_ML_k60 : jm_rck jm_YN jm_ML 960 jm_ML_r60 = true := by decide +kernel
theorem jm_ML_k61 : jm_rck jm_YN jm_ML 976 jm_ML_r61 = true := by decide +kernel
theorem jm_ML_k62 : jm_rck jm_YN jm_ML 992 jm_ML_r62 = true := by decide +kernel
theorem jm_ML_k63 : jm_rck jm_YN jm_ML 1008 jm_ML_r63 = true := by decide +kernel
theorem jm_ML_k64 : jm_rck jm_YN jm_ML 1024 jm_ML_r64 = true := by decide +kernel
theorem jm_ML_k65 : jm_rck jm_YN jm_ML 1040 jm_ML_r65 = true := by decide +kernel
theorem jm_ML_k66 : jm_rck jm_YN jm_ML 1056 jm_ML_r66 = true := by decide +kernel
theorem jm_ML_k67 : jm_rck jm_YN jm_ML 1072 jm_ML_r67 = true := by decide +kernel
theorem jm_ML_k68 : jm_rck jm_YN jm_ML 1088 jm_ML_r68 = true := by decide +kernel
theorem jm_ML_k69 : jm_rck jm_YN jm_ML 1104 jm_ML_r69 = true := by decide +kernel
theorem jm_ML_k70 : jm_rck jm_YN jm_ML 1120 jm_ML_r70 = true := by decide +kernel
theorem jm_ML_k71 : jm_rck jm_YN jm_ML 1136 jm_ML_r71 = true := by decide +kernel
theorem jm_ML_k72 : jm_rck jm_YN jm_ML 1152 jm_ML_r72 = true := by decide +kernel
theorem jm_ML_k73 : jm_rck jm_YN jm_ML 1168 jm_ML_r73 = true := by decide +kernel
theorem jm_ML_k74 : jm_rck jm_YN jm_ML 1184 jm_ML_r74 = true := by decide +kernel
theorem jm_ML_k75 : jm_rck jm_YN jm_ML 1200 jm_ML_r75 = true := by decide +kernel
theorem jm_ML_k76 : jm_rck jm_YN jm_ML 1216 jm_ML_r76 = true := by decide +kernel
theorem jm_ML_k77 : jm_rck jm_YN jm_ML 1232 jm_ML_r77 = true := by decide +kernel
theorem jm_ML_k78 : jm_rck jm_YN jm_ML 1248 jm_ML_r78 = true := by decide +kernel
theorem jm_ML_k79 : jm_rck jm_YN jm_ML 1264 jm_ML_r79 = true := by decide +kernel
theorem jm_lawck : jm_tck jm_YN jm_ML 0 (jm_tb jm_ML) = true := jm_tck_cons jm_ML_k0 (jm_tck_cons jm_ML_k1 (jm_tck_cons jm_ML_k2 (jm_tck_cons jm_ML_k3 (jm_tck_cons jm_ML_k4 (jm_tck_cons jm_ML_k5 (jm_tck_cons jm_ML_k6 (jm_tck_cons jm_ML_k7 (jm_tck_cons jm_ML_k8 (jm_tck_cons jm_ML_k9 (jm_tck_cons jm_ML_k10 (jm_tck_cons jm_ML_k11 (jm_tck_cons jm_ML_k12 (jm_tck_cons jm_ML_k13 (jm_tck_cons jm_ML_k14 (jm_tck_cons jm_ML_k15 (jm_tck_cons jm_ML_k16 (jm_tck_cons jm_ML_k17 (jm_tck_cons jm_ML_k18 (jm_tck_cons jm_ML_k19 (jm_tck_cons jm_ML_k20 (jm_tck_cons jm_ML_k21 (jm_tck_cons jm_ML_k22 (jm_tck_cons jm_ML_k23 (jm_tck_cons jm_ML_k24 (jm_tck_cons jm_ML_k25 (jm_tck_cons jm_ML_k26 (jm_tck_cons jm_ML_k27 (jm_tck_cons jm_ML_k28 (jm_tck_cons jm_ML_k29 (jm_tck_cons jm_ML_k30 (jm_tck_cons jm_ML_k31 (jm_tck_cons jm_ML_k32 (jm_tck_cons jm_ML_k33 (jm_tck_cons jm_ML_k34 (jm_tck_cons jm_ML_k35 (jm_tck_cons jm_ML_k36 (jm_tck_cons jm_ML_k37 (jm_tck_cons jm_ML_k38 (jm_tck_cons jm_ML_k39 (jm_tck_cons jm_ML_k40 (jm_tck_cons jm_ML_k41 (jm_tck_cons jm_ML_k42 (jm_tck_cons jm_ML_k43 (jm_tck_cons jm_ML_k44 (jm_tck_cons jm_ML_k45 (jm_tck_cons jm_ML_k46 (jm_tck_cons jm_ML_k47 (jm_tck_cons jm_ML_k48 (jm_tck_cons jm_ML_k49 (jm_tck_cons jm_ML_k50 (jm_tck_cons jm_ML_k51 (jm_tck_cons jm_ML_k52 (jm_tck_cons jm_ML_k53 (jm_tck_cons jm_ML_k54 (jm_tck_cons jm_ML_k55 (jm_tck_cons jm_ML_k56 (jm_tck_cons jm_ML_k57 (jm_tck_cons jm_ML_k58 (jm_tck_cons jm_ML_k59 (jm_tck_cons jm_ML_k60 (jm_tck_cons jm_ML_k61 (jm_tck_cons jm_ML_k62 (jm_tck_cons jm_ML_k63 (jm_tck_cons jm_ML_k64 (jm_tck_cons jm_ML_k65 (jm_tck_cons jm_ML_k66 (jm_tck_cons jm_ML_k67 (jm_tck_cons jm_ML_k68 (jm_tck_cons jm_ML_k69 (jm_tck_cons jm_ML_k70 (jm_tck_cons jm_ML_k71 (jm_tck_cons jm_ML_k72 (jm_tck_cons jm_ML_k73 (jm_tck_cons jm_ML_k74 (jm_tck_cons jm_ML_k75 (jm_tck_cons jm_ML_k76 (jm_tck_cons jm_ML_k77 (jm_tck_cons jm_ML_k78 (jm_tck_cons jm_ML_k79 (rfl))))))))))))))))))))))))))))))))))))))))))))))))))))))))))))))))))))))))))))))))
end
section
/-! ===== every method of the list ===== -/
theorem jm_okr0 : ∀ M ∈ [jm_M0, jm_M1, jm_M2, jm_M3, jm_M4, jm_M5, jm_M6, jm_M7, jm_M8, jm_M9, jm_M10, jm_M11, jm_M12, jm_M13, jm_M14, jm_M15], jm_ok jm_YN M := List.forall_mem_cons.mpr ⟨jm_ok0, List.forall_mem_cons.mpr ⟨jm_ok1, List.forall_mem_cons.mpr ⟨jm_ok2, List.forall_mem_cons.mpr ⟨jm_ok3, List.forall_mem_cons.mpr ⟨jm_ok4, List.forall_mem_cons.mpr ⟨jm_ok5, List.forall_mem_cons.mpr ⟨jm_ok6, List.forall_mem_cons.mpr ⟨jm_ok7, List.forall_mem_cons.mpr ⟨jm_ok8, List.forall_mem_cons.mpr ⟨jm_ok9, List.forall_mem_cons.mpr ⟨jm_ok10, List.forall_mem_cons.mpr ⟨jm_ok11, List.forall_mem_cons.mpr ⟨jm_ok12, List.forall_mem_cons.mpr ⟨jm_ok13, List.forall_mem_cons.mpr ⟨jm_ok14, List.forall_mem_cons.mpr ⟨jm_ok15, fun _ h => absurd h List.not_mem_nil⟩⟩⟩⟩⟩⟩⟩⟩⟩⟩⟩⟩⟩⟩⟩⟩
theorem jm_okr1 : ∀ M ∈ [jm_M16, jm_M17, jm_M18, jm_M19, jm_M20, jm_M21, jm_M22, jm_M23, jm_M24, jm_M25, jm_M26, jm_M27, jm_M28, jm_M29, jm_M30, jm_M31], jm_ok jm_YN M := List.forall_mem_cons.mpr ⟨jm_ok16, List.forall_mem_cons.mpr ⟨jm_ok17, List.forall_mem_cons.mpr ⟨jm_ok18, List.forall_mem_cons.mpr ⟨jm_ok19, List.forall_mem_cons.mpr ⟨jm_ok20, List.forall_mem_cons.mpr ⟨jm_ok21, List.forall_mem_cons.mpr ⟨jm_ok22, List.forall_mem_cons.mpr ⟨jm_ok23, List.forall_mem_cons.mpr ⟨jm_ok24, List.forall_mem_cons.mpr ⟨jm_ok25, List.forall_mem_cons.mpr ⟨jm_ok26, List.forall_mem_cons.mpr ⟨jm_ok27, List.forall_mem_cons.mpr ⟨jm_ok28, List.forall_mem_cons.mpr ⟨jm_ok29, List.forall_mem_cons.mpr ⟨jm_ok30, List.forall_mem_cons.mpr ⟨jm_ok31, fun _ h => absurd h List.not_mem_nil⟩⟩⟩⟩⟩⟩⟩⟩⟩⟩⟩⟩⟩⟩⟩⟩
theorem jm_okr2 : ∀ M ∈ [jm_M32, jm_M33, jm_M34, jm_M35, jm_M36, jm_M37, jm_M38, jm_M39, jm_M40, jm_M41, jm_M42, jm_M43, jm_M44, jm_M45, jm_M46, jm_M47], jm_ok jm_YN M := List.forall_mem_cons.mpr ⟨jm_ok32, List.forall_mem_cons.mpr ⟨jm_ok33, List.forall_mem_cons.mpr ⟨jm_ok34, List.forall_mem_cons.mpr ⟨jm_ok35, List.forall_mem_cons.mpr ⟨jm_ok36, List.forall_mem_cons.mpr ⟨jm_ok37, List.forall_mem_cons.mpr ⟨jm_ok38, List.forall_mem_cons.mpr ⟨jm_ok39, List.forall_mem_cons.mpr ⟨jm_ok40, List.forall_mem_cons.mpr ⟨jm_ok41, List.forall_mem_cons.mpr ⟨jm_ok42, List.forall_mem_cons.mpr ⟨jm_ok43, List.forall_mem_cons.mpr ⟨jm_ok44, List.forall_mem_cons.mpr ⟨jm_ok45, List.forall_mem_cons.mpr ⟨jm_ok46, List.forall_mem_cons.mpr ⟨jm_ok47, fun _ h => absurd h List.not_mem_nil⟩⟩⟩⟩⟩⟩⟩⟩⟩⟩⟩⟩⟩⟩⟩⟩
theorem jm_okr3 : ∀ M ∈ [jm_M48, jm_M49, jm_M50, jm_M51, jm_M52, jm_M53, jm_M54, jm_M55, jm_M56, jm_M57, jm_M58, jm_M59, jm_M60, jm_M61, jm_M62, jm_M63], jm_ok jm_YN M := List.forall_mem_cons.mpr ⟨jm_ok48, List.forall_mem_cons.mpr ⟨jm_ok49, List.forall_mem_cons.mpr ⟨jm_ok50, List.forall_mem_cons.mpr ⟨jm_ok51, List.forall_mem_cons.mpr ⟨jm_ok52, List.forall_mem_cons.mpr ⟨jm_ok53, List.forall_mem_cons.mpr ⟨jm_ok54, List.forall_mem_cons.mpr ⟨jm_ok55, List.forall_mem_cons.mpr ⟨jm_ok56, List.forall_mem_cons.mpr ⟨jm_ok57, List.forall_mem_cons.mpr ⟨jm_ok58, List.forall_mem_cons.mpr ⟨jm_ok59, List.forall_mem_cons.mpr ⟨jm_ok60, List.forall_mem_cons.mpr ⟨jm_ok61, List.forall_mem_cons.mpr ⟨jm_ok62, List.forall_mem_cons.mpr ⟨jm_ok63, fun _ h => absurd h List.not_mem_nil⟩⟩⟩⟩⟩⟩⟩⟩⟩⟩⟩⟩⟩⟩⟩⟩
theorem jm_okr4 : ∀ M ∈ [jm_M64, jm_M65, jm_M66, jm_M67, jm_M68, jm_M69, jm_M70, jm_M71, jm_M72, jm_M73, jm_M74, jm_M75, jm_M76, jm_M77, jm_M78, jm_M79], jm_ok jm_YN M := List.forall_mem_cons.mpr ⟨jm_ok64, List.forall_mem_cons.mpr ⟨jm_ok65, List.forall_mem_cons.mpr ⟨jm_ok66, List.forall_mem_cons.mpr ⟨jm_ok67, List.forall_mem_cons.mpr ⟨jm_ok68, List.forall_mem_cons.mpr ⟨jm_ok69, List.forall_mem_cons.mpr ⟨jm_ok70, List.forall_mem_cons.mpr ⟨jm_ok71, List.forall_mem_cons.mpr ⟨jm_ok72, List.forall_mem_cons.mpr ⟨jm_ok73, List.forall_mem_cons.mpr ⟨jm_ok74, List.forall_mem_cons.mpr ⟨jm_ok75, List.forall_mem_cons.mpr ⟨jm_ok76, List.forall_mem_cons.mpr ⟨jm_ok77, List.forall_mem_cons.mpr ⟨jm_ok78, List.forall_mem_cons.mpr ⟨jm_ok79, fun _ h => absurd h List.not_mem_nil⟩⟩⟩⟩⟩⟩⟩⟩⟩⟩⟩⟩⟩⟩⟩⟩
theorem jm_okr5 : ∀ M ∈ [jm_M80, jm_M81, jm_M82, jm_M83, jm_M84, jm_M85, jm_M86, jm_M87, jm_M88, jm_M89, jm_M90, jm_M91, jm_M92, jm_M93, jm_M94, jm_M95], jm_ok jm_YN M := List.forall_mem_cons.mpr ⟨jm_ok80, List.forall_mem_cons.mpr ⟨jm_ok81, List.forall_mem_cons.mpr ⟨jm_ok82, List.forall_mem_cons.mpr ⟨jm_ok83, List.forall_mem_cons.mpr ⟨jm_ok84, List.forall_mem_cons.mpr ⟨jm_ok85, List.forall_mem_cons.mpr ⟨jm_ok86, List.forall_mem_cons.mpr ⟨jm_ok87, List.forall_mem_cons.mpr ⟨jm_ok88, List.forall_mem_cons.mpr ⟨jm_ok89, List.forall_mem_cons.mpr ⟨jm_ok90, List.forall_mem_cons.mpr ⟨jm_ok91, List.forall_mem_cons.mpr ⟨jm_ok92, List.forall_mem_cons.mpr ⟨jm_ok93, List.forall_mem_cons.mpr ⟨jm_ok94, List.forall_mem_cons.mpr ⟨jm_ok95, fun _ h => absurd h List.not_mem_nil⟩⟩⟩⟩⟩⟩⟩⟩⟩⟩⟩⟩⟩⟩⟩⟩
theorem jm_okr6 : ∀ M ∈ [jm_M96, jm_M97, jm_M98, jm_M99, jm_M100, jm_M101, jm_M102, jm_M103, jm_M104, jm_M105, jm_M106, jm_M107, jm_M108, jm_M109, jm_M110, jm_M111], jm_ok jm_YN M := List.forall_mem_cons.mpr ⟨jm_ok96, List.forall_mem_cons.mpr ⟨jm_ok97, List.forall_mem_cons.mpr ⟨jm_ok98, List.forall_mem_cons.mpr ⟨jm_ok99, List.forall_mem_cons.mpr ⟨jm_ok100, List.forall_mem_cons.mpr ⟨jm_ok101, List.forall_mem_cons.mpr ⟨jm_ok102, List.forall_mem_cons.mpr ⟨jm_ok103, List.forall_mem_cons.mpr ⟨jm_ok104, List.forall_mem_cons.mpr ⟨jm_ok105, List.forall_mem_cons.mpr ⟨jm_ok106, List.forall_mem_cons.mpr ⟨jm_ok107, List.forall_mem_cons.mpr ⟨jm_ok108, List.forall_mem_cons.mpr ⟨jm_ok109, List.forall_mem_cons.mpr ⟨jm_ok110, List.forall_mem_cons.mpr ⟨jm_ok111, fun _ h => absurd h List.not_mem_nil⟩⟩⟩⟩⟩⟩⟩⟩⟩⟩⟩⟩⟩⟩⟩⟩
theorem jm_okr7 : ∀ M ∈ [jm_M112, jm_M113, jm_M114, jm_M115, jm_M116, jm_M117, jm_M118, jm_M119, jm_M120, jm_M121, jm_M122, jm_M123, jm_M124, jm_M125, jm_M126, jm_M127], jm_ok jm_YN M := List.forall_mem_cons.mpr ⟨jm_ok112, List.forall_mem_cons.mpr ⟨jm_ok113, List.forall_mem_cons.mpr ⟨jm_ok114, List.forall_mem_cons.mpr ⟨jm_ok115, List.forall_mem_cons.mpr ⟨jm_ok116, List.forall_mem_cons.mpr ⟨jm_ok117, List.forall_mem_cons.mpr ⟨jm_ok118, List.forall_mem_cons.mpr ⟨jm_ok119, List.forall_mem_cons.mpr ⟨jm_ok120, List.forall_mem_cons.mpr ⟨jm_ok121, List.forall_mem_cons.mpr ⟨jm_ok122, List.forall_mem_cons.mpr ⟨jm_ok123, List.forall_mem_cons.mpr ⟨jm_ok124, List.forall_mem_cons.mpr ⟨jm_ok125, List.forall_mem_cons.mpr ⟨jm_ok126, List.forall_mem_cons.mpr ⟨jm_ok127, fun _ h => absurd h List.not_mem_nil⟩⟩⟩⟩⟩⟩⟩⟩⟩⟩⟩⟩⟩⟩⟩⟩
theorem jm_okr8 : ∀ M ∈ [jm_M128, jm_M129, jm_M130, jm_M131, jm_M132, jm_M133, jm_M134, jm_M135, jm_M136, jm_M137, jm_M138, jm_M139, jm_M140, jm_M141, jm_M142, jm_M143], jm_ok jm_YN M := List.forall_mem_cons.mpr ⟨jm_ok128, List.forall_mem_cons.mpr ⟨jm_ok129, List.forall_mem_cons.mpr ⟨jm_ok130, List.forall_mem_cons.mpr ⟨jm_ok131, List.forall_mem_cons.mpr ⟨jm_ok132, List.forall_mem_cons.mpr ⟨jm_ok133, List.forall_mem_cons.mpr ⟨jm_ok134, List.forall_mem_cons.mpr ⟨jm_ok135, List.forall_mem_cons.mpr ⟨jm_ok136, List.forall_mem_cons.mpr ⟨jm_ok137, List.forall_mem_cons.mpr ⟨jm_ok138, List.forall_mem_cons.mpr ⟨jm_ok139, List.forall_mem_cons.mpr ⟨jm_ok140, List.forall_mem_cons.mpr ⟨jm_ok141, List.forall_mem_cons.mpr ⟨jm_ok142, List.forall_mem_cons.mpr ⟨jm_ok143, fun _ h => absurd h List.not_mem_nil⟩⟩⟩⟩⟩⟩⟩⟩⟩⟩⟩⟩⟩⟩⟩⟩
theorem jm_okr9 : ∀ M ∈ [jm_M144, jm_M145, jm_M146, jm_M147, jm_M148, jm_M149, jm_M150, jm_M151, jm_M152, jm_M153, jm_M154, jm_M155, jm_M156, jm_M157, jm_M158, jm_M159], jm_ok jm_YN M := List.forall_mem_cons.mpr ⟨jm_ok144, List.forall_mem_cons.mpr ⟨jm_ok145, List.forall_mem_cons.mpr ⟨jm_ok146, List.forall_mem_cons.mpr ⟨jm_ok147, List.forall_mem_cons.mpr ⟨jm_ok148, List.forall_mem_cons.mpr ⟨jm_ok149, List.forall_mem_cons.mpr ⟨jm_ok150, List.forall_mem_cons.mpr ⟨jm_ok151, List.forall_mem_cons.mpr ⟨jm_ok152, List.forall_mem_cons.mpr ⟨jm_ok153, List.forall_mem_cons.mpr ⟨jm_ok154, List.forall_mem_cons.mpr ⟨jm_ok155, List.forall_mem_cons.mpr ⟨jm_ok156, List.forall_mem_cons.mpr ⟨jm_ok157, List.forall_mem_cons.mpr ⟨jm_ok158, List.forall_mem_cons.mpr ⟨jm_ok159, fun _ h => absurd h List.not_mem_nil⟩⟩⟩⟩⟩⟩⟩⟩⟩⟩⟩⟩⟩⟩⟩⟩
theorem jm_okr10 : ∀ M ∈ [jm_M160, jm_M161, jm_M162, jm_M163, jm_M164, jm_M165, jm_M166, jm_M167, jm_M168, jm_M169, jm_M170, jm_M171, jm_M172, jm_M173, jm_M174, jm_M175], jm_ok jm_YN M := List.forall_mem_cons.mpr ⟨jm_ok160, List.forall_mem_cons.mpr ⟨jm_ok161, List.forall_mem_cons.mpr ⟨jm_ok162, List.forall_mem_cons.mpr ⟨jm_ok163, List.forall_mem_cons.mpr ⟨jm_ok164, List.forall_mem_cons.mpr ⟨jm_ok165, List.forall_mem_cons.mpr ⟨jm_ok166, List.forall_mem_cons.mpr ⟨jm_ok167, List.forall_mem_cons.mpr ⟨jm_ok168, List.forall_mem_cons.mpr ⟨jm_ok169, List.forall_mem_cons.mpr ⟨jm_ok170, List.forall_mem_cons.mpr ⟨jm_ok171, List.forall_mem_cons.mpr ⟨jm_ok172, List.forall_mem_cons.mpr ⟨jm_ok173, List.forall_mem_cons.mpr ⟨jm_ok174, List.forall_mem_cons.mpr ⟨jm_ok175, fun _ h => absurd h List.not_mem_nil⟩⟩⟩⟩⟩⟩⟩⟩⟩⟩⟩⟩⟩⟩⟩⟩
theorem jm_okr11 : ∀ M ∈ [jm_M176, jm_M177, jm_M178, jm_M179, jm_M180, jm_M181, jm_M182, jm_M183, jm_M184, jm_M185, jm_M186, jm_M187, jm_M188, jm_M189, jm_M190, jm_M191], jm_ok jm_YN M := List.forall_mem_cons.mpr ⟨jm_ok176, List.forall_mem_cons.mpr ⟨jm_ok177, List.forall_mem_cons.mpr ⟨jm_ok178, List.forall_mem_cons.mpr ⟨jm_ok179, List.forall_mem_cons.mpr ⟨jm_ok180, List.forall_mem_cons.mpr ⟨jm_ok181, List.forall_mem_cons.mpr ⟨jm_ok182, List.forall_mem_cons.mpr ⟨jm_ok183, List.forall_mem_cons.mpr ⟨jm_ok184, List.forall_mem_cons.mpr ⟨jm_ok185, List.forall_mem_cons.mpr ⟨jm_ok186, List.forall_mem_cons.mpr ⟨jm_ok187, List.forall_mem_cons.mpr ⟨jm_ok188, List.forall_mem_cons.mpr ⟨jm_ok189, List.forall_mem_cons.mpr ⟨jm_ok190, List.forall_mem_cons.mpr ⟨jm_ok191, fun _ h => absurd h List.not_mem_nil⟩⟩⟩⟩⟩⟩⟩⟩⟩⟩⟩⟩⟩⟩⟩⟩
theorem jm_okr12 : ∀ M ∈ [jm_M192, jm_M193, jm_M194, jm_M195, jm_M196, jm_M197, jm_M198, jm_M199, jm_M200, jm_M201, jm_M202, jm_M203, jm_M204, jm_M205, jm_M206, jm_M207], jm_ok jm_YN M := List.forall_mem_cons.mpr ⟨jm_ok192, List.forall_mem_cons.mpr ⟨jm_ok193, List.forall_mem_cons.mpr ⟨jm_ok194, List.forall_mem_cons.mpr ⟨jm_ok195, List.forall_mem_cons.mpr ⟨jm_ok196, List.forall_mem_cons.mpr ⟨jm_ok197, List.forall_mem_cons.mpr ⟨jm_ok198, List.forall_mem_cons.mpr ⟨jm_ok199, List.forall_mem_cons.mpr ⟨jm_ok200, List.forall_mem_cons.mpr ⟨jm_ok201, List.forall_mem_cons.mpr ⟨jm_ok202, List.forall_mem_cons.mpr ⟨jm_ok203, List.forall_mem_cons.mpr ⟨jm_ok204, List.forall_mem_cons.mpr ⟨jm_ok205, List.forall_mem_cons.mpr ⟨jm_ok206, List.forall_mem_cons.mpr ⟨jm_ok207, fun _ h => absurd h List.not_mem_nil⟩⟩⟩⟩⟩⟩⟩⟩⟩⟩⟩⟩⟩⟩⟩⟩
theorem jm_okr13 : ∀ M ∈ [jm_M208, jm_M209, jm_M210, jm_M211, jm_M212, jm_M213, jm_M214, jm_M215, jm_M216, jm_M217, jm_M218, jm_M219, jm_M220, jm_M221, jm_M222, jm_M223], jm_ok jm_YN M := List.forall_mem_cons.mpr ⟨jm_ok208, List.forall_mem_cons.mpr ⟨jm_ok209, List.forall_mem_cons.mpr ⟨jm_ok210, List.forall_mem_cons.mpr ⟨jm_ok211, List.forall_mem_cons.mpr ⟨jm_ok212, List.forall_mem_cons.mpr ⟨jm_ok213, List.forall_mem_cons.mpr ⟨jm_ok214, List.forall_mem_cons.mpr ⟨jm_ok215, List.forall_mem_cons.mpr ⟨jm_ok216, List.forall_mem_cons.mpr ⟨jm_ok217, List.forall_mem_cons.mpr ⟨jm_ok218, List.forall_mem_cons.mpr ⟨jm_ok219, List.forall_mem_cons.mpr ⟨jm_ok220, List.forall_mem_cons.mpr ⟨jm_ok221, List.forall_mem_cons.mpr ⟨jm_ok222, List.forall_mem_cons.mpr ⟨jm_ok223, fun _ h => absurd h List.not_mem_nil⟩⟩⟩⟩⟩⟩⟩⟩⟩⟩⟩⟩⟩⟩⟩⟩
theorem jm_okr14 : ∀ M ∈ [jm_M224, jm_M225, jm_M226, jm_M227, jm_M228, jm_M229, jm_M230, jm_M231, jm_M232, jm_M233, jm_M234, jm_M235, jm_M236, jm_M237, jm_M238, jm_M239], jm_ok jm_YN M := List.forall_mem_cons.mpr ⟨jm_ok224, List.forall_mem_cons.mpr ⟨jm_ok225, List.forall_mem_cons.mpr ⟨jm_ok226, List.forall_mem_cons.mpr ⟨jm_ok227, List.forall_mem_cons.mpr ⟨jm_ok228, List.forall_mem_cons.mpr ⟨jm_ok229, List.forall_mem_cons.mpr ⟨jm_ok230, List.forall_mem_cons.mpr ⟨jm_ok231, List.forall_mem_cons.mpr ⟨jm_ok232, List.forall_mem_cons.mpr ⟨jm_ok233, List.forall_mem_cons.mpr ⟨jm_ok234, List.forall_mem_cons.mpr ⟨jm_ok235, List.forall_mem_cons.mpr ⟨jm_ok236, List.forall_mem_cons.mpr ⟨jm_ok237, List.forall_mem_cons.mpr ⟨jm_ok238, List.forall_mem_cons.mpr ⟨jm_ok239, fun _ h => absurd h List.not_mem_nil⟩⟩⟩⟩⟩⟩⟩⟩⟩⟩⟩⟩⟩⟩⟩⟩
theorem jm_okr15 : ∀ M ∈ [jm_M240, jm_M241, jm_M242, jm_M243, jm_M244, jm_M245, jm_M246, jm_M247, jm_M248, jm_M249, jm_M250, jm_M251, jm_M252, jm_M253, jm_M254, jm_M255], jm_ok jm_YN M := List.forall_mem_cons.mpr ⟨jm_ok240, List.forall_mem_cons.mpr ⟨jm_ok241, List.forall_mem_cons.mpr ⟨jm_ok242, List.forall_mem_cons.mpr ⟨jm_ok243, List.forall_mem_cons.mpr ⟨jm_ok244, List.forall_mem_cons.mpr ⟨jm_ok245, List.forall_mem_cons.mpr ⟨jm_ok246, List.forall_mem_cons.mpr ⟨jm_ok247, List.forall_mem_cons.mpr ⟨jm_ok248, List.forall_mem_cons.mpr ⟨jm_ok249, List.forall_mem_cons.mpr ⟨jm_ok250, List.forall_mem_cons.mpr ⟨jm_ok251, List.forall_mem_cons.mpr ⟨jm_ok252, List.forall_mem_cons.mpr ⟨jm_ok253, List.forall_mem_cons.mpr ⟨jm_ok254, List.forall_mem_cons.mpr ⟨jm_ok255, fun _ h => absurd h List.not_mem_nil⟩⟩⟩⟩⟩⟩⟩⟩⟩⟩⟩⟩⟩⟩⟩⟩
theorem jm_TBok0 : ∀ M ∈ [jm_M0, jm_M1, jm_M2, jm_M3, jm_M4, jm_M5, jm_M6, jm_M7, jm_M8, jm_M9, jm_M10, jm_M11, jm_M12, jm_M13, jm_M14, jm_M15] ++ ([jm_M16, jm_M17, jm_M18, jm_M19, jm_M20, jm_M21, jm_M22, jm_M23, jm_M24, jm_M25, jm_M26, jm_M27, jm_M28, jm_M29, jm_M30, jm_M31] ++ ([jm_M32, jm_M33, jm_M34, jm_M35, jm_M36, jm_M37, jm_M38, jm_M39, jm_M40, jm_M41, jm_M42, jm_M43, jm_M44, jm_M45, jm_M46, jm_M47] ++ ([jm_M48, jm_M49, jm_M50, jm_M51, jm_M52, jm_M53, jm_M54, jm_M55, jm_M56, jm_M57, jm_M58, jm_M59, jm_M60, jm_M61, jm_M62, jm_M63] ++ ([jm_M64, jm_M65, jm_M66, jm_M67, jm_M68, jm_M69, jm_M70, jm_M71, jm_M72, jm_M73, jm_M74, jm_M75, jm_M76, jm_M77, jm_M78, jm_M79] ++ ([jm_M80, jm_M81, jm_M82, jm_M83, jm_M84, jm_M85, jm_M86, jm_M87, jm_M88, jm_M89, jm_M90, jm_M91, jm_M92, jm_M93, jm_M94, jm_M95] ++ ([jm_M96, jm_M97, jm_M98, jm_M99, jm_M100, jm_M101, jm_M102, jm_M103, jm_M104, jm_M105, jm_M106, jm_M107, jm_M108, jm_M109, jm_M110, jm_M111] ++ ([jm_M112, jm_M113, jm_M114, jm_M115, jm_M116, jm_M117, jm_M118, jm_M119, jm_M120, jm_M121, jm_M122, jm_M123, jm_M124, jm_M125, jm_M126, jm_M127] ++ ([jm_M128, jm_M129, jm_M130, jm_M131, jm_M132, jm_M133, jm_M134, jm_M135, jm_M136, jm_M137, jm_M138, jm_M139, jm_M140, jm_M141, jm_M142, jm_M143] ++ ([jm_M144, jm_M145, jm_M146, jm_M147, jm_M148, jm_M149, jm_M150, jm_M151, jm_M152, jm_M153, jm_M154, jm_M155, jm_M156, jm_M157, jm_M158, jm_M159] ++ ([jm_M160, jm_M161, jm_M162, jm_M163, jm_M164, jm_M165, jm_M166, jm_M167, jm_M168, jm_M169, jm_M170, jm_M171, jm_M172, jm_M173, jm_M174, jm_M175] ++ ([jm_M176, jm_M177, jm_M178, jm_M179, jm_M180, jm_M181, jm_M182, jm_M183, jm_M184, jm_M185, jm_M186, jm_M187, jm_M188, jm_M189, jm_M190, jm_M191] ++ ([jm_M192, jm_M193, jm_M194, jm_M195, jm_M196, jm_M197, jm_M198, jm_M199, jm_M200, jm_M201, jm_M202, jm_M203, jm_M204, jm_M205, jm_M206, jm_M207] ++ ([jm_M208, jm_M209, jm_M210, jm_M211, jm_M212, jm_M213, jm_M214, jm_M215, jm_M216, jm_M217, jm_M218, jm_M219, jm_M220, jm_M221, jm_M222, jm_M223] ++ ([jm_M224, jm_M225, jm_M226, jm_M227, jm_M228, jm_M229, jm_M230, jm_M231, jm_M232, jm_M233, jm_M234, jm_M235, jm_M236, jm_M237, jm_M238, jm_M239] ++ ([jm_M240, jm_M241, jm_M242, jm_M243, jm_M244, jm_M245, jm_M246, jm_M247, jm_M248, jm_M249, jm_M250, jm_M251, jm_M252, jm_M253, jm_M254, jm_M255]))))))))))))))), jm_ok jm_YN M := List.forall_mem_append.mpr ⟨jm_okr0, List.forall_mem_append.mpr ⟨jm_okr1, List.forall_mem_append.mpr ⟨jm_okr2, List.forall_mem_append.mpr ⟨jm_okr3, List.forall_mem_append.mpr ⟨jm_okr4, List.forall_mem_append.mpr ⟨jm_okr5, List.forall_mem_append.mpr ⟨jm_okr6, List.forall_mem_append.mpr ⟨jm_okr7, List.forall_mem_append.mpr ⟨jm_okr8, List.forall_mem_append.mpr ⟨jm_okr9, List.forall_mem_append.mpr ⟨jm_okr10, List.forall_mem_append.mpr ⟨jm_okr11, List.forall_mem_append.mpr ⟨jm_okr12, List.forall_mem_append.mpr ⟨jm_okr13, List.forall_mem_append.mpr ⟨jm_okr14, jm_okr15⟩⟩⟩⟩⟩⟩⟩⟩⟩⟩⟩⟩⟩⟩⟩
set_option maxRecDepth 100000 in
theorem jm_TBok (k : Nat) (M : jm_M) (h : jm_TB[k]? = some M) : jm_ok jm_YN M := jm_TBok0 M (List.mem_of_getElem? h)
end
section
/-! ===== known cells as cells with symbols; numbers for the equations of a run ===== -/
def sy_lift (c : jm_c) : sy_c := match c with
  | .inl (k, n, l) => .inl (k, n, .inl l)
  | .inr (ci, fs) => .inr (ci, fs.map .inl)
theorem sy_lift_ok (F : Nat → sy_d) (c : jm_c) : sy_dc F (sy_lift c) = c := by
  unfold sy_lift
  split
  · rfl
  · simp only [sy_dc, List.map_map]
    congr 2
    exact List.map_id'' (fun v => rfl) _
theorem sy_lifts (F : Nat → sy_d) (l : List jm_c) : (l.map sy_lift).map (sy_dc F) = l := by
  rw [List.map_map]
  exact List.map_id'' (fun c => sy_lift_ok F c) l
def sy_vw (b : Nat) (x : sy_v) : Bool := match x with
  | .inl _ => true
  | .inr (.inl k) => Nat.blt k b
  | .inr (.inr k) => Nat.blt k b
def sy_aw (b : Nat) (a : sy_a) : Bool := match a with
  | .inl _ => true
  | .inr (.inl k) => Nat.blt k b
  | .inr (.inr k) => Nat.blt k b
def sy_wf : Nat → List sy_e → Bool
  | _, [] => true
  | b, e :: r => e.2.1.all (sy_vw b) && e.2.2.all (sy_aw b) && sy_wf (b + 1) r
theorem sy_vw_ok {b : Nat} {x : sy_v} {F F' : Nat → sy_d} (h : sy_vw b x = true) (hF : ∀ k, k < b → F k = F' k) : sy_dv F x = sy_dv F' x := by
  unfold sy_vw at h
  split at h
  · rfl
  · simp only [sy_dv, sy_i, hF _ (Nat.le_of_ble_eq_true h)]
  · simp only [sy_dv, sy_l, hF _ (Nat.le_of_ble_eq_true h)]
theorem sy_aw_ok {b : Nat} {a : sy_a} {F F' : Nat → sy_d} (h : sy_aw b a = true) (hF : ∀ k, k < b → F k = F' k) : sy_da F a = sy_da F' a := by
  unfold sy_aw at h
  split at h
  · rfl
  · simp only [sy_da, sy_ai, hF _ (Nat.le_of_ble_eq_true h)]
  · simp only [sy_da, sy_al, hF _ (Nat.le_of_ble_eq_true h)]
theorem sy_sem_congr {b : Nat} {e : sy_e} {F F' : Nat → sy_d} (h1 : e.2.1.all (sy_vw b) = true) (h2 : e.2.2.all (sy_aw b) = true) (hF : ∀ k, k < b → F k = F' k) : sy_sem F e = sy_sem F' e := by
  obtain ⟨op, vs, as⟩ := e
  have hv : ∀ x ∈ vs, sy_dv F x = sy_dv F' x := fun x hx => sy_vw_ok (List.all_eq_true.mp h1 x hx) hF
  have ha : ∀ a ∈ as, sy_da F a = sy_da F' a := fun a ha => sy_aw_ok (List.all_eq_true.mp h2 a ha) hF
  unfold sy_sem
  dsimp only
  split
  · rw [hv _ List.mem_cons_self, hv _ (List.mem_cons_of_mem _ List.mem_cons_self)]
  · rw [hv _ List.mem_cons_self]
  · rw [hv _ List.mem_cons_self, ha _ List.mem_cons_self]
  · rw [hv _ List.mem_cons_self, hv _ (List.mem_cons_of_mem _ List.mem_cons_self), ha _ List.mem_cons_self]
  · rw [hv _ List.mem_cons_self, hv _ (List.mem_cons_of_mem _ List.mem_cons_self), hv _ (List.mem_cons_of_mem _ (List.mem_cons_of_mem _ List.mem_cons_self)), ha _ List.mem_cons_self, ha _ (List.mem_cons_of_mem _ List.mem_cons_self)]
  · rfl
theorem sy_ex0 : ∀ (T : List sy_e) (b : Nat) (F0 : Nat → sy_d), sy_wf b T = true → ∃ F : Nat → sy_d, (∀ k, k < b → F k = F0 k) ∧ ∀ (k : Nat) (e : sy_e), T[k]? = some e → F (b + k) = sy_sem F e
  | [], b, F0, _ => ⟨F0, fun _ _ => rfl, fun k e h => by simp at h⟩
  | e :: r, b, F0, h => by
    simp only [sy_wf, Bool.and_eq_true] at h
    obtain ⟨⟨h1, h2⟩, h3⟩ := h
    obtain ⟨F, hF, hs⟩ := sy_ex0 r (b + 1) (fun k => if k = b then sy_sem F0 e else F0 k) h3
    have hF0 : ∀ k, k < b → F k = F0 k := fun k hk => by
      rw [hF k (by omega)]
      exact if_neg (by omega)
    refine ⟨F, hF0, fun k e' hk => ?_⟩
    cases k with
    | zero =>
      simp at hk
      subst hk
      rw [Nat.add_zero, hF b (by omega)]
      show (if b = b then sy_sem F0 e else F0 b) = _
      rw [if_pos rfl]
      exact (sy_sem_congr h1 h2 hF0).symm
    | succ k =>
      have := hs k e' (by simpa using hk)
      rwa [show b + 1 + k = b + (k + 1) by omega] at this
theorem sy_ex {T : List sy_e} {nv : Nat} (F0 : Nat → sy_d) (h : sy_wf nv T = true) : ∃ F : Nat → sy_d, (∀ k, k < nv → F k = F0 k) ∧ sy_sat F nv T := sy_ex0 T nv F0 h
def sy_pw (b : Nat) (p : sy_p) : Bool := sy_vw b p.2.1 && sy_vw b p.2.2
theorem sy_pw_ok {b : Nat} {p : sy_p} {F F' : Nat → sy_d} (h : sy_pw b p = true) (hF : ∀ k, k < b → F k = F' k) (hp : sy_ps F' p) : sy_ps F p := by
  unfold sy_pw at h
  rw [Bool.and_eq_true] at h
  unfold sy_ps at hp ⊢
  rw [sy_vw_ok h.1 hF, sy_vw_ok h.2 hF]
  exact hp
theorem sy_vs_ok {b : Nat} {As : List sy_v} {F F' : Nat → sy_d} (h : As.all (sy_vw b) = true) (hF : ∀ k, k < b → F k = F' k) : As.map (sy_dv F) = As.map (sy_dv F') := List.map_congr_left (fun x hx => sy_vw_ok (List.all_eq_true.mp h x hx) hF)
/-- two things with symbols are the same -/
def sy_bv (a b : sy_v) : Bool := match a, b with
  | .inl x, .inl y => decide (x = y)
  | .inr (.inl i), .inr (.inl j) => decide (i = j)
  | .inr (.inr i), .inr (.inr j) => decide (i = j)
  | _, _ => false
theorem sy_bv_ok {a b : sy_v} (h : sy_bv a b = true) : a = b := by
  unfold sy_bv at h
  split at h
  · rw [of_decide_eq_true h]
  · rw [of_decide_eq_true h]
  · rw [of_decide_eq_true h]
  · cases h
def sy_ba (a b : sy_a) : Bool := match a, b with
  | .inl (.inl x), .inl (.inl y) => decide (x = y)
  | .inl (.inr x), .inl (.inr y) => decide (x = y)
  | .inr (.inl i), .inr (.inl j) => decide (i = j)
  | .inr (.inr i), .inr (.inr j) => decide (i = j)
  | _, _ => false
theorem sy_ba_ok {a b : sy_a} (h : sy_ba a b = true) : a = b := by
  unfold sy_ba at h
  split at h
  · rw [of_decide_eq_true h]
  · rw [of_decide_eq_true h]
  · rw [of_decide_eq_true h]
  · rw [of_decide_eq_true h]
  · cases h
def sy_bl {α : Type} (f : α → α → Bool) : List α → List α → Bool
  | [], [] => true
  | a :: r, b :: t => f a b && sy_bl f r t
  | _, _ => false
theorem sy_bl_ok {α : Type} {f : α → α → Bool} (hf : ∀ {a b : α}, f a b = true → a = b) : ∀ {l m : List α}, sy_bl f l m = true → l = m
  | [], [], _ => rfl
  | a :: r, b :: t, h => by
    rw [sy_bl, Bool.and_eq_true] at h
    rw [hf h.1, sy_bl_ok hf h.2]
  | [], b :: t, h => by cases h
  | a :: r, [], h => by cases h
def sy_be (a b : sy_e) : Bool := decide (a.1 = b.1) && sy_bl sy_bv a.2.1 b.2.1 && sy_bl sy_ba a.2.2 b.2.2
theorem sy_be_ok {a b : sy_e} (h : sy_be a b = true) : a = b := by
  obtain ⟨a1, a2, a3⟩ := a
  obtain ⟨b1, b2, b3⟩ := b
  simp only [sy_be, Bool.and_eq_true] at h
  obtain ⟨⟨h1, h2⟩, h3⟩ := h
  rw [of_decide_eq_true h1, sy_bl_ok sy_bv_ok h2, sy_bl_ok sy_ba_ok h3]
def sy_bp (a b : sy_p) : Bool := decide (a.1 = b.1) && sy_bv a.2.1 b.2.1 && sy_bv a.2.2 b.2.2
theorem sy_bp_ok {a b : sy_p} (h : sy_bp a b = true) : a = b := by
  obtain ⟨a1, a2, a3⟩ := a
  obtain ⟨b1, b2, b3⟩ := b
  simp only [sy_bp, Bool.and_eq_true] at h
  obtain ⟨⟨h1, h2⟩, h3⟩ := h
  rw [of_decide_eq_true h1, sy_bv_ok h2, sy_bv_ok h3]
/-- a run ends so: the answer; whether the reference's cells stayed out of it; equations, assumptions -/
def sy_is (o : Option (Option sy_v × sy_h × sy_x)) (v : sy_v) (two : Bool) (T : List sy_e) (P : List sy_p) : Bool := match o with
  | some (some w, G, T1, P1, _) => sy_bv w v && (match G.2 with
    | .inr _ => true
    | .inl _ => !two) && sy_bl sy_be T1 T && sy_bl sy_bp P1 P
  | _ => false
theorem sy_is_ok {o : Option (Option sy_v × sy_h × sy_x)} {v : sy_v} {two : Bool} {T : List sy_e} {P : List sy_p} (h : sy_is o v two T P = true) : ∃ (G : sy_h) (O : List Bool), o = some (some v, G, T, P, O) ∧ (two = true → ∃ u, G.2 = .inr u) := by
  unfold sy_is at h
  split at h
  · rename_i w G T1 P1 O1
    simp only [Bool.and_eq_true] at h
    obtain ⟨⟨⟨h1, h2⟩, h3⟩, h4⟩ := h
    rw [sy_bv_ok h1, sy_bl_ok sy_be_ok h3, sy_bl_ok sy_bp_ok h4]
    refine ⟨G, O1, rfl, fun ht => ?_⟩
    split at h2
    · exact ⟨_, by assumption⟩
    · rw [ht] at h2; cases h2
  · cases h
def sy_int (l : List Int32) : Nat → sy_d := fun k => .inl (.int (l.getD k 0))
/-- the class on cells H, from a run -/
theorem sy_cX {H : List jm_c} {nv n : Nat} {kX : jm_M} {As : List sy_v} {O : List Bool} {T : List sy_e} {P : List sy_p} {r : Int32} {Ls : Nat} {xs : Nat → Int32} (F0 : Nat → sy_d) (X2 : List jm_c) (hM : jm_ok jm_YN kX) (hA : (sy_e1 (.inl (.ref 8) :: As)).length ≤ jm_mx kX)
    (h : sy_is (sy_ev jm_TB nv n 19 kX 0 (sy_ent (jm_mx kX) (.inl (.ref 8) :: As)) [] (.inl (H.map sy_lift), .inr ()) ([], [], O)) (.inl (.int r)) true T P = true) (hw : (sy_wf nv T && As.all (sy_vw nv) && P.all (sy_pw nv)) = true) (hp : ∀ p ∈ P, sy_ps F0 p) :
    jm_T Ls xs 20 kX (.ref 8 :: As.map (sy_dv F0)) (H, X2) 0 0 (fun w G => w = some (.int r) ∧ G.2 = X2) := by
  rw [Bool.and_eq_true, Bool.and_eq_true] at hw
  obtain ⟨⟨hw1, hw2⟩, hw3⟩ := hw
  obtain ⟨F, hF, hs⟩ := sy_ex F0 hw1
  obtain ⟨G1, O1, h1, hb⟩ := sy_is_ok h
  have hT := sy_T (Ls := Ls) (xs := xs) jm_TBok jm_hYN hM hA h1 F [] X2 hs (fun p hp1 => sy_pw_ok (List.all_eq_true.mp hw3 p hp1) hF (hp p hp1))
  rw [List.map_cons, sy_vs_ok hw2 hF] at hT
  have hG : sy_dh F [] X2 (.inl (H.map sy_lift), .inr ()) = (H, X2) := by simp only [sy_dh, sy_dg, sy_lifts]
  rw [hG] at hT
  intro l D h0 ex ka
  have h3 := hT l D h0 ex ka
  have hpost : ∀ (a : Array Value) (st : State) (o : Outcome) (t : State), jm_Qc D h0 ex ka 0 (H, X2) (fun w G' => w = Option.map (sy_dv F) (some (.inl (.int r))) ∧ G' = sy_dh F [] X2 G1) a st o t → jm_Qc D h0 ex ka 0 (H, X2) (fun w G => w = some (.int r) ∧ G.2 = X2) a st o t := by
    rintro a st o t ⟨⟨w, G2, ⟨rfl, rfl⟩, hl, ho, hR⟩, hf⟩
    refine ⟨⟨_, _, ⟨rfl, ?_⟩, hl, ho, hR⟩, hf⟩
    obtain ⟨u, hu⟩ := hb rfl
    simp only [sy_dh, sy_dg, hu]
  exact fun p e ha hc hk s m args below hf happ hP hK => by
    obtain ⟨n, o, a1, a2, a3, a4, a5⟩ := h3 p e ha hc hk s m args below hf happ hP hK
    exact ⟨n, o, a1, a2, a3, hpost _ _ _ _ a4, a5⟩
/-- the reference on cells H, from a run -/
theorem sy_cM {H : List jm_c} {nv n : Nat} {kM : jm_M} {As : List sy_v} {O : List Bool} {T : List sy_e} {P : List sy_p} {r : Int32} {Ls : Nat} {xs : Nat → Int32} (F0 : Nat → sy_d) (hM : jm_ok jm_YN kM) (hA : (sy_e1 (.inl (.ref 1000) :: As)).length ≤ jm_mx kM)
    (h : sy_is (sy_ev jm_TB nv n 19 kM 0 (sy_ent (jm_mx kM) (.inl (.ref 1000) :: As)) [] (.inr (), .inl (H.map sy_lift)) ([], [], O)) (.inl (.int r)) false T P = true) (hw : (sy_wf nv T && As.all (sy_vw nv) && P.all (sy_pw nv)) = true) (hp : ∀ p ∈ P, sy_ps F0 p) :
    ∀ G1 : jm_h, G1.2 = H → jm_T Ls xs 20 kM (.ref 1000 :: As.map (sy_dv F0)) G1 0 0 (fun w _ => w = some (.int r) ∧ True) := by
  rintro ⟨X1, _⟩ rfl
  rw [Bool.and_eq_true, Bool.and_eq_true] at hw
  obtain ⟨⟨hw1, hw2⟩, hw3⟩ := hw
  obtain ⟨F, hF, hs⟩ := sy_ex F0 hw1
  obtain ⟨G1, O1, h1, hb⟩ := sy_is_ok h
  rename_i H
  have hT := sy_T (Ls := Ls) (xs := xs) jm_TBok jm_hYN hM hA h1 F X1 [] hs (fun p hp1 => sy_pw_ok (List.all_eq_true.mp hw3 p hp1) hF (hp p hp1))
  rw [List.map_cons, sy_vs_ok hw2 hF] at hT
  have hG : sy_dh F X1 [] (.inr (), .inl (H.map sy_lift)) = (X1, H) := by simp only [sy_dh, sy_dg, sy_lifts]
  rw [hG] at hT
  intro l D h0 ex ka
  have h3 := hT l D h0 ex ka
  exact fun p e ha hc hk s m args below hf happ hP hK => by
    obtain ⟨n, o, a1, a2, a3, ⟨⟨w, G2, ⟨rfl, rfl⟩, hl, ho, hR⟩, hfr⟩, a5⟩ := h3 p e ha hc hk s m args below hf happ hP hK
    exact ⟨n, o, a1, a2, a3, ⟨⟨_, _, ⟨rfl, trivial⟩, hl, ho, hR⟩, hfr⟩, a5⟩
end
section
/-! ===== a state with symbols stands for another: for loops ===== -/
abbrev sy_u : Type := List (sy_v ⊕ sy_a)
/-- what the symbols of a pattern stand for -/
def sy_cm (F : Nat → sy_d) (u : sy_u) : Nat → sy_d := fun k => match u[k]? with
  | some (.inl v) => .inl (sy_dv F v)
  | some (.inr a) => .inr (sy_da F a)
  | none => .inl .null
def sy_mv (u : sy_u) (x y : sy_v) : Bool := match x with
  | .inl v => sy_bv (.inl v) y
  | .inr (.inl k) => (match u[k]? with
    | some (.inl z) => sy_bv z y && decide (sy_ty y = 0)
    | _ => false)
  | .inr (.inr k) => (match u[k]? with
    | some (.inl z) => sy_bv z y && decide (sy_ty y = 1)
    | _ => false)
theorem sy_mv_ok {F : Nat → sy_d} {u : sy_u} {x y : sy_v} (h : sy_mv u x y = true) : sy_dv (sy_cm F u) x = sy_dv F y := by
  unfold sy_mv at h
  split at h
  · rw [← sy_bv_ok h]; rfl
  · rename_i k
    split at h
    · rename_i z hz
      rw [Bool.and_eq_true] at h
      obtain ⟨a, ha⟩ := sy_ty0 (F := F) (of_decide_eq_true h.2)
      have e := sy_bv_ok h.1
      subst e
      have hk : sy_cm F u k = .inl (sy_dv F z) := by simp only [sy_cm, hz]
      rw [ha] at hk ⊢
      show Value.int (sy_i (sy_cm F u) k) = _
      simp only [sy_i, hk]
    · cases h
  · rename_i k
    split at h
    · rename_i z hz
      rw [Bool.and_eq_true] at h
      obtain ⟨a, ha⟩ := sy_ty1 (F := F) (of_decide_eq_true h.2)
      have e := sy_bv_ok h.1
      subst e
      have hk : sy_cm F u k = .inl (sy_dv F z) := by simp only [sy_cm, hz]
      rw [ha] at hk ⊢
      show Value.long (sy_l (sy_cm F u) k) = _
      simp only [sy_l, hk]
    · cases h
def sy_ma (u : sy_u) (x y : sy_a) : Bool := match x with
  | .inl v => sy_ba (.inl v) y
  | .inr (.inl k) => (match u[k]? with
    | some (.inr z) => sy_ba z y && decide (sy_ak y = 0)
    | _ => false)
  | .inr (.inr k) => (match u[k]? with
    | some (.inr z) => sy_ba z y && decide (sy_ak y = 1)
    | _ => false)
theorem sy_ma_ok {F : Nat → sy_d} {u : sy_u} {x y : sy_a} (h : sy_ma u x y = true) : sy_da (sy_cm F u) x = sy_da F y := by
  unfold sy_ma at h
  split at h
  · rw [← sy_ba_ok h]; rfl
  · rename_i k
    split at h
    · rename_i z hz
      rw [Bool.and_eq_true] at h
      obtain ⟨a, ha⟩ := sy_ak0 (F := F) (of_decide_eq_true h.2)
      have e := sy_ba_ok h.1
      subst e
      have hk : sy_cm F u k = .inr (sy_da F z) := by simp only [sy_cm, hz]
      rw [ha] at hk ⊢
      show Sum.inl (sy_ai (sy_cm F u) k) = _
      simp only [sy_ai, hk]
    · cases h
  · rename_i k
    split at h
    · rename_i z hz
      rw [Bool.and_eq_true] at h
      obtain ⟨a, ha⟩ := sy_ak1 (F := F) (of_decide_eq_true h.2)
      have e := sy_ba_ok h.1
      subst e
      have hk : sy_cm F u k = .inr (sy_da F z) := by simp only [sy_cm, hz]
      rw [ha] at hk ⊢
      show Sum.inr (sy_al (sy_cm F u) k) = _
      simp only [sy_al, hk]
    · cases h
theorem sy_bl_map {α β : Type} {f : α → α → Bool} {g g' : α → β} (hf : ∀ (a b : α), f a b = true → g a = g' b) : ∀ {l m : List α}, sy_bl f l m = true → l.map g = m.map g'
  | [], [], _ => rfl
  | a :: r, b :: t, h => by
    rw [sy_bl, Bool.and_eq_true] at h
    rw [List.map_cons, List.map_cons, hf _ _ h.1, sy_bl_map hf h.2]
  | [], b :: t, h => by cases h
  | a :: r, [], h => by cases h
def sy_mc (u : sy_u) (x y : sy_c) : Bool := match x, y with
  | .inl (k, n, a), .inl (k', n', a') => decide (k = k') && decide (n = n') && sy_ma u a a'
  | .inr (ci, fs), .inr (ci', fs') => decide (ci = ci') && sy_bl (sy_mv u) fs fs'
  | _, _ => false
theorem sy_mc_ok {F : Nat → sy_d} {u : sy_u} {x y : sy_c} (h : sy_mc u x y = true) : sy_dc (sy_cm F u) x = sy_dc F y := by
  unfold sy_mc at h
  split at h
  · simp only [Bool.and_eq_true] at h
    obtain ⟨⟨h1, h2⟩, h3⟩ := h
    simp only [sy_dc, of_decide_eq_true h1, of_decide_eq_true h2, sy_ma_ok (F := F) h3]
  · simp only [Bool.and_eq_true] at h
    simp only [sy_dc, of_decide_eq_true h.1, sy_bl_map (g := sy_dv (sy_cm F u)) (g' := sy_dv F) (fun _ _ h => sy_mv_ok h) h.2]
  · cases h
def sy_mg (u : sy_u) (x y : sy_g) : Bool := match x, y with
  | .inl l, .inl m => sy_bl (sy_mc u) l m
  | .inr _, .inr _ => true
  | _, _ => false
theorem sy_mg_ok {F : Nat → sy_d} {X : List jm_c} {u : sy_u} {x y : sy_g} (h : sy_mg u x y = true) : sy_dg (sy_cm F u) X x = sy_dg F X y := by
  unfold sy_mg at h
  split at h
  · exact sy_bl_map (fun _ _ h => sy_mc_ok h) h
  · rfl
  · cases h
def sy_mo (u : sy_u) (x y : Option sy_v) : Bool := match x, y with
  | some a, some b => sy_mv u a b
  | none, _ => true
  | _, _ => false
def sy_mh (u : sy_u) (x y : sy_h) : Bool := sy_mg u x.1 y.1 && sy_mg u x.2 y.2
theorem sy_mh_ok {F : Nat → sy_d} {X1 X2 : List jm_c} {u : sy_u} {x y : sy_h} (h : sy_mh u x y = true) : sy_dh (sy_cm F u) X1 X2 x = sy_dh F X1 X2 y := by
  unfold sy_mh at h
  rw [Bool.and_eq_true] at h
  simp only [sy_dh, sy_mg_ok (F := F) h.1, sy_mg_ok (F := F) h.2]
def sy_mL (u : sy_u) (x y : List (Option sy_v)) : Bool := sy_bl (sy_mo u) x y
def sy_mos (u : sy_u) (x y : Option sy_v) : Bool := match x, y with
  | some a, some b => sy_mv u a b
  | none, none => true
  | _, _ => false
theorem sy_mos_ok {F : Nat → sy_d} {u : sy_u} {x y : Option sy_v} (h : sy_mos u x y = true) : x.map (sy_dv (sy_cm F u)) = y.map (sy_dv F) := by
  unfold sy_mos at h
  split at h
  · rw [Option.map_some, Option.map_some, sy_mv_ok h]
  · rfl
  · cases h
theorem sy_mo_ok {F : Nat → sy_d} {u : sy_u} : ∀ {L L1 : List (Option sy_v)}, sy_bl (sy_mo u) L L1 = true → ∀ (j : Nat) (v : Value), (sy_dL (sy_cm F u) L)[j]? = some (some v) → (sy_dL F L1)[j]? = some (some v)
  | [], [], _, j, v, h => by simp [sy_dL] at h
  | a :: r, b :: t, h0, j, v, h => by
    rw [sy_bl, Bool.and_eq_true] at h0
    cases j with
    | zero =>
      simp only [sy_dL, List.map_cons, List.getElem?_cons_zero, Option.some.injEq] at h ⊢
      have h1 := h0.1
      unfold sy_mo at h1
      split at h1
      · rename_i x y
        rw [Option.map_some] at h ⊢
        rw [← sy_mv_ok (F := F) h1]
        exact h
      · cases h
      · cases h1
    | succ j =>
      have := sy_mo_ok (F := F) h0.2 j v (by simpa [sy_dL] using h)
      simpa [sy_dL] using this
  | [], b :: t, h0, j, v, h => by cases h0
  | a :: r, [], h0, j, v, h => by cases h0
theorem jm_W_weak {p : Program} {l : Launch} {e : Env} {R : Room} {s : State} {m : MethodId} {args : Array Value} {below : List Frame} {meth : Method} {c : Code} {D : va_G} {h0 : Nat} {ex : Nat → Nat} {ka : Nat → ClassId} {M : jm_M} {n0 : Nat} {Q : State → Prop} {pc : Nat} {L L1 : List (Option Value)} {S : List Value} {G : jm_h} {cn sn : Nat} (h : ∀ (j : Nat) (v : Value), L[j]? = some (some v) → L1[j]? = some (some v)) (k : jm_W p l e R s m args below meth c D h0 ex ka M n0 Q (pc, L, S, G, cn, sn)) : jm_W p l e R s m args below meth c D h0 ex ka M n0 Q (pc, L1, S, G, cn, sn) := by
  intro hlen H locs ls hR hS hl
  refine k hlen H locs ls hR hS ⟨hl.1, hl.2.1, fun q hq => hl.2.2 q ?_⟩
  obtain ⟨j, v, h1, rfl⟩ := jm_lv_mem.mp hq
  exact jm_lv_mem.mpr ⟨j, v, h j v h1, rfl⟩
/-- a run from a state to a place stands so -/
def sy_at (o : Option ((Nat × List (Option sy_v) × List sy_v × sy_h) × sy_x)) (pc : Nat) (L : List (Option sy_v)) (S : List sy_v) (G : sy_h) (u : sy_u) (T : List sy_e) (P : List sy_p) : Bool := match o with
  | some ((pc1, L1, S1, G1), T1, P1, _) => decide (pc1 = pc) && sy_bl (sy_mo u) L L1 && sy_bl (sy_mv u) S S1 && sy_mh u G G1 && sy_bl sy_be T1 T && sy_bl sy_bp P1 P
  | none => false
theorem sy_at_ok {YN : List MethodName} {TB : List jm_M} {nv : Nat} {sp sm : List Nat} {n d : Nat} {M : jm_M} {f : Bool} {pc0 : Nat} {L0 : List (Option sy_v)} {S0 : List sy_v} {G0 : sy_h} {O : List Bool} {pc : Nat} {L : List (Option sy_v)} {S : List sy_v} {G : sy_h} {u : sy_u} {T : List sy_e} {P : List sy_p} {Ls : Nat} {xs : Nat → Int32}
    (hTB : ∀ (k : Nat) (M' : jm_M), TB[k]? = some M' → jm_ok YN M') (hYN : YN = TB.map jm_y) (htc : jm_tck YN M 0 (jm_tb M) = true) (h : sy_at (sy_go TB nv sp sm n d M f pc0 L0 S0 G0 ([], [], O)) pc L S G u T P = true) (F : Nat → sy_d) (X1 X2 : List jm_c) (hs : sy_sat F nv T) (hp : ∀ p ∈ P, sy_ps F p)
    {p : Program} {l : Launch} {e : Env} {R : Room} {s : State} {m : MethodId} {args : Array Value} {below : List Frame} {meth : Method} {c : Code} {D : va_G} {h0 : Nat} {ex : Nat → Nat} {ka : Nat → ClassId} {n0 : Nat} {Q : State → Prop} (C0 : jm_C p s m args meth c D h0 ex ka Ls xs M n0) (hfr : d + 1 ≤ R.frames) (hlo : 64 * (d + 1) ≤ R.locals)
    (k : jm_W p l e R s m args below meth c D h0 ex ka M n0 Q (pc, sy_dL (sy_cm F u) L, sy_dS (sy_cm F u) S, sy_dh (sy_cm F u) X1 X2 G, 0, 0)) :
    jm_W p l e R s m args below meth c D h0 ex ka M n0 Q (pc0, sy_dL F L0, sy_dS F S0, sy_dh F X1 X2 G0, 0, 0) := by
  unfold sy_at at h
  split at h
  · rename_i pc1 L1 S1 G1 T1 P1 O1 hgo
    simp only [Bool.and_eq_true] at h
    obtain ⟨⟨⟨⟨⟨h1, h2⟩, h3⟩, h4⟩, h5⟩, h6⟩ := h
    have e1 := of_decide_eq_true h1
    have e5 := sy_bl_ok sy_be_ok h5
    have e6 := sy_bl_ok sy_bp_ok h6
    subst e1
    subst e5
    subst e6
    obtain ⟨-, -, a3⟩ := sy_go_ok (Ls := Ls) (xs := xs) hTB hYN n d M f pc0 L0 S0 G0 _ pc1 L1 S1 G1 _ htc hgo
    refine a3 F X1 X2 [] (by rw [List.append_nil]; exact hs) hp C0 hfr hlo ?_
    refine jm_W_weak (sy_mo_ok (F := F) h2) ?_
    have eS : sy_dS (sy_cm F u) S = sy_dS F S1 := sy_bl_map (fun _ _ h => sy_mv_ok h) h3
    rw [← eS, ← sy_mh_ok (F := F) (X1 := X1) (X2 := X2) h4]
    exact k
  · cases h
/-- a run from a state to the method's end: what the cells stand for behind it -/
def sy_fin (o : Option (Option sy_v × sy_h × sy_x)) (v : Option sy_v) (G : sy_h) (u : sy_u) (T : List sy_e) (P : List sy_p) : Bool := match o with
  | some (w, G1, T1, P1, _) => sy_mos u v w && sy_mh u G G1 && sy_bl sy_be T1 T && sy_bl sy_bp P1 P
  | none => false
theorem sy_fin_ok {YN : List MethodName} {TB : List jm_M} {nv : Nat} {n d : Nat} {M : jm_M} {pc0 : Nat} {L0 : List (Option sy_v)} {S0 : List sy_v} {G0 : sy_h} {O : List Bool} {v : Option sy_v} {G : sy_h} {u : sy_u} {T : List sy_e} {P : List sy_p} {Ls : Nat} {xs : Nat → Int32}
    (hTB : ∀ (k : Nat) (M' : jm_M), TB[k]? = some M' → jm_ok YN M') (hYN : YN = TB.map jm_y) (htc : jm_tck YN M 0 (jm_tb M) = true) (h : sy_fin (sy_ev TB nv n d M pc0 L0 S0 G0 ([], [], O)) v G u T P = true) (F : Nat → sy_d) (X1 X2 : List jm_c) (hs : sy_sat F nv T) (hp : ∀ p ∈ P, sy_ps F p)
    {p : Program} {l : Launch} {e : Env} {s : State} {m : MethodId} {args : Array Value} {below : List Frame} {meth : Method} {c : Code} {D : va_G} {h0 : Nat} {ex : Nat → Nat} {ka : Nat → ClassId} {H0 : jm_h} {Post : Option Value → jm_h → Prop} (C0 : jm_C p s m args meth c D h0 ex ka Ls xs M (jm_len H0)) (hP : Post (v.map (sy_dv (sy_cm F u))) (sy_dh (sy_cm F u) X1 X2 G)) :
    jm_W p l e (jm_room (d + 1) 0 0) s m args below meth c D h0 ex ka M (jm_len H0) (MQ below (jm_Qc D h0 ex ka 0 H0 Post) args s 0 0 (fun q => h0 ≤ q)) (pc0, sy_dL F L0, sy_dS F S0, sy_dh F X1 X2 G0, 0, 0) := by
  unfold sy_fin at h
  split at h
  · rename_i w G1 T1 P1 O1 hev
    simp only [Bool.and_eq_true] at h
    obtain ⟨⟨⟨h1, h2⟩, h3⟩, h4⟩ := h
    have e3 := sy_bl_ok sy_be_ok h3
    have e4 := sy_bl_ok sy_bp_ok h4
    subst e3
    subst e4
    obtain ⟨-, -, a3⟩ := sy_ev_ok (Ls := Ls) (xs := xs) hTB hYN n d M pc0 L0 S0 G0 _ w G1 _ htc hev
    refine a3 F X1 X2 [] (by rw [List.append_nil]; exact hs) hp C0 ?_
    rw [← sy_mos_ok (F := F) h1, ← sy_mh_ok (F := F) (X1 := X1) (X2 := X2) h2]
    exact hP
  · cases h
end
section
/-! ===== runs from states whose symbols are given ===== -/
def sy_cw (b : Nat) (c : sy_c) : Bool := match c with
  | .inl (_, _, a) => sy_aw b a
  | .inr (_, fs) => fs.all (sy_vw b)
def sy_gw (b : Nat) (g : sy_g) : Bool := match g with
  | .inl l => l.all (sy_cw b)
  | .inr _ => true
def sy_ow (b : Nat) (o : Option sy_v) : Bool := match o with
  | some x => sy_vw b x
  | none => true
def sy_sw (b : Nat) (L : List (Option sy_v)) (S : List sy_v) (G : sy_h) : Bool := L.all (sy_ow b) && S.all (sy_vw b) && sy_gw b G.1 && sy_gw b G.2
theorem sy_cw_ok {b : Nat} {c : sy_c} {F F' : Nat → sy_d} (h : sy_cw b c = true) (hF : ∀ k, k < b → F k = F' k) : sy_dc F c = sy_dc F' c := by
  unfold sy_cw at h
  split at h
  · simp only [sy_dc, sy_aw_ok h hF]
  · simp only [sy_dc, sy_vs_ok h hF]
theorem sy_gw_ok {b : Nat} {g : sy_g} {X : List jm_c} {F F' : Nat → sy_d} (h : sy_gw b g = true) (hF : ∀ k, k < b → F k = F' k) : sy_dg F X g = sy_dg F' X g := by
  unfold sy_gw at h
  split at h
  · exact List.map_congr_left (fun c hc => sy_cw_ok (List.all_eq_true.mp h c hc) hF)
  · rfl
theorem sy_sw_ok {b : Nat} {L : List (Option sy_v)} {S : List sy_v} {G : sy_h} {X1 X2 : List jm_c} {F F' : Nat → sy_d} (h : sy_sw b L S G = true) (hF : ∀ k, k < b → F k = F' k) : sy_dL F L = sy_dL F' L ∧ sy_dS F S = sy_dS F' S ∧ sy_dh F X1 X2 G = sy_dh F' X1 X2 G := by
  simp only [sy_sw, Bool.and_eq_true] at h
  obtain ⟨⟨⟨h1, h2⟩, h3⟩, h4⟩ := h
  refine ⟨List.map_congr_left (fun o ho => ?_), sy_vs_ok h2 hF, ?_⟩
  · have h5 := List.all_eq_true.mp h1 o ho
    unfold sy_ow at h5
    split at h5
    · rw [Option.map_some, Option.map_some, sy_vw_ok h5 hF]
    · rfl
  · simp only [sy_dh, sy_gw_ok h3 hF, sy_gw_ok h4 hF]
theorem sy_at_ex {nv : Nat} {sp sm : List Nat} {n d : Nat} {M : jm_M} {f : Bool} {pc0 : Nat} {L0 : List (Option sy_v)} {S0 : List sy_v} {G0 : sy_h} {O : List Bool} {pc : Nat} {L : List (Option sy_v)} {S : List sy_v} {G : sy_h} {u : sy_u} {T : List sy_e} {P : List sy_p} {Ls : Nat} {xs : Nat → Int32}
    (hM : jm_ok jm_YN M) (h : sy_at (sy_go jm_TB nv sp sm n d M f pc0 L0 S0 G0 ([], [], O)) pc L S G u T P = true) (hw : (sy_wf nv T && sy_sw nv L0 S0 G0) = true) (F : Nat → sy_d) (X1 X2 : List jm_c) (hp : ∀ F' : Nat → sy_d, (∀ k, k < nv → F' k = F k) → sy_sat F' nv T → ∀ p ∈ P, sy_ps F' p)
    {p : Program} {l : Launch} {e : Env} {R : Room} {s : State} {m : MethodId} {args : Array Value} {below : List Frame} {meth : Method} {c : Code} {D : va_G} {h0 : Nat} {ex : Nat → Nat} {ka : Nat → ClassId} {n0 : Nat} {Q : State → Prop} (C0 : jm_C p s m args meth c D h0 ex ka Ls xs M n0) (hfr : d + 1 ≤ R.frames) (hlo : 64 * (d + 1) ≤ R.locals)
    (k : ∀ F' : Nat → sy_d, (∀ k, k < nv → F' k = F k) → sy_sat F' nv T → jm_W p l e R s m args below meth c D h0 ex ka M n0 Q (pc, sy_dL (sy_cm F' u) L, sy_dS (sy_cm F' u) S, sy_dh (sy_cm F' u) X1 X2 G, 0, 0)) :
    jm_W p l e R s m args below meth c D h0 ex ka M n0 Q (pc0, sy_dL F L0, sy_dS F S0, sy_dh F X1 X2 G0, 0, 0) := by
  rw [Bool.and_eq_true] at hw
  obtain ⟨F', hF, hs⟩ := sy_ex F hw.1
  obtain ⟨e1, e2, e3⟩ := sy_sw_ok (X1 := X1) (X2 := X2) hw.2 hF
  rw [← e1, ← e2, ← e3]
  exact sy_at_ok jm_TBok jm_hYN hM.2.2.2.2.2.2.2.2.2 h F' X1 X2 hs (hp F' hF hs) C0 hfr hlo (k F' hF hs)
theorem sy_fin_ex {nv : Nat} {n d : Nat} {M : jm_M} {pc0 : Nat} {L0 : List (Option sy_v)} {S0 : List sy_v} {G0 : sy_h} {O : List Bool} {v : Option sy_v} {G : sy_h} {u : sy_u} {T : List sy_e} {P : List sy_p} {Ls : Nat} {xs : Nat → Int32}
    (hM : jm_ok jm_YN M) (h : sy_fin (sy_ev jm_TB nv n d M pc0 L0 S0 G0 ([], [], O)) v G u T P = true) (hw : (sy_wf nv T && sy_sw nv L0 S0 G0) = true) (F : Nat → sy_d) (X1 X2 : List jm_c) (hp : ∀ F' : Nat → sy_d, (∀ k, k < nv → F' k = F k) → sy_sat F' nv T → ∀ p ∈ P, sy_ps F' p)
    {p : Program} {l : Launch} {e : Env} {s : State} {m : MethodId} {args : Array Value} {below : List Frame} {meth : Method} {c : Code} {D : va_G} {h0 : Nat} {ex : Nat → Nat} {ka : Nat → ClassId} {H0 : jm_h} {Post : Option Value → jm_h → Prop} (C0 : jm_C p s m args meth c D h0 ex ka Ls xs M (jm_len H0)) (hP : ∀ F' : Nat → sy_d, (∀ k, k < nv → F' k = F k) → sy_sat F' nv T → Post (v.map (sy_dv (sy_cm F' u))) (sy_dh (sy_cm F' u) X1 X2 G)) :
    jm_W p l e (jm_room (d + 1) 0 0) s m args below meth c D h0 ex ka M (jm_len H0) (MQ below (jm_Qc D h0 ex ka 0 H0 Post) args s 0 0 (fun q => h0 ≤ q)) (pc0, sy_dL F L0, sy_dS F S0, sy_dh F X1 X2 G0, 0, 0) := by
  rw [Bool.and_eq_true] at hw
  obtain ⟨F', hF, hs⟩ := sy_ex F hw.1
  obtain ⟨e1, e2, e3⟩ := sy_sw_ok (X1 := X1) (X2 := X2) hw.2 hF
  rw [← e1, ← e2, ← e3]
  exact sy_fin_ok jm_TBok jm_hYN hM.2.2.2.2.2.2.2.2.2 h F' X1 X2 hs (hp F' hF hs) C0 (hP F' hF hs)
/-- a call to a method whose contract is known, at a state with symbols -/
theorem sy_call {nv d d1 : Nat} {M M1 : jm_M} {pc : Nat} {L : List (Option sy_v)} {S As rest : List sy_v} {G : sy_h} {i : jm_I} {Ls : Nat} {xs : Nat → Int32} {Post : Option Value → jm_h → Prop} (hM : jm_ok jm_YN M) (hi : jm_in M pc = some i) (hcf : sy_cf jm_TB i G S = some (M1, As, rest)) (F : Nat → sy_d) (X1 X2 : List jm_c)
    {p : Program} {l : Launch} {e : Env} {R : Room} {s : State} {m : MethodId} {args : Array Value} {below : List Frame} {meth : Method} {c : Code} {D : va_G} {h0 : Nat} {ex : Nat → Nat} {ka : Nat → ClassId} {n0 : Nat} {Q : State → Prop} (C0 : jm_C p s m args meth c D h0 ex ka Ls xs M n0) (hT : jm_T Ls xs d1 M1 (As.map (sy_dv F)) (sy_dh F X1 X2 G) 0 0 Post) (hfr : d1 + 1 ≤ R.frames) (hlo : 64 * d1 + 64 ≤ R.locals)
    (k : ∀ (v : Option Value) (G1 : jm_h), Post v G1 → jm_len G1 = jm_len (sy_dh F X1 X2 G) → jm_W p l e R s m args below meth c D h0 ex ka M n0 Q (pc + 3, sy_dL F L, v.toList ++ sy_dS F rest, G1, 0, 0)) :
    jm_W p l e R s m args below meth c D h0 ex ka M n0 Q (pc, sy_dL F L, sy_dS F S, sy_dh F X1 X2 G, 0, 0) :=
  jm_call_ok jm_TBok jm_hYN C0 (jm_in_ck hM.2.2.2.2.2.2.2.2.2 hi) (sy_cf_ok hcf F X1 X2) hT hfr hlo (Nat.zero_le _) (Nat.zero_le _) k
end
