/-! ===== the JDK's String methods that are reached ===== -/
def mJ0_length_8abf5 : sk_M := (yJ0_length_8abf5, cJ0_length_8abf5, 1, (some .int), [(10, [(0, .aload_n 0, 1, 1, []), (4, .arraylength, 1, 5, []), (5, .aload_n 0, 1, 6, []), (6, .invokevirtual 335, 3, 9, []), (9, .ishr, 1, 10, []), (10, .ireturn, 1, 11, [])])])
theorem okJ0_length_8abf5 : sk_ok mJ0_length_8abf5 := show ∀ c ∈ mJ0_length_8abf5.2.2.2.2, ∀ e ∈ c.2, sk_okI mJ0_length_8abf5 e = true from by decide +kernel
set_option maxRecDepth 100000 in
theorem lcJ0_length_8abf5 : sk_lC 0 mJ0_length_8abf5 := ⟨okJ0_length_8abf5, sk_wd (q := 509) rfl rfl, sk_wd (q := 87) (by decide +kernel) rfl, by decide, by decide, by decide, by decide, by decide +kernel⟩
def mJ0_charAt_5068e : sk_M := (yJ0_charAt_5068e, cJ0_charAt_5068e, 2, (some .char), [(24, [(0, .aload_n 0, 1, 1, []), (1, .invokevirtual 492, 3, 4, []), (4, .ifCond .eq 12, 3, 7, [16]), (7, .aload_n 0, 1, 8, []), (11, .iload_n 1, 1, 12, []), (12, .invokestatic 495, 3, 15, []), (15, .ireturn, 1, 16, []), (16, .aload_n 0, 1, 17, []), (20, .iload_n 1, 1, 21, []), (21, .invokestatic 498, 3, 24, []), (24, .ireturn, 1, 25, [])])])
theorem okJ0_charAt_5068e : sk_ok mJ0_charAt_5068e := show ∀ c ∈ mJ0_charAt_5068e.2.2.2.2, ∀ e ∈ c.2, sk_okI mJ0_charAt_5068e e = true from by decide +kernel
set_option maxRecDepth 100000 in
theorem lcJ0_charAt_5068e : sk_lC 1 mJ0_charAt_5068e := ⟨okJ0_charAt_5068e, sk_wd (q := 520) rfl rfl, sk_wd (q := 87) (by decide +kernel) rfl, by decide, by decide, by decide, by decide, by decide +kernel⟩
def mJ0_coder_7d493 : sk_M := (yJ0_coder_7d493, cJ0_coder_7d493, 1, (some .byte), [(14, [(3, .ifCond .eq 10, 3, 6, [13]), (6, .aload_n 0, 1, 7, []), (10, .goto 4, 3, 13, [14]), (13, .iconst 1, 1, 14, []), (14, .ireturn, 1, 15, [])])])
theorem okJ0_coder_7d493 : sk_ok mJ0_coder_7d493 := show ∀ c ∈ mJ0_coder_7d493.2.2.2.2, ∀ e ∈ c.2, sk_okI mJ0_coder_7d493 e = true from by decide +kernel
set_option maxRecDepth 100000 in
theorem lcJ0_coder_7d493 : sk_lC 0 mJ0_coder_7d493 := ⟨okJ0_coder_7d493, sk_wd (q := 513) rfl rfl, sk_wd (q := 87) (by decide +kernel) rfl, by decide, by decide, by decide, by decide, by decide +kernel⟩
def mJ0_isLatin1_aae02 : sk_M := (yJ0_isLatin1_aae02, cJ0_isLatin1_aae02, 1, (some .boolean), [(18, [(3, .ifCond .eq 14, 3, 6, [17]), (6, .aload_n 0, 1, 7, []), (10, .ifCond .ne 7, 3, 13, [17]), (13, .iconst 1, 1, 14, []), (14, .goto 4, 3, 17, [18]), (17, .iconst 0, 1, 18, []), (18, .ireturn, 1, 19, [])])])
theorem okJ0_isLatin1_aae02 : sk_ok mJ0_isLatin1_aae02 := show ∀ c ∈ mJ0_isLatin1_aae02.2.2.2.2, ∀ e ∈ c.2, sk_okI mJ0_isLatin1_aae02 e = true from by decide +kernel
set_option maxRecDepth 100000 in
theorem lcJ0_isLatin1_aae02 : sk_lC 0 mJ0_isLatin1_aae02 := ⟨okJ0_isLatin1_aae02, sk_wd (q := 524) rfl rfl, sk_wd (q := 87) (by decide +kernel) rfl, by decide, by decide, by decide, by decide, by decide +kernel⟩
def mJ0_checkIndex_df160 : sk_M := (yJ0_checkIndex_df160, cJ0_checkIndex_df160, 2, none, [(9, [(0, .iload_n 0, 1, 1, []), (1, .iload_n 1, 1, 2, []), (5, .invokestatic 1059, 3, 8, []), (8, .pop, 1, 9, []), (9, .return_, 1, 10, [])])])
theorem okJ0_checkIndex_df160 : sk_ok mJ0_checkIndex_df160 := show ∀ c ∈ mJ0_checkIndex_df160.2.2.2.2, ∀ e ∈ c.2, sk_okI mJ0_checkIndex_df160 e = true from by decide +kernel
set_option maxRecDepth 100000 in
theorem lcJ0_checkIndex_df160 : sk_lC 2 mJ0_checkIndex_df160 := ⟨okJ0_checkIndex_df160, sk_wd (q := 530) rfl rfl, sk_wd (q := 87) (by decide +kernel) rfl, by decide, by decide, by decide, by decide, by decide +kernel⟩
def mJ1_charAt_3b067 : sk_M := (yJ1_charAt_3b067, cJ1_charAt_3b067, 2, (some .char), [(14, [(0, .iload_n 1, 1, 1, []), (1, .aload_n 0, 1, 2, []), (2, .arraylength, 1, 3, []), (3, .invokestatic 9, 3, 6, []), (6, .aload_n 0, 1, 7, []), (7, .iload_n 1, 1, 8, []), (8, .baload, 1, 9, []), (9, .sipush 255, 3, 12, []), (12, .iand, 1, 13, []), (13, .i2c, 1, 14, []), (14, .ireturn, 1, 15, [])])])
theorem okJ1_charAt_3b067 : sk_ok mJ1_charAt_3b067 := show ∀ c ∈ mJ1_charAt_3b067.2.2.2.2, ∀ e ∈ c.2, sk_okI mJ1_charAt_3b067 e = true from by decide +kernel
set_option maxRecDepth 100000 in
theorem lcJ1_charAt_3b067 : sk_lC 2 mJ1_charAt_3b067 := ⟨okJ1_charAt_3b067, sk_wd (q := 527) rfl rfl, sk_wd (q := 88) (by decide +kernel) rfl, by decide, by decide, by decide, by decide, by decide +kernel⟩
def mJ3_checkIndex_8e157 : sk_M := (yJ3_checkIndex_8e157, cJ3_checkIndex_8e157, 3, (some .int), [(17, [(0, .iload_n 0, 1, 1, []), (1, .ifCond .lt 8, 3, 4, [9]), (4, .iload_n 0, 1, 5, []), (5, .iload_n 1, 1, 6, []), (6, .if_icmp .lt 10, 3, 9, [16]), (9, .aload_n 2, 1, 10, []), (10, .iload_n 0, 1, 11, []), (11, .iload_n 1, 1, 12, []), (12, .invokestatic 95, 3, 15, []), (16, .iload_n 0, 1, 17, []), (17, .ireturn, 1, 18, [])])])
theorem okJ3_checkIndex_8e157 : sk_ok mJ3_checkIndex_8e157 := show ∀ c ∈ mJ3_checkIndex_8e157.2.2.2.2, ∀ e ∈ c.2, sk_okI mJ3_checkIndex_8e157 e = true from by decide +kernel
set_option maxRecDepth 100000 in
theorem lcJ3_checkIndex_8e157 : sk_lC 3 mJ3_checkIndex_8e157 := ⟨okJ3_checkIndex_8e157, sk_wd (q := 535) rfl rfl, sk_wd (q := 89) (by decide +kernel) rfl, by decide, by decide, by decide, by decide, by decide +kernel⟩
theorem kkJ0_335 : sk_lV RJ0 335 mJ0_coder_7d493 := ⟨sk_wd (q := 510) (by decide +kernel) rfl, sk_wd (q := 511) (by decide +kernel) rfl, sk_wd (q := 512) (by decide +kernel) rfl⟩
theorem kkJ0_492 : sk_lV RJ0 492 mJ0_isLatin1_aae02 := ⟨sk_wd (q := 521) (by decide +kernel) rfl, sk_wd (q := 522) (by decide +kernel) rfl, sk_wd (q := 523) (by decide +kernel) rfl⟩
theorem kkJ0_495 : sk_lS RJ0 495 mJ1_charAt_3b067 := ⟨sk_wd (q := 525) (by decide +kernel) rfl, sk_wd (q := 526) (by decide +kernel) rfl⟩
theorem kkJ1_9 : sk_lS RJ1 9 mJ0_checkIndex_df160 := ⟨sk_wd (q := 528) (by decide +kernel) rfl, sk_wd (q := 529) (by decide +kernel) rfl⟩
theorem kkJ0_1059 : sk_lS RJ0 1059 mJ3_checkIndex_8e157 := ⟨sk_wd (q := 533) (by decide +kernel) rfl, sk_wd (q := 534) (by decide +kernel) rfl⟩
theorem kkX8_66 : sk_lV RX8 66 mJ0_length_8abf5 := ⟨sk_wd (q := 506) (by decide +kernel) rfl, sk_wd (q := 507) (by decide +kernel) rfl, sk_wd (q := 508) (by decide +kernel) rfl⟩
theorem kkX8_72 : sk_lV RX8 72 mJ0_charAt_5068e := ⟨sk_wd (q := 517) (by decide +kernel) rfl, sk_wd (q := 518) (by decide +kernel) rfl, sk_wd (q := 519) (by decide +kernel) rfl⟩
theorem kkX10_184 : sk_lV RX10 184 mJ0_length_8abf5 := ⟨sk_wd (q := 1270) (by decide +kernel) rfl, sk_wd (q := 507) (by decide +kernel) rfl, sk_wd (q := 508) (by decide +kernel) rfl⟩
theorem kkX10_194 : sk_lV RX10 194 mJ0_charAt_5068e := ⟨sk_wd (q := 1271) (by decide +kernel) rfl, sk_wd (q := 518) (by decide +kernel) rfl, sk_wd (q := 519) (by decide +kernel) rfl⟩
theorem kf_val : Cond.fieldLink RJ0 9 "java/lang/String" "value" "[B" ∈ sk_gw := sk_wd (q := 1415) (by decide +kernel) rfl
theorem kf_cod : Cond.fieldLink RJ0 15 "java/lang/String" "coder" "B" ∈ sk_gw := sk_wd (q := 1416) (by decide +kernel) rfl
theorem kf_cmp : Cond.fieldLink RJ0 38 "java/lang/String" "COMPACT_STRINGS" "Z" ∈ sk_gw := sk_wd (q := 514) (by decide +kernel) rfl
theorem kf_fmt : Cond.fieldLink RJ0 1053 "jdk/internal/util/Preconditions" "SIOOBE_FORMATTER" "Ljava/util/function/BiFunction;" ∈ sk_gw := sk_wd (q := 531) (by decide +kernel) rfl
