theorem uj_J0_charAt_5068e : ∀ w ∈ wsJ0_charAt_5068e, w ∈ wsR := by
  intro w hw
  obtain ⟨i, hi⟩ := List.getElem?_of_mem hw
  have hn : i < 38 := (List.getElem?_eq_some_iff.mp hi).1
  rcases (show i = 0 ∨ i = 1 ∨ i = 2 ∨ i = 3 ∨ i = 4 ∨ i = 5 ∨ i = 6 ∨ i = 7 ∨ i = 8 ∨ i = 9 ∨ i = 10 ∨ i = 11 ∨ i = 12 ∨ i = 13 ∨ i = 14 ∨ i = 15 ∨ i = 16 ∨ i = 17 ∨ i = 18 ∨ i = 19 ∨ i = 20 ∨ i = 21 ∨ i = 22 ∨ i = 23 ∨ i = 24 ∨ i = 25 ∨ i = 26 ∨ i = 27 ∨ i = 28 ∨ i = 29 ∨ i = 30 ∨ i = 31 ∨ i = 32 ∨ i = 33 ∨ i = 34 ∨ i = 35 ∨ i = 36 ∨ i = 37 by omega) with rfl | rfl | rfl | rfl | rfl | rfl | rfl | rfl | rfl | rfl | rfl | rfl | rfl | rfl | rfl | rfl | rfl | rfl | rfl | rfl | rfl | rfl | rfl | rfl | rfl | rfl | rfl | rfl | rfl | rfl | rfl | rfl | rfl | rfl | rfl | rfl | rfl | rfl
  · obtain rfl : Cond.code yJ0_charAt_5068e cJ0_charAt_5068e 2 (some .char) = w := Option.some.inj hi
    exact uw_10_22
  · obtain rfl : Cond.fieldLink RJ0 9 "java/lang/String" "value" "[B" = w := Option.some.inj hi
    exact uw_10_12
  · obtain rfl : Cond.methodLink RJ0 492 yJ0_isLatin1_aae02 = w := Option.some.inj hi
    exact uw_10_23
  · obtain rfl : Cond.instanceMethod yJ0_isLatin1_aae02 = w := Option.some.inj hi
    exact uw_11_0
  · obtain rfl : Cond.selects RJ0 yJ0_isLatin1_aae02 yJ0_isLatin1_aae02 = w := Option.some.inj hi
    exact uw_11_1
  · obtain rfl : Cond.initialized RJ0 = w := Option.some.inj hi
    exact uw_10_10
  · obtain rfl : Cond.code yJ0_isLatin1_aae02 cJ0_isLatin1_aae02 1 (some .boolean) = w := Option.some.inj hi
    exact uw_11_2
  · obtain rfl : Cond.fieldLink RJ0 38 "java/lang/String" "COMPACT_STRINGS" "Z" = w := Option.some.inj hi
    exact uw_10_17
  · obtain rfl : Cond.fieldLink RJ0 15 "java/lang/String" "coder" "B" = w := Option.some.inj hi
    exact uw_10_18
  · obtain rfl : Cond.methodLink RJ0 495 yJ1_charAt_3b067 = w := Option.some.inj hi
    exact uw_11_3
  · obtain rfl : Cond.static yJ1_charAt_3b067 = w := Option.some.inj hi
    exact uw_11_4
  · obtain rfl : Cond.initialized RJ1 = w := Option.some.inj hi
    exact uw_11_5
  · obtain rfl : Cond.code yJ1_charAt_3b067 cJ1_charAt_3b067 2 (some .char) = w := Option.some.inj hi
    exact uw_11_6
  · obtain rfl : Cond.methodLink RJ1 9 yJ0_checkIndex_df160 = w := Option.some.inj hi
    exact uw_11_7
  · obtain rfl : Cond.static yJ0_checkIndex_df160 = w := Option.some.inj hi
    exact uw_11_8
  · obtain rfl : Cond.code yJ0_checkIndex_df160 cJ0_checkIndex_df160 2 none = w := Option.some.inj hi
    exact uw_11_9
  · obtain rfl : Cond.fieldLink RJ0 1053 "jdk/internal/util/Preconditions" "SIOOBE_FORMATTER" "Ljava/util/function/BiFunction;" = w := Option.some.inj hi
    exact uw_11_10
  · obtain rfl : Cond.methodLink RJ0 1059 yJ3_checkIndex_8e157 = w := Option.some.inj hi
    exact uw_11_11
  · obtain rfl : Cond.static yJ3_checkIndex_8e157 = w := Option.some.inj hi
    exact uw_11_12
  · obtain rfl : Cond.initialized RJ3 = w := Option.some.inj hi
    exact uw_11_13
  · obtain rfl : Cond.code yJ3_checkIndex_8e157 cJ3_checkIndex_8e157 3 (some .int) = w := Option.some.inj hi
    exact uw_11_14
  · obtain rfl : Cond.methodLink RJ0 498 yJ2_charAt_3b067 = w := Option.some.inj hi
    exact uw_11_15
  · obtain rfl : Cond.static yJ2_charAt_3b067 = w := Option.some.inj hi
    exact uw_11_16
  · obtain rfl : Cond.initialized RJ2 = w := Option.some.inj hi
    exact uw_11_17
  · obtain rfl : Cond.code yJ2_charAt_3b067 cJ2_charAt_3b067 2 (some .char) = w := Option.some.inj hi
    exact uw_11_18
  · obtain rfl : Cond.methodLink RJ2 67 yJ2_checkIndex_2214a = w := Option.some.inj hi
    exact uw_11_19
  · obtain rfl : Cond.static yJ2_checkIndex_2214a = w := Option.some.inj hi
    exact uw_11_20
  · obtain rfl : Cond.code yJ2_checkIndex_2214a cJ2_checkIndex_2214a 2 none = w := Option.some.inj hi
    exact uw_11_21
  · obtain rfl : Cond.methodLink RJ2 48 yJ2_length_9d52b = w := Option.some.inj hi
    exact uw_11_22
  · obtain rfl : Cond.static yJ2_length_9d52b = w := Option.some.inj hi
    exact uw_11_23
  · obtain rfl : Cond.code yJ2_length_9d52b cJ2_length_9d52b 1 (some .int) = w := Option.some.inj hi
    exact uw_12_0
  · obtain rfl : Cond.methodLink RJ2 414 yJ0_checkIndex_df160 = w := Option.some.inj hi
    exact uw_12_1
  · obtain rfl : Cond.methodLink RJ2 71 yJ2_getChar_3b067 = w := Option.some.inj hi
    exact uw_12_2
  · obtain rfl : Cond.static yJ2_getChar_3b067 = w := Option.some.inj hi
    exact uw_12_3
  · obtain rfl : Cond.code yJ2_getChar_3b067 cJ2_getChar_3b067 2 (some .char) = w := Option.some.inj hi
    exact uw_12_4
  · obtain rfl : Cond.fieldLink RJ2 44 "java/lang/StringUTF16" "$assertionsDisabled" "Z" = w := Option.some.inj hi
    exact uw_12_5
  · obtain rfl : Cond.fieldLink RJ2 59 "java/lang/StringUTF16" "HI_BYTE_SHIFT" "I" = w := Option.some.inj hi
    exact uw_12_6
  · obtain rfl : Cond.fieldLink RJ2 63 "java/lang/StringUTF16" "LO_BYTE_SHIFT" "I" = w := Option.some.inj hi
    exact uw_12_7

theorem uj_J0_indexOf_0f7a4 : ∀ w ∈ wsJ0_indexOf_0f7a4, w ∈ wsR := by
  intro w hw
  obtain ⟨i, hi⟩ := List.getElem?_of_mem hw
  have hn : i < 86 := (List.getElem?_eq_some_iff.mp hi).1
  rcases (show i = 0 ∨ i = 1 ∨ i = 2 ∨ i = 3 ∨ i = 4 ∨ i = 5 ∨ i = 6 ∨ i = 7 ∨ i = 8 ∨ i = 9 ∨ i = 10 ∨ i = 11 ∨ i = 12 ∨ i = 13 ∨ i = 14 ∨ i = 15 ∨ i = 16 ∨ i = 17 ∨ i = 18 ∨ i = 19 ∨ i = 20 ∨ i = 21 ∨ i = 22 ∨ i = 23 ∨ i = 24 ∨ i = 25 ∨ i = 26 ∨ i = 27 ∨ i = 28 ∨ i = 29 ∨ i = 30 ∨ i = 31 ∨ i = 32 ∨ i = 33 ∨ i = 34 ∨ i = 35 ∨ i = 36 ∨ i = 37 ∨ i = 38 ∨ i = 39 ∨ i = 40 ∨ i = 41 ∨ i = 42 ∨ i = 43 ∨ i = 44 ∨ i = 45 ∨ i = 46 ∨ i = 47 ∨ i = 48 ∨ i = 49 ∨ i = 50 ∨ i = 51 ∨ i = 52 ∨ i = 53 ∨ i = 54 ∨ i = 55 ∨ i = 56 ∨ i = 57 ∨ i = 58 ∨ i = 59 ∨ i = 60 ∨ i = 61 ∨ i = 62 ∨ i = 63 ∨ i = 64 ∨ i = 65 ∨ i = 66 ∨ i = 67 ∨ i = 68 ∨ i = 69 ∨ i = 70 ∨ i = 71 ∨ i = 72 ∨ i = 73 ∨ i = 74 ∨ i = 75 ∨ i = 76 ∨ i = 77 ∨ i = 78 ∨ i = 79 ∨ i = 80 ∨ i = 81 ∨ i = 82 ∨ i = 83 ∨ i = 84 ∨ i = 85 by omega) with rfl | rfl | rfl | rfl | rfl | rfl | rfl | rfl | rfl | rfl | rfl | rfl | rfl | rfl | rfl | rfl | rfl | rfl | rfl | rfl | rfl | rfl | rfl | rfl | rfl | rfl | rfl | rfl | rfl | rfl | rfl | rfl | rfl | rfl | rfl | rfl | rfl | rfl | rfl | rfl | rfl | rfl | rfl | rfl | rfl | rfl | rfl | rfl | rfl | rfl | rfl | rfl | rfl | rfl | rfl | rfl | rfl | rfl | rfl | rfl | rfl | rfl | rfl | rfl | rfl | rfl | rfl | rfl | rfl | rfl | rfl | rfl | rfl | rfl | rfl | rfl | rfl | rfl | rfl | rfl | rfl | rfl | rfl | rfl | rfl | rfl
  · obtain rfl : Cond.code yJ0_indexOf_0f7a4 cJ0_indexOf_0f7a4 2 (some .int) = w := Option.some.inj hi
    exact uw_14_5
  · obtain rfl : Cond.methodLink RJ0 633 yJ0_indexOf_7cf53 = w := Option.some.inj hi
    exact uw_14_6
  · obtain rfl : Cond.instanceMethod yJ0_indexOf_7cf53 = w := Option.some.inj hi
    exact uw_14_7
  · obtain rfl : Cond.selects RJ0 yJ0_indexOf_7cf53 yJ0_indexOf_7cf53 = w := Option.some.inj hi
    exact uw_14_8
  · obtain rfl : Cond.initialized RJ0 = w := Option.some.inj hi
    exact uw_10_10
  · obtain rfl : Cond.code yJ0_indexOf_7cf53 cJ0_indexOf_7cf53 3 (some .int) = w := Option.some.inj hi
    exact uw_14_9
  · obtain rfl : Cond.fieldLink RJ0 9 "java/lang/String" "value" "[B" = w := Option.some.inj hi
    exact uw_10_12
  · obtain rfl : Cond.methodLink RJ0 492 yJ0_isLatin1_aae02 = w := Option.some.inj hi
    exact uw_10_23
  · obtain rfl : Cond.instanceMethod yJ0_isLatin1_aae02 = w := Option.some.inj hi
    exact uw_11_0
  · obtain rfl : Cond.selects RJ0 yJ0_isLatin1_aae02 yJ0_isLatin1_aae02 = w := Option.some.inj hi
    exact uw_11_1
  · obtain rfl : Cond.code yJ0_isLatin1_aae02 cJ0_isLatin1_aae02 1 (some .boolean) = w := Option.some.inj hi
    exact uw_11_2
  · obtain rfl : Cond.fieldLink RJ0 38 "java/lang/String" "COMPACT_STRINGS" "Z" = w := Option.some.inj hi
    exact uw_10_17
  · obtain rfl : Cond.fieldLink RJ0 15 "java/lang/String" "coder" "B" = w := Option.some.inj hi
    exact uw_10_18
  · obtain rfl : Cond.methodLink RJ0 505 yJ0_length_8abf5 = w := Option.some.inj hi
    exact uw_14_10
  · obtain rfl : Cond.instanceMethod yJ0_length_8abf5 = w := Option.some.inj hi
    exact uw_10_8
  · obtain rfl : Cond.selects RJ0 yJ0_length_8abf5 yJ0_length_8abf5 = w := Option.some.inj hi
    exact uw_10_9
  · obtain rfl : Cond.code yJ0_length_8abf5 cJ0_length_8abf5 1 (some .int) = w := Option.some.inj hi
    exact uw_10_11
  · obtain rfl : Cond.methodLink RJ0 335 yJ0_coder_7d493 = w := Option.some.inj hi
    exact uw_10_13
  · obtain rfl : Cond.instanceMethod yJ0_coder_7d493 = w := Option.some.inj hi
    exact uw_10_14
  · obtain rfl : Cond.selects RJ0 yJ0_coder_7d493 yJ0_coder_7d493 = w := Option.some.inj hi
    exact uw_10_15
  · obtain rfl : Cond.code yJ0_coder_7d493 cJ0_coder_7d493 1 (some .byte) = w := Option.some.inj hi
    exact uw_10_16
  · obtain rfl : Cond.methodLink RJ0 637 yJ1_indexOf_4cfef = w := Option.some.inj hi
    exact uw_14_11
  · obtain rfl : Cond.static yJ1_indexOf_4cfef = w := Option.some.inj hi
    exact uw_14_12
  · obtain rfl : Cond.initialized RJ1 = w := Option.some.inj hi
    exact uw_11_5
  · obtain rfl : Cond.code yJ1_indexOf_4cfef cJ1_indexOf_4cfef 4 (some .int) = w := Option.some.inj hi
    exact uw_14_13
  · obtain rfl : Cond.methodLink RJ1 92 Lib.Math.max.name = w := Option.some.inj hi
    exact uw_14_14
  · obtain rfl : Cond.static Lib.Math.max.name = w := Option.some.inj hi
    exact uw_14_15
  · obtain rfl : Cond.initialized "java/lang/Math" = w := Option.some.inj hi
    exact uw_14_16
  · obtain rfl : Cond.code Lib.Math.max.name Lib.Math.max.code 2 (some .int) = w := Option.some.inj hi
    exact uw_14_17
  · obtain rfl : Cond.methodLink RJ1 38 Lib.Math.min.name = w := Option.some.inj hi
    exact uw_14_18
  · obtain rfl : Cond.static Lib.Math.min.name = w := Option.some.inj hi
    exact uw_14_19
  · obtain rfl : Cond.code Lib.Math.min.name Lib.Math.min.code 2 (some .int) = w := Option.some.inj hi
    exact uw_14_20
  · obtain rfl : Cond.methodLink RJ1 88 yJ1_canEncode_9a6ad = w := Option.some.inj hi
    exact uw_14_21
  · obtain rfl : Cond.static yJ1_canEncode_9a6ad = w := Option.some.inj hi
    exact uw_14_22
  · obtain rfl : Cond.code yJ1_canEncode_9a6ad cJ1_canEncode_9a6ad 1 (some .boolean) = w := Option.some.inj hi
    exact uw_14_23
  · obtain rfl : Cond.methodLink RJ1 95 yJ1_indexOfChar_4cfef = w := Option.some.inj hi
    exact uw_15_0
  · obtain rfl : Cond.static yJ1_indexOfChar_4cfef = w := Option.some.inj hi
    exact uw_15_1
  · obtain rfl : Cond.code yJ1_indexOfChar_4cfef cJ1_indexOfChar_4cfef 6 (some .int) = w := Option.some.inj hi
    exact uw_15_2
  · obtain rfl : Cond.methodLink RJ0 640 yJ2_indexOf_4cfef = w := Option.some.inj hi
    exact uw_15_3
  · obtain rfl : Cond.static yJ2_indexOf_4cfef = w := Option.some.inj hi
    exact uw_15_4
  · obtain rfl : Cond.initialized RJ2 = w := Option.some.inj hi
    exact uw_11_17
  · obtain rfl : Cond.code yJ2_indexOf_4cfef cJ2_indexOf_4cfef 4 (some .int) = w := Option.some.inj hi
    exact uw_15_5
  · obtain rfl : Cond.methodLink RJ2 224 Lib.Math.max.name = w := Option.some.inj hi
    exact uw_15_6
  · obtain rfl : Cond.methodLink RJ2 183 Lib.Math.min.name = w := Option.some.inj hi
    exact uw_15_7
  · obtain rfl : Cond.constant RJ2 227 (65536) = w := Option.some.inj hi
    exact uw_15_8
  · obtain rfl : Cond.methodLink RJ2 228 yJ2_indexOfChar_4cfef = w := Option.some.inj hi
    exact uw_15_9
  · obtain rfl : Cond.static yJ2_indexOfChar_4cfef = w := Option.some.inj hi
    exact uw_15_10
  · obtain rfl : Cond.code yJ2_indexOfChar_4cfef cJ2_indexOfChar_4cfef 4 (some .int) = w := Option.some.inj hi
    exact uw_15_11
  · obtain rfl : Cond.methodLink RJ2 96 yJ2_checkBoundsBeginEnd_d044e = w := Option.some.inj hi
    exact uw_15_12
  · obtain rfl : Cond.static yJ2_checkBoundsBeginEnd_d044e = w := Option.some.inj hi
    exact uw_15_13
  · obtain rfl : Cond.code yJ2_checkBoundsBeginEnd_d044e cJ2_checkBoundsBeginEnd_d044e 3 none = w := Option.some.inj hi
    exact uw_15_14
  · obtain rfl : Cond.methodLink RJ2 48 yJ2_length_9d52b = w := Option.some.inj hi
    exact uw_11_22
  · obtain rfl : Cond.static yJ2_length_9d52b = w := Option.some.inj hi
    exact uw_11_23
  · obtain rfl : Cond.code yJ2_length_9d52b cJ2_length_9d52b 1 (some .int) = w := Option.some.inj hi
    exact uw_12_0
  · obtain rfl : Cond.methodLink RJ2 241 yJ0_checkBoundsBeginEnd_23922 = w := Option.some.inj hi
    exact uw_15_15
  · obtain rfl : Cond.static yJ0_checkBoundsBeginEnd_23922 = w := Option.some.inj hi
    exact uw_15_16
  · obtain rfl : Cond.code yJ0_checkBoundsBeginEnd_23922 cJ0_checkBoundsBeginEnd_23922 3 none = w := Option.some.inj hi
    exact uw_15_17
  · obtain rfl : Cond.fieldLink RJ0 1053 "jdk/internal/util/Preconditions" "SIOOBE_FORMATTER" "Ljava/util/function/BiFunction;" = w := Option.some.inj hi
    exact uw_11_10
  · obtain rfl : Cond.methodLink RJ0 1062 yJ3_checkFromToIndex_8c36e = w := Option.some.inj hi
    exact uw_15_18
  · obtain rfl : Cond.static yJ3_checkFromToIndex_8c36e = w := Option.some.inj hi
    exact uw_15_19
  · obtain rfl : Cond.initialized RJ3 = w := Option.some.inj hi
    exact uw_11_13
  · obtain rfl : Cond.code yJ3_checkFromToIndex_8c36e cJ3_checkFromToIndex_8c36e 4 (some .int) = w := Option.some.inj hi
    exact uw_15_20
  · obtain rfl : Cond.methodLink RJ2 244 yJ2_indexOfCharUnsafe_4cfef = w := Option.some.inj hi
    exact uw_15_21
  · obtain rfl : Cond.static yJ2_indexOfCharUnsafe_4cfef = w := Option.some.inj hi
    exact uw_15_22
  · obtain rfl : Cond.code yJ2_indexOfCharUnsafe_4cfef cJ2_indexOfCharUnsafe_4cfef 5 (some .int) = w := Option.some.inj hi
    exact uw_15_23
  · obtain rfl : Cond.methodLink RJ2 71 yJ2_getChar_3b067 = w := Option.some.inj hi
    exact uw_12_2
  · obtain rfl : Cond.static yJ2_getChar_3b067 = w := Option.some.inj hi
    exact uw_12_3
  · obtain rfl : Cond.code yJ2_getChar_3b067 cJ2_getChar_3b067 2 (some .char) = w := Option.some.inj hi
    exact uw_12_4
  · obtain rfl : Cond.fieldLink RJ2 44 "java/lang/StringUTF16" "$assertionsDisabled" "Z" = w := Option.some.inj hi
    exact uw_12_5
  · obtain rfl : Cond.fieldLink RJ2 59 "java/lang/StringUTF16" "HI_BYTE_SHIFT" "I" = w := Option.some.inj hi
    exact uw_12_6
  · obtain rfl : Cond.fieldLink RJ2 63 "java/lang/StringUTF16" "LO_BYTE_SHIFT" "I" = w := Option.some.inj hi
    exact uw_12_7
  · obtain rfl : Cond.methodLink RJ2 232 yJ2_indexOfSupplementary_4cfef = w := Option.some.inj hi
    exact uw_16_0
  · obtain rfl : Cond.static yJ2_indexOfSupplementary_4cfef = w := Option.some.inj hi
    exact uw_16_1
  · obtain rfl : Cond.code yJ2_indexOfSupplementary_4cfef cJ2_indexOfSupplementary_4cfef 7 (some .int) = w := Option.some.inj hi
    exact uw_16_2
  · obtain rfl : Cond.methodLink RJ2 164 yJ11_isValidCodePoint_9a6ad = w := Option.some.inj hi
    exact uw_16_3
  · obtain rfl : Cond.static yJ11_isValidCodePoint_9a6ad = w := Option.some.inj hi
    exact uw_16_4
  · obtain rfl : Cond.initialized RJ11 = w := Option.some.inj hi
    exact uw_16_5
  · obtain rfl : Cond.code yJ11_isValidCodePoint_9a6ad cJ11_isValidCodePoint_9a6ad 2 (some .boolean) = w := Option.some.inj hi
    exact uw_16_6
  · obtain rfl : Cond.methodLink RJ2 157 yJ11_highSurrogate_5068e = w := Option.some.inj hi
    exact uw_16_7
  · obtain rfl : Cond.static yJ11_highSurrogate_5068e = w := Option.some.inj hi
    exact uw_16_8
  · obtain rfl : Cond.code yJ11_highSurrogate_5068e cJ11_highSurrogate_5068e 1 (some .char) = w := Option.some.inj hi
    exact uw_16_9
  · obtain rfl : Cond.constant RJ11 110 (55232) = w := Option.some.inj hi
    exact uw_16_10
  · obtain rfl : Cond.methodLink RJ2 161 yJ11_lowSurrogate_5068e = w := Option.some.inj hi
    exact uw_16_11
  · obtain rfl : Cond.static yJ11_lowSurrogate_5068e = w := Option.some.inj hi
    exact uw_16_12
  · obtain rfl : Cond.code yJ11_lowSurrogate_5068e cJ11_lowSurrogate_5068e 1 (some .char) = w := Option.some.inj hi
    exact uw_16_13
  · obtain rfl : Cond.constant RJ11 76 (56320) = w := Option.some.inj hi
    exact uw_16_14

theorem uj_J0_length_8abf5 : ∀ w ∈ wsJ0_length_8abf5, w ∈ wsR := by
  intro w hw
  obtain ⟨i, hi⟩ := List.getElem?_of_mem hw
  have hn : i < 9 := (List.getElem?_eq_some_iff.mp hi).1
  rcases (show i = 0 ∨ i = 1 ∨ i = 2 ∨ i = 3 ∨ i = 4 ∨ i = 5 ∨ i = 6 ∨ i = 7 ∨ i = 8 by omega) with rfl | rfl | rfl | rfl | rfl | rfl | rfl | rfl | rfl
  · obtain rfl : Cond.code yJ0_length_8abf5 cJ0_length_8abf5 1 (some .int) = w := Option.some.inj hi
    exact uw_10_11
  · obtain rfl : Cond.fieldLink RJ0 9 "java/lang/String" "value" "[B" = w := Option.some.inj hi
    exact uw_10_12
  · obtain rfl : Cond.methodLink RJ0 335 yJ0_coder_7d493 = w := Option.some.inj hi
    exact uw_10_13
  · obtain rfl : Cond.instanceMethod yJ0_coder_7d493 = w := Option.some.inj hi
    exact uw_10_14
  · obtain rfl : Cond.selects RJ0 yJ0_coder_7d493 yJ0_coder_7d493 = w := Option.some.inj hi
    exact uw_10_15
  · obtain rfl : Cond.initialized RJ0 = w := Option.some.inj hi
    exact uw_10_10
  · obtain rfl : Cond.code yJ0_coder_7d493 cJ0_coder_7d493 1 (some .byte) = w := Option.some.inj hi
    exact uw_10_16
  · obtain rfl : Cond.fieldLink RJ0 38 "java/lang/String" "COMPACT_STRINGS" "Z" = w := Option.some.inj hi
    exact uw_10_17
  · obtain rfl : Cond.fieldLink RJ0 15 "java/lang/String" "coder" "B" = w := Option.some.inj hi
    exact uw_10_18

theorem uS_RX0_47 {c : Cond} : GoodIn (c :: wsR) (va_wsS RX0 47 yX0_spot (wu yX0_spot cX0_spot 3 (some .int))) := gwS uw_36_12 uw_36_13 uw_1_13 (wu_in uw_36_14)
theorem uS_RX1_192 {c : Cond} : GoodIn (c :: wsR) (va_wsS RX1 192 yX1_joined (wu yX1_joined cX1_joined 5 (some .long))) := gwS uw_46_1 uw_46_2 uw_1_17 (wu_in uw_46_3)
theorem uS_RX1_91 {c : Cond} : GoodIn (c :: wsR) (va_wsS RX1 91 yX0_ofWeekday (wu yX0_ofWeekday cX0_ofWeekday 2 (some .int))) := gwS uw_43_14 uw_43_15 uw_1_13 (wu_in uw_43_16)
theorem uS_RX11_155 {c : Cond} : GoodIn (c :: wsR) (va_wsS RX11 155 yX11_isWeekday (wu yX11_isWeekday cX11_isWeekday 1 (some .boolean))) := gwS uw_33_14 uw_33_15 uw_0_2 (wu_in uw_33_16)
theorem uS_RX11_173 {c : Cond} : GoodIn (c :: wsR) (va_wsS RX11 173 yX11_isSign (wu yX11_isSign cX11_isSign 1 (some .boolean))) := gwS uw_34_19 uw_34_20 uw_0_2 (wu_in uw_34_21)
theorem uS_RX11_222 {c : Cond} : GoodIn (c :: wsR) (va_wsS RX11 222 yX11_isAskedHour (wu yX11_isAskedHour cX11_isAskedHour 1 (some .boolean))) := gwS uw_49_10 uw_49_11 uw_0_2 (wu_in uw_49_12)
theorem uS_RX12_122 {c : Cond} : GoodIn (c :: wsR) (va_wsS RX12 122 yX12_in (wu yX12_in cX12_in 6 (some .boolean))) := gwS uw_22_1 uw_22_2 uw_0_5 (wu_in uw_22_3)
theorem uS_RX12_158 {c : Cond} : GoodIn (c :: wsR) (va_wsS RX12 158 yX12_strength (wu yX12_strength cX12_strength 1 (some .int))) := gwS uw_26_1 uw_26_2 uw_0_5 (wu_in uw_26_3)
theorem uS_RX12_296 {c : Cond} : GoodIn (c :: wsR) (va_wsS RX12 296 yX12_one (wu yX12_one cX12_one 5 (some .long))) := gwS uw_48_23 uw_49_0 uw_0_5 (wu_in uw_49_1)
theorem uS_RX12_304 {c : Cond} : GoodIn (c :: wsR) (va_wsS RX12 304 yX12_isOf (wu yX12_isOf cX12_isOf 2 (some .boolean))) := gwS uw_32_21 uw_32_22 uw_0_5 (wu_in uw_32_23)
theorem uS_RX12_331 {c : Cond} : GoodIn (c :: wsR) (va_wsS RX12 331 yX12_isHour (wu yX12_isHour cX12_isHour 1 (some .boolean))) := gwS uw_32_6 uw_32_7 uw_0_5 (wu_in uw_32_8)
theorem uS_RX12_478 {c : Cond} : GoodIn (c :: wsR) (va_wsS RX12 478 yX12_bits (wu yX12_bits cX12_bits 3 (some .int))) := gwS uw_62_7 uw_62_8 uw_0_5 (wu_in uw_62_9)
theorem uS_RX3_116 {c : Cond} : GoodIn (c :: wsR) (va_wsS RX3 116 yX6_isDigit (wu yX6_isDigit cX6_isDigit 1 (some .boolean))) := gwS uw_28_23 uw_13_7 uw_0_14 (wu_in uw_13_8)
theorem uS_RX6_64 {c : Cond} : GoodIn (c :: wsR) (va_wsS RX6 64 yX6_isDigit (wu yX6_isDigit cX6_isDigit 1 (some .boolean))) := gwS uw_13_6 uw_13_7 uw_0_14 (wu_in uw_13_8)
theorem uS_RX8_120 {c : Cond} : GoodIn (c :: wsR) (va_wsS RX8 120 yX0_ofWeekday (wu yX0_ofWeekday cX0_ofWeekday 2 (some .int))) := gwS uw_56_20 uw_43_15 uw_1_13 (wu_in uw_43_16)
theorem uS_RX8_87 {c : Cond} : GoodIn (c :: wsR) (va_wsS RX8 87 yJ7_fill_53178 (wu yJ7_fill_53178 cJ7_fill_53178 4 none)) := gwS uw_56_3 uw_56_4 uw_56_5 (wu_in uw_56_6)
theorem uV_RX0_34 {c : Cond} : GoodIn (c :: wsR) (wsV RX0 34 RX0 yX0_refresh (wu yX0_refresh cX0_refresh 2 none)) := gwV uw_41_18 uw_36_1 uw_36_2 uw_1_13 (wu_in uw_36_3)
theorem uV_RX0_38 {c : Cond} : GoodIn (c :: wsR) (wsV RX0 38 RX0 yX0_drawStreets (wu yX0_drawStreets cX0_drawStreets 7 none)) := gwV uw_36_4 uw_36_5 uw_36_6 uw_1_13 (wu_in uw_36_7)
theorem uV_RX0_41 {c : Cond} : GoodIn (c :: wsR) (wsV RX0 41 RX0 yX0_drawHours (wu yX0_drawHours cX0_drawHours 9 none)) := gwV uw_37_1 uw_37_2 uw_37_3 uw_1_13 (wu_in uw_37_4)
theorem uV_RX0_44 {c : Cond} : GoodIn (c :: wsR) (wsV RX0 44 RX0 yX0_drawFirst (wu yX0_drawFirst cX0_drawFirst 6 none)) := gwV uw_37_6 uw_37_7 uw_37_8 uw_1_13 (wu_in uw_37_9)
theorem uV_RX0_59 {c : Cond} : GoodIn (c :: wsR) (wsV RX0 59 RX7 yX7_signOn (wu yX7_signOn cX7_signOn 3 (some .int))) := gwV uw_36_20 uw_30_9 uw_30_10 uw_0_18 (wu_in uw_30_11)
theorem uV_RX0_68 {c : Cond} : GoodIn (c :: wsR) (wsV RX0 68 RX0 yX0_signOf (wu yX0_signOf cX0_signOf 3 (some .int))) := gwV uw_36_15 uw_36_16 uw_36_17 uw_1_13 (wu_in uw_36_18)
theorem uV_RX0_71 {c : Cond} : GoodIn (c :: wsR) (wsV RX0 71 RX7 yX7_cornerAcross (wu yX7_cornerAcross cX7_cornerAcross 3 (some .int))) := gwV uw_36_21 uw_36_22 uw_36_23 uw_0_18 (wu_in uw_37_0)
theorem uV_RX0_78 {c : Cond} : GoodIn (c :: wsR) (wsV RX0 78 RX0 yX0_drawFirstBy (wu yX0_drawFirstBy cX0_drawFirstBy 10 none)) := gwV uw_37_10 uw_37_11 uw_37_12 uw_1_13 (wu_in uw_37_13)
theorem uV_RX1_106 {c : Cond} : GoodIn (c :: wsR) (wsV RX1 106 RX0 yX0_streetBy (wu yX0_streetBy cX0_streetBy 4 (some .int))) := gwV uw_43_18 uw_37_19 uw_37_20 uw_1_13 (wu_in uw_37_21)
theorem uV_RX1_110 {c : Cond} : GoodIn (c :: wsR) (wsV RX1 110 RX1 yX1_isOpenFor (wu yX1_isOpenFor cX1_isOpenFor 4 (some .boolean))) := gwV uw_43_19 uw_43_20 uw_43_21 uw_1_17 (wu_in uw_43_22)
theorem uV_RX1_114 {c : Cond} : GoodIn (c :: wsR) (wsV RX1 114 RX0 yX0_hoursBy (wu yX0_hoursBy cX0_hoursBy 5 (some .int))) := gwV uw_44_1 uw_37_15 uw_37_16 uw_1_13 (wu_in uw_37_17)
theorem uV_RX1_137 {c : Cond} : GoodIn (c :: wsR) (wsV RX1 137 RX7 yX7_sideOf (wu yX7_sideOf cX7_sideOf 3 (some .int))) := gwV uw_43_23 uw_18_3 uw_18_4 uw_0_18 (wu_in uw_18_5)
theorem uV_RX1_140 {c : Cond} : GoodIn (c :: wsR) (wsV RX1 140 RX7 yX7_isOpen (wu yX7_isOpen cX7_isOpen 7 (some .boolean))) := gwV uw_44_0 uw_31_7 uw_31_8 uw_0_18 (wu_in uw_31_9)
theorem uV_RX1_147 {c : Cond} : GoodIn (c :: wsR) (wsV RX1 147 RX7 yX7_cornerAcross (wu yX7_cornerAcross cX7_cornerAcross 3 (some .int))) := gwV uw_46_9 uw_36_22 uw_36_23 uw_0_18 (wu_in uw_37_0)
theorem uV_RX1_157 {c : Cond} : GoodIn (c :: wsR) (wsV RX1 157 RX2 yX2_deedOf (wu yX2_deedOf cX2_deedOf 2 (some .int))) := gwV uw_44_7 uw_44_8 uw_44_9 uw_0_23 (wu_in uw_44_10)
theorem uV_RX1_161 {c : Cond} : GoodIn (c :: wsR) (wsV RX1 161 RX1 yX1_mayDo (wu yX1_mayDo cX1_mayDo 3 (some .boolean))) := gwV uw_44_11 uw_44_12 uw_44_13 uw_1_17 (wu_in uw_44_14)
theorem uV_RX1_164 {c : Cond} : GoodIn (c :: wsR) (wsV RX1 164 RX1 yX1_holds (wu yX1_holds cX1_holds 6 (some .boolean))) := gwV uw_44_15 uw_44_16 uw_44_17 uw_1_17 (wu_in uw_44_18)
theorem uV_RX1_171 {c : Cond} : GoodIn (c :: wsR) (wsV RX1 171 RX2 yX2_firstToken (wu yX2_firstToken cX2_firstToken 2 (some .int))) := gwV uw_44_20 uw_44_21 uw_44_22 uw_0_23 (wu_in uw_44_23)
theorem uV_RX1_174 {c : Cond} : GoodIn (c :: wsR) (wsV RX1 174 RX2 yX2_tokenAt (wu yX2_tokenAt cX2_tokenAt 2 (some .int))) := gwV uw_45_0 uw_45_1 uw_45_2 uw_0_23 (wu_in uw_45_3)
theorem uV_RX1_177 {c : Cond} : GoodIn (c :: wsR) (wsV RX1 177 RX1 yX1_push (wu yX1_push cX1_push 3 none)) := gwV uw_45_4 uw_45_5 uw_45_6 uw_1_17 (wu_in uw_45_7)
theorem uV_RX1_181 {c : Cond} : GoodIn (c :: wsR) (wsV RX1 181 RX1 yX1_valueOf (wu yX1_valueOf cX1_valueOf 3 (some .long))) := gwV uw_45_8 uw_45_9 uw_45_10 uw_1_17 (wu_in uw_45_11)
theorem uV_RX1_185 {c : Cond} : GoodIn (c :: wsR) (wsV RX1 185 RX1 yX1_turn (wu yX1_turn cX1_turn 1 none)) := gwV uw_45_17 uw_45_18 uw_45_19 uw_1_17 (wu_in uw_45_20)
theorem uV_RX1_188 {c : Cond} : GoodIn (c :: wsR) (wsV RX1 188 RX1 yX1_join (wu yX1_join cX1_join 2 none)) := gwV uw_45_21 uw_45_22 uw_45_23 uw_1_17 (wu_in uw_46_0)
theorem uV_RX1_27 {c : Cond} : GoodIn (c :: wsR) (wsV RX1 27 RX1 yX1_takeStep (wu yX1_takeStep cX1_takeStep 4 (some .int))) := gwV uw_41_23 uw_42_0 uw_42_1 uw_1_17 (wu_in uw_42_2)
theorem uV_RX1_31 {c : Cond} : GoodIn (c :: wsR) (wsV RX1 31 RX9 yX9_isAtGoal (wu yX9_isAtGoal cX9_isAtGoal 1 (some .boolean))) := gwV uw_42_12 uw_42_13 uw_42_14 uw_4_4 (wu_in uw_42_15)
theorem uV_RX1_47 {c : Cond} : GoodIn (c :: wsR) (wsV RX1 47 RX1 yX1_lookAround (wu yX1_lookAround cX1_lookAround 5 none)) := gwV uw_42_16 uw_42_17 uw_42_18 uw_1_17 (wu_in uw_42_19)
theorem uV_RX1_51 {c : Cond} : GoodIn (c :: wsR) (wsV RX1 51 RX1 yX1_chooseDeed (wu yX1_chooseDeed cX1_chooseDeed 5 (some .int))) := gwV uw_44_2 uw_44_3 uw_44_4 uw_1_17 (wu_in uw_44_5)
theorem uV_RX1_61 {c : Cond} : GoodIn (c :: wsR) (wsV RX1 61 RX1 yX1_follow (wu yX1_follow cX1_follow 4 none)) := gwV uw_46_4 uw_46_5 uw_46_6 uw_1_17 (wu_in uw_46_7)
theorem uV_RX1_68 {c : Cond} : GoodIn (c :: wsR) (wsV RX1 68 RX9 yX9_dayNow (wu yX9_dayNow cX9_dayNow 1 (some .long))) := gwV uw_43_13 uw_43_9 uw_43_10 uw_4_4 (wu_in uw_43_11)
theorem uV_RX1_85 {c : Cond} : GoodIn (c :: wsR) (wsV RX1 85 RX9 yX9_askedToday (wu yX9_askedToday cX9_askedToday 1 (some .boolean))) := gwV uw_43_4 uw_43_5 uw_43_6 uw_4_4 (wu_in uw_43_7)
theorem uV_RX10_38 {c : Cond} : GoodIn (c :: wsR) (wsV RX10 38 RX7 yX7_signOn (wu yX7_signOn cX7_signOn 3 (some .int))) := gwV uw_60_1 uw_30_9 uw_30_10 uw_0_18 (wu_in uw_30_11)
theorem uV_RX10_42 {c : Cond} : GoodIn (c :: wsR) (wsV RX10 42 RX10 yX10_layRoads (wu yX10_layRoads cX10_layRoads 8 none)) := gwV uw_60_7 uw_60_8 uw_60_9 uw_2_5 (wu_in uw_60_10)
theorem uV_RX10_49 {c : Cond} : GoodIn (c :: wsR) (wsV RX10 49 RX10 yX10_canDo (wu yX10_canDo cX10_canDo 2 (some .boolean))) := gwV uw_60_12 uw_60_13 uw_60_14 uw_2_5 (wu_in uw_60_15)
theorem uV_RX10_53 {c : Cond} : GoodIn (c :: wsR) (wsV RX10 53 RX10 yX10_oddsOver (wu yX10_oddsOver cX10_oddsOver 7 (some .int))) := gwV uw_60_23 uw_61_0 uw_61_1 uw_2_5 (wu_in uw_61_2)
theorem uV_RX10_60 {c : Cond} : GoodIn (c :: wsR) (wsV RX10 60 RX10 yX10_cornersFrom (wu yX10_cornersFrom cX10_cornersFrom 7 (some .int))) := gwV uw_60_18 uw_60_19 uw_60_20 uw_2_5 (wu_in uw_60_21)
theorem uV_RX10_63 {c : Cond} : GoodIn (c :: wsR) (wsV RX10 63 RX10 yX10_crossing (wu yX10_crossing cX10_crossing 3 (some .int))) := gwV uw_61_3 uw_61_4 uw_61_5 uw_2_5 (wu_in uw_61_6)
theorem uV_RX10_72 {c : Cond} : GoodIn (c :: wsR) (wsV RX10 72 RX10 yX10_leastBelow (wu yX10_leastBelow cX10_leastBelow 4 (some .int))) := gwV uw_61_11 uw_61_12 uw_61_13 uw_2_5 (wu_in uw_61_14)
theorem uV_RX11_107 {c : Cond} : GoodIn (c :: wsR) (wsV RX11 107 RX7 yX7_readFrom (wu yX7_readFrom cX7_readFrom 5 none)) := gwV uw_9_3 uw_9_4 uw_9_5 uw_0_18 (wu_in uw_9_6)
theorem uV_RX11_113 {c : Cond} : GoodIn (c :: wsR) (wsV RX11 113 RX5 yX5_moveTo (wu yX5_moveTo cX5_moveTo 2 none)) := gwV uw_18_6 uw_18_7 uw_18_8 uw_1_6 (wu_in uw_18_9)
theorem uV_RX11_117 {c : Cond} : GoodIn (c :: wsR) (wsV RX11 117 RX0 yX0_forgetAll (wu yX0_forgetAll cX0_forgetAll 2 none)) := gwV uw_18_23 uw_19_0 uw_19_1 uw_1_13 (wu_in uw_19_2)
theorem uV_RX11_129 {c : Cond} : GoodIn (c :: wsR) (wsV RX11 129 RX3 yX3_readInto (wu yX3_readInto cX3_readInto 5 none)) := gwV uw_26_13 uw_26_14 uw_26_15 uw_1_2 (wu_in uw_26_16)
theorem uV_RX11_133 {c : Cond} : GoodIn (c :: wsR) (wsV RX11 133 RX7 yX7_hasStreet (wu yX7_hasStreet cX7_hasStreet 2 (some .boolean))) := gwV uw_30_4 uw_30_5 uw_30_6 uw_0_18 (wu_in uw_30_7)
theorem uV_RX11_144 {c : Cond} : GoodIn (c :: wsR) (wsV RX11 144 RX7 yX7_signOn (wu yX7_signOn cX7_signOn 3 (some .int))) := gwV uw_30_8 uw_30_9 uw_30_10 uw_0_18 (wu_in uw_30_11)
theorem uV_RX11_148 {c : Cond} : GoodIn (c :: wsR) (wsV RX11 148 RX7 yX7_sideOf (wu yX7_sideOf cX7_sideOf 3 (some .int))) := gwV uw_31_5 uw_18_3 uw_18_4 uw_0_18 (wu_in uw_18_5)
theorem uV_RX11_151 {c : Cond} : GoodIn (c :: wsR) (wsV RX11 151 RX7 yX7_isOpen (wu yX7_isOpen cX7_isOpen 7 (some .boolean))) := gwV uw_31_6 uw_31_7 uw_31_8 uw_0_18 (wu_in uw_31_9)
theorem uV_RX11_158 {c : Cond} : GoodIn (c :: wsR) (wsV RX11 158 RX5 yX5_hasTown (wu yX5_hasTown cX5_hasTown 1 (some .boolean))) := gwV uw_33_17 uw_33_18 uw_33_19 uw_1_6 (wu_in uw_33_20)
theorem uV_RX11_167 {c : Cond} : GoodIn (c :: wsR) (wsV RX11 167 RX0 yX0_forget (wu yX0_forget cX0_forget 2 none)) := gwV uw_33_22 uw_33_23 uw_34_0 uw_1_13 (wu_in uw_34_1)
theorem uV_RX11_170 {c : Cond} : GoodIn (c :: wsR) (wsV RX11 170 RX11 yX11_hasMap (wu yX11_hasMap cX11_hasMap 2 (some .boolean))) := gwV uw_34_15 uw_34_16 uw_34_17 uw_0_2 (wu_in uw_34_18)
theorem uV_RX11_176 {c : Cond} : GoodIn (c :: wsR) (wsV RX11 176 RX11 yX11_hasCorner (wu yX11_hasCorner cX11_hasCorner 2 (some .boolean))) := gwV uw_35_19 uw_35_20 uw_35_21 uw_0_2 (wu_in uw_35_22)
theorem uV_RX11_179 {c : Cond} : GoodIn (c :: wsR) (wsV RX11 179 RX0 yX0_refresh (wu yX0_refresh cX0_refresh 2 none)) := gwV uw_36_0 uw_36_1 uw_36_2 uw_1_13 (wu_in uw_36_3)
theorem uV_RX11_182 {c : Cond} : GoodIn (c :: wsR) (wsV RX11 182 RX0 yX0_hoursBy (wu yX0_hoursBy cX0_hoursBy 5 (some .int))) := gwV uw_37_14 uw_37_15 uw_37_16 uw_1_13 (wu_in uw_37_17)
theorem uV_RX11_186 {c : Cond} : GoodIn (c :: wsR) (wsV RX11 186 RX0 yX0_streetBy (wu yX0_streetBy cX0_streetBy 4 (some .int))) := gwV uw_37_18 uw_37_19 uw_37_20 uw_1_13 (wu_in uw_37_21)
theorem uV_RX11_189 {c : Cond} : GoodIn (c :: wsR) (wsV RX11 189 RX11 yX11_hasRuleOrNone (wu yX11_hasRuleOrNone cX11_hasRuleOrNone 2 (some .boolean))) := gwV uw_39_1 uw_39_2 uw_39_3 uw_0_2 (wu_in uw_39_4)
theorem uV_RX11_199 {c : Cond} : GoodIn (c :: wsR) (wsV RX11 199 RX9 yX9_setOut (wu yX9_setOut cX9_setOut 7 none)) := gwV uw_39_5 uw_39_6 uw_39_7 uw_4_4 (wu_in uw_39_8)
theorem uV_RX11_205 {c : Cond} : GoodIn (c :: wsR) (wsV RX11 205 RX11 yX11_hasWalker (wu yX11_hasWalker cX11_hasWalker 2 (some .boolean))) := gwV uw_40_11 uw_40_12 uw_40_13 uw_0_2 (wu_in uw_40_14)
theorem uV_RX11_208 {c : Cond} : GoodIn (c :: wsR) (wsV RX11 208 RX9 yX9_tell (wu yX9_tell cX9_tell 2 (some .int))) := gwV uw_40_15 uw_40_16 uw_40_17 uw_4_4 (wu_in uw_40_18)
theorem uV_RX11_212 {c : Cond} : GoodIn (c :: wsR) (wsV RX11 212 RX0 yX0_refreshAll (wu yX0_refreshAll cX0_refreshAll 2 none)) := gwV uw_41_13 uw_41_14 uw_41_15 uw_1_13 (wu_in uw_41_16)
theorem uV_RX11_215 {c : Cond} : GoodIn (c :: wsR) (wsV RX11 215 RX1 yX1_takeSteps (wu yX1_takeSteps cX1_takeSteps 4 (some .int))) := gwV uw_41_19 uw_41_20 uw_41_21 uw_1_17 (wu_in uw_41_22)
theorem uV_RX11_225 {c : Cond} : GoodIn (c :: wsR) (wsV RX11 225 RX4 yX4_firstArrival (wu yX4_firstArrival cX4_firstArrival 8 (some .int))) := gwV uw_49_14 uw_49_15 uw_49_16 uw_2_1 (wu_in uw_49_17)
theorem uV_RX11_229 {c : Cond} : GoodIn (c :: wsR) (wsV RX11 229 RX4 yX4_streetOnWay (wu yX4_streetOnWay cX4_streetOnWay 11 (some .int))) := gwV uw_51_14 uw_51_15 uw_51_16 uw_2_1 (wu_in uw_51_17)
theorem uV_RX11_232 {c : Cond} : GoodIn (c :: wsR) (wsV RX11 232 RX8 yX8_tellComing (wu yX8_tellComing cX8_tellComing 5 (some .int))) := gwV uw_53_6 uw_53_7 uw_53_8 uw_1_21 (wu_in uw_53_9)
theorem uV_RX11_236 {c : Cond} : GoodIn (c :: wsR) (wsV RX11 236 RX8 yX8_tellCircle (wu yX8_tellCircle cX8_tellCircle 4 (some .int))) := gwV uw_54_13 uw_54_14 uw_54_15 uw_1_21 (wu_in uw_54_16)
theorem uV_RX11_239 {c : Cond} : GoodIn (c :: wsR) (wsV RX11 239 RX8 yX8_fewestQuestions (wu yX8_fewestQuestions cX8_fewestQuestions 7 (some .int))) := gwV uw_55_18 uw_55_19 uw_55_20 uw_1_21 (wu_in uw_55_21)
theorem uV_RX11_242 {c : Cond} : GoodIn (c :: wsR) (wsV RX11 242 RX7 yX7_commonSign (wu yX7_commonSign cX7_commonSign 4 (some .int))) := gwV uw_57_22 uw_57_23 uw_58_0 uw_0_18 (wu_in uw_58_1)
theorem uV_RX11_245 {c : Cond} : GoodIn (c :: wsR) (wsV RX11 245 RX7 yX7_commonSignWrong (wu yX7_commonSignWrong cX7_commonSignWrong 4 (some .int))) := gwV uw_58_19 uw_58_20 uw_58_21 uw_0_18 (wu_in uw_58_22)
theorem uV_RX11_257 {c : Cond} : GoodIn (c :: wsR) (wsV RX11 257 RX10 yX10_takeDay (wu yX10_takeDay cX10_takeDay 3 none)) := gwV uw_59_19 uw_59_20 uw_59_21 uw_2_5 (wu_in uw_59_22)
theorem uV_RX11_260 {c : Cond} : GoodIn (c :: wsR) (wsV RX11 260 RX10 yX10_findClash (wu yX10_findClash cX10_findClash 4 (some .int))) := gwV uw_60_2 uw_60_3 uw_60_4 uw_2_5 (wu_in uw_60_5)
theorem uV_RX11_264 {c : Cond} : GoodIn (c :: wsR) (wsV RX11 264 RX10 yX10_findLeast (wu yX10_findLeast cX10_findLeast 1 (some .int))) := gwV uw_61_7 uw_61_8 uw_61_9 uw_2_5 (wu_in uw_61_10)
theorem uV_RX11_276 {c : Cond} : GoodIn (c :: wsR) (wsV RX11 276 RX5 yX5_fittingDays (wu yX5_fittingDays cX5_fittingDays 3 (some .int))) := gwV uw_63_1 uw_63_2 uw_63_3 uw_1_6 (wu_in uw_63_4)
theorem uV_RX11_279 {c : Cond} : GoodIn (c :: wsR) (wsV RX11 279 RX5 yX5_streetToLookAt (wu yX5_streetToLookAt cX5_streetToLookAt 6 (some .int))) := gwV uw_63_10 uw_63_11 uw_63_12 uw_1_6 (wu_in uw_63_13)
theorem uV_RX11_288 {c : Cond} : GoodIn (c :: wsR) (wsV RX11 288 RX8 yX8_fittingMaps (wu yX8_fittingMaps cX8_fittingMaps 4 (some .int))) := gwV uw_64_22 uw_64_23 uw_65_0 uw_1_21 (wu_in uw_65_1)
theorem uV_RX11_292 {c : Cond} : GoodIn (c :: wsR) (wsV RX11 292 RX4 yX4_tellBest (wu yX4_tellBest cX4_tellBest 10 (some .int))) := gwV uw_65_21 uw_65_22 uw_65_23 uw_2_1 (wu_in uw_66_0)
theorem uV_RX11_298 {c : Cond} : GoodIn (c :: wsR) (wsV RX11 298 RX8 yX8_tellStrangers (wu yX8_tellStrangers cX8_tellStrangers 13 (some .int))) := gwV uw_67_9 uw_67_10 uw_67_11 uw_1_21 (wu_in uw_67_12)
theorem uV_RX11_310 {c : Cond} : GoodIn (c :: wsR) (wsV RX11 310 RX5 yX5_copyFrom (wu yX5_copyFrom cX5_copyFrom 3 none)) := gwV uw_69_3 uw_69_4 uw_69_5 uw_1_6 (wu_in uw_69_6)
theorem uV_RX11_95 {c : Cond} : GoodIn (c :: wsR) (wsV RX11 95 RX6 yX6_hasRoom (wu yX6_hasRoom cX6_hasRoom 1 (some .boolean))) := gwV uw_7_18 uw_7_19 uw_7_20 uw_0_14 (wu_in uw_7_21)
theorem uV_RX11_99 {c : Cond} : GoodIn (c :: wsR) (wsV RX11 99 RX6 yX6_append (wu yX6_append cX6_append 3 none)) := gwV uw_7_23 uw_8_0 uw_8_1 uw_0_14 (wu_in uw_8_2)
theorem uV_RX12_101 {c : Cond} : GoodIn (c :: wsR) (wsV RX12 101 RX12 yX12_isLetter (wu yX12_isLetter cX12_isLetter 2 (some .boolean))) := gwV uw_20_12 uw_20_13 uw_20_14 uw_0_5 (wu_in uw_20_15)
theorem uV_RX12_105 {c : Cond} : GoodIn (c :: wsR) (wsV RX12 105 RX12 yX12_isWord (wu yX12_isWord cX12_isWord 6 (some .boolean))) := gwV uw_20_8 uw_20_9 uw_20_10 uw_0_5 (wu_in uw_20_11)
theorem uV_RX12_109 {c : Cond} : GoodIn (c :: wsR) (wsV RX12 109 RX12 yX12_passWord (wu yX12_passWord cX12_passWord 1 none)) := gwV uw_21_13 uw_21_14 uw_21_15 uw_0_5 (wu_in uw_21_16)
theorem uV_RX12_112 {c : Cond} : GoodIn (c :: wsR) (wsV RX12 112 RX12 yX12_isDigit (wu yX12_isDigit cX12_isDigit 2 (some .boolean))) := gwV uw_21_21 uw_21_22 uw_21_23 uw_0_5 (wu_in uw_22_0)
theorem uV_RX12_115 {c : Cond} : GoodIn (c :: wsR) (wsV RX12 115 RX12 yX12_fails (wu yX12_fails cX12_fails 3 (some .boolean))) := gwV uw_21_0 uw_21_1 uw_21_2 uw_0_5 (wu_in uw_21_3)
theorem uV_RX12_162 {c : Cond} : GoodIn (c :: wsR) (wsV RX12 162 RX12 yX12_puts (wu yX12_puts cX12_puts 3 none)) := gwV uw_24_23 uw_25_0 uw_25_1 uw_0_5 (wu_in uw_25_2)
theorem uV_RX12_167 {c : Cond} : GoodIn (c :: wsR) (wsV RX12 167 RX12 yX12_numberHere (wu yX12_numberHere cX12_numberHere 5 (some .boolean))) := gwV uw_21_17 uw_21_18 uw_21_19 uw_0_5 (wu_in uw_21_20)
theorem uV_RX12_170 {c : Cond} : GoodIn (c :: wsR) (wsV RX12 170 RX12 yX12_makes (wu yX12_makes cX12_makes 2 (some .boolean))) := gwV uw_24_19 uw_24_20 uw_24_21 uw_0_5 (wu_in uw_24_22)
theorem uV_RX12_173 {c : Cond} : GoodIn (c :: wsR) (wsV RX12 173 RX12 yX12_wordHere (wu yX12_wordHere cX12_wordHere 1 (some .int))) := gwV uw_25_3 uw_25_4 uw_25_5 uw_0_5 (wu_in uw_25_6)
theorem uV_RX12_176 {c : Cond} : GoodIn (c :: wsR) (wsV RX12 176 RX12 yX12_value (wu yX12_value cX12_value 3 (some .boolean))) := gwV uw_24_14 uw_24_15 uw_24_16 uw_0_5 (wu_in uw_24_17)
theorem uV_RX12_180 {c : Cond} : GoodIn (c :: wsR) (wsV RX12 180 RX12 yX12_term (wu yX12_term cX12_term 2 (some .boolean))) := gwV uw_24_10 uw_24_11 uw_24_12 uw_0_5 (wu_in uw_24_13)
theorem uV_RX12_183 {c : Cond} : GoodIn (c :: wsR) (wsV RX12 183 RX12 yX12_sum (wu yX12_sum cX12_sum 2 (some .boolean))) := gwV uw_24_6 uw_24_7 uw_24_8 uw_0_5 (wu_in uw_24_9)
theorem uV_RX12_188 {c : Cond} : GoodIn (c :: wsR) (wsV RX12 188 RX12 yX12_opens (wu yX12_opens cX12_opens 2 (some .boolean))) := gwV uw_23_22 uw_23_23 uw_24_0 uw_0_5 (wu_in uw_24_1)
theorem uV_RX12_191 {c : Cond} : GoodIn (c :: wsR) (wsV RX12 191 RX12 yX12_compare (wu yX12_compare cX12_compare 5 (some .boolean))) := gwV uw_24_2 uw_24_3 uw_24_4 uw_0_5 (wu_in uw_24_5)
theorem uV_RX12_194 {c : Cond} : GoodIn (c :: wsR) (wsV RX12 194 RX12 yX12_settles (wu yX12_settles cX12_settles 2 none)) := gwV uw_25_21 uw_25_22 uw_25_23 uw_0_5 (wu_in uw_26_0)
theorem uV_RX12_197 {c : Cond} : GoodIn (c :: wsR) (wsV RX12 197 RX12 yX12_isInside (wu yX12_isInside cX12_isInside 2 (some .boolean))) := gwV uw_26_4 uw_26_5 uw_26_6 uw_0_5 (wu_in uw_26_7)
theorem uV_RX12_200 {c : Cond} : GoodIn (c :: wsR) (wsV RX12 200 RX12 yX12_fact (wu yX12_fact cX12_fact 3 (some .boolean))) := gwV uw_23_17 uw_23_18 uw_23_19 uw_0_5 (wu_in uw_23_20)
theorem uV_RX12_203 {c : Cond} : GoodIn (c :: wsR) (wsV RX12 203 RX12 yX12_closes (wu yX12_closes cX12_closes 1 none)) := gwV uw_25_17 uw_25_18 uw_25_19 uw_0_5 (wu_in uw_25_20)
theorem uV_RX12_212 {c : Cond} : GoodIn (c :: wsR) (wsV RX12 212 RX12 yX12_takesWord (wu yX12_takesWord cX12_takesWord 3 (some .boolean))) := gwV uw_23_5 uw_23_6 uw_23_7 uw_0_5 (wu_in uw_23_8)
theorem uV_RX12_215 {c : Cond} : GoodIn (c :: wsR) (wsV RX12 215 RX12 yX12_tested (wu yX12_tested cX12_tested 3 (some .boolean))) := gwV uw_23_9 uw_23_10 uw_23_11 uw_0_5 (wu_in uw_23_12)
theorem uV_RX12_221 {c : Cond} : GoodIn (c :: wsR) (wsV RX12 221 RX12 yX12_signHere (wu yX12_signHere cX12_signHere 2 (some .int))) := gwV uw_22_12 uw_22_13 uw_22_14 uw_0_5 (wu_in uw_22_15)
theorem uV_RX12_227 {c : Cond} : GoodIn (c :: wsR) (wsV RX12 227 RX12 yX12_areSignsHere (wu yX12_areSignsHere cX12_areSignsHere 4 (some .boolean))) := gwV uw_22_8 uw_22_9 uw_22_10 uw_0_5 (wu_in uw_22_11)
theorem uV_RX12_238 {c : Cond} : GoodIn (c :: wsR) (wsV RX12 238 RX12 yX12_areCornersHere (wu yX12_areCornersHere cX12_areCornersHere 2 (some .boolean))) := gwV uw_21_8 uw_21_9 uw_21_10 uw_0_5 (wu_in uw_21_11)
theorem uV_RX12_243 {c : Cond} : GoodIn (c :: wsR) (wsV RX12 243 RX12 yX12_isStreetHere (wu yX12_isStreetHere cX12_isStreetHere 4 (some .boolean))) := gwV uw_22_4 uw_22_5 uw_22_6 uw_0_5 (wu_in uw_22_7)
theorem uV_RX12_248 {c : Cond} : GoodIn (c :: wsR) (wsV RX12 248 RX12 yX12_isSaintHere (wu yX12_isSaintHere cX12_isSaintHere 2 (some .boolean))) := gwV uw_22_16 uw_22_17 uw_22_18 uw_0_5 (wu_in uw_22_19)
theorem uV_RX12_251 {c : Cond} : GoodIn (c :: wsR) (wsV RX12 251 RX12 yX12_isLiftHere (wu yX12_isLiftHere cX12_isLiftHere 3 (some .boolean))) := gwV uw_22_20 uw_22_21 uw_22_22 uw_0_5 (wu_in uw_22_23)
theorem uV_RX12_264 {c : Cond} : GoodIn (c :: wsR) (wsV RX12 264 RX12 yX12_doingSort (wu yX12_doingSort cX12_doingSort 1 (some .int))) := gwV uw_20_16 uw_20_17 uw_20_18 uw_0_5 (wu_in uw_20_19)
theorem uV_RX12_270 {c : Cond} : GoodIn (c :: wsR) (wsV RX12 270 RX12 yX12_townLineHere (wu yX12_townLineHere cX12_townLineHere 2 (some .boolean))) := gwV uw_21_4 uw_21_5 uw_21_6 uw_0_5 (wu_in uw_21_7)
theorem uV_RX12_273 {c : Cond} : GoodIn (c :: wsR) (wsV RX12 273 RX12 yX12_isDoingHere (wu yX12_isDoingHere cX12_isDoingHere 3 (some .boolean))) := gwV uw_23_0 uw_23_1 uw_23_2 uw_0_5 (wu_in uw_23_3)
theorem uV_RX12_276 {c : Cond} : GoodIn (c :: wsR) (wsV RX12 276 RX12 yX12_clauseHere (wu yX12_clauseHere cX12_clauseHere 4 (some .boolean))) := gwV uw_19_20 uw_19_21 uw_19_22 uw_0_5 (wu_in uw_19_23)
theorem uV_RX12_282 {c : Cond} : GoodIn (c :: wsR) (wsV RX12 282 RX12 yX12_readsAll (wu yX12_readsAll cX12_readsAll 2 (some .boolean))) := gwV uw_19_13 uw_19_14 uw_19_15 uw_0_5 (wu_in uw_19_16)
theorem uV_RX12_288 {c : Cond} : GoodIn (c :: wsR) (wsV RX12 288 RX12 yX12_push (wu yX12_push cX12_push 3 none)) := gwV uw_48_15 uw_48_16 uw_48_17 uw_0_5 (wu_in uw_48_18)
theorem uV_RX12_292 {c : Cond} : GoodIn (c :: wsR) (wsV RX12 292 RX12 yX12_pop (wu yX12_pop cX12_pop 1 (some .long))) := gwV uw_48_19 uw_48_20 uw_48_21 uw_0_5 (wu_in uw_48_22)
theorem uV_RX12_300 {c : Cond} : GoodIn (c :: wsR) (wsV RX12 300 RX12 yX12_streetOf (wu yX12_streetOf cX12_streetOf 3 (some .int))) := gwV uw_30_21 uw_30_22 uw_30_23 uw_0_5 (wu_in uw_31_0)
theorem uV_RX12_307 {c : Cond} : GoodIn (c :: wsR) (wsV RX12 307 RX12 yX12_hasSign (wu yX12_hasSign cX12_hasSign 4 (some .boolean))) := gwV uw_32_17 uw_32_18 uw_32_19 uw_0_5 (wu_in uw_32_20)
theorem uV_RX12_311 {c : Cond} : GoodIn (c :: wsR) (wsV RX12 311 RX12 yX12_isClosed (wu yX12_isClosed cX12_isClosed 4 (some .boolean))) := gwV uw_33_0 uw_33_1 uw_33_2 uw_0_5 (wu_in uw_33_3)
theorem uV_RX12_314 {c : Cond} : GoodIn (c :: wsR) (wsV RX12 314 RX12 yX12_isAt (wu yX12_isAt cX12_isAt 3 (some .boolean))) := gwV uw_32_2 uw_32_3 uw_32_4 uw_0_5 (wu_in uw_32_5)
theorem uV_RX12_317 {c : Cond} : GoodIn (c :: wsR) (wsV RX12 317 RX12 yX12_isDayFor (wu yX12_isDayFor cX12_isDayFor 4 (some .boolean))) := gwV uw_32_13 uw_32_14 uw_32_15 uw_0_5 (wu_in uw_32_16)
theorem uV_RX12_320 {c : Cond} : GoodIn (c :: wsR) (wsV RX12 320 RX12 yX12_isLifted (wu yX12_isLifted cX12_isLifted 5 (some .boolean))) := gwV uw_33_4 uw_33_5 uw_33_6 uw_0_5 (wu_in uw_33_7)
theorem uV_RX12_323 {c : Cond} : GoodIn (c :: wsR) (wsV RX12 323 RX12 yX12_isStreet (wu yX12_isStreet cX12_isStreet 2 (some .boolean))) := gwV uw_30_17 uw_30_18 uw_30_19 uw_0_5 (wu_in uw_30_20)
theorem uV_RX12_328 {c : Cond} : GoodIn (c :: wsR) (wsV RX12 328 RX12 yX12_isCorner (wu yX12_isCorner cX12_isCorner 2 (some .boolean))) := gwV uw_31_22 uw_31_23 uw_32_0 uw_0_5 (wu_in uw_32_1)
theorem uV_RX12_334 {c : Cond} : GoodIn (c :: wsR) (wsV RX12 334 RX12 yX12_isOpen (wu yX12_isOpen cX12_isOpen 4 (some .boolean))) := gwV uw_32_9 uw_32_10 uw_32_11 uw_0_5 (wu_in uw_32_12)
theorem uV_RX12_337 {c : Cond} : GoodIn (c :: wsR) (wsV RX12 337 RX12 yX12_isTown (wu yX12_isTown cX12_isTown 1 (some .boolean))) := gwV uw_34_7 uw_34_8 uw_34_9 uw_0_5 (wu_in uw_34_10)
theorem uV_RX12_342 {c : Cond} : GoodIn (c :: wsR) (wsV RX12 342 RX12 yX12_isMap (wu yX12_isMap cX12_isMap 2 (some .boolean))) := gwV uw_35_3 uw_35_4 uw_35_5 uw_0_5 (wu_in uw_35_6)
theorem uV_RX12_348 {c : Cond} : GoodIn (c :: wsR) (wsV RX12 348 RX12 yX12_otherOf (wu yX12_otherOf cX12_otherOf 3 (some .int))) := gwV uw_38_15 uw_38_16 uw_38_17 uw_0_5 (wu_in uw_38_18)
theorem uV_RX12_351 {c : Cond} : GoodIn (c :: wsR) (wsV RX12 351 RX12 yX12_takesMap (wu yX12_takesMap cX12_takesMap 3 none)) := gwV uw_38_3 uw_38_4 uw_38_5 uw_0_5 (wu_in uw_38_6)
theorem uV_RX12_354 {c : Cond} : GoodIn (c :: wsR) (wsV RX12 354 RX12 yX12_spreads (wu yX12_spreads cX12_spreads 7 none)) := gwV uw_38_7 uw_38_8 uw_38_9 uw_0_5 (wu_in uw_38_10)
theorem uV_RX12_357 {c : Cond} : GoodIn (c :: wsR) (wsV RX12 357 RX12 yX12_streetFrom (wu yX12_streetFrom cX12_streetFrom 3 (some .int))) := gwV uw_38_11 uw_38_12 uw_38_13 uw_0_5 (wu_in uw_38_14)
theorem uV_RX12_360 {c : Cond} : GoodIn (c :: wsR) (wsV RX12 360 RX12 yX12_isRule (wu yX12_isRule cX12_isRule 2 (some .boolean))) := gwV uw_39_23 uw_40_0 uw_40_1 uw_0_5 (wu_in uw_40_2)
theorem uV_RX12_363 {c : Cond} : GoodIn (c :: wsR) (wsV RX12 363 RX12 yX12_setsOut (wu yX12_setsOut cX12_setsOut 8 none)) := gwV uw_40_3 uw_40_4 uw_40_5 uw_0_5 (wu_in uw_40_6)
theorem uV_RX12_367 {c : Cond} : GoodIn (c :: wsR) (wsV RX12 367 RX12 yX12_isWalker (wu yX12_isWalker cX12_isWalker 2 (some .boolean))) := gwV uw_41_0 uw_41_1 uw_41_2 uw_0_5 (wu_in uw_41_3)
theorem uV_RX12_372 {c : Cond} : GoodIn (c :: wsR) (wsV RX12 372 RX12 yX12_walkerOf (wu yX12_walkerOf cX12_walkerOf 3 (some .int))) := gwV uw_41_4 uw_41_5 uw_41_6 uw_0_5 (wu_in uw_41_7)
theorem uV_RX12_375 {c : Cond} : GoodIn (c :: wsR) (wsV RX12 375 RX12 yX12_askedToday (wu yX12_askedToday cX12_askedToday 2 (some .boolean))) := gwV uw_47_5 uw_47_6 uw_47_7 uw_0_5 (wu_in uw_47_8)
theorem uV_RX12_381 {c : Cond} : GoodIn (c :: wsR) (wsV RX12 381 RX12 yX12_takesDay (wu yX12_takesDay cX12_takesDay 3 none)) := gwV uw_47_9 uw_47_10 uw_47_11 uw_0_5 (wu_in uw_47_12)
theorem uV_RX12_387 {c : Cond} : GoodIn (c :: wsR) (wsV RX12 387 RX12 yX12_canGo (wu yX12_canGo cX12_canGo 2 (some .boolean))) := gwV uw_47_17 uw_47_18 uw_47_19 uw_0_5 (wu_in uw_47_20)
theorem uV_RX12_390 {c : Cond} : GoodIn (c :: wsR) (wsV RX12 390 RX12 yX12_asideOf (wu yX12_asideOf cX12_asideOf 3 (some .int))) := gwV uw_48_6 uw_48_7 uw_48_8 uw_0_5 (wu_in uw_48_9)
theorem uV_RX12_395 {c : Cond} : GoodIn (c :: wsR) (wsV RX12 395 RX12 yX12_words (wu yX12_words cX12_words 4 none)) := gwV uw_47_21 uw_47_22 uw_47_23 uw_0_5 (wu_in uw_48_0)
theorem uV_RX12_398 {c : Cond} : GoodIn (c :: wsR) (wsV RX12 398 RX12 yX12_mayDo (wu yX12_mayDo cX12_mayDo 3 (some .boolean))) := gwV uw_48_2 uw_48_3 uw_48_4 uw_0_5 (wu_in uw_48_5)
theorem uV_RX12_401 {c : Cond} : GoodIn (c :: wsR) (wsV RX12 401 RX12 yX12_reckons (wu yX12_reckons cX12_reckons 11 (some .long))) := gwV uw_48_10 uw_48_11 uw_48_12 uw_0_5 (wu_in uw_48_13)
theorem uV_RX12_405 {c : Cond} : GoodIn (c :: wsR) (wsV RX12 405 RX12 yX12_looks (wu yX12_looks cX12_looks 2 none)) := gwV uw_47_0 uw_47_1 uw_47_2 uw_0_5 (wu_in uw_47_3)
theorem uV_RX12_408 {c : Cond} : GoodIn (c :: wsR) (wsV RX12 408 RX12 yX12_doing (wu yX12_doing cX12_doing 5 (some .int))) := gwV uw_47_13 uw_47_14 uw_47_15 uw_0_5 (wu_in uw_47_16)
theorem uV_RX12_411 {c : Cond} : GoodIn (c :: wsR) (wsV RX12 411 RX12 yX12_takesStreet (wu yX12_takesStreet cX12_takesStreet 5 none)) := gwV uw_49_2 uw_49_3 uw_49_4 uw_0_5 (wu_in uw_49_5)
theorem uV_RX12_416 {c : Cond} : GoodIn (c :: wsR) (wsV RX12 416 RX12 yX12_isThere (wu yX12_isThere cX12_isThere 2 (some .boolean))) := gwV uw_46_15 uw_46_16 uw_46_17 uw_0_5 (wu_in uw_46_18)
theorem uV_RX12_419 {c : Cond} : GoodIn (c :: wsR) (wsV RX12 419 RX12 yX12_steps (wu yX12_steps cX12_steps 4 (some .boolean))) := gwV uw_46_19 uw_46_20 uw_46_21 uw_0_5 (wu_in uw_46_22)
theorem uV_RX12_426 {c : Cond} : GoodIn (c :: wsR) (wsV RX12 426 RX12 yX12_keeps (wu yX12_keeps cX12_keeps 2 none)) := gwV uw_54_1 uw_54_2 uw_54_3 uw_0_5 (wu_in uw_54_4)
theorem uV_RX12_429 {c : Cond} : GoodIn (c :: wsR) (wsV RX12 429 RX12 yX12_putsBack (wu yX12_putsBack cX12_putsBack 2 none)) := gwV uw_54_5 uw_54_6 uw_54_7 uw_0_5 (wu_in uw_54_8)
theorem uV_RX12_432 {c : Cond} : GoodIn (c :: wsR) (wsV RX12 432 RX12 yX12_asHeIs (wu yX12_asHeIs cX12_asHeIs 2 (some .int))) := gwV uw_55_10 uw_55_11 uw_55_12 uw_0_5 (wu_in uw_55_13)
theorem uV_RX12_435 {c : Cond} : GoodIn (c :: wsR) (wsV RX12 435 RX12 yX12_placeAt (wu yX12_placeAt cX12_placeAt 4 (some .int))) := gwV uw_57_10 uw_57_11 uw_57_12 uw_0_5 (wu_in uw_57_13)
theorem uV_RX12_439 {c : Cond} : GoodIn (c :: wsR) (wsV RX12 439 RX12 yX12_could (wu yX12_could cX12_could 6 none)) := gwV uw_57_6 uw_57_7 uw_57_8 uw_0_5 (wu_in uw_57_9)
theorem uV_RX12_445 {c : Cond} : GoodIn (c :: wsR) (wsV RX12 445 RX12 yX12_leads (wu yX12_leads cX12_leads 12 none)) := gwV uw_57_14 uw_57_15 uw_57_16 uw_0_5 (wu_in uw_57_17)
theorem uV_RX12_449 {c : Cond} : GoodIn (c :: wsR) (wsV RX12 449 RX12 yX12_firstOpen (wu yX12_firstOpen cX12_firstOpen 6 (some .int))) := gwV uw_51_6 uw_51_7 uw_51_8 uw_0_5 (wu_in uw_51_9)
theorem uV_RX12_453 {c : Cond} : GoodIn (c :: wsR) (wsV RX12 453 RX12 yX12_canLook (wu yX12_canLook cX12_canLook 4 (some .boolean))) := gwV uw_50_22 uw_50_23 uw_51_0 uw_0_5 (wu_in uw_51_1)
theorem uV_RX12_456 {c : Cond} : GoodIn (c :: wsR) (wsV RX12 456 RX12 yX12_reaches (wu yX12_reaches cX12_reaches 9 (some .int))) := gwV uw_51_2 uw_51_3 uw_51_4 uw_0_5 (wu_in uw_51_5)
theorem uV_RX12_462 {c : Cond} : GoodIn (c :: wsR) (wsV RX12 462 RX12 yX12_wayFrom (wu yX12_wayFrom cX12_wayFrom 6 (some .int))) := gwV uw_52_22 uw_52_23 uw_53_0 uw_0_5 (wu_in uw_53_1)
theorem uV_RX12_465 {c : Cond} : GoodIn (c :: wsR) (wsV RX12 465 RX12 yX12_cheapOf (wu yX12_cheapOf cX12_cheapOf 7 (some .int))) := gwV uw_58_11 uw_58_12 uw_58_13 uw_0_5 (wu_in uw_58_14)
theorem uV_RX12_468 {c : Cond} : GoodIn (c :: wsR) (wsV RX12 468 RX12 yX12_comesTo (wu yX12_comesTo cX12_comesTo 9 (some .int))) := gwV uw_61_23 uw_62_0 uw_62_1 uw_0_5 (wu_in uw_62_2)
theorem uV_RX12_472 {c : Cond} : GoodIn (c :: wsR) (wsV RX12 472 RX12 yX12_doneBy (wu yX12_doneBy cX12_doneBy 5 (some .int))) := gwV uw_61_19 uw_61_20 uw_61_21 uw_0_5 (wu_in uw_61_22)
theorem uV_RX12_475 {c : Cond} : GoodIn (c :: wsR) (wsV RX12 475 RX12 yX12_isClash (wu yX12_isClash cX12_isClash 4 (some .boolean))) := gwV uw_62_3 uw_62_4 uw_62_5 uw_0_5 (wu_in uw_62_6)
theorem uV_RX12_481 {c : Cond} : GoodIn (c :: wsR) (wsV RX12 481 RX12 yX12_fitting (wu yX12_fitting cX12_fitting 5 (some .int))) := gwV uw_64_0 uw_64_1 uw_64_2 uw_0_5 (wu_in uw_64_3)
theorem uV_RX12_484 {c : Cond} : GoodIn (c :: wsR) (wsV RX12 484 RX12 yX12_mostAlike (wu yX12_mostAlike cX12_mostAlike 7 (some .int))) := gwV uw_64_4 uw_64_5 uw_64_6 uw_0_5 (wu_in uw_64_7)
theorem uV_RX12_487 {c : Cond} : GoodIn (c :: wsR) (wsV RX12 487 RX12 yX12_isHis (wu yX12_isHis cX12_isHis 4 (some .boolean))) := gwV uw_65_13 uw_65_14 uw_65_15 uw_0_5 (wu_in uw_65_16)
theorem uV_RX12_490 {c : Cond} : GoodIn (c :: wsR) (wsV RX12 490 RX12 yX12_sumOf (wu yX12_sumOf cX12_sumOf 5 (some .int))) := gwV uw_66_16 uw_66_17 uw_66_18 uw_0_5 (wu_in uw_66_19)
theorem uV_RX12_507 {c : Cond} : GoodIn (c :: wsR) (wsV RX12 507 RX12 yX12_draw (wu yX12_draw cX12_draw 2 (some .int))) := gwV uw_68_5 uw_68_6 uw_68_7 uw_0_5 (wu_in uw_68_8)
theorem uV_RX12_87 {c : Cond} : GoodIn (c :: wsR) (wsV RX12 87 RX12 yX12_four (wu yX12_four cX12_four 3 none)) := gwV uw_8_8 uw_8_9 uw_8_10 uw_0_5 (wu_in uw_8_11)
theorem uV_RX12_97 {c : Cond} : GoodIn (c :: wsR) (wsV RX12 97 RX12 yX12_see (wu yX12_see cX12_see 1 (some .int))) := gwV uw_20_4 uw_20_5 uw_20_6 uw_0_5 (wu_in uw_20_7)
theorem uV_RX2_32 {c : Cond} : GoodIn (c :: wsR) (wsV RX2 32 RX2 yX2_isFull (wu yX2_isFull cX2_isFull 1 (some .boolean))) := gwV uw_27_14 uw_27_6 uw_27_7 uw_0_23 (wu_in uw_27_8)
theorem uV_RX3_101 {c : Cond} : GoodIn (c :: wsR) (wsV RX3 101 RX3 yX3_countItem (wu yX3_countItem cX3_countItem 1 none)) := gwV uw_29_1 uw_29_2 uw_29_3 uw_1_2 (wu_in uw_29_4)
theorem uV_RX3_104 {c : Cond} : GoodIn (c :: wsR) (wsV RX3 104 RX6 yX6_pass (wu yX6_pass cX6_pass 1 none)) := gwV uw_29_9 uw_16_20 uw_16_21 uw_0_14 (wu_in uw_16_22)
theorem uV_RX3_107 {c : Cond} : GoodIn (c :: wsR) (wsV RX3 107 RX6 yX6_look (wu yX6_look cX6_look 1 (some .int))) := gwV uw_29_15 uw_13_23 uw_14_0 uw_0_14 (wu_in uw_14_1)
theorem uV_RX3_110 {c : Cond} : GoodIn (c :: wsR) (wsV RX3 110 RX3 yX3_readValue (wu yX3_readValue cX3_readValue 1 none)) := gwV uw_28_17 uw_28_18 uw_28_19 uw_1_2 (wu_in uw_28_20)
theorem uV_RX3_113 {c : Cond} : GoodIn (c :: wsR) (wsV RX3 113 RX3 yX3_takeOperator (wu yX3_takeOperator cX3_takeOperator 1 (some .int))) := gwV uw_29_5 uw_29_6 uw_29_7 uw_1_2 (wu_in uw_29_8)
theorem uV_RX3_120 {c : Cond} : GoodIn (c :: wsR) (wsV RX3 120 RX6 yX6_readNumber (wu yX6_readNumber cX6_readNumber 4 (some .int))) := gwV uw_29_0 uw_13_2 uw_13_3 uw_0_14 (wu_in uw_13_4)
theorem uV_RX3_19 {c : Cond} : GoodIn (c :: wsR) (wsV RX3 19 RX2 yX2_clear (wu yX2_clear cX2_clear 1 none)) := gwV uw_26_20 uw_26_21 uw_26_22 uw_0_23 (wu_in uw_26_23)
theorem uV_RX3_28 {c : Cond} : GoodIn (c :: wsR) (wsV RX3 28 RX6 yX6_startReading (wu yX6_startReading cX6_startReading 1 none)) := gwV uw_27_3 uw_9_13 uw_9_14 uw_0_14 (wu_in uw_9_15)
theorem uV_RX3_35 {c : Cond} : GoodIn (c :: wsR) (wsV RX3 35 RX6 yX6_readWord (wu yX6_readWord cX6_readWord 8 (some .int))) := gwV uw_27_4 uw_9_20 uw_9_21 uw_0_14 (wu_in uw_9_22)
theorem uV_RX3_39 {c : Cond} : GoodIn (c :: wsR) (wsV RX3 39 RX2 yX2_isFull (wu yX2_isFull cX2_isFull 1 (some .boolean))) := gwV uw_27_5 uw_27_6 uw_27_7 uw_0_23 (wu_in uw_27_8)
theorem uV_RX3_46 {c : Cond} : GoodIn (c :: wsR) (wsV RX3 46 RX6 yX6_blame (wu yX6_blame cX6_blame 3 none)) := gwV uw_27_9 uw_12_9 uw_12_10 uw_0_14 (wu_in uw_12_11)
theorem uV_RX3_50 {c : Cond} : GoodIn (c :: wsR) (wsV RX3 50 RX2 yX2_addClause (wu yX2_addClause cX2_addClause 2 none)) := gwV uw_27_10 uw_27_11 uw_27_12 uw_0_23 (wu_in uw_27_13)
theorem uV_RX3_54 {c : Cond} : GoodIn (c :: wsR) (wsV RX3 54 RX6 yX6_isFaulty (wu yX6_isFaulty cX6_isFaulty 1 (some .boolean))) := gwV uw_27_15 uw_12_22 uw_12_23 uw_0_14 (wu_in uw_13_0)
theorem uV_RX3_59 {c : Cond} : GoodIn (c :: wsR) (wsV RX3 59 RX6 yX6_takeWord (wu yX6_takeWord cX6_takeWord 4 (some .boolean))) := gwV uw_27_16 uw_27_17 uw_27_18 uw_0_14 (wu_in uw_27_19)
theorem uV_RX3_63 {c : Cond} : GoodIn (c :: wsR) (wsV RX3 63 RX3 yX3_readTest (wu yX3_readTest cX3_readTest 4 none)) := gwV uw_27_20 uw_27_21 uw_27_22 uw_1_2 (wu_in uw_27_23)
theorem uV_RX3_66 {c : Cond} : GoodIn (c :: wsR) (wsV RX3 66 RX6 yX6_takeSemicolon (wu yX6_takeSemicolon cX6_takeSemicolon 1 (some .boolean))) := gwV uw_29_16 uw_17_12 uw_17_13 uw_0_14 (wu_in uw_17_14)
theorem uV_RX3_69 {c : Cond} : GoodIn (c :: wsR) (wsV RX3 69 RX3 yX3_readFact (wu yX3_readFact cX3_readFact 5 none)) := gwV uw_28_0 uw_28_1 uw_28_2 uw_1_2 (wu_in uw_28_11)
theorem uV_RX3_74 {c : Cond} : GoodIn (c :: wsR) (wsV RX3 74 RX2 yX2_addToken (wu yX2_addToken cX2_addToken 2 none)) := gwV uw_28_3 uw_28_4 uw_28_5 uw_0_23 (wu_in uw_28_6)
theorem uV_RX3_79 {c : Cond} : GoodIn (c :: wsR) (wsV RX3 79 RX3 yX3_addWaiting (wu yX3_addWaiting cX3_addWaiting 2 none)) := gwV uw_28_7 uw_28_8 uw_28_9 uw_1_2 (wu_in uw_28_10)
theorem uV_RX3_84 {c : Cond} : GoodIn (c :: wsR) (wsV RX3 84 RX6 yX6_takeByte (wu yX6_takeByte cX6_takeByte 2 (some .boolean))) := gwV uw_28_12 uw_17_16 uw_17_17 uw_0_14 (wu_in uw_17_18)
theorem uV_RX3_88 {c : Cond} : GoodIn (c :: wsR) (wsV RX3 88 RX3 yX3_readSum (wu yX3_readSum cX3_readSum 4 none)) := gwV uw_28_13 uw_28_14 uw_28_15 uw_1_2 (wu_in uw_28_16)
theorem uV_RX3_91 {c : Cond} : GoodIn (c :: wsR) (wsV RX3 91 RX3 yX3_readSign (wu yX3_readSign cX3_readSign 3 (some .int))) := gwV uw_29_10 uw_29_11 uw_29_12 uw_1_2 (wu_in uw_29_13)
theorem uV_RX3_95 {c : Cond} : GoodIn (c :: wsR) (wsV RX3 95 RX6 yX6_blameHere (wu yX6_blameHere cX6_blameHere 1 none)) := gwV uw_29_14 uw_16_16 uw_16_17 uw_0_14 (wu_in uw_16_18)
theorem uV_RX3_98 {c : Cond} : GoodIn (c :: wsR) (wsV RX3 98 RX6 yX6_lookBehindBlanks (wu yX6_lookBehindBlanks cX6_lookBehindBlanks 1 (some .int))) := gwV uw_28_22 uw_10_0 uw_10_1 uw_0_14 (wu_in uw_10_2)
theorem uV_RX4_30 {c : Cond} : GoodIn (c :: wsR) (wsV RX4 30 RX4 yX4_clear (wu yX4_clear cX4_clear 2 none)) := gwV uw_49_19 uw_49_20 uw_49_21 uw_2_1 (wu_in uw_49_22)
theorem uV_RX4_39 {c : Cond} : GoodIn (c :: wsR) (wsV RX4 39 RX4 yX4_earliestUnsettled (wu yX4_earliestUnsettled cX4_earliestUnsettled 3 (some .int))) := gwV uw_49_23 uw_50_0 uw_50_1 uw_2_1 (wu_in uw_50_2)
theorem uV_RX4_43 {c : Cond} : GoodIn (c :: wsR) (wsV RX4 43 RX4 yX4_reachBy (wu yX4_reachBy cX4_reachBy 8 none)) := gwV uw_50_3 uw_50_4 uw_50_5 uw_2_1 (wu_in uw_50_6)
theorem uV_RX4_47 {c : Cond} : GoodIn (c :: wsR) (wsV RX4 47 RX7 yX7_sideOf (wu yX7_sideOf cX7_sideOf 3 (some .int))) := gwV uw_50_8 uw_18_3 uw_18_4 uw_0_18 (wu_in uw_18_5)
theorem uV_RX4_51 {c : Cond} : GoodIn (c :: wsR) (wsV RX4 51 RX7 yX7_cornerAcross (wu yX7_cornerAcross cX7_cornerAcross 3 (some .int))) := gwV uw_50_9 uw_36_22 uw_36_23 uw_0_18 (wu_in uw_37_0)
theorem uV_RX4_57 {c : Cond} : GoodIn (c :: wsR) (wsV RX4 57 RX7 yX7_firstOpen (wu yX7_firstOpen cX7_firstOpen 10 (some .int))) := gwV uw_50_10 uw_50_11 uw_50_12 uw_0_18 (wu_in uw_50_13)
theorem uV_RX4_64 {c : Cond} : GoodIn (c :: wsR) (wsV RX4 64 RX4 yX4_firstArrival (wu yX4_firstArrival cX4_firstArrival 8 (some .int))) := gwV uw_51_19 uw_49_15 uw_49_16 uw_2_1 (wu_in uw_49_17)
theorem uV_RX4_67 {c : Cond} : GoodIn (c :: wsR) (wsV RX4 67 RX4 yX4_findLatest (wu yX4_findLatest cX4_findLatest 7 none)) := gwV uw_51_20 uw_51_21 uw_51_22 uw_2_1 (wu_in uw_51_23)
theorem uV_RX4_70 {c : Cond} : GoodIn (c :: wsR) (wsV RX4 70 RX4 yX4_leastStreet (wu yX4_leastStreet cX4_leastStreet 6 (some .int))) := gwV uw_52_13 uw_52_14 uw_52_15 uw_2_1 (wu_in uw_52_16)
theorem uV_RX4_73 {c : Cond} : GoodIn (c :: wsR) (wsV RX4 73 RX4 yX4_latestUnsettled (wu yX4_latestUnsettled cX4_latestUnsettled 3 (some .int))) := gwV uw_52_0 uw_52_1 uw_52_2 uw_2_1 (wu_in uw_52_3)
theorem uV_RX4_76 {c : Cond} : GoodIn (c :: wsR) (wsV RX4 76 RX4 yX4_leaveBy (wu yX4_leaveBy cX4_leaveBy 7 none)) := gwV uw_52_4 uw_52_5 uw_52_6 uw_2_1 (wu_in uw_52_7)
theorem uV_RX4_79 {c : Cond} : GoodIn (c :: wsR) (wsV RX4 79 RX7 yX7_lastOpen (wu yX7_lastOpen cX7_lastOpen 10 (some .int))) := gwV uw_52_9 uw_52_10 uw_52_11 uw_0_18 (wu_in uw_52_12)
theorem uV_RX4_87 {c : Cond} : GoodIn (c :: wsR) (wsV RX4 87 RX7 yX7_tryStreet (wu yX7_tryStreet cX7_tryStreet 5 none)) := gwV uw_66_1 uw_66_2 uw_66_3 uw_0_18 (wu_in uw_66_4)
theorem uV_RX4_90 {c : Cond} : GoodIn (c :: wsR) (wsV RX4 90 RX4 yX4_sumOfErrands (wu yX4_sumOfErrands cX4_sumOfErrands 6 (some .int))) := gwV uw_66_5 uw_66_6 uw_66_7 uw_2_1 (wu_in uw_66_8)
theorem uV_RX5_48 {c : Cond} : GoodIn (c :: wsR) (wsV RX5 48 RX7 yX7_copyFrom (wu yX7_copyFrom cX7_copyFrom 2 none)) := gwV uw_18_15 uw_18_16 uw_18_17 uw_0_18 (wu_in uw_18_18)
theorem uV_RX5_67 {c : Cond} : GoodIn (c :: wsR) (wsV RX5 67 RX5 yX5_moveTo (wu yX5_moveTo cX5_moveTo 2 none)) := gwV uw_69_9 uw_18_7 uw_18_8 uw_1_6 (wu_in uw_18_9)
theorem uV_RX5_76 {c : Cond} : GoodIn (c :: wsR) (wsV RX5 76 RX9 yX9_copyFrom (wu yX9_copyFrom cX9_copyFrom 2 none)) := gwV uw_69_10 uw_53_13 uw_53_14 uw_4_4 (wu_in uw_53_15)
theorem uV_RX5_82 {c : Cond} : GoodIn (c :: wsR) (wsV RX5 82 RX5 yX5_fitsSights (wu yX5_fitsSights cX5_fitsSights 3 (some .boolean))) := gwV uw_63_5 uw_63_6 uw_63_7 uw_1_6 (wu_in uw_63_8)
theorem uV_RX5_86 {c : Cond} : GoodIn (c :: wsR) (wsV RX5 86 RX7 yX7_signOn (wu yX7_signOn cX7_signOn 3 (some .int))) := gwV uw_63_9 uw_30_9 uw_30_10 uw_0_18 (wu_in uw_30_11)
theorem uV_RX5_93 {c : Cond} : GoodIn (c :: wsR) (wsV RX5 93 RX5 yX5_mostAlike (wu yX5_mostAlike cX5_mostAlike 7 (some .int))) := gwV uw_63_15 uw_63_16 uw_63_17 uw_1_6 (wu_in uw_63_18)
theorem uV_RX6_28 {c : Cond} : GoodIn (c :: wsR) (wsV RX6 28 RX6 yX6_lookBehindBlanks (wu yX6_lookBehindBlanks cX6_lookBehindBlanks 1 (some .int))) := gwV uw_9_23 uw_10_0 uw_10_1 uw_0_14 (wu_in uw_10_2)
theorem uV_RX6_32 {c : Cond} : GoodIn (c :: wsR) (wsV RX6 32 RX6 yX6_pass (wu yX6_pass cX6_pass 1 none)) := gwV uw_17_19 uw_16_20 uw_16_21 uw_0_14 (wu_in uw_16_22)
theorem uV_RX6_35 {c : Cond} : GoodIn (c :: wsR) (wsV RX6 35 RX6 yX6_blame (wu yX6_blame cX6_blame 3 none)) := gwV uw_12_8 uw_12_9 uw_12_10 uw_0_14 (wu_in uw_12_11)
theorem uV_RX6_39 {c : Cond} : GoodIn (c :: wsR) (wsV RX6 39 RX6 yX6_isFaulty (wu yX6_isFaulty cX6_isFaulty 1 (some .boolean))) := gwV uw_13_5 uw_12_22 uw_12_23 uw_0_14 (wu_in uw_13_0)
theorem uV_RX6_43 {c : Cond} : GoodIn (c :: wsR) (wsV RX6 43 RX6 yX6_takeByte (wu yX6_takeByte cX6_takeByte 2 (some .boolean))) := gwV uw_17_15 uw_17_16 uw_17_17 uw_0_14 (wu_in uw_17_18)
theorem uV_RX6_47 {c : Cond} : GoodIn (c :: wsR) (wsV RX6 47 RX6 yX6_look (wu yX6_look cX6_look 1 (some .int))) := gwV uw_17_20 uw_13_23 uw_14_0 uw_0_14 (wu_in uw_14_1)
theorem uV_RX6_50 {c : Cond} : GoodIn (c :: wsR) (wsV RX6 50 RX6 yX6_blameHere (wu yX6_blameHere cX6_blameHere 1 none)) := gwV uw_17_21 uw_16_16 uw_16_17 uw_0_14 (wu_in uw_16_18)
theorem uV_RX6_53 {c : Cond} : GoodIn (c :: wsR) (wsV RX6 53 RX6 yX6_endOfWord (wu yX6_endOfWord cX6_endOfWord 2 (some .int))) := gwV uw_10_3 uw_10_4 uw_10_5 uw_0_14 (wu_in uw_10_6)
theorem uV_RX6_56 {c : Cond} : GoodIn (c :: wsR) (wsV RX6 56 RJ0 yJ0_length_8abf5 wsJ0_length_8abf5) := gwV uw_10_7 uw_10_8 uw_10_9 uw_10_10 uj_J0_length_8abf5
theorem uV_RX6_60 {c : Cond} : GoodIn (c :: wsR) (wsV RX6 60 RJ0 yJ0_charAt_5068e wsJ0_charAt_5068e) := gwV uw_10_19 uw_10_20 uw_10_21 uw_10_10 uj_J0_charAt_5068e
theorem uV_RX7_100 {c : Cond} : GoodIn (c :: wsR) (wsV RX7 100 RX7 yX7_readSaint (wu yX7_readSaint cX7_readSaint 4 none)) := gwV uw_17_3 uw_17_4 uw_17_5 uw_0_18 (wu_in uw_17_6)
theorem uV_RX7_103 {c : Cond} : GoodIn (c :: wsR) (wsV RX7 103 RX7 yX7_readLift (wu yX7_readLift cX7_readLift 5 none)) := gwV uw_17_7 uw_17_8 uw_17_9 uw_0_18 (wu_in uw_17_10)
theorem uV_RX7_106 {c : Cond} : GoodIn (c :: wsR) (wsV RX7 106 RX7 yX7_placeStreet (wu yX7_placeStreet cX7_placeStreet 5 none)) := gwV uw_13_13 uw_13_14 uw_13_15 uw_0_18 (wu_in uw_13_16)
theorem uV_RX7_110 {c : Cond} : GoodIn (c :: wsR) (wsV RX7 110 RX7 yX7_readSigns (wu yX7_readSigns cX7_readSigns 5 none)) := gwV uw_13_17 uw_13_18 uw_13_19 uw_0_18 (wu_in uw_13_20)
theorem uV_RX7_113 {c : Cond} : GoodIn (c :: wsR) (wsV RX7 113 RX6 yX6_lookBehindBlanks (wu yX6_lookBehindBlanks cX6_lookBehindBlanks 1 (some .int))) := gwV uw_13_21 uw_10_0 uw_10_1 uw_0_14 (wu_in uw_10_2)
theorem uV_RX7_117 {c : Cond} : GoodIn (c :: wsR) (wsV RX7 117 RX6 yX6_look (wu yX6_look cX6_look 1 (some .int))) := gwV uw_13_22 uw_13_23 uw_14_0 uw_0_14 (wu_in uw_14_1)
theorem uV_RX7_122 {c : Cond} : GoodIn (c :: wsR) (wsV RX7 122 RJ0 yJ0_indexOf_0f7a4 wsJ0_indexOf_0f7a4) := gwV uw_14_2 uw_14_3 uw_14_4 uw_10_10 uj_J0_indexOf_0f7a4
theorem uV_RX7_128 {c : Cond} : GoodIn (c :: wsR) (wsV RX7 128 RX6 yX6_blameHere (wu yX6_blameHere cX6_blameHere 1 none)) := gwV uw_16_15 uw_16_16 uw_16_17 uw_0_14 (wu_in uw_16_18)
theorem uV_RX7_131 {c : Cond} : GoodIn (c :: wsR) (wsV RX7 131 RX6 yX6_pass (wu yX6_pass cX6_pass 1 none)) := gwV uw_16_19 uw_16_20 uw_16_21 uw_0_14 (wu_in uw_16_22)
theorem uV_RX7_134 {c : Cond} : GoodIn (c :: wsR) (wsV RX7 134 RX7 yX7_placeSign (wu yX7_placeSign cX7_placeSign 4 none)) := gwV uw_16_23 uw_17_0 uw_17_1 uw_0_18 (wu_in uw_17_2)
theorem uV_RX7_138 {c : Cond} : GoodIn (c :: wsR) (wsV RX7 138 RX7 yX7_sideOf (wu yX7_sideOf cX7_sideOf 3 (some .int))) := gwV uw_18_2 uw_18_3 uw_18_4 uw_0_18 (wu_in uw_18_5)
theorem uV_RX7_148 {c : Cond} : GoodIn (c :: wsR) (wsV RX7 148 RX7 yX7_openHours (wu yX7_openHours cX7_openHours 8 (some .int))) := gwV uw_31_11 uw_31_12 uw_31_13 uw_0_18 (wu_in uw_31_14)
theorem uV_RX7_152 {c : Cond} : GoodIn (c :: wsR) (wsV RX7 152 RX7 yX7_isNeverOpen (wu yX7_isNeverOpen cX7_isNeverOpen 3 (some .boolean))) := gwV uw_50_14 uw_50_15 uw_50_16 uw_0_18 (wu_in uw_50_17)
theorem uV_RX7_155 {c : Cond} : GoodIn (c :: wsR) (wsV RX7 155 RX7 yX7_signOn (wu yX7_signOn cX7_signOn 3 (some .int))) := gwV uw_58_6 uw_30_9 uw_30_10 uw_0_18 (wu_in uw_30_11)
theorem uV_RX7_158 {c : Cond} : GoodIn (c :: wsR) (wsV RX7 158 RX7 yX7_daysWith (wu yX7_daysWith cX7_daysWith 5 (some .int))) := gwV uw_58_2 uw_58_3 uw_58_4 uw_0_18 (wu_in uw_58_5)
theorem uV_RX7_161 {c : Cond} : GoodIn (c :: wsR) (wsV RX7 161 RX7 yX7_commonSign (wu yX7_commonSign cX7_commonSign 4 (some .int))) := gwV uw_58_23 uw_57_23 uw_58_0 uw_0_18 (wu_in uw_58_1)
theorem uV_RX7_55 {c : Cond} : GoodIn (c :: wsR) (wsV RX7 55 RX6 yX6_startReading (wu yX6_startReading cX6_startReading 1 none)) := gwV uw_9_12 uw_9_13 uw_9_14 uw_0_14 (wu_in uw_9_15)
theorem uV_RX7_62 {c : Cond} : GoodIn (c :: wsR) (wsV RX7 62 RX6 yX6_readWord (wu yX6_readWord cX6_readWord 8 (some .int))) := gwV uw_9_19 uw_9_20 uw_9_21 uw_0_14 (wu_in uw_9_22)
theorem uV_RX7_66 {c : Cond} : GoodIn (c :: wsR) (wsV RX7 66 RX7 yX7_isTooMany (wu yX7_isTooMany cX7_isTooMany 3 (some .boolean))) := gwV uw_12_12 uw_12_13 uw_12_14 uw_0_18 (wu_in uw_12_15)
theorem uV_RX7_73 {c : Cond} : GoodIn (c :: wsR) (wsV RX7 73 RX6 yX6_blame (wu yX6_blame cX6_blame 3 none)) := gwV uw_12_16 uw_12_9 uw_12_10 uw_0_14 (wu_in uw_12_11)
theorem uV_RX7_77 {c : Cond} : GoodIn (c :: wsR) (wsV RX7 77 RX7 yX7_readClause (wu yX7_readClause cX7_readClause 3 none)) := gwV uw_12_17 uw_12_18 uw_12_19 uw_0_18 (wu_in uw_12_20)
theorem uV_RX7_81 {c : Cond} : GoodIn (c :: wsR) (wsV RX7 81 RX6 yX6_takeSemicolon (wu yX6_takeSemicolon cX6_takeSemicolon 1 (some .boolean))) := gwV uw_17_11 uw_17_12 uw_17_13 uw_0_14 (wu_in uw_17_14)
theorem uV_RX7_85 {c : Cond} : GoodIn (c :: wsR) (wsV RX7 85 RX7 yX7_findSaints (wu yX7_findSaints cX7_findSaints 3 none)) := gwV uw_17_22 uw_17_23 uw_18_0 uw_0_18 (wu_in uw_18_1)
theorem uV_RX7_89 {c : Cond} : GoodIn (c :: wsR) (wsV RX7 89 RX6 yX6_isFaulty (wu yX6_isFaulty cX6_isFaulty 1 (some .boolean))) := gwV uw_12_21 uw_12_22 uw_12_23 uw_0_14 (wu_in uw_13_0)
theorem uV_RX7_92 {c : Cond} : GoodIn (c :: wsR) (wsV RX7 92 RX6 yX6_readNumber (wu yX6_readNumber cX6_readNumber 4 (some .int))) := gwV uw_13_1 uw_13_2 uw_13_3 uw_0_14 (wu_in uw_13_4)
theorem uV_RX7_96 {c : Cond} : GoodIn (c :: wsR) (wsV RX7 96 RX7 yX7_readStreet (wu yX7_readStreet cX7_readStreet 5 none)) := gwV uw_13_9 uw_13_10 uw_13_11 uw_0_18 (wu_in uw_13_12)
theorem uV_RX8_110 {c : Cond} : GoodIn (c :: wsR) (wsV RX8 110 RX8 yX8_spread (wu yX8_spread cX8_spread 13 none)) := gwV uw_56_8 uw_56_9 uw_56_10 uw_1_21 (wu_in uw_56_11)
theorem uV_RX8_114 {c : Cond} : GoodIn (c :: wsR) (wsV RX8 114 RX8 yX8_note (wu yX8_note cX8_note 9 none)) := gwV uw_56_15 uw_56_16 uw_56_17 uw_1_21 (wu_in uw_56_18)
theorem uV_RX8_129 {c : Cond} : GoodIn (c :: wsR) (wsV RX8 129 RX0 yX0_streetBy (wu yX0_streetBy cX0_streetBy 4 (some .int))) := gwV uw_56_21 uw_37_19 uw_37_20 uw_1_13 (wu_in uw_37_21)
theorem uV_RX8_133 {c : Cond} : GoodIn (c :: wsR) (wsV RX8 133 RX7 yX7_sideOf (wu yX7_sideOf cX7_sideOf 3 (some .int))) := gwV uw_56_22 uw_18_3 uw_18_4 uw_0_18 (wu_in uw_18_5)
theorem uV_RX8_137 {c : Cond} : GoodIn (c :: wsR) (wsV RX8 137 RX7 yX7_isOpen (wu yX7_isOpen cX7_isOpen 7 (some .boolean))) := gwV uw_56_23 uw_31_7 uw_31_8 uw_0_18 (wu_in uw_31_9)
theorem uV_RX8_141 {c : Cond} : GoodIn (c :: wsR) (wsV RX8 141 RX7 yX7_cornerAcross (wu yX7_cornerAcross cX7_cornerAcross 3 (some .int))) := gwV uw_57_0 uw_36_22 uw_36_23 uw_0_18 (wu_in uw_37_0)
theorem uV_RX8_155 {c : Cond} : GoodIn (c :: wsR) (wsV RX8 155 RX8 yX8_ghostComesAsTold (wu yX8_ghostComesAsTold cX8_ghostComesAsTold 4 (some .boolean))) := gwV uw_65_3 uw_65_4 uw_65_5 uw_1_21 (wu_in uw_65_6)
theorem uV_RX8_170 {c : Cond} : GoodIn (c :: wsR) (wsV RX8 170 RX8 yX8_drawBelow (wu yX8_drawBelow cX8_drawBelow 2 (some .int))) := gwV uw_67_15 uw_67_16 uw_67_17 uw_1_21 (wu_in uw_67_18)
theorem uV_RX8_173 {c : Cond} : GoodIn (c :: wsR) (wsV RX8 173 RX9 yX9_setOut (wu yX9_setOut cX9_setOut 7 none)) := gwV uw_67_22 uw_39_6 uw_39_7 uw_4_4 (wu_in uw_39_8)
theorem uV_RX8_37 {c : Cond} : GoodIn (c :: wsR) (wsV RX8 37 RX9 yX9_copyFrom (wu yX9_copyFrom cX9_copyFrom 2 none)) := gwV uw_53_12 uw_53_13 uw_53_14 uw_4_4 (wu_in uw_53_15)
theorem uV_RX8_41 {c : Cond} : GoodIn (c :: wsR) (wsV RX8 41 RX1 yX1_takeSteps (wu yX1_takeSteps cX1_takeSteps 4 (some .int))) := gwV uw_53_17 uw_41_20 uw_41_21 uw_1_17 (wu_in uw_41_22)
theorem uV_RX8_47 {c : Cond} : GoodIn (c :: wsR) (wsV RX8 47 RX9 yX9_isAtGoal (wu yX9_isAtGoal cX9_isAtGoal 1 (some .boolean))) := gwV uw_53_18 uw_42_13 uw_42_14 uw_4_4 (wu_in uw_42_15)
theorem uV_RX8_63 {c : Cond} : GoodIn (c :: wsR) (wsV RX8 63 RX8 yX8_findCircle (wu yX8_findCircle cX8_findCircle 4 (some .int))) := gwV uw_54_18 uw_54_19 uw_54_20 uw_1_21 (wu_in uw_54_21)
theorem uV_RX8_67 {c : Cond} : GoodIn (c :: wsR) (wsV RX8 67 RX8 yX8_ghostKey (wu yX8_ghostKey cX8_ghostKey 2 (some .int))) := gwV uw_54_22 uw_54_23 uw_55_0 uw_1_21 (wu_in uw_55_1)
theorem uV_RX8_71 {c : Cond} : GoodIn (c :: wsR) (wsV RX8 71 RX1 yX1_takeStep (wu yX1_takeStep cX1_takeStep 4 (some .int))) := gwV uw_55_5 uw_42_0 uw_42_1 uw_1_17 (wu_in uw_42_2)
theorem uV_RX8_93 {c : Cond} : GoodIn (c :: wsR) (wsV RX8 93 RX9 yX9_askedToday (wu yX9_askedToday cX9_askedToday 1 (some .boolean))) := gwV uw_56_7 uw_43_5 uw_43_6 uw_4_4 (wu_in uw_43_7)
theorem uV_RX9_42 {c : Cond} : GoodIn (c :: wsR) (wsV RX9 42 RX9 yX9_setOut (wu yX9_setOut cX9_setOut 7 none)) := gwV uw_53_16 uw_39_6 uw_39_7 uw_4_4 (wu_in uw_39_8)
theorem uV_RX9_48 {c : Cond} : GoodIn (c :: wsR) (wsV RX9 48 RX9 yX9_dayNow (wu yX9_dayNow cX9_dayNow 1 (some .long))) := gwV uw_43_8 uw_43_9 uw_43_10 uw_4_4 (wu_in uw_43_11)
