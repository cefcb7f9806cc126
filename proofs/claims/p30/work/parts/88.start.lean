theorem ks_ok {ks : List Nat} {q κ : Nat} (hk : ks.all (fun k => decide (k < 82)) = true) (h : ks[q]? = some κ) : κ < 82 := of_decide_eq_true (List.all_eq_true.mp hk κ (List.mem_of_getElem? h))
def adC (q0 : Nat) (a : Nat → Nat) (q : Nat) : Nat := (q0 :: (a 0) :: (a 12) :: (a 3) :: (a 2) :: (a 21) :: (a 50) :: (a 51) :: (a 52) :: (a 22) :: (a 53) :: (a 54) :: (a 55) :: (a 23) :: (a 56) :: (a 57) :: (a 58) :: (a 24) :: (a 59) :: (a 60) :: (a 61) :: (a 25) :: (a 62) :: (a 63) :: (a 64) :: (a 26) :: (a 65) :: (a 66) :: (a 67) :: (a 1) :: (a 13) :: (a 14) :: (a 15) :: (a 16) :: (a 17) :: (a 18) :: (a 19) :: (a 20) :: (a 4) :: (a 27) :: (a 68) :: (a 69) :: (a 70) :: (a 71) :: (a 72) :: (a 73) :: (a 74) :: (a 75) :: (a 28) :: (a 29) :: (a 30) :: (a 31) :: (a 32) :: (a 33) :: (a 34) :: (a 76) :: (a 77) :: (a 78) :: (a 79) :: (a 5) :: (a 35) :: (a 80) :: (a 112) :: (a 113) :: (a 114) :: (a 115) :: (a 116) :: (a 117) :: (a 118) :: (a 119) :: (a 81) :: (a 82) :: (a 83) :: (a 84) :: (a 85) :: (a 86) :: (a 87) :: (a 120) :: (a 121) :: (a 122) :: (a 123) :: (a 36) :: (a 88) :: (a 124) :: (a 125) :: (a 126) :: (a 127) :: (a 128) :: (a 129) :: (a 130) :: (a 131) :: (a 89) :: (a 90) :: (a 91) :: (a 92) :: (a 93) :: (a 94) :: (a 95) :: (a 132) :: (a 133) :: (a 134) :: (a 135) :: (a 37) :: (a 96) :: (a 136) :: (a 137) :: (a 138) :: (a 139) :: (a 140) :: (a 141) :: (a 142) :: (a 143) :: (a 97) :: (a 98) :: (a 99) :: (a 100) :: (a 101) :: (a 102) :: (a 103) :: (a 144) :: (a 145) :: (a 146) :: (a 147) :: (a 38) :: (a 104) :: (a 148) :: (a 149) :: (a 150) :: (a 151) :: (a 152) :: (a 153) :: (a 154) :: (a 155) :: (a 105) :: (a 106) :: (a 107) :: (a 108) :: (a 109) :: (a 110) :: (a 111) :: (a 156) :: (a 157) :: (a 158) :: (a 159) :: (a 6) :: (a 7) :: (a 39) :: (a 40) :: (a 41) :: (a 8) :: (a 42) :: (a 9) :: (a 43) :: (a 44) :: (a 45) :: (a 10) :: (a 46) :: (a 47) :: (a 11) :: (a 48) :: (a 49) :: ([] : List Nat)).getD q 0
set_option maxRecDepth 20000 in
theorem zC_0 {q0 : Nat} {a : Nat → Nat} {cy : Nat → ClassId} : zc (adC q0 a) cy 0 11 = .inr (11, [.ref (a 0), .ref (a 1), .ref (a 2), .ref (a 3), .ref (a 4), .ref (a 5), .ref (a 6), .ref (a 7), .ref (a 8), .ref (a 9), .ref (a 10), .ref (a 11), .int 0]) := rfl
set_option maxRecDepth 20000 in
theorem zC_1 {q0 : Nat} {a : Nat → Nat} {cy : Nat → ClassId} : zc (adC q0 a) cy 1 6 = .inr (6, [.ref (a 12), .int 0, .int 0, .int 0, .int 0]) := rfl
set_option maxRecDepth 20000 in
theorem zC_2 {q0 : Nat} {a : Nat → Nat} {cy : Nat → ClassId} : zc (adC q0 a) cy 2 20 = .inl (cy 0, 400, .inl (fun _ => 0)) := rfl
set_option maxRecDepth 20000 in
theorem zC_3 {q0 : Nat} {a : Nat → Nat} {cy : Nat → ClassId} : zc (adC q0 a) cy 3 3 = .inr (3, [.ref (a 0), .null, .int 0]) := rfl
set_option maxRecDepth 20000 in
theorem zC_4 {q0 : Nat} {a : Nat → Nat} {cy : Nat → ClassId} : zc (adC q0 a) cy 4 39 = .inl (cy 4, 6, .inr (.inr (.inr (.inr (va_up (va_up (va_up (va_up (va_up (va_up (fun _ => none) 0 (some (a 21))) 1 (some (a 22))) 2 (some (a 23))) 3 (some (a 24))) 4 (some (a 25))) 5 (some (a 26))))))) := rfl
set_option maxRecDepth 20000 in
theorem zC_5 {q0 : Nat} {a : Nat → Nat} {cy : Nat → ClassId} : zc (adC q0 a) cy 5 2 = .inr (2, [.ref (a 50), .ref (a 51), .ref (a 52), .int 0, .int 0, .int 0]) := rfl
set_option maxRecDepth 20000 in
theorem zC_6 {q0 : Nat} {a : Nat → Nat} {cy : Nat → ClassId} : zc (adC q0 a) cy 6 21 = .inl (cy 0, 12, .inl (fun _ => 0)) := rfl
set_option maxRecDepth 20000 in
theorem zC_7 {q0 : Nat} {a : Nat → Nat} {cy : Nat → ClassId} : zc (adC q0 a) cy 7 22 = .inl (cy 0, 13, .inl (fun _ => 0)) := rfl
set_option maxRecDepth 20000 in
theorem zC_8 {q0 : Nat} {a : Nat → Nat} {cy : Nat → ClassId} : zc (adC q0 a) cy 8 23 = .inl (cy 0, 400, .inl (fun _ => 0)) := rfl
set_option maxRecDepth 20000 in
theorem zC_9 {q0 : Nat} {a : Nat → Nat} {cy : Nat → ClassId} : zc (adC q0 a) cy 9 2 = .inr (2, [.ref (a 53), .ref (a 54), .ref (a 55), .int 0, .int 0, .int 0]) := rfl
set_option maxRecDepth 20000 in
theorem zC_10 {q0 : Nat} {a : Nat → Nat} {cy : Nat → ClassId} : zc (adC q0 a) cy 10 21 = .inl (cy 0, 12, .inl (fun _ => 0)) := rfl
set_option maxRecDepth 20000 in
theorem zC_11 {q0 : Nat} {a : Nat → Nat} {cy : Nat → ClassId} : zc (adC q0 a) cy 11 22 = .inl (cy 0, 13, .inl (fun _ => 0)) := rfl
set_option maxRecDepth 20000 in
theorem zC_12 {q0 : Nat} {a : Nat → Nat} {cy : Nat → ClassId} : zc (adC q0 a) cy 12 23 = .inl (cy 0, 400, .inl (fun _ => 0)) := rfl
set_option maxRecDepth 20000 in
theorem zC_13 {q0 : Nat} {a : Nat → Nat} {cy : Nat → ClassId} : zc (adC q0 a) cy 13 2 = .inr (2, [.ref (a 56), .ref (a 57), .ref (a 58), .int 0, .int 0, .int 0]) := rfl
set_option maxRecDepth 20000 in
theorem zC_14 {q0 : Nat} {a : Nat → Nat} {cy : Nat → ClassId} : zc (adC q0 a) cy 14 21 = .inl (cy 0, 12, .inl (fun _ => 0)) := rfl
set_option maxRecDepth 20000 in
theorem zC_15 {q0 : Nat} {a : Nat → Nat} {cy : Nat → ClassId} : zc (adC q0 a) cy 15 22 = .inl (cy 0, 13, .inl (fun _ => 0)) := rfl
set_option maxRecDepth 20000 in
theorem zC_16 {q0 : Nat} {a : Nat → Nat} {cy : Nat → ClassId} : zc (adC q0 a) cy 16 23 = .inl (cy 0, 400, .inl (fun _ => 0)) := rfl
set_option maxRecDepth 20000 in
theorem zC_17 {q0 : Nat} {a : Nat → Nat} {cy : Nat → ClassId} : zc (adC q0 a) cy 17 2 = .inr (2, [.ref (a 59), .ref (a 60), .ref (a 61), .int 0, .int 0, .int 0]) := rfl
set_option maxRecDepth 20000 in
theorem zC_18 {q0 : Nat} {a : Nat → Nat} {cy : Nat → ClassId} : zc (adC q0 a) cy 18 21 = .inl (cy 0, 12, .inl (fun _ => 0)) := rfl
set_option maxRecDepth 20000 in
theorem zC_19 {q0 : Nat} {a : Nat → Nat} {cy : Nat → ClassId} : zc (adC q0 a) cy 19 22 = .inl (cy 0, 13, .inl (fun _ => 0)) := rfl
set_option maxRecDepth 20000 in
theorem zC_20 {q0 : Nat} {a : Nat → Nat} {cy : Nat → ClassId} : zc (adC q0 a) cy 20 23 = .inl (cy 0, 400, .inl (fun _ => 0)) := rfl
set_option maxRecDepth 20000 in
theorem zC_21 {q0 : Nat} {a : Nat → Nat} {cy : Nat → ClassId} : zc (adC q0 a) cy 21 2 = .inr (2, [.ref (a 62), .ref (a 63), .ref (a 64), .int 0, .int 0, .int 0]) := rfl
set_option maxRecDepth 20000 in
theorem zC_22 {q0 : Nat} {a : Nat → Nat} {cy : Nat → ClassId} : zc (adC q0 a) cy 22 21 = .inl (cy 0, 12, .inl (fun _ => 0)) := rfl
set_option maxRecDepth 20000 in
theorem zC_23 {q0 : Nat} {a : Nat → Nat} {cy : Nat → ClassId} : zc (adC q0 a) cy 23 22 = .inl (cy 0, 13, .inl (fun _ => 0)) := rfl
set_option maxRecDepth 20000 in
theorem zC_24 {q0 : Nat} {a : Nat → Nat} {cy : Nat → ClassId} : zc (adC q0 a) cy 24 23 = .inl (cy 0, 400, .inl (fun _ => 0)) := rfl
set_option maxRecDepth 20000 in
theorem zC_25 {q0 : Nat} {a : Nat → Nat} {cy : Nat → ClassId} : zc (adC q0 a) cy 25 2 = .inr (2, [.ref (a 65), .ref (a 66), .ref (a 67), .int 0, .int 0, .int 0]) := rfl
set_option maxRecDepth 20000 in
theorem zC_26 {q0 : Nat} {a : Nat → Nat} {cy : Nat → ClassId} : zc (adC q0 a) cy 26 21 = .inl (cy 0, 12, .inl (fun _ => 0)) := rfl
set_option maxRecDepth 20000 in
theorem zC_27 {q0 : Nat} {a : Nat → Nat} {cy : Nat → ClassId} : zc (adC q0 a) cy 27 22 = .inl (cy 0, 13, .inl (fun _ => 0)) := rfl
set_option maxRecDepth 20000 in
theorem zC_28 {q0 : Nat} {a : Nat → Nat} {cy : Nat → ClassId} : zc (adC q0 a) cy 28 23 = .inl (cy 0, 400, .inl (fun _ => 0)) := rfl
set_option maxRecDepth 20000 in
theorem zC_29 {q0 : Nat} {a : Nat → Nat} {cy : Nat → ClassId} : zc (adC q0 a) cy 29 7 = .inr (7, [.ref (a 13), .ref (a 14), .ref (a 15), .ref (a 16), .ref (a 17), .ref (a 18), .ref (a 19), .ref (a 20), .int 0, .int 0, .int 0, .int 0]) := rfl
set_option maxRecDepth 20000 in
theorem zC_30 {q0 : Nat} {a : Nat → Nat} {cy : Nat → ClassId} : zc (adC q0 a) cy 30 24 = .inl (cy 0, 26, .inl (fun _ => 0)) := rfl
set_option maxRecDepth 20000 in
theorem zC_31 {q0 : Nat} {a : Nat → Nat} {cy : Nat → ClassId} : zc (adC q0 a) cy 31 25 = .inl (cy 0, 13, .inl (fun _ => 0)) := rfl
set_option maxRecDepth 20000 in
theorem zC_32 {q0 : Nat} {a : Nat → Nat} {cy : Nat → ClassId} : zc (adC q0 a) cy 32 26 = .inl (cy 0, 91, .inl (fun _ => 0)) := rfl
set_option maxRecDepth 20000 in
theorem zC_33 {q0 : Nat} {a : Nat → Nat} {cy : Nat → ClassId} : zc (adC q0 a) cy 33 27 = .inl (cy 0, 13, .inl (fun _ => 0)) := rfl
set_option maxRecDepth 20000 in
theorem zC_34 {q0 : Nat} {a : Nat → Nat} {cy : Nat → ClassId} : zc (adC q0 a) cy 34 28 = .inl (cy 0, 26, .inl (fun _ => 0)) := rfl
set_option maxRecDepth 20000 in
theorem zC_35 {q0 : Nat} {a : Nat → Nat} {cy : Nat → ClassId} : zc (adC q0 a) cy 35 29 = .inl (cy 0, 8, .inl (fun _ => 0)) := rfl
set_option maxRecDepth 20000 in
theorem zC_36 {q0 : Nat} {a : Nat → Nat} {cy : Nat → ClassId} : zc (adC q0 a) cy 36 30 = .inl (cy 0, 8, .inl (fun _ => 0)) := rfl
set_option maxRecDepth 20000 in
theorem zC_37 {q0 : Nat} {a : Nat → Nat} {cy : Nat → ClassId} : zc (adC q0 a) cy 37 31 = .inl (cy 0, 13, .inl (fun _ => 0)) := rfl
set_option maxRecDepth 20000 in
theorem zC_38 {q0 : Nat} {a : Nat → Nat} {cy : Nat → ClassId} : zc (adC q0 a) cy 38 5 = .inr (5, [.ref (a 27), .ref (a 28), .ref (a 29), .ref (a 30), .ref (a 31), .ref (a 32), .ref (a 33), .ref (a 34), .int 0, .int 0, .int 0, .int 0, .int 0, .int 0]) := rfl
set_option maxRecDepth 20000 in
theorem zC_39 {q0 : Nat} {a : Nat → Nat} {cy : Nat → ClassId} : zc (adC q0 a) cy 39 7 = .inr (7, [.ref (a 68), .ref (a 69), .ref (a 70), .ref (a 71), .ref (a 72), .ref (a 73), .ref (a 74), .ref (a 75), .int 0, .int 0, .int 0, .int 0]) := rfl
set_option maxRecDepth 20000 in
theorem zC_40 {q0 : Nat} {a : Nat → Nat} {cy : Nat → ClassId} : zc (adC q0 a) cy 40 24 = .inl (cy 0, 26, .inl (fun _ => 0)) := rfl
set_option maxRecDepth 20000 in
theorem zC_41 {q0 : Nat} {a : Nat → Nat} {cy : Nat → ClassId} : zc (adC q0 a) cy 41 25 = .inl (cy 0, 13, .inl (fun _ => 0)) := rfl
set_option maxRecDepth 20000 in
theorem zC_42 {q0 : Nat} {a : Nat → Nat} {cy : Nat → ClassId} : zc (adC q0 a) cy 42 26 = .inl (cy 0, 91, .inl (fun _ => 0)) := rfl
set_option maxRecDepth 20000 in
theorem zC_43 {q0 : Nat} {a : Nat → Nat} {cy : Nat → ClassId} : zc (adC q0 a) cy 43 27 = .inl (cy 0, 13, .inl (fun _ => 0)) := rfl
set_option maxRecDepth 20000 in
theorem zC_44 {q0 : Nat} {a : Nat → Nat} {cy : Nat → ClassId} : zc (adC q0 a) cy 44 28 = .inl (cy 0, 26, .inl (fun _ => 0)) := rfl
set_option maxRecDepth 20000 in
theorem zC_45 {q0 : Nat} {a : Nat → Nat} {cy : Nat → ClassId} : zc (adC q0 a) cy 45 29 = .inl (cy 0, 8, .inl (fun _ => 0)) := rfl
set_option maxRecDepth 20000 in
theorem zC_46 {q0 : Nat} {a : Nat → Nat} {cy : Nat → ClassId} : zc (adC q0 a) cy 46 30 = .inl (cy 0, 8, .inl (fun _ => 0)) := rfl
set_option maxRecDepth 20000 in
theorem zC_47 {q0 : Nat} {a : Nat → Nat} {cy : Nat → ClassId} : zc (adC q0 a) cy 47 31 = .inl (cy 0, 13, .inl (fun _ => 0)) := rfl
set_option maxRecDepth 20000 in
theorem zC_48 {q0 : Nat} {a : Nat → Nat} {cy : Nat → ClassId} : zc (adC q0 a) cy 48 32 = .inl (cy 0, 48, .inl (fun _ => 0)) := rfl
set_option maxRecDepth 20000 in
theorem zC_49 {q0 : Nat} {a : Nat → Nat} {cy : Nat → ClassId} : zc (adC q0 a) cy 49 33 = .inl (cy 6, 4, .inr (.inr (.inr (.inr (va_up (va_up (va_up (va_up (fun _ => none) 0 (some (a 76))) 1 (some (a 77))) 2 (some (a 78))) 3 (some (a 79))))))) := rfl
set_option maxRecDepth 20000 in
theorem zC_50 {q0 : Nat} {a : Nat → Nat} {cy : Nat → ClassId} : zc (adC q0 a) cy 50 34 = .inl (cy 0, 6, .inl (fun _ => 0)) := rfl
set_option maxRecDepth 20000 in
theorem zC_51 {q0 : Nat} {a : Nat → Nat} {cy : Nat → ClassId} : zc (adC q0 a) cy 51 35 = .inl (cy 0, 6, .inl (fun _ => 0)) := rfl
set_option maxRecDepth 20000 in
theorem zC_52 {q0 : Nat} {a : Nat → Nat} {cy : Nat → ClassId} : zc (adC q0 a) cy 52 36 = .inl (cy 0, 12, .inl (fun _ => 0)) := rfl
set_option maxRecDepth 20000 in
theorem zC_53 {q0 : Nat} {a : Nat → Nat} {cy : Nat → ClassId} : zc (adC q0 a) cy 53 37 = .inl (cy 0, 12, .inl (fun _ => 0)) := rfl
set_option maxRecDepth 20000 in
theorem zC_54 {q0 : Nat} {a : Nat → Nat} {cy : Nat → ClassId} : zc (adC q0 a) cy 54 38 = .inl (cy 0, 8, .inl (fun _ => 0)) := rfl
set_option maxRecDepth 20000 in
theorem zC_55 {q0 : Nat} {a : Nat → Nat} {cy : Nat → ClassId} : zc (adC q0 a) cy 55 9 = .inr (9, [.int 0, .int 0, .int 0, .int 0, .long 0, .int 0, .int 0, .int 0, .long 0]) := rfl
set_option maxRecDepth 20000 in
theorem zC_56 {q0 : Nat} {a : Nat → Nat} {cy : Nat → ClassId} : zc (adC q0 a) cy 56 9 = .inr (9, [.int 0, .int 0, .int 0, .int 0, .long 0, .int 0, .int 0, .int 0, .long 0]) := rfl
set_option maxRecDepth 20000 in
theorem zC_57 {q0 : Nat} {a : Nat → Nat} {cy : Nat → ClassId} : zc (adC q0 a) cy 57 9 = .inr (9, [.int 0, .int 0, .int 0, .int 0, .long 0, .int 0, .int 0, .int 0, .long 0]) := rfl
set_option maxRecDepth 20000 in
theorem zC_58 {q0 : Nat} {a : Nat → Nat} {cy : Nat → ClassId} : zc (adC q0 a) cy 58 9 = .inr (9, [.int 0, .int 0, .int 0, .int 0, .long 0, .int 0, .int 0, .int 0, .long 0]) := rfl
set_option maxRecDepth 20000 in
theorem zC_59 {q0 : Nat} {a : Nat → Nat} {cy : Nat → ClassId} : zc (adC q0 a) cy 59 40 = .inl (cy 5, 4, .inr (.inr (.inr (.inr (va_up (va_up (va_up (va_up (fun _ => none) 0 (some (a 35))) 1 (some (a 36))) 2 (some (a 37))) 3 (some (a 38))))))) := rfl
set_option maxRecDepth 20000 in
theorem zC_60 {q0 : Nat} {a : Nat → Nat} {cy : Nat → ClassId} : zc (adC q0 a) cy 60 5 = .inr (5, [.ref (a 80), .ref (a 81), .ref (a 82), .ref (a 83), .ref (a 84), .ref (a 85), .ref (a 86), .ref (a 87), .int 0, .int 0, .int 0, .int 0, .int 0, .int 0]) := rfl
set_option maxRecDepth 20000 in
theorem zC_61 {q0 : Nat} {a : Nat → Nat} {cy : Nat → ClassId} : zc (adC q0 a) cy 61 7 = .inr (7, [.ref (a 112), .ref (a 113), .ref (a 114), .ref (a 115), .ref (a 116), .ref (a 117), .ref (a 118), .ref (a 119), .int 0, .int 0, .int 0, .int 0]) := rfl
set_option maxRecDepth 20000 in
theorem zC_62 {q0 : Nat} {a : Nat → Nat} {cy : Nat → ClassId} : zc (adC q0 a) cy 62 24 = .inl (cy 0, 26, .inl (fun _ => 0)) := rfl
set_option maxRecDepth 20000 in
theorem zC_63 {q0 : Nat} {a : Nat → Nat} {cy : Nat → ClassId} : zc (adC q0 a) cy 63 25 = .inl (cy 0, 13, .inl (fun _ => 0)) := rfl
set_option maxRecDepth 20000 in
theorem zC_64 {q0 : Nat} {a : Nat → Nat} {cy : Nat → ClassId} : zc (adC q0 a) cy 64 26 = .inl (cy 0, 91, .inl (fun _ => 0)) := rfl
set_option maxRecDepth 20000 in
theorem zC_65 {q0 : Nat} {a : Nat → Nat} {cy : Nat → ClassId} : zc (adC q0 a) cy 65 27 = .inl (cy 0, 13, .inl (fun _ => 0)) := rfl
set_option maxRecDepth 20000 in
theorem zC_66 {q0 : Nat} {a : Nat → Nat} {cy : Nat → ClassId} : zc (adC q0 a) cy 66 28 = .inl (cy 0, 26, .inl (fun _ => 0)) := rfl
set_option maxRecDepth 20000 in
theorem zC_67 {q0 : Nat} {a : Nat → Nat} {cy : Nat → ClassId} : zc (adC q0 a) cy 67 29 = .inl (cy 0, 8, .inl (fun _ => 0)) := rfl
set_option maxRecDepth 20000 in
theorem zC_68 {q0 : Nat} {a : Nat → Nat} {cy : Nat → ClassId} : zc (adC q0 a) cy 68 30 = .inl (cy 0, 8, .inl (fun _ => 0)) := rfl
set_option maxRecDepth 20000 in
theorem zC_69 {q0 : Nat} {a : Nat → Nat} {cy : Nat → ClassId} : zc (adC q0 a) cy 69 31 = .inl (cy 0, 13, .inl (fun _ => 0)) := rfl
set_option maxRecDepth 20000 in
theorem zC_70 {q0 : Nat} {a : Nat → Nat} {cy : Nat → ClassId} : zc (adC q0 a) cy 70 32 = .inl (cy 0, 48, .inl (fun _ => 0)) := rfl
set_option maxRecDepth 20000 in
theorem zC_71 {q0 : Nat} {a : Nat → Nat} {cy : Nat → ClassId} : zc (adC q0 a) cy 71 33 = .inl (cy 6, 4, .inr (.inr (.inr (.inr (va_up (va_up (va_up (va_up (fun _ => none) 0 (some (a 120))) 1 (some (a 121))) 2 (some (a 122))) 3 (some (a 123))))))) := rfl
set_option maxRecDepth 20000 in
theorem zC_72 {q0 : Nat} {a : Nat → Nat} {cy : Nat → ClassId} : zc (adC q0 a) cy 72 34 = .inl (cy 0, 6, .inl (fun _ => 0)) := rfl
set_option maxRecDepth 20000 in
theorem zC_73 {q0 : Nat} {a : Nat → Nat} {cy : Nat → ClassId} : zc (adC q0 a) cy 73 35 = .inl (cy 0, 6, .inl (fun _ => 0)) := rfl
set_option maxRecDepth 20000 in
theorem zC_74 {q0 : Nat} {a : Nat → Nat} {cy : Nat → ClassId} : zc (adC q0 a) cy 74 36 = .inl (cy 0, 12, .inl (fun _ => 0)) := rfl
set_option maxRecDepth 20000 in
theorem zC_75 {q0 : Nat} {a : Nat → Nat} {cy : Nat → ClassId} : zc (adC q0 a) cy 75 37 = .inl (cy 0, 12, .inl (fun _ => 0)) := rfl
set_option maxRecDepth 20000 in
theorem zC_76 {q0 : Nat} {a : Nat → Nat} {cy : Nat → ClassId} : zc (adC q0 a) cy 76 38 = .inl (cy 0, 8, .inl (fun _ => 0)) := rfl
set_option maxRecDepth 20000 in
theorem zC_77 {q0 : Nat} {a : Nat → Nat} {cy : Nat → ClassId} : zc (adC q0 a) cy 77 9 = .inr (9, [.int 0, .int 0, .int 0, .int 0, .long 0, .int 0, .int 0, .int 0, .long 0]) := rfl
set_option maxRecDepth 20000 in
theorem zC_78 {q0 : Nat} {a : Nat → Nat} {cy : Nat → ClassId} : zc (adC q0 a) cy 78 9 = .inr (9, [.int 0, .int 0, .int 0, .int 0, .long 0, .int 0, .int 0, .int 0, .long 0]) := rfl
set_option maxRecDepth 20000 in
theorem zC_79 {q0 : Nat} {a : Nat → Nat} {cy : Nat → ClassId} : zc (adC q0 a) cy 79 9 = .inr (9, [.int 0, .int 0, .int 0, .int 0, .long 0, .int 0, .int 0, .int 0, .long 0]) := rfl
set_option maxRecDepth 20000 in
theorem zC_80 {q0 : Nat} {a : Nat → Nat} {cy : Nat → ClassId} : zc (adC q0 a) cy 80 9 = .inr (9, [.int 0, .int 0, .int 0, .int 0, .long 0, .int 0, .int 0, .int 0, .long 0]) := rfl
set_option maxRecDepth 20000 in
theorem zC_81 {q0 : Nat} {a : Nat → Nat} {cy : Nat → ClassId} : zc (adC q0 a) cy 81 5 = .inr (5, [.ref (a 88), .ref (a 89), .ref (a 90), .ref (a 91), .ref (a 92), .ref (a 93), .ref (a 94), .ref (a 95), .int 0, .int 0, .int 0, .int 0, .int 0, .int 0]) := rfl
set_option maxRecDepth 20000 in
theorem zC_82 {q0 : Nat} {a : Nat → Nat} {cy : Nat → ClassId} : zc (adC q0 a) cy 82 7 = .inr (7, [.ref (a 124), .ref (a 125), .ref (a 126), .ref (a 127), .ref (a 128), .ref (a 129), .ref (a 130), .ref (a 131), .int 0, .int 0, .int 0, .int 0]) := rfl
set_option maxRecDepth 20000 in
theorem zC_83 {q0 : Nat} {a : Nat → Nat} {cy : Nat → ClassId} : zc (adC q0 a) cy 83 24 = .inl (cy 0, 26, .inl (fun _ => 0)) := rfl
set_option maxRecDepth 20000 in
theorem zC_84 {q0 : Nat} {a : Nat → Nat} {cy : Nat → ClassId} : zc (adC q0 a) cy 84 25 = .inl (cy 0, 13, .inl (fun _ => 0)) := rfl
set_option maxRecDepth 20000 in
theorem zC_85 {q0 : Nat} {a : Nat → Nat} {cy : Nat → ClassId} : zc (adC q0 a) cy 85 26 = .inl (cy 0, 91, .inl (fun _ => 0)) := rfl
set_option maxRecDepth 20000 in
theorem zC_86 {q0 : Nat} {a : Nat → Nat} {cy : Nat → ClassId} : zc (adC q0 a) cy 86 27 = .inl (cy 0, 13, .inl (fun _ => 0)) := rfl
set_option maxRecDepth 20000 in
theorem zC_87 {q0 : Nat} {a : Nat → Nat} {cy : Nat → ClassId} : zc (adC q0 a) cy 87 28 = .inl (cy 0, 26, .inl (fun _ => 0)) := rfl
set_option maxRecDepth 20000 in
theorem zC_88 {q0 : Nat} {a : Nat → Nat} {cy : Nat → ClassId} : zc (adC q0 a) cy 88 29 = .inl (cy 0, 8, .inl (fun _ => 0)) := rfl
set_option maxRecDepth 20000 in
theorem zC_89 {q0 : Nat} {a : Nat → Nat} {cy : Nat → ClassId} : zc (adC q0 a) cy 89 30 = .inl (cy 0, 8, .inl (fun _ => 0)) := rfl
set_option maxRecDepth 20000 in
theorem zC_90 {q0 : Nat} {a : Nat → Nat} {cy : Nat → ClassId} : zc (adC q0 a) cy 90 31 = .inl (cy 0, 13, .inl (fun _ => 0)) := rfl
set_option maxRecDepth 20000 in
theorem zC_91 {q0 : Nat} {a : Nat → Nat} {cy : Nat → ClassId} : zc (adC q0 a) cy 91 32 = .inl (cy 0, 48, .inl (fun _ => 0)) := rfl
set_option maxRecDepth 20000 in
theorem zC_92 {q0 : Nat} {a : Nat → Nat} {cy : Nat → ClassId} : zc (adC q0 a) cy 92 33 = .inl (cy 6, 4, .inr (.inr (.inr (.inr (va_up (va_up (va_up (va_up (fun _ => none) 0 (some (a 132))) 1 (some (a 133))) 2 (some (a 134))) 3 (some (a 135))))))) := rfl
set_option maxRecDepth 20000 in
theorem zC_93 {q0 : Nat} {a : Nat → Nat} {cy : Nat → ClassId} : zc (adC q0 a) cy 93 34 = .inl (cy 0, 6, .inl (fun _ => 0)) := rfl
set_option maxRecDepth 20000 in
theorem zC_94 {q0 : Nat} {a : Nat → Nat} {cy : Nat → ClassId} : zc (adC q0 a) cy 94 35 = .inl (cy 0, 6, .inl (fun _ => 0)) := rfl
set_option maxRecDepth 20000 in
theorem zC_95 {q0 : Nat} {a : Nat → Nat} {cy : Nat → ClassId} : zc (adC q0 a) cy 95 36 = .inl (cy 0, 12, .inl (fun _ => 0)) := rfl
set_option maxRecDepth 20000 in
theorem zC_96 {q0 : Nat} {a : Nat → Nat} {cy : Nat → ClassId} : zc (adC q0 a) cy 96 37 = .inl (cy 0, 12, .inl (fun _ => 0)) := rfl
set_option maxRecDepth 20000 in
theorem zC_97 {q0 : Nat} {a : Nat → Nat} {cy : Nat → ClassId} : zc (adC q0 a) cy 97 38 = .inl (cy 0, 8, .inl (fun _ => 0)) := rfl
set_option maxRecDepth 20000 in
theorem zC_98 {q0 : Nat} {a : Nat → Nat} {cy : Nat → ClassId} : zc (adC q0 a) cy 98 9 = .inr (9, [.int 0, .int 0, .int 0, .int 0, .long 0, .int 0, .int 0, .int 0, .long 0]) := rfl
set_option maxRecDepth 20000 in
theorem zC_99 {q0 : Nat} {a : Nat → Nat} {cy : Nat → ClassId} : zc (adC q0 a) cy 99 9 = .inr (9, [.int 0, .int 0, .int 0, .int 0, .long 0, .int 0, .int 0, .int 0, .long 0]) := rfl
set_option maxRecDepth 20000 in
theorem zC_100 {q0 : Nat} {a : Nat → Nat} {cy : Nat → ClassId} : zc (adC q0 a) cy 100 9 = .inr (9, [.int 0, .int 0, .int 0, .int 0, .long 0, .int 0, .int 0, .int 0, .long 0]) := rfl
set_option maxRecDepth 20000 in
theorem zC_101 {q0 : Nat} {a : Nat → Nat} {cy : Nat → ClassId} : zc (adC q0 a) cy 101 9 = .inr (9, [.int 0, .int 0, .int 0, .int 0, .long 0, .int 0, .int 0, .int 0, .long 0]) := rfl
set_option maxRecDepth 20000 in
theorem zC_102 {q0 : Nat} {a : Nat → Nat} {cy : Nat → ClassId} : zc (adC q0 a) cy 102 5 = .inr (5, [.ref (a 96), .ref (a 97), .ref (a 98), .ref (a 99), .ref (a 100), .ref (a 101), .ref (a 102), .ref (a 103), .int 0, .int 0, .int 0, .int 0, .int 0, .int 0]) := rfl
set_option maxRecDepth 20000 in
theorem zC_103 {q0 : Nat} {a : Nat → Nat} {cy : Nat → ClassId} : zc (adC q0 a) cy 103 7 = .inr (7, [.ref (a 136), .ref (a 137), .ref (a 138), .ref (a 139), .ref (a 140), .ref (a 141), .ref (a 142), .ref (a 143), .int 0, .int 0, .int 0, .int 0]) := rfl
set_option maxRecDepth 20000 in
theorem zC_104 {q0 : Nat} {a : Nat → Nat} {cy : Nat → ClassId} : zc (adC q0 a) cy 104 24 = .inl (cy 0, 26, .inl (fun _ => 0)) := rfl
set_option maxRecDepth 20000 in
theorem zC_105 {q0 : Nat} {a : Nat → Nat} {cy : Nat → ClassId} : zc (adC q0 a) cy 105 25 = .inl (cy 0, 13, .inl (fun _ => 0)) := rfl
set_option maxRecDepth 20000 in
theorem zC_106 {q0 : Nat} {a : Nat → Nat} {cy : Nat → ClassId} : zc (adC q0 a) cy 106 26 = .inl (cy 0, 91, .inl (fun _ => 0)) := rfl
set_option maxRecDepth 20000 in
theorem zC_107 {q0 : Nat} {a : Nat → Nat} {cy : Nat → ClassId} : zc (adC q0 a) cy 107 27 = .inl (cy 0, 13, .inl (fun _ => 0)) := rfl
set_option maxRecDepth 20000 in
theorem zC_108 {q0 : Nat} {a : Nat → Nat} {cy : Nat → ClassId} : zc (adC q0 a) cy 108 28 = .inl (cy 0, 26, .inl (fun _ => 0)) := rfl
set_option maxRecDepth 20000 in
theorem zC_109 {q0 : Nat} {a : Nat → Nat} {cy : Nat → ClassId} : zc (adC q0 a) cy 109 29 = .inl (cy 0, 8, .inl (fun _ => 0)) := rfl
set_option maxRecDepth 20000 in
theorem zC_110 {q0 : Nat} {a : Nat → Nat} {cy : Nat → ClassId} : zc (adC q0 a) cy 110 30 = .inl (cy 0, 8, .inl (fun _ => 0)) := rfl
set_option maxRecDepth 20000 in
theorem zC_111 {q0 : Nat} {a : Nat → Nat} {cy : Nat → ClassId} : zc (adC q0 a) cy 111 31 = .inl (cy 0, 13, .inl (fun _ => 0)) := rfl
set_option maxRecDepth 20000 in
theorem zC_112 {q0 : Nat} {a : Nat → Nat} {cy : Nat → ClassId} : zc (adC q0 a) cy 112 32 = .inl (cy 0, 48, .inl (fun _ => 0)) := rfl
set_option maxRecDepth 20000 in
theorem zC_113 {q0 : Nat} {a : Nat → Nat} {cy : Nat → ClassId} : zc (adC q0 a) cy 113 33 = .inl (cy 6, 4, .inr (.inr (.inr (.inr (va_up (va_up (va_up (va_up (fun _ => none) 0 (some (a 144))) 1 (some (a 145))) 2 (some (a 146))) 3 (some (a 147))))))) := rfl
set_option maxRecDepth 20000 in
theorem zC_114 {q0 : Nat} {a : Nat → Nat} {cy : Nat → ClassId} : zc (adC q0 a) cy 114 34 = .inl (cy 0, 6, .inl (fun _ => 0)) := rfl
set_option maxRecDepth 20000 in
theorem zC_115 {q0 : Nat} {a : Nat → Nat} {cy : Nat → ClassId} : zc (adC q0 a) cy 115 35 = .inl (cy 0, 6, .inl (fun _ => 0)) := rfl
set_option maxRecDepth 20000 in
theorem zC_116 {q0 : Nat} {a : Nat → Nat} {cy : Nat → ClassId} : zc (adC q0 a) cy 116 36 = .inl (cy 0, 12, .inl (fun _ => 0)) := rfl
set_option maxRecDepth 20000 in
theorem zC_117 {q0 : Nat} {a : Nat → Nat} {cy : Nat → ClassId} : zc (adC q0 a) cy 117 37 = .inl (cy 0, 12, .inl (fun _ => 0)) := rfl
set_option maxRecDepth 20000 in
theorem zC_118 {q0 : Nat} {a : Nat → Nat} {cy : Nat → ClassId} : zc (adC q0 a) cy 118 38 = .inl (cy 0, 8, .inl (fun _ => 0)) := rfl
set_option maxRecDepth 20000 in
theorem zC_119 {q0 : Nat} {a : Nat → Nat} {cy : Nat → ClassId} : zc (adC q0 a) cy 119 9 = .inr (9, [.int 0, .int 0, .int 0, .int 0, .long 0, .int 0, .int 0, .int 0, .long 0]) := rfl
set_option maxRecDepth 20000 in
theorem zC_120 {q0 : Nat} {a : Nat → Nat} {cy : Nat → ClassId} : zc (adC q0 a) cy 120 9 = .inr (9, [.int 0, .int 0, .int 0, .int 0, .long 0, .int 0, .int 0, .int 0, .long 0]) := rfl
set_option maxRecDepth 20000 in
theorem zC_121 {q0 : Nat} {a : Nat → Nat} {cy : Nat → ClassId} : zc (adC q0 a) cy 121 9 = .inr (9, [.int 0, .int 0, .int 0, .int 0, .long 0, .int 0, .int 0, .int 0, .long 0]) := rfl
set_option maxRecDepth 20000 in
theorem zC_122 {q0 : Nat} {a : Nat → Nat} {cy : Nat → ClassId} : zc (adC q0 a) cy 122 9 = .inr (9, [.int 0, .int 0, .int 0, .int 0, .long 0, .int 0, .int 0, .int 0, .long 0]) := rfl
set_option maxRecDepth 20000 in
theorem zC_123 {q0 : Nat} {a : Nat → Nat} {cy : Nat → ClassId} : zc (adC q0 a) cy 123 5 = .inr (5, [.ref (a 104), .ref (a 105), .ref (a 106), .ref (a 107), .ref (a 108), .ref (a 109), .ref (a 110), .ref (a 111), .int 0, .int 0, .int 0, .int 0, .int 0, .int 0]) := rfl
set_option maxRecDepth 20000 in
theorem zC_124 {q0 : Nat} {a : Nat → Nat} {cy : Nat → ClassId} : zc (adC q0 a) cy 124 7 = .inr (7, [.ref (a 148), .ref (a 149), .ref (a 150), .ref (a 151), .ref (a 152), .ref (a 153), .ref (a 154), .ref (a 155), .int 0, .int 0, .int 0, .int 0]) := rfl
set_option maxRecDepth 20000 in
theorem zC_125 {q0 : Nat} {a : Nat → Nat} {cy : Nat → ClassId} : zc (adC q0 a) cy 125 24 = .inl (cy 0, 26, .inl (fun _ => 0)) := rfl
set_option maxRecDepth 20000 in
theorem zC_126 {q0 : Nat} {a : Nat → Nat} {cy : Nat → ClassId} : zc (adC q0 a) cy 126 25 = .inl (cy 0, 13, .inl (fun _ => 0)) := rfl
set_option maxRecDepth 20000 in
theorem zC_127 {q0 : Nat} {a : Nat → Nat} {cy : Nat → ClassId} : zc (adC q0 a) cy 127 26 = .inl (cy 0, 91, .inl (fun _ => 0)) := rfl
set_option maxRecDepth 20000 in
theorem zC_128 {q0 : Nat} {a : Nat → Nat} {cy : Nat → ClassId} : zc (adC q0 a) cy 128 27 = .inl (cy 0, 13, .inl (fun _ => 0)) := rfl
set_option maxRecDepth 20000 in
theorem zC_129 {q0 : Nat} {a : Nat → Nat} {cy : Nat → ClassId} : zc (adC q0 a) cy 129 28 = .inl (cy 0, 26, .inl (fun _ => 0)) := rfl
set_option maxRecDepth 20000 in
theorem zC_130 {q0 : Nat} {a : Nat → Nat} {cy : Nat → ClassId} : zc (adC q0 a) cy 130 29 = .inl (cy 0, 8, .inl (fun _ => 0)) := rfl
set_option maxRecDepth 20000 in
theorem zC_131 {q0 : Nat} {a : Nat → Nat} {cy : Nat → ClassId} : zc (adC q0 a) cy 131 30 = .inl (cy 0, 8, .inl (fun _ => 0)) := rfl
set_option maxRecDepth 20000 in
theorem zC_132 {q0 : Nat} {a : Nat → Nat} {cy : Nat → ClassId} : zc (adC q0 a) cy 132 31 = .inl (cy 0, 13, .inl (fun _ => 0)) := rfl
set_option maxRecDepth 20000 in
theorem zC_133 {q0 : Nat} {a : Nat → Nat} {cy : Nat → ClassId} : zc (adC q0 a) cy 133 32 = .inl (cy 0, 48, .inl (fun _ => 0)) := rfl
set_option maxRecDepth 20000 in
theorem zC_134 {q0 : Nat} {a : Nat → Nat} {cy : Nat → ClassId} : zc (adC q0 a) cy 134 33 = .inl (cy 6, 4, .inr (.inr (.inr (.inr (va_up (va_up (va_up (va_up (fun _ => none) 0 (some (a 156))) 1 (some (a 157))) 2 (some (a 158))) 3 (some (a 159))))))) := rfl
set_option maxRecDepth 20000 in
theorem zC_135 {q0 : Nat} {a : Nat → Nat} {cy : Nat → ClassId} : zc (adC q0 a) cy 135 34 = .inl (cy 0, 6, .inl (fun _ => 0)) := rfl
set_option maxRecDepth 20000 in
theorem zC_136 {q0 : Nat} {a : Nat → Nat} {cy : Nat → ClassId} : zc (adC q0 a) cy 136 35 = .inl (cy 0, 6, .inl (fun _ => 0)) := rfl
set_option maxRecDepth 20000 in
theorem zC_137 {q0 : Nat} {a : Nat → Nat} {cy : Nat → ClassId} : zc (adC q0 a) cy 137 36 = .inl (cy 0, 12, .inl (fun _ => 0)) := rfl
set_option maxRecDepth 20000 in
theorem zC_138 {q0 : Nat} {a : Nat → Nat} {cy : Nat → ClassId} : zc (adC q0 a) cy 138 37 = .inl (cy 0, 12, .inl (fun _ => 0)) := rfl
set_option maxRecDepth 20000 in
theorem zC_139 {q0 : Nat} {a : Nat → Nat} {cy : Nat → ClassId} : zc (adC q0 a) cy 139 38 = .inl (cy 0, 8, .inl (fun _ => 0)) := rfl
set_option maxRecDepth 20000 in
theorem zC_140 {q0 : Nat} {a : Nat → Nat} {cy : Nat → ClassId} : zc (adC q0 a) cy 140 9 = .inr (9, [.int 0, .int 0, .int 0, .int 0, .long 0, .int 0, .int 0, .int 0, .long 0]) := rfl
set_option maxRecDepth 20000 in
theorem zC_141 {q0 : Nat} {a : Nat → Nat} {cy : Nat → ClassId} : zc (adC q0 a) cy 141 9 = .inr (9, [.int 0, .int 0, .int 0, .int 0, .long 0, .int 0, .int 0, .int 0, .long 0]) := rfl
set_option maxRecDepth 20000 in
theorem zC_142 {q0 : Nat} {a : Nat → Nat} {cy : Nat → ClassId} : zc (adC q0 a) cy 142 9 = .inr (9, [.int 0, .int 0, .int 0, .int 0, .long 0, .int 0, .int 0, .int 0, .long 0]) := rfl
set_option maxRecDepth 20000 in
theorem zC_143 {q0 : Nat} {a : Nat → Nat} {cy : Nat → ClassId} : zc (adC q0 a) cy 143 9 = .inr (9, [.int 0, .int 0, .int 0, .int 0, .long 0, .int 0, .int 0, .int 0, .long 0]) := rfl
set_option maxRecDepth 20000 in
theorem zC_144 {q0 : Nat} {a : Nat → Nat} {cy : Nat → ClassId} : zc (adC q0 a) cy 144 41 = .inl (cy 2, 4, .inl (fun _ => 0)) := rfl
set_option maxRecDepth 20000 in
theorem zC_145 {q0 : Nat} {a : Nat → Nat} {cy : Nat → ClassId} : zc (adC q0 a) cy 145 0 = .inr (0, [.ref (a 4), .ref (a 39), .ref (a 40), .ref (a 41)]) := rfl
set_option maxRecDepth 20000 in
theorem zC_146 {q0 : Nat} {a : Nat → Nat} {cy : Nat → ClassId} : zc (adC q0 a) cy 146 42 = .inl (cy 0, 1100, .inl (fun _ => 0)) := rfl
set_option maxRecDepth 20000 in
theorem zC_147 {q0 : Nat} {a : Nat → Nat} {cy : Nat → ClassId} : zc (adC q0 a) cy 147 43 = .inl (cy 0, 1100, .inl (fun _ => 0)) := rfl
set_option maxRecDepth 20000 in
theorem zC_148 {q0 : Nat} {a : Nat → Nat} {cy : Nat → ClassId} : zc (adC q0 a) cy 148 44 = .inl (cy 2, 11, .inl (fun _ => 0)) := rfl
set_option maxRecDepth 20000 in
theorem zC_149 {q0 : Nat} {a : Nat → Nat} {cy : Nat → ClassId} : zc (adC q0 a) cy 149 1 = .inr (1, [.ref (a 4), .ref (a 7), .ref (a 2), .ref (a 42), .int 0, .int 0, .int 0, .int 0, .int 0, .int 0]) := rfl
set_option maxRecDepth 20000 in
theorem zC_150 {q0 : Nat} {a : Nat → Nat} {cy : Nat → ClassId} : zc (adC q0 a) cy 150 45 = .inl (cy 1, 64, .inr (.inl (fun _ => 0))) := rfl
set_option maxRecDepth 20000 in
theorem zC_151 {q0 : Nat} {a : Nat → Nat} {cy : Nat → ClassId} : zc (adC q0 a) cy 151 8 = .inr (8, [.ref (a 4), .ref (a 7), .ref (a 8), .ref (a 43), .ref (a 44), .ref (a 45), .int 0, .int 0]) := rfl
set_option maxRecDepth 20000 in
theorem zC_152 {q0 : Nat} {a : Nat → Nat} {cy : Nat → ClassId} : zc (adC q0 a) cy 152 9 = .inr (9, [.int 0, .int 0, .int 0, .int 0, .long 0, .int 0, .int 0, .int 0, .long 0]) := rfl
set_option maxRecDepth 20000 in
theorem zC_153 {q0 : Nat} {a : Nat → Nat} {cy : Nat → ClassId} : zc (adC q0 a) cy 153 46 = .inl (cy 0, 301, .inl (fun _ => 0)) := rfl
set_option maxRecDepth 20000 in
theorem zC_154 {q0 : Nat} {a : Nat → Nat} {cy : Nat → ClassId} : zc (adC q0 a) cy 154 47 = .inl (cy 0, 2420, .inl (fun _ => 0)) := rfl
set_option maxRecDepth 20000 in
theorem zC_155 {q0 : Nat} {a : Nat → Nat} {cy : Nat → ClassId} : zc (adC q0 a) cy 155 4 = .inr (4, [.ref (a 4), .ref (a 27), .ref (a 46), .ref (a 47)]) := rfl
set_option maxRecDepth 20000 in
theorem zC_156 {q0 : Nat} {a : Nat → Nat} {cy : Nat → ClassId} : zc (adC q0 a) cy 156 48 = .inl (cy 0, 10, .inl (fun _ => 0)) := rfl
set_option maxRecDepth 20000 in
theorem zC_157 {q0 : Nat} {a : Nat → Nat} {cy : Nat → ClassId} : zc (adC q0 a) cy 157 49 = .inl (cy 2, 10, .inl (fun _ => 0)) := rfl
set_option maxRecDepth 20000 in
theorem zC_158 {q0 : Nat} {a : Nat → Nat} {cy : Nat → ClassId} : zc (adC q0 a) cy 158 10 = .inr (10, [.ref (a 4), .ref (a 27), .ref (a 48), .ref (a 49), .int 0]) := rfl
set_option maxRecDepth 20000 in
theorem zC_159 {q0 : Nat} {a : Nat → Nat} {cy : Nat → ClassId} : zc (adC q0 a) cy 159 50 = .inl (cy 0, 12, .inl (fun _ => 0)) := rfl
set_option maxRecDepth 20000 in
theorem zC_160 {q0 : Nat} {a : Nat → Nat} {cy : Nat → ClassId} : zc (adC q0 a) cy 160 51 = .inl (cy 0, 10, .inl (fun _ => 0)) := rfl
set_option maxRecDepth 20000 in
theorem zC_all {q0 : Nat} {a : Nat → Nat} {cy : Nat → ClassId} : zW ksC (adC q0 a) cy = ((q0, .inr (11, [.ref (a 0), .ref (a 1), .ref (a 2), .ref (a 3), .ref (a 4), .ref (a 5), .ref (a 6), .ref (a 7), .ref (a 8), .ref (a 9), .ref (a 10), .ref (a 11), .int 0])) :: ((a 0), .inr (6, [.ref (a 12), .int 0, .int 0, .int 0, .int 0])) :: ((a 12), .inl (cy 0, 400, .inl (fun _ => 0))) :: ((a 3), .inr (3, [.ref (a 0), .null, .int 0])) :: ((a 2), .inl (cy 4, 6, .inr (.inr (.inr (.inr (va_up (va_up (va_up (va_up (va_up (va_up (fun _ => none) 0 (some (a 21))) 1 (some (a 22))) 2 (some (a 23))) 3 (some (a 24))) 4 (some (a 25))) 5 (some (a 26)))))))) :: ((a 21), .inr (2, [.ref (a 50), .ref (a 51), .ref (a 52), .int 0, .int 0, .int 0])) :: ((a 50), .inl (cy 0, 12, .inl (fun _ => 0))) :: ((a 51), .inl (cy 0, 13, .inl (fun _ => 0))) :: ((a 52), .inl (cy 0, 400, .inl (fun _ => 0))) :: ((a 22), .inr (2, [.ref (a 53), .ref (a 54), .ref (a 55), .int 0, .int 0, .int 0])) :: ((a 53), .inl (cy 0, 12, .inl (fun _ => 0))) :: ((a 54), .inl (cy 0, 13, .inl (fun _ => 0))) :: ((a 55), .inl (cy 0, 400, .inl (fun _ => 0))) :: ((a 23), .inr (2, [.ref (a 56), .ref (a 57), .ref (a 58), .int 0, .int 0, .int 0])) :: ((a 56), .inl (cy 0, 12, .inl (fun _ => 0))) :: ((a 57), .inl (cy 0, 13, .inl (fun _ => 0))) :: ((a 58), .inl (cy 0, 400, .inl (fun _ => 0))) :: ((a 24), .inr (2, [.ref (a 59), .ref (a 60), .ref (a 61), .int 0, .int 0, .int 0])) :: ((a 59), .inl (cy 0, 12, .inl (fun _ => 0))) :: ((a 60), .inl (cy 0, 13, .inl (fun _ => 0))) :: ((a 61), .inl (cy 0, 400, .inl (fun _ => 0))) :: ((a 25), .inr (2, [.ref (a 62), .ref (a 63), .ref (a 64), .int 0, .int 0, .int 0])) :: ((a 62), .inl (cy 0, 12, .inl (fun _ => 0))) :: ((a 63), .inl (cy 0, 13, .inl (fun _ => 0))) :: ((a 64), .inl (cy 0, 400, .inl (fun _ => 0))) :: ((a 26), .inr (2, [.ref (a 65), .ref (a 66), .ref (a 67), .int 0, .int 0, .int 0])) :: ((a 65), .inl (cy 0, 12, .inl (fun _ => 0))) :: ((a 66), .inl (cy 0, 13, .inl (fun _ => 0))) :: ((a 67), .inl (cy 0, 400, .inl (fun _ => 0))) :: ((a 1), .inr (7, [.ref (a 13), .ref (a 14), .ref (a 15), .ref (a 16), .ref (a 17), .ref (a 18), .ref (a 19), .ref (a 20), .int 0, .int 0, .int 0, .int 0])) :: ((a 13), .inl (cy 0, 26, .inl (fun _ => 0))) :: ((a 14), .inl (cy 0, 13, .inl (fun _ => 0))) :: ((a 15), .inl (cy 0, 91, .inl (fun _ => 0))) :: ((a 16), .inl (cy 0, 13, .inl (fun _ => 0))) :: ((a 17), .inl (cy 0, 26, .inl (fun _ => 0))) :: ((a 18), .inl (cy 0, 8, .inl (fun _ => 0))) :: ((a 19), .inl (cy 0, 8, .inl (fun _ => 0))) :: ((a 20), .inl (cy 0, 13, .inl (fun _ => 0))) :: ((a 4), .inr (5, [.ref (a 27), .ref (a 28), .ref (a 29), .ref (a 30), .ref (a 31), .ref (a 32), .ref (a 33), .ref (a 34), .int 0, .int 0, .int 0, .int 0, .int 0, .int 0])) :: ((a 27), .inr (7, [.ref (a 68), .ref (a 69), .ref (a 70), .ref (a 71), .ref (a 72), .ref (a 73), .ref (a 74), .ref (a 75), .int 0, .int 0, .int 0, .int 0])) :: ((a 68), .inl (cy 0, 26, .inl (fun _ => 0))) :: ((a 69), .inl (cy 0, 13, .inl (fun _ => 0))) :: ((a 70), .inl (cy 0, 91, .inl (fun _ => 0))) :: ((a 71), .inl (cy 0, 13, .inl (fun _ => 0))) :: ((a 72), .inl (cy 0, 26, .inl (fun _ => 0))) :: ((a 73), .inl (cy 0, 8, .inl (fun _ => 0))) :: ((a 74), .inl (cy 0, 8, .inl (fun _ => 0))) :: ((a 75), .inl (cy 0, 13, .inl (fun _ => 0))) :: ((a 28), .inl (cy 0, 48, .inl (fun _ => 0))) :: ((a 29), .inl (cy 6, 4, .inr (.inr (.inr (.inr (va_up (va_up (va_up (va_up (fun _ => none) 0 (some (a 76))) 1 (some (a 77))) 2 (some (a 78))) 3 (some (a 79)))))))) :: ((a 30), .inl (cy 0, 6, .inl (fun _ => 0))) :: ((a 31), .inl (cy 0, 6, .inl (fun _ => 0))) :: ((a 32), .inl (cy 0, 12, .inl (fun _ => 0))) :: ((a 33), .inl (cy 0, 12, .inl (fun _ => 0))) :: ((a 34), .inl (cy 0, 8, .inl (fun _ => 0))) :: ((a 76), .inr (9, [.int 0, .int 0, .int 0, .int 0, .long 0, .int 0, .int 0, .int 0, .long 0])) :: ((a 77), .inr (9, [.int 0, .int 0, .int 0, .int 0, .long 0, .int 0, .int 0, .int 0, .long 0])) :: ((a 78), .inr (9, [.int 0, .int 0, .int 0, .int 0, .long 0, .int 0, .int 0, .int 0, .long 0])) :: ((a 79), .inr (9, [.int 0, .int 0, .int 0, .int 0, .long 0, .int 0, .int 0, .int 0, .long 0])) :: ((a 5), .inl (cy 5, 4, .inr (.inr (.inr (.inr (va_up (va_up (va_up (va_up (fun _ => none) 0 (some (a 35))) 1 (some (a 36))) 2 (some (a 37))) 3 (some (a 38)))))))) :: ((a 35), .inr (5, [.ref (a 80), .ref (a 81), .ref (a 82), .ref (a 83), .ref (a 84), .ref (a 85), .ref (a 86), .ref (a 87), .int 0, .int 0, .int 0, .int 0, .int 0, .int 0])) :: ((a 80), .inr (7, [.ref (a 112), .ref (a 113), .ref (a 114), .ref (a 115), .ref (a 116), .ref (a 117), .ref (a 118), .ref (a 119), .int 0, .int 0, .int 0, .int 0])) :: ((a 112), .inl (cy 0, 26, .inl (fun _ => 0))) :: ((a 113), .inl (cy 0, 13, .inl (fun _ => 0))) :: ((a 114), .inl (cy 0, 91, .inl (fun _ => 0))) :: ((a 115), .inl (cy 0, 13, .inl (fun _ => 0))) :: ((a 116), .inl (cy 0, 26, .inl (fun _ => 0))) :: ((a 117), .inl (cy 0, 8, .inl (fun _ => 0))) :: ((a 118), .inl (cy 0, 8, .inl (fun _ => 0))) :: ((a 119), .inl (cy 0, 13, .inl (fun _ => 0))) :: ((a 81), .inl (cy 0, 48, .inl (fun _ => 0))) :: ((a 82), .inl (cy 6, 4, .inr (.inr (.inr (.inr (va_up (va_up (va_up (va_up (fun _ => none) 0 (some (a 120))) 1 (some (a 121))) 2 (some (a 122))) 3 (some (a 123)))))))) :: ((a 83), .inl (cy 0, 6, .inl (fun _ => 0))) :: ((a 84), .inl (cy 0, 6, .inl (fun _ => 0))) :: ((a 85), .inl (cy 0, 12, .inl (fun _ => 0))) :: ((a 86), .inl (cy 0, 12, .inl (fun _ => 0))) :: ((a 87), .inl (cy 0, 8, .inl (fun _ => 0))) :: ((a 120), .inr (9, [.int 0, .int 0, .int 0, .int 0, .long 0, .int 0, .int 0, .int 0, .long 0])) :: ((a 121), .inr (9, [.int 0, .int 0, .int 0, .int 0, .long 0, .int 0, .int 0, .int 0, .long 0])) :: ((a 122), .inr (9, [.int 0, .int 0, .int 0, .int 0, .long 0, .int 0, .int 0, .int 0, .long 0])) :: ((a 123), .inr (9, [.int 0, .int 0, .int 0, .int 0, .long 0, .int 0, .int 0, .int 0, .long 0])) :: ((a 36), .inr (5, [.ref (a 88), .ref (a 89), .ref (a 90), .ref (a 91), .ref (a 92), .ref (a 93), .ref (a 94), .ref (a 95), .int 0, .int 0, .int 0, .int 0, .int 0, .int 0])) :: ((a 88), .inr (7, [.ref (a 124), .ref (a 125), .ref (a 126), .ref (a 127), .ref (a 128), .ref (a 129), .ref (a 130), .ref (a 131), .int 0, .int 0, .int 0, .int 0])) :: ((a 124), .inl (cy 0, 26, .inl (fun _ => 0))) :: ((a 125), .inl (cy 0, 13, .inl (fun _ => 0))) :: ((a 126), .inl (cy 0, 91, .inl (fun _ => 0))) :: ((a 127), .inl (cy 0, 13, .inl (fun _ => 0))) :: ((a 128), .inl (cy 0, 26, .inl (fun _ => 0))) :: ((a 129), .inl (cy 0, 8, .inl (fun _ => 0))) :: ((a 130), .inl (cy 0, 8, .inl (fun _ => 0))) :: ((a 131), .inl (cy 0, 13, .inl (fun _ => 0))) :: ((a 89), .inl (cy 0, 48, .inl (fun _ => 0))) :: ((a 90), .inl (cy 6, 4, .inr (.inr (.inr (.inr (va_up (va_up (va_up (va_up (fun _ => none) 0 (some (a 132))) 1 (some (a 133))) 2 (some (a 134))) 3 (some (a 135)))))))) :: ((a 91), .inl (cy 0, 6, .inl (fun _ => 0))) :: ((a 92), .inl (cy 0, 6, .inl (fun _ => 0))) :: ((a 93), .inl (cy 0, 12, .inl (fun _ => 0))) :: ((a 94), .inl (cy 0, 12, .inl (fun _ => 0))) :: ((a 95), .inl (cy 0, 8, .inl (fun _ => 0))) :: ((a 132), .inr (9, [.int 0, .int 0, .int 0, .int 0, .long 0, .int 0, .int 0, .int 0, .long 0])) :: ((a 133), .inr (9, [.int 0, .int 0, .int 0, .int 0, .long 0, .int 0, .int 0, .int 0, .long 0])) :: ((a 134), .inr (9, [.int 0, .int 0, .int 0, .int 0, .long 0, .int 0, .int 0, .int 0, .long 0])) :: ((a 135), .inr (9, [.int 0, .int 0, .int 0, .int 0, .long 0, .int 0, .int 0, .int 0, .long 0])) :: ((a 37), .inr (5, [.ref (a 96), .ref (a 97), .ref (a 98), .ref (a 99), .ref (a 100), .ref (a 101), .ref (a 102), .ref (a 103), .int 0, .int 0, .int 0, .int 0, .int 0, .int 0])) :: ((a 96), .inr (7, [.ref (a 136), .ref (a 137), .ref (a 138), .ref (a 139), .ref (a 140), .ref (a 141), .ref (a 142), .ref (a 143), .int 0, .int 0, .int 0, .int 0])) :: ((a 136), .inl (cy 0, 26, .inl (fun _ => 0))) :: ((a 137), .inl (cy 0, 13, .inl (fun _ => 0))) :: ((a 138), .inl (cy 0, 91, .inl (fun _ => 0))) :: ((a 139), .inl (cy 0, 13, .inl (fun _ => 0))) :: ((a 140), .inl (cy 0, 26, .inl (fun _ => 0))) :: ((a 141), .inl (cy 0, 8, .inl (fun _ => 0))) :: ((a 142), .inl (cy 0, 8, .inl (fun _ => 0))) :: ((a 143), .inl (cy 0, 13, .inl (fun _ => 0))) :: ((a 97), .inl (cy 0, 48, .inl (fun _ => 0))) :: ((a 98), .inl (cy 6, 4, .inr (.inr (.inr (.inr (va_up (va_up (va_up (va_up (fun _ => none) 0 (some (a 144))) 1 (some (a 145))) 2 (some (a 146))) 3 (some (a 147)))))))) :: ((a 99), .inl (cy 0, 6, .inl (fun _ => 0))) :: ((a 100), .inl (cy 0, 6, .inl (fun _ => 0))) :: ((a 101), .inl (cy 0, 12, .inl (fun _ => 0))) :: ((a 102), .inl (cy 0, 12, .inl (fun _ => 0))) :: ((a 103), .inl (cy 0, 8, .inl (fun _ => 0))) :: ((a 144), .inr (9, [.int 0, .int 0, .int 0, .int 0, .long 0, .int 0, .int 0, .int 0, .long 0])) :: ((a 145), .inr (9, [.int 0, .int 0, .int 0, .int 0, .long 0, .int 0, .int 0, .int 0, .long 0])) :: ((a 146), .inr (9, [.int 0, .int 0, .int 0, .int 0, .long 0, .int 0, .int 0, .int 0, .long 0])) :: ((a 147), .inr (9, [.int 0, .int 0, .int 0, .int 0, .long 0, .int 0, .int 0, .int 0, .long 0])) :: ((a 38), .inr (5, [.ref (a 104), .ref (a 105), .ref (a 106), .ref (a 107), .ref (a 108), .ref (a 109), .ref (a 110), .ref (a 111), .int 0, .int 0, .int 0, .int 0, .int 0, .int 0])) :: ((a 104), .inr (7, [.ref (a 148), .ref (a 149), .ref (a 150), .ref (a 151), .ref (a 152), .ref (a 153), .ref (a 154), .ref (a 155), .int 0, .int 0, .int 0, .int 0])) :: ((a 148), .inl (cy 0, 26, .inl (fun _ => 0))) :: ((a 149), .inl (cy 0, 13, .inl (fun _ => 0))) :: ((a 150), .inl (cy 0, 91, .inl (fun _ => 0))) :: ((a 151), .inl (cy 0, 13, .inl (fun _ => 0))) :: ((a 152), .inl (cy 0, 26, .inl (fun _ => 0))) :: ((a 153), .inl (cy 0, 8, .inl (fun _ => 0))) :: ((a 154), .inl (cy 0, 8, .inl (fun _ => 0))) :: ((a 155), .inl (cy 0, 13, .inl (fun _ => 0))) :: ((a 105), .inl (cy 0, 48, .inl (fun _ => 0))) :: ((a 106), .inl (cy 6, 4, .inr (.inr (.inr (.inr (va_up (va_up (va_up (va_up (fun _ => none) 0 (some (a 156))) 1 (some (a 157))) 2 (some (a 158))) 3 (some (a 159)))))))) :: ((a 107), .inl (cy 0, 6, .inl (fun _ => 0))) :: ((a 108), .inl (cy 0, 6, .inl (fun _ => 0))) :: ((a 109), .inl (cy 0, 12, .inl (fun _ => 0))) :: ((a 110), .inl (cy 0, 12, .inl (fun _ => 0))) :: ((a 111), .inl (cy 0, 8, .inl (fun _ => 0))) :: ((a 156), .inr (9, [.int 0, .int 0, .int 0, .int 0, .long 0, .int 0, .int 0, .int 0, .long 0])) :: ((a 157), .inr (9, [.int 0, .int 0, .int 0, .int 0, .long 0, .int 0, .int 0, .int 0, .long 0])) :: ((a 158), .inr (9, [.int 0, .int 0, .int 0, .int 0, .long 0, .int 0, .int 0, .int 0, .long 0])) :: ((a 159), .inr (9, [.int 0, .int 0, .int 0, .int 0, .long 0, .int 0, .int 0, .int 0, .long 0])) :: ((a 6), .inl (cy 2, 4, .inl (fun _ => 0))) :: ((a 7), .inr (0, [.ref (a 4), .ref (a 39), .ref (a 40), .ref (a 41)])) :: ((a 39), .inl (cy 0, 1100, .inl (fun _ => 0))) :: ((a 40), .inl (cy 0, 1100, .inl (fun _ => 0))) :: ((a 41), .inl (cy 2, 11, .inl (fun _ => 0))) :: ((a 8), .inr (1, [.ref (a 4), .ref (a 7), .ref (a 2), .ref (a 42), .int 0, .int 0, .int 0, .int 0, .int 0, .int 0])) :: ((a 42), .inl (cy 1, 64, .inr (.inl (fun _ => 0)))) :: ((a 9), .inr (8, [.ref (a 4), .ref (a 7), .ref (a 8), .ref (a 43), .ref (a 44), .ref (a 45), .int 0, .int 0])) :: ((a 43), .inr (9, [.int 0, .int 0, .int 0, .int 0, .long 0, .int 0, .int 0, .int 0, .long 0])) :: ((a 44), .inl (cy 0, 301, .inl (fun _ => 0))) :: ((a 45), .inl (cy 0, 2420, .inl (fun _ => 0))) :: ((a 10), .inr (4, [.ref (a 4), .ref (a 27), .ref (a 46), .ref (a 47)])) :: ((a 46), .inl (cy 0, 10, .inl (fun _ => 0))) :: ((a 47), .inl (cy 2, 10, .inl (fun _ => 0))) :: ((a 11), .inr (10, [.ref (a 4), .ref (a 27), .ref (a 48), .ref (a 49), .int 0])) :: ((a 48), .inl (cy 0, 12, .inl (fun _ => 0))) :: ((a 49), .inl (cy 0, 10, .inl (fun _ => 0))) :: ([] : va_W)) := by
  show (adC q0 a 0, zc (adC q0 a) cy 0 11) :: (adC q0 a 1, zc (adC q0 a) cy 1 6) :: (adC q0 a 2, zc (adC q0 a) cy 2 20) :: (adC q0 a 3, zc (adC q0 a) cy 3 3) :: (adC q0 a 4, zc (adC q0 a) cy 4 39) :: (adC q0 a 5, zc (adC q0 a) cy 5 2) :: (adC q0 a 6, zc (adC q0 a) cy 6 21) :: (adC q0 a 7, zc (adC q0 a) cy 7 22) :: (adC q0 a 8, zc (adC q0 a) cy 8 23) :: (adC q0 a 9, zc (adC q0 a) cy 9 2) :: (adC q0 a 10, zc (adC q0 a) cy 10 21) :: (adC q0 a 11, zc (adC q0 a) cy 11 22) :: (adC q0 a 12, zc (adC q0 a) cy 12 23) :: (adC q0 a 13, zc (adC q0 a) cy 13 2) :: (adC q0 a 14, zc (adC q0 a) cy 14 21) :: (adC q0 a 15, zc (adC q0 a) cy 15 22) :: (adC q0 a 16, zc (adC q0 a) cy 16 23) :: (adC q0 a 17, zc (adC q0 a) cy 17 2) :: (adC q0 a 18, zc (adC q0 a) cy 18 21) :: (adC q0 a 19, zc (adC q0 a) cy 19 22) :: (adC q0 a 20, zc (adC q0 a) cy 20 23) :: (adC q0 a 21, zc (adC q0 a) cy 21 2) :: (adC q0 a 22, zc (adC q0 a) cy 22 21) :: (adC q0 a 23, zc (adC q0 a) cy 23 22) :: (adC q0 a 24, zc (adC q0 a) cy 24 23) :: (adC q0 a 25, zc (adC q0 a) cy 25 2) :: (adC q0 a 26, zc (adC q0 a) cy 26 21) :: (adC q0 a 27, zc (adC q0 a) cy 27 22) :: (adC q0 a 28, zc (adC q0 a) cy 28 23) :: (adC q0 a 29, zc (adC q0 a) cy 29 7) :: (adC q0 a 30, zc (adC q0 a) cy 30 24) :: (adC q0 a 31, zc (adC q0 a) cy 31 25) :: (adC q0 a 32, zc (adC q0 a) cy 32 26) :: (adC q0 a 33, zc (adC q0 a) cy 33 27) :: (adC q0 a 34, zc (adC q0 a) cy 34 28) :: (adC q0 a 35, zc (adC q0 a) cy 35 29) :: (adC q0 a 36, zc (adC q0 a) cy 36 30) :: (adC q0 a 37, zc (adC q0 a) cy 37 31) :: (adC q0 a 38, zc (adC q0 a) cy 38 5) :: (adC q0 a 39, zc (adC q0 a) cy 39 7) :: (adC q0 a 40, zc (adC q0 a) cy 40 24) :: (adC q0 a 41, zc (adC q0 a) cy 41 25) :: (adC q0 a 42, zc (adC q0 a) cy 42 26) :: (adC q0 a 43, zc (adC q0 a) cy 43 27) :: (adC q0 a 44, zc (adC q0 a) cy 44 28) :: (adC q0 a 45, zc (adC q0 a) cy 45 29) :: (adC q0 a 46, zc (adC q0 a) cy 46 30) :: (adC q0 a 47, zc (adC q0 a) cy 47 31) :: (adC q0 a 48, zc (adC q0 a) cy 48 32) :: (adC q0 a 49, zc (adC q0 a) cy 49 33) :: (adC q0 a 50, zc (adC q0 a) cy 50 34) :: (adC q0 a 51, zc (adC q0 a) cy 51 35) :: (adC q0 a 52, zc (adC q0 a) cy 52 36) :: (adC q0 a 53, zc (adC q0 a) cy 53 37) :: (adC q0 a 54, zc (adC q0 a) cy 54 38) :: (adC q0 a 55, zc (adC q0 a) cy 55 9) :: (adC q0 a 56, zc (adC q0 a) cy 56 9) :: (adC q0 a 57, zc (adC q0 a) cy 57 9) :: (adC q0 a 58, zc (adC q0 a) cy 58 9) :: (adC q0 a 59, zc (adC q0 a) cy 59 40) :: (adC q0 a 60, zc (adC q0 a) cy 60 5) :: (adC q0 a 61, zc (adC q0 a) cy 61 7) :: (adC q0 a 62, zc (adC q0 a) cy 62 24) :: (adC q0 a 63, zc (adC q0 a) cy 63 25) :: (adC q0 a 64, zc (adC q0 a) cy 64 26) :: (adC q0 a 65, zc (adC q0 a) cy 65 27) :: (adC q0 a 66, zc (adC q0 a) cy 66 28) :: (adC q0 a 67, zc (adC q0 a) cy 67 29) :: (adC q0 a 68, zc (adC q0 a) cy 68 30) :: (adC q0 a 69, zc (adC q0 a) cy 69 31) :: (adC q0 a 70, zc (adC q0 a) cy 70 32) :: (adC q0 a 71, zc (adC q0 a) cy 71 33) :: (adC q0 a 72, zc (adC q0 a) cy 72 34) :: (adC q0 a 73, zc (adC q0 a) cy 73 35) :: (adC q0 a 74, zc (adC q0 a) cy 74 36) :: (adC q0 a 75, zc (adC q0 a) cy 75 37) :: (adC q0 a 76, zc (adC q0 a) cy 76 38) :: (adC q0 a 77, zc (adC q0 a) cy 77 9) :: (adC q0 a 78, zc (adC q0 a) cy 78 9) :: (adC q0 a 79, zc (adC q0 a) cy 79 9) :: (adC q0 a 80, zc (adC q0 a) cy 80 9) :: (adC q0 a 81, zc (adC q0 a) cy 81 5) :: (adC q0 a 82, zc (adC q0 a) cy 82 7) :: (adC q0 a 83, zc (adC q0 a) cy 83 24) :: (adC q0 a 84, zc (adC q0 a) cy 84 25) :: (adC q0 a 85, zc (adC q0 a) cy 85 26) :: (adC q0 a 86, zc (adC q0 a) cy 86 27) :: (adC q0 a 87, zc (adC q0 a) cy 87 28) :: (adC q0 a 88, zc (adC q0 a) cy 88 29) :: (adC q0 a 89, zc (adC q0 a) cy 89 30) :: (adC q0 a 90, zc (adC q0 a) cy 90 31) :: (adC q0 a 91, zc (adC q0 a) cy 91 32) :: (adC q0 a 92, zc (adC q0 a) cy 92 33) :: (adC q0 a 93, zc (adC q0 a) cy 93 34) :: (adC q0 a 94, zc (adC q0 a) cy 94 35) :: (adC q0 a 95, zc (adC q0 a) cy 95 36) :: (adC q0 a 96, zc (adC q0 a) cy 96 37) :: (adC q0 a 97, zc (adC q0 a) cy 97 38) :: (adC q0 a 98, zc (adC q0 a) cy 98 9) :: (adC q0 a 99, zc (adC q0 a) cy 99 9) :: (adC q0 a 100, zc (adC q0 a) cy 100 9) :: (adC q0 a 101, zc (adC q0 a) cy 101 9) :: (adC q0 a 102, zc (adC q0 a) cy 102 5) :: (adC q0 a 103, zc (adC q0 a) cy 103 7) :: (adC q0 a 104, zc (adC q0 a) cy 104 24) :: (adC q0 a 105, zc (adC q0 a) cy 105 25) :: (adC q0 a 106, zc (adC q0 a) cy 106 26) :: (adC q0 a 107, zc (adC q0 a) cy 107 27) :: (adC q0 a 108, zc (adC q0 a) cy 108 28) :: (adC q0 a 109, zc (adC q0 a) cy 109 29) :: (adC q0 a 110, zc (adC q0 a) cy 110 30) :: (adC q0 a 111, zc (adC q0 a) cy 111 31) :: (adC q0 a 112, zc (adC q0 a) cy 112 32) :: (adC q0 a 113, zc (adC q0 a) cy 113 33) :: (adC q0 a 114, zc (adC q0 a) cy 114 34) :: (adC q0 a 115, zc (adC q0 a) cy 115 35) :: (adC q0 a 116, zc (adC q0 a) cy 116 36) :: (adC q0 a 117, zc (adC q0 a) cy 117 37) :: (adC q0 a 118, zc (adC q0 a) cy 118 38) :: (adC q0 a 119, zc (adC q0 a) cy 119 9) :: (adC q0 a 120, zc (adC q0 a) cy 120 9) :: (adC q0 a 121, zc (adC q0 a) cy 121 9) :: (adC q0 a 122, zc (adC q0 a) cy 122 9) :: (adC q0 a 123, zc (adC q0 a) cy 123 5) :: (adC q0 a 124, zc (adC q0 a) cy 124 7) :: (adC q0 a 125, zc (adC q0 a) cy 125 24) :: (adC q0 a 126, zc (adC q0 a) cy 126 25) :: (adC q0 a 127, zc (adC q0 a) cy 127 26) :: (adC q0 a 128, zc (adC q0 a) cy 128 27) :: (adC q0 a 129, zc (adC q0 a) cy 129 28) :: (adC q0 a 130, zc (adC q0 a) cy 130 29) :: (adC q0 a 131, zc (adC q0 a) cy 131 30) :: (adC q0 a 132, zc (adC q0 a) cy 132 31) :: (adC q0 a 133, zc (adC q0 a) cy 133 32) :: (adC q0 a 134, zc (adC q0 a) cy 134 33) :: (adC q0 a 135, zc (adC q0 a) cy 135 34) :: (adC q0 a 136, zc (adC q0 a) cy 136 35) :: (adC q0 a 137, zc (adC q0 a) cy 137 36) :: (adC q0 a 138, zc (adC q0 a) cy 138 37) :: (adC q0 a 139, zc (adC q0 a) cy 139 38) :: (adC q0 a 140, zc (adC q0 a) cy 140 9) :: (adC q0 a 141, zc (adC q0 a) cy 141 9) :: (adC q0 a 142, zc (adC q0 a) cy 142 9) :: (adC q0 a 143, zc (adC q0 a) cy 143 9) :: (adC q0 a 144, zc (adC q0 a) cy 144 41) :: (adC q0 a 145, zc (adC q0 a) cy 145 0) :: (adC q0 a 146, zc (adC q0 a) cy 146 42) :: (adC q0 a 147, zc (adC q0 a) cy 147 43) :: (adC q0 a 148, zc (adC q0 a) cy 148 44) :: (adC q0 a 149, zc (adC q0 a) cy 149 1) :: (adC q0 a 150, zc (adC q0 a) cy 150 45) :: (adC q0 a 151, zc (adC q0 a) cy 151 8) :: (adC q0 a 152, zc (adC q0 a) cy 152 9) :: (adC q0 a 153, zc (adC q0 a) cy 153 46) :: (adC q0 a 154, zc (adC q0 a) cy 154 47) :: (adC q0 a 155, zc (adC q0 a) cy 155 4) :: (adC q0 a 156, zc (adC q0 a) cy 156 48) :: (adC q0 a 157, zc (adC q0 a) cy 157 49) :: (adC q0 a 158, zc (adC q0 a) cy 158 10) :: (adC q0 a 159, zc (adC q0 a) cy 159 50) :: (adC q0 a 160, zc (adC q0 a) cy 160 51) :: ([] : va_W) = _
  rw [zC_0, zC_1, zC_2, zC_3, zC_4, zC_5, zC_6, zC_7, zC_8, zC_9, zC_10, zC_11, zC_12, zC_13, zC_14, zC_15, zC_16, zC_17, zC_18, zC_19, zC_20, zC_21, zC_22, zC_23, zC_24, zC_25, zC_26, zC_27, zC_28, zC_29, zC_30, zC_31, zC_32, zC_33, zC_34, zC_35, zC_36, zC_37, zC_38, zC_39, zC_40, zC_41, zC_42, zC_43, zC_44, zC_45, zC_46, zC_47, zC_48, zC_49, zC_50, zC_51, zC_52, zC_53, zC_54, zC_55, zC_56, zC_57, zC_58, zC_59, zC_60, zC_61, zC_62, zC_63, zC_64, zC_65, zC_66, zC_67, zC_68, zC_69, zC_70, zC_71, zC_72, zC_73, zC_74, zC_75, zC_76, zC_77, zC_78, zC_79, zC_80, zC_81, zC_82, zC_83, zC_84, zC_85, zC_86, zC_87, zC_88, zC_89, zC_90, zC_91, zC_92, zC_93, zC_94, zC_95, zC_96, zC_97, zC_98, zC_99, zC_100, zC_101, zC_102, zC_103, zC_104, zC_105, zC_106, zC_107, zC_108, zC_109, zC_110, zC_111, zC_112, zC_113, zC_114, zC_115, zC_116, zC_117, zC_118, zC_119, zC_120, zC_121, zC_122, zC_123, zC_124, zC_125, zC_126, zC_127, zC_128, zC_129, zC_130, zC_131, zC_132, zC_133, zC_134, zC_135, zC_136, zC_137, zC_138, zC_139, zC_140, zC_141, zC_142, zC_143, zC_144, zC_145, zC_146, zC_147, zC_148, zC_149, zC_150, zC_151, zC_152, zC_153, zC_154, zC_155, zC_156, zC_157, zC_158, zC_159, zC_160]
  try rfl
def adM (q0 : Nat) (a : Nat → Nat) (q : Nat) : Nat := (q0 :: (a 0) :: (a 1) :: (a 2) :: (a 3) :: (a 4) :: (a 5) :: (a 6) :: (a 7) :: (a 8) :: (a 9) :: (a 10) :: (a 11) :: (a 12) :: (a 13) :: (a 14) :: (a 15) :: (a 16) :: (a 17) :: (a 18) :: (a 19) :: (a 20) :: (a 21) :: ([] : List Nat)).getD q 0
set_option maxRecDepth 20000 in
theorem zM_0 {q0 : Nat} {a : Nat → Nat} {cy : Nat → ClassId} : zc (adM q0 a) cy 0 12 = .inr (12, (.ref (a 0) :: .int 0 :: .int 0 :: .ref (a 1) :: .ref (a 2) :: .ref (a 3) :: .ref (a 4) :: .int 0 :: .int 0 :: .int 0 :: .int 0 :: .ref (a 5) :: .ref (a 6) :: .ref (a 7) :: .int 0 :: .int 0 :: .int 0 :: .int 0 :: .int 0 :: .int 0 :: .int 0 :: .ref (a 8) :: .int 0 :: .ref (a 9) :: .int 0 :: .ref (a 10) :: .ref (a 11) :: .int 1 :: .ref (a 12) :: .ref (a 13) :: .int 0 :: .int 0 :: .ref (a 14) :: .ref (a 15) :: .ref (a 16) :: .ref (a 17) :: .ref (a 18) :: .int 0 :: .ref (a 19) :: .long 0 :: .ref (a 20) :: .ref (a 21) :: ([] : List Value))) := rfl
set_option maxRecDepth 20000 in
theorem zM_1 {q0 : Nat} {a : Nat → Nat} {cy : Nat → ClassId} : zc (adM q0 a) cy 1 60 = .inl (cy 3, 400, .inl (fun _ => 0)) := rfl
set_option maxRecDepth 20000 in
theorem zM_2 {q0 : Nat} {a : Nat → Nat} {cy : Nat → ClassId} : zc (adM q0 a) cy 2 61 = .inl (cy 0, 2400, .inl (fun _ => 0)) := rfl
set_option maxRecDepth 20000 in
theorem zM_3 {q0 : Nat} {a : Nat → Nat} {cy : Nat → ClassId} : zc (adM q0 a) cy 3 62 = .inl (cy 0, 7, .inl (fun _ => 0)) := rfl
set_option maxRecDepth 20000 in
theorem zM_4 {q0 : Nat} {a : Nat → Nat} {cy : Nat → ClassId} : zc (adM q0 a) cy 4 63 = .inl (cy 0, 216, .inl (fun _ => 0)) := rfl
set_option maxRecDepth 20000 in
theorem zM_5 {q0 : Nat} {a : Nat → Nat} {cy : Nat → ClassId} : zc (adM q0 a) cy 5 64 = .inl (cy 0, 6, .inl (fun _ => 0)) := rfl
set_option maxRecDepth 20000 in
theorem zM_6 {q0 : Nat} {a : Nat → Nat} {cy : Nat → ClassId} : zc (adM q0 a) cy 6 65 = .inl (cy 0, 120, .inl (fun _ => 0)) := rfl
set_option maxRecDepth 20000 in
theorem zM_7 {q0 : Nat} {a : Nat → Nat} {cy : Nat → ClassId} : zc (adM q0 a) cy 7 66 = .inl (cy 0, 16, .inl (fun _ => 0)) := rfl
set_option maxRecDepth 20000 in
theorem zM_8 {q0 : Nat} {a : Nat → Nat} {cy : Nat → ClassId} : zc (adM q0 a) cy 8 67 = .inl (cy 0, 12, .inl (fun _ => 0)) := rfl
set_option maxRecDepth 20000 in
theorem zM_9 {q0 : Nat} {a : Nat → Nat} {cy : Nat → ClassId} : zc (adM q0 a) cy 9 68 = .inl (cy 0, 400, .inl (fun _ => 0)) := rfl
set_option maxRecDepth 20000 in
theorem zM_10 {q0 : Nat} {a : Nat → Nat} {cy : Nat → ClassId} : zc (adM q0 a) cy 10 69 = .inl (cy 1, 64, .inr (.inl (fun _ => 0))) := rfl
set_option maxRecDepth 20000 in
theorem zM_11 {q0 : Nat} {a : Nat → Nat} {cy : Nat → ClassId} : zc (adM q0 a) cy 11 70 = .inl (cy 1, 10, .inr (.inl (fun _ => 0))) := rfl
set_option maxRecDepth 20000 in
theorem zM_12 {q0 : Nat} {a : Nat → Nat} {cy : Nat → ClassId} : zc (adM q0 a) cy 12 71 = .inl (cy 0, 296, .inl (fun _ => 0)) := rfl
set_option maxRecDepth 20000 in
theorem zM_13 {q0 : Nat} {a : Nat → Nat} {cy : Nat → ClassId} : zc (adM q0 a) cy 13 72 = .inl (cy 0, 12, .inl (fun _ => 0)) := rfl
set_option maxRecDepth 20000 in
theorem zM_14 {q0 : Nat} {a : Nat → Nat} {cy : Nat → ClassId} : zc (adM q0 a) cy 14 73 = .inl (cy 0, 10, .inl (fun _ => 0)) := rfl
set_option maxRecDepth 20000 in
theorem zM_15 {q0 : Nat} {a : Nat → Nat} {cy : Nat → ClassId} : zc (adM q0 a) cy 15 74 = .inl (cy 0, 296, .inl (fun _ => 0)) := rfl
set_option maxRecDepth 20000 in
theorem zM_16 {q0 : Nat} {a : Nat → Nat} {cy : Nat → ClassId} : zc (adM q0 a) cy 16 75 = .inl (cy 0, 301, .inl (fun _ => 0)) := rfl
set_option maxRecDepth 20000 in
theorem zM_17 {q0 : Nat} {a : Nat → Nat} {cy : Nat → ClassId} : zc (adM q0 a) cy 17 76 = .inl (cy 0, 2600, .inl (fun _ => 0)) := rfl
set_option maxRecDepth 20000 in
theorem zM_18 {q0 : Nat} {a : Nat → Nat} {cy : Nat → ClassId} : zc (adM q0 a) cy 18 77 = .inl (cy 0, 10, .inl (fun _ => 0)) := rfl
set_option maxRecDepth 20000 in
theorem zM_19 {q0 : Nat} {a : Nat → Nat} {cy : Nat → ClassId} : zc (adM q0 a) cy 19 78 = .inl (cy 2, 10, .inl (fun _ => 0)) := rfl
set_option maxRecDepth 20000 in
theorem zM_20 {q0 : Nat} {a : Nat → Nat} {cy : Nat → ClassId} : zc (adM q0 a) cy 20 79 = .inl (cy 2, 64, .inl (fun _ => 0)) := rfl
set_option maxRecDepth 20000 in
theorem zM_21 {q0 : Nat} {a : Nat → Nat} {cy : Nat → ClassId} : zc (adM q0 a) cy 21 80 = .inl (cy 0, 1184, .inl (fun _ => 0)) := rfl
set_option maxRecDepth 20000 in
theorem zM_22 {q0 : Nat} {a : Nat → Nat} {cy : Nat → ClassId} : zc (adM q0 a) cy 22 81 = .inl (cy 2, 4, .inl (fun _ => 0)) := rfl
set_option maxRecDepth 20000 in
theorem zM_all {q0 : Nat} {a : Nat → Nat} {cy : Nat → ClassId} : zW ksM (adM q0 a) cy = [(q0, .inr (12, (.ref (a 0) :: .int 0 :: .int 0 :: .ref (a 1) :: .ref (a 2) :: .ref (a 3) :: .ref (a 4) :: .int 0 :: .int 0 :: .int 0 :: .int 0 :: .ref (a 5) :: .ref (a 6) :: .ref (a 7) :: .int 0 :: .int 0 :: .int 0 :: .int 0 :: .int 0 :: .int 0 :: .int 0 :: .ref (a 8) :: .int 0 :: .ref (a 9) :: .int 0 :: .ref (a 10) :: .ref (a 11) :: .int 1 :: .ref (a 12) :: .ref (a 13) :: .int 0 :: .int 0 :: .ref (a 14) :: .ref (a 15) :: .ref (a 16) :: .ref (a 17) :: .ref (a 18) :: .int 0 :: .ref (a 19) :: .long 0 :: .ref (a 20) :: .ref (a 21) :: ([] : List Value)))), ((a 0), .inl (cy 3, 400, .inl (fun _ => 0))), ((a 1), .inl (cy 0, 2400, .inl (fun _ => 0))), ((a 2), .inl (cy 0, 7, .inl (fun _ => 0))), ((a 3), .inl (cy 0, 216, .inl (fun _ => 0))), ((a 4), .inl (cy 0, 6, .inl (fun _ => 0))), ((a 5), .inl (cy 0, 120, .inl (fun _ => 0))), ((a 6), .inl (cy 0, 16, .inl (fun _ => 0))), ((a 7), .inl (cy 0, 12, .inl (fun _ => 0))), ((a 8), .inl (cy 0, 400, .inl (fun _ => 0))), ((a 9), .inl (cy 1, 64, .inr (.inl (fun _ => 0)))), ((a 10), .inl (cy 1, 10, .inr (.inl (fun _ => 0)))), ((a 11), .inl (cy 0, 296, .inl (fun _ => 0))), ((a 12), .inl (cy 0, 12, .inl (fun _ => 0))), ((a 13), .inl (cy 0, 10, .inl (fun _ => 0))), ((a 14), .inl (cy 0, 296, .inl (fun _ => 0))), ((a 15), .inl (cy 0, 301, .inl (fun _ => 0))), ((a 16), .inl (cy 0, 2600, .inl (fun _ => 0))), ((a 17), .inl (cy 0, 10, .inl (fun _ => 0))), ((a 18), .inl (cy 2, 10, .inl (fun _ => 0))), ((a 19), .inl (cy 2, 64, .inl (fun _ => 0))), ((a 20), .inl (cy 0, 1184, .inl (fun _ => 0))), ((a 21), .inl (cy 2, 4, .inl (fun _ => 0)))] := by
  show (adM q0 a 0, zc (adM q0 a) cy 0 12) :: (adM q0 a 1, zc (adM q0 a) cy 1 60) :: (adM q0 a 2, zc (adM q0 a) cy 2 61) :: (adM q0 a 3, zc (adM q0 a) cy 3 62) :: (adM q0 a 4, zc (adM q0 a) cy 4 63) :: (adM q0 a 5, zc (adM q0 a) cy 5 64) :: (adM q0 a 6, zc (adM q0 a) cy 6 65) :: (adM q0 a 7, zc (adM q0 a) cy 7 66) :: (adM q0 a 8, zc (adM q0 a) cy 8 67) :: (adM q0 a 9, zc (adM q0 a) cy 9 68) :: (adM q0 a 10, zc (adM q0 a) cy 10 69) :: (adM q0 a 11, zc (adM q0 a) cy 11 70) :: (adM q0 a 12, zc (adM q0 a) cy 12 71) :: (adM q0 a 13, zc (adM q0 a) cy 13 72) :: (adM q0 a 14, zc (adM q0 a) cy 14 73) :: (adM q0 a 15, zc (adM q0 a) cy 15 74) :: (adM q0 a 16, zc (adM q0 a) cy 16 75) :: (adM q0 a 17, zc (adM q0 a) cy 17 76) :: (adM q0 a 18, zc (adM q0 a) cy 18 77) :: (adM q0 a 19, zc (adM q0 a) cy 19 78) :: (adM q0 a 20, zc (adM q0 a) cy 20 79) :: (adM q0 a 21, zc (adM q0 a) cy 21 80) :: (adM q0 a 22, zc (adM q0 a) cy 22 81) :: ([] : va_W) = _
  rw [zM_0, zM_1, zM_2, zM_3, zM_4, zM_5, zM_6, zM_7, zM_8, zM_9, zM_10, zM_11, zM_12, zM_13, zM_14, zM_15, zM_16, zM_17, zM_18, zM_19, zM_20, zM_21, zM_22]
  try rfl
theorem ks_okC (q κ : Nat) (h : ksC[q]? = some κ) : κ < 82 := ks_ok (by decide) h
theorem ks_okM (q κ : Nat) (h : ksM[q]? = some κ) : κ < 82 := ks_ok (by decide) h
