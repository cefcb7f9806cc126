set_option maxHeartbeats 8000000 in
set_option maxRecDepth 100000 in
theorem law_loop {p : Program} {e : Env} {s : State} {m : MethodId} {below : List Frame} {meth : Method} {c : Code} {l : Launch} {b L : Nat} {xs : Nat → Int32} {adK adV : Nat → Nat} {dC : Nat → ClassId} {dI : Nat → Nat → Nat} {cy : Nat → ClassId} {A : Nat → Prop} (hC : CallFix p m c code 4 s #[Value.ref b] wsR RL) (hK : KK dC dI cy s) (hE : SE adK adV A s s.heap) (hSR : SR adK s) (hA : ∀ q : Nat, s.heap.size ≤ q → A q) (hbA : ¬ A b) (hX : va_X b L xs s s.heap) (hbl : b < s.heap.size) (hL : L ≤ 3072) (hr : meth.sig.returnType = ret) (hlocks : meth.locks = false) (hAe : A = fun q : Nat => s.heap.size ≤ q) {adC adM : Nat → Nat} : ∀ (n : Nat) (i : Int32) (H : Heap) (locs : List Loc) (ls : Array Slot) (wc wr : va_W), 0 ≤ i.toInt → i.toInt ≤ 3078 → (3084 - i.toInt).toNat < n → LI adC adM cy i.toInt wc wr → Wd dC dI A s.heap H locs (wc ++ wr) → lv_has ls 4 [(3, .int i), (2, .ref (adM 0)), (1, .ref (adC 0)), (0, .ref b)] → W p l e room_1 s m #[Value.ref b] below meth c H locs 184 18569 (lw_Z below #[Value.ref b] s) (F0 m 18 ls []) := by
  have hx := hC.1
  have hb := hC.2.1
  intro n
  induction n with
  | zero => intro i H locs ls wc wr _ _ h; exact absurd h (Nat.not_lt_zero _)
  | succ n ih =>
    intro i H locs ls wc wr hi0 hi2 hn hI hw hl
    have eL : (Int32.ofNat L).toInt = (L : Int) := lx_len hL
    have e6 : (6 : Int32).toInt = 6 := by decide
    refine lv_iload_n hx hb dL_law_18 rfl (lv_at hl 0 rfl) ?_
    refine lv_aload_n hx hb dL_law_19 rfl (lv_at hl 3 rfl) ?_
    refine va_slen hx hb hX hbl hbA hw.2.2 dL_law_20 ?_
    refine lv_bipush (v := 6) hx hb dL_law_21 (by decide) ?_
    refine lv_isub hx hb dL_law_23 ?_
    have eS : (Int32.ofNat L - 6).toInt = (L : Int) - 6 := (wk_sub (by omega) (by omega)).trans (by omega)
    refine lv_icmp_gt (tgt := 1258) hx hb dL_law_24 (by decide) (fun _ => law_fin hx hb hr hlocks hAe hw (Nat.le_of_ble_eq_true rfl) (Nat.le_of_ble_eq_true rfl)) (fun hgt => ?_)
    have hi1 : i.toInt + 6 ≤ L := by
      have h3 := wk_ltF hgt
      rw [eS] at h3
      omega
    have kk : ∀ (H : Heap) (locs : List Loc) (wc wr : va_W), LI adC adM cy (i.toInt + 6) wc wr → Wd dC dI A s.heap H locs (wc ++ wr) → W p l e room_1 s m #[Value.ref b] below meth c H locs 184 18569 (lw_Z below #[Value.ref b] s) (F0 m 1252 ls []) := by
      intro H locs wc wr hI hw
      obtain ⟨i2, ei2⟩ : ∃ y : Int32, y = i + Int32.ofInt 6 := ⟨_, rfl⟩
      have ei : i2.toInt = i.toInt + 6 := by rw [ei2]; exact wk_add (y := 6) (show -2147483648 ≤ i.toInt + 6 by omega) (show i.toInt + 6 ≤ 2147483647 by omega)
      refine lv_iinc (v := i2) (lv' := [(3, .int i2), (2, .ref (adM 0)), (1, .ref (adC 0)), (0, .ref b)]) hx hb dL_law_1252 hl (k := 0) rfl ei2.symm (by decide) rfl (fun ls hl => ?_)
      refine lv_goto (tgt := 18) hx hb dL_law_1255 (by decide) ?_
      exact ih i2 H locs ls wc wr (by omega) (by omega) (by omega) (by rw [ei]; exact hI) hw hl
    refine lv_aload_n hx hb dL_law_27 rfl (lv_at hl 3 rfl) ?_
    refine lv_iload_n hx hb dL_law_28 rfl (lv_at hl 0 rfl) ?_
    refine va_sld hx hb hX hbl hbA hw.2.2 (lx_ok0 hi0 hi1 hL) dL_law_29 ?_
    obtain ⟨s0, hs0⟩ : ∃ y : Int32, xs i.toNatClampNeg = y := ⟨_, rfl⟩
    refine wk_top s0 hs0 ?_
    refine lv_bipush (v := 31) hx hb dL_law_30 (by decide) ?_
    refine lv_iand hx hb dL_law_32 ?_
    obtain ⟨j, hj, ej⟩ := pk_andE s0 (m := 31) 5 (by decide)
    refine wk_top (nI j) ej ?_
    rcases (show j = 0 ∨ j = 1 ∨ j = 2 ∨ j = 3 ∨ j = 4 ∨ j = 5 ∨ j = 6 ∨ j = 7 ∨ j = 8 ∨ j = 9 ∨ j = 10 ∨ j = 11 ∨ j = 12 ∨ j = 13 ∨ j = 14 ∨ j = 15 ∨ j = 16 ∨ j = 17 ∨ j = 18 ∨ j = 19 ∨ j = 20 ∨ j = 21 ∨ j = 22 ∨ j = 23 ∨ j = 24 ∨ j = 25 ∨ j = 26 ∨ j = 27 ∨ j = 28 ∨ j = 29 ∨ j = 30 ∨ j = 31 by omega) with rfl | rfl | rfl | rfl | rfl | rfl | rfl | rfl | rfl | rfl | rfl | rfl | rfl | rfl | rfl | rfl | rfl | rfl | rfl | rfl | rfl | rfl | rfl | rfl | rfl | rfl | rfl | rfl | rfl | rfl | rfl | rfl
    · refine wk_top 0 (by decide) ?_
      refine lv_tableIn (off := 143) (tgt := 176) hx hb dL_law_33 (by decide) (by decide) rfl (by decide) ?_
      exact lc_feed hC hK hE hSR hA hbA hX hbl hL hi0 hi1 hI hw hl kk
    · refine wk_top 1 (by decide) ?_
      refine lv_tableIn (off := 206) (tgt := 239) hx hb dL_law_33 (by decide) (by decide) rfl (by decide) ?_
      exact lc_end hC hK hE hSR hA hbA hX hbl hL hi0 hi1 hI hw hl kk
    · refine wk_top 2 (by decide) ?_
      refine lv_tableIn (off := 229) (tgt := 262) hx hb dL_law_33 (by decide) (by decide) rfl (by decide) ?_
      exact lc_town hC hK hE hSR hA hbA hX hbl hL hi0 hi1 hI hw hl kk
    · refine wk_top 3 (by decide) ?_
      refine lv_tableIn (off := 242) (tgt := 275) hx hb dL_law_33 (by decide) (by decide) rfl (by decide) ?_
      exact lc_rule hC hK hE hSR hA hbA hX hbl hL hi0 hi1 hI hw hl kk
    · refine wk_top 4 (by decide) ?_
      refine lv_tableIn (off := 255) (tgt := 288) hx hb dL_law_33 (by decide) (by decide) rfl (by decide) ?_
      exact lc_street hC hK hE hSR hA hbA hX hbl hL hi0 hi1 hI hw hl kk
    · refine wk_top 5 (by decide) ?_
      refine lv_tableIn (off := 288) (tgt := 321) hx hb dL_law_33 (by decide) (by decide) rfl (by decide) ?_
      exact lc_open hC hK hE hSR hA hbA hX hbl hL hi0 hi1 hI hw hl kk
    · refine wk_top 6 (by decide) ?_
      refine lv_tableIn (off := 331) (tgt := 364) hx hb dL_law_33 (by decide) (by decide) rfl (by decide) ?_
      exact lc_print hC hK hE hSR hA hbA hX hbl hL hi0 hi1 hI hw hl kk
    · refine wk_top 7 (by decide) ?_
      refine lv_tableIn (off := 354) (tgt := 387) hx hb dL_law_33 (by decide) (by decide) rfl (by decide) ?_
      exact lc_misprint hC hK hE hSR hA hbA hX hbl hL hi0 hi1 hI hw hl kk
    · refine wk_top 8 (by decide) ?_
      refine lv_tableIn (off := 397) (tgt := 430) hx hb dL_law_33 (by decide) (by decide) rfl (by decide) ?_
      exact lc_shown hC hK hE hSR hA hbA hX hbl hL hi0 hi1 hI hw hl kk
    · refine wk_top 9 (by decide) ?_
      refine lv_tableIn (off := 430) (tgt := 463) hx hb dL_law_33 (by decide) (by decide) rfl (by decide) ?_
      exact lc_by hC hK hE hSR hA hbA hX hbl hL hi0 hi1 hI hw hl kk
    · refine wk_top 10 (by decide) ?_
      refine lv_tableIn (off := 483) (tgt := 516) hx hb dL_law_33 (by decide) (by decide) rfl (by decide) ?_
      exact lc_walker hC hK hE hSR hA hbA hX hbl hL hi0 hi1 hI hw hl kk
    · refine wk_top 11 (by decide) ?_
      refine lv_tableIn (off := 546) (tgt := 579) hx hb dL_law_33 (by decide) (by decide) rfl (by decide) ?_
      exact lc_about hC hK hE hSR hA hbA hX hbl hL hi0 hi1 hI hw hl kk
    · refine wk_top 12 (by decide) ?_
      refine lv_tableIn (off := 579) (tgt := 612) hx hb dL_law_33 (by decide) (by decide) rfl (by decide) ?_
      exact lc_step hC hK hE hSR hA hbA hX hbl hL hi0 hi1 hI hw hl kk
    · refine wk_top 13 (by decide) ?_
      refine lv_tableIn (off := 612) (tgt := 645) hx hb dL_law_33 (by decide) (by decide) rfl (by decide) ?_
      exact lc_soonest hC hK hE hSR hA hbA hX hbl hL hi0 hi1 hI hw hl kk
    · refine wk_top 14 (by decide) ?_
      refine lv_tableIn (off := 655) (tgt := 688) hx hb dL_law_33 (by decide) (by decide) rfl (by decide) ?_
      exact lc_way hC hK hE hSR hA hbA hX hbl hL hi0 hi1 hI hw hl kk
    · refine wk_top 15 (by decide) ?_
      refine lv_tableIn (off := 708) (tgt := 741) hx hb dL_law_33 (by decide) (by decide) rfl (by decide) ?_
      exact lc_comes hC hK hE hSR hA hbA hX hbl hL hi0 hi1 hI hw hl kk
    · refine wk_top 16 (by decide) ?_
      refine lv_tableIn (off := 751) (tgt := 784) hx hb dL_law_33 (by decide) (by decide) rfl (by decide) ?_
      exact lc_round hC hK hE hSR hA hbA hX hbl hL hi0 hi1 hI hw hl kk
    · refine wk_top 17 (by decide) ?_
      refine lv_tableIn (off := 784) (tgt := 817) hx hb dL_law_33 (by decide) (by decide) rfl (by decide) ?_
      exact lc_questions hC hK hE hSR hA hbA hX hbl hL hi0 hi1 hI hw hl kk
    · refine wk_top 18 (by decide) ?_
      refine lv_tableIn (off := 817) (tgt := 850) hx hb dL_law_33 (by decide) (by decide) rfl (by decide) ?_
      exact lc_cheap hC hK hE hSR hA hbA hX hbl hL hi0 hi1 hI hw hl kk
    · refine wk_top 19 (by decide) ?_
      refine lv_tableIn (off := 840) (tgt := 873) hx hb dL_law_33 (by decide) (by decide) rfl (by decide) ?_
      exact lc_wrong hC hK hE hSR hA hbA hX hbl hL hi0 hi1 hI hw hl kk
    · refine wk_top 20 (by decide) ?_
      refine lv_tableIn (off := 863) (tgt := 896) hx hb dL_law_33 (by decide) (by decide) rfl (by decide) ?_
      exact lc_errand hC hK hE hSR hA hbA hX hbl hL hi0 hi1 hI hw hl kk
    · refine wk_top 21 (by decide) ?_
      refine lv_tableIn (off := 896) (tgt := 929) hx hb dL_law_33 (by decide) (by decide) rfl (by decide) ?_
      exact lc_ways hC hK hE hSR hA hbA hX hbl hL hi0 hi1 hI hw hl kk
    · refine wk_top 22 (by decide) ?_
      refine lv_tableIn (off := 929) (tgt := 962) hx hb dL_law_33 (by decide) (by decide) rfl (by decide) ?_
      exact lc_sight hC hK hE hSR hA hbA hX hbl hL hi0 hi1 hI hw hl kk
    · refine wk_top 23 (by decide) ?_
      refine lv_tableIn (off := 962) (tgt := 995) hx hb dL_law_33 (by decide) (by decide) rfl (by decide) ?_
      exact lc_weekdays hC hK hE hSR hA hbA hX hbl hL hi0 hi1 hI hw hl kk
    · refine wk_top 24 (by decide) ?_
      refine lv_tableIn (off := 985) (tgt := 1018) hx hb dL_law_33 (by decide) (by decide) rfl (by decide) ?_
      exact lc_came hC hK hE hSR hA hbA hX hbl hL hi0 hi1 hI hw hl kk
    · refine wk_top 25 (by decide) ?_
      refine lv_tableIn (off := 1008) (tgt := 1041) hx hb dL_law_33 (by decide) (by decide) rfl (by decide) ?_
      exact lc_had hC hK hE hSR hA hbA hX hbl hL hi0 hi1 hI hw hl kk
    · refine wk_top 26 (by decide) ?_
      refine lv_tableIn (off := 1031) (tgt := 1064) hx hb dL_law_33 (by decide) (by decide) rfl (by decide) ?_
      exact lc_built hC hK hE hSR hA hbA hX hbl hL hi0 hi1 hI hw hl kk
    · refine wk_top 27 (by decide) ?_
      refine lv_tableIn (off := 1074) (tgt := 1107) hx hb dL_law_33 (by decide) (by decide) rfl (by decide) ?_
      exact lc_seed hC hK hE hSR hA hbA hX hbl hL hi0 hi1 hI hw hl kk
    · refine wk_top 28 (by decide) ?_
      refine lv_tableIn (off := 1097) (tgt := 1130) hx hb dL_law_33 (by decide) (by decide) rfl (by decide) ?_
      exact lc_strangers hC hK hE hSR hA hbA hX hbl hL hi0 hi1 hI hw hl kk
    · refine wk_top 29 (by decide) ?_
      refine lv_tableIn (off := 1150) (tgt := 1183) hx hb dL_law_33 (by decide) (by decide) rfl (by decide) ?_
      exact lc_count hC hK hE hSR hA hbA hX hbl hL hi0 hi1 hI hw hl kk
    · refine wk_top 30 (by decide) ?_
      refine lv_tableIn (off := 1173) (tgt := 1206) hx hb dL_law_33 (by decide) (by decide) rfl (by decide) ?_
      exact lc_image hC hK hE hSR hA hbA hX hbl hL hi0 hi1 hI hw hl kk
    · refine wk_top 31 (by decide) ?_
      refine lv_tableIn (off := 1196) (tgt := 1229) hx hb dL_law_33 (by decide) (by decide) rfl (by decide) ?_
      exact lc_back hC hK hE hSR hA hbA hX hbl hL hi0 hi1 hI hw hl kk
