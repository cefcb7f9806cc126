abbrev P_X8_note_2 (ad : Nat → Nat) (cy : Nat → ClassId) (B : Int) (qr : Nat) (s1 : Int) (a1 : Int64) (a2 : Int32) (a3 : Int32) (a4 : Int32) (a5 : Int32) (w0 : va_W) : va_W → Prop := fun u => TW ksC ad cy B qr s1 u ∧ FE ksC [(47, 0, 2420)] w0 u ∧ ((True))
set_option maxHeartbeats 4000000 in
set_option maxRecDepth 100000 in
theorem k_X8_note_2 (l : Launch) (adK adV : Nat → Nat) (dC : Nat → ClassId) (dI : Nat → Nat → Nat) (cy : Nat → ClassId) (ad : Nat → Nat) (B : Int) (hB0 : 2147483648 ≤ B) (hB1 : B ≤ 1152921504606846976) (qr : Nat) (s1 : Int)  (a1 : Int64) (ra1 : 0 ≤ a1.toInt) (ta1 : a1.toInt ≤ 2305843009213693952) (a2 : Int32) (ra2 : 0 ≤ a2.toInt) (ta2 : a2.toInt ≤ 120) (a3 : Int32) (ra3 : 0 ≤ a3.toInt) (ta3 : a3.toInt ≤ 9) (a4 : Int32) (ra4 : 1 ≤ a4.toInt) (ta4 : a4.toInt ≤ 19) (a5 : Int32) (ra5 : 0 ≤ a5.toInt) (ta5 : a5.toInt ≤ 999999) (w0 : va_W) (sz : Nat) (hT : TW ksC ad cy B qr s1 w0)  : Met l yX8_note (wu yX8_note cX8_note 9 none) ({ frames := 1, cells := 0, slots := 0, locals := 21 }) (va_Pc [.ref (ad 151), .long a1, .int a2, .int a3, .int a4, .int a5] (wpreS adK adV dC dI cy sz w0)) (va_Qv (P_X8_note_2 ad cy B qr s1 a1 a2 a3 a4 a5 w0) (fun u : va_W => wpost dC dI cy (va_A w0 sz) u) (va_A w0 sz)) 0 0 (va_A w0 sz) := by
  refine Met.ofW (cc := cX8_note) (maxL := 9) (ret := none) (by decide) rfl ?_
  intro p e s m args below meth c s₁ Bk hml hv
  obtain ⟨rfl, ⟨hsz, hP, hK, hD0⟩, hE, hSR⟩ := hv
  have hx := Bk.exec
  have hb := Bk.bytes
  have hr := Bk.returns
  have hlocks := Bk.notSynchronized
  have hC : CallFix p m c cX8_note 9 s _ (wu yX8_note cX8_note 9 none) RX8 := ⟨hx, hb, hml, findClass_of_methodNamed Bk.named, atoms_spec (ws := (wu yX8_note cX8_note 9 none)) Bk.pre⟩
  subst hsz
  have hD := hD0.self (sz := s.heap.size)
  generalize hAe : va_A w0 s.heap.size = A at hD hE ⊢
  have hA : ∀ q : Nat, s.heap.size ≤ q → A q := fun q h => by rw [← hAe]; exact Or.inr h
  have hw : Wd dC dI A s.heap s.heap [] w0 := ⟨hP, hD, va_S.rf⟩
  have hF : FE ksC [(47, 0, 2420)] w0 w0 := FE.rf
  have hl := lv_entry ([.ref (ad 151), .long a1, .int a2, .int a3, .int a4, .int a5]) (n := 9) (Nat.le_of_ble_eq_true rfl)
  rw [lg_entry_eq]
  generalize (lg_sl ([.ref (ad 151), .long a1, .int a2, .int a3, .int a4, .int a5]) ++ List.replicate (9 - (lg_sl ([.ref (ad 151), .long a1, .int a2, .int a3, .int a4, .int a5])).length) Slot.unset).toArray = ls at hl ⊢
  have hl : lv_has ls 9 [(0, .ref (ad 151)), (1, .long a1), (3, .int a2), (4, .int a3), (5, .int a4), (6, .int a5)] := hl
  generalize hloc : ([] : List Loc) = locs at hw ⊢
  have hinX8 : ∀ w ∈ u_ws RX8 TX8 8, w ∈ (wu yX8_note cX8_note 9 none) := fun _ h => List.mem_cons_of_mem _ (up_79 h)
  refine lv_iload_n hx hb dX8_note_0 rfl (lv_at hl 2 rfl) ?_
  refine lv_iload hx hb dX8_note_1 (lv_at hl 3 rfl) ?_
  refine lv_iadd hx hb dX8_note_3 ?_
  refine lv_topi (fun x1 ex1 => ?_)
  have ex1 : x1.toInt = a2.toInt + a3.toInt := by rw [ex1]; exact wk_add (show (-2147483648) ≤ a2.toInt + a3.toInt by omega) (show a2.toInt + a3.toInt ≤ 2147483647 by omega)
  refine lv_aload_n hx hb dX8_note_4 rfl (lv_at hl 0 rfl) ?_
  refine tk_geti hC hK hw hT hinX8 kC_at151 (by decide) rfl 6 (by decide) (List.mem_cons_of_mem _ uw_55_22) rfl rfl dX8_note_5 (fun x2 c3 rx2 tx2 => ?_)
  refine lv_icmp_le (tgt := 12) hx hb dX8_note_8 (by decide) (fun c4 => ?_) (fun c4 => ?_)
  · have c4 : x1.toInt ≤ x2.toInt := wk_le.mp c4
    refine lv_lload_n hx hb dX8_note_12 rfl (lv_at hl 1 rfl) ?_
    refine lv_ldc2 (v := 24) hx hb hC.2.2.2.1 (hC.2.2.2.2 _ (List.mem_cons_of_mem _ uw_56_12)) dX8_note_13 ?_
    refine lv_ldiv hx hb dX8_note_16 (by decide) ?_
    refine lv_topl (fun x5 ex5 => ?_)
    have ex5 : x5.toInt = a1.toInt / (24 : Int) := by rw [ex5]; exact wk_divl (show 0 ≤ a1.toInt from ra1) (show 0 < (24 : Int) by decide)
    refine lv_lload_n hx hb dX8_note_17 rfl (lv_at hl 1 rfl) ?_
    refine lv_iload hx hb dX8_note_18 (lv_at hl 3 rfl) ?_
    refine lv_i2l hx hb dX8_note_20 rfl ?_
    refine lv_topl (fun x6 ex6 => ?_)
    have ex6 : x6.toInt = a3.toInt := by rw [ex6]; exact wk_i2l _
    have bx6 := wk_i32 a3
    refine lv_ladd hx hb dX8_note_21 ?_
    refine lv_topl (fun x7 ex7 => ?_)
    have ex7 : x7.toInt = a1.toInt + x6.toInt := by rw [ex7]; exact wk_addl (show (-9223372036854775808) ≤ a1.toInt + x6.toInt by omega) (show a1.toInt + x6.toInt ≤ 9223372036854775807 by omega)
    refine lv_ldc2 (v := 24) hx hb hC.2.2.2.1 (hC.2.2.2.2 _ (List.mem_cons_of_mem _ uw_56_12)) dX8_note_22 ?_
    refine lv_ldiv hx hb dX8_note_25 (by decide) ?_
    refine lv_topl (fun x8 ex8 => ?_)
    have ex8 : x8.toInt = x7.toInt / (24 : Int) := by rw [ex8]; exact wk_divl (show 0 ≤ x7.toInt by first | with_reducible assumption | omega) (show 0 < (24 : Int) by decide)
    refine W.lcmp hx hb dX8_note_26 ?_
    refine lv_if_ne (tgt := 34) hx hb dX8_note_27 (by decide) (fun c9 => ?_) (fun c9 => ?_)
    · have c9 : ¬ x5.toInt = x8.toInt := wk_ceF c9
      refine lv_iconst (v := 0) hx hb dX8_note_34 (by decide) ?_
      refine lv_istore (lv' := [(7, .int 0), (0, .ref (ad 151)), (1, .long a1), (3, .int a2), (4, .int a3), (5, .int a4), (6, .int a5)]) hx hb dX8_note_35 hl (by decide) rfl (fun ls hl => ?_)
      refine lv_iload_n hx hb dX8_note_37 rfl (lv_at hl 3 rfl) ?_
      refine lv_iload hx hb dX8_note_38 (lv_at hl 4 rfl) ?_
      refine lv_iadd hx hb dX8_note_40 ?_
      refine lv_topi (fun x10 ex10 => ?_)
      have ex10 : x10.toInt = a2.toInt + a3.toInt := by rw [ex10]; exact wk_add (show (-2147483648) ≤ a2.toInt + a3.toInt by omega) (show a2.toInt + a3.toInt ≤ 2147483647 by omega)
      refine lv_bipush (v := 20) hx hb dX8_note_41 (by decide) ?_
      refine lv_imul hx hb dX8_note_43 ?_
      refine lv_topi (fun x11 ex11 => ?_)
      have ex11 : x11.toInt = x10.toInt * (20 : Int) := by rw [ex11]; exact wk_mul (show (-2147483648) ≤ x10.toInt * (20 : Int) by omega) (show x10.toInt * (20 : Int) ≤ 2147483647 by omega)
      refine lv_iload hx hb dX8_note_44 (lv_at hl 0 rfl) ?_
      refine lv_if_eq (tgt := 54) hx hb dX8_note_46 (by decide) (fun _ => ?_) (fun c => absurd (by decide) c)
      refine lv_iload hx hb dX8_note_54 (lv_at hl 5 rfl) ?_
      refine lv_iload hx hb dX8_note_56 (lv_at hl 5 rfl) ?_
      refine lv_iconst (v := 2) hx hb dX8_note_58 (by decide) ?_
      refine lv_irem hx hb dX8_note_59 (by decide) ?_
      refine lv_topi (fun x12 ex12 => ?_)
      have ex12 : x12.toInt = a4.toInt % (2 : Int) := by rw [ex12]; exact wk_rem (show 0 ≤ a4.toInt from Int.le_trans (by decide) ra4) (show 0 < (2 : Int) by decide)
      refine lv_isub hx hb dX8_note_60 ?_
      refine lv_topi (fun x13 ex13 => ?_)
      have ex13 : x13.toInt = a4.toInt - x12.toInt := by rw [ex13]; exact wk_sub (show (-2147483648) ≤ a4.toInt - x12.toInt by omega) (show a4.toInt - x12.toInt ≤ 2147483647 by omega)
      refine lv_iadd hx hb dX8_note_61 ?_
      refine lv_topi (fun x14 ex14 => ?_)
      have ex14 : x14.toInt = x11.toInt + x13.toInt := by rw [ex14]; exact wk_add (show (-2147483648) ≤ x11.toInt + x13.toInt by omega) (show x11.toInt + x13.toInt ≤ 2147483647 by omega)
      refine lv_istore (lv' := [(8, .int x14), (7, .int 0), (0, .ref (ad 151)), (1, .long a1), (3, .int a2), (4, .int a3), (5, .int a4), (6, .int a5)]) hx hb dX8_note_62 hl (by decide) rfl (fun ls hl => ?_)
      refine lv_aload_n hx hb dX8_note_64 rfl (lv_at hl 2 rfl) ?_
      refine tk_getA hC hK hw hT hinX8 kC_at151 (by decide) rfl 5 (by decide) (List.mem_cons_of_mem _ uw_5_10) rfl rfl dX8_note_65 ?_
      refine lv_iload hx hb dX8_note_68 (lv_at hl 0 rfl) ?_
      refine lv_aload_n hx hb dX8_note_70 rfl (lv_at hl 2 rfl) ?_
      refine tk_getA hC hK hw hT hinX8 kC_at151 (by decide) rfl 5 (by decide) (List.mem_cons_of_mem _ uw_5_10) rfl rfl dX8_note_71 ?_
      refine lv_iload hx hb dX8_note_74 (lv_at hl 0 rfl) ?_
      refine tk_iald hC hK hw hT kC_at154 rfl rfl (show 0 ≤ x14.toInt by first | with_reducible assumption | omega) (show x14.toInt < 2420 by first | with_reducible assumption | omega) dX8_note_76 (fun x15 c16 rx15 tx15 => ?_)
      refine lv_iload hx hb dX8_note_77 (lv_at hl 7 rfl) ?_
      refine va_mmin hx hb (hC.2.2.1.trans hl.1.symm) hC.2.2.2.1 (hC.2.2.2.2 _ (List.mem_cons_of_mem _ uw_56_19)) (hC.2.2.2.2 _ (List.mem_cons_of_mem _ uw_14_19)) (hC.2.2.2.2 _ (List.mem_cons_of_mem _ uw_14_16)) (hC.2.2.2.2 _ (List.mem_cons_of_mem _ uw_14_20)) (Nat.le_of_ble_eq_true rfl) (Nat.le_of_ble_eq_true rfl) (Nat.zero_le _) (Nat.zero_le _) dX8_note_79 ?_
      refine lv_topi (fun x17 ex17 => ?_)
      have bx17 : (x17.toInt = x15.toInt ∧ x15.toInt ≤ a5.toInt) ∨ (x17.toInt = a5.toInt ∧ a5.toInt < x15.toInt) := by rw [ex17]; exact wk_min
      refine tk_iast hC hK hw hT kC_at154 (by decide) rfl rfl (show 0 ≤ x14.toInt by first | with_reducible assumption | omega) (show x14.toInt < 2420 by first | with_reducible assumption | omega) (show 0 ≤ x17.toInt by first | with_reducible assumption | omega) (show x17.toInt ≤ 1000000 by first | with_reducible assumption | omega) dX8_note_82 (fun H locs w18 hw hT k20 c19 => ?_)
      have hF := hF.put kC_at154 (inE_of (a := 0) (b := 2420) (by decide) (show 0 ≤ x14.toInt.toNat by omega) (show x14.toInt.toNat ≤ 2420 by omega)) k20
      have c21 := k20.gi (Or.inl (tk_ne kC_at151 kC_at154 (by decide))) c3
      exact tk_vret hC hr hlocks hK ⟨hT, hF, trivial⟩ hw dX8_note_83
    · have c9 : x5.toInt = x8.toInt := wk_ceT c9
      refine lv_iconst (v := 1) hx hb dX8_note_30 (by decide) ?_
      refine lv_goto (tgt := 35) hx hb dX8_note_31 (by decide) ?_
      refine lv_istore (lv' := [(7, .int 1), (0, .ref (ad 151)), (1, .long a1), (3, .int a2), (4, .int a3), (5, .int a4), (6, .int a5)]) hx hb dX8_note_35 hl (by decide) rfl (fun ls hl => ?_)
      refine lv_iload_n hx hb dX8_note_37 rfl (lv_at hl 3 rfl) ?_
      refine lv_iload hx hb dX8_note_38 (lv_at hl 4 rfl) ?_
      refine lv_iadd hx hb dX8_note_40 ?_
      refine lv_topi (fun x22 ex22 => ?_)
      have ex22 : x22.toInt = a2.toInt + a3.toInt := by rw [ex22]; exact wk_add (show (-2147483648) ≤ a2.toInt + a3.toInt by omega) (show a2.toInt + a3.toInt ≤ 2147483647 by omega)
      refine lv_bipush (v := 20) hx hb dX8_note_41 (by decide) ?_
      refine lv_imul hx hb dX8_note_43 ?_
      refine lv_topi (fun x23 ex23 => ?_)
      have ex23 : x23.toInt = x22.toInt * (20 : Int) := by rw [ex23]; exact wk_mul (show (-2147483648) ≤ x22.toInt * (20 : Int) by omega) (show x22.toInt * (20 : Int) ≤ 2147483647 by omega)
      refine lv_iload hx hb dX8_note_44 (lv_at hl 0 rfl) ?_
      refine lv_if_eq (tgt := 54) hx hb dX8_note_46 (by decide) (fun c => absurd c (by decide)) (fun _ => ?_)
      refine lv_iload hx hb dX8_note_49 (lv_at hl 5 rfl) ?_
      refine lv_goto (tgt := 61) hx hb dX8_note_51 (by decide) ?_
      refine lv_iadd hx hb dX8_note_61 ?_
      refine lv_topi (fun x24 ex24 => ?_)
      have ex24 : x24.toInt = x23.toInt + a4.toInt := by rw [ex24]; exact wk_add (show (-2147483648) ≤ x23.toInt + a4.toInt by omega) (show x23.toInt + a4.toInt ≤ 2147483647 by omega)
      refine lv_istore (lv' := [(8, .int x24), (7, .int 1), (0, .ref (ad 151)), (1, .long a1), (3, .int a2), (4, .int a3), (5, .int a4), (6, .int a5)]) hx hb dX8_note_62 hl (by decide) rfl (fun ls hl => ?_)
      refine lv_aload_n hx hb dX8_note_64 rfl (lv_at hl 2 rfl) ?_
      refine tk_getA hC hK hw hT hinX8 kC_at151 (by decide) rfl 5 (by decide) (List.mem_cons_of_mem _ uw_5_10) rfl rfl dX8_note_65 ?_
      refine lv_iload hx hb dX8_note_68 (lv_at hl 0 rfl) ?_
      refine lv_aload_n hx hb dX8_note_70 rfl (lv_at hl 2 rfl) ?_
      refine tk_getA hC hK hw hT hinX8 kC_at151 (by decide) rfl 5 (by decide) (List.mem_cons_of_mem _ uw_5_10) rfl rfl dX8_note_71 ?_
      refine lv_iload hx hb dX8_note_74 (lv_at hl 0 rfl) ?_
      refine tk_iald hC hK hw hT kC_at154 rfl rfl (show 0 ≤ x24.toInt by first | with_reducible assumption | omega) (show x24.toInt < 2420 by first | with_reducible assumption | omega) dX8_note_76 (fun x25 c26 rx25 tx25 => ?_)
      refine lv_iload hx hb dX8_note_77 (lv_at hl 7 rfl) ?_
      refine va_mmin hx hb (hC.2.2.1.trans hl.1.symm) hC.2.2.2.1 (hC.2.2.2.2 _ (List.mem_cons_of_mem _ uw_56_19)) (hC.2.2.2.2 _ (List.mem_cons_of_mem _ uw_14_19)) (hC.2.2.2.2 _ (List.mem_cons_of_mem _ uw_14_16)) (hC.2.2.2.2 _ (List.mem_cons_of_mem _ uw_14_20)) (Nat.le_of_ble_eq_true rfl) (Nat.le_of_ble_eq_true rfl) (Nat.zero_le _) (Nat.zero_le _) dX8_note_79 ?_
      refine lv_topi (fun x27 ex27 => ?_)
      have bx27 : (x27.toInt = x25.toInt ∧ x25.toInt ≤ a5.toInt) ∨ (x27.toInt = a5.toInt ∧ a5.toInt < x25.toInt) := by rw [ex27]; exact wk_min
      refine tk_iast hC hK hw hT kC_at154 (by decide) rfl rfl (show 0 ≤ x24.toInt by first | with_reducible assumption | omega) (show x24.toInt < 2420 by first | with_reducible assumption | omega) (show 0 ≤ x27.toInt by first | with_reducible assumption | omega) (show x27.toInt ≤ 1000000 by first | with_reducible assumption | omega) dX8_note_82 (fun H locs w28 hw hT k30 c29 => ?_)
      have hF := hF.put kC_at154 (inE_of (a := 0) (b := 2420) (by decide) (show 0 ≤ x24.toInt.toNat by omega) (show x24.toInt.toNat ≤ 2420 by omega)) k30
      have c31 := k30.gi (Or.inl (tk_ne kC_at151 kC_at154 (by decide))) c3
      exact tk_vret hC hr hlocks hK ⟨hT, hF, trivial⟩ hw dX8_note_83
  · have c4 : x2.toInt < x1.toInt := wk_leF c4
    exact tk_vret hC hr hlocks hK ⟨hT, hF, trivial⟩ hw dX8_note_11
abbrev P_X8_note_3 (ad : Nat → Nat) (cy : Nat → ClassId) (B : Int) (qr : Nat) (s1 : Int) (a1 : Int64) (a2 : Int32) (a4 : Int32) (a5 : Int32) (w0 : va_W) : va_W → Prop := fun u => TW ksC ad cy B qr s1 u ∧ FE ksC [(47, 0, 2420)] w0 u ∧ ((True))
set_option maxHeartbeats 4000000 in
set_option maxRecDepth 100000 in
theorem k_X8_note_3 (l : Launch) (adK adV : Nat → Nat) (dC : Nat → ClassId) (dI : Nat → Nat → Nat) (cy : Nat → ClassId) (ad : Nat → Nat) (B : Int) (hB0 : 2147483648 ≤ B) (hB1 : B ≤ 1152921504606846976) (qr : Nat) (s1 : Int)  (a1 : Int64) (ra1 : 0 ≤ a1.toInt) (ta1 : a1.toInt ≤ 2305843009213694072) (a2 : Int32) (ra2 : 0 ≤ a2.toInt) (ta2 : a2.toInt ≤ 120) (a4 : Int32) (ra4 : 0 ≤ a4.toInt) (ta4 : a4.toInt ≤ 19) (a5 : Int32) (ra5 : 0 ≤ a5.toInt) (ta5 : a5.toInt ≤ 999999) (w0 : va_W) (sz : Nat) (hT : TW ksC ad cy B qr s1 w0)  : Met l yX8_note (wu yX8_note cX8_note 9 none) ({ frames := 1, cells := 0, slots := 0, locals := 21 }) (va_Pc [.ref (ad 151), .long a1, .int a2, .int 1, .int a4, .int a5] (wpreS adK adV dC dI cy sz w0)) (va_Qv (P_X8_note_3 ad cy B qr s1 a1 a2 a4 a5 w0) (fun u : va_W => wpost dC dI cy (va_A w0 sz) u) (va_A w0 sz)) 0 0 (va_A w0 sz) := by
  refine Met.ofW (cc := cX8_note) (maxL := 9) (ret := none) (by decide) rfl ?_
  intro p e s m args below meth c s₁ Bk hml hv
  obtain ⟨rfl, ⟨hsz, hP, hK, hD0⟩, hE, hSR⟩ := hv
  have hx := Bk.exec
  have hb := Bk.bytes
  have hr := Bk.returns
  have hlocks := Bk.notSynchronized
  have hC : CallFix p m c cX8_note 9 s _ (wu yX8_note cX8_note 9 none) RX8 := ⟨hx, hb, hml, findClass_of_methodNamed Bk.named, atoms_spec (ws := (wu yX8_note cX8_note 9 none)) Bk.pre⟩
  subst hsz
  have hD := hD0.self (sz := s.heap.size)
  generalize hAe : va_A w0 s.heap.size = A at hD hE ⊢
  have hA : ∀ q : Nat, s.heap.size ≤ q → A q := fun q h => by rw [← hAe]; exact Or.inr h
  have hw : Wd dC dI A s.heap s.heap [] w0 := ⟨hP, hD, va_S.rf⟩
  have hF : FE ksC [(47, 0, 2420)] w0 w0 := FE.rf
  have hl := lv_entry ([.ref (ad 151), .long a1, .int a2, .int 1, .int a4, .int a5]) (n := 9) (Nat.le_of_ble_eq_true rfl)
  rw [lg_entry_eq]
  generalize (lg_sl ([.ref (ad 151), .long a1, .int a2, .int 1, .int a4, .int a5]) ++ List.replicate (9 - (lg_sl ([.ref (ad 151), .long a1, .int a2, .int 1, .int a4, .int a5])).length) Slot.unset).toArray = ls at hl ⊢
  have hl : lv_has ls 9 [(0, .ref (ad 151)), (1, .long a1), (3, .int a2), (4, .int 1), (5, .int a4), (6, .int a5)] := hl
  generalize hloc : ([] : List Loc) = locs at hw ⊢
  have hinX8 : ∀ w ∈ u_ws RX8 TX8 8, w ∈ (wu yX8_note cX8_note 9 none) := fun _ h => List.mem_cons_of_mem _ (up_79 h)
  refine lv_iload_n hx hb dX8_note_0 rfl (lv_at hl 2 rfl) ?_
  refine lv_iload hx hb dX8_note_1 (lv_at hl 3 rfl) ?_
  refine lv_iadd hx hb dX8_note_3 ?_
  refine lv_topi (fun x1 ex1 => ?_)
  have ex1 : x1.toInt = a2.toInt + (1 : Int) := by rw [ex1]; exact wk_add (show (-2147483648) ≤ a2.toInt + (1 : Int) by omega) (show a2.toInt + (1 : Int) ≤ 2147483647 by omega)
  refine lv_aload_n hx hb dX8_note_4 rfl (lv_at hl 0 rfl) ?_
  refine tk_geti hC hK hw hT hinX8 kC_at151 (by decide) rfl 6 (by decide) (List.mem_cons_of_mem _ uw_55_22) rfl rfl dX8_note_5 (fun x2 c3 rx2 tx2 => ?_)
  refine lv_icmp_le (tgt := 12) hx hb dX8_note_8 (by decide) (fun c4 => ?_) (fun c4 => ?_)
  · have c4 : x1.toInt ≤ x2.toInt := wk_le.mp c4
    refine lv_lload_n hx hb dX8_note_12 rfl (lv_at hl 1 rfl) ?_
    refine lv_ldc2 (v := 24) hx hb hC.2.2.2.1 (hC.2.2.2.2 _ (List.mem_cons_of_mem _ uw_56_12)) dX8_note_13 ?_
    refine lv_ldiv hx hb dX8_note_16 (by decide) ?_
    refine lv_topl (fun x5 ex5 => ?_)
    have ex5 : x5.toInt = a1.toInt / (24 : Int) := by rw [ex5]; exact wk_divl (show 0 ≤ a1.toInt from ra1) (show 0 < (24 : Int) by decide)
    refine lv_lload_n hx hb dX8_note_17 rfl (lv_at hl 1 rfl) ?_
    refine lv_iload hx hb dX8_note_18 (lv_at hl 3 rfl) ?_
    refine lv_i2l hx hb dX8_note_20 rfl ?_
    refine wk_topl 1 (by decide) ?_
    refine lv_ladd hx hb dX8_note_21 ?_
    refine lv_topl (fun x6 ex6 => ?_)
    have ex6 : x6.toInt = a1.toInt + (1 : Int) := by rw [ex6]; exact wk_addl (show (-9223372036854775808) ≤ a1.toInt + (1 : Int) by omega) (show a1.toInt + (1 : Int) ≤ 9223372036854775807 by omega)
    refine lv_ldc2 (v := 24) hx hb hC.2.2.2.1 (hC.2.2.2.2 _ (List.mem_cons_of_mem _ uw_56_12)) dX8_note_22 ?_
    refine lv_ldiv hx hb dX8_note_25 (by decide) ?_
    refine lv_topl (fun x7 ex7 => ?_)
    have ex7 : x7.toInt = x6.toInt / (24 : Int) := by rw [ex7]; exact wk_divl (show 0 ≤ x6.toInt by first | with_reducible assumption | omega) (show 0 < (24 : Int) by decide)
    refine W.lcmp hx hb dX8_note_26 ?_
    refine lv_if_ne (tgt := 34) hx hb dX8_note_27 (by decide) (fun c8 => ?_) (fun c8 => ?_)
    · have c8 : ¬ x5.toInt = x7.toInt := wk_ceF c8
      refine lv_iconst (v := 0) hx hb dX8_note_34 (by decide) ?_
      refine lv_istore (lv' := [(7, .int 0), (0, .ref (ad 151)), (1, .long a1), (3, .int a2), (4, .int 1), (5, .int a4), (6, .int a5)]) hx hb dX8_note_35 hl (by decide) rfl (fun ls hl => ?_)
      refine lv_iload_n hx hb dX8_note_37 rfl (lv_at hl 3 rfl) ?_
      refine lv_iload hx hb dX8_note_38 (lv_at hl 4 rfl) ?_
      refine lv_iadd hx hb dX8_note_40 ?_
      refine lv_topi (fun x9 ex9 => ?_)
      have ex9 : x9.toInt = a2.toInt + (1 : Int) := by rw [ex9]; exact wk_add (show (-2147483648) ≤ a2.toInt + (1 : Int) by omega) (show a2.toInt + (1 : Int) ≤ 2147483647 by omega)
      refine lv_bipush (v := 20) hx hb dX8_note_41 (by decide) ?_
      refine lv_imul hx hb dX8_note_43 ?_
      refine lv_topi (fun x10 ex10 => ?_)
      have ex10 : x10.toInt = x9.toInt * (20 : Int) := by rw [ex10]; exact wk_mul (show (-2147483648) ≤ x9.toInt * (20 : Int) by omega) (show x9.toInt * (20 : Int) ≤ 2147483647 by omega)
      refine lv_iload hx hb dX8_note_44 (lv_at hl 0 rfl) ?_
      refine lv_if_eq (tgt := 54) hx hb dX8_note_46 (by decide) (fun _ => ?_) (fun c => absurd (by decide) c)
      refine lv_iload hx hb dX8_note_54 (lv_at hl 5 rfl) ?_
      refine lv_iload hx hb dX8_note_56 (lv_at hl 5 rfl) ?_
      refine lv_iconst (v := 2) hx hb dX8_note_58 (by decide) ?_
      refine lv_irem hx hb dX8_note_59 (by decide) ?_
      refine lv_topi (fun x11 ex11 => ?_)
      have ex11 : x11.toInt = a4.toInt % (2 : Int) := by rw [ex11]; exact wk_rem (show 0 ≤ a4.toInt from ra4) (show 0 < (2 : Int) by decide)
      refine lv_isub hx hb dX8_note_60 ?_
      refine lv_topi (fun x12 ex12 => ?_)
      have ex12 : x12.toInt = a4.toInt - x11.toInt := by rw [ex12]; exact wk_sub (show (-2147483648) ≤ a4.toInt - x11.toInt by omega) (show a4.toInt - x11.toInt ≤ 2147483647 by omega)
      refine lv_iadd hx hb dX8_note_61 ?_
      refine lv_topi (fun x13 ex13 => ?_)
      have ex13 : x13.toInt = x10.toInt + x12.toInt := by rw [ex13]; exact wk_add (show (-2147483648) ≤ x10.toInt + x12.toInt by omega) (show x10.toInt + x12.toInt ≤ 2147483647 by omega)
      refine lv_istore (lv' := [(8, .int x13), (7, .int 0), (0, .ref (ad 151)), (1, .long a1), (3, .int a2), (4, .int 1), (5, .int a4), (6, .int a5)]) hx hb dX8_note_62 hl (by decide) rfl (fun ls hl => ?_)
      refine lv_aload_n hx hb dX8_note_64 rfl (lv_at hl 2 rfl) ?_
      refine tk_getA hC hK hw hT hinX8 kC_at151 (by decide) rfl 5 (by decide) (List.mem_cons_of_mem _ uw_5_10) rfl rfl dX8_note_65 ?_
      refine lv_iload hx hb dX8_note_68 (lv_at hl 0 rfl) ?_
      refine lv_aload_n hx hb dX8_note_70 rfl (lv_at hl 2 rfl) ?_
      refine tk_getA hC hK hw hT hinX8 kC_at151 (by decide) rfl 5 (by decide) (List.mem_cons_of_mem _ uw_5_10) rfl rfl dX8_note_71 ?_
      refine lv_iload hx hb dX8_note_74 (lv_at hl 0 rfl) ?_
      refine tk_iald hC hK hw hT kC_at154 rfl rfl (show 0 ≤ x13.toInt by first | with_reducible assumption | omega) (show x13.toInt < 2420 by first | with_reducible assumption | omega) dX8_note_76 (fun x14 c15 rx14 tx14 => ?_)
      refine lv_iload hx hb dX8_note_77 (lv_at hl 7 rfl) ?_
      refine va_mmin hx hb (hC.2.2.1.trans hl.1.symm) hC.2.2.2.1 (hC.2.2.2.2 _ (List.mem_cons_of_mem _ uw_56_19)) (hC.2.2.2.2 _ (List.mem_cons_of_mem _ uw_14_19)) (hC.2.2.2.2 _ (List.mem_cons_of_mem _ uw_14_16)) (hC.2.2.2.2 _ (List.mem_cons_of_mem _ uw_14_20)) (Nat.le_of_ble_eq_true rfl) (Nat.le_of_ble_eq_true rfl) (Nat.zero_le _) (Nat.zero_le _) dX8_note_79 ?_
      refine lv_topi (fun x16 ex16 => ?_)
      have bx16 : (x16.toInt = x14.toInt ∧ x14.toInt ≤ a5.toInt) ∨ (x16.toInt = a5.toInt ∧ a5.toInt < x14.toInt) := by rw [ex16]; exact wk_min
      refine tk_iast hC hK hw hT kC_at154 (by decide) rfl rfl (show 0 ≤ x13.toInt by first | with_reducible assumption | omega) (show x13.toInt < 2420 by first | with_reducible assumption | omega) (show 0 ≤ x16.toInt by first | with_reducible assumption | omega) (show x16.toInt ≤ 1000000 by first | with_reducible assumption | omega) dX8_note_82 (fun H locs w17 hw hT k19 c18 => ?_)
      have hF := hF.put kC_at154 (inE_of (a := 0) (b := 2420) (by decide) (show 0 ≤ x13.toInt.toNat by omega) (show x13.toInt.toNat ≤ 2420 by omega)) k19
      have c20 := k19.gi (Or.inl (tk_ne kC_at151 kC_at154 (by decide))) c3
      exact tk_vret hC hr hlocks hK ⟨hT, hF, trivial⟩ hw dX8_note_83
    · have c8 : x5.toInt = x7.toInt := wk_ceT c8
      refine lv_iconst (v := 1) hx hb dX8_note_30 (by decide) ?_
      refine lv_goto (tgt := 35) hx hb dX8_note_31 (by decide) ?_
      refine lv_istore (lv' := [(7, .int 1), (0, .ref (ad 151)), (1, .long a1), (3, .int a2), (4, .int 1), (5, .int a4), (6, .int a5)]) hx hb dX8_note_35 hl (by decide) rfl (fun ls hl => ?_)
      refine lv_iload_n hx hb dX8_note_37 rfl (lv_at hl 3 rfl) ?_
      refine lv_iload hx hb dX8_note_38 (lv_at hl 4 rfl) ?_
      refine lv_iadd hx hb dX8_note_40 ?_
      refine lv_topi (fun x21 ex21 => ?_)
      have ex21 : x21.toInt = a2.toInt + (1 : Int) := by rw [ex21]; exact wk_add (show (-2147483648) ≤ a2.toInt + (1 : Int) by omega) (show a2.toInt + (1 : Int) ≤ 2147483647 by omega)
      refine lv_bipush (v := 20) hx hb dX8_note_41 (by decide) ?_
      refine lv_imul hx hb dX8_note_43 ?_
      refine lv_topi (fun x22 ex22 => ?_)
      have ex22 : x22.toInt = x21.toInt * (20 : Int) := by rw [ex22]; exact wk_mul (show (-2147483648) ≤ x21.toInt * (20 : Int) by omega) (show x21.toInt * (20 : Int) ≤ 2147483647 by omega)
      refine lv_iload hx hb dX8_note_44 (lv_at hl 0 rfl) ?_
      refine lv_if_eq (tgt := 54) hx hb dX8_note_46 (by decide) (fun c => absurd c (by decide)) (fun _ => ?_)
      refine lv_iload hx hb dX8_note_49 (lv_at hl 5 rfl) ?_
      refine lv_goto (tgt := 61) hx hb dX8_note_51 (by decide) ?_
      refine lv_iadd hx hb dX8_note_61 ?_
      refine lv_topi (fun x23 ex23 => ?_)
      have ex23 : x23.toInt = x22.toInt + a4.toInt := by rw [ex23]; exact wk_add (show (-2147483648) ≤ x22.toInt + a4.toInt by omega) (show x22.toInt + a4.toInt ≤ 2147483647 by omega)
      refine lv_istore (lv' := [(8, .int x23), (7, .int 1), (0, .ref (ad 151)), (1, .long a1), (3, .int a2), (4, .int 1), (5, .int a4), (6, .int a5)]) hx hb dX8_note_62 hl (by decide) rfl (fun ls hl => ?_)
      refine lv_aload_n hx hb dX8_note_64 rfl (lv_at hl 2 rfl) ?_
      refine tk_getA hC hK hw hT hinX8 kC_at151 (by decide) rfl 5 (by decide) (List.mem_cons_of_mem _ uw_5_10) rfl rfl dX8_note_65 ?_
      refine lv_iload hx hb dX8_note_68 (lv_at hl 0 rfl) ?_
      refine lv_aload_n hx hb dX8_note_70 rfl (lv_at hl 2 rfl) ?_
      refine tk_getA hC hK hw hT hinX8 kC_at151 (by decide) rfl 5 (by decide) (List.mem_cons_of_mem _ uw_5_10) rfl rfl dX8_note_71 ?_
      refine lv_iload hx hb dX8_note_74 (lv_at hl 0 rfl) ?_
      refine tk_iald hC hK hw hT kC_at154 rfl rfl (show 0 ≤ x23.toInt by first | with_reducible assumption | omega) (show x23.toInt < 2420 by first | with_reducible assumption | omega) dX8_note_76 (fun x24 c25 rx24 tx24 => ?_)
      refine lv_iload hx hb dX8_note_77 (lv_at hl 7 rfl) ?_
      refine va_mmin hx hb (hC.2.2.1.trans hl.1.symm) hC.2.2.2.1 (hC.2.2.2.2 _ (List.mem_cons_of_mem _ uw_56_19)) (hC.2.2.2.2 _ (List.mem_cons_of_mem _ uw_14_19)) (hC.2.2.2.2 _ (List.mem_cons_of_mem _ uw_14_16)) (hC.2.2.2.2 _ (List.mem_cons_of_mem _ uw_14_20)) (Nat.le_of_ble_eq_true rfl) (Nat.le_of_ble_eq_true rfl) (Nat.zero_le _) (Nat.zero_le _) dX8_note_79 ?_
      refine lv_topi (fun x26 ex26 => ?_)
      have bx26 : (x26.toInt = x24.toInt ∧ x24.toInt ≤ a5.toInt) ∨ (x26.toInt = a5.toInt ∧ a5.toInt < x24.toInt) := by rw [ex26]; exact wk_min
      refine tk_iast hC hK hw hT kC_at154 (by decide) rfl rfl (show 0 ≤ x23.toInt by first | with_reducible assumption | omega) (show x23.toInt < 2420 by first | with_reducible assumption | omega) (show 0 ≤ x26.toInt by first | with_reducible assumption | omega) (show x26.toInt ≤ 1000000 by first | with_reducible assumption | omega) dX8_note_82 (fun H locs w27 hw hT k29 c28 => ?_)
      have hF := hF.put kC_at154 (inE_of (a := 0) (b := 2420) (by decide) (show 0 ≤ x23.toInt.toNat by omega) (show x23.toInt.toNat ≤ 2420 by omega)) k29
      have c30 := k29.gi (Or.inl (tk_ne kC_at151 kC_at154 (by decide))) c3
      exact tk_vret hC hr hlocks hK ⟨hT, hF, trivial⟩ hw dX8_note_83
  · have c4 : x2.toInt < x1.toInt := wk_leF c4
    exact tk_vret hC hr hlocks hK ⟨hT, hF, trivial⟩ hw dX8_note_11
abbrev P_X8_note_4 (ad : Nat → Nat) (cy : Nat → ClassId) (B : Int) (qr : Nat) (s1 : Int) (a1 : Int64) (a2 : Int32) (a4 : Int32) (a5 : Int32) (w0 : va_W) : va_W → Prop := fun u => TW ksC ad cy B qr s1 u ∧ FE ksC [(47, 0, 2420)] w0 u ∧ ((True))
set_option maxHeartbeats 4000000 in
set_option maxRecDepth 100000 in
theorem k_X8_note_4 (l : Launch) (adK adV : Nat → Nat) (dC : Nat → ClassId) (dI : Nat → Nat → Nat) (cy : Nat → ClassId) (ad : Nat → Nat) (B : Int) (hB0 : 2147483648 ≤ B) (hB1 : B ≤ 1152921504606846976) (qr : Nat) (s1 : Int)  (a1 : Int64) (ra1 : 0 ≤ a1.toInt) (ta1 : a1.toInt ≤ 2305843009213694072) (a2 : Int32) (ra2 : 0 ≤ a2.toInt) (ta2 : a2.toInt ≤ 120) (a4 : Int32) (ra4 : 1 ≤ a4.toInt) (ta4 : a4.toInt ≤ 19) (a5 : Int32) (ra5 : 1 ≤ a5.toInt) (ta5 : a5.toInt ≤ 1000000) (w0 : va_W) (sz : Nat) (hT : TW ksC ad cy B qr s1 w0)  : Met l yX8_note (wu yX8_note cX8_note 9 none) ({ frames := 1, cells := 0, slots := 0, locals := 21 }) (va_Pc [.ref (ad 151), .long a1, .int a2, .int 1, .int a4, .int a5] (wpreS adK adV dC dI cy sz w0)) (va_Qv (P_X8_note_4 ad cy B qr s1 a1 a2 a4 a5 w0) (fun u : va_W => wpost dC dI cy (va_A w0 sz) u) (va_A w0 sz)) 0 0 (va_A w0 sz) := by
  refine Met.ofW (cc := cX8_note) (maxL := 9) (ret := none) (by decide) rfl ?_
  intro p e s m args below meth c s₁ Bk hml hv
  obtain ⟨rfl, ⟨hsz, hP, hK, hD0⟩, hE, hSR⟩ := hv
  have hx := Bk.exec
  have hb := Bk.bytes
  have hr := Bk.returns
  have hlocks := Bk.notSynchronized
  have hC : CallFix p m c cX8_note 9 s _ (wu yX8_note cX8_note 9 none) RX8 := ⟨hx, hb, hml, findClass_of_methodNamed Bk.named, atoms_spec (ws := (wu yX8_note cX8_note 9 none)) Bk.pre⟩
  subst hsz
  have hD := hD0.self (sz := s.heap.size)
  generalize hAe : va_A w0 s.heap.size = A at hD hE ⊢
  have hA : ∀ q : Nat, s.heap.size ≤ q → A q := fun q h => by rw [← hAe]; exact Or.inr h
  have hw : Wd dC dI A s.heap s.heap [] w0 := ⟨hP, hD, va_S.rf⟩
  have hF : FE ksC [(47, 0, 2420)] w0 w0 := FE.rf
  have hl := lv_entry ([.ref (ad 151), .long a1, .int a2, .int 1, .int a4, .int a5]) (n := 9) (Nat.le_of_ble_eq_true rfl)
  rw [lg_entry_eq]
  generalize (lg_sl ([.ref (ad 151), .long a1, .int a2, .int 1, .int a4, .int a5]) ++ List.replicate (9 - (lg_sl ([.ref (ad 151), .long a1, .int a2, .int 1, .int a4, .int a5])).length) Slot.unset).toArray = ls at hl ⊢
  have hl : lv_has ls 9 [(0, .ref (ad 151)), (1, .long a1), (3, .int a2), (4, .int 1), (5, .int a4), (6, .int a5)] := hl
  generalize hloc : ([] : List Loc) = locs at hw ⊢
  have hinX8 : ∀ w ∈ u_ws RX8 TX8 8, w ∈ (wu yX8_note cX8_note 9 none) := fun _ h => List.mem_cons_of_mem _ (up_79 h)
  refine lv_iload_n hx hb dX8_note_0 rfl (lv_at hl 2 rfl) ?_
  refine lv_iload hx hb dX8_note_1 (lv_at hl 3 rfl) ?_
  refine lv_iadd hx hb dX8_note_3 ?_
  refine lv_topi (fun x1 ex1 => ?_)
  have ex1 : x1.toInt = a2.toInt + (1 : Int) := by rw [ex1]; exact wk_add (show (-2147483648) ≤ a2.toInt + (1 : Int) by omega) (show a2.toInt + (1 : Int) ≤ 2147483647 by omega)
  refine lv_aload_n hx hb dX8_note_4 rfl (lv_at hl 0 rfl) ?_
  refine tk_geti hC hK hw hT hinX8 kC_at151 (by decide) rfl 6 (by decide) (List.mem_cons_of_mem _ uw_55_22) rfl rfl dX8_note_5 (fun x2 c3 rx2 tx2 => ?_)
  refine lv_icmp_le (tgt := 12) hx hb dX8_note_8 (by decide) (fun c4 => ?_) (fun c4 => ?_)
  · have c4 : x1.toInt ≤ x2.toInt := wk_le.mp c4
    refine lv_lload_n hx hb dX8_note_12 rfl (lv_at hl 1 rfl) ?_
    refine lv_ldc2 (v := 24) hx hb hC.2.2.2.1 (hC.2.2.2.2 _ (List.mem_cons_of_mem _ uw_56_12)) dX8_note_13 ?_
    refine lv_ldiv hx hb dX8_note_16 (by decide) ?_
    refine lv_topl (fun x5 ex5 => ?_)
    have ex5 : x5.toInt = a1.toInt / (24 : Int) := by rw [ex5]; exact wk_divl (show 0 ≤ a1.toInt from ra1) (show 0 < (24 : Int) by decide)
    refine lv_lload_n hx hb dX8_note_17 rfl (lv_at hl 1 rfl) ?_
    refine lv_iload hx hb dX8_note_18 (lv_at hl 3 rfl) ?_
    refine lv_i2l hx hb dX8_note_20 rfl ?_
    refine wk_topl 1 (by decide) ?_
    refine lv_ladd hx hb dX8_note_21 ?_
    refine lv_topl (fun x6 ex6 => ?_)
    have ex6 : x6.toInt = a1.toInt + (1 : Int) := by rw [ex6]; exact wk_addl (show (-9223372036854775808) ≤ a1.toInt + (1 : Int) by omega) (show a1.toInt + (1 : Int) ≤ 9223372036854775807 by omega)
    refine lv_ldc2 (v := 24) hx hb hC.2.2.2.1 (hC.2.2.2.2 _ (List.mem_cons_of_mem _ uw_56_12)) dX8_note_22 ?_
    refine lv_ldiv hx hb dX8_note_25 (by decide) ?_
    refine lv_topl (fun x7 ex7 => ?_)
    have ex7 : x7.toInt = x6.toInt / (24 : Int) := by rw [ex7]; exact wk_divl (show 0 ≤ x6.toInt by first | with_reducible assumption | omega) (show 0 < (24 : Int) by decide)
    refine W.lcmp hx hb dX8_note_26 ?_
    refine lv_if_ne (tgt := 34) hx hb dX8_note_27 (by decide) (fun c8 => ?_) (fun c8 => ?_)
    · have c8 : ¬ x5.toInt = x7.toInt := wk_ceF c8
      refine lv_iconst (v := 0) hx hb dX8_note_34 (by decide) ?_
      refine lv_istore (lv' := [(7, .int 0), (0, .ref (ad 151)), (1, .long a1), (3, .int a2), (4, .int 1), (5, .int a4), (6, .int a5)]) hx hb dX8_note_35 hl (by decide) rfl (fun ls hl => ?_)
      refine lv_iload_n hx hb dX8_note_37 rfl (lv_at hl 3 rfl) ?_
      refine lv_iload hx hb dX8_note_38 (lv_at hl 4 rfl) ?_
      refine lv_iadd hx hb dX8_note_40 ?_
      refine lv_topi (fun x9 ex9 => ?_)
      have ex9 : x9.toInt = a2.toInt + (1 : Int) := by rw [ex9]; exact wk_add (show (-2147483648) ≤ a2.toInt + (1 : Int) by omega) (show a2.toInt + (1 : Int) ≤ 2147483647 by omega)
      refine lv_bipush (v := 20) hx hb dX8_note_41 (by decide) ?_
      refine lv_imul hx hb dX8_note_43 ?_
      refine lv_topi (fun x10 ex10 => ?_)
      have ex10 : x10.toInt = x9.toInt * (20 : Int) := by rw [ex10]; exact wk_mul (show (-2147483648) ≤ x9.toInt * (20 : Int) by omega) (show x9.toInt * (20 : Int) ≤ 2147483647 by omega)
      refine lv_iload hx hb dX8_note_44 (lv_at hl 0 rfl) ?_
      refine lv_if_eq (tgt := 54) hx hb dX8_note_46 (by decide) (fun _ => ?_) (fun c => absurd (by decide) c)
      refine lv_iload hx hb dX8_note_54 (lv_at hl 5 rfl) ?_
      refine lv_iload hx hb dX8_note_56 (lv_at hl 5 rfl) ?_
      refine lv_iconst (v := 2) hx hb dX8_note_58 (by decide) ?_
      refine lv_irem hx hb dX8_note_59 (by decide) ?_
      refine lv_topi (fun x11 ex11 => ?_)
      have ex11 : x11.toInt = a4.toInt % (2 : Int) := by rw [ex11]; exact wk_rem (show 0 ≤ a4.toInt from Int.le_trans (by decide) ra4) (show 0 < (2 : Int) by decide)
      refine lv_isub hx hb dX8_note_60 ?_
      refine lv_topi (fun x12 ex12 => ?_)
      have ex12 : x12.toInt = a4.toInt - x11.toInt := by rw [ex12]; exact wk_sub (show (-2147483648) ≤ a4.toInt - x11.toInt by omega) (show a4.toInt - x11.toInt ≤ 2147483647 by omega)
      refine lv_iadd hx hb dX8_note_61 ?_
      refine lv_topi (fun x13 ex13 => ?_)
      have ex13 : x13.toInt = x10.toInt + x12.toInt := by rw [ex13]; exact wk_add (show (-2147483648) ≤ x10.toInt + x12.toInt by omega) (show x10.toInt + x12.toInt ≤ 2147483647 by omega)
      refine lv_istore (lv' := [(8, .int x13), (7, .int 0), (0, .ref (ad 151)), (1, .long a1), (3, .int a2), (4, .int 1), (5, .int a4), (6, .int a5)]) hx hb dX8_note_62 hl (by decide) rfl (fun ls hl => ?_)
      refine lv_aload_n hx hb dX8_note_64 rfl (lv_at hl 2 rfl) ?_
      refine tk_getA hC hK hw hT hinX8 kC_at151 (by decide) rfl 5 (by decide) (List.mem_cons_of_mem _ uw_5_10) rfl rfl dX8_note_65 ?_
      refine lv_iload hx hb dX8_note_68 (lv_at hl 0 rfl) ?_
      refine lv_aload_n hx hb dX8_note_70 rfl (lv_at hl 2 rfl) ?_
      refine tk_getA hC hK hw hT hinX8 kC_at151 (by decide) rfl 5 (by decide) (List.mem_cons_of_mem _ uw_5_10) rfl rfl dX8_note_71 ?_
      refine lv_iload hx hb dX8_note_74 (lv_at hl 0 rfl) ?_
      refine tk_iald hC hK hw hT kC_at154 rfl rfl (show 0 ≤ x13.toInt by first | with_reducible assumption | omega) (show x13.toInt < 2420 by first | with_reducible assumption | omega) dX8_note_76 (fun x14 c15 rx14 tx14 => ?_)
      refine lv_iload hx hb dX8_note_77 (lv_at hl 7 rfl) ?_
      refine va_mmin hx hb (hC.2.2.1.trans hl.1.symm) hC.2.2.2.1 (hC.2.2.2.2 _ (List.mem_cons_of_mem _ uw_56_19)) (hC.2.2.2.2 _ (List.mem_cons_of_mem _ uw_14_19)) (hC.2.2.2.2 _ (List.mem_cons_of_mem _ uw_14_16)) (hC.2.2.2.2 _ (List.mem_cons_of_mem _ uw_14_20)) (Nat.le_of_ble_eq_true rfl) (Nat.le_of_ble_eq_true rfl) (Nat.zero_le _) (Nat.zero_le _) dX8_note_79 ?_
      refine lv_topi (fun x16 ex16 => ?_)
      have bx16 : (x16.toInt = x14.toInt ∧ x14.toInt ≤ a5.toInt) ∨ (x16.toInt = a5.toInt ∧ a5.toInt < x14.toInt) := by rw [ex16]; exact wk_min
      refine tk_iast hC hK hw hT kC_at154 (by decide) rfl rfl (show 0 ≤ x13.toInt by first | with_reducible assumption | omega) (show x13.toInt < 2420 by first | with_reducible assumption | omega) (show 0 ≤ x16.toInt by first | with_reducible assumption | omega) (show x16.toInt ≤ 1000000 by first | with_reducible assumption | omega) dX8_note_82 (fun H locs w17 hw hT k19 c18 => ?_)
      have hF := hF.put kC_at154 (inE_of (a := 0) (b := 2420) (by decide) (show 0 ≤ x13.toInt.toNat by omega) (show x13.toInt.toNat ≤ 2420 by omega)) k19
      have c20 := k19.gi (Or.inl (tk_ne kC_at151 kC_at154 (by decide))) c3
      exact tk_vret hC hr hlocks hK ⟨hT, hF, trivial⟩ hw dX8_note_83
    · have c8 : x5.toInt = x7.toInt := wk_ceT c8
      refine lv_iconst (v := 1) hx hb dX8_note_30 (by decide) ?_
      refine lv_goto (tgt := 35) hx hb dX8_note_31 (by decide) ?_
      refine lv_istore (lv' := [(7, .int 1), (0, .ref (ad 151)), (1, .long a1), (3, .int a2), (4, .int 1), (5, .int a4), (6, .int a5)]) hx hb dX8_note_35 hl (by decide) rfl (fun ls hl => ?_)
      refine lv_iload_n hx hb dX8_note_37 rfl (lv_at hl 3 rfl) ?_
      refine lv_iload hx hb dX8_note_38 (lv_at hl 4 rfl) ?_
      refine lv_iadd hx hb dX8_note_40 ?_
      refine lv_topi (fun x21 ex21 => ?_)
      have ex21 : x21.toInt = a2.toInt + (1 : Int) := by rw [ex21]; exact wk_add (show (-2147483648) ≤ a2.toInt + (1 : Int) by omega) (show a2.toInt + (1 : Int) ≤ 2147483647 by omega)
      refine lv_bipush (v := 20) hx hb dX8_note_41 (by decide) ?_
      refine lv_imul hx hb dX8_note_43 ?_
      refine lv_topi (fun x22 ex22 => ?_)
      have ex22 : x22.toInt = x21.toInt * (20 : Int) := by rw [ex22]; exact wk_mul (show (-2147483648) ≤ x21.toInt * (20 : Int) by omega) (show x21.toInt * (20 : Int) ≤ 2147483647 by omega)
      refine lv_iload hx hb dX8_note_44 (lv_at hl 0 rfl) ?_
      refine lv_if_eq (tgt := 54) hx hb dX8_note_46 (by decide) (fun c => absurd c (by decide)) (fun _ => ?_)
      refine lv_iload hx hb dX8_note_49 (lv_at hl 5 rfl) ?_
      refine lv_goto (tgt := 61) hx hb dX8_note_51 (by decide) ?_
      refine lv_iadd hx hb dX8_note_61 ?_
      refine lv_topi (fun x23 ex23 => ?_)
      have ex23 : x23.toInt = x22.toInt + a4.toInt := by rw [ex23]; exact wk_add (show (-2147483648) ≤ x22.toInt + a4.toInt by omega) (show x22.toInt + a4.toInt ≤ 2147483647 by omega)
      refine lv_istore (lv' := [(8, .int x23), (7, .int 1), (0, .ref (ad 151)), (1, .long a1), (3, .int a2), (4, .int 1), (5, .int a4), (6, .int a5)]) hx hb dX8_note_62 hl (by decide) rfl (fun ls hl => ?_)
      refine lv_aload_n hx hb dX8_note_64 rfl (lv_at hl 2 rfl) ?_
      refine tk_getA hC hK hw hT hinX8 kC_at151 (by decide) rfl 5 (by decide) (List.mem_cons_of_mem _ uw_5_10) rfl rfl dX8_note_65 ?_
      refine lv_iload hx hb dX8_note_68 (lv_at hl 0 rfl) ?_
      refine lv_aload_n hx hb dX8_note_70 rfl (lv_at hl 2 rfl) ?_
      refine tk_getA hC hK hw hT hinX8 kC_at151 (by decide) rfl 5 (by decide) (List.mem_cons_of_mem _ uw_5_10) rfl rfl dX8_note_71 ?_
      refine lv_iload hx hb dX8_note_74 (lv_at hl 0 rfl) ?_
      refine tk_iald hC hK hw hT kC_at154 rfl rfl (show 0 ≤ x23.toInt by first | with_reducible assumption | omega) (show x23.toInt < 2420 by first | with_reducible assumption | omega) dX8_note_76 (fun x24 c25 rx24 tx24 => ?_)
      refine lv_iload hx hb dX8_note_77 (lv_at hl 7 rfl) ?_
      refine va_mmin hx hb (hC.2.2.1.trans hl.1.symm) hC.2.2.2.1 (hC.2.2.2.2 _ (List.mem_cons_of_mem _ uw_56_19)) (hC.2.2.2.2 _ (List.mem_cons_of_mem _ uw_14_19)) (hC.2.2.2.2 _ (List.mem_cons_of_mem _ uw_14_16)) (hC.2.2.2.2 _ (List.mem_cons_of_mem _ uw_14_20)) (Nat.le_of_ble_eq_true rfl) (Nat.le_of_ble_eq_true rfl) (Nat.zero_le _) (Nat.zero_le _) dX8_note_79 ?_
      refine lv_topi (fun x26 ex26 => ?_)
      have bx26 : (x26.toInt = x24.toInt ∧ x24.toInt ≤ a5.toInt) ∨ (x26.toInt = a5.toInt ∧ a5.toInt < x24.toInt) := by rw [ex26]; exact wk_min
      refine tk_iast hC hK hw hT kC_at154 (by decide) rfl rfl (show 0 ≤ x23.toInt by first | with_reducible assumption | omega) (show x23.toInt < 2420 by first | with_reducible assumption | omega) (show 0 ≤ x26.toInt by first | with_reducible assumption | omega) (show x26.toInt ≤ 1000000 by first | with_reducible assumption | omega) dX8_note_82 (fun H locs w27 hw hT k29 c28 => ?_)
      have hF := hF.put kC_at154 (inE_of (a := 0) (b := 2420) (by decide) (show 0 ≤ x23.toInt.toNat by omega) (show x23.toInt.toNat ≤ 2420 by omega)) k29
      have c30 := k29.gi (Or.inl (tk_ne kC_at151 kC_at154 (by decide))) c3
      exact tk_vret hC hr hlocks hK ⟨hT, hF, trivial⟩ hw dX8_note_83
  · have c4 : x2.toInt < x1.toInt := wk_leF c4
    exact tk_vret hC hr hlocks hK ⟨hT, hF, trivial⟩ hw dX8_note_11
abbrev P_X8_spread_1 (ad : Nat → Nat) (cy : Nat → ClassId) (B : Int) (qr : Nat) (s1 : Int) (q1_ : Nat) (a2 : Int32) (a3 : Int32) (a4 : Int32) (w0 : va_W) : va_W → Prop := fun u => TW ksC ad cy B qr s1 u ∧ FE ksC [(47, 0, 2420)] w0 u ∧ ((True))
set_option maxHeartbeats 4000000 in
set_option maxRecDepth 100000 in
theorem k_X8_spread_1 (l : Launch) (adK adV : Nat → Nat) (dC : Nat → ClassId) (dI : Nat → Nat → Nat) (cy : Nat → ClassId) (ad : Nat → Nat) (B : Int) (hB0 : 2147483648 ≤ B) (hB1 : B ≤ 1152921504606846976) (qr : Nat) (s1 : Int)  (q1_ : Nat) (hkq1_ : ksC[q1_]? = some 9) (a2 : Int32) (ra2 : 0 ≤ a2.toInt) (ta2 : a2.toInt ≤ 120) (a3 : Int32) (ra3 : 0 ≤ a3.toInt) (ta3 : a3.toInt ≤ 19) (a4 : Int32) (ra4 : 0 ≤ a4.toInt) (ta4 : a4.toInt ≤ 999999) (w0 : va_W) (sz : Nat) (hT : TW ksC ad cy B qr s1 w0)  : Met l yX8_spread (wu yX8_spread cX8_spread 13 none) ({ frames := 3, cells := 0, slots := 0, locals := 65 }) (va_Pc [.ref (ad 151), .ref (ad q1_), .int a2, .int a3, .int a4] (wpreS adK adV dC dI cy sz w0)) (va_Qv (P_X8_spread_1 ad cy B qr s1 q1_ a2 a3 a4 w0) (fun u : va_W => wpost dC dI cy (va_A w0 sz) u) (va_A w0 sz)) 0 0 (va_A w0 sz) := by
  refine Met.ofW (cc := cX8_spread) (maxL := 13) (ret := none) (by decide) rfl ?_
  intro p e s m args below meth c s₁ Bk hml hv
  obtain ⟨rfl, ⟨hsz, hP, hK, hD0⟩, hE, hSR⟩ := hv
  have hx := Bk.exec
  have hb := Bk.bytes
  have hr := Bk.returns
  have hlocks := Bk.notSynchronized
  have hC : CallFix p m c cX8_spread 13 s _ (wu yX8_spread cX8_spread 13 none) RX8 := ⟨hx, hb, hml, findClass_of_methodNamed Bk.named, atoms_spec (ws := (wu yX8_spread cX8_spread 13 none)) Bk.pre⟩
  subst hsz
  have hD := hD0.self (sz := s.heap.size)
  generalize hAe : va_A w0 s.heap.size = A at hD hE ⊢
  have hA : ∀ q : Nat, s.heap.size ≤ q → A q := fun q h => by rw [← hAe]; exact Or.inr h
  have hw : Wd dC dI A s.heap s.heap [] w0 := ⟨hP, hD, va_S.rf⟩
  have hF : FE ksC [(47, 0, 2420)] w0 w0 := FE.rf
  have hl := lv_entry ([.ref (ad 151), .ref (ad q1_), .int a2, .int a3, .int a4]) (n := 13) (Nat.le_of_ble_eq_true rfl)
  rw [lg_entry_eq]
  generalize (lg_sl ([.ref (ad 151), .ref (ad q1_), .int a2, .int a3, .int a4]) ++ List.replicate (13 - (lg_sl ([.ref (ad 151), .ref (ad q1_), .int a2, .int a3, .int a4])).length) Slot.unset).toArray = ls at hl ⊢
  have hl : lv_has ls 13 [(0, .ref (ad 151)), (1, .ref (ad q1_)), (2, .int a2), (3, .int a3), (4, .int a4)] := hl
  generalize hloc : ([] : List Loc) = locs at hw ⊢
  have hinX9 : ∀ w ∈ u_ws RX9 TX9 9, w ∈ (wu yX8_spread cX8_spread 13 none) := fun _ h => List.mem_cons_of_mem _ (up_82 h)
  have hinX8 : ∀ w ∈ u_ws RX8 TX8 8, w ∈ (wu yX8_spread cX8_spread 13 none) := fun _ h => List.mem_cons_of_mem _ (up_79 h)
  have hinX5 : ∀ w ∈ u_ws RX5 TX5 14, w ∈ (wu yX8_spread cX8_spread 13 none) := fun _ h => List.mem_cons_of_mem _ (up_76 h)
  have hinX7 : ∀ w ∈ u_ws RX7 TX7 12, w ∈ (wu yX8_spread cX8_spread 13 none) := fun _ h => List.mem_cons_of_mem _ (up_73 h)
  have J185 : ∀ (v185_5 : Int32) (v185_6 : Int32) (v185_7 : Int64) (v185_9 : Int32) (v185_10 : Int32) (v185_11 : Int32) (f185_q1__1 : Int32) (H : Heap) (locs : List Loc) (ls : Array Slot) (w1 : va_W), 0 ≤ a2.toInt → a2.toInt ≤ 120 → 0 ≤ a3.toInt → a3.toInt ≤ 19 → 0 ≤ a4.toInt → a4.toInt ≤ 999999 → 0 ≤ v185_5.toInt → v185_5.toInt ≤ 9 → 0 ≤ v185_6.toInt → v185_6.toInt ≤ 1 → 0 ≤ v185_7.toInt → v185_7.toInt ≤ 2305843009213693952 → 0 ≤ v185_9.toInt → v185_9.toInt ≤ 10 → 0 ≤ v185_10.toInt → v185_10.toInt ≤ 11 → (-1) ≤ v185_11.toInt → v185_11.toInt ≤ 1 → 0 ≤ f185_q1__1.toInt → f185_q1__1.toInt ≤ 9 → Wd dC dI A s.heap H locs w1 → TW ksC ad cy B qr s1 w1 → FE ksC [(47, 0, 2420)] w0 w1 → gi w1 q1_ 1 = f185_q1__1 → lv_has ls 13 [(0, .ref (ad 151)), (1, .ref (ad q1_)), (2, .int a2), (3, .int a3), (4, .int a4), (5, .int v185_5), (6, .int v185_6), (7, .long v185_7), (9, .int v185_9), (10, .int v185_10), (11, .int v185_11)] → W p l e ({ frames := 3, cells := 0, slots := 0, locals := 65 }) s m (List.toArray [.ref (ad 151), .ref (ad q1_), .int a2, .int a3, .int a4]) below meth c H locs 0 0 (MQ below (va_Qv (P_X8_spread_1 ad cy B qr s1 q1_ a2 a3 a4 w0) (fun u : va_W => wpost dC dI cy A u) A) (List.toArray [.ref (ad 151), .ref (ad q1_), .int a2, .int a3, .int a4]) s 0 0 A) (F0 m 185 ls []) := by
    intro v185_5 v185_6 v185_7 v185_9 v185_10 v185_11 f185_q1__1 H locs ls w1 r2 t3 r4 t5 r6 t7 r8 t9 r10 t11 r12 t13 r14 t15 r16 t17 r18 t19 r20 t21 hw hT hF c22 hl
    exact tk_vret hC hr hlocks hK ⟨hT, hF, trivial⟩ hw dX8_spread_185
  have J50 : ∀ (v50_5 : Int32) (v50_6 : Int32) (v50_7 : Int64) (H : Heap) (locs : List Loc) (ls : Array Slot) (w23 : va_W), 0 ≤ a2.toInt → a2.toInt ≤ 120 → 0 ≤ a3.toInt → a3.toInt ≤ 19 → 0 ≤ a4.toInt → a4.toInt ≤ 999999 → 0 ≤ v50_5.toInt → v50_5.toInt ≤ 9 → 0 ≤ v50_6.toInt → v50_6.toInt ≤ 1 → 0 ≤ v50_7.toInt → v50_7.toInt ≤ 2305843009213693952 → Wd dC dI A s.heap H locs w23 → TW ksC ad cy B qr s1 w23 → FE ksC [(47, 0, 2420)] w0 w23 → lv_has ls 13 [(0, .ref (ad 151)), (1, .ref (ad q1_)), (2, .int a2), (3, .int a3), (4, .int a4), (5, .int v50_5), (6, .int v50_6), (7, .long v50_7)] → W p l e ({ frames := 3, cells := 0, slots := 0, locals := 65 }) s m (List.toArray [.ref (ad 151), .ref (ad q1_), .int a2, .int a3, .int a4]) below meth c H locs 0 0 (MQ below (va_Qv (P_X8_spread_1 ad cy B qr s1 q1_ a2 a3 a4 w0) (fun u : va_W => wpost dC dI cy A u) A) (List.toArray [.ref (ad 151), .ref (ad q1_), .int a2, .int a3, .int a4]) s 0 0 A) (F0 m 50 ls []) := by
    intro v50_5 v50_6 v50_7 H locs ls w23 r24 t25 r26 t27 r28 t29 r30 t31 r32 t33 r34 t35 hw hT hF hl
    refine lv_iload hx hb dX8_spread_50 (lv_at hl 6 rfl) ?_
    refine lv_iconst (v := 1) hx hb dX8_spread_52 (by decide) ?_
    refine lv_icmp_ne (tgt := 68) hx hb dX8_spread_53 (by decide) (fun c36 => ?_) (fun c36 => ?_)
    · have c36 : ¬ v50_6.toInt = (1 : Int) := wk_eqF c36
      refine lv_aload_n hx hb dX8_spread_68 rfl (lv_at hl 1 rfl) ?_
      refine tk_geti hC hK hw hT hinX9 hkq1_ (by decide) rfl 2 (by decide) (List.mem_cons_of_mem _ uw_56_13) rfl rfl dX8_spread_69 (fun x37 c38 rx37 tx37 => ?_)
      refine lv_istore (lv' := [(9, .int x37), (0, .ref (ad 151)), (1, .ref (ad q1_)), (2, .int a2), (3, .int a3), (4, .int a4), (5, .int v50_5), (6, .int v50_6), (7, .long v50_7)]) hx hb dX8_spread_72 hl (by decide) rfl (fun ls hl => ?_)
      refine lv_aload_n hx hb dX8_spread_74 rfl (lv_at hl 1 rfl) ?_
      refine tk_getA hC hK hw hT hinX8 kC_at151 (by decide) rfl 1 (by decide) (List.mem_cons_of_mem _ uw_5_12) rfl rfl dX8_spread_75 ?_
      refine lv_iload hx hb dX8_spread_78 (lv_at hl 0 rfl) ?_
      refine lv_iload hx hb dX8_spread_80 (lv_at hl 6 rfl) ?_
      refine lv_aload_n hx hb dX8_spread_82 rfl (lv_at hl 2 rfl) ?_
      refine tk_geti hC hK hw hT hinX9 hkq1_ (by decide) rfl 1 (by decide) (List.mem_cons_of_mem _ uw_56_2) rfl rfl dX8_spread_83 (fun x39 c40 rx39 tx39 => ?_)
      refine tk_Vi hC hK hw hT hA hE hSR kC_at145 (by decide) rfl (k_X0_streetBy_1 l adK adV dC dI cy ad B hB0 (Int.le_trans hB1 (by decide)) qr s1   x37 (show 0 ≤ x37.toInt by first | with_reducible assumption | omega) (show x37.toInt ≤ 3 by first | with_reducible assumption | omega) v50_5 (show 0 ≤ v50_5.toInt from r30) (show v50_5.toInt ≤ 9 from t31) x39 (show 0 ≤ x39.toInt by first | with_reducible assumption | omega) (show x39.toInt ≤ 9 by first | with_reducible assumption | omega) w23 H.size hT ) (cwV 3 hC.2.2.2.2 uV_RX8_129 rfl rfl rfl (by decide +kernel) ⟨Nat.le_of_ble_eq_true rfl, Nat.le_of_ble_eq_true rfl⟩) rfl hl.1 rfl (Nat.le_of_ble_eq_true rfl) dX8_spread_86 (fun r41 w43 H locs hp42 hw => ?_)
      obtain ⟨hT, k44, hg47⟩ := hp42
      have hF := hF.tr k44 (by decide)
      have c48 := k44.gi hkq1_ (by decide) c38
      have c49 := k44.gi hkq1_ (by decide) c40
      obtain ⟨g45, g46⟩ := hg47
      refine lv_istore (lv' := [(10, .int r41), (9, .int x37), (0, .ref (ad 151)), (1, .ref (ad q1_)), (2, .int a2), (3, .int a3), (4, .int a4), (5, .int v50_5), (6, .int v50_6), (7, .long v50_7)]) hx hb dX8_spread_89 hl (by decide) rfl (fun ls hl => ?_)
      refine lv_iload hx hb dX8_spread_91 (lv_at hl 0 rfl) ?_
      refine lv_iconst (v := (-1)) hx hb dX8_spread_93 (by decide) ?_
      refine lv_icmp_ne (tgt := 98) hx hb dX8_spread_94 (by decide) (fun c50 => ?_) (fun c50 => ?_)
      · have c50 : ¬ r41.toInt = (-1 : Int) := wk_eqF c50
        refine lv_aload_n hx hb dX8_spread_98 rfl (lv_at hl 2 rfl) ?_
        refine tk_getA hC hK hw hT hinX8 kC_at151 (by decide) rfl 0 (by decide) (List.mem_cons_of_mem _ uw_5_11) rfl rfl dX8_spread_99 ?_
        refine tk_getO hC hK hw hT hinX5 kC_at38 (by decide) rfl 0 (by decide) (List.mem_cons_of_mem _ uw_56_0) rfl rfl dX8_spread_102 ?_
        refine lv_iload hx hb dX8_spread_105 (lv_at hl 0 rfl) ?_
        refine lv_iload hx hb dX8_spread_107 (lv_at hl 7 rfl) ?_
        refine tk_Vi hC hK hw hT hA hE hSR kC_at39 (by decide) rfl (k_X7_sideOf_2 l adK adV dC dI cy ad B hB0 (Int.le_trans hB1 (by decide)) qr s1   r41 (show 0 ≤ r41.toInt by first | with_reducible assumption | omega) (show r41.toInt ≤ 11 by first | with_reducible assumption | omega) v50_5 (show 0 ≤ v50_5.toInt from r30) (show v50_5.toInt ≤ 9 from t31) w43 H.size hT ) (cwV 2 hC.2.2.2.2 uV_RX8_133 rfl rfl rfl (by decide +kernel) ⟨Nat.le_of_ble_eq_true rfl, Nat.le_of_ble_eq_true rfl⟩) rfl hl.1 rfl (Nat.le_of_ble_eq_true rfl) dX8_spread_109 (fun r51 w53 H locs hp52 hw => ?_)
        obtain ⟨hT, k54, hg57⟩ := hp52
        have hF := hF.tr k54 (by decide)
        have c58 := k54.gi hkq1_ (by decide) c48
        have c59 := k54.gi hkq1_ (by decide) c49
        rcases hg57 with rfl | ⟨rfl, c55⟩ | ⟨rfl, c56⟩
        · refine lv_istore (lv' := [(11, .int (-1)), (10, .int r41), (9, .int x37), (0, .ref (ad 151)), (1, .ref (ad q1_)), (2, .int a2), (3, .int a3), (4, .int a4), (5, .int v50_5), (6, .int v50_6), (7, .long v50_7)]) hx hb dX8_spread_112 hl (by decide) rfl (fun ls hl => ?_)
          refine lv_iload hx hb dX8_spread_114 (lv_at hl 0 rfl) ?_
          refine lv_iconst (v := (-1)) hx hb dX8_spread_116 (by decide) ?_
          refine lv_icmp_eq (tgt := 185) hx hb dX8_spread_117 (by decide) (fun _ => ?_) (fun c => absurd (by decide) c)
          exact J185 v50_5 v50_6 v50_7 x37 r41 (-1) x39 H locs ls w53 (show 0 ≤ a2.toInt from r24) (show a2.toInt ≤ 120 from t25) (show 0 ≤ a3.toInt from r26) (show a3.toInt ≤ 19 from t27) (show 0 ≤ a4.toInt from r28) (show a4.toInt ≤ 999999 from t29) (show 0 ≤ v50_5.toInt from r30) (show v50_5.toInt ≤ 9 from t31) (show 0 ≤ v50_6.toInt from r32) (show v50_6.toInt ≤ 1 from t33) (show 0 ≤ v50_7.toInt from r34) (show v50_7.toInt ≤ 2305843009213693952 from t35) (show 0 ≤ x37.toInt by first | with_reducible assumption | omega) (show x37.toInt ≤ 10 by first | with_reducible assumption | omega) (show 0 ≤ r41.toInt by first | with_reducible assumption | omega) (show r41.toInt ≤ 11 by first | with_reducible assumption | omega) (by decide) (by decide) (show 0 ≤ x39.toInt by first | with_reducible assumption | omega) (show x39.toInt ≤ 9 by first | with_reducible assumption | omega)  hw hT hF c59 (lv_sub hl [3, 4, 5, 6, 7, 8, 9, 10, 2, 1, 0] rfl)
        · refine lv_istore (lv' := [(11, .int 0), (10, .int r41), (9, .int x37), (0, .ref (ad 151)), (1, .ref (ad q1_)), (2, .int a2), (3, .int a3), (4, .int a4), (5, .int v50_5), (6, .int v50_6), (7, .long v50_7)]) hx hb dX8_spread_112 hl (by decide) rfl (fun ls hl => ?_)
          refine lv_iload hx hb dX8_spread_114 (lv_at hl 0 rfl) ?_
          refine lv_iconst (v := (-1)) hx hb dX8_spread_116 (by decide) ?_
          refine lv_icmp_eq (tgt := 185) hx hb dX8_spread_117 (by decide) (fun c => absurd c (by decide)) (fun _ => ?_)
          refine lv_aload_n hx hb dX8_spread_120 rfl (lv_at hl 3 rfl) ?_
          refine tk_getA hC hK hw hT hinX8 kC_at151 (by decide) rfl 0 (by decide) (List.mem_cons_of_mem _ uw_5_11) rfl rfl dX8_spread_121 ?_
          refine tk_getO hC hK hw hT hinX5 kC_at38 (by decide) rfl 0 (by decide) (List.mem_cons_of_mem _ uw_56_0) rfl rfl dX8_spread_124 ?_
          refine lv_iload hx hb dX8_spread_127 (lv_at hl 1 rfl) ?_
          refine lv_iload hx hb dX8_spread_129 (lv_at hl 0 rfl) ?_
          refine lv_lload hx hb dX8_spread_131 (lv_at hl 10 rfl) ?_
          refine lv_iconst (v := 1) hx hb dX8_spread_133 (by decide) ?_
          refine tk_Vi hC hK hw hT hA hE hSR kC_at39 (by decide) rfl (k_X7_isOpen_4 l adK adV dC dI cy ad B hB0 (Int.le_trans hB1 (by decide)) qr s1   r41 (show 0 ≤ r41.toInt by first | with_reducible assumption | omega) (show r41.toInt ≤ 11 by first | with_reducible assumption | omega) v50_7 (show 0 ≤ v50_7.toInt from r34) (show v50_7.toInt ≤ 2305843009213693952 from t35) w53 H.size hT ) (cwV 4 hC.2.2.2.2 uV_RX8_137 rfl rfl rfl (by decide +kernel) ⟨Nat.le_of_ble_eq_true rfl, Nat.le_of_ble_eq_true rfl⟩) rfl hl.1 rfl (Nat.le_of_ble_eq_true rfl) dX8_spread_134 (fun r60 w62 H locs hp61 hw => ?_)
          obtain ⟨hT, k63, hg64⟩ := hp61
          have hF := hF.tr k63 (by decide)
          have c65 := k63.gi hkq1_ (by decide) c58
          have c66 := k63.gi hkq1_ (by decide) c59
          have c67 := k63.gi kC_at40 rfl c55
          rcases hg64 with rfl | rfl
          · refine lv_if_eq (tgt := 185) hx hb dX8_spread_137 (by decide) (fun _ => ?_) (fun c => absurd (by decide) c)
            exact J185 v50_5 v50_6 v50_7 x37 r41 0 x39 H locs ls w62 (show 0 ≤ a2.toInt from r24) (show a2.toInt ≤ 120 from t25) (show 0 ≤ a3.toInt from r26) (show a3.toInt ≤ 19 from t27) (show 0 ≤ a4.toInt from r28) (show a4.toInt ≤ 999999 from t29) (show 0 ≤ v50_5.toInt from r30) (show v50_5.toInt ≤ 9 from t31) (show 0 ≤ v50_6.toInt from r32) (show v50_6.toInt ≤ 1 from t33) (show 0 ≤ v50_7.toInt from r34) (show v50_7.toInt ≤ 2305843009213693952 from t35) (show 0 ≤ x37.toInt by first | with_reducible assumption | omega) (show x37.toInt ≤ 10 by first | with_reducible assumption | omega) (show 0 ≤ r41.toInt by first | with_reducible assumption | omega) (show r41.toInt ≤ 11 by first | with_reducible assumption | omega) (by decide) (by decide) (show 0 ≤ x39.toInt by first | with_reducible assumption | omega) (show x39.toInt ≤ 9 by first | with_reducible assumption | omega)  hw hT hF c66 (lv_sub hl [3, 4, 5, 6, 7, 8, 9, 10, 2, 1, 0] rfl)
          · refine lv_if_eq (tgt := 185) hx hb dX8_spread_137 (by decide) (fun c => absurd c (by decide)) (fun _ => ?_)
            refine lv_iconst (v := 2) hx hb dX8_spread_140 (by decide) ?_
            refine lv_aload_n hx hb dX8_spread_141 rfl (lv_at hl 3 rfl) ?_
            refine tk_getA hC hK hw hT hinX8 kC_at151 (by decide) rfl 0 (by decide) (List.mem_cons_of_mem _ uw_5_11) rfl rfl dX8_spread_142 ?_
            refine tk_getO hC hK hw hT hinX5 kC_at38 (by decide) rfl 0 (by decide) (List.mem_cons_of_mem _ uw_56_0) rfl rfl dX8_spread_145 ?_
            refine lv_iload hx hb dX8_spread_148 (lv_at hl 1 rfl) ?_
            refine lv_iload hx hb dX8_spread_150 (lv_at hl 0 rfl) ?_
            refine tk_Vi hC hK hw hT hA hE hSR kC_at39 (by decide) rfl (k_X7_cornerAcross_2 l adK adV dC dI cy ad B hB0 (Int.le_trans hB1 (by decide)) qr s1   r41 (show 0 ≤ r41.toInt by first | with_reducible assumption | omega) (show r41.toInt ≤ 11 by first | with_reducible assumption | omega) w62 H.size hT ) (cwV 2 hC.2.2.2.2 uV_RX8_141 rfl rfl rfl (by decide +kernel) ⟨Nat.le_of_ble_eq_true rfl, Nat.le_of_ble_eq_true rfl⟩) rfl hl.1 rfl (Nat.le_of_ble_eq_true rfl) dX8_spread_152 (fun r68 w70 H locs hp69 hw => ?_)
            obtain ⟨hT, k71, hg74⟩ := hp69
            have hF := hF.tr k71 (by decide)
            have c75 := k71.gi hkq1_ (by decide) c65
            have c76 := k71.gi hkq1_ (by decide) c66
            have c77 := k71.gi kC_at40 rfl c67
            obtain ⟨g72, g73⟩ := hg74
            refine lv_imul hx hb dX8_spread_155 ?_
            refine lv_topi (fun x78 ex78 => ?_)
            have ex78 : x78.toInt = (2 : Int) * r68.toInt := by rw [ex78]; exact wk_mul (show (-2147483648) ≤ (2 : Int) * r68.toInt by omega) (show (2 : Int) * r68.toInt ≤ 2147483647 by omega)
            refine lv_iload hx hb dX8_spread_156 (lv_at hl 9 rfl) ?_
            refine lv_iadd hx hb dX8_spread_158 ?_
            refine lv_topi (fun x79 ex79 => ?_)
            have ex79 : x79.toInt = x78.toInt + v50_6.toInt := by rw [ex79]; exact wk_add (show (-2147483648) ≤ x78.toInt + v50_6.toInt by omega) (show x78.toInt + v50_6.toInt ≤ 2147483647 by omega)
            refine lv_istore (lv' := [(12, .int x79), (11, .int 0), (10, .int r41), (9, .int x37), (0, .ref (ad 151)), (1, .ref (ad q1_)), (2, .int a2), (3, .int a3), (4, .int a4), (5, .int v50_5), (6, .int v50_6), (7, .long v50_7)]) hx hb dX8_spread_159 hl (by decide) rfl (fun ls hl => ?_)
            refine lv_aload_n hx hb dX8_spread_161 rfl (lv_at hl 4 rfl) ?_
            refine lv_lload hx hb dX8_spread_162 (lv_at hl 11 rfl) ?_
            refine lv_iload_n hx hb dX8_spread_164 rfl (lv_at hl 6 rfl) ?_
            refine lv_aload_n hx hb dX8_spread_165 rfl (lv_at hl 4 rfl) ?_
            refine tk_getA hC hK hw hT hinX8 kC_at151 (by decide) rfl 0 (by decide) (List.mem_cons_of_mem _ uw_5_11) rfl rfl dX8_spread_166 ?_
            refine tk_getO hC hK hw hT hinX5 kC_at38 (by decide) rfl 0 (by decide) (List.mem_cons_of_mem _ uw_56_0) rfl rfl dX8_spread_169 ?_
            refine tk_getO hC hK hw hT hinX7 kC_at39 (by decide) rfl 1 (by decide) (List.mem_cons_of_mem _ uw_56_14) rfl rfl dX8_spread_172 ?_
            refine lv_iload hx hb dX8_spread_175 (lv_at hl 2 rfl) ?_
            refine tk_iald hC hK hw hT kC_at41 rfl rfl (show 0 ≤ r41.toInt by first | with_reducible assumption | omega) (show r41.toInt < 13 by first | with_reducible assumption | omega) dX8_spread_177 (fun x80 c81 rx80 tx80 => ?_)
            refine lv_iload hx hb dX8_spread_178 (lv_at hl 0 rfl) ?_
            refine lv_iload hx hb dX8_spread_180 (lv_at hl 8 rfl) ?_
            refine tk_Vv hC hK hw hT hA hE hSR kC_at151 (by decide) rfl (k_X8_note_1 l adK adV dC dI cy ad B hB0 (Int.le_trans hB1 (by decide)) qr s1   v50_7 (show 0 ≤ v50_7.toInt from r34) (show v50_7.toInt ≤ 2305843009213693952 from t35) a2 (show 0 ≤ a2.toInt from r24) (show a2.toInt ≤ 120 from t25) x80 (show 0 ≤ x80.toInt from rx80) (show x80.toInt ≤ 9 from tx80) x79 (show 0 ≤ x79.toInt by first | with_reducible assumption | omega) (show x79.toInt ≤ 18 by first | with_reducible assumption | omega) a4 (show 0 ≤ a4.toInt from r28) (show a4.toInt ≤ 999999 from t29) w70 H.size hT ) (cwV 5 hC.2.2.2.2 uV_RX8_114 rfl rfl rfl (by decide +kernel) ⟨Nat.le_of_ble_eq_true rfl, Nat.le_of_ble_eq_true rfl⟩) rfl hl.1 rfl (Nat.le_of_ble_eq_true rfl) dX8_spread_182 (fun w84 H locs hp83 hw => ?_)
            obtain ⟨hT, k85, hg86⟩ := hp83
            have hF := hF.tr k85 (by decide)
            have c87 := k85.gi hkq1_ (by decide) c75
            have c88 := k85.gi hkq1_ (by decide) c76
            have c89 := k85.gi kC_at40 rfl c77
            clear hg86
            exact J185 v50_5 v50_6 v50_7 x37 r41 0 x39 H locs ls w84 (show 0 ≤ a2.toInt from r24) (show a2.toInt ≤ 120 from t25) (show 0 ≤ a3.toInt from r26) (show a3.toInt ≤ 19 from t27) (show 0 ≤ a4.toInt from r28) (show a4.toInt ≤ 999999 from t29) (show 0 ≤ v50_5.toInt from r30) (show v50_5.toInt ≤ 9 from t31) (show 0 ≤ v50_6.toInt from r32) (show v50_6.toInt ≤ 1 from t33) (show 0 ≤ v50_7.toInt from r34) (show v50_7.toInt ≤ 2305843009213693952 from t35) (show 0 ≤ x37.toInt by first | with_reducible assumption | omega) (show x37.toInt ≤ 10 by first | with_reducible assumption | omega) (show 0 ≤ r41.toInt by first | with_reducible assumption | omega) (show r41.toInt ≤ 11 by first | with_reducible assumption | omega) (by decide) (by decide) (show 0 ≤ x39.toInt by first | with_reducible assumption | omega) (show x39.toInt ≤ 9 by first | with_reducible assumption | omega)  hw hT hF c88 (lv_sub hl [4, 5, 6, 7, 8, 9, 10, 11, 3, 2, 1] rfl)
        · refine lv_istore (lv' := [(11, .int 1), (10, .int r41), (9, .int x37), (0, .ref (ad 151)), (1, .ref (ad q1_)), (2, .int a2), (3, .int a3), (4, .int a4), (5, .int v50_5), (6, .int v50_6), (7, .long v50_7)]) hx hb dX8_spread_112 hl (by decide) rfl (fun ls hl => ?_)
          refine lv_iload hx hb dX8_spread_114 (lv_at hl 0 rfl) ?_
          refine lv_iconst (v := (-1)) hx hb dX8_spread_116 (by decide) ?_
          refine lv_icmp_eq (tgt := 185) hx hb dX8_spread_117 (by decide) (fun c => absurd c (by decide)) (fun _ => ?_)
          refine lv_aload_n hx hb dX8_spread_120 rfl (lv_at hl 3 rfl) ?_
          refine tk_getA hC hK hw hT hinX8 kC_at151 (by decide) rfl 0 (by decide) (List.mem_cons_of_mem _ uw_5_11) rfl rfl dX8_spread_121 ?_
          refine tk_getO hC hK hw hT hinX5 kC_at38 (by decide) rfl 0 (by decide) (List.mem_cons_of_mem _ uw_56_0) rfl rfl dX8_spread_124 ?_
          refine lv_iload hx hb dX8_spread_127 (lv_at hl 1 rfl) ?_
          refine lv_iload hx hb dX8_spread_129 (lv_at hl 0 rfl) ?_
          refine lv_lload hx hb dX8_spread_131 (lv_at hl 10 rfl) ?_
          refine lv_iconst (v := 1) hx hb dX8_spread_133 (by decide) ?_
          refine tk_Vi hC hK hw hT hA hE hSR kC_at39 (by decide) rfl (k_X7_isOpen_6 l adK adV dC dI cy ad B hB0 (Int.le_trans hB1 (by decide)) qr s1   r41 (show 0 ≤ r41.toInt by first | with_reducible assumption | omega) (show r41.toInt ≤ 11 by first | with_reducible assumption | omega) v50_7 (show 0 ≤ v50_7.toInt from r34) (show v50_7.toInt ≤ 2305843009213693952 from t35) w53 H.size hT ) (cwV 4 hC.2.2.2.2 uV_RX8_137 rfl rfl rfl (by decide +kernel) ⟨Nat.le_of_ble_eq_true rfl, Nat.le_of_ble_eq_true rfl⟩) rfl hl.1 rfl (Nat.le_of_ble_eq_true rfl) dX8_spread_134 (fun r90 w92 H locs hp91 hw => ?_)
          obtain ⟨hT, k93, hg94⟩ := hp91
          have hF := hF.tr k93 (by decide)
          have c95 := k93.gi hkq1_ (by decide) c58
          have c96 := k93.gi hkq1_ (by decide) c59
          have c97 := k93.gi kC_at40 rfl c56
          rcases hg94 with rfl | rfl
          · refine lv_if_eq (tgt := 185) hx hb dX8_spread_137 (by decide) (fun _ => ?_) (fun c => absurd (by decide) c)
            exact J185 v50_5 v50_6 v50_7 x37 r41 1 x39 H locs ls w92 (show 0 ≤ a2.toInt from r24) (show a2.toInt ≤ 120 from t25) (show 0 ≤ a3.toInt from r26) (show a3.toInt ≤ 19 from t27) (show 0 ≤ a4.toInt from r28) (show a4.toInt ≤ 999999 from t29) (show 0 ≤ v50_5.toInt from r30) (show v50_5.toInt ≤ 9 from t31) (show 0 ≤ v50_6.toInt from r32) (show v50_6.toInt ≤ 1 from t33) (show 0 ≤ v50_7.toInt from r34) (show v50_7.toInt ≤ 2305843009213693952 from t35) (show 0 ≤ x37.toInt by first | with_reducible assumption | omega) (show x37.toInt ≤ 10 by first | with_reducible assumption | omega) (show 0 ≤ r41.toInt by first | with_reducible assumption | omega) (show r41.toInt ≤ 11 by first | with_reducible assumption | omega) (by decide) (by decide) (show 0 ≤ x39.toInt by first | with_reducible assumption | omega) (show x39.toInt ≤ 9 by first | with_reducible assumption | omega)  hw hT hF c96 (lv_sub hl [3, 4, 5, 6, 7, 8, 9, 10, 2, 1, 0] rfl)
          · refine lv_if_eq (tgt := 185) hx hb dX8_spread_137 (by decide) (fun c => absurd c (by decide)) (fun _ => ?_)
            refine lv_iconst (v := 2) hx hb dX8_spread_140 (by decide) ?_
            refine lv_aload_n hx hb dX8_spread_141 rfl (lv_at hl 3 rfl) ?_
            refine tk_getA hC hK hw hT hinX8 kC_at151 (by decide) rfl 0 (by decide) (List.mem_cons_of_mem _ uw_5_11) rfl rfl dX8_spread_142 ?_
            refine tk_getO hC hK hw hT hinX5 kC_at38 (by decide) rfl 0 (by decide) (List.mem_cons_of_mem _ uw_56_0) rfl rfl dX8_spread_145 ?_
            refine lv_iload hx hb dX8_spread_148 (lv_at hl 1 rfl) ?_
            refine lv_iload hx hb dX8_spread_150 (lv_at hl 0 rfl) ?_
            refine tk_Vi hC hK hw hT hA hE hSR kC_at39 (by decide) rfl (k_X7_cornerAcross_3 l adK adV dC dI cy ad B hB0 (Int.le_trans hB1 (by decide)) qr s1   r41 (show 0 ≤ r41.toInt by first | with_reducible assumption | omega) (show r41.toInt ≤ 11 by first | with_reducible assumption | omega) w92 H.size hT ) (cwV 2 hC.2.2.2.2 uV_RX8_141 rfl rfl rfl (by decide +kernel) ⟨Nat.le_of_ble_eq_true rfl, Nat.le_of_ble_eq_true rfl⟩) rfl hl.1 rfl (Nat.le_of_ble_eq_true rfl) dX8_spread_152 (fun r98 w100 H locs hp99 hw => ?_)
            obtain ⟨hT, k101, hg104⟩ := hp99
            have hF := hF.tr k101 (by decide)
            have c105 := k101.gi hkq1_ (by decide) c95
            have c106 := k101.gi hkq1_ (by decide) c96
            have c107 := k101.gi kC_at40 rfl c97
            obtain ⟨g102, g103⟩ := hg104
            refine lv_imul hx hb dX8_spread_155 ?_
            refine lv_topi (fun x108 ex108 => ?_)
            have ex108 : x108.toInt = (2 : Int) * r98.toInt := by rw [ex108]; exact wk_mul (show (-2147483648) ≤ (2 : Int) * r98.toInt by omega) (show (2 : Int) * r98.toInt ≤ 2147483647 by omega)
            refine lv_iload hx hb dX8_spread_156 (lv_at hl 9 rfl) ?_
            refine lv_iadd hx hb dX8_spread_158 ?_
            refine lv_topi (fun x109 ex109 => ?_)
            have ex109 : x109.toInt = x108.toInt + v50_6.toInt := by rw [ex109]; exact wk_add (show (-2147483648) ≤ x108.toInt + v50_6.toInt by omega) (show x108.toInt + v50_6.toInt ≤ 2147483647 by omega)
            refine lv_istore (lv' := [(12, .int x109), (11, .int 1), (10, .int r41), (9, .int x37), (0, .ref (ad 151)), (1, .ref (ad q1_)), (2, .int a2), (3, .int a3), (4, .int a4), (5, .int v50_5), (6, .int v50_6), (7, .long v50_7)]) hx hb dX8_spread_159 hl (by decide) rfl (fun ls hl => ?_)
            refine lv_aload_n hx hb dX8_spread_161 rfl (lv_at hl 4 rfl) ?_
            refine lv_lload hx hb dX8_spread_162 (lv_at hl 11 rfl) ?_
            refine lv_iload_n hx hb dX8_spread_164 rfl (lv_at hl 6 rfl) ?_
            refine lv_aload_n hx hb dX8_spread_165 rfl (lv_at hl 4 rfl) ?_
            refine tk_getA hC hK hw hT hinX8 kC_at151 (by decide) rfl 0 (by decide) (List.mem_cons_of_mem _ uw_5_11) rfl rfl dX8_spread_166 ?_
            refine tk_getO hC hK hw hT hinX5 kC_at38 (by decide) rfl 0 (by decide) (List.mem_cons_of_mem _ uw_56_0) rfl rfl dX8_spread_169 ?_
            refine tk_getO hC hK hw hT hinX7 kC_at39 (by decide) rfl 1 (by decide) (List.mem_cons_of_mem _ uw_56_14) rfl rfl dX8_spread_172 ?_
            refine lv_iload hx hb dX8_spread_175 (lv_at hl 2 rfl) ?_
            refine tk_iald hC hK hw hT kC_at41 rfl rfl (show 0 ≤ r41.toInt by first | with_reducible assumption | omega) (show r41.toInt < 13 by first | with_reducible assumption | omega) dX8_spread_177 (fun x110 c111 rx110 tx110 => ?_)
            refine lv_iload hx hb dX8_spread_178 (lv_at hl 0 rfl) ?_
            refine lv_iload hx hb dX8_spread_180 (lv_at hl 8 rfl) ?_
            refine tk_Vv hC hK hw hT hA hE hSR kC_at151 (by decide) rfl (k_X8_note_1 l adK adV dC dI cy ad B hB0 (Int.le_trans hB1 (by decide)) qr s1   v50_7 (show 0 ≤ v50_7.toInt from r34) (show v50_7.toInt ≤ 2305843009213693952 from t35) a2 (show 0 ≤ a2.toInt from r24) (show a2.toInt ≤ 120 from t25) x110 (show 0 ≤ x110.toInt from rx110) (show x110.toInt ≤ 9 from tx110) x109 (show 0 ≤ x109.toInt by first | with_reducible assumption | omega) (show x109.toInt ≤ 18 by first | with_reducible assumption | omega) a4 (show 0 ≤ a4.toInt from r28) (show a4.toInt ≤ 999999 from t29) w100 H.size hT ) (cwV 5 hC.2.2.2.2 uV_RX8_114 rfl rfl rfl (by decide +kernel) ⟨Nat.le_of_ble_eq_true rfl, Nat.le_of_ble_eq_true rfl⟩) rfl hl.1 rfl (Nat.le_of_ble_eq_true rfl) dX8_spread_182 (fun w114 H locs hp113 hw => ?_)
            obtain ⟨hT, k115, hg116⟩ := hp113
            have hF := hF.tr k115 (by decide)
            have c117 := k115.gi hkq1_ (by decide) c105
            have c118 := k115.gi hkq1_ (by decide) c106
            have c119 := k115.gi kC_at40 rfl c107
            clear hg116
            exact J185 v50_5 v50_6 v50_7 x37 r41 1 x39 H locs ls w114 (show 0 ≤ a2.toInt from r24) (show a2.toInt ≤ 120 from t25) (show 0 ≤ a3.toInt from r26) (show a3.toInt ≤ 19 from t27) (show 0 ≤ a4.toInt from r28) (show a4.toInt ≤ 999999 from t29) (show 0 ≤ v50_5.toInt from r30) (show v50_5.toInt ≤ 9 from t31) (show 0 ≤ v50_6.toInt from r32) (show v50_6.toInt ≤ 1 from t33) (show 0 ≤ v50_7.toInt from r34) (show v50_7.toInt ≤ 2305843009213693952 from t35) (show 0 ≤ x37.toInt by first | with_reducible assumption | omega) (show x37.toInt ≤ 10 by first | with_reducible assumption | omega) (show 0 ≤ r41.toInt by first | with_reducible assumption | omega) (show r41.toInt ≤ 11 by first | with_reducible assumption | omega) (by decide) (by decide) (show 0 ≤ x39.toInt by first | with_reducible assumption | omega) (show x39.toInt ≤ 9 by first | with_reducible assumption | omega)  hw hT hF c118 (lv_sub hl [4, 5, 6, 7, 8, 9, 10, 11, 3, 2, 1] rfl)
      · have c50 : r41.toInt = (-1 : Int) := wk_eq.mp c50
        exact tk_vret hC hr hlocks hK ⟨hT, hF, trivial⟩ hw dX8_spread_97
    · have c36 : v50_6.toInt = (1 : Int) := wk_eq.mp c36
      refine lv_lload hx hb dX8_spread_56 (lv_at hl 7 rfl) ?_
      refine lv_ldc2 (v := 24) hx hb hC.2.2.2.1 (hC.2.2.2.2 _ (List.mem_cons_of_mem _ uw_56_12)) dX8_spread_58 ?_
      refine lv_ldiv hx hb dX8_spread_61 (by decide) ?_
      refine lv_topl (fun x120 ex120 => ?_)
      have ex120 : x120.toInt = v50_7.toInt / (24 : Int) := by rw [ex120]; exact wk_divl (show 0 ≤ v50_7.toInt from r34) (show 0 < (24 : Int) by decide)
      refine tk_Si hC hK hw hT hA hE hSR (k_X0_ofWeekday_1 l adK adV dC dI cy ad B hB0 (Int.le_trans hB1 (by decide)) qr s1   x120 (show 0 ≤ x120.toInt by first | with_reducible assumption | omega) (show x120.toInt ≤ 96076792050570581 by first | with_reducible assumption | omega) w23 H.size hT ) (va_cwS 1 hC.2.2.2.2 uS_RX8_120 rfl rfl rfl (by decide +kernel) ⟨Nat.le_of_ble_eq_true rfl, Nat.le_of_ble_eq_true rfl⟩) rfl hl.1 rfl (Nat.le_of_ble_eq_true rfl) dX8_spread_62 (fun r121 w123 H locs hp122 hw => ?_)
      obtain ⟨hT, k124, hg127⟩ := hp122
      have hF := hF.tr k124 (by decide)
      obtain ⟨g125, g126⟩ := hg127
      refine lv_goto (tgt := 72) hx hb dX8_spread_65 (by decide) ?_
      refine lv_istore (lv' := [(9, .int r121), (0, .ref (ad 151)), (1, .ref (ad q1_)), (2, .int a2), (3, .int a3), (4, .int a4), (5, .int v50_5), (6, .int v50_6), (7, .long v50_7)]) hx hb dX8_spread_72 hl (by decide) rfl (fun ls hl => ?_)
      refine lv_aload_n hx hb dX8_spread_74 rfl (lv_at hl 1 rfl) ?_
      refine tk_getA hC hK hw hT hinX8 kC_at151 (by decide) rfl 1 (by decide) (List.mem_cons_of_mem _ uw_5_12) rfl rfl dX8_spread_75 ?_
      refine lv_iload hx hb dX8_spread_78 (lv_at hl 0 rfl) ?_
      refine lv_iload hx hb dX8_spread_80 (lv_at hl 6 rfl) ?_
      refine lv_aload_n hx hb dX8_spread_82 rfl (lv_at hl 2 rfl) ?_
      refine tk_geti hC hK hw hT hinX9 hkq1_ (by decide) rfl 1 (by decide) (List.mem_cons_of_mem _ uw_56_2) rfl rfl dX8_spread_83 (fun x128 c129 rx128 tx128 => ?_)
      refine tk_Vi hC hK hw hT hA hE hSR kC_at145 (by decide) rfl (k_X0_streetBy_2 l adK adV dC dI cy ad B hB0 (Int.le_trans hB1 (by decide)) qr s1   r121 (show 4 ≤ r121.toInt by first | with_reducible assumption | omega) (show r121.toInt ≤ 10 by first | with_reducible assumption | omega) v50_5 (show 0 ≤ v50_5.toInt from r30) (show v50_5.toInt ≤ 9 from t31) x128 (show 0 ≤ x128.toInt by first | with_reducible assumption | omega) (show x128.toInt ≤ 9 by first | with_reducible assumption | omega) w123 H.size hT ) (cwV 3 hC.2.2.2.2 uV_RX8_129 rfl rfl rfl (by decide +kernel) ⟨Nat.le_of_ble_eq_true rfl, Nat.le_of_ble_eq_true rfl⟩) rfl hl.1 rfl (Nat.le_of_ble_eq_true rfl) dX8_spread_86 (fun r130 w132 H locs hp131 hw => ?_)
      obtain ⟨hT, k133, hg136⟩ := hp131
      have hF := hF.tr k133 (by decide)
      have c137 := k133.gi hkq1_ (by decide) c129
      obtain ⟨g134, g135⟩ := hg136
      refine lv_istore (lv' := [(10, .int r130), (9, .int r121), (0, .ref (ad 151)), (1, .ref (ad q1_)), (2, .int a2), (3, .int a3), (4, .int a4), (5, .int v50_5), (6, .int v50_6), (7, .long v50_7)]) hx hb dX8_spread_89 hl (by decide) rfl (fun ls hl => ?_)
      refine lv_iload hx hb dX8_spread_91 (lv_at hl 0 rfl) ?_
      refine lv_iconst (v := (-1)) hx hb dX8_spread_93 (by decide) ?_
      refine lv_icmp_ne (tgt := 98) hx hb dX8_spread_94 (by decide) (fun c138 => ?_) (fun c138 => ?_)
      · have c138 : ¬ r130.toInt = (-1 : Int) := wk_eqF c138
        refine lv_aload_n hx hb dX8_spread_98 rfl (lv_at hl 2 rfl) ?_
        refine tk_getA hC hK hw hT hinX8 kC_at151 (by decide) rfl 0 (by decide) (List.mem_cons_of_mem _ uw_5_11) rfl rfl dX8_spread_99 ?_
        refine tk_getO hC hK hw hT hinX5 kC_at38 (by decide) rfl 0 (by decide) (List.mem_cons_of_mem _ uw_56_0) rfl rfl dX8_spread_102 ?_
        refine lv_iload hx hb dX8_spread_105 (lv_at hl 0 rfl) ?_
        refine lv_iload hx hb dX8_spread_107 (lv_at hl 7 rfl) ?_
        refine tk_Vi hC hK hw hT hA hE hSR kC_at39 (by decide) rfl (k_X7_sideOf_2 l adK adV dC dI cy ad B hB0 (Int.le_trans hB1 (by decide)) qr s1   r130 (show 0 ≤ r130.toInt by first | with_reducible assumption | omega) (show r130.toInt ≤ 11 by first | with_reducible assumption | omega) v50_5 (show 0 ≤ v50_5.toInt from r30) (show v50_5.toInt ≤ 9 from t31) w132 H.size hT ) (cwV 2 hC.2.2.2.2 uV_RX8_133 rfl rfl rfl (by decide +kernel) ⟨Nat.le_of_ble_eq_true rfl, Nat.le_of_ble_eq_true rfl⟩) rfl hl.1 rfl (Nat.le_of_ble_eq_true rfl) dX8_spread_109 (fun r139 w141 H locs hp140 hw => ?_)
        obtain ⟨hT, k142, hg145⟩ := hp140
        have hF := hF.tr k142 (by decide)
        have c146 := k142.gi hkq1_ (by decide) c137
        rcases hg145 with rfl | ⟨rfl, c143⟩ | ⟨rfl, c144⟩
        · refine lv_istore (lv' := [(11, .int (-1)), (10, .int r130), (9, .int r121), (0, .ref (ad 151)), (1, .ref (ad q1_)), (2, .int a2), (3, .int a3), (4, .int a4), (5, .int v50_5), (6, .int v50_6), (7, .long v50_7)]) hx hb dX8_spread_112 hl (by decide) rfl (fun ls hl => ?_)
          refine lv_iload hx hb dX8_spread_114 (lv_at hl 0 rfl) ?_
          refine lv_iconst (v := (-1)) hx hb dX8_spread_116 (by decide) ?_
          refine lv_icmp_eq (tgt := 185) hx hb dX8_spread_117 (by decide) (fun _ => ?_) (fun c => absurd (by decide) c)
          exact J185 v50_5 v50_6 v50_7 r121 r130 (-1) x128 H locs ls w141 (show 0 ≤ a2.toInt from r24) (show a2.toInt ≤ 120 from t25) (show 0 ≤ a3.toInt from r26) (show a3.toInt ≤ 19 from t27) (show 0 ≤ a4.toInt from r28) (show a4.toInt ≤ 999999 from t29) (show 0 ≤ v50_5.toInt from r30) (show v50_5.toInt ≤ 9 from t31) (show 0 ≤ v50_6.toInt from r32) (show v50_6.toInt ≤ 1 from t33) (show 0 ≤ v50_7.toInt from r34) (show v50_7.toInt ≤ 2305843009213693952 from t35) (show 0 ≤ r121.toInt by first | with_reducible assumption | omega) (show r121.toInt ≤ 10 by first | with_reducible assumption | omega) (show 0 ≤ r130.toInt by first | with_reducible assumption | omega) (show r130.toInt ≤ 11 by first | with_reducible assumption | omega) (by decide) (by decide) (show 0 ≤ x128.toInt by first | with_reducible assumption | omega) (show x128.toInt ≤ 9 by first | with_reducible assumption | omega)  hw hT hF c146 (lv_sub hl [3, 4, 5, 6, 7, 8, 9, 10, 2, 1, 0] rfl)
        · refine lv_istore (lv' := [(11, .int 0), (10, .int r130), (9, .int r121), (0, .ref (ad 151)), (1, .ref (ad q1_)), (2, .int a2), (3, .int a3), (4, .int a4), (5, .int v50_5), (6, .int v50_6), (7, .long v50_7)]) hx hb dX8_spread_112 hl (by decide) rfl (fun ls hl => ?_)
          refine lv_iload hx hb dX8_spread_114 (lv_at hl 0 rfl) ?_
          refine lv_iconst (v := (-1)) hx hb dX8_spread_116 (by decide) ?_
          refine lv_icmp_eq (tgt := 185) hx hb dX8_spread_117 (by decide) (fun c => absurd c (by decide)) (fun _ => ?_)
          refine lv_aload_n hx hb dX8_spread_120 rfl (lv_at hl 3 rfl) ?_
          refine tk_getA hC hK hw hT hinX8 kC_at151 (by decide) rfl 0 (by decide) (List.mem_cons_of_mem _ uw_5_11) rfl rfl dX8_spread_121 ?_
          refine tk_getO hC hK hw hT hinX5 kC_at38 (by decide) rfl 0 (by decide) (List.mem_cons_of_mem _ uw_56_0) rfl rfl dX8_spread_124 ?_
          refine lv_iload hx hb dX8_spread_127 (lv_at hl 1 rfl) ?_
          refine lv_iload hx hb dX8_spread_129 (lv_at hl 0 rfl) ?_
          refine lv_lload hx hb dX8_spread_131 (lv_at hl 10 rfl) ?_
          refine lv_iconst (v := 1) hx hb dX8_spread_133 (by decide) ?_
          refine tk_Vi hC hK hw hT hA hE hSR kC_at39 (by decide) rfl (k_X7_isOpen_4 l adK adV dC dI cy ad B hB0 (Int.le_trans hB1 (by decide)) qr s1   r130 (show 0 ≤ r130.toInt by first | with_reducible assumption | omega) (show r130.toInt ≤ 11 by first | with_reducible assumption | omega) v50_7 (show 0 ≤ v50_7.toInt from r34) (show v50_7.toInt ≤ 2305843009213693952 from t35) w141 H.size hT ) (cwV 4 hC.2.2.2.2 uV_RX8_137 rfl rfl rfl (by decide +kernel) ⟨Nat.le_of_ble_eq_true rfl, Nat.le_of_ble_eq_true rfl⟩) rfl hl.1 rfl (Nat.le_of_ble_eq_true rfl) dX8_spread_134 (fun r147 w149 H locs hp148 hw => ?_)
          obtain ⟨hT, k150, hg151⟩ := hp148
          have hF := hF.tr k150 (by decide)
          have c152 := k150.gi hkq1_ (by decide) c146
          have c153 := k150.gi kC_at40 rfl c143
          rcases hg151 with rfl | rfl
          · refine lv_if_eq (tgt := 185) hx hb dX8_spread_137 (by decide) (fun _ => ?_) (fun c => absurd (by decide) c)
            exact J185 v50_5 v50_6 v50_7 r121 r130 0 x128 H locs ls w149 (show 0 ≤ a2.toInt from r24) (show a2.toInt ≤ 120 from t25) (show 0 ≤ a3.toInt from r26) (show a3.toInt ≤ 19 from t27) (show 0 ≤ a4.toInt from r28) (show a4.toInt ≤ 999999 from t29) (show 0 ≤ v50_5.toInt from r30) (show v50_5.toInt ≤ 9 from t31) (show 0 ≤ v50_6.toInt from r32) (show v50_6.toInt ≤ 1 from t33) (show 0 ≤ v50_7.toInt from r34) (show v50_7.toInt ≤ 2305843009213693952 from t35) (show 0 ≤ r121.toInt by first | with_reducible assumption | omega) (show r121.toInt ≤ 10 by first | with_reducible assumption | omega) (show 0 ≤ r130.toInt by first | with_reducible assumption | omega) (show r130.toInt ≤ 11 by first | with_reducible assumption | omega) (by decide) (by decide) (show 0 ≤ x128.toInt by first | with_reducible assumption | omega) (show x128.toInt ≤ 9 by first | with_reducible assumption | omega)  hw hT hF c152 (lv_sub hl [3, 4, 5, 6, 7, 8, 9, 10, 2, 1, 0] rfl)
          · refine lv_if_eq (tgt := 185) hx hb dX8_spread_137 (by decide) (fun c => absurd c (by decide)) (fun _ => ?_)
            refine lv_iconst (v := 2) hx hb dX8_spread_140 (by decide) ?_
            refine lv_aload_n hx hb dX8_spread_141 rfl (lv_at hl 3 rfl) ?_
            refine tk_getA hC hK hw hT hinX8 kC_at151 (by decide) rfl 0 (by decide) (List.mem_cons_of_mem _ uw_5_11) rfl rfl dX8_spread_142 ?_
            refine tk_getO hC hK hw hT hinX5 kC_at38 (by decide) rfl 0 (by decide) (List.mem_cons_of_mem _ uw_56_0) rfl rfl dX8_spread_145 ?_
            refine lv_iload hx hb dX8_spread_148 (lv_at hl 1 rfl) ?_
            refine lv_iload hx hb dX8_spread_150 (lv_at hl 0 rfl) ?_
            refine tk_Vi hC hK hw hT hA hE hSR kC_at39 (by decide) rfl (k_X7_cornerAcross_2 l adK adV dC dI cy ad B hB0 (Int.le_trans hB1 (by decide)) qr s1   r130 (show 0 ≤ r130.toInt by first | with_reducible assumption | omega) (show r130.toInt ≤ 11 by first | with_reducible assumption | omega) w149 H.size hT ) (cwV 2 hC.2.2.2.2 uV_RX8_141 rfl rfl rfl (by decide +kernel) ⟨Nat.le_of_ble_eq_true rfl, Nat.le_of_ble_eq_true rfl⟩) rfl hl.1 rfl (Nat.le_of_ble_eq_true rfl) dX8_spread_152 (fun r154 w156 H locs hp155 hw => ?_)
            obtain ⟨hT, k157, hg160⟩ := hp155
            have hF := hF.tr k157 (by decide)
            have c161 := k157.gi hkq1_ (by decide) c152
            have c162 := k157.gi kC_at40 rfl c153
            obtain ⟨g158, g159⟩ := hg160
            refine lv_imul hx hb dX8_spread_155 ?_
            refine lv_topi (fun x163 ex163 => ?_)
            have ex163 : x163.toInt = (2 : Int) * r154.toInt := by rw [ex163]; exact wk_mul (show (-2147483648) ≤ (2 : Int) * r154.toInt by omega) (show (2 : Int) * r154.toInt ≤ 2147483647 by omega)
            refine lv_iload hx hb dX8_spread_156 (lv_at hl 9 rfl) ?_
            refine lv_iadd hx hb dX8_spread_158 ?_
            refine lv_topi (fun x164 ex164 => ?_)
            have ex164 : x164.toInt = x163.toInt + v50_6.toInt := by rw [ex164]; exact wk_add (show (-2147483648) ≤ x163.toInt + v50_6.toInt by omega) (show x163.toInt + v50_6.toInt ≤ 2147483647 by omega)
            refine lv_istore (lv' := [(12, .int x164), (11, .int 0), (10, .int r130), (9, .int r121), (0, .ref (ad 151)), (1, .ref (ad q1_)), (2, .int a2), (3, .int a3), (4, .int a4), (5, .int v50_5), (6, .int v50_6), (7, .long v50_7)]) hx hb dX8_spread_159 hl (by decide) rfl (fun ls hl => ?_)
            refine lv_aload_n hx hb dX8_spread_161 rfl (lv_at hl 4 rfl) ?_
            refine lv_lload hx hb dX8_spread_162 (lv_at hl 11 rfl) ?_
            refine lv_iload_n hx hb dX8_spread_164 rfl (lv_at hl 6 rfl) ?_
            refine lv_aload_n hx hb dX8_spread_165 rfl (lv_at hl 4 rfl) ?_
            refine tk_getA hC hK hw hT hinX8 kC_at151 (by decide) rfl 0 (by decide) (List.mem_cons_of_mem _ uw_5_11) rfl rfl dX8_spread_166 ?_
            refine tk_getO hC hK hw hT hinX5 kC_at38 (by decide) rfl 0 (by decide) (List.mem_cons_of_mem _ uw_56_0) rfl rfl dX8_spread_169 ?_
            refine tk_getO hC hK hw hT hinX7 kC_at39 (by decide) rfl 1 (by decide) (List.mem_cons_of_mem _ uw_56_14) rfl rfl dX8_spread_172 ?_
            refine lv_iload hx hb dX8_spread_175 (lv_at hl 2 rfl) ?_
            refine tk_iald hC hK hw hT kC_at41 rfl rfl (show 0 ≤ r130.toInt by first | with_reducible assumption | omega) (show r130.toInt < 13 by first | with_reducible assumption | omega) dX8_spread_177 (fun x165 c166 rx165 tx165 => ?_)
            refine lv_iload hx hb dX8_spread_178 (lv_at hl 0 rfl) ?_
            refine lv_iload hx hb dX8_spread_180 (lv_at hl 8 rfl) ?_
            refine tk_Vv hC hK hw hT hA hE hSR kC_at151 (by decide) rfl (k_X8_note_2 l adK adV dC dI cy ad B hB0 (Int.le_trans hB1 (by decide)) qr s1   v50_7 (show 0 ≤ v50_7.toInt from r34) (show v50_7.toInt ≤ 2305843009213693952 from t35) a2 (show 0 ≤ a2.toInt from r24) (show a2.toInt ≤ 120 from t25) x165 (show 0 ≤ x165.toInt from rx165) (show x165.toInt ≤ 9 from tx165) x164 (show 1 ≤ x164.toInt by first | with_reducible assumption | omega) (show x164.toInt ≤ 19 by first | with_reducible assumption | omega) a4 (show 0 ≤ a4.toInt from r28) (show a4.toInt ≤ 999999 from t29) w156 H.size hT ) (cwV 5 hC.2.2.2.2 uV_RX8_114 rfl rfl rfl (by decide +kernel) ⟨Nat.le_of_ble_eq_true rfl, Nat.le_of_ble_eq_true rfl⟩) rfl hl.1 rfl (Nat.le_of_ble_eq_true rfl) dX8_spread_182 (fun w169 H locs hp168 hw => ?_)
            obtain ⟨hT, k170, hg171⟩ := hp168
            have hF := hF.tr k170 (by decide)
            have c172 := k170.gi hkq1_ (by decide) c161
            have c173 := k170.gi kC_at40 rfl c162
            clear hg171
            exact J185 v50_5 v50_6 v50_7 r121 r130 0 x128 H locs ls w169 (show 0 ≤ a2.toInt from r24) (show a2.toInt ≤ 120 from t25) (show 0 ≤ a3.toInt from r26) (show a3.toInt ≤ 19 from t27) (show 0 ≤ a4.toInt from r28) (show a4.toInt ≤ 999999 from t29) (show 0 ≤ v50_5.toInt from r30) (show v50_5.toInt ≤ 9 from t31) (show 0 ≤ v50_6.toInt from r32) (show v50_6.toInt ≤ 1 from t33) (show 0 ≤ v50_7.toInt from r34) (show v50_7.toInt ≤ 2305843009213693952 from t35) (show 0 ≤ r121.toInt by first | with_reducible assumption | omega) (show r121.toInt ≤ 10 by first | with_reducible assumption | omega) (show 0 ≤ r130.toInt by first | with_reducible assumption | omega) (show r130.toInt ≤ 11 by first | with_reducible assumption | omega) (by decide) (by decide) (show 0 ≤ x128.toInt by first | with_reducible assumption | omega) (show x128.toInt ≤ 9 by first | with_reducible assumption | omega)  hw hT hF c172 (lv_sub hl [4, 5, 6, 7, 8, 9, 10, 11, 3, 2, 1] rfl)
        · refine lv_istore (lv' := [(11, .int 1), (10, .int r130), (9, .int r121), (0, .ref (ad 151)), (1, .ref (ad q1_)), (2, .int a2), (3, .int a3), (4, .int a4), (5, .int v50_5), (6, .int v50_6), (7, .long v50_7)]) hx hb dX8_spread_112 hl (by decide) rfl (fun ls hl => ?_)
          refine lv_iload hx hb dX8_spread_114 (lv_at hl 0 rfl) ?_
          refine lv_iconst (v := (-1)) hx hb dX8_spread_116 (by decide) ?_
          refine lv_icmp_eq (tgt := 185) hx hb dX8_spread_117 (by decide) (fun c => absurd c (by decide)) (fun _ => ?_)
          refine lv_aload_n hx hb dX8_spread_120 rfl (lv_at hl 3 rfl) ?_
          refine tk_getA hC hK hw hT hinX8 kC_at151 (by decide) rfl 0 (by decide) (List.mem_cons_of_mem _ uw_5_11) rfl rfl dX8_spread_121 ?_
          refine tk_getO hC hK hw hT hinX5 kC_at38 (by decide) rfl 0 (by decide) (List.mem_cons_of_mem _ uw_56_0) rfl rfl dX8_spread_124 ?_
          refine lv_iload hx hb dX8_spread_127 (lv_at hl 1 rfl) ?_
          refine lv_iload hx hb dX8_spread_129 (lv_at hl 0 rfl) ?_
          refine lv_lload hx hb dX8_spread_131 (lv_at hl 10 rfl) ?_
          refine lv_iconst (v := 1) hx hb dX8_spread_133 (by decide) ?_
          refine tk_Vi hC hK hw hT hA hE hSR kC_at39 (by decide) rfl (k_X7_isOpen_6 l adK adV dC dI cy ad B hB0 (Int.le_trans hB1 (by decide)) qr s1   r130 (show 0 ≤ r130.toInt by first | with_reducible assumption | omega) (show r130.toInt ≤ 11 by first | with_reducible assumption | omega) v50_7 (show 0 ≤ v50_7.toInt from r34) (show v50_7.toInt ≤ 2305843009213693952 from t35) w141 H.size hT ) (cwV 4 hC.2.2.2.2 uV_RX8_137 rfl rfl rfl (by decide +kernel) ⟨Nat.le_of_ble_eq_true rfl, Nat.le_of_ble_eq_true rfl⟩) rfl hl.1 rfl (Nat.le_of_ble_eq_true rfl) dX8_spread_134 (fun r174 w176 H locs hp175 hw => ?_)
          obtain ⟨hT, k177, hg178⟩ := hp175
          have hF := hF.tr k177 (by decide)
          have c179 := k177.gi hkq1_ (by decide) c146
          have c180 := k177.gi kC_at40 rfl c144
          rcases hg178 with rfl | rfl
          · refine lv_if_eq (tgt := 185) hx hb dX8_spread_137 (by decide) (fun _ => ?_) (fun c => absurd (by decide) c)
            exact J185 v50_5 v50_6 v50_7 r121 r130 1 x128 H locs ls w176 (show 0 ≤ a2.toInt from r24) (show a2.toInt ≤ 120 from t25) (show 0 ≤ a3.toInt from r26) (show a3.toInt ≤ 19 from t27) (show 0 ≤ a4.toInt from r28) (show a4.toInt ≤ 999999 from t29) (show 0 ≤ v50_5.toInt from r30) (show v50_5.toInt ≤ 9 from t31) (show 0 ≤ v50_6.toInt from r32) (show v50_6.toInt ≤ 1 from t33) (show 0 ≤ v50_7.toInt from r34) (show v50_7.toInt ≤ 2305843009213693952 from t35) (show 0 ≤ r121.toInt by first | with_reducible assumption | omega) (show r121.toInt ≤ 10 by first | with_reducible assumption | omega) (show 0 ≤ r130.toInt by first | with_reducible assumption | omega) (show r130.toInt ≤ 11 by first | with_reducible assumption | omega) (by decide) (by decide) (show 0 ≤ x128.toInt by first | with_reducible assumption | omega) (show x128.toInt ≤ 9 by first | with_reducible assumption | omega)  hw hT hF c179 (lv_sub hl [3, 4, 5, 6, 7, 8, 9, 10, 2, 1, 0] rfl)
          · refine lv_if_eq (tgt := 185) hx hb dX8_spread_137 (by decide) (fun c => absurd c (by decide)) (fun _ => ?_)
            refine lv_iconst (v := 2) hx hb dX8_spread_140 (by decide) ?_
            refine lv_aload_n hx hb dX8_spread_141 rfl (lv_at hl 3 rfl) ?_
            refine tk_getA hC hK hw hT hinX8 kC_at151 (by decide) rfl 0 (by decide) (List.mem_cons_of_mem _ uw_5_11) rfl rfl dX8_spread_142 ?_
            refine tk_getO hC hK hw hT hinX5 kC_at38 (by decide) rfl 0 (by decide) (List.mem_cons_of_mem _ uw_56_0) rfl rfl dX8_spread_145 ?_
            refine lv_iload hx hb dX8_spread_148 (lv_at hl 1 rfl) ?_
            refine lv_iload hx hb dX8_spread_150 (lv_at hl 0 rfl) ?_
            refine tk_Vi hC hK hw hT hA hE hSR kC_at39 (by decide) rfl (k_X7_cornerAcross_3 l adK adV dC dI cy ad B hB0 (Int.le_trans hB1 (by decide)) qr s1   r130 (show 0 ≤ r130.toInt by first | with_reducible assumption | omega) (show r130.toInt ≤ 11 by first | with_reducible assumption | omega) w176 H.size hT ) (cwV 2 hC.2.2.2.2 uV_RX8_141 rfl rfl rfl (by decide +kernel) ⟨Nat.le_of_ble_eq_true rfl, Nat.le_of_ble_eq_true rfl⟩) rfl hl.1 rfl (Nat.le_of_ble_eq_true rfl) dX8_spread_152 (fun r181 w183 H locs hp182 hw => ?_)
            obtain ⟨hT, k184, hg187⟩ := hp182
            have hF := hF.tr k184 (by decide)
            have c188 := k184.gi hkq1_ (by decide) c179
            have c189 := k184.gi kC_at40 rfl c180
            obtain ⟨g185, g186⟩ := hg187
            refine lv_imul hx hb dX8_spread_155 ?_
            refine lv_topi (fun x190 ex190 => ?_)
            have ex190 : x190.toInt = (2 : Int) * r181.toInt := by rw [ex190]; exact wk_mul (show (-2147483648) ≤ (2 : Int) * r181.toInt by omega) (show (2 : Int) * r181.toInt ≤ 2147483647 by omega)
            refine lv_iload hx hb dX8_spread_156 (lv_at hl 9 rfl) ?_
            refine lv_iadd hx hb dX8_spread_158 ?_
            refine lv_topi (fun x191 ex191 => ?_)
            have ex191 : x191.toInt = x190.toInt + v50_6.toInt := by rw [ex191]; exact wk_add (show (-2147483648) ≤ x190.toInt + v50_6.toInt by omega) (show x190.toInt + v50_6.toInt ≤ 2147483647 by omega)
            refine lv_istore (lv' := [(12, .int x191), (11, .int 1), (10, .int r130), (9, .int r121), (0, .ref (ad 151)), (1, .ref (ad q1_)), (2, .int a2), (3, .int a3), (4, .int a4), (5, .int v50_5), (6, .int v50_6), (7, .long v50_7)]) hx hb dX8_spread_159 hl (by decide) rfl (fun ls hl => ?_)
            refine lv_aload_n hx hb dX8_spread_161 rfl (lv_at hl 4 rfl) ?_
            refine lv_lload hx hb dX8_spread_162 (lv_at hl 11 rfl) ?_
            refine lv_iload_n hx hb dX8_spread_164 rfl (lv_at hl 6 rfl) ?_
            refine lv_aload_n hx hb dX8_spread_165 rfl (lv_at hl 4 rfl) ?_
            refine tk_getA hC hK hw hT hinX8 kC_at151 (by decide) rfl 0 (by decide) (List.mem_cons_of_mem _ uw_5_11) rfl rfl dX8_spread_166 ?_
            refine tk_getO hC hK hw hT hinX5 kC_at38 (by decide) rfl 0 (by decide) (List.mem_cons_of_mem _ uw_56_0) rfl rfl dX8_spread_169 ?_
            refine tk_getO hC hK hw hT hinX7 kC_at39 (by decide) rfl 1 (by decide) (List.mem_cons_of_mem _ uw_56_14) rfl rfl dX8_spread_172 ?_
            refine lv_iload hx hb dX8_spread_175 (lv_at hl 2 rfl) ?_
            refine tk_iald hC hK hw hT kC_at41 rfl rfl (show 0 ≤ r130.toInt by first | with_reducible assumption | omega) (show r130.toInt < 13 by first | with_reducible assumption | omega) dX8_spread_177 (fun x192 c193 rx192 tx192 => ?_)
            refine lv_iload hx hb dX8_spread_178 (lv_at hl 0 rfl) ?_
            refine lv_iload hx hb dX8_spread_180 (lv_at hl 8 rfl) ?_
            refine tk_Vv hC hK hw hT hA hE hSR kC_at151 (by decide) rfl (k_X8_note_2 l adK adV dC dI cy ad B hB0 (Int.le_trans hB1 (by decide)) qr s1   v50_7 (show 0 ≤ v50_7.toInt from r34) (show v50_7.toInt ≤ 2305843009213693952 from t35) a2 (show 0 ≤ a2.toInt from r24) (show a2.toInt ≤ 120 from t25) x192 (show 0 ≤ x192.toInt from rx192) (show x192.toInt ≤ 9 from tx192) x191 (show 1 ≤ x191.toInt by first | with_reducible assumption | omega) (show x191.toInt ≤ 19 by first | with_reducible assumption | omega) a4 (show 0 ≤ a4.toInt from r28) (show a4.toInt ≤ 999999 from t29) w183 H.size hT ) (cwV 5 hC.2.2.2.2 uV_RX8_114 rfl rfl rfl (by decide +kernel) ⟨Nat.le_of_ble_eq_true rfl, Nat.le_of_ble_eq_true rfl⟩) rfl hl.1 rfl (Nat.le_of_ble_eq_true rfl) dX8_spread_182 (fun w196 H locs hp195 hw => ?_)
            obtain ⟨hT, k197, hg198⟩ := hp195
            have hF := hF.tr k197 (by decide)
            have c199 := k197.gi hkq1_ (by decide) c188
            have c200 := k197.gi kC_at40 rfl c189
            clear hg198
            exact J185 v50_5 v50_6 v50_7 r121 r130 1 x128 H locs ls w196 (show 0 ≤ a2.toInt from r24) (show a2.toInt ≤ 120 from t25) (show 0 ≤ a3.toInt from r26) (show a3.toInt ≤ 19 from t27) (show 0 ≤ a4.toInt from r28) (show a4.toInt ≤ 999999 from t29) (show 0 ≤ v50_5.toInt from r30) (show v50_5.toInt ≤ 9 from t31) (show 0 ≤ v50_6.toInt from r32) (show v50_6.toInt ≤ 1 from t33) (show 0 ≤ v50_7.toInt from r34) (show v50_7.toInt ≤ 2305843009213693952 from t35) (show 0 ≤ r121.toInt by first | with_reducible assumption | omega) (show r121.toInt ≤ 10 by first | with_reducible assumption | omega) (show 0 ≤ r130.toInt by first | with_reducible assumption | omega) (show r130.toInt ≤ 11 by first | with_reducible assumption | omega) (by decide) (by decide) (show 0 ≤ x128.toInt by first | with_reducible assumption | omega) (show x128.toInt ≤ 9 by first | with_reducible assumption | omega)  hw hT hF c199 (lv_sub hl [4, 5, 6, 7, 8, 9, 10, 11, 3, 2, 1] rfl)
      · have c138 : r130.toInt = (-1 : Int) := wk_eq.mp c138
        exact tk_vret hC hr hlocks hK ⟨hT, hF, trivial⟩ hw dX8_spread_97
  refine lv_iload_n hx hb dX8_spread_0 rfl (lv_at hl 3 rfl) ?_
  refine lv_iconst (v := 2) hx hb dX8_spread_1 (by decide) ?_
  refine lv_idiv hx hb dX8_spread_2 (by decide) ?_
  refine lv_topi (fun x201 ex201 => ?_)
  have ex201 : x201.toInt = a3.toInt / (2 : Int) := by rw [ex201]; exact wk_div (show 0 ≤ a3.toInt from ra3) (show 0 < (2 : Int) by decide)
  refine lv_istore (lv' := [(5, .int x201), (0, .ref (ad 151)), (1, .ref (ad q1_)), (2, .int a2), (3, .int a3), (4, .int a4)]) hx hb dX8_spread_3 hl (by decide) rfl (fun ls hl => ?_)
  refine lv_iload_n hx hb dX8_spread_5 rfl (lv_at hl 4 rfl) ?_
  refine lv_iconst (v := 2) hx hb dX8_spread_6 (by decide) ?_
  refine lv_irem hx hb dX8_spread_7 (by decide) ?_
  refine lv_topi (fun x202 ex202 => ?_)
  have ex202 : x202.toInt = a3.toInt % (2 : Int) := by rw [ex202]; exact wk_rem (show 0 ≤ a3.toInt from ra3) (show 0 < (2 : Int) by decide)
  refine lv_istore (lv' := [(6, .int x202), (5, .int x201), (0, .ref (ad 151)), (1, .ref (ad q1_)), (2, .int a2), (3, .int a3), (4, .int a4)]) hx hb dX8_spread_8 hl (by decide) rfl (fun ls hl => ?_)
  refine lv_aload_n hx hb dX8_spread_10 rfl (lv_at hl 3 rfl) ?_
  refine tk_getB hC hK hw hT hinX9 hkq1_ (by decide) rfl 4 (by decide) (List.mem_cons_of_mem _ uw_53_10) rfl rfl dX8_spread_11 (fun x203 c204 rx203 tx203 => ?_)
  refine lv_iload_n hx hb dX8_spread_14 rfl (lv_at hl 4 rfl) ?_
  refine lv_i2l hx hb dX8_spread_15 rfl ?_
  refine lv_topl (fun x205 ex205 => ?_)
  have ex205 : x205.toInt = a2.toInt := by rw [ex205]; exact wk_i2l _
  have bx205 := wk_i32 a2
  refine lv_ladd hx hb dX8_spread_16 ?_
  refine lv_topl (fun x206 ex206 => ?_)
  have ex206 : x206.toInt = x203.toInt + x205.toInt := by rw [ex206]; exact wk_addl (show (-9223372036854775808) ≤ x203.toInt + x205.toInt by omega) (show x203.toInt + x205.toInt ≤ 9223372036854775807 by omega)
  refine lv_lstore (lv' := [(7, .long x206), (6, .int x202), (5, .int x201), (0, .ref (ad 151)), (1, .ref (ad q1_)), (2, .int a2), (3, .int a3), (4, .int a4)]) hx hb dX8_spread_17 hl (by decide) rfl (fun ls hl => ?_)
  refine lv_aload_n hx hb dX8_spread_19 rfl (lv_at hl 3 rfl) ?_
  refine lv_lload hx hb dX8_spread_20 (lv_at hl 0 rfl) ?_
  refine lv_iload_n hx hb dX8_spread_22 rfl (lv_at hl 5 rfl) ?_
  refine lv_iconst (v := 1) hx hb dX8_spread_23 (by decide) ?_
  refine lv_iload_n hx hb dX8_spread_24 rfl (lv_at hl 6 rfl) ?_
  refine lv_iload hx hb dX8_spread_25 (lv_at hl 7 rfl) ?_
  refine tk_Vv hC hK hw hT hA hE hSR kC_at151 (by decide) rfl (k_X8_note_3 l adK adV dC dI cy ad B hB0 (Int.le_trans hB1 (by decide)) qr s1   x206 (show 0 ≤ x206.toInt by first | with_reducible assumption | omega) (show x206.toInt ≤ 2305843009213694072 by first | with_reducible assumption | omega) a2 (show 0 ≤ a2.toInt from ra2) (show a2.toInt ≤ 120 from ta2) a3 (show 0 ≤ a3.toInt from ra3) (show a3.toInt ≤ 19 from ta3) a4 (show 0 ≤ a4.toInt from ra4) (show a4.toInt ≤ 999999 from ta4) w0 s.heap.size hT ) (cwV 5 hC.2.2.2.2 uV_RX8_114 rfl rfl rfl (by decide +kernel) ⟨Nat.le_of_ble_eq_true rfl, Nat.le_of_ble_eq_true rfl⟩) rfl hl.1 rfl (Nat.le_of_ble_eq_true rfl) dX8_spread_27 (fun w209 H locs hp208 hw => ?_)
  obtain ⟨hT, k210, hg211⟩ := hp208
  have hF := hF.tr k210 (by decide)
  have c212 := k210.gl hkq1_ (by decide) c204
  clear hg211
  refine lv_iload hx hb dX8_spread_30 (lv_at hl 1 rfl) ?_
  refine lv_if_ne (tgt := 50) hx hb dX8_spread_32 (by decide) (fun c213 => ?_) (fun c213 => ?_)
  · have c213 : ¬ x202.toInt = (0 : Int) := wk_eqF c213
    exact J50 x201 x202 x206 H locs ls w209 (show 0 ≤ a2.toInt from ra2) (show a2.toInt ≤ 120 from ta2) (show 0 ≤ a3.toInt from ra3) (show a3.toInt ≤ 19 from ta3) (show 0 ≤ a4.toInt from ra4) (show a4.toInt ≤ 999999 from ta4) (show 0 ≤ x201.toInt by first | with_reducible assumption | omega) (show x201.toInt ≤ 9 by first | with_reducible assumption | omega) (show 0 ≤ x202.toInt by first | with_reducible assumption | omega) (show x202.toInt ≤ 1 by first | with_reducible assumption | omega) (show 0 ≤ x206.toInt by first | with_reducible assumption | omega) (show x206.toInt ≤ 2305843009213693952 by first | with_reducible assumption | omega)  hw hT hF  (lv_sub hl [3, 4, 5, 6, 7, 2, 1, 0] rfl)
  · have c213 : x202.toInt = (0 : Int) := wk_eq.mp c213
    refine lv_aload_n hx hb dX8_spread_35 rfl (lv_at hl 3 rfl) ?_
    refine lv_lload hx hb dX8_spread_36 (lv_at hl 0 rfl) ?_
    refine lv_iload_n hx hb dX8_spread_38 rfl (lv_at hl 5 rfl) ?_
    refine lv_iconst (v := 1) hx hb dX8_spread_39 (by decide) ?_
    refine lv_iload_n hx hb dX8_spread_40 rfl (lv_at hl 6 rfl) ?_
    refine lv_iconst (v := 1) hx hb dX8_spread_41 (by decide) ?_
    refine lv_iadd hx hb dX8_spread_42 ?_
    refine lv_topi (fun x214 ex214 => ?_)
    have ex214 : x214.toInt = a3.toInt + (1 : Int) := by rw [ex214]; exact wk_add (show (-2147483648) ≤ a3.toInt + (1 : Int) by omega) (show a3.toInt + (1 : Int) ≤ 2147483647 by omega)
    refine lv_iload hx hb dX8_spread_43 (lv_at hl 7 rfl) ?_
    refine lv_iconst (v := 1) hx hb dX8_spread_45 (by decide) ?_
    refine lv_iadd hx hb dX8_spread_46 ?_
    refine lv_topi (fun x215 ex215 => ?_)
    have ex215 : x215.toInt = a4.toInt + (1 : Int) := by rw [ex215]; exact wk_add (show (-2147483648) ≤ a4.toInt + (1 : Int) by omega) (show a4.toInt + (1 : Int) ≤ 2147483647 by omega)
    refine tk_Vv hC hK hw hT hA hE hSR kC_at151 (by decide) rfl (k_X8_note_4 l adK adV dC dI cy ad B hB0 (Int.le_trans hB1 (by decide)) qr s1   x206 (show 0 ≤ x206.toInt by first | with_reducible assumption | omega) (show x206.toInt ≤ 2305843009213694072 by first | with_reducible assumption | omega) a2 (show 0 ≤ a2.toInt from ra2) (show a2.toInt ≤ 120 from ta2) x214 (show 1 ≤ x214.toInt by first | with_reducible assumption | omega) (show x214.toInt ≤ 19 by first | with_reducible assumption | omega) x215 (show 1 ≤ x215.toInt by first | with_reducible assumption | omega) (show x215.toInt ≤ 1000000 by first | with_reducible assumption | omega) w209 H.size hT ) (cwV 5 hC.2.2.2.2 uV_RX8_114 rfl rfl rfl (by decide +kernel) ⟨Nat.le_of_ble_eq_true rfl, Nat.le_of_ble_eq_true rfl⟩) rfl hl.1 rfl (Nat.le_of_ble_eq_true rfl) dX8_spread_47 (fun w218 H locs hp217 hw => ?_)
    obtain ⟨hT, k219, hg220⟩ := hp217
    have hF := hF.tr k219 (by decide)
    have c221 := k219.gl hkq1_ (by decide) c212
    clear hg220
    exact J50 x201 x202 x206 H locs ls w218 (show 0 ≤ a2.toInt from ra2) (show a2.toInt ≤ 120 from ta2) (show 0 ≤ a3.toInt from ra3) (show a3.toInt ≤ 19 from ta3) (show 0 ≤ a4.toInt from ra4) (show a4.toInt ≤ 999999 from ta4) (show 0 ≤ x201.toInt by first | with_reducible assumption | omega) (show x201.toInt ≤ 9 by first | with_reducible assumption | omega) (show 0 ≤ x202.toInt by first | with_reducible assumption | omega) (show x202.toInt ≤ 1 by first | with_reducible assumption | omega) (show 0 ≤ x206.toInt by first | with_reducible assumption | omega) (show x206.toInt ≤ 2305843009213693952 by first | with_reducible assumption | omega)  hw hT hF  (lv_sub hl [3, 4, 5, 6, 7, 2, 1, 0] rfl)
abbrev P_J7_fill_53178_1 (ad : Nat → Nat) (cy : Nat → ClassId) (B : Int) (qr : Nat) (s1 : Int)  (w0 : va_W) : va_W → Prop := fun u => TW ksC ad cy B qr s1 u ∧ FE ksC [(47, 0, 2420)] w0 u ∧ ((True))
set_option maxHeartbeats 4000000 in
set_option maxRecDepth 100000 in
theorem k_J7_fill_53178_1 (l : Launch) (adK adV : Nat → Nat) (dC : Nat → ClassId) (dI : Nat → Nat → Nat) (cy : Nat → ClassId) (ad : Nat → Nat) (B : Int) (hB0 : 2147483648 ≤ B) (hB1 : B ≤ 1152921504606846976) (qr : Nat) (s1 : Int)   (w0 : va_W) (sz : Nat) (hT : TW ksC ad cy B qr s1 w0)  : Met l yJ7_fill_53178 (wu yJ7_fill_53178 cJ7_fill_53178 4 none) ({ frames := 1, cells := 0, slots := 0, locals := 12 }) (va_Pc [.ref (ad 154), .int 1000000] (wpreS adK adV dC dI cy sz w0)) (va_Qv (P_J7_fill_53178_1 ad cy B qr s1  w0) (fun u : va_W => wpost dC dI cy (va_A w0 sz) u) (va_A w0 sz)) 0 0 (va_A w0 sz) := by
  refine Met.ofW (cc := cJ7_fill_53178) (maxL := 4) (ret := none) (by decide) rfl ?_
  intro p e s m args below meth c s₁ Bk hml hv
  obtain ⟨rfl, ⟨hsz, hP, hK, hD0⟩, hE, hSR⟩ := hv
  have hx := Bk.exec
  have hb := Bk.bytes
  have hr := Bk.returns
  have hlocks := Bk.notSynchronized
  have hC : CallFix p m c cJ7_fill_53178 4 s _ (wu yJ7_fill_53178 cJ7_fill_53178 4 none) RJ7 := ⟨hx, hb, hml, findClass_of_methodNamed Bk.named, atoms_spec (ws := (wu yJ7_fill_53178 cJ7_fill_53178 4 none)) Bk.pre⟩
  subst hsz
  have hD := hD0.self (sz := s.heap.size)
  generalize hAe : va_A w0 s.heap.size = A at hD hE ⊢
  have hA : ∀ q : Nat, s.heap.size ≤ q → A q := fun q h => by rw [← hAe]; exact Or.inr h
  have hw : Wd dC dI A s.heap s.heap [] w0 := ⟨hP, hD, va_S.rf⟩
  have hF : FE ksC [(47, 0, 2420)] w0 w0 := FE.rf
  have hl := lv_entry ([.ref (ad 154), .int 1000000]) (n := 4) (Nat.le_of_ble_eq_true rfl)
  rw [lg_entry_eq]
  generalize (lg_sl ([.ref (ad 154), .int 1000000]) ++ List.replicate (4 - (lg_sl ([.ref (ad 154), .int 1000000])).length) Slot.unset).toArray = ls at hl ⊢
  have hl : lv_has ls 4 [(0, .ref (ad 154)), (1, .int 1000000)] := hl
  generalize hloc : ([] : List Loc) = locs at hw ⊢
  have L5 : ∀ (n5 : Nat) (v5_2 : Int32) (H : Heap) (locs : List Loc) (ls : Array Slot) (w1 : va_W), 0 ≤ v5_2.toInt → v5_2.toInt ≤ 2420 → (2420 - v5_2.toInt).toNat < n5 → Wd dC dI A s.heap H locs w1 → TW ksC ad cy B qr s1 w1 → FE ksC [(47, 0, 2420)] w0 w1 → lv_has ls 4 [(0, .ref (ad 154)), (1, .int 1000000), (2, .int v5_2), (3, .int 2420)] → W p l e ({ frames := 1, cells := 0, slots := 0, locals := 12 }) s m (List.toArray [.ref (ad 154), .int 1000000]) below meth c H locs 0 0 (MQ below (va_Qv (P_J7_fill_53178_1 ad cy B qr s1  w0) (fun u : va_W => wpost dC dI cy A u) A) (List.toArray [.ref (ad 154), .int 1000000]) s 0 0 A) (F0 m 5 ls []) := by
    intro n5
    induction n5 with
    | zero => intro v5_2 H locs ls w1 r2 t3 hm5 hw hT hF hl; omega
    | succ n5 ih5 =>
      intro v5_2 H locs ls w1 r2 t3 hm5 hw hT hF hl
      refine lv_iload_n hx hb dJ7_fill_53178_5 rfl (lv_at hl 2 rfl) ?_
      refine lv_iload_n hx hb dJ7_fill_53178_6 rfl (lv_at hl 3 rfl) ?_
      refine lv_icmp_ge (tgt := 20) hx hb dJ7_fill_53178_7 (by decide) (fun c4 => ?_) (fun c4 => ?_)
      · have c4 : (2420 : Int) ≤ v5_2.toInt := wk_le.mp c4
        exact tk_vret hC hr hlocks hK ⟨hT, hF, trivial⟩ hw dJ7_fill_53178_20
      · have c4 : v5_2.toInt < (2420 : Int) := wk_leF c4
        refine lv_aload_n hx hb dJ7_fill_53178_10 rfl (lv_at hl 0 rfl) ?_
        refine lv_iload_n hx hb dJ7_fill_53178_11 rfl (lv_at hl 2 rfl) ?_
        refine lv_iload_n hx hb dJ7_fill_53178_12 rfl (lv_at hl 1 rfl) ?_
        refine tk_iast hC hK hw hT kC_at154 (by decide) rfl rfl (show 0 ≤ v5_2.toInt from r2) (show v5_2.toInt < 2420 from c4) (by decide) (by decide) dJ7_fill_53178_13 (fun H locs w5 hw hT k7 c6 => ?_)
        have hF := hF.put kC_at154 (inE_of (a := 0) (b := 2420) (by decide) (show 0 ≤ v5_2.toInt.toNat by omega) (show v5_2.toInt.toNat ≤ 2420 by omega)) k7
        obtain ⟨x8, ex8⟩ : ∃ y : Int32, y = v5_2 + Int32.ofInt 1 := ⟨_, rfl⟩
        refine lv_iinc (v := x8) (lv' := [(2, .int x8), (0, .ref (ad 154)), (1, .int 1000000), (3, .int 2420)]) hx hb dJ7_fill_53178_14 hl (k := 2) rfl ex8.symm (by decide) rfl (fun ls hl => ?_)
        have ex8 : x8.toInt = v5_2.toInt + 1 := by rw [ex8]; exact wk_add (y := 1) (show -2147483648 ≤ v5_2.toInt + 1 by omega) (show v5_2.toInt + 1 ≤ 2147483647 by omega)
        refine lv_goto (tgt := 5) hx hb dJ7_fill_53178_17 (by decide) ?_
        exact ih5 x8 H locs ls w5 (show 0 ≤ x8.toInt by first | with_reducible assumption | omega) (show x8.toInt ≤ 2420 by first | with_reducible assumption | omega) (show (2420 - x8.toInt).toNat < n5 by first | exact tn_lt hm5 (by omega) (by omega) | omega) hw hT hF  (lv_sub hl [1, 2, 0, 3] rfl)
  refine lv_iconst (v := 0) hx hb dJ7_fill_53178_0 (by decide) ?_
  refine lv_istore_n (lv' := [(2, .int 0), (0, .ref (ad 154)), (1, .int 1000000)]) hx hb dJ7_fill_53178_1 rfl hl (by decide) rfl (fun ls hl => ?_)
  refine lv_aload_n hx hb dJ7_fill_53178_2 rfl (lv_at hl 1 rfl) ?_
  refine tk_alen (v := 2420) hC hK hw hT kC_at154 rfl (by decide) rfl (by decide) dJ7_fill_53178_3 ?_
  refine lv_istore_n (lv' := [(3, .int 2420), (2, .int 0), (0, .ref (ad 154)), (1, .int 1000000)]) hx hb dJ7_fill_53178_4 rfl hl (by decide) rfl (fun ls hl => ?_)
  exact L5 ((2420 - (0 : Int)).toNat + 1) 0 s.heap locs ls w0 (by decide) (by decide) (Nat.lt_succ_self _) hw hT hF  (lv_sub hl [2, 3, 1, 0] rfl)
abbrev P_X8_fewestQuestions_1 (ad : Nat → Nat) (cy : Nat → ClassId) (B : Int) (qr : Nat) (s1 : Int) (q1_ : Nat) (a2 : Int32) (w0 : va_W) : Int32 → va_W → Prop := fun r u => TW ksC ad cy B qr s1 u ∧ FE ksC [(8, 6, 6), (47, 0, 2420)] w0 u ∧ ((r = (-2)) ∨ (0 ≤ r.toInt ∧ r.toInt ≤ 999999))
set_option maxHeartbeats 4000000 in
set_option maxRecDepth 100000 in
theorem k_X8_fewestQuestions_1 (l : Launch) (adK adV : Nat → Nat) (dC : Nat → ClassId) (dI : Nat → Nat → Nat) (cy : Nat → ClassId) (ad : Nat → Nat) (B : Int) (hB0 : 2147483648 ≤ B) (hB1 : B ≤ 1152921504606846976) (qr : Nat) (s1 : Int)  (q1_ : Nat) (hkq1_ : ksC[q1_]? = some 9) (a2 : Int32) (ra2 : 0 ≤ a2.toInt) (ta2 : a2.toInt ≤ 120) (w0 : va_W) (sz : Nat) (hT : TW ksC ad cy B qr s1 w0)  : Met l yX8_fewestQuestions (wu yX8_fewestQuestions cX8_fewestQuestions 7 (some .int)) ({ frames := 4, cells := 0, slots := 0, locals := 97 }) (va_Pc [.ref (ad 151), .ref (ad q1_), .int a2] (wpreS adK adV dC dI cy sz w0)) (va_Qi (P_X8_fewestQuestions_1 ad cy B qr s1 q1_ a2 w0) (fun u : va_W => wpost dC dI cy (va_A w0 sz) u) (va_A w0 sz)) 0 0 (va_A w0 sz) := by
  refine Met.ofW (cc := cX8_fewestQuestions) (maxL := 7) (ret := (some .int)) (by decide) rfl ?_
  intro p e s m args below meth c s₁ Bk hml hv
  obtain ⟨rfl, ⟨hsz, hP, hK, hD0⟩, hE, hSR⟩ := hv
  have hx := Bk.exec
  have hb := Bk.bytes
  have hr := Bk.returns
  have hlocks := Bk.notSynchronized
  have hC : CallFix p m c cX8_fewestQuestions 7 s _ (wu yX8_fewestQuestions cX8_fewestQuestions 7 (some .int)) RX8 := ⟨hx, hb, hml, findClass_of_methodNamed Bk.named, atoms_spec (ws := (wu yX8_fewestQuestions cX8_fewestQuestions 7 (some .int))) Bk.pre⟩
  subst hsz
  have hD := hD0.self (sz := s.heap.size)
  generalize hAe : va_A w0 s.heap.size = A at hD hE ⊢
  have hA : ∀ q : Nat, s.heap.size ≤ q → A q := fun q h => by rw [← hAe]; exact Or.inr h
  have hw : Wd dC dI A s.heap s.heap [] w0 := ⟨hP, hD, va_S.rf⟩
  have hF : FE ksC [(8, 6, 6), (47, 0, 2420)] w0 w0 := FE.rf
  have hl := lv_entry ([.ref (ad 151), .ref (ad q1_), .int a2]) (n := 7) (Nat.le_of_ble_eq_true rfl)
  rw [lg_entry_eq]
  generalize (lg_sl ([.ref (ad 151), .ref (ad q1_), .int a2]) ++ List.replicate (7 - (lg_sl ([.ref (ad 151), .ref (ad q1_), .int a2])).length) Slot.unset).toArray = ls at hl ⊢
  have hl : lv_has ls 7 [(0, .ref (ad 151)), (1, .ref (ad q1_)), (2, .int a2)] := hl
  generalize hloc : ([] : List Loc) = locs at hw ⊢
  have hinX8 : ∀ w ∈ u_ws RX8 TX8 8, w ∈ (wu yX8_fewestQuestions cX8_fewestQuestions 7 (some .int)) := fun _ h => List.mem_cons_of_mem _ (up_79 h)
  have hinX5 : ∀ w ∈ u_ws RX5 TX5 14, w ∈ (wu yX8_fewestQuestions cX8_fewestQuestions 7 (some .int)) := fun _ h => List.mem_cons_of_mem _ (up_76 h)
  have hinX7 : ∀ w ∈ u_ws RX7 TX7 12, w ∈ (wu yX8_fewestQuestions cX8_fewestQuestions 7 (some .int)) := fun _ h => List.mem_cons_of_mem _ (up_73 h)
  have hinX9 : ∀ w ∈ u_ws RX9 TX9 9, w ∈ (wu yX8_fewestQuestions cX8_fewestQuestions 7 (some .int)) := fun _ h => List.mem_cons_of_mem _ (up_82 h)
  have L45 : ∀ (n45 : Nat) (v45_3 : Int32) (v45_4 : Int32) (f45_q1__0 : Int32) (H : Heap) (locs : List Loc) (ls : Array Slot) (w1 : va_W), 0 ≤ a2.toInt → a2.toInt ≤ 120 → 0 ≤ v45_3.toInt → v45_3.toInt ≤ 1000000 → 0 ≤ v45_4.toInt → v45_4.toInt ≤ 121 → 0 ≤ a2.toInt → a2.toInt ≤ 120 → 0 ≤ f45_q1__0.toInt → f45_q1__0.toInt ≤ 9 → (121 - v45_4.toInt).toNat < n45 → Wd dC dI A s.heap H locs w1 → TW ksC ad cy B qr s1 w1 → FE ksC [(8, 6, 6), (47, 0, 2420)] w0 w1 → gi w1 151 6 = a2 → gi w1 q1_ 0 = f45_q1__0 → lv_has ls 7 [(0, .ref (ad 151)), (1, .ref (ad q1_)), (2, .int a2), (3, .int v45_3), (4, .int v45_4)] → W p l e ({ frames := 4, cells := 0, slots := 0, locals := 97 }) s m (List.toArray [.ref (ad 151), .ref (ad q1_), .int a2]) below meth c H locs 0 0 (MQ below (va_Qi (P_X8_fewestQuestions_1 ad cy B qr s1 q1_ a2 w0) (fun u : va_W => wpost dC dI cy A u) A) (List.toArray [.ref (ad 151), .ref (ad q1_), .int a2]) s 0 0 A) (F0 m 45 ls []) := by
    intro n45
    induction n45 with
    | zero => intro v45_3 v45_4 f45_q1__0 H locs ls w1 r2 t3 r4 t5 r6 t7 r8 t9 r11 t12 hm45 hw hT hF c10 c13 hl; omega
    | succ n45 ih45 =>
      intro v45_3 v45_4 f45_q1__0 H locs ls w1 r2 t3 r4 t5 r6 t7 r8 t9 r11 t12 hm45 hw hT hF c10 c13 hl
      have L54 : ∀ (n54 : Nat) (v54_3 : Int32) (v54_5 : Int32) (H : Heap) (locs : List Loc) (ls : Array Slot) (w14 : va_W), 0 ≤ a2.toInt → a2.toInt ≤ 120 → 0 ≤ v54_3.toInt → v54_3.toInt ≤ 1000000 → 0 ≤ v45_4.toInt → v45_4.toInt ≤ 120 → 0 ≤ v54_5.toInt → v54_5.toInt ≤ 20 → 0 ≤ a2.toInt → a2.toInt ≤ 120 → 0 ≤ f45_q1__0.toInt → f45_q1__0.toInt ≤ 9 → (20 - v54_5.toInt).toNat < n54 → Wd dC dI A s.heap H locs w14 → TW ksC ad cy B qr s1 w14 → FE ksC [(8, 6, 6), (47, 0, 2420)] w0 w14 → gi w14 151 6 = a2 → gi w14 q1_ 0 = f45_q1__0 → lv_has ls 7 [(0, .ref (ad 151)), (1, .ref (ad q1_)), (2, .int a2), (3, .int v54_3), (4, .int v45_4), (5, .int v54_5)] → W p l e ({ frames := 4, cells := 0, slots := 0, locals := 97 }) s m (List.toArray [.ref (ad 151), .ref (ad q1_), .int a2]) below meth c H locs 0 0 (MQ below (va_Qi (P_X8_fewestQuestions_1 ad cy B qr s1 q1_ a2 w0) (fun u : va_W => wpost dC dI cy A u) A) (List.toArray [.ref (ad 151), .ref (ad q1_), .int a2]) s 0 0 A) (F0 m 54 ls []) := by
        intro n54
        induction n54 with
        | zero => intro v54_3 v54_5 H locs ls w14 r15 t16 r17 t18 r19 t20 r21 t22 r23 t24 r26 t27 hm54 hw hT hF c25 c28 hl; omega
        | succ n54 ih54 =>
          intro v54_3 v54_5 H locs ls w14 r15 t16 r17 t18 r19 t20 r21 t22 r23 t24 r26 t27 hm54 hw hT hF c25 c28 hl
          have J123 : ∀ (v123_3 : Int32) (v123_6 : Int32) (f123_39_8 : Int32) (H : Heap) (locs : List Loc) (ls : Array Slot) (w29 : va_W), 0 ≤ a2.toInt → a2.toInt ≤ 120 → 0 ≤ v123_3.toInt → v123_3.toInt ≤ 1000000 → 0 ≤ v45_4.toInt → v45_4.toInt ≤ 120 → 0 ≤ v54_5.toInt → v54_5.toInt ≤ 19 → 0 ≤ v123_6.toInt → v123_6.toInt ≤ 1000000 → 0 ≤ a2.toInt → a2.toInt ≤ 120 → 1 ≤ f123_39_8.toInt → f123_39_8.toInt ≤ 10 → 0 ≤ f45_q1__0.toInt → f45_q1__0.toInt ≤ 9 → Wd dC dI A s.heap H locs w29 → TW ksC ad cy B qr s1 w29 → FE ksC [(8, 6, 6), (47, 0, 2420)] w0 w29 → gi w29 151 6 = a2 → gi w29 39 8 = f123_39_8 → gi w29 q1_ 0 = f45_q1__0 → lv_has ls 7 [(0, .ref (ad 151)), (1, .ref (ad q1_)), (2, .int a2), (3, .int v123_3), (4, .int v45_4), (5, .int v54_5), (6, .int v123_6)] → W p l e ({ frames := 4, cells := 0, slots := 0, locals := 97 }) s m (List.toArray [.ref (ad 151), .ref (ad q1_), .int a2]) below meth c H locs 0 0 (MQ below (va_Qi (P_X8_fewestQuestions_1 ad cy B qr s1 q1_ a2 w0) (fun u : va_W => wpost dC dI cy A u) A) (List.toArray [.ref (ad 151), .ref (ad q1_), .int a2]) s 0 0 A) (F0 m 123 ls []) := by
            intro v123_3 v123_6 f123_39_8 H locs ls w29 r30 t31 r32 t33 r34 t35 r36 t37 r38 t39 r40 t41 r43 t44 r46 t47 hw hT hF c42 c45 c48 hl
            obtain ⟨x49, ex49⟩ : ∃ y : Int32, y = v54_5 + Int32.ofInt 1 := ⟨_, rfl⟩
            refine lv_iinc (v := x49) (lv' := [(5, .int x49), (0, .ref (ad 151)), (1, .ref (ad q1_)), (2, .int a2), (3, .int v123_3), (4, .int v45_4), (6, .int v123_6)]) hx hb dX8_fewestQuestions_123 hl (k := 5) rfl ex49.symm (by decide) rfl (fun ls hl => ?_)
            have ex49 : x49.toInt = v54_5.toInt + 1 := by rw [ex49]; exact wk_add (y := 1) (show -2147483648 ≤ v54_5.toInt + 1 by omega) (show v54_5.toInt + 1 ≤ 2147483647 by omega)
            refine lv_goto (tgt := 54) hx hb dX8_fewestQuestions_126 (by decide) ?_
            exact ih54 v123_3 x49 H locs ls w29 (show 0 ≤ a2.toInt from r40) (show a2.toInt ≤ 120 from t41) (show 0 ≤ v123_3.toInt from r32) (show v123_3.toInt ≤ 1000000 from t33) (show 0 ≤ v45_4.toInt from r34) (show v45_4.toInt ≤ 120 from t35) (show 0 ≤ x49.toInt by first | with_reducible assumption | omega) (show x49.toInt ≤ 20 by first | with_reducible assumption | omega) (show 0 ≤ a2.toInt from r40) (show a2.toInt ≤ 120 from t41) (show 0 ≤ f45_q1__0.toInt from r46) (show f45_q1__0.toInt ≤ 9 from t47) (show (20 - x49.toInt).toNat < n54 by first | exact tn_lt hm54 (by omega) (by omega) | omega) hw hT hF c42 c48 (lv_sub hl [1, 2, 3, 4, 5, 0] rfl)
          refine lv_iload hx hb dX8_fewestQuestions_54 (lv_at hl 5 rfl) ?_
          refine lv_iconst (v := 2) hx hb dX8_fewestQuestions_56 (by decide) ?_
          refine lv_aload_n hx hb dX8_fewestQuestions_57 rfl (lv_at hl 0 rfl) ?_
          refine tk_getA hC hK hw hT hinX8 kC_at151 (by decide) rfl 0 (by decide) (List.mem_cons_of_mem _ uw_5_11) rfl rfl dX8_fewestQuestions_58 ?_
          refine tk_getO hC hK hw hT hinX5 kC_at38 (by decide) rfl 0 (by decide) (List.mem_cons_of_mem _ uw_56_0) rfl rfl dX8_fewestQuestions_61 ?_
          refine tk_geti hC hK hw hT hinX7 kC_at39 (by decide) rfl 8 (by decide) (List.mem_cons_of_mem _ uw_56_1) rfl rfl dX8_fewestQuestions_64 (fun x50 c51 rx50 tx50 => ?_)
          refine lv_imul hx hb dX8_fewestQuestions_67 ?_
          refine lv_topi (fun x52 ex52 => ?_)
          have ex52 : x52.toInt = (2 : Int) * x50.toInt := by rw [ex52]; exact wk_mul (show (-2147483648) ≤ (2 : Int) * x50.toInt by omega) (show (2 : Int) * x50.toInt ≤ 2147483647 by omega)
          refine lv_icmp_ge (tgt := 129) hx hb dX8_fewestQuestions_68 (by decide) (fun c53 => ?_) (fun c53 => ?_)
          · have c53 : x52.toInt ≤ v54_5.toInt := wk_le.mp c53
            obtain ⟨x54, ex54⟩ : ∃ y : Int32, y = v45_4 + Int32.ofInt 1 := ⟨_, rfl⟩
            refine lv_iinc (v := x54) (lv' := [(4, .int x54), (0, .ref (ad 151)), (1, .ref (ad q1_)), (2, .int a2), (3, .int v54_3), (5, .int v54_5)]) hx hb dX8_fewestQuestions_129 hl (k := 4) rfl ex54.symm (by decide) rfl (fun ls hl => ?_)
            have ex54 : x54.toInt = v45_4.toInt + 1 := by rw [ex54]; exact wk_add (y := 1) (show -2147483648 ≤ v45_4.toInt + 1 by omega) (show v45_4.toInt + 1 ≤ 2147483647 by omega)
            refine lv_goto (tgt := 45) hx hb dX8_fewestQuestions_132 (by decide) ?_
            exact ih45 v54_3 x54 f45_q1__0 H locs ls w14 (show 0 ≤ a2.toInt from r23) (show a2.toInt ≤ 120 from t24) (show 0 ≤ v54_3.toInt from r17) (show v54_3.toInt ≤ 1000000 from t18) (show 0 ≤ x54.toInt by first | with_reducible assumption | omega) (show x54.toInt ≤ 121 by first | with_reducible assumption | omega) (show 0 ≤ a2.toInt from r23) (show a2.toInt ≤ 120 from t24) (show 0 ≤ f45_q1__0.toInt from r26) (show f45_q1__0.toInt ≤ 9 from t27) (show (121 - x54.toInt).toNat < n45 by first | exact tn_lt hm45 (by omega) (by omega) | omega) hw hT hF c25 c28 (lv_sub hl [1, 2, 3, 4, 0] rfl)
          · have c53 : v54_5.toInt < x52.toInt := wk_leF c53
            refine lv_aload_n hx hb dX8_fewestQuestions_71 rfl (lv_at hl 0 rfl) ?_
            refine tk_getA hC hK hw hT hinX8 kC_at151 (by decide) rfl 5 (by decide) (List.mem_cons_of_mem _ uw_5_10) rfl rfl dX8_fewestQuestions_72 ?_
            refine lv_iload hx hb dX8_fewestQuestions_75 (lv_at hl 4 rfl) ?_
            refine lv_bipush (v := 20) hx hb dX8_fewestQuestions_77 (by decide) ?_
            refine lv_imul hx hb dX8_fewestQuestions_79 ?_
            refine lv_topi (fun x55 ex55 => ?_)
            have ex55 : x55.toInt = v45_4.toInt * (20 : Int) := by rw [ex55]; exact wk_mul (show (-2147483648) ≤ v45_4.toInt * (20 : Int) by omega) (show v45_4.toInt * (20 : Int) ≤ 2147483647 by omega)
            refine lv_iload hx hb dX8_fewestQuestions_80 (lv_at hl 5 rfl) ?_
            refine lv_iadd hx hb dX8_fewestQuestions_82 ?_
            refine lv_topi (fun x56 ex56 => ?_)
            have ex56 : x56.toInt = x55.toInt + v54_5.toInt := by rw [ex56]; exact wk_add (show (-2147483648) ≤ x55.toInt + v54_5.toInt by omega) (show x55.toInt + v54_5.toInt ≤ 2147483647 by omega)
            refine tk_iald hC hK hw hT kC_at154 rfl rfl (show 0 ≤ x56.toInt by first | with_reducible assumption | omega) (show x56.toInt < 2420 by first | with_reducible assumption | omega) dX8_fewestQuestions_83 (fun x57 c58 rx57 tx57 => ?_)
            refine lv_istore (lv' := [(6, .int x57), (0, .ref (ad 151)), (1, .ref (ad q1_)), (2, .int a2), (3, .int v54_3), (4, .int v45_4), (5, .int v54_5)]) hx hb dX8_fewestQuestions_84 hl (by decide) rfl (fun ls hl => ?_)
            refine lv_iload hx hb dX8_fewestQuestions_86 (lv_at hl 0 rfl) ?_
            refine lv_iload_n hx hb dX8_fewestQuestions_88 rfl (lv_at hl 4 rfl) ?_
            refine lv_icmp_lt (tgt := 95) hx hb dX8_fewestQuestions_89 (by decide) (fun c59 => ?_) (fun c59 => ?_)
            · have c59 : x57.toInt < v54_3.toInt := wk_lt.mp c59
              refine lv_iload hx hb dX8_fewestQuestions_95 (lv_at hl 6 rfl) ?_
              refine lv_iconst (v := 2) hx hb dX8_fewestQuestions_97 (by decide) ?_
              refine lv_idiv hx hb dX8_fewestQuestions_98 (by decide) ?_
              refine lv_topi (fun x60 ex60 => ?_)
              have ex60 : x60.toInt = v54_5.toInt / (2 : Int) := by rw [ex60]; exact wk_div (show 0 ≤ v54_5.toInt from r21) (show 0 < (2 : Int) by decide)
              refine lv_aload_n hx hb dX8_fewestQuestions_99 rfl (lv_at hl 2 rfl) ?_
              refine tk_geti hC hK hw hT hinX9 hkq1_ (by decide) rfl 1 (by decide) (List.mem_cons_of_mem _ uw_56_2) rfl rfl dX8_fewestQuestions_100 (fun x61 c62 rx61 tx61 => ?_)
              refine lv_icmp_ne (tgt := 112) hx hb dX8_fewestQuestions_103 (by decide) (fun c63 => ?_) (fun c63 => ?_)
              · have c63 : ¬ x60.toInt = x61.toInt := wk_eqF c63
                refine lv_aload_n hx hb dX8_fewestQuestions_112 rfl (lv_at hl 1 rfl) ?_
                refine lv_aload_n hx hb dX8_fewestQuestions_113 rfl (lv_at hl 2 rfl) ?_
                refine lv_iload hx hb dX8_fewestQuestions_114 (lv_at hl 5 rfl) ?_
                refine lv_iload hx hb dX8_fewestQuestions_116 (lv_at hl 6 rfl) ?_
                refine lv_iload hx hb dX8_fewestQuestions_118 (lv_at hl 0 rfl) ?_
                refine tk_Vv hC hK hw hT hA hE hSR kC_at151 (by decide) rfl (k_X8_spread_1 l adK adV dC dI cy ad B hB0 (Int.le_trans hB1 (by decide)) qr s1   q1_ hkq1_ v45_4 (show 0 ≤ v45_4.toInt from r19) (show v45_4.toInt ≤ 120 from t20) v54_5 (show 0 ≤ v54_5.toInt from r21) (show v54_5.toInt ≤ 19 by first | with_reducible assumption | omega) x57 (show 0 ≤ x57.toInt from rx57) (show x57.toInt ≤ 999999 by first | with_reducible assumption | omega) w14 H.size hT ) (cwV 4 hC.2.2.2.2 uV_RX8_110 rfl rfl rfl (by decide +kernel) ⟨Nat.le_of_ble_eq_true rfl, Nat.le_of_ble_eq_true rfl⟩) rfl hl.1 rfl (Nat.le_of_ble_eq_true rfl) dX8_fewestQuestions_120 (fun w66 H locs hp65 hw => ?_)
                obtain ⟨hT, k67, hg68⟩ := hp65
                have hF := hF.tr k67 (by decide)
                have c69 := k67.gi kC_at151 (by decide) c25
                have c70 := k67.gi hkq1_ (by decide) c28
                have c71 := k67.gi kC_at39 (by decide) c51
                have c72 := k67.gi hkq1_ (by decide) c62
                clear hg68
                exact J123 v54_3 x57 x50 H locs ls w66 (show 0 ≤ a2.toInt from r23) (show a2.toInt ≤ 120 from t24) (show 0 ≤ v54_3.toInt from r17) (show v54_3.toInt ≤ 1000000 from t18) (show 0 ≤ v45_4.toInt from r19) (show v45_4.toInt ≤ 120 from t20) (show 0 ≤ v54_5.toInt from r21) (show v54_5.toInt ≤ 19 by first | with_reducible assumption | omega) (show 0 ≤ x57.toInt from rx57) (show x57.toInt ≤ 1000000 from tx57) (show 0 ≤ a2.toInt from r23) (show a2.toInt ≤ 120 from t24) (show 1 ≤ x50.toInt by first | with_reducible assumption | omega) (show x50.toInt ≤ 10 from tx50) (show 0 ≤ f45_q1__0.toInt from r26) (show f45_q1__0.toInt ≤ 9 from t27)  hw hT hF c69 c71 c70 (lv_sub hl [1, 2, 3, 4, 5, 6, 0] rfl)
              · have c63 : x60.toInt = x61.toInt := wk_eq.mp c63
                refine lv_iload hx hb dX8_fewestQuestions_106 (lv_at hl 0 rfl) ?_
                refine lv_istore_n (lv' := [(3, .int x57), (6, .int x57), (0, .ref (ad 151)), (1, .ref (ad q1_)), (2, .int a2), (4, .int v45_4), (5, .int v54_5)]) hx hb dX8_fewestQuestions_108 rfl hl (by decide) rfl (fun ls hl => ?_)
                refine lv_goto (tgt := 123) hx hb dX8_fewestQuestions_109 (by decide) ?_
                exact J123 x57 x57 x50 H locs ls w14 (show 0 ≤ a2.toInt from r23) (show a2.toInt ≤ 120 from t24) (show 0 ≤ x57.toInt from rx57) (show x57.toInt ≤ 1000000 from tx57) (show 0 ≤ v45_4.toInt from r19) (show v45_4.toInt ≤ 120 from t20) (show 0 ≤ v54_5.toInt from r21) (show v54_5.toInt ≤ 19 by first | with_reducible assumption | omega) (show 0 ≤ x57.toInt from rx57) (show x57.toInt ≤ 1000000 from tx57) (show 0 ≤ a2.toInt from r23) (show a2.toInt ≤ 120 from t24) (show 1 ≤ x50.toInt by first | with_reducible assumption | omega) (show x50.toInt ≤ 10 from tx50) (show 0 ≤ f45_q1__0.toInt from r26) (show f45_q1__0.toInt ≤ 9 from t27)  hw hT hF c25 c51 c28 (lv_sub hl [2, 3, 4, 0, 5, 6, 1] rfl)
            · have c59 : v54_3.toInt ≤ x57.toInt := wk_ltF c59
              refine lv_goto (tgt := 123) hx hb dX8_fewestQuestions_92 (by decide) ?_
              exact J123 v54_3 x57 x50 H locs ls w14 (show 0 ≤ a2.toInt from r23) (show a2.toInt ≤ 120 from t24) (show 0 ≤ v54_3.toInt from r17) (show v54_3.toInt ≤ 1000000 from t18) (show 0 ≤ v45_4.toInt from r19) (show v45_4.toInt ≤ 120 from t20) (show 0 ≤ v54_5.toInt from r21) (show v54_5.toInt ≤ 19 by first | with_reducible assumption | omega) (show 0 ≤ x57.toInt from rx57) (show x57.toInt ≤ 1000000 from tx57) (show 0 ≤ a2.toInt from r23) (show a2.toInt ≤ 120 from t24) (show 1 ≤ x50.toInt by first | with_reducible assumption | omega) (show x50.toInt ≤ 10 from tx50) (show 0 ≤ f45_q1__0.toInt from r26) (show f45_q1__0.toInt ≤ 9 from t27)  hw hT hF c25 c51 c28 (lv_sub hl [1, 2, 3, 4, 5, 6, 0] rfl)
      refine lv_iload hx hb dX8_fewestQuestions_45 (lv_at hl 4 rfl) ?_
      refine lv_iload_n hx hb dX8_fewestQuestions_47 rfl (lv_at hl 2 rfl) ?_
      refine lv_icmp_gt (tgt := 135) hx hb dX8_fewestQuestions_48 (by decide) (fun c73 => ?_) (fun c73 => ?_)
      · have c73 : a2.toInt < v45_4.toInt := wk_lt.mp c73
        refine lv_iload_n hx hb dX8_fewestQuestions_135 rfl (lv_at hl 3 rfl) ?_
        refine lv_ldc (v := 1000000) hx hb hC.2.2.2.1 (hC.2.2.2.2 _ (List.mem_cons_of_mem _ uw_55_23)) dX8_fewestQuestions_136 ?_
        refine lv_icmp_ne (tgt := 146) hx hb dX8_fewestQuestions_138 (by decide) (fun c74 => ?_) (fun c74 => ?_)
        · have c74 : ¬ v45_3.toInt = (1000000 : Int) := wk_eqF c74
          refine lv_iload_n hx hb dX8_fewestQuestions_146 rfl (lv_at hl 3 rfl) ?_
          exact tk_iret hC hr hlocks hK ⟨hT, hF, (Or.inr ⟨(show 0 ≤ v45_3.toInt from r4), (show v45_3.toInt ≤ 999999 by first | with_reducible assumption | omega)⟩)⟩ hw dX8_fewestQuestions_147
        · have c74 : v45_3.toInt = (1000000 : Int) := wk_eq.mp c74
          refine lv_bipush (v := (-2)) hx hb dX8_fewestQuestions_141 (by decide) ?_
          refine lv_goto (tgt := 147) hx hb dX8_fewestQuestions_143 (by decide) ?_
          exact tk_iret hC hr hlocks hK ⟨hT, hF, (Or.inl rfl)⟩ hw dX8_fewestQuestions_147
      · have c73 : v45_4.toInt ≤ a2.toInt := wk_ltF c73
        refine lv_iconst (v := 0) hx hb dX8_fewestQuestions_51 (by decide) ?_
        refine lv_istore (lv' := [(5, .int 0), (0, .ref (ad 151)), (1, .ref (ad q1_)), (2, .int a2), (3, .int v45_3), (4, .int v45_4)]) hx hb dX8_fewestQuestions_52 hl (by decide) rfl (fun ls hl => ?_)
        exact L54 ((20 - (0 : Int)).toNat + 1) v45_3 0 H locs ls w1 (show 0 ≤ a2.toInt from r8) (show a2.toInt ≤ 120 from t9) (show 0 ≤ v45_3.toInt from r4) (show v45_3.toInt ≤ 1000000 from t5) (show 0 ≤ v45_4.toInt from r6) (show v45_4.toInt ≤ 120 by first | with_reducible assumption | omega) (by decide) (by decide) (show 0 ≤ a2.toInt from r8) (show a2.toInt ≤ 120 from t9) (show 0 ≤ f45_q1__0.toInt from r11) (show f45_q1__0.toInt ≤ 9 from t12) (Nat.lt_succ_self _) hw hT hF c10 c13 (lv_sub hl [1, 2, 3, 4, 5, 0] rfl)
  refine lv_aload_n hx hb dX8_fewestQuestions_0 rfl (lv_at hl 0 rfl) ?_
  refine lv_iload_n hx hb dX8_fewestQuestions_1 rfl (lv_at hl 2 rfl) ?_
  refine tk_puti hC hK hw hT hinX8 tyX8_ok nmX8 kC_at151 (by decide) rfl rfl 6 (by decide) (List.mem_cons_of_mem _ uw_55_22) rfl rfl rfl rfl (show 0 ≤ a2.toInt from ra2) (show a2.toInt ≤ 120 from ta2) dX8_fewestQuestions_2 (fun H locs w75 hw hT k77 c76 => ?_)
  have hF := hF.put kC_at151 (k := 6) (by decide) k77
  refine lv_aload_n hx hb dX8_fewestQuestions_5 rfl (lv_at hl 0 rfl) ?_
  refine tk_getA hC hK hw hT hinX8 kC_at151 (by decide) rfl 5 (by decide) (List.mem_cons_of_mem _ uw_5_10) rfl rfl dX8_fewestQuestions_6 ?_
  refine lv_ldc (v := 1000000) hx hb hC.2.2.2.1 (hC.2.2.2.2 _ (List.mem_cons_of_mem _ uw_55_23)) dX8_fewestQuestions_9 ?_
  refine tk_Sv hC hK hw hT hA hE hSR (k_J7_fill_53178_1 l adK adV dC dI cy ad B hB0 (Int.le_trans hB1 (by decide)) qr s1    w75 H.size hT ) (va_cwS 2 hC.2.2.2.2 uS_RX8_87 rfl rfl rfl (by decide +kernel) ⟨Nat.le_of_ble_eq_true rfl, Nat.le_of_ble_eq_true rfl⟩) rfl hl.1 rfl (Nat.le_of_ble_eq_true rfl) dX8_fewestQuestions_11 (fun w80 H locs hp79 hw => ?_)
  obtain ⟨hT, k81, hg82⟩ := hp79
  have hF := hF.tr k81 (by decide)
  have c83 := k81.gi kC_at151 (by decide) c76
  clear hg82
  refine lv_aload_n hx hb dX8_fewestQuestions_14 rfl (lv_at hl 0 rfl) ?_
  refine tk_getA hC hK hw hT hinX8 kC_at151 (by decide) rfl 5 (by decide) (List.mem_cons_of_mem _ uw_5_10) rfl rfl dX8_fewestQuestions_15 ?_
  refine lv_iconst (v := 2) hx hb dX8_fewestQuestions_18 (by decide) ?_
  refine lv_aload_n hx hb dX8_fewestQuestions_19 rfl (lv_at hl 1 rfl) ?_
  refine tk_geti hC hK hw hT hinX9 hkq1_ (by decide) rfl 0 (by decide) (List.mem_cons_of_mem _ uw_55_3) rfl rfl dX8_fewestQuestions_20 (fun x84 c85 rx84 tx84 => ?_)
  refine lv_imul hx hb dX8_fewestQuestions_23 ?_
  refine lv_topi (fun x86 ex86 => ?_)
  have ex86 : x86.toInt = (2 : Int) * x84.toInt := by rw [ex86]; exact wk_mul (show (-2147483648) ≤ (2 : Int) * x84.toInt by omega) (show (2 : Int) * x84.toInt ≤ 2147483647 by omega)
  refine lv_aload_n hx hb dX8_fewestQuestions_24 rfl (lv_at hl 1 rfl) ?_
  refine tk_Vi hC hK hw hT hA hE hSR hkq1_ (by decide) rfl (k_X9_askedToday_1 l adK adV dC dI cy ad B hB0 (Int.le_trans hB1 (by decide)) qr s1   q1_ hkq1_ w80 H.size hT ) (cwV 0 hC.2.2.2.2 uV_RX8_93 rfl rfl rfl (by decide +kernel) ⟨Nat.le_of_ble_eq_true rfl, Nat.le_of_ble_eq_true rfl⟩) rfl hl.1 rfl (Nat.le_of_ble_eq_true rfl) dX8_fewestQuestions_25 (fun r87 w89 H locs hp88 hw => ?_)
  obtain ⟨hT, k90, hg91⟩ := hp88
  have hF := hF.tr k90 (by decide)
  have c92 := k90.gi kC_at151 (by decide) c83
  have c93 := k90.gi hkq1_ (by decide) c85
  rcases hg91 with rfl | rfl
  · refine lv_if_eq (tgt := 35) hx hb dX8_fewestQuestions_28 (by decide) (fun _ => ?_) (fun c => absurd (by decide) c)
    refine lv_iconst (v := 0) hx hb dX8_fewestQuestions_35 (by decide) ?_
    refine lv_iadd hx hb dX8_fewestQuestions_36 ?_
    refine lv_topi (fun x94 ex94 => ?_)
    have ex94 : x94.toInt = x86.toInt + (0 : Int) := by rw [ex94]; exact wk_add (show (-2147483648) ≤ x86.toInt + (0 : Int) by omega) (show x86.toInt + (0 : Int) ≤ 2147483647 by omega)
    refine lv_iconst (v := 0) hx hb dX8_fewestQuestions_37 (by decide) ?_
    refine tk_iast hC hK hw hT kC_at154 (by decide) rfl rfl (show 0 ≤ x94.toInt by first | with_reducible assumption | omega) (show x94.toInt < 2420 by first | with_reducible assumption | omega) (by decide) (by decide) dX8_fewestQuestions_38 (fun H locs w95 hw hT k97 c96 => ?_)
    have hF := hF.put kC_at154 (inE_of (a := 0) (b := 2420) (by decide) (show 0 ≤ x94.toInt.toNat by omega) (show x94.toInt.toNat ≤ 2420 by omega)) k97
    have c98 := k97.gi (Or.inl (tk_ne kC_at151 kC_at154 (by decide))) c92
    have c99 := k97.gi (Or.inl (tk_ne hkq1_ kC_at154 (by decide))) c93
    refine lv_ldc (v := 1000000) hx hb hC.2.2.2.1 (hC.2.2.2.2 _ (List.mem_cons_of_mem _ uw_55_23)) dX8_fewestQuestions_39 ?_
    refine lv_istore_n (lv' := [(3, .int 1000000), (0, .ref (ad 151)), (1, .ref (ad q1_)), (2, .int a2)]) hx hb dX8_fewestQuestions_41 rfl hl (by decide) rfl (fun ls hl => ?_)
    refine lv_iconst (v := 0) hx hb dX8_fewestQuestions_42 (by decide) ?_
    refine lv_istore (lv' := [(4, .int 0), (3, .int 1000000), (0, .ref (ad 151)), (1, .ref (ad q1_)), (2, .int a2)]) hx hb dX8_fewestQuestions_43 hl (by decide) rfl (fun ls hl => ?_)
    exact L45 ((121 - (0 : Int)).toNat + 1) 1000000 0 x84 H locs ls w95 (show 0 ≤ a2.toInt from ra2) (show a2.toInt ≤ 120 from ta2) (by decide) (by decide) (by decide) (by decide) (show 0 ≤ a2.toInt from ra2) (show a2.toInt ≤ 120 from ta2) (show 0 ≤ x84.toInt by first | with_reducible assumption | omega) (show x84.toInt ≤ 9 by first | with_reducible assumption | omega) (Nat.lt_succ_self _) hw hT hF c98 c99 (lv_sub hl [2, 3, 4, 1, 0] rfl)
  · refine lv_if_eq (tgt := 35) hx hb dX8_fewestQuestions_28 (by decide) (fun c => absurd c (by decide)) (fun _ => ?_)
    refine lv_iconst (v := 1) hx hb dX8_fewestQuestions_31 (by decide) ?_
    refine lv_goto (tgt := 36) hx hb dX8_fewestQuestions_32 (by decide) ?_
    refine lv_iadd hx hb dX8_fewestQuestions_36 ?_
    refine lv_topi (fun x100 ex100 => ?_)
    have ex100 : x100.toInt = x86.toInt + (1 : Int) := by rw [ex100]; exact wk_add (show (-2147483648) ≤ x86.toInt + (1 : Int) by omega) (show x86.toInt + (1 : Int) ≤ 2147483647 by omega)
    refine lv_iconst (v := 0) hx hb dX8_fewestQuestions_37 (by decide) ?_
    refine tk_iast hC hK hw hT kC_at154 (by decide) rfl rfl (show 0 ≤ x100.toInt by first | with_reducible assumption | omega) (show x100.toInt < 2420 by first | with_reducible assumption | omega) (by decide) (by decide) dX8_fewestQuestions_38 (fun H locs w101 hw hT k103 c102 => ?_)
    have hF := hF.put kC_at154 (inE_of (a := 0) (b := 2420) (by decide) (show 0 ≤ x100.toInt.toNat by omega) (show x100.toInt.toNat ≤ 2420 by omega)) k103
    have c104 := k103.gi (Or.inl (tk_ne kC_at151 kC_at154 (by decide))) c92
    have c105 := k103.gi (Or.inl (tk_ne hkq1_ kC_at154 (by decide))) c93
    refine lv_ldc (v := 1000000) hx hb hC.2.2.2.1 (hC.2.2.2.2 _ (List.mem_cons_of_mem _ uw_55_23)) dX8_fewestQuestions_39 ?_
    refine lv_istore_n (lv' := [(3, .int 1000000), (0, .ref (ad 151)), (1, .ref (ad q1_)), (2, .int a2)]) hx hb dX8_fewestQuestions_41 rfl hl (by decide) rfl (fun ls hl => ?_)
    refine lv_iconst (v := 0) hx hb dX8_fewestQuestions_42 (by decide) ?_
    refine lv_istore (lv' := [(4, .int 0), (3, .int 1000000), (0, .ref (ad 151)), (1, .ref (ad q1_)), (2, .int a2)]) hx hb dX8_fewestQuestions_43 hl (by decide) rfl (fun ls hl => ?_)
    exact L45 ((121 - (0 : Int)).toNat + 1) 1000000 0 x84 H locs ls w101 (show 0 ≤ a2.toInt from ra2) (show a2.toInt ≤ 120 from ta2) (by decide) (by decide) (by decide) (by decide) (show 0 ≤ a2.toInt from ra2) (show a2.toInt ≤ 120 from ta2) (show 0 ≤ x84.toInt by first | with_reducible assumption | omega) (show x84.toInt ≤ 9 by first | with_reducible assumption | omega) (Nat.lt_succ_self _) hw hT hF c104 c105 (lv_sub hl [2, 3, 4, 1, 0] rfl)
abbrev P_X11_questions_1 (ad : Nat → Nat) (cy : Nat → ClassId) (B : Int) (qr : Nat) (s1 : Int) (a1 : Int32) (a2 : Int32) (w0 : va_W) : Int32 → va_W → Prop := fun r u => TW ksC ad cy B qr s1 u ∧ FE ksC [(8, 6, 6), (42, 0, 1100), (43, 0, 1100), (44, 0, 11), (47, 0, 2420)] w0 u ∧ ((r = (-2) ∧ 0 ≤ a1.toInt ∧ a1.toInt ≤ 3 ∧ 0 ≤ a2.toInt ∧ a2.toInt ≤ 120 ∧ (∃ y : Int32, gi u 38 9 = y ∧ 1 ≤ y.toInt ∧ y.toInt ≤ 4)) ∨ (0 ≤ r.toInt ∧ r.toInt ≤ 999999 ∧ 0 ≤ a1.toInt ∧ a1.toInt ≤ 3 ∧ 0 ≤ a2.toInt ∧ a2.toInt ≤ 120 ∧ (∃ y : Int32, gi u 38 9 = y ∧ 1 ≤ y.toInt ∧ y.toInt ≤ 4)) ∨ (r = (-1)))
set_option maxHeartbeats 4000000 in
set_option maxRecDepth 100000 in
theorem k_X11_questions_1 (l : Launch) (adK adV : Nat → Nat) (dC : Nat → ClassId) (dI : Nat → Nat → Nat) (cy : Nat → ClassId) (ad : Nat → Nat) (B : Int) (hB0 : 2147483648 ≤ B) (hB1 : B ≤ 1152921504606846976) (qr : Nat) (s1 : Int)  (a1 : Int32) (a2 : Int32) (w0 : va_W) (sz : Nat) (hT : TW ksC ad cy B qr s1 w0)  : Met l yX11_questions (wu yX11_questions cX11_questions 3 (some .int)) ({ frames := 6, cells := 0, slots := 0, locals := 130 }) (va_Pc [.ref (ad 0), .int a1, .int a2] (wpreS adK adV dC dI cy sz w0)) (va_Qi (P_X11_questions_1 ad cy B qr s1 a1 a2 w0) (fun u : va_W => wpost dC dI cy (va_A w0 sz) u) (va_A w0 sz)) 0 0 (va_A w0 sz) := by
  refine Met.ofW (cc := cX11_questions) (maxL := 3) (ret := (some .int)) (by decide) rfl ?_
  intro p e s m args below meth c s₁ Bk hml hv
  obtain ⟨rfl, ⟨hsz, hP, hK, hD0⟩, hE, hSR⟩ := hv
  have hx := Bk.exec
  have hb := Bk.bytes
  have hr := Bk.returns
  have hlocks := Bk.notSynchronized
  have hC : CallFix p m c cX11_questions 3 s _ (wu yX11_questions cX11_questions 3 (some .int)) RX11 := ⟨hx, hb, hml, findClass_of_methodNamed Bk.named, atoms_spec (ws := (wu yX11_questions cX11_questions 3 (some .int))) Bk.pre⟩
  subst hsz
  have hD := hD0.self (sz := s.heap.size)
  generalize hAe : va_A w0 s.heap.size = A at hD hE ⊢
  have hA : ∀ q : Nat, s.heap.size ≤ q → A q := fun q h => by rw [← hAe]; exact Or.inr h
  have hw : Wd dC dI A s.heap s.heap [] w0 := ⟨hP, hD, va_S.rf⟩
  have hF : FE ksC [(8, 6, 6), (42, 0, 1100), (43, 0, 1100), (44, 0, 11), (47, 0, 2420)] w0 w0 := FE.rf
  have hl := lv_entry ([.ref (ad 0), .int a1, .int a2]) (n := 3) (Nat.le_of_ble_eq_true rfl)
  rw [lg_entry_eq]
  generalize (lg_sl ([.ref (ad 0), .int a1, .int a2]) ++ List.replicate (3 - (lg_sl ([.ref (ad 0), .int a1, .int a2])).length) Slot.unset).toArray = ls at hl ⊢
  have hl : lv_has ls 3 [(0, .ref (ad 0)), (1, .int a1), (2, .int a2)] := hl
  generalize hloc : ([] : List Loc) = locs at hw ⊢
  have hinX11 : ∀ w ∈ u_ws RX11 TX11 13, w ∈ (wu yX11_questions cX11_questions 3 (some .int)) := fun _ h => List.mem_cons_of_mem _ (up_70 h)
  have hinX5 : ∀ w ∈ u_ws RX5 TX5 14, w ∈ (wu yX11_questions cX11_questions 3 (some .int)) := fun _ h => List.mem_cons_of_mem _ (up_76 h)
  have J18 : ∀ (H : Heap) (locs : List Loc) (ls : Array Slot) (w1 : va_W), Wd dC dI A s.heap H locs w1 → TW ksC ad cy B qr s1 w1 → FE ksC [(8, 6, 6), (42, 0, 1100), (43, 0, 1100), (44, 0, 11), (47, 0, 2420)] w0 w1 → lv_has ls 3 [(0, .ref (ad 0)), (1, .int a1), (2, .int a2)] → W p l e ({ frames := 6, cells := 0, slots := 0, locals := 130 }) s m (List.toArray [.ref (ad 0), .int a1, .int a2]) below meth c H locs 0 0 (MQ below (va_Qi (P_X11_questions_1 ad cy B qr s1 a1 a2 w0) (fun u : va_W => wpost dC dI cy A u) A) (List.toArray [.ref (ad 0), .int a1, .int a2]) s 0 0 A) (F0 m 18 ls []) := by
    intro H locs ls w1 hw hT hF hl
    refine lv_iconst (v := (-1)) hx hb dX11_questions_18 (by decide) ?_
    exact tk_iret hC hr hlocks hK ⟨hT, hF, (Or.inr (Or.inr rfl))⟩ hw dX11_questions_19
  refine lv_aload_n hx hb dX11_questions_0 rfl (lv_at hl 0 rfl) ?_
  refine lv_iload_n hx hb dX11_questions_1 rfl (lv_at hl 1 rfl) ?_
  refine tk_Vi hC hK hw hT hA hE hSR kC_at0 (by decide) rfl (k_X11_hasWalker_1 l adK adV dC dI cy ad B hB0 (Int.le_trans hB1 (by decide)) qr s1   a1 w0 s.heap.size hT ) (cwV 1 hC.2.2.2.2 uV_RX11_205 rfl rfl rfl (by decide +kernel) ⟨Nat.le_of_ble_eq_true rfl, Nat.le_of_ble_eq_true rfl⟩) rfl hl.1 rfl (Nat.le_of_ble_eq_true rfl) dX11_questions_2 (fun r2 w4 H locs hp3 hw => ?_)
  obtain ⟨hT, k5, hg10⟩ := hp3
  have hF := hF.tr k5 (by decide)
  rcases hg10 with rfl | ⟨rfl, g6, g7, ⟨x8, c9, rx8, tx8⟩⟩
  · refine lv_if_eq (tgt := 18) hx hb dX11_questions_5 (by decide) (fun _ => ?_) (fun c => absurd (by decide) c)
    exact J18  H locs ls w4   hw hT hF  (lv_sub hl [0, 1, 2] rfl)
  · refine lv_if_eq (tgt := 18) hx hb dX11_questions_5 (by decide) (fun c => absurd c (by decide)) (fun _ => ?_)
    refine lv_iload_n hx hb dX11_questions_8 rfl (lv_at hl 2 rfl) ?_
    refine lv_if_lt (tgt := 18) hx hb dX11_questions_9 (by decide) (fun c11 => ?_) (fun c11 => ?_)
    · have c11 : a2.toInt < (0 : Int) := wk_lt.mp c11
      exact J18  H locs ls w4   hw hT hF  (lv_sub hl [0, 1, 2] rfl)
    · have c11 : (0 : Int) ≤ a2.toInt := wk_ltF c11
      refine lv_iload_n hx hb dX11_questions_12 rfl (lv_at hl 2 rfl) ?_
      refine lv_bipush (v := 120) hx hb dX11_questions_13 (by decide) ?_
      refine lv_icmp_le (tgt := 20) hx hb dX11_questions_15 (by decide) (fun c12 => ?_) (fun c12 => ?_)
      · have c12 : a2.toInt ≤ (120 : Int) := wk_le.mp c12
        refine lv_aload_n hx hb dX11_questions_20 rfl (lv_at hl 0 rfl) ?_
        refine tk_getA hC hK hw hT hinX11 kC_at0 (by decide) rfl 7 (by decide) (List.mem_cons_of_mem _ uw_1_14) rfl rfl dX11_questions_21 ?_
        refine tk_Vv hC hK hw hT hA hE hSR kC_at145 (by decide) rfl (k_X0_refreshAll_1 l adK adV dC dI cy ad B hB0 (Int.le_trans hB1 (by decide)) qr s1    w4 H.size hT ) (cwV 0 hC.2.2.2.2 uV_RX11_212 rfl rfl rfl (by decide +kernel) ⟨Nat.le_of_ble_eq_true rfl, Nat.le_of_ble_eq_true rfl⟩) rfl hl.1 rfl (Nat.le_of_ble_eq_true rfl) dX11_questions_24 (fun w15 H locs hp14 hw => ?_)
        obtain ⟨hT, k16, hg17⟩ := hp14
        have hF := hF.tr k16 (by decide)
        have c18 := k16.gi kC_at38 (by decide) c9
        clear hg17
        refine lv_aload_n hx hb dX11_questions_27 rfl (lv_at hl 0 rfl) ?_
        refine tk_getA hC hK hw hT hinX11 kC_at0 (by decide) rfl 9 (by decide) (List.mem_cons_of_mem _ uw_1_22) rfl rfl dX11_questions_28 ?_
        refine lv_aload_n hx hb dX11_questions_31 rfl (lv_at hl 0 rfl) ?_
        refine tk_getA hC hK hw hT hinX11 kC_at0 (by decide) rfl 4 (by decide) (List.mem_cons_of_mem _ uw_1_7) rfl rfl dX11_questions_32 ?_
        refine tk_getO hC hK hw hT hinX5 kC_at38 (by decide) rfl 2 (by decide) (List.mem_cons_of_mem _ uw_39_0) rfl rfl dX11_questions_35 ?_
        refine lv_iload_n hx hb dX11_questions_38 rfl (lv_at hl 1 rfl) ?_
        refine tk_aald hC hK hw hT kC_at49 rfl (by decide) rfl (show 0 ≤ a1.toInt by first | with_reducible assumption | omega) (show a1.toInt < 4 by first | with_reducible assumption | omega) dX11_questions_39 (fun j19 hj19 gj19 => ?_)
        refine lv_iload_n hx hb dX11_questions_40 rfl (lv_at hl 2 rfl) ?_
        refine tk_Vi hC hK hw hT hA hE hSR kC_at151 (by decide) rfl (k_X8_fewestQuestions_1 l adK adV dC dI cy ad B hB0 (Int.le_trans hB1 (by decide)) qr s1   (el 33 49 j19) (kC_el33 kC_at49 hj19) a2 (show 0 ≤ a2.toInt from c11) (show a2.toInt ≤ 120 from c12) w15 H.size hT ) (cwV 2 hC.2.2.2.2 uV_RX11_239 rfl rfl rfl (by decide +kernel) ⟨Nat.le_of_ble_eq_true rfl, Nat.le_of_ble_eq_true rfl⟩) rfl hl.1 rfl (Nat.le_of_ble_eq_true rfl) dX11_questions_41 (fun r20 w22 H locs hp21 hw => ?_)
        obtain ⟨hT, k23, hg26⟩ := hp21
        have hF := hF.tr k23 (by decide)
        have c27 := k23.gi kC_at38 (by decide) c18
        rcases hg26 with rfl | ⟨g24, g25⟩
        · exact tk_iret hC hr hlocks hK ⟨hT, hF, (Or.inl ⟨rfl, (show 0 ≤ a1.toInt by first | with_reducible assumption | omega), (show a1.toInt ≤ 3 by first | with_reducible assumption | omega), (show 0 ≤ a2.toInt from c11), (show a2.toInt ≤ 120 from c12), ⟨x8, c27, (show 1 ≤ x8.toInt by first | with_reducible assumption | omega), (show x8.toInt ≤ 4 by first | with_reducible assumption | omega)⟩⟩)⟩ hw dX11_questions_44
        · exact tk_iret hC hr hlocks hK ⟨hT, hF, (Or.inr (Or.inl ⟨(show 0 ≤ r20.toInt by first | with_reducible assumption | omega), (show r20.toInt ≤ 999999 by first | with_reducible assumption | omega), (show 0 ≤ a1.toInt by first | with_reducible assumption | omega), (show a1.toInt ≤ 3 by first | with_reducible assumption | omega), (show 0 ≤ a2.toInt from c11), (show a2.toInt ≤ 120 from c12), ⟨x8, c27, (show 1 ≤ x8.toInt by first | with_reducible assumption | omega), (show x8.toInt ≤ 4 by first | with_reducible assumption | omega)⟩⟩))⟩ hw dX11_questions_44
      · have c12 : (120 : Int) < a2.toInt := wk_leF c12
        exact J18  H locs ls w4   hw hT hF  (lv_sub hl [0, 1, 2] rfl)
