abbrev P_X1_takeStep_2 (ad : Nat → Nat) (cy : Nat → ClassId) (B : Int) (qr : Nat) (s1 : Int)  (w0 : va_W) : Int32 → va_W → Prop := fun r u => TW ksC ad cy (B + 9) qr s1 u ∧ FE ksC [(1, 4, 4), (1, 5, 5), (1, 6, 6), (1, 7, 7), (1, 8, 8), (9, 0, 0), (9, 4, 4), (9, 5, 5), (9, 6, 6), (9, 7, 7), (9, 8, 8), (45, 0, 64)] w0 u ∧ (((∃ y : Int32, gi u 149 8 = y ∧ 0 ≤ y.toInt ∧ y.toInt ≤ 999999)) ∨ (r = 4))
set_option maxHeartbeats 4000000 in
set_option maxRecDepth 100000 in
theorem k_X1_takeStep_2 (l : Launch) (adK adV : Nat → Nat) (dC : Nat → ClassId) (dI : Nat → Nat → Nat) (cy : Nat → ClassId) (ad : Nat → Nat) (B : Int) (hB0 : 2147483648 ≤ B) (hB1 : B ≤ 1152921504606846976) (qr : Nat) (s1 : Int)   (w0 : va_W) (sz : Nat) (hT : TW ksC ad cy B qr s1 w0)  : Met l yX1_takeStep (wu yX1_takeStep cX1_takeStep 4 (some .int)) ({ frames := 5, cells := 0, slots := 0, locals := 112 }) (va_Pc [.ref (ad 149), .ref (ad 152)] (wpreS adK adV dC dI cy sz w0)) (va_Qi (P_X1_takeStep_2 ad cy B qr s1  w0) (fun u : va_W => wpost dC dI cy (va_A w0 sz) u) (va_A w0 sz)) 0 0 (va_A w0 sz) := by
  refine Met.ofW (cc := cX1_takeStep) (maxL := 4) (ret := (some .int)) (by decide) rfl ?_
  intro p e s m args below meth c s₁ Bk hml hv
  obtain ⟨rfl, ⟨hsz, hP, hK, hD0⟩, hE, hSR⟩ := hv
  have hx := Bk.exec
  have hb := Bk.bytes
  have hr := Bk.returns
  have hlocks := Bk.notSynchronized
  have hC : CallFix p m c cX1_takeStep 4 s _ (wu yX1_takeStep cX1_takeStep 4 (some .int)) RX1 := ⟨hx, hb, hml, findClass_of_methodNamed Bk.named, atoms_spec (ws := (wu yX1_takeStep cX1_takeStep 4 (some .int))) Bk.pre⟩
  subst hsz
  have hD := hD0.self (sz := s.heap.size)
  generalize hAe : va_A w0 s.heap.size = A at hD hE ⊢
  have hA : ∀ q : Nat, s.heap.size ≤ q → A q := fun q h => by rw [← hAe]; exact Or.inr h
  have hw : Wd dC dI A s.heap s.heap [] w0 := ⟨hP, hD, va_S.rf⟩
  have hF : FE ksC [(1, 4, 4), (1, 5, 5), (1, 6, 6), (1, 7, 7), (1, 8, 8), (9, 0, 0), (9, 4, 4), (9, 5, 5), (9, 6, 6), (9, 7, 7), (9, 8, 8), (45, 0, 64)] w0 w0 := FE.rf
  have hl := lv_entry ([.ref (ad 149), .ref (ad 152)]) (n := 4) (Nat.le_of_ble_eq_true rfl)
  rw [lg_entry_eq]
  generalize (lg_sl ([.ref (ad 149), .ref (ad 152)]) ++ List.replicate (4 - (lg_sl ([.ref (ad 149), .ref (ad 152)])).length) Slot.unset).toArray = ls at hl ⊢
  have hl : lv_has ls 4 [(0, .ref (ad 149)), (1, .ref (ad 152))] := hl
  generalize hloc : ([] : List Loc) = locs at hw ⊢
  have hinX9 : ∀ w ∈ u_ws RX9 TX9 9, w ∈ (wu yX1_takeStep cX1_takeStep 4 (some .int)) := fun _ h => List.mem_cons_of_mem _ (up_82 h)
  have hinX1 : ∀ w ∈ u_ws RX1 TX1 10, w ∈ (wu yX1_takeStep cX1_takeStep 4 (some .int)) := fun _ h => List.mem_cons_of_mem _ (up_78 h)
  have hinX2 : ∀ w ∈ u_ws RX2 TX2 6, w ∈ (wu yX1_takeStep cX1_takeStep 4 (some .int)) := fun _ h => List.mem_cons_of_mem _ (up_74 h)
  have J155 : ∀ (v155_3 : Int32) (f155_149_8 : Int32) (f155_152_3 : Int32) (H : Heap) (locs : List Loc) (ls : Array Slot) (w1 : va_W), 0 ≤ f155_149_8.toInt → f155_149_8.toInt ≤ 999999 → Wd dC dI A s.heap H locs w1 → TW ksC ad cy (B + 9) qr s1 w1 → FE ksC [(1, 4, 4), (1, 5, 5), (1, 6, 6), (1, 7, 7), (1, 8, 8), (9, 0, 0), (9, 4, 4), (9, 5, 5), (9, 6, 6), (9, 7, 7), (9, 8, 8), (45, 0, 64)] w0 w1 → gi w1 149 8 = f155_149_8 → gi w1 152 3 = f155_152_3 → lv_has ls 4 [(0, .ref (ad 149)), (1, .ref (ad 152)), (3, .int v155_3)] → W p l e ({ frames := 5, cells := 0, slots := 0, locals := 112 }) s m (List.toArray [.ref (ad 149), .ref (ad 152)]) below meth c H locs 0 0 (MQ below (va_Qi (P_X1_takeStep_2 ad cy B qr s1  w0) (fun u : va_W => wpost dC dI cy A u) A) (List.toArray [.ref (ad 149), .ref (ad 152)]) s 0 0 A) (F0 m 155 ls []) := by
    intro v155_3 f155_149_8 f155_152_3 H locs ls w1 r2 t3 hw hT hF c4 c5 hl
    refine lv_aload_n hx hb dX1_takeStep_155 rfl (lv_at hl 1 rfl) ?_
    refine lv_dup hx hb dX1_takeStep_156 rfl ?_
    refine tk_geti hC hK hw hT hinX9 kC_at152 (by decide) rfl 5 (by decide) (List.mem_cons_of_mem _ uw_42_11) rfl rfl dX1_takeStep_157 (fun x6 c7 rx6 tx6 => ?_)
    refine lv_iconst (v := 1) hx hb dX1_takeStep_160 (by decide) ?_
    refine lv_iadd hx hb dX1_takeStep_161 ?_
    have nx8 := wk_i32 x6
    refine lv_topi (fun x9 ex9 => ?_)
    refine tk_puti hC hK hw hT hinX9 tyX9_ok nmX9 kC_at152 (by decide) rfl rfl 5 (by decide) (List.mem_cons_of_mem _ uw_42_11) rfl rfl rfl rfl (wk_i32 x9).1 (wk_i32 x9).2 dX1_takeStep_162 (fun H locs w10 hw hT k12 c11 => ?_)
    have hF := hF.put kC_at152 (k := 5) (by decide) k12
    have c13 := k12.gi (Or.inr (by decide)) c4
    have c14 := k12.gi (Or.inr (by decide)) c5
    refine lv_iload_n hx hb dX1_takeStep_165 rfl (lv_at hl 2 rfl) ?_
    exact tk_iret hC hr hlocks hK ⟨hT, hF, (Or.inl ⟨f155_149_8, c13, (show 0 ≤ f155_149_8.toInt from r2), (show f155_149_8.toInt ≤ 999999 from t3)⟩)⟩ hw dX1_takeStep_166
  have J145 : ∀ (v145_3 : Int32) (f145_149_8 : Int32) (f145_152_3 : Int32) (H : Heap) (locs : List Loc) (ls : Array Slot) (w15 : va_W), 0 ≤ f145_149_8.toInt → f145_149_8.toInt ≤ 999999 → Wd dC dI A s.heap H locs w15 → TW ksC ad cy B qr s1 w15 → FE ksC [(1, 4, 4), (1, 5, 5), (1, 6, 6), (1, 7, 7), (1, 8, 8), (9, 0, 0), (9, 4, 4), (9, 5, 5), (9, 6, 6), (9, 7, 7), (9, 8, 8), (45, 0, 64)] w0 w15 → gi w15 149 8 = f145_149_8 → gi w15 152 3 = f145_152_3 → lv_has ls 4 [(0, .ref (ad 149)), (1, .ref (ad 152)), (3, .int v145_3)] → W p l e ({ frames := 5, cells := 0, slots := 0, locals := 112 }) s m (List.toArray [.ref (ad 149), .ref (ad 152)]) below meth c H locs 0 0 (MQ below (va_Qi (P_X1_takeStep_2 ad cy B qr s1  w0) (fun u : va_W => wpost dC dI cy A u) A) (List.toArray [.ref (ad 149), .ref (ad 152)]) s 0 0 A) (F0 m 145 ls []) := by
    intro v145_3 f145_149_8 f145_152_3 H locs ls w15 r16 t17 hw hT hF c18 c19 hl
    refine lv_aload_n hx hb dX1_takeStep_145 rfl (lv_at hl 1 rfl) ?_
    refine lv_dup hx hb dX1_takeStep_146 rfl ?_
    refine tk_getB hC hK hw hT hinX9 kC_at152 (by decide) rfl 4 (by decide) (List.mem_cons_of_mem _ uw_42_10) rfl rfl dX1_takeStep_147 (fun x20 c21 rx20 tx20 => ?_)
    refine lv_lconst (v := 1) hx hb dX1_takeStep_150 (by decide) ?_
    refine lv_ladd hx hb dX1_takeStep_151 ?_
    refine lv_topl (fun x22 ex22 => ?_)
    have ex22 : x22.toInt = x20.toInt + (1 : Int) := by rw [ex22]; exact wk_addl (show (-9223372036854775808) ≤ x20.toInt + (1 : Int) by omega) (show x20.toInt + (1 : Int) ≤ 9223372036854775807 by omega)
    have hT := hT.up (show B ≤ (B + 1) by omega)
    refine tk_putB hC hK hw hT hinX9 tyX9_ok nmX9 kC_at152 (by decide) rfl rfl 4 (by decide) (List.mem_cons_of_mem _ uw_42_10) rfl rfl rfl rfl (show 0 ≤ x22.toInt by first | with_reducible assumption | omega) (show x22.toInt ≤ (B + 1) by omega) dX1_takeStep_152 (fun H locs w23 hw hT k25 c24 => ?_)
    have hF := hF.put kC_at152 (k := 4) (by decide) k25
    have c26 := k25.gi (Or.inr (by decide)) c18
    have c27 := k25.gi (Or.inr (by decide)) c19
    exact J155 v145_3 f145_149_8 f145_152_3 H locs ls w23 (show 0 ≤ f145_149_8.toInt from r16) (show f145_149_8.toInt ≤ 999999 from t17)  hw (hT.up (show (B + 1) ≤ (B + 9) by omega)) hF c26 c27 (lv_sub hl [0, 1, 2] rfl)
  have J40 : ∀ (f40_152_3 : Int32) (H : Heap) (locs : List Loc) (ls : Array Slot) (w28 : va_W), Wd dC dI A s.heap H locs w28 → TW ksC ad cy B qr s1 w28 → FE ksC [(1, 4, 4), (1, 5, 5), (1, 6, 6), (1, 7, 7), (1, 8, 8), (9, 0, 0), (9, 4, 4), (9, 5, 5), (9, 6, 6), (9, 7, 7), (9, 8, 8), (45, 0, 64)] w0 w28 → gi w28 152 3 = f40_152_3 → lv_has ls 4 [(0, .ref (ad 149)), (1, .ref (ad 152))] → W p l e ({ frames := 5, cells := 0, slots := 0, locals := 112 }) s m (List.toArray [.ref (ad 149), .ref (ad 152)]) below meth c H locs 0 0 (MQ below (va_Qi (P_X1_takeStep_2 ad cy B qr s1  w0) (fun u : va_W => wpost dC dI cy A u) A) (List.toArray [.ref (ad 149), .ref (ad 152)]) s 0 0 A) (F0 m 40 ls []) := by
    intro f40_152_3 H locs ls w28 hw hT hF c29 hl
    refine lv_null hx hb dX1_takeStep_40 ?_
    refine lv_astore_nN (lv' := [(2, .null), (0, .ref (ad 149)), (1, .ref (ad 152))]) hx hb dX1_takeStep_41 rfl hl (by decide) rfl (fun ls hl => ?_)
    refine lv_aload_n hx hb dX1_takeStep_42 rfl (lv_at hl 1 rfl) ?_
    refine lv_aload_n hx hb dX1_takeStep_43 rfl (lv_at hl 2 rfl) ?_
    refine lv_aload_nN hx hb dX1_takeStep_44 rfl (lv_at hl 0 rfl) ?_
    refine lv_ifnullN (tgt := 59) hx hb dX1_takeStep_45 (by decide) ?_
    refine lv_iconst (v := 0) hx hb dX1_takeStep_59 (by decide) ?_
    refine tk_Vv hC hK hw hT hA hE hSR kC_at149 (by decide) rfl (k_X1_lookAround_3 l adK adV dC dI cy ad B hB0 (Int.le_trans hB1 (by decide)) qr s1    w28 H.size hT ) (cwV 2 hC.2.2.2.2 uV_RX1_47 rfl rfl rfl (by decide +kernel) ⟨Nat.le_of_ble_eq_true rfl, Nat.le_of_ble_eq_true rfl⟩) rfl hl.1 rfl (Nat.le_of_ble_eq_true rfl) dX1_takeStep_60 (fun w32 H locs hp31 hw => ?_)
    obtain ⟨hT, k33, hg38⟩ := hp31
    have hF := hF.tr k33 (by decide)
    have c39 := k33.gi kC_at152 (by decide) c29
    obtain ⟨⟨x34, c35, rx34, tx34⟩, ⟨x36, c37, rx36, tx36⟩⟩ := hg38
    refine lv_aload_nN hx hb dX1_takeStep_63 rfl (lv_at hl 0 rfl) ?_
    refine lv_ifnullN (tgt := 76) hx hb dX1_takeStep_64 (by decide) ?_
    refine lv_aload_n hx hb dX1_takeStep_76 rfl (lv_at hl 1 rfl) ?_
    refine tk_geti hC hK hw hT hinX1 kC_at149 (by decide) rfl 6 (by decide) (List.mem_cons_of_mem _ uw_42_5) rfl rfl dX1_takeStep_77 (fun x40 c41 rx40 tx40 => ?_)
    refine lv_if_eq (tgt := 87) hx hb dX1_takeStep_80 (by decide) (fun c42 => ?_) (fun c42 => ?_)
    · have c42 : x40.toInt = (0 : Int) := wk_eq.mp c42
      refine lv_iconst (v := 3) hx hb dX1_takeStep_87 (by decide) ?_
      refine lv_istore_n (lv' := [(3, .int 3), (2, .null), (0, .ref (ad 149)), (1, .ref (ad 152))]) hx hb dX1_takeStep_88 rfl hl (by decide) rfl (fun ls hl => ?_)
      refine lv_iload_n hx hb dX1_takeStep_89 rfl (lv_at hl 0 rfl) ?_
      refine lv_if_ne (tgt := 105) hx hb dX1_takeStep_90 (by decide) (fun _ => ?_) (fun c => absurd c (by decide))
      refine lv_iload_n hx hb dX1_takeStep_105 rfl (lv_at hl 0 rfl) ?_
      refine lv_iconst (v := 1) hx hb dX1_takeStep_106 (by decide) ?_
      refine lv_icmp_ne (tgt := 122) hx hb dX1_takeStep_107 (by decide) (fun _ => ?_) (fun c => absurd c (by decide))
      refine lv_iload_n hx hb dX1_takeStep_122 rfl (lv_at hl 0 rfl) ?_
      refine lv_iconst (v := 2) hx hb dX1_takeStep_123 (by decide) ?_
      refine lv_icmp_ne (tgt := 145) hx hb dX1_takeStep_124 (by decide) (fun _ => ?_) (fun c => absurd c (by decide))
      exact J145 3 x36 f40_152_3 H locs ls w32 (show 0 ≤ x36.toInt by first | with_reducible assumption | omega) (show x36.toInt ≤ 999999 by first | with_reducible assumption | omega)  hw hT hF c37 c39 (lv_sub hl [2, 3, 0] rfl)
    · have c42 : ¬ x40.toInt = (0 : Int) := wk_eqF c42
      refine lv_iconst (v := 0) hx hb dX1_takeStep_83 (by decide) ?_
      refine lv_goto (tgt := 88) hx hb dX1_takeStep_84 (by decide) ?_
      refine lv_istore_n (lv' := [(3, .int 0), (2, .null), (0, .ref (ad 149)), (1, .ref (ad 152))]) hx hb dX1_takeStep_88 rfl hl (by decide) rfl (fun ls hl => ?_)
      refine lv_iload_n hx hb dX1_takeStep_89 rfl (lv_at hl 0 rfl) ?_
      refine lv_if_ne (tgt := 105) hx hb dX1_takeStep_90 (by decide) (fun c => absurd (by decide) c) (fun _ => ?_)
      refine lv_aload_n hx hb dX1_takeStep_93 rfl (lv_at hl 2 rfl) ?_
      refine lv_aload_n hx hb dX1_takeStep_94 rfl (lv_at hl 3 rfl) ?_
      refine lv_aload_n hx hb dX1_takeStep_95 rfl (lv_at hl 2 rfl) ?_
      refine tk_geti hC hK hw hT hinX1 kC_at149 (by decide) rfl 5 (by decide) (List.mem_cons_of_mem _ uw_42_6) rfl rfl dX1_takeStep_96 (fun x43 c44 rx43 tx43 => ?_)
      refine tk_Vv hC hK hw hT hA hE hSR kC_at149 (by decide) rfl (k_X1_follow_3 l adK adV dC dI cy ad B hB0 (Int.le_trans hB1 (by decide)) qr s1   x43 (show (-1) ≤ x43.toInt from rx43) (show x43.toInt ≤ 11 from tx43) w32 H.size hT ) (cwV 2 hC.2.2.2.2 uV_RX1_61 rfl rfl rfl (by decide +kernel) ⟨Nat.le_of_ble_eq_true rfl, Nat.le_of_ble_eq_true rfl⟩) rfl hl.1 rfl (Nat.le_of_ble_eq_true rfl) dX1_takeStep_99 (fun w47 H locs hp46 hw => ?_)
      obtain ⟨hT, k48, hg49⟩ := hp46
      have hF := hF.tr k48 (by decide)
      have c50 := k48.gi kC_at152 (by decide) c39
      have c51 := k48.gi kC_at149 (by decide) c35
      have c52 := k48.gi kC_at149 (by decide) c37
      have c53 := k48.gi kC_at149 (by decide) c41
      have c54 := k48.gi kC_at149 (by decide) c44
      clear hg49
      refine lv_goto (tgt := 155) hx hb dX1_takeStep_102 (by decide) ?_
      exact J155 0 x36 f40_152_3 H locs ls w47 (show 0 ≤ x36.toInt by first | with_reducible assumption | omega) (show x36.toInt ≤ 999999 by first | with_reducible assumption | omega)  hw hT hF c52 c50 (lv_sub hl [2, 3, 0] rfl)
  refine lv_aload_n hx hb dX1_takeStep_0 rfl (lv_at hl 1 rfl) ?_
  refine tk_Vi hC hK hw hT hA hE hSR kC_at152 (by decide) rfl (k_X9_isAtGoal_2 l adK adV dC dI cy ad B hB0 (Int.le_trans hB1 (by decide)) qr s1    w0 s.heap.size hT ) (cwV 0 hC.2.2.2.2 uV_RX1_31 rfl rfl rfl (by decide +kernel) ⟨Nat.le_of_ble_eq_true rfl, Nat.le_of_ble_eq_true rfl⟩) rfl hl.1 rfl (Nat.le_of_ble_eq_true rfl) dX1_takeStep_1 (fun r55 w57 H locs hp56 hw => ?_)
  obtain ⟨hT, k58, hg59⟩ := hp56
  have hF := hF.tr k58 (by decide)
  rcases hg59 with rfl | rfl
  · refine lv_if_eq (tgt := 9) hx hb dX1_takeStep_4 (by decide) (fun _ => ?_) (fun c => absurd (by decide) c)
    refine lv_aload_n hx hb dX1_takeStep_9 rfl (lv_at hl 1 rfl) ?_
    refine tk_geti hC hK hw hT hinX9 kC_at152 (by decide) rfl 3 (by decide) (List.mem_cons_of_mem _ uw_42_3) rfl rfl dX1_takeStep_10 (fun x60 c61 rx60 tx60 => ?_)
    refine lv_if_lt (tgt := 40) hx hb dX1_takeStep_13 (by decide) (fun c62 => ?_) (fun c62 => ?_)
    · have c62 : x60.toInt < (0 : Int) := wk_lt.mp c62
      exact J40 x60 H locs ls w57   hw hT hF c61 (lv_sub hl [0, 1] rfl)
    · have c62 : (0 : Int) ≤ x60.toInt := wk_ltF c62
      refine lv_aload_n hx hb dX1_takeStep_16 rfl (lv_at hl 1 rfl) ?_
      refine tk_geti hC hK hw hT hinX9 kC_at152 (by decide) rfl 3 (by decide) (List.mem_cons_of_mem _ uw_42_3) rfl rfl dX1_takeStep_17 (fun x63 c64 rx63 tx63 => ?_)
      refine wk_top x60 (c64.symm.trans c61) ?_
      refine lv_aload_n hx hb dX1_takeStep_20 rfl (lv_at hl 0 rfl) ?_
      refine tk_getA hC hK hw hT hinX1 kC_at149 (by decide) rfl 2 (by decide) (List.mem_cons_of_mem _ uw_5_2) rfl rfl dX1_takeStep_21 ?_
      refine tk_alenR (v := 6) hC hK hw hT kC_at4 rfl (by decide) rfl (by decide) dX1_takeStep_24 ?_
      refine lv_icmp_ge (tgt := 40) hx hb dX1_takeStep_25 (by decide) (fun c65 => ?_) (fun c65 => ?_)
      · have c65 : (6 : Int) ≤ x60.toInt := wk_le.mp c65
        exact J40 x60 H locs ls w57   hw hT hF c61 (lv_sub hl [0, 1] rfl)
      · have c65 : x60.toInt < (6 : Int) := wk_leF c65
        refine lv_aload_n hx hb dX1_takeStep_28 rfl (lv_at hl 0 rfl) ?_
        refine tk_getA hC hK hw hT hinX1 kC_at149 (by decide) rfl 2 (by decide) (List.mem_cons_of_mem _ uw_5_2) rfl rfl dX1_takeStep_29 ?_
        refine lv_aload_n hx hb dX1_takeStep_32 rfl (lv_at hl 1 rfl) ?_
        refine tk_geti hC hK hw hT hinX9 kC_at152 (by decide) rfl 3 (by decide) (List.mem_cons_of_mem _ uw_42_3) rfl rfl dX1_takeStep_33 (fun x66 c67 rx66 tx66 => ?_)
        refine wk_top x60 (c67.symm.trans c61) ?_
        refine tk_aald hC hK hw hT kC_at4 rfl (by decide) rfl (show 0 ≤ x60.toInt from c62) (show x60.toInt < 6 from c65) dX1_takeStep_36 (fun j68 hj68 gj68 => ?_)
        refine lv_goto (tgt := 41) hx hb dX1_takeStep_37 (by decide) ?_
        refine lv_astore_n (lv' := [(2, .ref (ad (el 39 4 j68))), (0, .ref (ad 149)), (1, .ref (ad 152))]) hx hb dX1_takeStep_41 rfl hl (by decide) rfl (fun ls hl => ?_)
        refine lv_aload_n hx hb dX1_takeStep_42 rfl (lv_at hl 1 rfl) ?_
        refine lv_aload_n hx hb dX1_takeStep_43 rfl (lv_at hl 2 rfl) ?_
        refine lv_aload_n hx hb dX1_takeStep_44 rfl (lv_at hl 0 rfl) ?_
        refine lv_ifnull hx hb dX1_takeStep_45 ?_
        refine lv_aload_n hx hb dX1_takeStep_48 rfl (lv_at hl 0 rfl) ?_
        refine tk_geti hC hK hw hT hinX2 (kC_el39 kC_at4 hj68) (by decide) rfl 5 (by decide) (List.mem_cons_of_mem _ uw_42_4) rfl rfl dX1_takeStep_49 (fun x69 c70 rx69 tx69 => ?_)
        refine lv_if_eq (tgt := 59) hx hb dX1_takeStep_52 (by decide) (fun c71 => ?_) (fun c71 => ?_)
        · have c71 : x69.toInt = (0 : Int) := wk_eq.mp c71
          refine lv_iconst (v := 0) hx hb dX1_takeStep_59 (by decide) ?_
          refine tk_Vv hC hK hw hT hA hE hSR kC_at149 (by decide) rfl (k_X1_lookAround_3 l adK adV dC dI cy ad B hB0 (Int.le_trans hB1 (by decide)) qr s1    w57 H.size hT ) (cwV 2 hC.2.2.2.2 uV_RX1_47 rfl rfl rfl (by decide +kernel) ⟨Nat.le_of_ble_eq_true rfl, Nat.le_of_ble_eq_true rfl⟩) rfl hl.1 rfl (Nat.le_of_ble_eq_true rfl) dX1_takeStep_60 (fun w74 H locs hp73 hw => ?_)
          obtain ⟨hT, k75, hg80⟩ := hp73
          have hF := hF.tr k75 (by decide)
          have c81 := k75.gi kC_at152 (by decide) c61
          have c82 := k75.gi (kC_el39 kC_at4 hj68) (by decide) c70
          obtain ⟨⟨x76, c77, rx76, tx76⟩, ⟨x78, c79, rx78, tx78⟩⟩ := hg80
          refine lv_aload_n hx hb dX1_takeStep_63 rfl (lv_at hl 0 rfl) ?_
          refine lv_ifnull hx hb dX1_takeStep_64 ?_
          refine lv_aload_n hx hb dX1_takeStep_67 rfl (lv_at hl 1 rfl) ?_
          refine lv_aload_n hx hb dX1_takeStep_68 rfl (lv_at hl 2 rfl) ?_
          refine lv_aload_n hx hb dX1_takeStep_69 rfl (lv_at hl 0 rfl) ?_
          refine tk_Vi hC hK hw hT hA hE hSR kC_at149 (by decide) rfl (k_X1_chooseDeed_2 l adK adV dC dI cy ad B hB0 (Int.le_trans hB1 (by decide)) qr s1   (el 39 4 j68) (kC_el39 kC_at4 hj68) w74 H.size hT ) (cwV 2 hC.2.2.2.2 uV_RX1_51 rfl rfl rfl (by decide +kernel) ⟨Nat.le_of_ble_eq_true rfl, Nat.le_of_ble_eq_true rfl⟩) rfl hl.1 rfl (Nat.le_of_ble_eq_true rfl) dX1_takeStep_70 (fun r83 w85 H locs hp84 hw => ?_)
          obtain ⟨hT, k86, hg91⟩ := hp84
          have hF := hF.tr k86 (by decide)
          have c92 := k86.gi kC_at152 (by decide) c81
          have c93 := k86.gi (kC_el39 kC_at4 hj68) (by decide) c82
          have c94 := k86.gi kC_at149 (by decide) c77
          have c95 := k86.gi kC_at149 (by decide) c79
          rcases hg91 with ⟨x87, c88, rx87, tx87⟩ | ⟨g89, g90⟩
          · refine lv_goto (tgt := 88) hx hb dX1_takeStep_73 (by decide) ?_
            refine lv_istore_n (lv' := [(3, .int r83), (2, .ref (ad (el 39 4 j68))), (0, .ref (ad 149)), (1, .ref (ad 152))]) hx hb dX1_takeStep_88 rfl hl (by decide) rfl (fun ls hl => ?_)
            refine lv_iload_n hx hb dX1_takeStep_89 rfl (lv_at hl 0 rfl) ?_
            refine lv_if_ne (tgt := 105) hx hb dX1_takeStep_90 (by decide) (fun c96 => ?_) (fun c96 => ?_)
            · have c96 : ¬ r83.toInt = (0 : Int) := wk_eqF c96
              refine lv_iload_n hx hb dX1_takeStep_105 rfl (lv_at hl 0 rfl) ?_
              refine lv_iconst (v := 1) hx hb dX1_takeStep_106 (by decide) ?_
              refine lv_icmp_ne (tgt := 122) hx hb dX1_takeStep_107 (by decide) (fun c97 => ?_) (fun c97 => ?_)
              · have c97 : ¬ r83.toInt = (1 : Int) := wk_eqF c97
                refine lv_iload_n hx hb dX1_takeStep_122 rfl (lv_at hl 0 rfl) ?_
                refine lv_iconst (v := 2) hx hb dX1_takeStep_123 (by decide) ?_
                refine lv_icmp_ne (tgt := 145) hx hb dX1_takeStep_124 (by decide) (fun c98 => ?_) (fun c98 => ?_)
                · have c98 : ¬ r83.toInt = (2 : Int) := wk_eqF c98
                  exact J145 r83 x78 x60 H locs ls w85 (show 0 ≤ x78.toInt by first | with_reducible assumption | omega) (show x78.toInt ≤ 999999 by first | with_reducible assumption | omega)  hw hT hF c95 c92 (lv_sub hl [2, 3, 0] rfl)
                · have c98 : r83.toInt = (2 : Int) := wk_eq.mp c98
                  refine lv_aload_n hx hb dX1_takeStep_127 rfl (lv_at hl 3 rfl) ?_
                  refine lv_aload_n hx hb dX1_takeStep_128 rfl (lv_at hl 3 rfl) ?_
                  refine tk_Vl hC hK hw hT hA hE hSR kC_at152 (by decide) rfl (k_X9_dayNow_2 l adK adV dC dI cy ad B hB0 (Int.le_trans hB1 (by decide)) qr s1    w85 H.size hT ) (cwV 0 hC.2.2.2.2 uV_RX1_68 rfl rfl rfl (by decide +kernel) ⟨Nat.le_of_ble_eq_true rfl, Nat.le_of_ble_eq_true rfl⟩) rfl hl.1 rfl (Nat.le_of_ble_eq_true rfl) dX1_takeStep_129 (fun r99 w101 H locs hp100 hw => ?_)
                  obtain ⟨hT, k102, hg105⟩ := hp100
                  have hF := hF.tr k102 (by decide)
                  have c106 := k102.gi kC_at152 (by decide) c92
                  have c107 := k102.gi (kC_el39 kC_at4 hj68) (by decide) c93
                  have c108 := k102.gi kC_at149 (by decide) c94
                  have c109 := k102.gi kC_at149 (by decide) c95
                  have c110 := k102.gi (kC_el39 kC_at4 hj68) (by decide) c88
                  obtain ⟨g103, g104⟩ := hg105
                  refine tk_putl hC hK hw hT hinX9 tyX9_ok nmX9 kC_at152 (by decide) rfl rfl 8 (by decide) (List.mem_cons_of_mem _ uw_42_8) rfl rfl rfl rfl (wk_i64 r99).1 (wk_i64 r99).2 dX1_takeStep_132 (fun H locs w111 hw hT k113 c112 => ?_)
                  have hF := hF.put kC_at152 (k := 8) (by decide) k113
                  have c114 := k113.gi (Or.inr (by decide)) c106
                  have c115 := k113.gi (Or.inr (by decide)) c107
                  have c116 := k113.gi (Or.inr (by decide)) c108
                  have c117 := k113.gi (Or.inl (tk_ne kC_at149 kC_at152 (by decide))) c109
                  have c118 := k113.gi (Or.inr (by decide)) c110
                  refine lv_aload_n hx hb dX1_takeStep_135 rfl (lv_at hl 3 rfl) ?_
                  refine lv_dup hx hb dX1_takeStep_136 rfl ?_
                  refine tk_geti hC hK hw hT hinX9 kC_at152 (by decide) rfl 6 (by decide) (List.mem_cons_of_mem _ uw_42_9) rfl rfl dX1_takeStep_137 (fun x119 c120 rx119 tx119 => ?_)
                  refine lv_iconst (v := 1) hx hb dX1_takeStep_140 (by decide) ?_
                  refine lv_iadd hx hb dX1_takeStep_141 ?_
                  have nx121 := wk_i32 x119
                  refine lv_topi (fun x122 ex122 => ?_)
                  refine tk_puti hC hK hw hT hinX9 tyX9_ok nmX9 kC_at152 (by decide) rfl rfl 6 (by decide) (List.mem_cons_of_mem _ uw_42_9) rfl rfl rfl rfl (wk_i32 x122).1 (wk_i32 x122).2 dX1_takeStep_142 (fun H locs w123 hw hT k125 c124 => ?_)
                  have hF := hF.put kC_at152 (k := 6) (by decide) k125
                  have c126 := k125.gi (Or.inr (by decide)) c114
                  have c127 := k125.gi (Or.inr (by decide)) c115
                  have c128 := k125.gi (Or.inr (by decide)) c116
                  have c129 := k125.gi (Or.inr (by decide)) c117
                  have c130 := k125.gi (Or.inr (by decide)) c118
                  have c131 := k125.gl (Or.inr (by decide)) c112
                  exact J145 r83 x78 x60 H locs ls w123 (show 0 ≤ x78.toInt by first | with_reducible assumption | omega) (show x78.toInt ≤ 999999 by first | with_reducible assumption | omega)  hw hT hF c129 c126 (lv_sub hl [2, 3, 0] rfl)
              · have c97 : r83.toInt = (1 : Int) := wk_eq.mp c97
                refine lv_aload_n hx hb dX1_takeStep_110 rfl (lv_at hl 2 rfl) ?_
                refine lv_aload_n hx hb dX1_takeStep_111 rfl (lv_at hl 3 rfl) ?_
                refine lv_aload_n hx hb dX1_takeStep_112 rfl (lv_at hl 2 rfl) ?_
                refine tk_geti hC hK hw hT hinX1 kC_at149 (by decide) rfl 7 (by decide) (List.mem_cons_of_mem _ uw_42_7) rfl rfl dX1_takeStep_113 (fun x132 c133 rx132 tx132 => ?_)
                refine wk_top x76 (c133.symm.trans c94) ?_
                obtain rfl : x76 = (-1) := wk_eq.mpr (show x76.toInt = (-1) by first | exact Int.le_antisymm (by omega) (by omega) | omega)
                refine tk_Vv hC hK hw hT hA hE hSR kC_at149 (by decide) rfl (k_X1_follow_4 l adK adV dC dI cy ad B hB0 (Int.le_trans hB1 (by decide)) qr s1    w85 H.size hT ) (cwV 2 hC.2.2.2.2 uV_RX1_61 rfl rfl rfl (by decide +kernel) ⟨Nat.le_of_ble_eq_true rfl, Nat.le_of_ble_eq_true rfl⟩) rfl hl.1 rfl (Nat.le_of_ble_eq_true rfl) dX1_takeStep_116 (fun w136 H locs hp135 hw => ?_)
                obtain ⟨hT, k137, hg138⟩ := hp135
                have hF := hF.tr k137 (by decide)
                have c139 := k137.gi kC_at152 (by decide) c92
                have c140 := k137.gi (kC_el39 kC_at4 hj68) (by decide) c93
                have c141 := k137.gi kC_at149 (by decide) c94
                have c142 := k137.gi kC_at149 (by decide) c95
                have c143 := k137.gi (kC_el39 kC_at4 hj68) (by decide) c88
                clear hg138
                refine lv_goto (tgt := 155) hx hb dX1_takeStep_119 (by decide) ?_
                exact J155 r83 x78 x60 H locs ls w136 (show 0 ≤ x78.toInt by first | with_reducible assumption | omega) (show x78.toInt ≤ 999999 by first | with_reducible assumption | omega)  hw (hT.up (show B ≤ (B + 9) by omega)) hF c142 c139 (lv_sub hl [2, 3, 0] rfl)
            · have c96 : r83.toInt = (0 : Int) := wk_eq.mp c96
              refine lv_aload_n hx hb dX1_takeStep_93 rfl (lv_at hl 2 rfl) ?_
              refine lv_aload_n hx hb dX1_takeStep_94 rfl (lv_at hl 3 rfl) ?_
              refine lv_aload_n hx hb dX1_takeStep_95 rfl (lv_at hl 2 rfl) ?_
              refine tk_geti hC hK hw hT hinX1 kC_at149 (by decide) rfl 5 (by decide) (List.mem_cons_of_mem _ uw_42_6) rfl rfl dX1_takeStep_96 (fun x144 c145 rx144 tx144 => ?_)
              refine tk_Vv hC hK hw hT hA hE hSR kC_at149 (by decide) rfl (k_X1_follow_3 l adK adV dC dI cy ad B hB0 (Int.le_trans hB1 (by decide)) qr s1   x144 (show (-1) ≤ x144.toInt from rx144) (show x144.toInt ≤ 11 from tx144) w85 H.size hT ) (cwV 2 hC.2.2.2.2 uV_RX1_61 rfl rfl rfl (by decide +kernel) ⟨Nat.le_of_ble_eq_true rfl, Nat.le_of_ble_eq_true rfl⟩) rfl hl.1 rfl (Nat.le_of_ble_eq_true rfl) dX1_takeStep_99 (fun w148 H locs hp147 hw => ?_)
              obtain ⟨hT, k149, hg150⟩ := hp147
              have hF := hF.tr k149 (by decide)
              have c151 := k149.gi kC_at152 (by decide) c92
              have c152 := k149.gi (kC_el39 kC_at4 hj68) (by decide) c93
              have c153 := k149.gi kC_at149 (by decide) c94
              have c154 := k149.gi kC_at149 (by decide) c95
              have c155 := k149.gi (kC_el39 kC_at4 hj68) (by decide) c88
              have c156 := k149.gi kC_at149 (by decide) c145
              clear hg150
              refine lv_goto (tgt := 155) hx hb dX1_takeStep_102 (by decide) ?_
              exact J155 r83 x78 x60 H locs ls w148 (show 0 ≤ x78.toInt by first | with_reducible assumption | omega) (show x78.toInt ≤ 999999 by first | with_reducible assumption | omega)  hw hT hF c154 c151 (lv_sub hl [2, 3, 0] rfl)
          · refine lv_goto (tgt := 88) hx hb dX1_takeStep_73 (by decide) ?_
            refine lv_istore_n (lv' := [(3, .int r83), (2, .ref (ad (el 39 4 j68))), (0, .ref (ad 149)), (1, .ref (ad 152))]) hx hb dX1_takeStep_88 rfl hl (by decide) rfl (fun ls hl => ?_)
            refine lv_iload_n hx hb dX1_takeStep_89 rfl (lv_at hl 0 rfl) ?_
            refine lv_if_ne (tgt := 105) hx hb dX1_takeStep_90 (by decide) (fun c157 => ?_) (fun c157 => ?_)
            · have c157 : ¬ r83.toInt = (0 : Int) := wk_eqF c157
              refine lv_iload_n hx hb dX1_takeStep_105 rfl (lv_at hl 0 rfl) ?_
              refine lv_iconst (v := 1) hx hb dX1_takeStep_106 (by decide) ?_
              refine lv_icmp_ne (tgt := 122) hx hb dX1_takeStep_107 (by decide) (fun c158 => ?_) (fun c158 => ?_)
              · have c158 : ¬ r83.toInt = (1 : Int) := wk_eqF c158
                refine lv_iload_n hx hb dX1_takeStep_122 rfl (lv_at hl 0 rfl) ?_
                refine lv_iconst (v := 2) hx hb dX1_takeStep_123 (by decide) ?_
                refine lv_icmp_ne (tgt := 145) hx hb dX1_takeStep_124 (by decide) (fun c159 => ?_) (fun c159 => ?_)
                · have c159 : ¬ r83.toInt = (2 : Int) := wk_eqF c159
                  exact J145 r83 x78 x60 H locs ls w85 (show 0 ≤ x78.toInt by first | with_reducible assumption | omega) (show x78.toInt ≤ 999999 by first | with_reducible assumption | omega)  hw hT hF c95 c92 (lv_sub hl [2, 3, 0] rfl)
                · have c159 : r83.toInt = (2 : Int) := wk_eq.mp c159
                  refine lv_aload_n hx hb dX1_takeStep_127 rfl (lv_at hl 3 rfl) ?_
                  refine lv_aload_n hx hb dX1_takeStep_128 rfl (lv_at hl 3 rfl) ?_
                  refine tk_Vl hC hK hw hT hA hE hSR kC_at152 (by decide) rfl (k_X9_dayNow_2 l adK adV dC dI cy ad B hB0 (Int.le_trans hB1 (by decide)) qr s1    w85 H.size hT ) (cwV 0 hC.2.2.2.2 uV_RX1_68 rfl rfl rfl (by decide +kernel) ⟨Nat.le_of_ble_eq_true rfl, Nat.le_of_ble_eq_true rfl⟩) rfl hl.1 rfl (Nat.le_of_ble_eq_true rfl) dX1_takeStep_129 (fun r160 w162 H locs hp161 hw => ?_)
                  obtain ⟨hT, k163, hg166⟩ := hp161
                  have hF := hF.tr k163 (by decide)
                  have c167 := k163.gi kC_at152 (by decide) c92
                  have c168 := k163.gi (kC_el39 kC_at4 hj68) (by decide) c93
                  have c169 := k163.gi kC_at149 (by decide) c94
                  have c170 := k163.gi kC_at149 (by decide) c95
                  obtain ⟨g164, g165⟩ := hg166
                  refine tk_putl hC hK hw hT hinX9 tyX9_ok nmX9 kC_at152 (by decide) rfl rfl 8 (by decide) (List.mem_cons_of_mem _ uw_42_8) rfl rfl rfl rfl (wk_i64 r160).1 (wk_i64 r160).2 dX1_takeStep_132 (fun H locs w171 hw hT k173 c172 => ?_)
                  have hF := hF.put kC_at152 (k := 8) (by decide) k173
                  have c174 := k173.gi (Or.inr (by decide)) c167
                  have c175 := k173.gi (Or.inr (by decide)) c168
                  have c176 := k173.gi (Or.inr (by decide)) c169
                  have c177 := k173.gi (Or.inl (tk_ne kC_at149 kC_at152 (by decide))) c170
                  refine lv_aload_n hx hb dX1_takeStep_135 rfl (lv_at hl 3 rfl) ?_
                  refine lv_dup hx hb dX1_takeStep_136 rfl ?_
                  refine tk_geti hC hK hw hT hinX9 kC_at152 (by decide) rfl 6 (by decide) (List.mem_cons_of_mem _ uw_42_9) rfl rfl dX1_takeStep_137 (fun x178 c179 rx178 tx178 => ?_)
                  refine lv_iconst (v := 1) hx hb dX1_takeStep_140 (by decide) ?_
                  refine lv_iadd hx hb dX1_takeStep_141 ?_
                  have nx180 := wk_i32 x178
                  refine lv_topi (fun x181 ex181 => ?_)
                  refine tk_puti hC hK hw hT hinX9 tyX9_ok nmX9 kC_at152 (by decide) rfl rfl 6 (by decide) (List.mem_cons_of_mem _ uw_42_9) rfl rfl rfl rfl (wk_i32 x181).1 (wk_i32 x181).2 dX1_takeStep_142 (fun H locs w182 hw hT k184 c183 => ?_)
                  have hF := hF.put kC_at152 (k := 6) (by decide) k184
                  have c185 := k184.gi (Or.inr (by decide)) c174
                  have c186 := k184.gi (Or.inr (by decide)) c175
                  have c187 := k184.gi (Or.inr (by decide)) c176
                  have c188 := k184.gi (Or.inr (by decide)) c177
                  have c189 := k184.gl (Or.inr (by decide)) c172
                  exact J145 r83 x78 x60 H locs ls w182 (show 0 ≤ x78.toInt by first | with_reducible assumption | omega) (show x78.toInt ≤ 999999 by first | with_reducible assumption | omega)  hw hT hF c188 c185 (lv_sub hl [2, 3, 0] rfl)
              · have c158 : r83.toInt = (1 : Int) := wk_eq.mp c158
                refine lv_aload_n hx hb dX1_takeStep_110 rfl (lv_at hl 2 rfl) ?_
                refine lv_aload_n hx hb dX1_takeStep_111 rfl (lv_at hl 3 rfl) ?_
                refine lv_aload_n hx hb dX1_takeStep_112 rfl (lv_at hl 2 rfl) ?_
                refine tk_geti hC hK hw hT hinX1 kC_at149 (by decide) rfl 7 (by decide) (List.mem_cons_of_mem _ uw_42_7) rfl rfl dX1_takeStep_113 (fun x190 c191 rx190 tx190 => ?_)
                refine wk_top x76 (c191.symm.trans c94) ?_
                obtain rfl : x76 = (-1) := wk_eq.mpr (show x76.toInt = (-1) by first | exact Int.le_antisymm (by omega) (by omega) | omega)
                refine tk_Vv hC hK hw hT hA hE hSR kC_at149 (by decide) rfl (k_X1_follow_4 l adK adV dC dI cy ad B hB0 (Int.le_trans hB1 (by decide)) qr s1    w85 H.size hT ) (cwV 2 hC.2.2.2.2 uV_RX1_61 rfl rfl rfl (by decide +kernel) ⟨Nat.le_of_ble_eq_true rfl, Nat.le_of_ble_eq_true rfl⟩) rfl hl.1 rfl (Nat.le_of_ble_eq_true rfl) dX1_takeStep_116 (fun w194 H locs hp193 hw => ?_)
                obtain ⟨hT, k195, hg196⟩ := hp193
                have hF := hF.tr k195 (by decide)
                have c197 := k195.gi kC_at152 (by decide) c92
                have c198 := k195.gi (kC_el39 kC_at4 hj68) (by decide) c93
                have c199 := k195.gi kC_at149 (by decide) c94
                have c200 := k195.gi kC_at149 (by decide) c95
                clear hg196
                refine lv_goto (tgt := 155) hx hb dX1_takeStep_119 (by decide) ?_
                exact J155 r83 x78 x60 H locs ls w194 (show 0 ≤ x78.toInt by first | with_reducible assumption | omega) (show x78.toInt ≤ 999999 by first | with_reducible assumption | omega)  hw (hT.up (show B ≤ (B + 9) by omega)) hF c200 c197 (lv_sub hl [2, 3, 0] rfl)
            · have c157 : r83.toInt = (0 : Int) := wk_eq.mp c157
              refine lv_aload_n hx hb dX1_takeStep_93 rfl (lv_at hl 2 rfl) ?_
              refine lv_aload_n hx hb dX1_takeStep_94 rfl (lv_at hl 3 rfl) ?_
              refine lv_aload_n hx hb dX1_takeStep_95 rfl (lv_at hl 2 rfl) ?_
              refine tk_geti hC hK hw hT hinX1 kC_at149 (by decide) rfl 5 (by decide) (List.mem_cons_of_mem _ uw_42_6) rfl rfl dX1_takeStep_96 (fun x201 c202 rx201 tx201 => ?_)
              refine tk_Vv hC hK hw hT hA hE hSR kC_at149 (by decide) rfl (k_X1_follow_3 l adK adV dC dI cy ad B hB0 (Int.le_trans hB1 (by decide)) qr s1   x201 (show (-1) ≤ x201.toInt from rx201) (show x201.toInt ≤ 11 from tx201) w85 H.size hT ) (cwV 2 hC.2.2.2.2 uV_RX1_61 rfl rfl rfl (by decide +kernel) ⟨Nat.le_of_ble_eq_true rfl, Nat.le_of_ble_eq_true rfl⟩) rfl hl.1 rfl (Nat.le_of_ble_eq_true rfl) dX1_takeStep_99 (fun w205 H locs hp204 hw => ?_)
              obtain ⟨hT, k206, hg207⟩ := hp204
              have hF := hF.tr k206 (by decide)
              have c208 := k206.gi kC_at152 (by decide) c92
              have c209 := k206.gi (kC_el39 kC_at4 hj68) (by decide) c93
              have c210 := k206.gi kC_at149 (by decide) c94
              have c211 := k206.gi kC_at149 (by decide) c95
              have c212 := k206.gi kC_at149 (by decide) c202
              clear hg207
              refine lv_goto (tgt := 155) hx hb dX1_takeStep_102 (by decide) ?_
              exact J155 r83 x78 x60 H locs ls w205 (show 0 ≤ x78.toInt by first | with_reducible assumption | omega) (show x78.toInt ≤ 999999 by first | with_reducible assumption | omega)  hw hT hF c211 c208 (lv_sub hl [2, 3, 0] rfl)
        · have c71 : ¬ x69.toInt = (0 : Int) := wk_eqF c71
          refine lv_iconst (v := 1) hx hb dX1_takeStep_55 (by decide) ?_
          refine lv_goto (tgt := 60) hx hb dX1_takeStep_56 (by decide) ?_
          refine tk_Vv hC hK hw hT hA hE hSR kC_at149 (by decide) rfl (k_X1_lookAround_4 l adK adV dC dI cy ad B hB0 (Int.le_trans hB1 (by decide)) qr s1    w57 H.size hT ) (cwV 2 hC.2.2.2.2 uV_RX1_47 rfl rfl rfl (by decide +kernel) ⟨Nat.le_of_ble_eq_true rfl, Nat.le_of_ble_eq_true rfl⟩) rfl hl.1 rfl (Nat.le_of_ble_eq_true rfl) dX1_takeStep_60 (fun w215 H locs hp214 hw => ?_)
          obtain ⟨hT, k216, hg219⟩ := hp214
          have hF := hF.tr k216 (by decide)
          have c220 := k216.gi kC_at152 (by decide) c61
          have c221 := k216.gi (kC_el39 kC_at4 hj68) (by decide) c70
          obtain ⟨x217, c218, rx217, tx217⟩ := hg219
          refine lv_aload_n hx hb dX1_takeStep_63 rfl (lv_at hl 0 rfl) ?_
          refine lv_ifnull hx hb dX1_takeStep_64 ?_
          refine lv_aload_n hx hb dX1_takeStep_67 rfl (lv_at hl 1 rfl) ?_
          refine lv_aload_n hx hb dX1_takeStep_68 rfl (lv_at hl 2 rfl) ?_
          refine lv_aload_n hx hb dX1_takeStep_69 rfl (lv_at hl 0 rfl) ?_
          refine tk_Vi hC hK hw hT hA hE hSR kC_at149 (by decide) rfl (k_X1_chooseDeed_2 l adK adV dC dI cy ad B hB0 (Int.le_trans hB1 (by decide)) qr s1   (el 39 4 j68) (kC_el39 kC_at4 hj68) w215 H.size hT ) (cwV 2 hC.2.2.2.2 uV_RX1_51 rfl rfl rfl (by decide +kernel) ⟨Nat.le_of_ble_eq_true rfl, Nat.le_of_ble_eq_true rfl⟩) rfl hl.1 rfl (Nat.le_of_ble_eq_true rfl) dX1_takeStep_70 (fun r222 w224 H locs hp223 hw => ?_)
          obtain ⟨hT, k225, hg230⟩ := hp223
          have hF := hF.tr k225 (by decide)
          have c231 := k225.gi kC_at152 (by decide) c220
          have c232 := k225.gi (kC_el39 kC_at4 hj68) (by decide) c221
          have c233 := k225.gi kC_at149 (by decide) c218
          rcases hg230 with ⟨x226, c227, rx226, tx226⟩ | ⟨g228, g229⟩
          · refine lv_goto (tgt := 88) hx hb dX1_takeStep_73 (by decide) ?_
            refine lv_istore_n (lv' := [(3, .int r222), (2, .ref (ad (el 39 4 j68))), (0, .ref (ad 149)), (1, .ref (ad 152))]) hx hb dX1_takeStep_88 rfl hl (by decide) rfl (fun ls hl => ?_)
            refine lv_iload_n hx hb dX1_takeStep_89 rfl (lv_at hl 0 rfl) ?_
            refine lv_if_ne (tgt := 105) hx hb dX1_takeStep_90 (by decide) (fun c234 => ?_) (fun c234 => ?_)
            · have c234 : ¬ r222.toInt = (0 : Int) := wk_eqF c234
              refine lv_iload_n hx hb dX1_takeStep_105 rfl (lv_at hl 0 rfl) ?_
              refine lv_iconst (v := 1) hx hb dX1_takeStep_106 (by decide) ?_
              refine lv_icmp_ne (tgt := 122) hx hb dX1_takeStep_107 (by decide) (fun c235 => ?_) (fun c235 => ?_)
              · have c235 : ¬ r222.toInt = (1 : Int) := wk_eqF c235
                refine lv_iload_n hx hb dX1_takeStep_122 rfl (lv_at hl 0 rfl) ?_
                refine lv_iconst (v := 2) hx hb dX1_takeStep_123 (by decide) ?_
                refine lv_icmp_ne (tgt := 145) hx hb dX1_takeStep_124 (by decide) (fun c236 => ?_) (fun c236 => ?_)
                · have c236 : ¬ r222.toInt = (2 : Int) := wk_eqF c236
                  exact J145 r222 x217 x60 H locs ls w224 (show 0 ≤ x217.toInt by first | with_reducible assumption | omega) (show x217.toInt ≤ 999999 by first | with_reducible assumption | omega)  hw hT hF c233 c231 (lv_sub hl [2, 3, 0] rfl)
                · have c236 : r222.toInt = (2 : Int) := wk_eq.mp c236
                  refine lv_aload_n hx hb dX1_takeStep_127 rfl (lv_at hl 3 rfl) ?_
                  refine lv_aload_n hx hb dX1_takeStep_128 rfl (lv_at hl 3 rfl) ?_
                  refine tk_Vl hC hK hw hT hA hE hSR kC_at152 (by decide) rfl (k_X9_dayNow_2 l adK adV dC dI cy ad B hB0 (Int.le_trans hB1 (by decide)) qr s1    w224 H.size hT ) (cwV 0 hC.2.2.2.2 uV_RX1_68 rfl rfl rfl (by decide +kernel) ⟨Nat.le_of_ble_eq_true rfl, Nat.le_of_ble_eq_true rfl⟩) rfl hl.1 rfl (Nat.le_of_ble_eq_true rfl) dX1_takeStep_129 (fun r237 w239 H locs hp238 hw => ?_)
                  obtain ⟨hT, k240, hg243⟩ := hp238
                  have hF := hF.tr k240 (by decide)
                  have c244 := k240.gi kC_at152 (by decide) c231
                  have c245 := k240.gi (kC_el39 kC_at4 hj68) (by decide) c232
                  have c246 := k240.gi kC_at149 (by decide) c233
                  have c247 := k240.gi (kC_el39 kC_at4 hj68) (by decide) c227
                  obtain ⟨g241, g242⟩ := hg243
                  refine tk_putl hC hK hw hT hinX9 tyX9_ok nmX9 kC_at152 (by decide) rfl rfl 8 (by decide) (List.mem_cons_of_mem _ uw_42_8) rfl rfl rfl rfl (wk_i64 r237).1 (wk_i64 r237).2 dX1_takeStep_132 (fun H locs w248 hw hT k250 c249 => ?_)
                  have hF := hF.put kC_at152 (k := 8) (by decide) k250
                  have c251 := k250.gi (Or.inr (by decide)) c244
                  have c252 := k250.gi (Or.inr (by decide)) c245
                  have c253 := k250.gi (Or.inl (tk_ne kC_at149 kC_at152 (by decide))) c246
                  have c254 := k250.gi (Or.inr (by decide)) c247
                  refine lv_aload_n hx hb dX1_takeStep_135 rfl (lv_at hl 3 rfl) ?_
                  refine lv_dup hx hb dX1_takeStep_136 rfl ?_
                  refine tk_geti hC hK hw hT hinX9 kC_at152 (by decide) rfl 6 (by decide) (List.mem_cons_of_mem _ uw_42_9) rfl rfl dX1_takeStep_137 (fun x255 c256 rx255 tx255 => ?_)
                  refine lv_iconst (v := 1) hx hb dX1_takeStep_140 (by decide) ?_
                  refine lv_iadd hx hb dX1_takeStep_141 ?_
                  have nx257 := wk_i32 x255
                  refine lv_topi (fun x258 ex258 => ?_)
                  refine tk_puti hC hK hw hT hinX9 tyX9_ok nmX9 kC_at152 (by decide) rfl rfl 6 (by decide) (List.mem_cons_of_mem _ uw_42_9) rfl rfl rfl rfl (wk_i32 x258).1 (wk_i32 x258).2 dX1_takeStep_142 (fun H locs w259 hw hT k261 c260 => ?_)
                  have hF := hF.put kC_at152 (k := 6) (by decide) k261
                  have c262 := k261.gi (Or.inr (by decide)) c251
                  have c263 := k261.gi (Or.inr (by decide)) c252
                  have c264 := k261.gi (Or.inr (by decide)) c253
                  have c265 := k261.gi (Or.inr (by decide)) c254
                  have c266 := k261.gl (Or.inr (by decide)) c249
                  exact J145 r222 x217 x60 H locs ls w259 (show 0 ≤ x217.toInt by first | with_reducible assumption | omega) (show x217.toInt ≤ 999999 by first | with_reducible assumption | omega)  hw hT hF c264 c262 (lv_sub hl [2, 3, 0] rfl)
              · have c235 : r222.toInt = (1 : Int) := wk_eq.mp c235
                refine lv_aload_n hx hb dX1_takeStep_110 rfl (lv_at hl 2 rfl) ?_
                refine lv_aload_n hx hb dX1_takeStep_111 rfl (lv_at hl 3 rfl) ?_
                refine lv_aload_n hx hb dX1_takeStep_112 rfl (lv_at hl 2 rfl) ?_
                refine tk_geti hC hK hw hT hinX1 kC_at149 (by decide) rfl 7 (by decide) (List.mem_cons_of_mem _ uw_42_7) rfl rfl dX1_takeStep_113 (fun x267 c268 rx267 tx267 => ?_)
                refine tk_Vv hC hK hw hT hA hE hSR kC_at149 (by decide) rfl (k_X1_follow_3 l adK adV dC dI cy ad B hB0 (Int.le_trans hB1 (by decide)) qr s1   x267 (show (-1) ≤ x267.toInt from rx267) (show x267.toInt ≤ 11 from tx267) w224 H.size hT ) (cwV 2 hC.2.2.2.2 uV_RX1_61 rfl rfl rfl (by decide +kernel) ⟨Nat.le_of_ble_eq_true rfl, Nat.le_of_ble_eq_true rfl⟩) rfl hl.1 rfl (Nat.le_of_ble_eq_true rfl) dX1_takeStep_116 (fun w271 H locs hp270 hw => ?_)
                obtain ⟨hT, k272, hg273⟩ := hp270
                have hF := hF.tr k272 (by decide)
                have c274 := k272.gi kC_at152 (by decide) c231
                have c275 := k272.gi (kC_el39 kC_at4 hj68) (by decide) c232
                have c276 := k272.gi kC_at149 (by decide) c233
                have c277 := k272.gi (kC_el39 kC_at4 hj68) (by decide) c227
                have c278 := k272.gi kC_at149 (by decide) c268
                clear hg273
                refine lv_goto (tgt := 155) hx hb dX1_takeStep_119 (by decide) ?_
                exact J155 r222 x217 x60 H locs ls w271 (show 0 ≤ x217.toInt by first | with_reducible assumption | omega) (show x217.toInt ≤ 999999 by first | with_reducible assumption | omega)  hw hT hF c276 c274 (lv_sub hl [2, 3, 0] rfl)
            · have c234 : r222.toInt = (0 : Int) := wk_eq.mp c234
              refine lv_aload_n hx hb dX1_takeStep_93 rfl (lv_at hl 2 rfl) ?_
              refine lv_aload_n hx hb dX1_takeStep_94 rfl (lv_at hl 3 rfl) ?_
              refine lv_aload_n hx hb dX1_takeStep_95 rfl (lv_at hl 2 rfl) ?_
              refine tk_geti hC hK hw hT hinX1 kC_at149 (by decide) rfl 5 (by decide) (List.mem_cons_of_mem _ uw_42_6) rfl rfl dX1_takeStep_96 (fun x279 c280 rx279 tx279 => ?_)
              refine tk_Vv hC hK hw hT hA hE hSR kC_at149 (by decide) rfl (k_X1_follow_3 l adK adV dC dI cy ad B hB0 (Int.le_trans hB1 (by decide)) qr s1   x279 (show (-1) ≤ x279.toInt from rx279) (show x279.toInt ≤ 11 from tx279) w224 H.size hT ) (cwV 2 hC.2.2.2.2 uV_RX1_61 rfl rfl rfl (by decide +kernel) ⟨Nat.le_of_ble_eq_true rfl, Nat.le_of_ble_eq_true rfl⟩) rfl hl.1 rfl (Nat.le_of_ble_eq_true rfl) dX1_takeStep_99 (fun w283 H locs hp282 hw => ?_)
              obtain ⟨hT, k284, hg285⟩ := hp282
              have hF := hF.tr k284 (by decide)
              have c286 := k284.gi kC_at152 (by decide) c231
              have c287 := k284.gi (kC_el39 kC_at4 hj68) (by decide) c232
              have c288 := k284.gi kC_at149 (by decide) c233
              have c289 := k284.gi (kC_el39 kC_at4 hj68) (by decide) c227
              have c290 := k284.gi kC_at149 (by decide) c280
              clear hg285
              refine lv_goto (tgt := 155) hx hb dX1_takeStep_102 (by decide) ?_
              exact J155 r222 x217 x60 H locs ls w283 (show 0 ≤ x217.toInt by first | with_reducible assumption | omega) (show x217.toInt ≤ 999999 by first | with_reducible assumption | omega)  hw hT hF c288 c286 (lv_sub hl [2, 3, 0] rfl)
          · refine lv_goto (tgt := 88) hx hb dX1_takeStep_73 (by decide) ?_
            refine lv_istore_n (lv' := [(3, .int r222), (2, .ref (ad (el 39 4 j68))), (0, .ref (ad 149)), (1, .ref (ad 152))]) hx hb dX1_takeStep_88 rfl hl (by decide) rfl (fun ls hl => ?_)
            refine lv_iload_n hx hb dX1_takeStep_89 rfl (lv_at hl 0 rfl) ?_
            refine lv_if_ne (tgt := 105) hx hb dX1_takeStep_90 (by decide) (fun c291 => ?_) (fun c291 => ?_)
            · have c291 : ¬ r222.toInt = (0 : Int) := wk_eqF c291
              refine lv_iload_n hx hb dX1_takeStep_105 rfl (lv_at hl 0 rfl) ?_
              refine lv_iconst (v := 1) hx hb dX1_takeStep_106 (by decide) ?_
              refine lv_icmp_ne (tgt := 122) hx hb dX1_takeStep_107 (by decide) (fun c292 => ?_) (fun c292 => ?_)
              · have c292 : ¬ r222.toInt = (1 : Int) := wk_eqF c292
                refine lv_iload_n hx hb dX1_takeStep_122 rfl (lv_at hl 0 rfl) ?_
                refine lv_iconst (v := 2) hx hb dX1_takeStep_123 (by decide) ?_
                refine lv_icmp_ne (tgt := 145) hx hb dX1_takeStep_124 (by decide) (fun c293 => ?_) (fun c293 => ?_)
                · have c293 : ¬ r222.toInt = (2 : Int) := wk_eqF c293
                  exact J145 r222 x217 x60 H locs ls w224 (show 0 ≤ x217.toInt by first | with_reducible assumption | omega) (show x217.toInt ≤ 999999 by first | with_reducible assumption | omega)  hw hT hF c233 c231 (lv_sub hl [2, 3, 0] rfl)
                · have c293 : r222.toInt = (2 : Int) := wk_eq.mp c293
                  refine lv_aload_n hx hb dX1_takeStep_127 rfl (lv_at hl 3 rfl) ?_
                  refine lv_aload_n hx hb dX1_takeStep_128 rfl (lv_at hl 3 rfl) ?_
                  refine tk_Vl hC hK hw hT hA hE hSR kC_at152 (by decide) rfl (k_X9_dayNow_2 l adK adV dC dI cy ad B hB0 (Int.le_trans hB1 (by decide)) qr s1    w224 H.size hT ) (cwV 0 hC.2.2.2.2 uV_RX1_68 rfl rfl rfl (by decide +kernel) ⟨Nat.le_of_ble_eq_true rfl, Nat.le_of_ble_eq_true rfl⟩) rfl hl.1 rfl (Nat.le_of_ble_eq_true rfl) dX1_takeStep_129 (fun r294 w296 H locs hp295 hw => ?_)
                  obtain ⟨hT, k297, hg300⟩ := hp295
                  have hF := hF.tr k297 (by decide)
                  have c301 := k297.gi kC_at152 (by decide) c231
                  have c302 := k297.gi (kC_el39 kC_at4 hj68) (by decide) c232
                  have c303 := k297.gi kC_at149 (by decide) c233
                  obtain ⟨g298, g299⟩ := hg300
                  refine tk_putl hC hK hw hT hinX9 tyX9_ok nmX9 kC_at152 (by decide) rfl rfl 8 (by decide) (List.mem_cons_of_mem _ uw_42_8) rfl rfl rfl rfl (wk_i64 r294).1 (wk_i64 r294).2 dX1_takeStep_132 (fun H locs w304 hw hT k306 c305 => ?_)
                  have hF := hF.put kC_at152 (k := 8) (by decide) k306
                  have c307 := k306.gi (Or.inr (by decide)) c301
                  have c308 := k306.gi (Or.inr (by decide)) c302
                  have c309 := k306.gi (Or.inl (tk_ne kC_at149 kC_at152 (by decide))) c303
                  refine lv_aload_n hx hb dX1_takeStep_135 rfl (lv_at hl 3 rfl) ?_
                  refine lv_dup hx hb dX1_takeStep_136 rfl ?_
                  refine tk_geti hC hK hw hT hinX9 kC_at152 (by decide) rfl 6 (by decide) (List.mem_cons_of_mem _ uw_42_9) rfl rfl dX1_takeStep_137 (fun x310 c311 rx310 tx310 => ?_)
                  refine lv_iconst (v := 1) hx hb dX1_takeStep_140 (by decide) ?_
                  refine lv_iadd hx hb dX1_takeStep_141 ?_
                  have nx312 := wk_i32 x310
                  refine lv_topi (fun x313 ex313 => ?_)
                  refine tk_puti hC hK hw hT hinX9 tyX9_ok nmX9 kC_at152 (by decide) rfl rfl 6 (by decide) (List.mem_cons_of_mem _ uw_42_9) rfl rfl rfl rfl (wk_i32 x313).1 (wk_i32 x313).2 dX1_takeStep_142 (fun H locs w314 hw hT k316 c315 => ?_)
                  have hF := hF.put kC_at152 (k := 6) (by decide) k316
                  have c317 := k316.gi (Or.inr (by decide)) c307
                  have c318 := k316.gi (Or.inr (by decide)) c308
                  have c319 := k316.gi (Or.inr (by decide)) c309
                  have c320 := k316.gl (Or.inr (by decide)) c305
                  exact J145 r222 x217 x60 H locs ls w314 (show 0 ≤ x217.toInt by first | with_reducible assumption | omega) (show x217.toInt ≤ 999999 by first | with_reducible assumption | omega)  hw hT hF c319 c317 (lv_sub hl [2, 3, 0] rfl)
              · have c292 : r222.toInt = (1 : Int) := wk_eq.mp c292
                refine lv_aload_n hx hb dX1_takeStep_110 rfl (lv_at hl 2 rfl) ?_
                refine lv_aload_n hx hb dX1_takeStep_111 rfl (lv_at hl 3 rfl) ?_
                refine lv_aload_n hx hb dX1_takeStep_112 rfl (lv_at hl 2 rfl) ?_
                refine tk_geti hC hK hw hT hinX1 kC_at149 (by decide) rfl 7 (by decide) (List.mem_cons_of_mem _ uw_42_7) rfl rfl dX1_takeStep_113 (fun x321 c322 rx321 tx321 => ?_)
                refine tk_Vv hC hK hw hT hA hE hSR kC_at149 (by decide) rfl (k_X1_follow_3 l adK adV dC dI cy ad B hB0 (Int.le_trans hB1 (by decide)) qr s1   x321 (show (-1) ≤ x321.toInt from rx321) (show x321.toInt ≤ 11 from tx321) w224 H.size hT ) (cwV 2 hC.2.2.2.2 uV_RX1_61 rfl rfl rfl (by decide +kernel) ⟨Nat.le_of_ble_eq_true rfl, Nat.le_of_ble_eq_true rfl⟩) rfl hl.1 rfl (Nat.le_of_ble_eq_true rfl) dX1_takeStep_116 (fun w325 H locs hp324 hw => ?_)
                obtain ⟨hT, k326, hg327⟩ := hp324
                have hF := hF.tr k326 (by decide)
                have c328 := k326.gi kC_at152 (by decide) c231
                have c329 := k326.gi (kC_el39 kC_at4 hj68) (by decide) c232
                have c330 := k326.gi kC_at149 (by decide) c233
                have c331 := k326.gi kC_at149 (by decide) c322
                clear hg327
                refine lv_goto (tgt := 155) hx hb dX1_takeStep_119 (by decide) ?_
                exact J155 r222 x217 x60 H locs ls w325 (show 0 ≤ x217.toInt by first | with_reducible assumption | omega) (show x217.toInt ≤ 999999 by first | with_reducible assumption | omega)  hw hT hF c330 c328 (lv_sub hl [2, 3, 0] rfl)
            · have c291 : r222.toInt = (0 : Int) := wk_eq.mp c291
              refine lv_aload_n hx hb dX1_takeStep_93 rfl (lv_at hl 2 rfl) ?_
              refine lv_aload_n hx hb dX1_takeStep_94 rfl (lv_at hl 3 rfl) ?_
              refine lv_aload_n hx hb dX1_takeStep_95 rfl (lv_at hl 2 rfl) ?_
              refine tk_geti hC hK hw hT hinX1 kC_at149 (by decide) rfl 5 (by decide) (List.mem_cons_of_mem _ uw_42_6) rfl rfl dX1_takeStep_96 (fun x332 c333 rx332 tx332 => ?_)
              refine tk_Vv hC hK hw hT hA hE hSR kC_at149 (by decide) rfl (k_X1_follow_3 l adK adV dC dI cy ad B hB0 (Int.le_trans hB1 (by decide)) qr s1   x332 (show (-1) ≤ x332.toInt from rx332) (show x332.toInt ≤ 11 from tx332) w224 H.size hT ) (cwV 2 hC.2.2.2.2 uV_RX1_61 rfl rfl rfl (by decide +kernel) ⟨Nat.le_of_ble_eq_true rfl, Nat.le_of_ble_eq_true rfl⟩) rfl hl.1 rfl (Nat.le_of_ble_eq_true rfl) dX1_takeStep_99 (fun w336 H locs hp335 hw => ?_)
              obtain ⟨hT, k337, hg338⟩ := hp335
              have hF := hF.tr k337 (by decide)
              have c339 := k337.gi kC_at152 (by decide) c231
              have c340 := k337.gi (kC_el39 kC_at4 hj68) (by decide) c232
              have c341 := k337.gi kC_at149 (by decide) c233
              have c342 := k337.gi kC_at149 (by decide) c333
              clear hg338
              refine lv_goto (tgt := 155) hx hb dX1_takeStep_102 (by decide) ?_
              exact J155 r222 x217 x60 H locs ls w336 (show 0 ≤ x217.toInt by first | with_reducible assumption | omega) (show x217.toInt ≤ 999999 by first | with_reducible assumption | omega)  hw hT hF c341 c339 (lv_sub hl [2, 3, 0] rfl)
  · refine lv_if_eq (tgt := 9) hx hb dX1_takeStep_4 (by decide) (fun c => absurd c (by decide)) (fun _ => ?_)
    refine lv_iconst (v := 4) hx hb dX1_takeStep_7 (by decide) ?_
    exact tk_iret hC hr hlocks hK ⟨(hT.up (show B ≤ (B + 9) by omega)), hF, (Or.inr rfl)⟩ hw dX1_takeStep_8
abbrev P_X1_takeSteps_2 (ad : Nat → Nat) (cy : Nat → ClassId) (B : Int) (qr : Nat) (s1 : Int) (a2 : Int32) (w0 : va_W) : Int32 → va_W → Prop := fun r u => TW ksC ad cy (B + 3600) qr s1 u ∧ FE ksC [(1, 4, 4), (1, 5, 5), (1, 6, 6), (1, 7, 7), (1, 8, 8), (9, 0, 0), (9, 4, 4), (9, 5, 5), (9, 6, 6), (9, 7, 7), (9, 8, 8), (45, 0, 64)] w0 u ∧ ((0 ≤ r.toInt ∧ r.toInt ≤ 400))
set_option maxHeartbeats 4000000 in
set_option maxRecDepth 100000 in
theorem k_X1_takeSteps_2 (l : Launch) (adK adV : Nat → Nat) (dC : Nat → ClassId) (dI : Nat → Nat → Nat) (cy : Nat → ClassId) (ad : Nat → Nat) (B : Int) (hB0 : 2147483648 ≤ B) (hB1 : B ≤ 1152921504606843385) (qr : Nat) (s1 : Int)  (a2 : Int32) (ra2 : 0 ≤ a2.toInt) (ta2 : a2.toInt ≤ 400) (w0 : va_W) (sz : Nat) (hT : TW ksC ad cy B qr s1 w0)  : Met l yX1_takeSteps (wu yX1_takeSteps cX1_takeSteps 4 (some .int)) ({ frames := 6, cells := 0, slots := 0, locals := 135 }) (va_Pc [.ref (ad 149), .ref (ad 152), .int a2] (wpreS adK adV dC dI cy sz w0)) (va_Qi (P_X1_takeSteps_2 ad cy B qr s1 a2 w0) (fun u : va_W => wpost dC dI cy (va_A w0 sz) u) (va_A w0 sz)) 0 0 (va_A w0 sz) := by
  refine Met.ofW (cc := cX1_takeSteps) (maxL := 4) (ret := (some .int)) (by decide) rfl ?_
  intro p e s m args below meth c s₁ Bk hml hv
  obtain ⟨rfl, ⟨hsz, hP, hK, hD0⟩, hE, hSR⟩ := hv
  have hx := Bk.exec
  have hb := Bk.bytes
  have hr := Bk.returns
  have hlocks := Bk.notSynchronized
  have hC : CallFix p m c cX1_takeSteps 4 s _ (wu yX1_takeSteps cX1_takeSteps 4 (some .int)) RX1 := ⟨hx, hb, hml, findClass_of_methodNamed Bk.named, atoms_spec (ws := (wu yX1_takeSteps cX1_takeSteps 4 (some .int))) Bk.pre⟩
  subst hsz
  have hD := hD0.self (sz := s.heap.size)
  generalize hAe : va_A w0 s.heap.size = A at hD hE ⊢
  have hA : ∀ q : Nat, s.heap.size ≤ q → A q := fun q h => by rw [← hAe]; exact Or.inr h
  have hw : Wd dC dI A s.heap s.heap [] w0 := ⟨hP, hD, va_S.rf⟩
  have hF : FE ksC [(1, 4, 4), (1, 5, 5), (1, 6, 6), (1, 7, 7), (1, 8, 8), (9, 0, 0), (9, 4, 4), (9, 5, 5), (9, 6, 6), (9, 7, 7), (9, 8, 8), (45, 0, 64)] w0 w0 := FE.rf
  have hl := lv_entry ([.ref (ad 149), .ref (ad 152), .int a2]) (n := 4) (Nat.le_of_ble_eq_true rfl)
  rw [lg_entry_eq]
  generalize (lg_sl ([.ref (ad 149), .ref (ad 152), .int a2]) ++ List.replicate (4 - (lg_sl ([.ref (ad 149), .ref (ad 152), .int a2])).length) Slot.unset).toArray = ls at hl ⊢
  have hl : lv_has ls 4 [(0, .ref (ad 149)), (1, .ref (ad 152)), (2, .int a2)] := hl
  generalize hloc : ([] : List Loc) = locs at hw ⊢
  have L2 : ∀ (n2 : Nat) (v2_3 : Int32) (H : Heap) (locs : List Loc) (ls : Array Slot) (w1 : va_W), 0 ≤ a2.toInt → a2.toInt ≤ 400 → 0 ≤ v2_3.toInt → v2_3.toInt ≤ 400 → (400 - v2_3.toInt).toNat < n2 → Wd dC dI A s.heap H locs w1 → TW ksC ad cy (B + 0 + 9 * v2_3.toInt) qr s1 w1 → FE ksC [(1, 4, 4), (1, 5, 5), (1, 6, 6), (1, 7, 7), (1, 8, 8), (9, 0, 0), (9, 4, 4), (9, 5, 5), (9, 6, 6), (9, 7, 7), (9, 8, 8), (45, 0, 64)] w0 w1 → lv_has ls 4 [(0, .ref (ad 149)), (1, .ref (ad 152)), (2, .int a2), (3, .int v2_3)] → W p l e ({ frames := 6, cells := 0, slots := 0, locals := 135 }) s m (List.toArray [.ref (ad 149), .ref (ad 152), .int a2]) below meth c H locs 0 0 (MQ below (va_Qi (P_X1_takeSteps_2 ad cy B qr s1 a2 w0) (fun u : va_W => wpost dC dI cy A u) A) (List.toArray [.ref (ad 149), .ref (ad 152), .int a2]) s 0 0 A) (F0 m 2 ls []) := by
    intro n2
    induction n2 with
    | zero => intro v2_3 H locs ls w1 r2 t3 r4 t5 hm2 hw hT hF hl; omega
    | succ n2 ih2 =>
      intro v2_3 H locs ls w1 r2 t3 r4 t5 hm2 hw hT hF hl
      refine lv_iload_n hx hb dX1_takeSteps_2 rfl (lv_at hl 3 rfl) ?_
      refine lv_iload_n hx hb dX1_takeSteps_3 rfl (lv_at hl 2 rfl) ?_
      refine lv_icmp_ge (tgt := 24) hx hb dX1_takeSteps_4 (by decide) (fun c6 => ?_) (fun c6 => ?_)
      · have c6 : a2.toInt ≤ v2_3.toInt := wk_le.mp c6
        refine lv_iload_n hx hb dX1_takeSteps_24 rfl (lv_at hl 2 rfl) ?_
        exact tk_iret hC hr hlocks hK ⟨(hT.up (show (B + 0 + 9 * v2_3.toInt) ≤ (B + 3600) by omega)), hF, ⟨(show 0 ≤ a2.toInt from r2), (show a2.toInt ≤ 400 from t3)⟩⟩ hw dX1_takeSteps_25
      · have c6 : v2_3.toInt < a2.toInt := wk_leF c6
        refine lv_aload_n hx hb dX1_takeSteps_7 rfl (lv_at hl 0 rfl) ?_
        refine lv_aload_n hx hb dX1_takeSteps_8 rfl (lv_at hl 1 rfl) ?_
        refine tk_Vi hC hK hw hT hA hE hSR kC_at149 (by decide) rfl (k_X1_takeStep_2 l adK adV dC dI cy ad (B + 0 + 9 * v2_3.toInt) (by omega) (by omega) qr s1    w1 H.size hT ) (cwV 1 hC.2.2.2.2 uV_RX1_27 rfl rfl rfl (by decide +kernel) ⟨Nat.le_of_ble_eq_true rfl, Nat.le_of_ble_eq_true rfl⟩) rfl hl.1 rfl (Nat.le_of_ble_eq_true rfl) dX1_takeSteps_9 (fun r7 w9 H locs hp8 hw => ?_)
        obtain ⟨hT, k10, hg13⟩ := hp8
        have hT := hT.up (B' := (B + 9 + 9 * v2_3.toInt)) (by omega)
        have hF := hF.tr k10 (by decide)
        rcases hg13 with ⟨x11, c12, rx11, tx11⟩ | rfl
        · refine lv_iconst (v := 4) hx hb dX1_takeSteps_12 (by decide) ?_
          refine lv_icmp_ne (tgt := 18) hx hb dX1_takeSteps_13 (by decide) (fun c14 => ?_) (fun c14 => ?_)
          · have c14 : ¬ r7.toInt = (4 : Int) := wk_eqF c14
            obtain ⟨x15, ex15⟩ : ∃ y : Int32, y = v2_3 + Int32.ofInt 1 := ⟨_, rfl⟩
            refine lv_iinc (v := x15) (lv' := [(3, .int x15), (0, .ref (ad 149)), (1, .ref (ad 152)), (2, .int a2)]) hx hb dX1_takeSteps_18 hl (k := 3) rfl ex15.symm (by decide) rfl (fun ls hl => ?_)
            have ex15 : x15.toInt = v2_3.toInt + 1 := by rw [ex15]; exact wk_add (y := 1) (show -2147483648 ≤ v2_3.toInt + 1 by omega) (show v2_3.toInt + 1 ≤ 2147483647 by omega)
            refine lv_goto (tgt := 2) hx hb dX1_takeSteps_21 (by decide) ?_
            exact ih2 x15 H locs ls w9 (show 0 ≤ a2.toInt from r2) (show a2.toInt ≤ 400 from t3) (show 0 ≤ x15.toInt by first | with_reducible assumption | omega) (show x15.toInt ≤ 400 by first | with_reducible assumption | omega) (show (400 - x15.toInt).toNat < n2 by first | exact tn_lt hm2 (by omega) (by omega) | omega) hw (hT.up (show (B + 9 + 9 * v2_3.toInt) ≤ (B + 0 + 9 * x15.toInt) by omega)) hF  (lv_sub hl [1, 2, 3, 0] rfl)
          · have c14 : r7.toInt = (4 : Int) := wk_eq.mp c14
            refine lv_iload_n hx hb dX1_takeSteps_16 rfl (lv_at hl 3 rfl) ?_
            exact tk_iret hC hr hlocks hK ⟨(hT.up (show (B + 9 + 9 * v2_3.toInt) ≤ (B + 3600) by omega)), hF, ⟨(show 0 ≤ v2_3.toInt from r4), (show v2_3.toInt ≤ 400 from t5)⟩⟩ hw dX1_takeSteps_17
        · refine lv_iconst (v := 4) hx hb dX1_takeSteps_12 (by decide) ?_
          refine lv_icmp_ne (tgt := 18) hx hb dX1_takeSteps_13 (by decide) (fun c => absurd (by decide) c) (fun _ => ?_)
          refine lv_iload_n hx hb dX1_takeSteps_16 rfl (lv_at hl 3 rfl) ?_
          exact tk_iret hC hr hlocks hK ⟨(hT.up (show (B + 9 + 9 * v2_3.toInt) ≤ (B + 3600) by omega)), hF, ⟨(show 0 ≤ v2_3.toInt from r4), (show v2_3.toInt ≤ 400 from t5)⟩⟩ hw dX1_takeSteps_17
  refine lv_iconst (v := 0) hx hb dX1_takeSteps_0 (by decide) ?_
  refine lv_istore_n (lv' := [(3, .int 0), (0, .ref (ad 149)), (1, .ref (ad 152)), (2, .int a2)]) hx hb dX1_takeSteps_1 rfl hl (by decide) rfl (fun ls hl => ?_)
  exact L2 ((400 - (0 : Int)).toNat + 1) 0 s.heap locs ls w0 (show 0 ≤ a2.toInt from ra2) (show a2.toInt ≤ 400 from ta2) (by decide) (by decide) (Nat.lt_succ_self _) hw (hT.up (show B ≤ (B + 0 + 9 * (0 : Int32).toInt) by rw [show (0 : Int32).toInt = 0 by decide]; omega)) hF  (lv_sub hl [1, 2, 3, 0] rfl)
abbrev P_X8_tellComing_1 (ad : Nat → Nat) (cy : Nat → ClassId) (B : Int) (qr : Nat) (s1 : Int) (q1_ : Nat) (a2 : Int32) (a3 : Int32) (w0 : va_W) : Int32 → va_W → Prop := fun r u => TW ksC ad cy (B + 3600) qr s1 u ∧ FE ksC [(1, 4, 4), (1, 5, 5), (1, 6, 6), (1, 7, 7), (1, 8, 8), (9, 0, 0), (9, 1, 1), (9, 2, 2), (9, 3, 3), (9, 4, 4), (9, 5, 5), (9, 6, 6), (9, 7, 7), (9, 8, 8), (45, 0, 64)] w0 u ∧ ((True) ∨ (r = (-2) ∧ a3.toInt ≤ 0) ∨ (0 ≤ r.toInt ∧ r.toInt ≤ 400 ∧ 1 ≤ a3.toInt ∧ a3.toInt ≤ 1))
set_option maxHeartbeats 4000000 in
set_option maxRecDepth 100000 in
theorem k_X8_tellComing_1 (l : Launch) (adK adV : Nat → Nat) (dC : Nat → ClassId) (dI : Nat → Nat → Nat) (cy : Nat → ClassId) (ad : Nat → Nat) (B : Int) (hB0 : 2147483648 ≤ B) (hB1 : B ≤ 1152921504606843376) (qr : Nat) (s1 : Int)  (q1_ : Nat) (hkq1_ : ksC[q1_]? = some 9) (a2 : Int32) (ra2 : 0 ≤ a2.toInt) (ta2 : a2.toInt ≤ 400) (a3 : Int32) (ra3 : 0 ≤ a3.toInt) (ta3 : a3.toInt ≤ 2) (w0 : va_W) (sz : Nat) (hT : TW ksC ad cy B qr s1 w0)  : Met l yX8_tellComing (wu yX8_tellComing cX8_tellComing 5 (some .int)) ({ frames := 7, cells := 0, slots := 0, locals := 158 }) (va_Pc [.ref (ad 151), .ref (ad q1_), .int a2, .int a3] (wpreS adK adV dC dI cy sz w0)) (va_Qi (P_X8_tellComing_1 ad cy B qr s1 q1_ a2 a3 w0) (fun u : va_W => wpost dC dI cy (va_A w0 sz) u) (va_A w0 sz)) 0 0 (va_A w0 sz) := by
  refine Met.ofW (cc := cX8_tellComing) (maxL := 5) (ret := (some .int)) (by decide) rfl ?_
  intro p e s m args below meth c s₁ Bk hml hv
  obtain ⟨rfl, ⟨hsz, hP, hK, hD0⟩, hE, hSR⟩ := hv
  have hx := Bk.exec
  have hb := Bk.bytes
  have hr := Bk.returns
  have hlocks := Bk.notSynchronized
  have hC : CallFix p m c cX8_tellComing 5 s _ (wu yX8_tellComing cX8_tellComing 5 (some .int)) RX8 := ⟨hx, hb, hml, findClass_of_methodNamed Bk.named, atoms_spec (ws := (wu yX8_tellComing cX8_tellComing 5 (some .int))) Bk.pre⟩
  subst hsz
  have hD := hD0.self (sz := s.heap.size)
  generalize hAe : va_A w0 s.heap.size = A at hD hE ⊢
  have hA : ∀ q : Nat, s.heap.size ≤ q → A q := fun q h => by rw [← hAe]; exact Or.inr h
  have hw : Wd dC dI A s.heap s.heap [] w0 := ⟨hP, hD, va_S.rf⟩
  have hF : FE ksC [(1, 4, 4), (1, 5, 5), (1, 6, 6), (1, 7, 7), (1, 8, 8), (9, 0, 0), (9, 1, 1), (9, 2, 2), (9, 3, 3), (9, 4, 4), (9, 5, 5), (9, 6, 6), (9, 7, 7), (9, 8, 8), (45, 0, 64)] w0 w0 := FE.rf
  have hl := lv_entry ([.ref (ad 151), .ref (ad q1_), .int a2, .int a3]) (n := 5) (Nat.le_of_ble_eq_true rfl)
  rw [lg_entry_eq]
  generalize (lg_sl ([.ref (ad 151), .ref (ad q1_), .int a2, .int a3]) ++ List.replicate (5 - (lg_sl ([.ref (ad 151), .ref (ad q1_), .int a2, .int a3])).length) Slot.unset).toArray = ls at hl ⊢
  have hl : lv_has ls 5 [(0, .ref (ad 151)), (1, .ref (ad q1_)), (2, .int a2), (3, .int a3)] := hl
  generalize hloc : ([] : List Loc) = locs at hw ⊢
  have hinX8 : ∀ w ∈ u_ws RX8 TX8 8, w ∈ (wu yX8_tellComing cX8_tellComing 5 (some .int)) := fun _ h => List.mem_cons_of_mem _ (up_79 h)
  have hinX9 : ∀ w ∈ u_ws RX9 TX9 9, w ∈ (wu yX8_tellComing cX8_tellComing 5 (some .int)) := fun _ h => List.mem_cons_of_mem _ (up_82 h)
  refine lv_aload_n hx hb dX8_tellComing_0 rfl (lv_at hl 0 rfl) ?_
  refine tk_getA hC hK hw hT hinX8 kC_at151 (by decide) rfl 3 (by decide) (List.mem_cons_of_mem _ uw_5_8) rfl rfl dX8_tellComing_1 ?_
  refine lv_aload_n hx hb dX8_tellComing_4 rfl (lv_at hl 1 rfl) ?_
  refine tk_Vv hC hK hw hT hA hE hSR kC_at152 (by decide) rfl (k_X9_copyFrom_1 l adK adV dC dI cy ad B hB0 (Int.le_trans hB1 (by decide)) qr s1   q1_ hkq1_ w0 s.heap.size hT ) (cwV 1 hC.2.2.2.2 uV_RX8_37 rfl rfl rfl (by decide +kernel) ⟨Nat.le_of_ble_eq_true rfl, Nat.le_of_ble_eq_true rfl⟩) rfl hl.1 rfl (Nat.le_of_ble_eq_true rfl) dX8_tellComing_5 (fun w3 H locs hp2 hw => ?_)
  obtain ⟨hT, k4, hg5⟩ := hp2
  have hF := hF.tr k4 (by decide)
  clear hg5
  refine lv_aload_n hx hb dX8_tellComing_8 rfl (lv_at hl 0 rfl) ?_
  refine tk_getA hC hK hw hT hinX8 kC_at151 (by decide) rfl 2 (by decide) (List.mem_cons_of_mem _ uw_5_13) rfl rfl dX8_tellComing_9 ?_
  refine lv_aload_n hx hb dX8_tellComing_12 rfl (lv_at hl 0 rfl) ?_
  refine tk_getA hC hK hw hT hinX8 kC_at151 (by decide) rfl 3 (by decide) (List.mem_cons_of_mem _ uw_5_8) rfl rfl dX8_tellComing_13 ?_
  refine lv_iload_n hx hb dX8_tellComing_16 rfl (lv_at hl 2 rfl) ?_
  refine tk_Vi hC hK hw hT hA hE hSR kC_at149 (by decide) rfl (k_X1_takeSteps_2 l adK adV dC dI cy ad B hB0 (Int.le_trans hB1 (by decide)) qr s1   a2 (show 0 ≤ a2.toInt from ra2) (show a2.toInt ≤ 400 from ta2) w3 H.size hT ) (cwV 2 hC.2.2.2.2 uV_RX8_41 rfl rfl rfl (by decide +kernel) ⟨Nat.le_of_ble_eq_true rfl, Nat.le_of_ble_eq_true rfl⟩) rfl hl.1 rfl (Nat.le_of_ble_eq_true rfl) dX8_tellComing_17 (fun r6 w8 H locs hp7 hw => ?_)
  obtain ⟨hT, k9, hg12⟩ := hp7
  have hF := hF.tr k9 (by decide)
  obtain ⟨g10, g11⟩ := hg12
  refine lv_istore (lv' := [(4, .int r6), (0, .ref (ad 151)), (1, .ref (ad q1_)), (2, .int a2), (3, .int a3)]) hx hb dX8_tellComing_20 hl (by decide) rfl (fun ls hl => ?_)
  refine lv_iload_n hx hb dX8_tellComing_22 rfl (lv_at hl 4 rfl) ?_
  refine lv_if_ne (tgt := 50) hx hb dX8_tellComing_23 (by decide) (fun c13 => ?_) (fun c13 => ?_)
  · have c13 : ¬ a3.toInt = (0 : Int) := wk_eqF c13
    refine lv_iload_n hx hb dX8_tellComing_50 rfl (lv_at hl 4 rfl) ?_
    refine lv_iconst (v := 1) hx hb dX8_tellComing_51 (by decide) ?_
    refine lv_icmp_ne (tgt := 60) hx hb dX8_tellComing_52 (by decide) (fun c14 => ?_) (fun c14 => ?_)
    · have c14 : ¬ a3.toInt = (1 : Int) := wk_eqF c14
      refine lv_aload_n hx hb dX8_tellComing_60 rfl (lv_at hl 1 rfl) ?_
      refine tk_getA hC hK hw hT hinX8 kC_at151 (by decide) rfl 3 (by decide) (List.mem_cons_of_mem _ uw_5_8) rfl rfl dX8_tellComing_61 ?_
      refine tk_geti hC hK hw hT hinX9 kC_at152 (by decide) rfl 6 (by decide) (List.mem_cons_of_mem _ uw_53_11) rfl rfl dX8_tellComing_64 (fun x15 c16 rx15 tx15 => ?_)
      refine lv_aload_n hx hb dX8_tellComing_67 rfl (lv_at hl 2 rfl) ?_
      refine tk_geti hC hK hw hT hinX9 hkq1_ (by decide) rfl 6 (by decide) (List.mem_cons_of_mem _ uw_53_11) rfl rfl dX8_tellComing_68 (fun x17 c18 rx17 tx17 => ?_)
      refine lv_isub hx hb dX8_tellComing_71 ?_
      have nx19 := wk_i32 x15
      have nx20 := wk_i32 x17
      refine lv_topi (fun x21 ex21 => ?_)
      exact tk_iret hC hr hlocks hK ⟨hT, hF, (Or.inl trivial)⟩ hw dX8_tellComing_72
    · have c14 : a3.toInt = (1 : Int) := wk_eq.mp c14
      refine lv_iload hx hb dX8_tellComing_55 (lv_at hl 0 rfl) ?_
      refine lv_goto (tgt := 72) hx hb dX8_tellComing_57 (by decide) ?_
      exact tk_iret hC hr hlocks hK ⟨hT, hF, (Or.inr (Or.inr ⟨(show 0 ≤ r6.toInt by first | with_reducible assumption | omega), (show r6.toInt ≤ 400 by first | with_reducible assumption | omega), (show 1 ≤ a3.toInt by first | with_reducible assumption | omega), (show a3.toInt ≤ 1 by first | with_reducible assumption | omega)⟩))⟩ hw dX8_tellComing_72
  · have c13 : a3.toInt = (0 : Int) := wk_eq.mp c13
    refine lv_aload_n hx hb dX8_tellComing_26 rfl (lv_at hl 1 rfl) ?_
    refine tk_getA hC hK hw hT hinX8 kC_at151 (by decide) rfl 3 (by decide) (List.mem_cons_of_mem _ uw_5_8) rfl rfl dX8_tellComing_27 ?_
    refine tk_Vi hC hK hw hT hA hE hSR kC_at152 (by decide) rfl (k_X9_isAtGoal_2 l adK adV dC dI cy ad (B + 3600) (by omega) (by omega) qr s1    w8 H.size hT ) (cwV 0 hC.2.2.2.2 uV_RX8_47 rfl rfl rfl (by decide +kernel) ⟨Nat.le_of_ble_eq_true rfl, Nat.le_of_ble_eq_true rfl⟩) rfl hl.1 rfl (Nat.le_of_ble_eq_true rfl) dX8_tellComing_30 (fun r22 w24 H locs hp23 hw => ?_)
    obtain ⟨hT, k25, hg26⟩ := hp23
    have hF := hF.tr k25 (by decide)
    rcases hg26 with rfl | rfl
    · refine lv_if_eq (tgt := 47) hx hb dX8_tellComing_33 (by decide) (fun _ => ?_) (fun c => absurd (by decide) c)
      refine lv_bipush (v := (-2)) hx hb dX8_tellComing_47 (by decide) ?_
      exact tk_iret hC hr hlocks hK ⟨hT, hF, (Or.inr (Or.inl ⟨rfl, (show a3.toInt ≤ 0 by first | with_reducible assumption | omega)⟩))⟩ hw dX8_tellComing_49
    · refine lv_if_eq (tgt := 47) hx hb dX8_tellComing_33 (by decide) (fun c => absurd c (by decide)) (fun _ => ?_)
      refine lv_aload_n hx hb dX8_tellComing_36 rfl (lv_at hl 1 rfl) ?_
      refine tk_getA hC hK hw hT hinX8 kC_at151 (by decide) rfl 3 (by decide) (List.mem_cons_of_mem _ uw_5_8) rfl rfl dX8_tellComing_37 ?_
      refine tk_getB hC hK hw hT hinX9 kC_at152 (by decide) rfl 4 (by decide) (List.mem_cons_of_mem _ uw_53_10) rfl rfl dX8_tellComing_40 (fun x27 c28 rx27 tx27 => ?_)
      refine lv_l2i hx hb dX8_tellComing_43 rfl ?_
      refine lv_topi (fun x29 ex29 => ?_)
      refine lv_goto (tgt := 49) hx hb dX8_tellComing_44 (by decide) ?_
      exact tk_iret hC hr hlocks hK ⟨hT, hF, (Or.inl trivial)⟩ hw dX8_tellComing_49
abbrev P_X11_comes_1 (ad : Nat → Nat) (cy : Nat → ClassId) (B : Int) (qr : Nat) (s1 : Int) (a1 : Int32) (a2 : Int32) (a3 : Int32) (w0 : va_W) : Int32 → va_W → Prop := fun r u => TW ksC ad cy (B + 3600) qr s1 u ∧ FE ksC [(1, 4, 4), (1, 5, 5), (1, 6, 6), (1, 7, 7), (1, 8, 8), (9, 0, 0), (9, 1, 1), (9, 2, 2), (9, 3, 3), (9, 4, 4), (9, 5, 5), (9, 6, 6), (9, 7, 7), (9, 8, 8), (42, 0, 1100), (43, 0, 1100), (44, 0, 11), (45, 0, 64)] w0 u ∧ ((0 ≤ a1.toInt ∧ a1.toInt ≤ 3 ∧ 0 ≤ a2.toInt ∧ a2.toInt ≤ 400 ∧ 0 ≤ a3.toInt ∧ a3.toInt ≤ 2 ∧ (∃ y : Int32, gi u 38 9 = y ∧ 1 ≤ y.toInt ∧ y.toInt ≤ 4)) ∨ (r = (-2) ∧ 0 ≤ a1.toInt ∧ a1.toInt ≤ 3 ∧ 0 ≤ a2.toInt ∧ a2.toInt ≤ 400 ∧ 0 ≤ a3.toInt ∧ a3.toInt ≤ 0 ∧ (∃ y : Int32, gi u 38 9 = y ∧ 1 ≤ y.toInt ∧ y.toInt ≤ 4)) ∨ (0 ≤ r.toInt ∧ r.toInt ≤ 400 ∧ 0 ≤ a1.toInt ∧ a1.toInt ≤ 3 ∧ 0 ≤ a2.toInt ∧ a2.toInt ≤ 400 ∧ 1 ≤ a3.toInt ∧ a3.toInt ≤ 1 ∧ (∃ y : Int32, gi u 38 9 = y ∧ 1 ≤ y.toInt ∧ y.toInt ≤ 4)) ∨ (r = (-1)))
set_option maxHeartbeats 4000000 in
set_option maxRecDepth 100000 in
theorem k_X11_comes_1 (l : Launch) (adK adV : Nat → Nat) (dC : Nat → ClassId) (dI : Nat → Nat → Nat) (cy : Nat → ClassId) (ad : Nat → Nat) (B : Int) (hB0 : 2147483648 ≤ B) (hB1 : B ≤ 1152921504606843376) (qr : Nat) (s1 : Int)  (a1 : Int32) (a2 : Int32) (a3 : Int32) (w0 : va_W) (sz : Nat) (hT : TW ksC ad cy B qr s1 w0)  : Met l yX11_comes (wu yX11_comes cX11_comes 4 (some .int)) ({ frames := 8, cells := 0, slots := 0, locals := 182 }) (va_Pc [.ref (ad 0), .int a1, .int a2, .int a3] (wpreS adK adV dC dI cy sz w0)) (va_Qi (P_X11_comes_1 ad cy B qr s1 a1 a2 a3 w0) (fun u : va_W => wpost dC dI cy (va_A w0 sz) u) (va_A w0 sz)) 0 0 (va_A w0 sz) := by
  refine Met.ofW (cc := cX11_comes) (maxL := 4) (ret := (some .int)) (by decide) rfl ?_
  intro p e s m args below meth c s₁ Bk hml hv
  obtain ⟨rfl, ⟨hsz, hP, hK, hD0⟩, hE, hSR⟩ := hv
  have hx := Bk.exec
  have hb := Bk.bytes
  have hr := Bk.returns
  have hlocks := Bk.notSynchronized
  have hC : CallFix p m c cX11_comes 4 s _ (wu yX11_comes cX11_comes 4 (some .int)) RX11 := ⟨hx, hb, hml, findClass_of_methodNamed Bk.named, atoms_spec (ws := (wu yX11_comes cX11_comes 4 (some .int))) Bk.pre⟩
  subst hsz
  have hD := hD0.self (sz := s.heap.size)
  generalize hAe : va_A w0 s.heap.size = A at hD hE ⊢
  have hA : ∀ q : Nat, s.heap.size ≤ q → A q := fun q h => by rw [← hAe]; exact Or.inr h
  have hw : Wd dC dI A s.heap s.heap [] w0 := ⟨hP, hD, va_S.rf⟩
  have hF : FE ksC [(1, 4, 4), (1, 5, 5), (1, 6, 6), (1, 7, 7), (1, 8, 8), (9, 0, 0), (9, 1, 1), (9, 2, 2), (9, 3, 3), (9, 4, 4), (9, 5, 5), (9, 6, 6), (9, 7, 7), (9, 8, 8), (42, 0, 1100), (43, 0, 1100), (44, 0, 11), (45, 0, 64)] w0 w0 := FE.rf
  have hl := lv_entry ([.ref (ad 0), .int a1, .int a2, .int a3]) (n := 4) (Nat.le_of_ble_eq_true rfl)
  rw [lg_entry_eq]
  generalize (lg_sl ([.ref (ad 0), .int a1, .int a2, .int a3]) ++ List.replicate (4 - (lg_sl ([.ref (ad 0), .int a1, .int a2, .int a3])).length) Slot.unset).toArray = ls at hl ⊢
  have hl : lv_has ls 4 [(0, .ref (ad 0)), (1, .int a1), (2, .int a2), (3, .int a3)] := hl
  generalize hloc : ([] : List Loc) = locs at hw ⊢
  have hinX11 : ∀ w ∈ u_ws RX11 TX11 13, w ∈ (wu yX11_comes cX11_comes 4 (some .int)) := fun _ h => List.mem_cons_of_mem _ (up_70 h)
  have hinX5 : ∀ w ∈ u_ws RX5 TX5 14, w ∈ (wu yX11_comes cX11_comes 4 (some .int)) := fun _ h => List.mem_cons_of_mem _ (up_76 h)
  have J28 : ∀ (H : Heap) (locs : List Loc) (ls : Array Slot) (w1 : va_W), Wd dC dI A s.heap H locs w1 → TW ksC ad cy B qr s1 w1 → FE ksC [(1, 4, 4), (1, 5, 5), (1, 6, 6), (1, 7, 7), (1, 8, 8), (9, 0, 0), (9, 1, 1), (9, 2, 2), (9, 3, 3), (9, 4, 4), (9, 5, 5), (9, 6, 6), (9, 7, 7), (9, 8, 8), (42, 0, 1100), (43, 0, 1100), (44, 0, 11), (45, 0, 64)] w0 w1 → lv_has ls 4 [(0, .ref (ad 0)), (1, .int a1), (2, .int a2), (3, .int a3)] → W p l e ({ frames := 8, cells := 0, slots := 0, locals := 182 }) s m (List.toArray [.ref (ad 0), .int a1, .int a2, .int a3]) below meth c H locs 0 0 (MQ below (va_Qi (P_X11_comes_1 ad cy B qr s1 a1 a2 a3 w0) (fun u : va_W => wpost dC dI cy A u) A) (List.toArray [.ref (ad 0), .int a1, .int a2, .int a3]) s 0 0 A) (F0 m 28 ls []) := by
    intro H locs ls w1 hw hT hF hl
    refine lv_iconst (v := (-1)) hx hb dX11_comes_28 (by decide) ?_
    exact tk_iret hC hr hlocks hK ⟨(hT.up (show B ≤ (B + 3600) by omega)), hF, (Or.inr (Or.inr (Or.inr rfl)))⟩ hw dX11_comes_29
  refine lv_aload_n hx hb dX11_comes_0 rfl (lv_at hl 0 rfl) ?_
  refine lv_iload_n hx hb dX11_comes_1 rfl (lv_at hl 1 rfl) ?_
  refine tk_Vi hC hK hw hT hA hE hSR kC_at0 (by decide) rfl (k_X11_hasWalker_1 l adK adV dC dI cy ad B hB0 (Int.le_trans hB1 (by decide)) qr s1   a1 w0 s.heap.size hT ) (cwV 1 hC.2.2.2.2 uV_RX11_205 rfl rfl rfl (by decide +kernel) ⟨Nat.le_of_ble_eq_true rfl, Nat.le_of_ble_eq_true rfl⟩) rfl hl.1 rfl (Nat.le_of_ble_eq_true rfl) dX11_comes_2 (fun r2 w4 H locs hp3 hw => ?_)
  obtain ⟨hT, k5, hg10⟩ := hp3
  have hF := hF.tr k5 (by decide)
  rcases hg10 with rfl | ⟨rfl, g6, g7, ⟨x8, c9, rx8, tx8⟩⟩
  · refine lv_if_eq (tgt := 28) hx hb dX11_comes_5 (by decide) (fun _ => ?_) (fun c => absurd (by decide) c)
    exact J28  H locs ls w4   hw hT hF  (lv_sub hl [0, 1, 2, 3] rfl)
  · refine lv_if_eq (tgt := 28) hx hb dX11_comes_5 (by decide) (fun c => absurd c (by decide)) (fun _ => ?_)
    refine lv_iload_n hx hb dX11_comes_8 rfl (lv_at hl 2 rfl) ?_
    refine lv_if_lt (tgt := 28) hx hb dX11_comes_9 (by decide) (fun c11 => ?_) (fun c11 => ?_)
    · have c11 : a2.toInt < (0 : Int) := wk_lt.mp c11
      exact J28  H locs ls w4   hw hT hF  (lv_sub hl [0, 1, 2, 3] rfl)
    · have c11 : (0 : Int) ≤ a2.toInt := wk_ltF c11
      refine lv_iload_n hx hb dX11_comes_12 rfl (lv_at hl 2 rfl) ?_
      refine lv_sipush (v := 400) hx hb dX11_comes_13 (by decide) ?_
      refine lv_icmp_gt (tgt := 28) hx hb dX11_comes_16 (by decide) (fun c12 => ?_) (fun c12 => ?_)
      · have c12 : (400 : Int) < a2.toInt := wk_lt.mp c12
        exact J28  H locs ls w4   hw hT hF  (lv_sub hl [0, 1, 2, 3] rfl)
      · have c12 : a2.toInt ≤ (400 : Int) := wk_ltF c12
        refine lv_iload_n hx hb dX11_comes_19 rfl (lv_at hl 3 rfl) ?_
        refine lv_if_lt (tgt := 28) hx hb dX11_comes_20 (by decide) (fun c13 => ?_) (fun c13 => ?_)
        · have c13 : a3.toInt < (0 : Int) := wk_lt.mp c13
          exact J28  H locs ls w4   hw hT hF  (lv_sub hl [0, 1, 2, 3] rfl)
        · have c13 : (0 : Int) ≤ a3.toInt := wk_ltF c13
          refine lv_iload_n hx hb dX11_comes_23 rfl (lv_at hl 3 rfl) ?_
          refine lv_iconst (v := 2) hx hb dX11_comes_24 (by decide) ?_
          refine lv_icmp_le (tgt := 30) hx hb dX11_comes_25 (by decide) (fun c14 => ?_) (fun c14 => ?_)
          · have c14 : a3.toInt ≤ (2 : Int) := wk_le.mp c14
            refine lv_aload_n hx hb dX11_comes_30 rfl (lv_at hl 0 rfl) ?_
            refine tk_getA hC hK hw hT hinX11 kC_at0 (by decide) rfl 7 (by decide) (List.mem_cons_of_mem _ uw_1_14) rfl rfl dX11_comes_31 ?_
            refine tk_Vv hC hK hw hT hA hE hSR kC_at145 (by decide) rfl (k_X0_refreshAll_1 l adK adV dC dI cy ad B hB0 (Int.le_trans hB1 (by decide)) qr s1    w4 H.size hT ) (cwV 0 hC.2.2.2.2 uV_RX11_212 rfl rfl rfl (by decide +kernel) ⟨Nat.le_of_ble_eq_true rfl, Nat.le_of_ble_eq_true rfl⟩) rfl hl.1 rfl (Nat.le_of_ble_eq_true rfl) dX11_comes_34 (fun w17 H locs hp16 hw => ?_)
            obtain ⟨hT, k18, hg19⟩ := hp16
            have hF := hF.tr k18 (by decide)
            have c20 := k18.gi kC_at38 (by decide) c9
            clear hg19
            refine lv_aload_n hx hb dX11_comes_37 rfl (lv_at hl 0 rfl) ?_
            refine tk_getA hC hK hw hT hinX11 kC_at0 (by decide) rfl 9 (by decide) (List.mem_cons_of_mem _ uw_1_22) rfl rfl dX11_comes_38 ?_
            refine lv_aload_n hx hb dX11_comes_41 rfl (lv_at hl 0 rfl) ?_
            refine tk_getA hC hK hw hT hinX11 kC_at0 (by decide) rfl 4 (by decide) (List.mem_cons_of_mem _ uw_1_7) rfl rfl dX11_comes_42 ?_
            refine tk_getO hC hK hw hT hinX5 kC_at38 (by decide) rfl 2 (by decide) (List.mem_cons_of_mem _ uw_39_0) rfl rfl dX11_comes_45 ?_
            refine lv_iload_n hx hb dX11_comes_48 rfl (lv_at hl 1 rfl) ?_
            refine tk_aald hC hK hw hT kC_at49 rfl (by decide) rfl (show 0 ≤ a1.toInt by first | with_reducible assumption | omega) (show a1.toInt < 4 by first | with_reducible assumption | omega) dX11_comes_49 (fun j21 hj21 gj21 => ?_)
            refine lv_iload_n hx hb dX11_comes_50 rfl (lv_at hl 2 rfl) ?_
            refine lv_iload_n hx hb dX11_comes_51 rfl (lv_at hl 3 rfl) ?_
            refine tk_Vi hC hK hw hT hA hE hSR kC_at151 (by decide) rfl (k_X8_tellComing_1 l adK adV dC dI cy ad B hB0 (Int.le_trans hB1 (by decide)) qr s1   (el 33 49 j21) (kC_el33 kC_at49 hj21) a2 (show 0 ≤ a2.toInt from c11) (show a2.toInt ≤ 400 from c12) a3 (show 0 ≤ a3.toInt from c13) (show a3.toInt ≤ 2 from c14) w17 H.size hT ) (cwV 3 hC.2.2.2.2 uV_RX11_232 rfl rfl rfl (by decide +kernel) ⟨Nat.le_of_ble_eq_true rfl, Nat.le_of_ble_eq_true rfl⟩) rfl hl.1 rfl (Nat.le_of_ble_eq_true rfl) dX11_comes_52 (fun r22 w24 H locs hp23 hw => ?_)
            obtain ⟨hT, k25, hg31⟩ := hp23
            have hF := hF.tr k25 (by decide)
            have c32 := k25.gi kC_at38 (by decide) c20
            rcases hg31 with - | ⟨rfl, g26⟩ | ⟨g27, g28, g29, g30⟩
            · exact tk_iret hC hr hlocks hK ⟨hT, hF, (Or.inl ⟨(show 0 ≤ a1.toInt by first | with_reducible assumption | omega), (show a1.toInt ≤ 3 by first | with_reducible assumption | omega), (show 0 ≤ a2.toInt from c11), (show a2.toInt ≤ 400 from c12), (show 0 ≤ a3.toInt from c13), (show a3.toInt ≤ 2 from c14), ⟨x8, c32, (show 1 ≤ x8.toInt by first | with_reducible assumption | omega), (show x8.toInt ≤ 4 by first | with_reducible assumption | omega)⟩⟩)⟩ hw dX11_comes_55
            · exact tk_iret hC hr hlocks hK ⟨hT, hF, (Or.inr (Or.inl ⟨rfl, (show 0 ≤ a1.toInt by first | with_reducible assumption | omega), (show a1.toInt ≤ 3 by first | with_reducible assumption | omega), (show 0 ≤ a2.toInt from c11), (show a2.toInt ≤ 400 from c12), (show 0 ≤ a3.toInt from c13), (show a3.toInt ≤ 0 by first | with_reducible assumption | omega), ⟨x8, c32, (show 1 ≤ x8.toInt by first | with_reducible assumption | omega), (show x8.toInt ≤ 4 by first | with_reducible assumption | omega)⟩⟩))⟩ hw dX11_comes_55
            · exact tk_iret hC hr hlocks hK ⟨hT, hF, (Or.inr (Or.inr (Or.inl ⟨(show 0 ≤ r22.toInt by first | with_reducible assumption | omega), (show r22.toInt ≤ 400 by first | with_reducible assumption | omega), (show 0 ≤ a1.toInt by first | with_reducible assumption | omega), (show a1.toInt ≤ 3 by first | with_reducible assumption | omega), (show 0 ≤ a2.toInt from c11), (show a2.toInt ≤ 400 from c12), (show 1 ≤ a3.toInt by first | with_reducible assumption | omega), (show a3.toInt ≤ 1 by first | with_reducible assumption | omega), ⟨x8, c32, (show 1 ≤ x8.toInt by first | with_reducible assumption | omega), (show x8.toInt ≤ 4 by first | with_reducible assumption | omega)⟩⟩)))⟩ hw dX11_comes_55
          · have c14 : (2 : Int) < a3.toInt := wk_leF c14
            exact J28  H locs ls w4   hw hT hF  (lv_sub hl [0, 1, 2, 3] rfl)
abbrev P_X8_ghostKey_1 (ad : Nat → Nat) (cy : Nat → ClassId) (B : Int) (qr : Nat) (s1 : Int)  (w0 : va_W) : Int32 → va_W → Prop := fun r u => TW ksC ad cy B qr s1 u ∧ FE ksC ([] : List (Nat × Nat × Nat)) w0 u ∧ ((0 ≤ r.toInt ∧ r.toInt ≤ 18479))
set_option maxHeartbeats 4000000 in
set_option maxRecDepth 100000 in
theorem k_X8_ghostKey_1 (l : Launch) (adK adV : Nat → Nat) (dC : Nat → ClassId) (dI : Nat → Nat → Nat) (cy : Nat → ClassId) (ad : Nat → Nat) (B : Int) (hB0 : 2147483648 ≤ B) (hB1 : B ≤ 1152921504606846976) (qr : Nat) (s1 : Int)   (w0 : va_W) (sz : Nat) (hT : TW ksC ad cy B qr s1 w0)  : Met l yX8_ghostKey (wu yX8_ghostKey cX8_ghostKey 2 (some .int)) ({ frames := 1, cells := 0, slots := 0, locals := 12 }) (va_Pc [.ref (ad 151)] (wpreS adK adV dC dI cy sz w0)) (va_Qi (P_X8_ghostKey_1 ad cy B qr s1  w0) (fun u : va_W => wpost dC dI cy (va_A w0 sz) u) (va_A w0 sz)) 0 0 (va_A w0 sz) := by
  refine Met.ofW (cc := cX8_ghostKey) (maxL := 2) (ret := (some .int)) (by decide) rfl ?_
  intro p e s m args below meth c s₁ Bk hml hv
  obtain ⟨rfl, ⟨hsz, hP, hK, hD0⟩, hE, hSR⟩ := hv
  have hx := Bk.exec
  have hb := Bk.bytes
  have hr := Bk.returns
  have hlocks := Bk.notSynchronized
  have hC : CallFix p m c cX8_ghostKey 2 s _ (wu yX8_ghostKey cX8_ghostKey 2 (some .int)) RX8 := ⟨hx, hb, hml, findClass_of_methodNamed Bk.named, atoms_spec (ws := (wu yX8_ghostKey cX8_ghostKey 2 (some .int))) Bk.pre⟩
  subst hsz
  have hD := hD0.self (sz := s.heap.size)
  generalize hAe : va_A w0 s.heap.size = A at hD hE ⊢
  have hA : ∀ q : Nat, s.heap.size ≤ q → A q := fun q h => by rw [← hAe]; exact Or.inr h
  have hw : Wd dC dI A s.heap s.heap [] w0 := ⟨hP, hD, va_S.rf⟩
  have hF : FE ksC ([] : List (Nat × Nat × Nat)) w0 w0 := FE.rf
  have hl := lv_entry ([.ref (ad 151)]) (n := 2) (Nat.le_of_ble_eq_true rfl)
  rw [lg_entry_eq]
  generalize (lg_sl ([.ref (ad 151)]) ++ List.replicate (2 - (lg_sl ([.ref (ad 151)])).length) Slot.unset).toArray = ls at hl ⊢
  have hl : lv_has ls 2 [(0, .ref (ad 151))] := hl
  generalize hloc : ([] : List Loc) = locs at hw ⊢
  have hinX8 : ∀ w ∈ u_ws RX8 TX8 8, w ∈ (wu yX8_ghostKey cX8_ghostKey 2 (some .int)) := fun _ h => List.mem_cons_of_mem _ (up_79 h)
  have hinX9 : ∀ w ∈ u_ws RX9 TX9 9, w ∈ (wu yX8_ghostKey cX8_ghostKey 2 (some .int)) := fun _ h => List.mem_cons_of_mem _ (up_82 h)
  refine lv_aload_n hx hb dX8_ghostKey_0 rfl (lv_at hl 0 rfl) ?_
  refine tk_getA hC hK hw hT hinX8 kC_at151 (by decide) rfl 3 (by decide) (List.mem_cons_of_mem _ uw_5_8) rfl rfl dX8_ghostKey_1 ?_
  refine tk_getB hC hK hw hT hinX9 kC_at152 (by decide) rfl 4 (by decide) (List.mem_cons_of_mem _ uw_53_10) rfl rfl dX8_ghostKey_4 (fun x1 c2 rx1 tx1 => ?_)
  refine lv_ldc2 (v := 168) hx hb hC.2.2.2.1 (hC.2.2.2.2 _ (List.mem_cons_of_mem _ uw_55_2)) dX8_ghostKey_7 ?_
  refine lv_lrem hx hb dX8_ghostKey_10 (by decide) ?_
  refine lv_topl (fun x3 ex3 => ?_)
  have ex3 : x3.toInt = x1.toInt % (168 : Int) := by rw [ex3]; exact wk_reml (show 0 ≤ x1.toInt by first | with_reducible assumption | omega) (show 0 < (168 : Int) by decide)
  refine lv_l2i hx hb dX8_ghostKey_11 rfl ?_
  refine lv_topi (fun x4 ex4 => ?_)
  have ex4 : x4.toInt = x3.toInt := by rw [ex4]; exact wk_l2i (by omega) (by omega)
  refine lv_istore_n (lv' := [(1, .int x4), (0, .ref (ad 151))]) hx hb dX8_ghostKey_12 rfl hl (by decide) rfl (fun ls hl => ?_)
  refine lv_iload_n hx hb dX8_ghostKey_13 rfl (lv_at hl 0 rfl) ?_
  refine lv_bipush (v := 10) hx hb dX8_ghostKey_14 (by decide) ?_
  refine lv_imul hx hb dX8_ghostKey_16 ?_
  refine lv_topi (fun x5 ex5 => ?_)
  have ex5 : x5.toInt = x4.toInt * (10 : Int) := by rw [ex5]; exact wk_mul (show (-2147483648) ≤ x4.toInt * (10 : Int) by omega) (show x4.toInt * (10 : Int) ≤ 2147483647 by omega)
  refine lv_aload_n hx hb dX8_ghostKey_17 rfl (lv_at hl 1 rfl) ?_
  refine tk_getA hC hK hw hT hinX8 kC_at151 (by decide) rfl 3 (by decide) (List.mem_cons_of_mem _ uw_5_8) rfl rfl dX8_ghostKey_18 ?_
  refine tk_geti hC hK hw hT hinX9 kC_at152 (by decide) rfl 0 (by decide) (List.mem_cons_of_mem _ uw_55_3) rfl rfl dX8_ghostKey_21 (fun x6 c7 rx6 tx6 => ?_)
  refine lv_iadd hx hb dX8_ghostKey_24 ?_
  refine lv_topi (fun x8 ex8 => ?_)
  have ex8 : x8.toInt = x5.toInt + x6.toInt := by rw [ex8]; exact wk_add (show (-2147483648) ≤ x5.toInt + x6.toInt by omega) (show x5.toInt + x6.toInt ≤ 2147483647 by omega)
  refine lv_bipush (v := 11) hx hb dX8_ghostKey_25 (by decide) ?_
  refine lv_imul hx hb dX8_ghostKey_27 ?_
  refine lv_topi (fun x9 ex9 => ?_)
  have ex9 : x9.toInt = x8.toInt * (11 : Int) := by rw [ex9]; exact wk_mul (show (-2147483648) ≤ x8.toInt * (11 : Int) by omega) (show x8.toInt * (11 : Int) ≤ 2147483647 by omega)
  refine lv_aload_n hx hb dX8_ghostKey_28 rfl (lv_at hl 1 rfl) ?_
  refine tk_getA hC hK hw hT hinX8 kC_at151 (by decide) rfl 3 (by decide) (List.mem_cons_of_mem _ uw_5_8) rfl rfl dX8_ghostKey_29 ?_
  refine tk_geti hC hK hw hT hinX9 kC_at152 (by decide) rfl 7 (by decide) (List.mem_cons_of_mem _ uw_55_4) rfl rfl dX8_ghostKey_32 (fun x10 c11 rx10 tx10 => ?_)
  refine lv_iadd hx hb dX8_ghostKey_35 ?_
  refine lv_topi (fun x12 ex12 => ?_)
  have ex12 : x12.toInt = x9.toInt + x10.toInt := by rw [ex12]; exact wk_add (show (-2147483648) ≤ x9.toInt + x10.toInt by omega) (show x9.toInt + x10.toInt ≤ 2147483647 by omega)
  refine lv_iconst (v := 1) hx hb dX8_ghostKey_36 (by decide) ?_
  refine lv_iadd hx hb dX8_ghostKey_37 ?_
  refine lv_topi (fun x13 ex13 => ?_)
  have ex13 : x13.toInt = x12.toInt + (1 : Int) := by rw [ex13]; exact wk_add (show (-2147483648) ≤ x12.toInt + (1 : Int) by omega) (show x12.toInt + (1 : Int) ≤ 2147483647 by omega)
  exact tk_iret hC hr hlocks hK ⟨hT, hF, ⟨(show 0 ≤ x13.toInt by first | with_reducible assumption | omega), (show x13.toInt ≤ 18479 by first | with_reducible assumption | omega)⟩⟩ hw dX8_ghostKey_38
abbrev P_X8_findCircle_1 (ad : Nat → Nat) (cy : Nat → ClassId) (B : Int) (qr : Nat) (s1 : Int) (a1 : Int32) (w0 : va_W) : Int32 → va_W → Prop := fun r u => TW ksC ad cy (B + 2709) qr s1 u ∧ FE ksC [(1, 4, 4), (1, 5, 5), (1, 6, 6), (1, 7, 7), (1, 8, 8), (9, 0, 0), (9, 4, 4), (9, 5, 5), (9, 6, 6), (9, 7, 7), (9, 8, 8), (45, 0, 64), (46, 0, 301)] w0 u ∧ (((-298) ≤ r.toInt ∧ r.toInt ≤ 300 ∧ 1 ≤ a1.toInt) ∨ (r = (-2)) ∨ (0 ≤ r.toInt ∧ r.toInt ≤ 299 ∧ a1.toInt ≤ 0))
set_option maxHeartbeats 4000000 in
set_option maxRecDepth 100000 in
theorem k_X8_findCircle_1 (l : Launch) (adK adV : Nat → Nat) (dC : Nat → ClassId) (dI : Nat → Nat → Nat) (cy : Nat → ClassId) (ad : Nat → Nat) (B : Int) (hB0 : 2147483648 ≤ B) (hB1 : B ≤ 1152921504606844267) (qr : Nat) (s1 : Int)  (a1 : Int32) (ra1 : 0 ≤ a1.toInt) (ta1 : a1.toInt ≤ 1) (w0 : va_W) (sz : Nat) (hT : TW ksC ad cy B qr s1 w0)  : Met l yX8_findCircle (wu yX8_findCircle cX8_findCircle 4 (some .int)) ({ frames := 6, cells := 0, slots := 0, locals := 135 }) (va_Pc [.ref (ad 151), .int a1] (wpreS adK adV dC dI cy sz w0)) (va_Qi (P_X8_findCircle_1 ad cy B qr s1 a1 w0) (fun u : va_W => wpost dC dI cy (va_A w0 sz) u) (va_A w0 sz)) 0 0 (va_A w0 sz) := by
  refine Met.ofW (cc := cX8_findCircle) (maxL := 4) (ret := (some .int)) (by decide) rfl ?_
  intro p e s m args below meth c s₁ Bk hml hv
  obtain ⟨rfl, ⟨hsz, hP, hK, hD0⟩, hE, hSR⟩ := hv
  have hx := Bk.exec
  have hb := Bk.bytes
  have hr := Bk.returns
  have hlocks := Bk.notSynchronized
  have hC : CallFix p m c cX8_findCircle 4 s _ (wu yX8_findCircle cX8_findCircle 4 (some .int)) RX8 := ⟨hx, hb, hml, findClass_of_methodNamed Bk.named, atoms_spec (ws := (wu yX8_findCircle cX8_findCircle 4 (some .int))) Bk.pre⟩
  subst hsz
  have hD := hD0.self (sz := s.heap.size)
  generalize hAe : va_A w0 s.heap.size = A at hD hE ⊢
  have hA : ∀ q : Nat, s.heap.size ≤ q → A q := fun q h => by rw [← hAe]; exact Or.inr h
  have hw : Wd dC dI A s.heap s.heap [] w0 := ⟨hP, hD, va_S.rf⟩
  have hF : FE ksC [(1, 4, 4), (1, 5, 5), (1, 6, 6), (1, 7, 7), (1, 8, 8), (9, 0, 0), (9, 4, 4), (9, 5, 5), (9, 6, 6), (9, 7, 7), (9, 8, 8), (45, 0, 64), (46, 0, 301)] w0 w0 := FE.rf
  have hl := lv_entry ([.ref (ad 151), .int a1]) (n := 4) (Nat.le_of_ble_eq_true rfl)
  rw [lg_entry_eq]
  generalize (lg_sl ([.ref (ad 151), .int a1]) ++ List.replicate (4 - (lg_sl ([.ref (ad 151), .int a1])).length) Slot.unset).toArray = ls at hl ⊢
  have hl : lv_has ls 4 [(0, .ref (ad 151)), (1, .int a1)] := hl
  generalize hloc : ([] : List Loc) = locs at hw ⊢
  have hinX8 : ∀ w ∈ u_ws RX8 TX8 8, w ∈ (wu yX8_findCircle cX8_findCircle 4 (some .int)) := fun _ h => List.mem_cons_of_mem _ (up_79 h)
  have L12 : ∀ (n12 : Nat) (v12_2 : Int32) (f12_153_0 : Int32) (H : Heap) (locs : List Loc) (ls : Array Slot) (w1 : va_W), 0 ≤ a1.toInt → a1.toInt ≤ 1 → 1 ≤ v12_2.toInt → v12_2.toInt ≤ 301 → 0 ≤ f12_153_0.toInt → f12_153_0.toInt ≤ 18479 → (301 - v12_2.toInt).toNat < n12 → Wd dC dI A s.heap H locs w1 → TW ksC ad cy (B + 0 + 9 * v12_2.toInt) qr s1 w1 → FE ksC [(1, 4, 4), (1, 5, 5), (1, 6, 6), (1, 7, 7), (1, 8, 8), (9, 0, 0), (9, 4, 4), (9, 5, 5), (9, 6, 6), (9, 7, 7), (9, 8, 8), (45, 0, 64), (46, 0, 301)] w0 w1 → gi w1 153 0 = f12_153_0 → lv_has ls 4 [(0, .ref (ad 151)), (1, .int a1), (2, .int v12_2)] → W p l e ({ frames := 6, cells := 0, slots := 0, locals := 135 }) s m (List.toArray [.ref (ad 151), .int a1]) below meth c H locs 0 0 (MQ below (va_Qi (P_X8_findCircle_1 ad cy B qr s1 a1 w0) (fun u : va_W => wpost dC dI cy A u) A) (List.toArray [.ref (ad 151), .int a1]) s 0 0 A) (F0 m 12 ls []) := by
    intro n12
    induction n12 with
    | zero => intro v12_2 f12_153_0 H locs ls w1 r2 t3 r4 t5 r6 t7 hm12 hw hT hF c8 hl; omega
    | succ n12 ih12 =>
      intro v12_2 f12_153_0 H locs ls w1 r2 t3 r4 t5 r6 t7 hm12 hw hT hF c8 hl
      have L56 : ∀ (n56 : Nat) (v56_3 : Int32) (H : Heap) (locs : List Loc) (ls : Array Slot) (w9 : va_W), 0 ≤ a1.toInt → a1.toInt ≤ 1 → 1 ≤ v12_2.toInt → v12_2.toInt ≤ 300 → 0 ≤ v56_3.toInt → v56_3.toInt ≤ 300 → 0 ≤ f12_153_0.toInt → f12_153_0.toInt ≤ 18479 → (300 - v56_3.toInt).toNat < n56 → Wd dC dI A s.heap H locs w9 → TW ksC ad cy (B + 9 + 9 * v12_2.toInt) qr s1 w9 → FE ksC [(1, 4, 4), (1, 5, 5), (1, 6, 6), (1, 7, 7), (1, 8, 8), (9, 0, 0), (9, 4, 4), (9, 5, 5), (9, 6, 6), (9, 7, 7), (9, 8, 8), (45, 0, 64), (46, 0, 301)] w0 w9 → gi w9 153 0 = f12_153_0 → lv_has ls 4 [(0, .ref (ad 151)), (1, .int a1), (2, .int v12_2), (3, .int v56_3)] → W p l e ({ frames := 6, cells := 0, slots := 0, locals := 135 }) s m (List.toArray [.ref (ad 151), .int a1]) below meth c H locs 0 0 (MQ below (va_Qi (P_X8_findCircle_1 ad cy B qr s1 a1 w0) (fun u : va_W => wpost dC dI cy A u) A) (List.toArray [.ref (ad 151), .int a1]) s 0 0 A) (F0 m 56 ls []) := by
        intro n56
        induction n56 with
        | zero => intro v56_3 H locs ls w9 r10 t11 r12 t13 r14 t15 r16 t17 hm56 hw hT hF c18 hl; omega
        | succ n56 ih56 =>
          intro v56_3 H locs ls w9 r10 t11 r12 t13 r14 t15 r16 t17 hm56 hw hT hF c18 hl
          refine lv_iload_n hx hb dX8_findCircle_56 rfl (lv_at hl 3 rfl) ?_
          refine lv_iload_n hx hb dX8_findCircle_57 rfl (lv_at hl 2 rfl) ?_
          refine lv_icmp_ge (tgt := 94) hx hb dX8_findCircle_58 (by decide) (fun c19 => ?_) (fun c19 => ?_)
          · have c19 : v12_2.toInt ≤ v56_3.toInt := wk_le.mp c19
            obtain ⟨x20, ex20⟩ : ∃ y : Int32, y = v12_2 + Int32.ofInt 1 := ⟨_, rfl⟩
            refine lv_iinc (v := x20) (lv' := [(2, .int x20), (0, .ref (ad 151)), (1, .int a1), (3, .int v56_3)]) hx hb dX8_findCircle_94 hl (k := 2) rfl ex20.symm (by decide) rfl (fun ls hl => ?_)
            have ex20 : x20.toInt = v12_2.toInt + 1 := by rw [ex20]; exact wk_add (y := 1) (show -2147483648 ≤ v12_2.toInt + 1 by omega) (show v12_2.toInt + 1 ≤ 2147483647 by omega)
            refine lv_goto (tgt := 12) hx hb dX8_findCircle_97 (by decide) ?_
            exact ih12 x20 f12_153_0 H locs ls w9 (show 0 ≤ a1.toInt from r10) (show a1.toInt ≤ 1 from t11) (show 1 ≤ x20.toInt by first | with_reducible assumption | omega) (show x20.toInt ≤ 301 by first | with_reducible assumption | omega) (show 0 ≤ f12_153_0.toInt from r16) (show f12_153_0.toInt ≤ 18479 from t17) (show (301 - x20.toInt).toNat < n12 by first | exact tn_lt hm12 (by omega) (by omega) | omega) hw (hT.up (show (B + 9 + 9 * v12_2.toInt) ≤ (B + 0 + 9 * x20.toInt) by omega)) hF c18 (lv_sub hl [1, 2, 0] rfl)
          · have c19 : v56_3.toInt < v12_2.toInt := wk_leF c19
            refine lv_aload_n hx hb dX8_findCircle_61 rfl (lv_at hl 0 rfl) ?_
            refine tk_getA hC hK hw hT hinX8 kC_at151 (by decide) rfl 4 (by decide) (List.mem_cons_of_mem _ uw_5_9) rfl rfl dX8_findCircle_62 ?_
            refine lv_iload_n hx hb dX8_findCircle_65 rfl (lv_at hl 3 rfl) ?_
            refine tk_iald hC hK hw hT kC_at153 rfl rfl (show 0 ≤ v56_3.toInt from r14) (show v56_3.toInt < 301 from Int.lt_of_le_of_lt t15 (by decide)) dX8_findCircle_66 (fun x21 c22 rx21 tx21 => ?_)
            refine lv_aload_n hx hb dX8_findCircle_67 rfl (lv_at hl 0 rfl) ?_
            refine tk_getA hC hK hw hT hinX8 kC_at151 (by decide) rfl 4 (by decide) (List.mem_cons_of_mem _ uw_5_9) rfl rfl dX8_findCircle_68 ?_
            refine lv_iload_n hx hb dX8_findCircle_71 rfl (lv_at hl 2 rfl) ?_
            refine tk_iald hC hK hw hT kC_at153 rfl rfl (show 0 ≤ v12_2.toInt from Int.le_trans (by decide) r12) (show v12_2.toInt < 301 from Int.lt_of_le_of_lt t13 (by decide)) dX8_findCircle_72 (fun x23 c24 rx23 tx23 => ?_)
            refine lv_icmp_ne (tgt := 88) hx hb dX8_findCircle_73 (by decide) (fun c25 => ?_) (fun c25 => ?_)
            · have c25 : ¬ x21.toInt = x23.toInt := wk_eqF c25
              obtain ⟨x26, ex26⟩ : ∃ y : Int32, y = v56_3 + Int32.ofInt 1 := ⟨_, rfl⟩
              refine lv_iinc (v := x26) (lv' := [(3, .int x26), (0, .ref (ad 151)), (1, .int a1), (2, .int v12_2)]) hx hb dX8_findCircle_88 hl (k := 3) rfl ex26.symm (by decide) rfl (fun ls hl => ?_)
              have ex26 : x26.toInt = v56_3.toInt + 1 := by rw [ex26]; exact wk_add (y := 1) (show -2147483648 ≤ v56_3.toInt + 1 by omega) (show v56_3.toInt + 1 ≤ 2147483647 by omega)
              refine lv_goto (tgt := 56) hx hb dX8_findCircle_91 (by decide) ?_
              exact ih56 x26 H locs ls w9 (show 0 ≤ a1.toInt from r10) (show a1.toInt ≤ 1 from t11) (show 1 ≤ v12_2.toInt from r12) (show v12_2.toInt ≤ 300 from t13) (show 0 ≤ x26.toInt by first | with_reducible assumption | omega) (show x26.toInt ≤ 300 by first | with_reducible assumption | omega) (show 0 ≤ f12_153_0.toInt from r16) (show f12_153_0.toInt ≤ 18479 from t17) (show (300 - x26.toInt).toNat < n56 by first | exact tn_lt hm56 (by omega) (by omega) | omega) hw hT hF c18 (lv_sub hl [1, 2, 3, 0] rfl)
            · have c25 : x21.toInt = x23.toInt := wk_eq.mp c25
              refine lv_iload_n hx hb dX8_findCircle_76 rfl (lv_at hl 1 rfl) ?_
              refine lv_if_ne (tgt := 84) hx hb dX8_findCircle_77 (by decide) (fun c27 => ?_) (fun c27 => ?_)
              · have c27 : ¬ a1.toInt = (0 : Int) := wk_eqF c27
                refine lv_iload_n hx hb dX8_findCircle_84 rfl (lv_at hl 2 rfl) ?_
                refine lv_iload_n hx hb dX8_findCircle_85 rfl (lv_at hl 3 rfl) ?_
                refine lv_isub hx hb dX8_findCircle_86 ?_
                refine lv_topi (fun x28 ex28 => ?_)
                have ex28 : x28.toInt = v12_2.toInt - v56_3.toInt := by rw [ex28]; exact wk_sub (show (-2147483648) ≤ v12_2.toInt - v56_3.toInt by omega) (show v12_2.toInt - v56_3.toInt ≤ 2147483647 by omega)
                exact tk_iret hC hr hlocks hK ⟨(hT.up (show (B + 9 + 9 * v12_2.toInt) ≤ (B + 2709) by omega)), hF, (Or.inl ⟨(show (-298) ≤ x28.toInt by first | with_reducible assumption | omega), (show x28.toInt ≤ 300 by first | with_reducible assumption | omega), (show 1 ≤ a1.toInt by first | with_reducible assumption | omega)⟩)⟩ hw dX8_findCircle_87
              · have c27 : a1.toInt = (0 : Int) := wk_eq.mp c27
                refine lv_iload_n hx hb dX8_findCircle_80 rfl (lv_at hl 3 rfl) ?_
                refine lv_goto (tgt := 87) hx hb dX8_findCircle_81 (by decide) ?_
                exact tk_iret hC hr hlocks hK ⟨(hT.up (show (B + 9 + 9 * v12_2.toInt) ≤ (B + 2709) by omega)), hF, (Or.inr (Or.inr ⟨(show 0 ≤ v56_3.toInt from r14), (show v56_3.toInt ≤ 299 by first | with_reducible assumption | omega), (show a1.toInt ≤ 0 by first | with_reducible assumption | omega)⟩))⟩ hw dX8_findCircle_87
      refine lv_iload_n hx hb dX8_findCircle_12 rfl (lv_at hl 2 rfl) ?_
      refine lv_sipush (v := 300) hx hb dX8_findCircle_13 (by decide) ?_
      refine lv_icmp_gt (tgt := 100) hx hb dX8_findCircle_16 (by decide) (fun c29 => ?_) (fun c29 => ?_)
      · have c29 : (300 : Int) < v12_2.toInt := wk_lt.mp c29
        refine lv_bipush (v := (-2)) hx hb dX8_findCircle_100 (by decide) ?_
        exact tk_iret hC hr hlocks hK ⟨(hT.up (show (B + 0 + 9 * v12_2.toInt) ≤ (B + 2709) by omega)), hF, (Or.inr (Or.inl rfl))⟩ hw dX8_findCircle_102
      · have c29 : v12_2.toInt ≤ (300 : Int) := wk_ltF c29
        refine lv_aload_n hx hb dX8_findCircle_19 rfl (lv_at hl 0 rfl) ?_
        refine tk_getA hC hK hw hT hinX8 kC_at151 (by decide) rfl 2 (by decide) (List.mem_cons_of_mem _ uw_5_13) rfl rfl dX8_findCircle_20 ?_
        refine lv_aload_n hx hb dX8_findCircle_23 rfl (lv_at hl 0 rfl) ?_
        refine tk_getA hC hK hw hT hinX8 kC_at151 (by decide) rfl 3 (by decide) (List.mem_cons_of_mem _ uw_5_8) rfl rfl dX8_findCircle_24 ?_
        refine tk_Vi hC hK hw hT hA hE hSR kC_at149 (by decide) rfl (k_X1_takeStep_2 l adK adV dC dI cy ad (B + 0 + 9 * v12_2.toInt) (by omega) (by omega) qr s1    w1 H.size hT ) (cwV 1 hC.2.2.2.2 uV_RX8_71 rfl rfl rfl (by decide +kernel) ⟨Nat.le_of_ble_eq_true rfl, Nat.le_of_ble_eq_true rfl⟩) rfl hl.1 rfl (Nat.le_of_ble_eq_true rfl) dX8_findCircle_27 (fun r30 w32 H locs hp31 hw => ?_)
        obtain ⟨hT, k33, hg36⟩ := hp31
        have hT := hT.up (B' := (B + 9 + 9 * v12_2.toInt)) (by omega)
        have hF := hF.tr k33 (by decide)
        have c37 := k33.gi kC_at153 (by decide) c8
        rcases hg36 with ⟨x34, c35, rx34, tx34⟩ | rfl
        · refine lv_pop hx hb dX8_findCircle_30 rfl ?_
          refine lv_aload_n hx hb dX8_findCircle_31 rfl (lv_at hl 0 rfl) ?_
          refine tk_getA hC hK hw hT hinX8 kC_at151 (by decide) rfl 3 (by decide) (List.mem_cons_of_mem _ uw_5_8) rfl rfl dX8_findCircle_32 ?_
          refine tk_Vi hC hK hw hT hA hE hSR kC_at152 (by decide) rfl (k_X9_isAtGoal_2 l adK adV dC dI cy ad (B + 9 + 9 * v12_2.toInt) (by omega) (by omega) qr s1    w32 H.size hT ) (cwV 0 hC.2.2.2.2 uV_RX8_47 rfl rfl rfl (by decide +kernel) ⟨Nat.le_of_ble_eq_true rfl, Nat.le_of_ble_eq_true rfl⟩) rfl hl.1 rfl (Nat.le_of_ble_eq_true rfl) dX8_findCircle_35 (fun r38 w40 H locs hp39 hw => ?_)
          obtain ⟨hT, k41, hg42⟩ := hp39
          have hF := hF.tr k41 (by decide)
          have c43 := k41.gi kC_at153 (by decide) c37
          have c44 := k41.gi kC_at149 (by decide) c35
          rcases hg42 with rfl | rfl
          · refine lv_if_eq (tgt := 44) hx hb dX8_findCircle_38 (by decide) (fun _ => ?_) (fun c => absurd (by decide) c)
            refine lv_aload_n hx hb dX8_findCircle_44 rfl (lv_at hl 0 rfl) ?_
            refine tk_getA hC hK hw hT hinX8 kC_at151 (by decide) rfl 4 (by decide) (List.mem_cons_of_mem _ uw_5_9) rfl rfl dX8_findCircle_45 ?_
            refine lv_iload_n hx hb dX8_findCircle_48 rfl (lv_at hl 2 rfl) ?_
            refine lv_aload_n hx hb dX8_findCircle_49 rfl (lv_at hl 0 rfl) ?_
            refine tk_Vi hC hK hw hT hA hE hSR kC_at151 (by decide) rfl (k_X8_ghostKey_1 l adK adV dC dI cy ad (B + 9 + 9 * v12_2.toInt) (by omega) (by omega) qr s1    w40 H.size hT ) (cwV 0 hC.2.2.2.2 uV_RX8_67 rfl rfl rfl (by decide +kernel) ⟨Nat.le_of_ble_eq_true rfl, Nat.le_of_ble_eq_true rfl⟩) rfl hl.1 rfl (Nat.le_of_ble_eq_true rfl) dX8_findCircle_50 (fun r45 w47 H locs hp46 hw => ?_)
            obtain ⟨hT, k48, hg51⟩ := hp46
            have hF := hF.tr k48 (by decide)
            have c52 := k48.gi kC_at153 (by decide) c43
            have c53 := k48.gi kC_at149 (by decide) c44
            obtain ⟨g49, g50⟩ := hg51
            refine tk_iast hC hK hw hT kC_at153 (by decide) rfl rfl (show 0 ≤ v12_2.toInt from Int.le_trans (by decide) r4) (show v12_2.toInt < 301 from Int.lt_of_le_of_lt c29 (by decide)) (wk_i32 r45).1 (wk_i32 r45).2 dX8_findCircle_53 (fun H locs w54 hw hT k56 c55 => ?_)
            have hF := hF.put kC_at153 (inE_of (a := 0) (b := 301) (by decide) (show 0 ≤ v12_2.toInt.toNat by omega) (show v12_2.toInt.toNat ≤ 301 by omega)) k56
            have c57 := k56.gi (Or.inr (show 0 ≠ v12_2.toInt.toNat by omega)) c52
            have c58 := k56.gi (Or.inl (tk_ne kC_at149 kC_at153 (by decide))) c53
            refine lv_iconst (v := 0) hx hb dX8_findCircle_54 (by decide) ?_
            refine lv_istore_n (lv' := [(3, .int 0), (0, .ref (ad 151)), (1, .int a1), (2, .int v12_2)]) hx hb dX8_findCircle_55 rfl hl (by decide) rfl (fun ls hl => ?_)
            exact L56 ((300 - (0 : Int)).toNat + 1) 0 H locs ls w54 (show 0 ≤ a1.toInt from r2) (show a1.toInt ≤ 1 from t3) (show 1 ≤ v12_2.toInt from r4) (show v12_2.toInt ≤ 300 from c29) (by decide) (by decide) (show 0 ≤ f12_153_0.toInt from r6) (show f12_153_0.toInt ≤ 18479 from t7) (Nat.lt_succ_self _) hw hT hF c57 (lv_sub hl [1, 2, 3, 0] rfl)
          · refine lv_if_eq (tgt := 44) hx hb dX8_findCircle_38 (by decide) (fun c => absurd c (by decide)) (fun _ => ?_)
            refine lv_bipush (v := (-2)) hx hb dX8_findCircle_41 (by decide) ?_
            exact tk_iret hC hr hlocks hK ⟨(hT.up (show (B + 9 + 9 * v12_2.toInt) ≤ (B + 2709) by omega)), hF, (Or.inr (Or.inl rfl))⟩ hw dX8_findCircle_43
        · refine lv_pop hx hb dX8_findCircle_30 rfl ?_
          refine lv_aload_n hx hb dX8_findCircle_31 rfl (lv_at hl 0 rfl) ?_
          refine tk_getA hC hK hw hT hinX8 kC_at151 (by decide) rfl 3 (by decide) (List.mem_cons_of_mem _ uw_5_8) rfl rfl dX8_findCircle_32 ?_
          refine tk_Vi hC hK hw hT hA hE hSR kC_at152 (by decide) rfl (k_X9_isAtGoal_2 l adK adV dC dI cy ad (B + 9 + 9 * v12_2.toInt) (by omega) (by omega) qr s1    w32 H.size hT ) (cwV 0 hC.2.2.2.2 uV_RX8_47 rfl rfl rfl (by decide +kernel) ⟨Nat.le_of_ble_eq_true rfl, Nat.le_of_ble_eq_true rfl⟩) rfl hl.1 rfl (Nat.le_of_ble_eq_true rfl) dX8_findCircle_35 (fun r59 w61 H locs hp60 hw => ?_)
          obtain ⟨hT, k62, hg63⟩ := hp60
          have hF := hF.tr k62 (by decide)
          have c64 := k62.gi kC_at153 (by decide) c37
          rcases hg63 with rfl | rfl
          · refine lv_if_eq (tgt := 44) hx hb dX8_findCircle_38 (by decide) (fun _ => ?_) (fun c => absurd (by decide) c)
            refine lv_aload_n hx hb dX8_findCircle_44 rfl (lv_at hl 0 rfl) ?_
            refine tk_getA hC hK hw hT hinX8 kC_at151 (by decide) rfl 4 (by decide) (List.mem_cons_of_mem _ uw_5_9) rfl rfl dX8_findCircle_45 ?_
            refine lv_iload_n hx hb dX8_findCircle_48 rfl (lv_at hl 2 rfl) ?_
            refine lv_aload_n hx hb dX8_findCircle_49 rfl (lv_at hl 0 rfl) ?_
            refine tk_Vi hC hK hw hT hA hE hSR kC_at151 (by decide) rfl (k_X8_ghostKey_1 l adK adV dC dI cy ad (B + 9 + 9 * v12_2.toInt) (by omega) (by omega) qr s1    w61 H.size hT ) (cwV 0 hC.2.2.2.2 uV_RX8_67 rfl rfl rfl (by decide +kernel) ⟨Nat.le_of_ble_eq_true rfl, Nat.le_of_ble_eq_true rfl⟩) rfl hl.1 rfl (Nat.le_of_ble_eq_true rfl) dX8_findCircle_50 (fun r65 w67 H locs hp66 hw => ?_)
            obtain ⟨hT, k68, hg71⟩ := hp66
            have hF := hF.tr k68 (by decide)
            have c72 := k68.gi kC_at153 (by decide) c64
            obtain ⟨g69, g70⟩ := hg71
            refine tk_iast hC hK hw hT kC_at153 (by decide) rfl rfl (show 0 ≤ v12_2.toInt from Int.le_trans (by decide) r4) (show v12_2.toInt < 301 from Int.lt_of_le_of_lt c29 (by decide)) (wk_i32 r65).1 (wk_i32 r65).2 dX8_findCircle_53 (fun H locs w73 hw hT k75 c74 => ?_)
            have hF := hF.put kC_at153 (inE_of (a := 0) (b := 301) (by decide) (show 0 ≤ v12_2.toInt.toNat by omega) (show v12_2.toInt.toNat ≤ 301 by omega)) k75
            have c76 := k75.gi (Or.inr (show 0 ≠ v12_2.toInt.toNat by omega)) c72
            refine lv_iconst (v := 0) hx hb dX8_findCircle_54 (by decide) ?_
            refine lv_istore_n (lv' := [(3, .int 0), (0, .ref (ad 151)), (1, .int a1), (2, .int v12_2)]) hx hb dX8_findCircle_55 rfl hl (by decide) rfl (fun ls hl => ?_)
            exact L56 ((300 - (0 : Int)).toNat + 1) 0 H locs ls w73 (show 0 ≤ a1.toInt from r2) (show a1.toInt ≤ 1 from t3) (show 1 ≤ v12_2.toInt from r4) (show v12_2.toInt ≤ 300 from c29) (by decide) (by decide) (show 0 ≤ f12_153_0.toInt from r6) (show f12_153_0.toInt ≤ 18479 from t7) (Nat.lt_succ_self _) hw hT hF c76 (lv_sub hl [1, 2, 3, 0] rfl)
          · refine lv_if_eq (tgt := 44) hx hb dX8_findCircle_38 (by decide) (fun c => absurd c (by decide)) (fun _ => ?_)
            refine lv_bipush (v := (-2)) hx hb dX8_findCircle_41 (by decide) ?_
            exact tk_iret hC hr hlocks hK ⟨(hT.up (show (B + 9 + 9 * v12_2.toInt) ≤ (B + 2709) by omega)), hF, (Or.inr (Or.inl rfl))⟩ hw dX8_findCircle_43
  refine lv_aload_n hx hb dX8_findCircle_0 rfl (lv_at hl 0 rfl) ?_
  refine tk_getA hC hK hw hT hinX8 kC_at151 (by decide) rfl 4 (by decide) (List.mem_cons_of_mem _ uw_5_9) rfl rfl dX8_findCircle_1 ?_
  refine lv_iconst (v := 0) hx hb dX8_findCircle_4 (by decide) ?_
  refine lv_aload_n hx hb dX8_findCircle_5 rfl (lv_at hl 0 rfl) ?_
  refine tk_Vi hC hK hw hT hA hE hSR kC_at151 (by decide) rfl (k_X8_ghostKey_1 l adK adV dC dI cy ad B hB0 (Int.le_trans hB1 (by decide)) qr s1    w0 s.heap.size hT ) (cwV 0 hC.2.2.2.2 uV_RX8_67 rfl rfl rfl (by decide +kernel) ⟨Nat.le_of_ble_eq_true rfl, Nat.le_of_ble_eq_true rfl⟩) rfl hl.1 rfl (Nat.le_of_ble_eq_true rfl) dX8_findCircle_6 (fun r77 w79 H locs hp78 hw => ?_)
  obtain ⟨hT, k80, hg83⟩ := hp78
  have hF := hF.tr k80 (by decide)
  obtain ⟨g81, g82⟩ := hg83
  refine tk_iast hC hK hw hT kC_at153 (by decide) rfl rfl (by decide) (by decide) (wk_i32 r77).1 (wk_i32 r77).2 dX8_findCircle_9 (fun H locs w84 hw hT k86 c85 => ?_)
  have hF := hF.put kC_at153 (inE_of (a := 0) (b := 301) (by decide) (by decide) (by decide)) k86
  have c85 : gi w84 153 0 = r77 := c85
  refine lv_iconst (v := 1) hx hb dX8_findCircle_10 (by decide) ?_
  refine lv_istore_n (lv' := [(2, .int 1), (0, .ref (ad 151)), (1, .int a1)]) hx hb dX8_findCircle_11 rfl hl (by decide) rfl (fun ls hl => ?_)
  exact L12 ((301 - (1 : Int)).toNat + 1) 1 r77 H locs ls w84 (show 0 ≤ a1.toInt from ra1) (show a1.toInt ≤ 1 from ta1) (by decide) (by decide) (show 0 ≤ r77.toInt by first | with_reducible assumption | omega) (show r77.toInt ≤ 18479 by first | with_reducible assumption | omega) (Nat.lt_succ_self _) hw (hT.up (show B ≤ (B + 0 + 9 * (1 : Int32).toInt) by rw [show (1 : Int32).toInt = 1 by decide]; omega)) hF c85 (lv_sub hl [1, 2, 0] rfl)
abbrev P_X8_tellCircle_1 (ad : Nat → Nat) (cy : Nat → ClassId) (B : Int) (qr : Nat) (s1 : Int) (q1_ : Nat) (a2 : Int32) (w0 : va_W) : Int32 → va_W → Prop := fun r u => TW ksC ad cy (B + 2709) qr s1 u ∧ FE ksC [(1, 4, 4), (1, 5, 5), (1, 6, 6), (1, 7, 7), (1, 8, 8), (1, 9, 9), (9, 0, 0), (9, 1, 1), (9, 2, 2), (9, 3, 3), (9, 4, 4), (9, 5, 5), (9, 6, 6), (9, 7, 7), (9, 8, 8), (45, 0, 64), (46, 0, 301)] w0 u ∧ (((-298) ≤ r.toInt ∧ r.toInt ≤ 300 ∧ 1 ≤ a2.toInt ∧ (∃ y : Int32, gi u 149 9 = y ∧ 0 ≤ y.toInt ∧ y.toInt ≤ 0)) ∨ (r = (-2) ∧ (∃ y : Int32, gi u 149 9 = y ∧ 0 ≤ y.toInt ∧ y.toInt ≤ 0)) ∨ (0 ≤ r.toInt ∧ r.toInt ≤ 299 ∧ a2.toInt ≤ 0 ∧ (∃ y : Int32, gi u 149 9 = y ∧ 0 ≤ y.toInt ∧ y.toInt ≤ 0)))
set_option maxHeartbeats 4000000 in
set_option maxRecDepth 100000 in
theorem k_X8_tellCircle_1 (l : Launch) (adK adV : Nat → Nat) (dC : Nat → ClassId) (dI : Nat → Nat → Nat) (cy : Nat → ClassId) (ad : Nat → Nat) (B : Int) (hB0 : 2147483648 ≤ B) (hB1 : B ≤ 1152921504606844267) (qr : Nat) (s1 : Int)  (q1_ : Nat) (hkq1_ : ksC[q1_]? = some 9) (a2 : Int32) (ra2 : 0 ≤ a2.toInt) (ta2 : a2.toInt ≤ 1) (w0 : va_W) (sz : Nat) (hT : TW ksC ad cy B qr s1 w0)  : Met l yX8_tellCircle (wu yX8_tellCircle cX8_tellCircle 4 (some .int)) ({ frames := 7, cells := 0, slots := 0, locals := 158 }) (va_Pc [.ref (ad 151), .ref (ad q1_), .int a2] (wpreS adK adV dC dI cy sz w0)) (va_Qi (P_X8_tellCircle_1 ad cy B qr s1 q1_ a2 w0) (fun u : va_W => wpost dC dI cy (va_A w0 sz) u) (va_A w0 sz)) 0 0 (va_A w0 sz) := by
  refine Met.ofW (cc := cX8_tellCircle) (maxL := 4) (ret := (some .int)) (by decide) rfl ?_
  intro p e s m args below meth c s₁ Bk hml hv
  obtain ⟨rfl, ⟨hsz, hP, hK, hD0⟩, hE, hSR⟩ := hv
  have hx := Bk.exec
  have hb := Bk.bytes
  have hr := Bk.returns
  have hlocks := Bk.notSynchronized
  have hC : CallFix p m c cX8_tellCircle 4 s _ (wu yX8_tellCircle cX8_tellCircle 4 (some .int)) RX8 := ⟨hx, hb, hml, findClass_of_methodNamed Bk.named, atoms_spec (ws := (wu yX8_tellCircle cX8_tellCircle 4 (some .int))) Bk.pre⟩
  subst hsz
  have hD := hD0.self (sz := s.heap.size)
  generalize hAe : va_A w0 s.heap.size = A at hD hE ⊢
  have hA : ∀ q : Nat, s.heap.size ≤ q → A q := fun q h => by rw [← hAe]; exact Or.inr h
  have hw : Wd dC dI A s.heap s.heap [] w0 := ⟨hP, hD, va_S.rf⟩
  have hF : FE ksC [(1, 4, 4), (1, 5, 5), (1, 6, 6), (1, 7, 7), (1, 8, 8), (1, 9, 9), (9, 0, 0), (9, 1, 1), (9, 2, 2), (9, 3, 3), (9, 4, 4), (9, 5, 5), (9, 6, 6), (9, 7, 7), (9, 8, 8), (45, 0, 64), (46, 0, 301)] w0 w0 := FE.rf
  have hl := lv_entry ([.ref (ad 151), .ref (ad q1_), .int a2]) (n := 4) (Nat.le_of_ble_eq_true rfl)
  rw [lg_entry_eq]
  generalize (lg_sl ([.ref (ad 151), .ref (ad q1_), .int a2]) ++ List.replicate (4 - (lg_sl ([.ref (ad 151), .ref (ad q1_), .int a2])).length) Slot.unset).toArray = ls at hl ⊢
  have hl : lv_has ls 4 [(0, .ref (ad 151)), (1, .ref (ad q1_)), (2, .int a2)] := hl
  generalize hloc : ([] : List Loc) = locs at hw ⊢
  have hinX8 : ∀ w ∈ u_ws RX8 TX8 8, w ∈ (wu yX8_tellCircle cX8_tellCircle 4 (some .int)) := fun _ h => List.mem_cons_of_mem _ (up_79 h)
  have hinX1 : ∀ w ∈ u_ws RX1 TX1 10, w ∈ (wu yX8_tellCircle cX8_tellCircle 4 (some .int)) := fun _ h => List.mem_cons_of_mem _ (up_78 h)
  refine lv_aload_n hx hb dX8_tellCircle_0 rfl (lv_at hl 0 rfl) ?_
  refine tk_getA hC hK hw hT hinX8 kC_at151 (by decide) rfl 3 (by decide) (List.mem_cons_of_mem _ uw_5_8) rfl rfl dX8_tellCircle_1 ?_
  refine lv_aload_n hx hb dX8_tellCircle_4 rfl (lv_at hl 1 rfl) ?_
  refine tk_Vv hC hK hw hT hA hE hSR kC_at152 (by decide) rfl (k_X9_copyFrom_1 l adK adV dC dI cy ad B hB0 (Int.le_trans hB1 (by decide)) qr s1   q1_ hkq1_ w0 s.heap.size hT ) (cwV 1 hC.2.2.2.2 uV_RX8_37 rfl rfl rfl (by decide +kernel) ⟨Nat.le_of_ble_eq_true rfl, Nat.le_of_ble_eq_true rfl⟩) rfl hl.1 rfl (Nat.le_of_ble_eq_true rfl) dX8_tellCircle_5 (fun w3 H locs hp2 hw => ?_)
  obtain ⟨hT, k4, hg5⟩ := hp2
  have hF := hF.tr k4 (by decide)
  clear hg5
  refine lv_aload_n hx hb dX8_tellCircle_8 rfl (lv_at hl 0 rfl) ?_
  refine tk_getA hC hK hw hT hinX8 kC_at151 (by decide) rfl 2 (by decide) (List.mem_cons_of_mem _ uw_5_13) rfl rfl dX8_tellCircle_9 ?_
  refine lv_iconst (v := 1) hx hb dX8_tellCircle_12 (by decide) ?_
  refine tk_putz hC hK hw hT hinX1 tyX1_ok nmX1 kC_at149 (by decide) rfl rfl 9 (by decide) (List.mem_cons_of_mem _ uw_54_17) rfl rfl rfl rfl (by decide) (by decide) dX8_tellCircle_13 (fun H locs w6 hw hT k8 c7 => ?_)
  have hF := hF.put kC_at149 (k := 9) (by decide) k8
  refine lv_aload_n hx hb dX8_tellCircle_16 rfl (lv_at hl 0 rfl) ?_
  refine lv_iload_n hx hb dX8_tellCircle_17 rfl (lv_at hl 2 rfl) ?_
  refine tk_Vi hC hK hw hT hA hE hSR kC_at151 (by decide) rfl (k_X8_findCircle_1 l adK adV dC dI cy ad B hB0 (Int.le_trans hB1 (by decide)) qr s1   a2 (show 0 ≤ a2.toInt from ra2) (show a2.toInt ≤ 1 from ta2) w6 H.size hT ) (cwV 1 hC.2.2.2.2 uV_RX8_63 rfl rfl rfl (by decide +kernel) ⟨Nat.le_of_ble_eq_true rfl, Nat.le_of_ble_eq_true rfl⟩) rfl hl.1 rfl (Nat.le_of_ble_eq_true rfl) dX8_tellCircle_18 (fun r9 w11 H locs hp10 hw => ?_)
  obtain ⟨hT, k12, hg19⟩ := hp10
  have hF := hF.tr k12 (by decide)
  have c20 := k12.gi kC_at149 (by decide) c7
  rcases hg19 with ⟨g13, g14, g15⟩ | rfl | ⟨g16, g17, g18⟩
  · refine lv_istore_n (lv' := [(3, .int r9), (0, .ref (ad 151)), (1, .ref (ad q1_)), (2, .int a2)]) hx hb dX8_tellCircle_21 rfl hl (by decide) rfl (fun ls hl => ?_)
    refine lv_aload_n hx hb dX8_tellCircle_22 rfl (lv_at hl 1 rfl) ?_
    refine tk_getA hC hK hw hT hinX8 kC_at151 (by decide) rfl 2 (by decide) (List.mem_cons_of_mem _ uw_5_13) rfl rfl dX8_tellCircle_23 ?_
    refine lv_iconst (v := 0) hx hb dX8_tellCircle_26 (by decide) ?_
    refine tk_putz hC hK hw hT hinX1 tyX1_ok nmX1 kC_at149 (by decide) rfl rfl 9 (by decide) (List.mem_cons_of_mem _ uw_54_17) rfl rfl rfl rfl (by decide) (by decide) dX8_tellCircle_27 (fun H locs w21 hw hT k23 c22 => ?_)
    have hF := hF.put kC_at149 (k := 9) (by decide) k23
    refine lv_iload_n hx hb dX8_tellCircle_30 rfl (lv_at hl 0 rfl) ?_
    exact tk_iret hC hr hlocks hK ⟨hT, hF, (Or.inl ⟨(show (-298) ≤ r9.toInt by first | with_reducible assumption | omega), (show r9.toInt ≤ 300 by first | with_reducible assumption | omega), (show 1 ≤ a2.toInt by first | with_reducible assumption | omega), ⟨0, c22, (by decide), (by decide)⟩⟩)⟩ hw dX8_tellCircle_31
  · refine lv_istore_n (lv' := [(3, .int (-2)), (0, .ref (ad 151)), (1, .ref (ad q1_)), (2, .int a2)]) hx hb dX8_tellCircle_21 rfl hl (by decide) rfl (fun ls hl => ?_)
    refine lv_aload_n hx hb dX8_tellCircle_22 rfl (lv_at hl 1 rfl) ?_
    refine tk_getA hC hK hw hT hinX8 kC_at151 (by decide) rfl 2 (by decide) (List.mem_cons_of_mem _ uw_5_13) rfl rfl dX8_tellCircle_23 ?_
    refine lv_iconst (v := 0) hx hb dX8_tellCircle_26 (by decide) ?_
    refine tk_putz hC hK hw hT hinX1 tyX1_ok nmX1 kC_at149 (by decide) rfl rfl 9 (by decide) (List.mem_cons_of_mem _ uw_54_17) rfl rfl rfl rfl (by decide) (by decide) dX8_tellCircle_27 (fun H locs w24 hw hT k26 c25 => ?_)
    have hF := hF.put kC_at149 (k := 9) (by decide) k26
    refine lv_iload_n hx hb dX8_tellCircle_30 rfl (lv_at hl 0 rfl) ?_
    exact tk_iret hC hr hlocks hK ⟨hT, hF, (Or.inr (Or.inl ⟨rfl, ⟨0, c25, (by decide), (by decide)⟩⟩))⟩ hw dX8_tellCircle_31
  · refine lv_istore_n (lv' := [(3, .int r9), (0, .ref (ad 151)), (1, .ref (ad q1_)), (2, .int a2)]) hx hb dX8_tellCircle_21 rfl hl (by decide) rfl (fun ls hl => ?_)
    refine lv_aload_n hx hb dX8_tellCircle_22 rfl (lv_at hl 1 rfl) ?_
    refine tk_getA hC hK hw hT hinX8 kC_at151 (by decide) rfl 2 (by decide) (List.mem_cons_of_mem _ uw_5_13) rfl rfl dX8_tellCircle_23 ?_
    refine lv_iconst (v := 0) hx hb dX8_tellCircle_26 (by decide) ?_
    refine tk_putz hC hK hw hT hinX1 tyX1_ok nmX1 kC_at149 (by decide) rfl rfl 9 (by decide) (List.mem_cons_of_mem _ uw_54_17) rfl rfl rfl rfl (by decide) (by decide) dX8_tellCircle_27 (fun H locs w27 hw hT k29 c28 => ?_)
    have hF := hF.put kC_at149 (k := 9) (by decide) k29
    refine lv_iload_n hx hb dX8_tellCircle_30 rfl (lv_at hl 0 rfl) ?_
    exact tk_iret hC hr hlocks hK ⟨hT, hF, (Or.inr (Or.inr ⟨(show 0 ≤ r9.toInt by first | with_reducible assumption | omega), (show r9.toInt ≤ 299 by first | with_reducible assumption | omega), (show a2.toInt ≤ 0 by first | with_reducible assumption | omega), ⟨0, c28, (by decide), (by decide)⟩⟩))⟩ hw dX8_tellCircle_31
abbrev P_X11_round_1 (ad : Nat → Nat) (cy : Nat → ClassId) (B : Int) (qr : Nat) (s1 : Int) (a1 : Int32) (a2 : Int32) (w0 : va_W) : Int32 → va_W → Prop := fun r u => TW ksC ad cy (B + 2709) qr s1 u ∧ FE ksC [(1, 4, 4), (1, 5, 5), (1, 6, 6), (1, 7, 7), (1, 8, 8), (1, 9, 9), (9, 0, 0), (9, 1, 1), (9, 2, 2), (9, 3, 3), (9, 4, 4), (9, 5, 5), (9, 6, 6), (9, 7, 7), (9, 8, 8), (42, 0, 1100), (43, 0, 1100), (44, 0, 11), (45, 0, 64), (46, 0, 301)] w0 u ∧ (((-298) ≤ r.toInt ∧ r.toInt ≤ 300 ∧ 0 ≤ a1.toInt ∧ a1.toInt ≤ 3 ∧ 1 ≤ a2.toInt ∧ a2.toInt ≤ 1 ∧ (∃ y : Int32, gi u 149 9 = y ∧ 0 ≤ y.toInt ∧ y.toInt ≤ 0) ∧ (∃ y : Int32, gi u 38 9 = y ∧ 1 ≤ y.toInt ∧ y.toInt ≤ 4)) ∨ (r = (-2) ∧ 0 ≤ a1.toInt ∧ a1.toInt ≤ 3 ∧ 0 ≤ a2.toInt ∧ a2.toInt ≤ 1 ∧ (∃ y : Int32, gi u 149 9 = y ∧ 0 ≤ y.toInt ∧ y.toInt ≤ 0) ∧ (∃ y : Int32, gi u 38 9 = y ∧ 1 ≤ y.toInt ∧ y.toInt ≤ 4)) ∨ (0 ≤ r.toInt ∧ r.toInt ≤ 299 ∧ 0 ≤ a1.toInt ∧ a1.toInt ≤ 3 ∧ 0 ≤ a2.toInt ∧ a2.toInt ≤ 0 ∧ (∃ y : Int32, gi u 149 9 = y ∧ 0 ≤ y.toInt ∧ y.toInt ≤ 0) ∧ (∃ y : Int32, gi u 38 9 = y ∧ 1 ≤ y.toInt ∧ y.toInt ≤ 4)) ∨ (r = (-1)))
set_option maxHeartbeats 4000000 in
set_option maxRecDepth 100000 in
theorem k_X11_round_1 (l : Launch) (adK adV : Nat → Nat) (dC : Nat → ClassId) (dI : Nat → Nat → Nat) (cy : Nat → ClassId) (ad : Nat → Nat) (B : Int) (hB0 : 2147483648 ≤ B) (hB1 : B ≤ 1152921504606844267) (qr : Nat) (s1 : Int)  (a1 : Int32) (a2 : Int32) (w0 : va_W) (sz : Nat) (hT : TW ksC ad cy B qr s1 w0)  : Met l yX11_round (wu yX11_round cX11_round 3 (some .int)) ({ frames := 8, cells := 0, slots := 0, locals := 181 }) (va_Pc [.ref (ad 0), .int a1, .int a2] (wpreS adK adV dC dI cy sz w0)) (va_Qi (P_X11_round_1 ad cy B qr s1 a1 a2 w0) (fun u : va_W => wpost dC dI cy (va_A w0 sz) u) (va_A w0 sz)) 0 0 (va_A w0 sz) := by
  refine Met.ofW (cc := cX11_round) (maxL := 3) (ret := (some .int)) (by decide) rfl ?_
  intro p e s m args below meth c s₁ Bk hml hv
  obtain ⟨rfl, ⟨hsz, hP, hK, hD0⟩, hE, hSR⟩ := hv
  have hx := Bk.exec
  have hb := Bk.bytes
  have hr := Bk.returns
  have hlocks := Bk.notSynchronized
  have hC : CallFix p m c cX11_round 3 s _ (wu yX11_round cX11_round 3 (some .int)) RX11 := ⟨hx, hb, hml, findClass_of_methodNamed Bk.named, atoms_spec (ws := (wu yX11_round cX11_round 3 (some .int))) Bk.pre⟩
  subst hsz
  have hD := hD0.self (sz := s.heap.size)
  generalize hAe : va_A w0 s.heap.size = A at hD hE ⊢
  have hA : ∀ q : Nat, s.heap.size ≤ q → A q := fun q h => by rw [← hAe]; exact Or.inr h
  have hw : Wd dC dI A s.heap s.heap [] w0 := ⟨hP, hD, va_S.rf⟩
  have hF : FE ksC [(1, 4, 4), (1, 5, 5), (1, 6, 6), (1, 7, 7), (1, 8, 8), (1, 9, 9), (9, 0, 0), (9, 1, 1), (9, 2, 2), (9, 3, 3), (9, 4, 4), (9, 5, 5), (9, 6, 6), (9, 7, 7), (9, 8, 8), (42, 0, 1100), (43, 0, 1100), (44, 0, 11), (45, 0, 64), (46, 0, 301)] w0 w0 := FE.rf
  have hl := lv_entry ([.ref (ad 0), .int a1, .int a2]) (n := 3) (Nat.le_of_ble_eq_true rfl)
  rw [lg_entry_eq]
  generalize (lg_sl ([.ref (ad 0), .int a1, .int a2]) ++ List.replicate (3 - (lg_sl ([.ref (ad 0), .int a1, .int a2])).length) Slot.unset).toArray = ls at hl ⊢
  have hl : lv_has ls 3 [(0, .ref (ad 0)), (1, .int a1), (2, .int a2)] := hl
  generalize hloc : ([] : List Loc) = locs at hw ⊢
  have hinX11 : ∀ w ∈ u_ws RX11 TX11 13, w ∈ (wu yX11_round cX11_round 3 (some .int)) := fun _ h => List.mem_cons_of_mem _ (up_70 h)
  have hinX5 : ∀ w ∈ u_ws RX5 TX5 14, w ∈ (wu yX11_round cX11_round 3 (some .int)) := fun _ h => List.mem_cons_of_mem _ (up_76 h)
  have J17 : ∀ (H : Heap) (locs : List Loc) (ls : Array Slot) (w1 : va_W), Wd dC dI A s.heap H locs w1 → TW ksC ad cy B qr s1 w1 → FE ksC [(1, 4, 4), (1, 5, 5), (1, 6, 6), (1, 7, 7), (1, 8, 8), (1, 9, 9), (9, 0, 0), (9, 1, 1), (9, 2, 2), (9, 3, 3), (9, 4, 4), (9, 5, 5), (9, 6, 6), (9, 7, 7), (9, 8, 8), (42, 0, 1100), (43, 0, 1100), (44, 0, 11), (45, 0, 64), (46, 0, 301)] w0 w1 → lv_has ls 3 [(0, .ref (ad 0)), (1, .int a1), (2, .int a2)] → W p l e ({ frames := 8, cells := 0, slots := 0, locals := 181 }) s m (List.toArray [.ref (ad 0), .int a1, .int a2]) below meth c H locs 0 0 (MQ below (va_Qi (P_X11_round_1 ad cy B qr s1 a1 a2 w0) (fun u : va_W => wpost dC dI cy A u) A) (List.toArray [.ref (ad 0), .int a1, .int a2]) s 0 0 A) (F0 m 17 ls []) := by
    intro H locs ls w1 hw hT hF hl
    refine lv_iconst (v := (-1)) hx hb dX11_round_17 (by decide) ?_
    exact tk_iret hC hr hlocks hK ⟨(hT.up (show B ≤ (B + 2709) by omega)), hF, (Or.inr (Or.inr (Or.inr rfl)))⟩ hw dX11_round_18
  refine lv_aload_n hx hb dX11_round_0 rfl (lv_at hl 0 rfl) ?_
  refine lv_iload_n hx hb dX11_round_1 rfl (lv_at hl 1 rfl) ?_
  refine tk_Vi hC hK hw hT hA hE hSR kC_at0 (by decide) rfl (k_X11_hasWalker_1 l adK adV dC dI cy ad B hB0 (Int.le_trans hB1 (by decide)) qr s1   a1 w0 s.heap.size hT ) (cwV 1 hC.2.2.2.2 uV_RX11_205 rfl rfl rfl (by decide +kernel) ⟨Nat.le_of_ble_eq_true rfl, Nat.le_of_ble_eq_true rfl⟩) rfl hl.1 rfl (Nat.le_of_ble_eq_true rfl) dX11_round_2 (fun r2 w4 H locs hp3 hw => ?_)
  obtain ⟨hT, k5, hg10⟩ := hp3
  have hF := hF.tr k5 (by decide)
  rcases hg10 with rfl | ⟨rfl, g6, g7, ⟨x8, c9, rx8, tx8⟩⟩
  · refine lv_if_eq (tgt := 17) hx hb dX11_round_5 (by decide) (fun _ => ?_) (fun c => absurd (by decide) c)
    exact J17  H locs ls w4   hw hT hF  (lv_sub hl [0, 1, 2] rfl)
  · refine lv_if_eq (tgt := 17) hx hb dX11_round_5 (by decide) (fun c => absurd c (by decide)) (fun _ => ?_)
    refine lv_iload_n hx hb dX11_round_8 rfl (lv_at hl 2 rfl) ?_
    refine lv_if_lt (tgt := 17) hx hb dX11_round_9 (by decide) (fun c11 => ?_) (fun c11 => ?_)
    · have c11 : a2.toInt < (0 : Int) := wk_lt.mp c11
      exact J17  H locs ls w4   hw hT hF  (lv_sub hl [0, 1, 2] rfl)
    · have c11 : (0 : Int) ≤ a2.toInt := wk_ltF c11
      refine lv_iload_n hx hb dX11_round_12 rfl (lv_at hl 2 rfl) ?_
      refine lv_iconst (v := 1) hx hb dX11_round_13 (by decide) ?_
      refine lv_icmp_le (tgt := 19) hx hb dX11_round_14 (by decide) (fun c12 => ?_) (fun c12 => ?_)
      · have c12 : a2.toInt ≤ (1 : Int) := wk_le.mp c12
        refine lv_aload_n hx hb dX11_round_19 rfl (lv_at hl 0 rfl) ?_
        refine tk_getA hC hK hw hT hinX11 kC_at0 (by decide) rfl 7 (by decide) (List.mem_cons_of_mem _ uw_1_14) rfl rfl dX11_round_20 ?_
        refine tk_Vv hC hK hw hT hA hE hSR kC_at145 (by decide) rfl (k_X0_refreshAll_1 l adK adV dC dI cy ad B hB0 (Int.le_trans hB1 (by decide)) qr s1    w4 H.size hT ) (cwV 0 hC.2.2.2.2 uV_RX11_212 rfl rfl rfl (by decide +kernel) ⟨Nat.le_of_ble_eq_true rfl, Nat.le_of_ble_eq_true rfl⟩) rfl hl.1 rfl (Nat.le_of_ble_eq_true rfl) dX11_round_23 (fun w15 H locs hp14 hw => ?_)
        obtain ⟨hT, k16, hg17⟩ := hp14
        have hF := hF.tr k16 (by decide)
        have c18 := k16.gi kC_at38 (by decide) c9
        clear hg17
        refine lv_aload_n hx hb dX11_round_26 rfl (lv_at hl 0 rfl) ?_
        refine tk_getA hC hK hw hT hinX11 kC_at0 (by decide) rfl 9 (by decide) (List.mem_cons_of_mem _ uw_1_22) rfl rfl dX11_round_27 ?_
        refine lv_aload_n hx hb dX11_round_30 rfl (lv_at hl 0 rfl) ?_
        refine tk_getA hC hK hw hT hinX11 kC_at0 (by decide) rfl 4 (by decide) (List.mem_cons_of_mem _ uw_1_7) rfl rfl dX11_round_31 ?_
        refine tk_getO hC hK hw hT hinX5 kC_at38 (by decide) rfl 2 (by decide) (List.mem_cons_of_mem _ uw_39_0) rfl rfl dX11_round_34 ?_
        refine lv_iload_n hx hb dX11_round_37 rfl (lv_at hl 1 rfl) ?_
        refine tk_aald hC hK hw hT kC_at49 rfl (by decide) rfl (show 0 ≤ a1.toInt by first | with_reducible assumption | omega) (show a1.toInt < 4 by first | with_reducible assumption | omega) dX11_round_38 (fun j19 hj19 gj19 => ?_)
        refine lv_iload_n hx hb dX11_round_39 rfl (lv_at hl 2 rfl) ?_
        refine tk_Vi hC hK hw hT hA hE hSR kC_at151 (by decide) rfl (k_X8_tellCircle_1 l adK adV dC dI cy ad B hB0 (Int.le_trans hB1 (by decide)) qr s1   (el 33 49 j19) (kC_el33 kC_at49 hj19) a2 (show 0 ≤ a2.toInt from c11) (show a2.toInt ≤ 1 from c12) w15 H.size hT ) (cwV 2 hC.2.2.2.2 uV_RX11_236 rfl rfl rfl (by decide +kernel) ⟨Nat.le_of_ble_eq_true rfl, Nat.le_of_ble_eq_true rfl⟩) rfl hl.1 rfl (Nat.le_of_ble_eq_true rfl) dX11_round_40 (fun r20 w22 H locs hp21 hw => ?_)
        obtain ⟨hT, k23, hg36⟩ := hp21
        have hF := hF.tr k23 (by decide)
        have c37 := k23.gi kC_at38 (by decide) c18
        rcases hg36 with ⟨g24, g25, g26, ⟨x27, c28, rx27, tx27⟩⟩ | ⟨rfl, ⟨x29, c30, rx29, tx29⟩⟩ | ⟨g31, g32, g33, ⟨x34, c35, rx34, tx34⟩⟩
        · exact tk_iret hC hr hlocks hK ⟨hT, hF, (Or.inl ⟨(show (-298) ≤ r20.toInt by first | with_reducible assumption | omega), (show r20.toInt ≤ 300 by first | with_reducible assumption | omega), (show 0 ≤ a1.toInt by first | with_reducible assumption | omega), (show a1.toInt ≤ 3 by first | with_reducible assumption | omega), (show 1 ≤ a2.toInt by first | with_reducible assumption | omega), (show a2.toInt ≤ 1 from c12), ⟨x27, c28, (show 0 ≤ x27.toInt by first | with_reducible assumption | omega), (show x27.toInt ≤ 0 by first | with_reducible assumption | omega)⟩, ⟨x8, c37, (show 1 ≤ x8.toInt by first | with_reducible assumption | omega), (show x8.toInt ≤ 4 by first | with_reducible assumption | omega)⟩⟩)⟩ hw dX11_round_43
        · exact tk_iret hC hr hlocks hK ⟨hT, hF, (Or.inr (Or.inl ⟨rfl, (show 0 ≤ a1.toInt by first | with_reducible assumption | omega), (show a1.toInt ≤ 3 by first | with_reducible assumption | omega), (show 0 ≤ a2.toInt from c11), (show a2.toInt ≤ 1 from c12), ⟨x29, c30, (show 0 ≤ x29.toInt by first | with_reducible assumption | omega), (show x29.toInt ≤ 0 by first | with_reducible assumption | omega)⟩, ⟨x8, c37, (show 1 ≤ x8.toInt by first | with_reducible assumption | omega), (show x8.toInt ≤ 4 by first | with_reducible assumption | omega)⟩⟩))⟩ hw dX11_round_43
        · exact tk_iret hC hr hlocks hK ⟨hT, hF, (Or.inr (Or.inr (Or.inl ⟨(show 0 ≤ r20.toInt by first | with_reducible assumption | omega), (show r20.toInt ≤ 299 by first | with_reducible assumption | omega), (show 0 ≤ a1.toInt by first | with_reducible assumption | omega), (show a1.toInt ≤ 3 by first | with_reducible assumption | omega), (show 0 ≤ a2.toInt from c11), (show a2.toInt ≤ 0 by first | with_reducible assumption | omega), ⟨x34, c35, (show 0 ≤ x34.toInt by first | with_reducible assumption | omega), (show x34.toInt ≤ 0 by first | with_reducible assumption | omega)⟩, ⟨x8, c37, (show 1 ≤ x8.toInt by first | with_reducible assumption | omega), (show x8.toInt ≤ 4 by first | with_reducible assumption | omega)⟩⟩)))⟩ hw dX11_round_43
      · have c12 : (1 : Int) < a2.toInt := wk_leF c12
        exact J17  H locs ls w4   hw hT hF  (lv_sub hl [0, 1, 2] rfl)
abbrev P_X8_note_1 (ad : Nat → Nat) (cy : Nat → ClassId) (B : Int) (qr : Nat) (s1 : Int) (a1 : Int64) (a2 : Int32) (a3 : Int32) (a4 : Int32) (a5 : Int32) (w0 : va_W) : va_W → Prop := fun u => TW ksC ad cy B qr s1 u ∧ FE ksC [(47, 0, 2420)] w0 u ∧ ((True))
set_option maxHeartbeats 4000000 in
set_option maxRecDepth 100000 in
theorem k_X8_note_1 (l : Launch) (adK adV : Nat → Nat) (dC : Nat → ClassId) (dI : Nat → Nat → Nat) (cy : Nat → ClassId) (ad : Nat → Nat) (B : Int) (hB0 : 2147483648 ≤ B) (hB1 : B ≤ 1152921504606846976) (qr : Nat) (s1 : Int)  (a1 : Int64) (ra1 : 0 ≤ a1.toInt) (ta1 : a1.toInt ≤ 2305843009213693952) (a2 : Int32) (ra2 : 0 ≤ a2.toInt) (ta2 : a2.toInt ≤ 120) (a3 : Int32) (ra3 : 0 ≤ a3.toInt) (ta3 : a3.toInt ≤ 9) (a4 : Int32) (ra4 : 0 ≤ a4.toInt) (ta4 : a4.toInt ≤ 18) (a5 : Int32) (ra5 : 0 ≤ a5.toInt) (ta5 : a5.toInt ≤ 999999) (w0 : va_W) (sz : Nat) (hT : TW ksC ad cy B qr s1 w0)  : Met l yX8_note (wu yX8_note cX8_note 9 none) ({ frames := 1, cells := 0, slots := 0, locals := 21 }) (va_Pc [.ref (ad 151), .long a1, .int a2, .int a3, .int a4, .int a5] (wpreS adK adV dC dI cy sz w0)) (va_Qv (P_X8_note_1 ad cy B qr s1 a1 a2 a3 a4 a5 w0) (fun u : va_W => wpost dC dI cy (va_A w0 sz) u) (va_A w0 sz)) 0 0 (va_A w0 sz) := by
  refine Met.ofW (cc := cX8_note) (maxL := 9) (ret := none) (by decide) rfl ?_
  intro p e s m args below meth c s₁ Bk hml hv
  obtain ⟨rfl, ⟨hsz, hP, hK, hD0⟩, hE, hSR⟩ := hv
  have hx := Bk.exec
  have hb := Bk.bytes
  have hr := Bk.returns
  have hlocks := Bk.notSynchronized
  have hC : CallFix p m c cX8_note 9 s _ (wu yX8_note cX8_note 9 none) RX8 := ⟨hx, hb, hml, findClass_of_methodNamed Bk.named, atoms_spec (ws := (wu yX8_note cX8_note 9 none)) Bk.pre⟩
  subst hsz
  have hD := hD0.self (sz := s.heap.size)
  generalize hAe : va_A w0 s.heap.size = A at hD hE ⊢
  have hA : ∀ q : Nat, s.heap.size ≤ q → A q := fun q h => by rw [← hAe]; exact Or.inr h
  have hw : Wd dC dI A s.heap s.heap [] w0 := ⟨hP, hD, va_S.rf⟩
  have hF : FE ksC [(47, 0, 2420)] w0 w0 := FE.rf
  have hl := lv_entry ([.ref (ad 151), .long a1, .int a2, .int a3, .int a4, .int a5]) (n := 9) (Nat.le_of_ble_eq_true rfl)
  rw [lg_entry_eq]
  generalize (lg_sl ([.ref (ad 151), .long a1, .int a2, .int a3, .int a4, .int a5]) ++ List.replicate (9 - (lg_sl ([.ref (ad 151), .long a1, .int a2, .int a3, .int a4, .int a5])).length) Slot.unset).toArray = ls at hl ⊢
  have hl : lv_has ls 9 [(0, .ref (ad 151)), (1, .long a1), (3, .int a2), (4, .int a3), (5, .int a4), (6, .int a5)] := hl
  generalize hloc : ([] : List Loc) = locs at hw ⊢
  have hinX8 : ∀ w ∈ u_ws RX8 TX8 8, w ∈ (wu yX8_note cX8_note 9 none) := fun _ h => List.mem_cons_of_mem _ (up_79 h)
  refine lv_iload_n hx hb dX8_note_0 rfl (lv_at hl 2 rfl) ?_
  refine lv_iload hx hb dX8_note_1 (lv_at hl 3 rfl) ?_
  refine lv_iadd hx hb dX8_note_3 ?_
  refine lv_topi (fun x1 ex1 => ?_)
  have ex1 : x1.toInt = a2.toInt + a3.toInt := by rw [ex1]; exact wk_add (show (-2147483648) ≤ a2.toInt + a3.toInt by omega) (show a2.toInt + a3.toInt ≤ 2147483647 by omega)
  refine lv_aload_n hx hb dX8_note_4 rfl (lv_at hl 0 rfl) ?_
  refine tk_geti hC hK hw hT hinX8 kC_at151 (by decide) rfl 6 (by decide) (List.mem_cons_of_mem _ uw_55_22) rfl rfl dX8_note_5 (fun x2 c3 rx2 tx2 => ?_)
  refine lv_icmp_le (tgt := 12) hx hb dX8_note_8 (by decide) (fun c4 => ?_) (fun c4 => ?_)
  · have c4 : x1.toInt ≤ x2.toInt := wk_le.mp c4
    refine lv_lload_n hx hb dX8_note_12 rfl (lv_at hl 1 rfl) ?_
    refine lv_ldc2 (v := 24) hx hb hC.2.2.2.1 (hC.2.2.2.2 _ (List.mem_cons_of_mem _ uw_56_12)) dX8_note_13 ?_
    refine lv_ldiv hx hb dX8_note_16 (by decide) ?_
    refine lv_topl (fun x5 ex5 => ?_)
    have ex5 : x5.toInt = a1.toInt / (24 : Int) := by rw [ex5]; exact wk_divl (show 0 ≤ a1.toInt from ra1) (show 0 < (24 : Int) by decide)
    refine lv_lload_n hx hb dX8_note_17 rfl (lv_at hl 1 rfl) ?_
    refine lv_iload hx hb dX8_note_18 (lv_at hl 3 rfl) ?_
    refine lv_i2l hx hb dX8_note_20 rfl ?_
    refine lv_topl (fun x6 ex6 => ?_)
    have ex6 : x6.toInt = a3.toInt := by rw [ex6]; exact wk_i2l _
    have bx6 := wk_i32 a3
    refine lv_ladd hx hb dX8_note_21 ?_
    refine lv_topl (fun x7 ex7 => ?_)
    have ex7 : x7.toInt = a1.toInt + x6.toInt := by rw [ex7]; exact wk_addl (show (-9223372036854775808) ≤ a1.toInt + x6.toInt by omega) (show a1.toInt + x6.toInt ≤ 9223372036854775807 by omega)
    refine lv_ldc2 (v := 24) hx hb hC.2.2.2.1 (hC.2.2.2.2 _ (List.mem_cons_of_mem _ uw_56_12)) dX8_note_22 ?_
    refine lv_ldiv hx hb dX8_note_25 (by decide) ?_
    refine lv_topl (fun x8 ex8 => ?_)
    have ex8 : x8.toInt = x7.toInt / (24 : Int) := by rw [ex8]; exact wk_divl (show 0 ≤ x7.toInt by first | with_reducible assumption | omega) (show 0 < (24 : Int) by decide)
    refine W.lcmp hx hb dX8_note_26 ?_
    refine lv_if_ne (tgt := 34) hx hb dX8_note_27 (by decide) (fun c9 => ?_) (fun c9 => ?_)
    · have c9 : ¬ x5.toInt = x8.toInt := wk_ceF c9
      refine lv_iconst (v := 0) hx hb dX8_note_34 (by decide) ?_
      refine lv_istore (lv' := [(7, .int 0), (0, .ref (ad 151)), (1, .long a1), (3, .int a2), (4, .int a3), (5, .int a4), (6, .int a5)]) hx hb dX8_note_35 hl (by decide) rfl (fun ls hl => ?_)
      refine lv_iload_n hx hb dX8_note_37 rfl (lv_at hl 3 rfl) ?_
      refine lv_iload hx hb dX8_note_38 (lv_at hl 4 rfl) ?_
      refine lv_iadd hx hb dX8_note_40 ?_
      refine lv_topi (fun x10 ex10 => ?_)
      have ex10 : x10.toInt = a2.toInt + a3.toInt := by rw [ex10]; exact wk_add (show (-2147483648) ≤ a2.toInt + a3.toInt by omega) (show a2.toInt + a3.toInt ≤ 2147483647 by omega)
      refine lv_bipush (v := 20) hx hb dX8_note_41 (by decide) ?_
      refine lv_imul hx hb dX8_note_43 ?_
      refine lv_topi (fun x11 ex11 => ?_)
      have ex11 : x11.toInt = x10.toInt * (20 : Int) := by rw [ex11]; exact wk_mul (show (-2147483648) ≤ x10.toInt * (20 : Int) by omega) (show x10.toInt * (20 : Int) ≤ 2147483647 by omega)
      refine lv_iload hx hb dX8_note_44 (lv_at hl 0 rfl) ?_
      refine lv_if_eq (tgt := 54) hx hb dX8_note_46 (by decide) (fun _ => ?_) (fun c => absurd (by decide) c)
      refine lv_iload hx hb dX8_note_54 (lv_at hl 5 rfl) ?_
      refine lv_iload hx hb dX8_note_56 (lv_at hl 5 rfl) ?_
      refine lv_iconst (v := 2) hx hb dX8_note_58 (by decide) ?_
      refine lv_irem hx hb dX8_note_59 (by decide) ?_
      refine lv_topi (fun x12 ex12 => ?_)
      have ex12 : x12.toInt = a4.toInt % (2 : Int) := by rw [ex12]; exact wk_rem (show 0 ≤ a4.toInt from ra4) (show 0 < (2 : Int) by decide)
      refine lv_isub hx hb dX8_note_60 ?_
      refine lv_topi (fun x13 ex13 => ?_)
      have ex13 : x13.toInt = a4.toInt - x12.toInt := by rw [ex13]; exact wk_sub (show (-2147483648) ≤ a4.toInt - x12.toInt by omega) (show a4.toInt - x12.toInt ≤ 2147483647 by omega)
      refine lv_iadd hx hb dX8_note_61 ?_
      refine lv_topi (fun x14 ex14 => ?_)
      have ex14 : x14.toInt = x11.toInt + x13.toInt := by rw [ex14]; exact wk_add (show (-2147483648) ≤ x11.toInt + x13.toInt by omega) (show x11.toInt + x13.toInt ≤ 2147483647 by omega)
      refine lv_istore (lv' := [(8, .int x14), (7, .int 0), (0, .ref (ad 151)), (1, .long a1), (3, .int a2), (4, .int a3), (5, .int a4), (6, .int a5)]) hx hb dX8_note_62 hl (by decide) rfl (fun ls hl => ?_)
      refine lv_aload_n hx hb dX8_note_64 rfl (lv_at hl 2 rfl) ?_
      refine tk_getA hC hK hw hT hinX8 kC_at151 (by decide) rfl 5 (by decide) (List.mem_cons_of_mem _ uw_5_10) rfl rfl dX8_note_65 ?_
      refine lv_iload hx hb dX8_note_68 (lv_at hl 0 rfl) ?_
      refine lv_aload_n hx hb dX8_note_70 rfl (lv_at hl 2 rfl) ?_
      refine tk_getA hC hK hw hT hinX8 kC_at151 (by decide) rfl 5 (by decide) (List.mem_cons_of_mem _ uw_5_10) rfl rfl dX8_note_71 ?_
      refine lv_iload hx hb dX8_note_74 (lv_at hl 0 rfl) ?_
      refine tk_iald hC hK hw hT kC_at154 rfl rfl (show 0 ≤ x14.toInt by first | with_reducible assumption | omega) (show x14.toInt < 2420 by first | with_reducible assumption | omega) dX8_note_76 (fun x15 c16 rx15 tx15 => ?_)
      refine lv_iload hx hb dX8_note_77 (lv_at hl 7 rfl) ?_
      refine va_mmin hx hb (hC.2.2.1.trans hl.1.symm) hC.2.2.2.1 (hC.2.2.2.2 _ (List.mem_cons_of_mem _ uw_56_19)) (hC.2.2.2.2 _ (List.mem_cons_of_mem _ uw_14_19)) (hC.2.2.2.2 _ (List.mem_cons_of_mem _ uw_14_16)) (hC.2.2.2.2 _ (List.mem_cons_of_mem _ uw_14_20)) (Nat.le_of_ble_eq_true rfl) (Nat.le_of_ble_eq_true rfl) (Nat.zero_le _) (Nat.zero_le _) dX8_note_79 ?_
      refine lv_topi (fun x17 ex17 => ?_)
      have bx17 : (x17.toInt = x15.toInt ∧ x15.toInt ≤ a5.toInt) ∨ (x17.toInt = a5.toInt ∧ a5.toInt < x15.toInt) := by rw [ex17]; exact wk_min
      refine tk_iast hC hK hw hT kC_at154 (by decide) rfl rfl (show 0 ≤ x14.toInt by first | with_reducible assumption | omega) (show x14.toInt < 2420 by first | with_reducible assumption | omega) (show 0 ≤ x17.toInt by first | with_reducible assumption | omega) (show x17.toInt ≤ 1000000 by first | with_reducible assumption | omega) dX8_note_82 (fun H locs w18 hw hT k20 c19 => ?_)
      have hF := hF.put kC_at154 (inE_of (a := 0) (b := 2420) (by decide) (show 0 ≤ x14.toInt.toNat by omega) (show x14.toInt.toNat ≤ 2420 by omega)) k20
      have c21 := k20.gi (Or.inl (tk_ne kC_at151 kC_at154 (by decide))) c3
      exact tk_vret hC hr hlocks hK ⟨hT, hF, trivial⟩ hw dX8_note_83
    · have c9 : x5.toInt = x8.toInt := wk_ceT c9
      refine lv_iconst (v := 1) hx hb dX8_note_30 (by decide) ?_
      refine lv_goto (tgt := 35) hx hb dX8_note_31 (by decide) ?_
      refine lv_istore (lv' := [(7, .int 1), (0, .ref (ad 151)), (1, .long a1), (3, .int a2), (4, .int a3), (5, .int a4), (6, .int a5)]) hx hb dX8_note_35 hl (by decide) rfl (fun ls hl => ?_)
      refine lv_iload_n hx hb dX8_note_37 rfl (lv_at hl 3 rfl) ?_
      refine lv_iload hx hb dX8_note_38 (lv_at hl 4 rfl) ?_
      refine lv_iadd hx hb dX8_note_40 ?_
      refine lv_topi (fun x22 ex22 => ?_)
      have ex22 : x22.toInt = a2.toInt + a3.toInt := by rw [ex22]; exact wk_add (show (-2147483648) ≤ a2.toInt + a3.toInt by omega) (show a2.toInt + a3.toInt ≤ 2147483647 by omega)
      refine lv_bipush (v := 20) hx hb dX8_note_41 (by decide) ?_
      refine lv_imul hx hb dX8_note_43 ?_
      refine lv_topi (fun x23 ex23 => ?_)
      have ex23 : x23.toInt = x22.toInt * (20 : Int) := by rw [ex23]; exact wk_mul (show (-2147483648) ≤ x22.toInt * (20 : Int) by omega) (show x22.toInt * (20 : Int) ≤ 2147483647 by omega)
      refine lv_iload hx hb dX8_note_44 (lv_at hl 0 rfl) ?_
      refine lv_if_eq (tgt := 54) hx hb dX8_note_46 (by decide) (fun c => absurd c (by decide)) (fun _ => ?_)
      refine lv_iload hx hb dX8_note_49 (lv_at hl 5 rfl) ?_
      refine lv_goto (tgt := 61) hx hb dX8_note_51 (by decide) ?_
      refine lv_iadd hx hb dX8_note_61 ?_
      refine lv_topi (fun x24 ex24 => ?_)
      have ex24 : x24.toInt = x23.toInt + a4.toInt := by rw [ex24]; exact wk_add (show (-2147483648) ≤ x23.toInt + a4.toInt by omega) (show x23.toInt + a4.toInt ≤ 2147483647 by omega)
      refine lv_istore (lv' := [(8, .int x24), (7, .int 1), (0, .ref (ad 151)), (1, .long a1), (3, .int a2), (4, .int a3), (5, .int a4), (6, .int a5)]) hx hb dX8_note_62 hl (by decide) rfl (fun ls hl => ?_)
      refine lv_aload_n hx hb dX8_note_64 rfl (lv_at hl 2 rfl) ?_
      refine tk_getA hC hK hw hT hinX8 kC_at151 (by decide) rfl 5 (by decide) (List.mem_cons_of_mem _ uw_5_10) rfl rfl dX8_note_65 ?_
      refine lv_iload hx hb dX8_note_68 (lv_at hl 0 rfl) ?_
      refine lv_aload_n hx hb dX8_note_70 rfl (lv_at hl 2 rfl) ?_
      refine tk_getA hC hK hw hT hinX8 kC_at151 (by decide) rfl 5 (by decide) (List.mem_cons_of_mem _ uw_5_10) rfl rfl dX8_note_71 ?_
      refine lv_iload hx hb dX8_note_74 (lv_at hl 0 rfl) ?_
      refine tk_iald hC hK hw hT kC_at154 rfl rfl (show 0 ≤ x24.toInt by first | with_reducible assumption | omega) (show x24.toInt < 2420 by first | with_reducible assumption | omega) dX8_note_76 (fun x25 c26 rx25 tx25 => ?_)
      refine lv_iload hx hb dX8_note_77 (lv_at hl 7 rfl) ?_
      refine va_mmin hx hb (hC.2.2.1.trans hl.1.symm) hC.2.2.2.1 (hC.2.2.2.2 _ (List.mem_cons_of_mem _ uw_56_19)) (hC.2.2.2.2 _ (List.mem_cons_of_mem _ uw_14_19)) (hC.2.2.2.2 _ (List.mem_cons_of_mem _ uw_14_16)) (hC.2.2.2.2 _ (List.mem_cons_of_mem _ uw_14_20)) (Nat.le_of_ble_eq_true rfl) (Nat.le_of_ble_eq_true rfl) (Nat.zero_le _) (Nat.zero_le _) dX8_note_79 ?_
      refine lv_topi (fun x27 ex27 => ?_)
      have bx27 : (x27.toInt = x25.toInt ∧ x25.toInt ≤ a5.toInt) ∨ (x27.toInt = a5.toInt ∧ a5.toInt < x25.toInt) := by rw [ex27]; exact wk_min
      refine tk_iast hC hK hw hT kC_at154 (by decide) rfl rfl (show 0 ≤ x24.toInt by first | with_reducible assumption | omega) (show x24.toInt < 2420 by first | with_reducible assumption | omega) (show 0 ≤ x27.toInt by first | with_reducible assumption | omega) (show x27.toInt ≤ 1000000 by first | with_reducible assumption | omega) dX8_note_82 (fun H locs w28 hw hT k30 c29 => ?_)
      have hF := hF.put kC_at154 (inE_of (a := 0) (b := 2420) (by decide) (show 0 ≤ x24.toInt.toNat by omega) (show x24.toInt.toNat ≤ 2420 by omega)) k30
      have c31 := k30.gi (Or.inl (tk_ne kC_at151 kC_at154 (by decide))) c3
      exact tk_vret hC hr hlocks hK ⟨hT, hF, trivial⟩ hw dX8_note_83
  · have c4 : x2.toInt < x1.toInt := wk_leF c4
    exact tk_vret hC hr hlocks hK ⟨hT, hF, trivial⟩ hw dX8_note_11
