abbrev P_X1_takeStep_2 (ad : Nat → Nat) (cy : Nat → ClassId) (B : Int) (qr : Nat) (s1 : Int)  (w0 : va_W) : Int32 → va_W → Prop := fun r u => TW ksC ad cy (B + 9) qr s1 u ∧ FE ksC [(1, 4, 4), (1, 5, 5), (1, 6, 6), (1, 7, 7), (1, 8, 8), (9, 0, 0), (9, 4, 4), (9, 5, 5), (9, 6, 6), (9, 7, 7), (9, 8, 8), (45, 0, 64)] w0 u ∧ (((∃ y : Int32, gi u 149 8 = y ∧ 0 ≤ y.toInt ∧ y.toInt ≤ 999999)) ∨ (r = 4))
set_option maxHeartbeats 4000000 in
set_option maxRecDepth 100000 in
theorem k_X1_takeStep_2 (l : Launch) (adK adV : Nat → Nat) (dC : Nat → ClassId) (dI : Nat → Nat → Nat) (cy : Nat → ClassId) (ad : Nat → Nat) (B : Int) (hB0 : 2147483648 ≤ B) (hB1 : B ≤ 1152921504606846976) (qr : Nat) (s1 : Int)   (w0 : va_W) (sz : Nat) (hT : TW ksC ad cy B qr s1 w0)  : Met l yX1_takeStep (wu yX1_takeStep cX1_takeStep 4 (some .int)) ({ frames := 5, cells := 0, slots := 0, locals := 112 }) (va_Pc [.ref (ad 149), .ref (ad 152)] (wpreS adK adV dC dI cy sz w0)) (va_Qi (P_X1_takeStep_2 ad cy B qr s1  w0) (fun u : va_W => wpost dC dI cy (va_A w0 sz) u) (va_A w0 sz)) 0 0 (va_A w0 sz) := by
  refine Met.ofW (cc := cX1_takeStep) (maxL := 4) (ret := (some .int)) (by decide) rfl ?_
  intro p e s m args below meth c s₁ Bk hml hv
  obtain ⟨rfl, ⟨hsz, hP, hK, hD0⟩, hE, hSR⟩ := hv
  have hx := Bk.exec
  have hb := Bk.bytes
  have hr := Bk.returns
  have hlocks := Bk.notSynchronized
  have hC : CallFix p m c cX1_takeStep 4 s _ (wu yX1_takeStep cX1_takeStep 4 (some .int)) RX1 := ⟨hx, hb, hml, findClass_of_methodNamed Bk.named, atoms_spec (ws := (wu yX1_takeStep cX1_takeStep 4 (some .int))) Bk.pre⟩
  subst hsz
  have hD := hD0.self (sz := s.heap.size)
  generalize hAe : va_A w0 s.heap.size = A at hD hE ⊢
  have hA : ∀ q : Nat, s.heap.size ≤ q → A q := fun q h => by rw [← hAe]; exact Or.inr h
  have hw : Wd dC dI A s.heap s.heap [] w0 := ⟨hP, hD, va_S.rf⟩
  have hF : FE ksC [(1, 4, 4), (1, 5, 5), (1, 6, 6), (1, 7, 7), (1, 8, 8), (9, 0, 0), (9, 4, 4), (9, 5, 5), (9, 6, 6), (9, 7, 7), (9, 8, 8), (45, 0, 64)] w0 w0 := FE.rf
  have hl := lv_entry ([.ref (ad 149), .ref (ad 152)]) (n := 4) (Nat.le_of_ble_eq_true rfl)
  rw [lg_entry_eq]
  generalize (lg_sl ([.ref (ad 149), .ref (ad 152)]) ++ List.replicate (4 - (lg_sl ([.ref (ad 149), .ref (ad 152)])).length) Slot.unset).toArray = ls at hl ⊢
  have hl : lv_has ls 4 [(0, .ref (ad 149)), (1, .ref (ad 152))] := hl
  generalize hloc : ([] : List Loc) = locs at hw ⊢
  have hinX9 : ∀ w ∈ u_ws RX9 TX9 9, w ∈ (wu yX1_takeStep cX1_takeStep 4 (some .int)) := fun _ h => List.mem_cons_of_mem _ (up_82 h)
  have hinX1 : ∀ w ∈ u_ws RX1 TX1 10, w ∈ (wu yX1_takeStep cX1_takeStep 4 (some .int)) := fun _ h => List.mem_cons_of_mem _ (up_78 h)
  have hinX2 : ∀ w ∈ u_ws RX2 TX2 6, w ∈ (wu yX1_takeStep cX1_takeStep 4 (some .int)) := fun _ h => List.mem_cons_of_mem _ (up_74 h)
  have J155 : ∀ (v155_3 : Int32) (f155_149_8 : Int32) (f155_152_3 : Int32) (H : Heap) (locs : List Loc) (ls : Array Slot) (w1 : va_W), 0 ≤ f155_149_8.toInt → f155_149_8.toInt ≤ 999999 → Wd dC dI A s.heap H locs w1 → TW ksC ad cy (B + 9) qr s1 w1 → FE ksC [(1, 4, 4), (1, 5, 5), (1, 6, 6), (1, 7, 7), (1, 8, 8), (9, 0, 0), (9, 4, 4), (9, 5, 5), (9, 6, 6), (9, 7, 7), (9, 8, 8), (45, 0, 64)] w0 w1 → gi w1 149 8 = f155_149_8 → gi w1 152 3 = f155_152_3 → lv_has ls 4 [(0, .ref (ad 149)), (1, .ref (ad 152)), (3, .int v155_3)] → W p l e ({ frames := 5, cells := 0, slots := 0, locals := 112 }) s m (List.toArray [.ref (ad 149), .ref (ad 152)]) below meth c H locs 0 0 (MQ below (va_Qi (P_X1_takeStep_2 ad cy B qr s1  w0) (fun u : va_W => wpost dC dI cy A u) A) (List.toArray [.ref (ad 149), .ref (ad 152)]) s 0 0 A) (F0 m 155 ls []) := by
    intro v155_3 f155_149_8 f155_152_3 H locs ls w1 r2 t3 hw hT hF c4 c5 hl
    refine lv_aload_n hx hb dX1_takeStep_155 rfl (lv_at hl 1 rfl) ?_
    refine lv_dup hx hb dX1_takeStep_156 rfl ?_
    refine tk_geti hC hK hw hT hinX9 kC_at152 (by decide) rfl 5 (by decide) (List.mem_cons_of_mem _ uw_42_11) rfl rfl dX1_takeStep_157 (fun x6 c7 rx6 tx6 => ?_)
    refine lv_iconst (v := 1) hx hb dX1_takeStep_160 (by decide) ?_
    refine lv_iadd hx hb dX1_takeStep_161 ?_
    have nx8 := wk_i32 x6
    refine lv_topi (fun x9 ex9 => ?_)
    refine tk_puti hC hK hw hT hinX9 tyX9_ok nmX9 kC_at152 (by decide) rfl rfl 5 (by decide) (List.mem_cons_of_mem _ uw_42_11) rfl rfl rfl rfl (wk_i32 x9).1 (wk_i32 x9).2 dX1_takeStep_162 (fun H locs w10 hw hT k12 c11 => ?_)
    have hF := hF.put kC_at152 (k := 5) (by decide) k12
    have c13 := k12.gi (Or.inr (by decide)) c4
    have c14 := k12.gi (Or.inr (by decide)) c5
    refine lv_iload_n hx hb dX1_takeStep_165 rfl (lv_at hl 2 rfl) ?_
    exact tk_iret hC hr hlocks hK ⟨hT, hF, (Or.inl ⟨f155_149_8, c13, (show 0 ≤ f155_149_8.toInt from r2), (show f155_149_8.toInt ≤ 999999 from t3)⟩)⟩ hw dX1_takeStep_166
  have J145 : ∀ (v145_3 : Int32) (f145_149_8 : Int32) (f145_152_3 : Int32) (H : Heap) (locs : List Loc) (ls : Array Slot) (w15 : va_W), 0 ≤ f145_149_8.toInt → f145_149_8.toInt ≤ 999999 → Wd dC dI A s.heap H locs w15 → TW ksC ad cy B qr s1 w15 → FE ksC [(1, 4, 4), (1, 5, 5), (1, 6, 6), (1, 7, 7), (1, 8, 8), (9, 0, 0), (9, 4, 4), (9, 5, 5), (9, 6, 6), (9, 7, 7), (9, 8, 8), (45, 0, 64)] w0 w15 → gi w15 149 8 = f145_149_8 → gi w15 152 3 = f145_152_3 → lv_has ls 4 [(0, .ref (ad 149)), (1, .ref (ad 152)), (3, .int v145_3)] → W p l e ({ frames := 5, cells := 0, slots := 0, locals := 112 }) s m (List.toArray [.ref (ad 149), .ref (ad 152)]) below meth c H locs 0 0 (MQ below (va_Qi (P_X1_takeStep_2 ad cy B qr s1  w0) (fun u : va_W => wpost dC dI cy A u) A) (List.toArray [.ref (ad 149), .ref (ad 152)]) s 0 0 A) (F0 m 145 ls []) := by
    intro v145_3 f145_149_8 f145_152_3 H locs ls w15 r16 t17 hw hT hF c18 c19 hl
    refine lv_aload_n hx hb dX1_takeStep_145 rfl (lv_at hl 1 rfl) ?_
    refine lv_dup hx hb dX1_takeStep_146 rfl ?_
    refine tk_getB hC hK hw hT hinX9 kC_at152 (by decide) rfl 4 (by decide) (List.mem_cons_of_mem _ uw_42_10) rfl rfl dX1_takeStep_147 (fun x20 c21 rx20 tx20 => ?_)
    refine lv_lconst (v := 1) hx hb dX1_takeStep_150 (by decide) ?_
    refine lv_ladd hx hb dX1_takeStep_151 ?_
    refine lv_topl (fun x22 ex22 => ?_)
    have ex22 : x22.toInt = x20.toInt + (1 : Int) := by rw [ex22]; exact wk_addl (show (-9223372036854775808) ≤ x20.toInt + (1 : Int) by omega) (show x20.toInt + (1 : Int) ≤ 9223372036854775807 by omega)
    have hT := hT.up (show B ≤ (B + 1) by omega)
    refine tk_putB hC hK hw hT hinX9 tyX9_ok nmX9 kC_at152 (by decide) rfl rfl 4 (by decide) (List.mem_cons_of_mem _ uw_42_10) rfl rfl rfl rfl (show 0 ≤ x22.toInt by omega) (show x22.toInt ≤ (B + 1) by omega) dX1_takeStep_152 (fun H locs w23 hw hT k25 c24 => ?_)
    have hF := hF.put kC_at152 (k := 4) (by decide) k25
    have c26 := k25.gi (Or.inr (by decide)) c18
    have c27 := k25.gi (Or.inr (by decide)) c19
    exact J155 v145_3 f145_149_8 f145_152_3 H locs ls w23 (show 0 ≤ f145_149_8.toInt from r16) (show f145_149_8.toInt ≤ 999999 from t17)  hw (hT.up (show (B + 1) ≤ (B + 9) by omega)) hF c26 c27 (lv_sub hl [0, 1, 2] rfl)
  have J40 : ∀ (f40_152_3 : Int32) (H : Heap) (locs : List Loc) (ls : Array Slot) (w28 : va_W), Wd dC dI A s.heap H locs w28 → TW ksC ad cy B qr s1 w28 → FE ksC [(1, 4, 4), (1, 5, 5), (1, 6, 6), (1, 7, 7), (1, 8, 8), (9, 0, 0), (9, 4, 4), (9, 5, 5), (9, 6, 6), (9, 7, 7), (9, 8, 8), (45, 0, 64)] w0 w28 → gi w28 152 3 = f40_152_3 → lv_has ls 4 [(0, .ref (ad 149)), (1, .ref (ad 152))] → W p l e ({ frames := 5, cells := 0, slots := 0, locals := 112 }) s m (List.toArray [.ref (ad 149), .ref (ad 152)]) below meth c H locs 0 0 (MQ below (va_Qi (P_X1_takeStep_2 ad cy B qr s1  w0) (fun u : va_W => wpost dC dI cy A u) A) (List.toArray [.ref (ad 149), .ref (ad 152)]) s 0 0 A) (F0 m 40 ls []) := by
    intro f40_152_3 H locs ls w28 hw hT hF c29 hl
    refine lv_null hx hb dX1_takeStep_40 ?_
    refine lv_astore_nN (lv' := [(2, .null), (0, .ref (ad 149)), (1, .ref (ad 152))]) hx hb dX1_takeStep_41 rfl hl (by decide) rfl (fun ls hl => ?_)
    refine lv_aload_n hx hb dX1_takeStep_42 rfl (lv_at hl 1 rfl) ?_
    refine lv_aload_n hx hb dX1_takeStep_43 rfl (lv_at hl 2 rfl) ?_
    refine lv_aload_nN hx hb dX1_takeStep_44 rfl (lv_at hl 0 rfl) ?_
    refine lv_ifnullN (tgt := 59) hx hb dX1_takeStep_45 (by decide) ?_
    refine lv_iconst (v := 0) hx hb dX1_takeStep_59 (by decide) ?_
    refine tk_Vv hC hK hw hT hA hE hSR kC_at149 (by decide) rfl (k_X1_lookAround_3 l adK adV dC dI cy ad B (by omega) (by omega) qr s1    w28 H.size hT ) (cwV 2 hC.2.2.2.2 uV_RX1_47 rfl rfl rfl (by decide +kernel) ⟨Nat.le_of_ble_eq_true rfl, Nat.le_of_ble_eq_true rfl⟩) rfl hl.1 rfl (Nat.le_of_ble_eq_true rfl) dX1_takeStep_60 (fun w32 H locs hp31 hw => ?_)
    obtain ⟨hT, k33, hg38⟩ := hp31
    have hF := hF.tr k33 (by decide)
    have c39 := k33.gi kC_at152 (by decide) c29
    obtain ⟨⟨x34, c35, rx34, tx34⟩, ⟨x36, c37, rx36, tx36⟩⟩ := hg38
    refine lv_aload_nN hx hb dX1_takeStep_63 rfl (lv_at hl 0 rfl) ?_
    refine lv_ifnullN (tgt := 76) hx hb dX1_takeStep_64 (by decide) ?_
    refine lv_aload_n hx hb dX1_takeStep_76 rfl (lv_at hl 1 rfl) ?_
    refine tk_geti hC hK hw hT hinX1 kC_at149 (by decide) rfl 6 (by decide) (List.mem_cons_of_mem _ uw_42_5) rfl rfl dX1_takeStep_77 (fun x40 c41 rx40 tx40 => ?_)
    refine lv_if_eq (tgt := 87) hx hb dX1_takeStep_80 (by decide) (fun c42 => ?_) (fun c42 => ?_)
    · have c42 : x40.toInt = (0 : Int) := wk_eq.mp c42
      refine lv_iconst (v := 3) hx hb dX1_takeStep_87 (by decide) ?_
      refine lv_istore_n (lv' := [(3, .int 3), (2, .null), (0, .ref (ad 149)), (1, .ref (ad 152))]) hx hb dX1_takeStep_88 rfl hl (by decide) rfl (fun ls hl => ?_)
      refine lv_iload_n hx hb dX1_takeStep_89 rfl (lv_at hl 0 rfl) ?_
      refine lv_if_ne (tgt := 105) hx hb dX1_takeStep_90 (by decide) (fun _ => ?_) (fun c => absurd c (by decide))
      refine lv_iload_n hx hb dX1_takeStep_105 rfl (lv_at hl 0 rfl) ?_
      refine lv_iconst (v := 1) hx hb dX1_takeStep_106 (by decide) ?_
      refine lv_icmp_ne (tgt := 122) hx hb dX1_takeStep_107 (by decide) (fun _ => ?_) (fun c => absurd c (by decide))
      refine lv_iload_n hx hb dX1_takeStep_122 rfl (lv_at hl 0 rfl) ?_
      refine lv_iconst (v := 2) hx hb dX1_takeStep_123 (by decide) ?_
      refine lv_icmp_ne (tgt := 145) hx hb dX1_takeStep_124 (by decide) (fun _ => ?_) (fun c => absurd c (by decide))
      exact J145 3 x36 f40_152_3 H locs ls w32 (show 0 ≤ x36.toInt by omega) (show x36.toInt ≤ 999999 by omega)  hw hT hF c37 c39 (lv_sub hl [2, 3, 0] rfl)
    · have c42 : ¬ x40.toInt = (0 : Int) := wk_eqF c42
      refine lv_iconst (v := 0) hx hb dX1_takeStep_83 (by decide) ?_
      refine lv_goto (tgt := 88) hx hb dX1_takeStep_84 (by decide) ?_
      refine lv_istore_n (lv' := [(3, .int 0), (2, .null), (0, .ref (ad 149)), (1, .ref (ad 152))]) hx hb dX1_takeStep_88 rfl hl (by decide) rfl (fun ls hl => ?_)
      refine lv_iload_n hx hb dX1_takeStep_89 rfl (lv_at hl 0 rfl) ?_
      refine lv_if_ne (tgt := 105) hx hb dX1_takeStep_90 (by decide) (fun c => absurd (by decide) c) (fun _ => ?_)
      refine lv_aload_n hx hb dX1_takeStep_93 rfl (lv_at hl 2 rfl) ?_
      refine lv_aload_n hx hb dX1_takeStep_94 rfl (lv_at hl 3 rfl) ?_
      refine lv_aload_n hx hb dX1_takeStep_95 rfl (lv_at hl 2 rfl) ?_
      refine tk_geti hC hK hw hT hinX1 kC_at149 (by decide) rfl 5 (by decide) (List.mem_cons_of_mem _ uw_42_6) rfl rfl dX1_takeStep_96 (fun x43 c44 rx43 tx43 => ?_)
      refine tk_Vv hC hK hw hT hA hE hSR kC_at149 (by decide) rfl (k_X1_follow_3 l adK adV dC dI cy ad B (by omega) (by omega) qr s1   x43 (show (-1) ≤ x43.toInt from rx43) (show x43.toInt ≤ 11 from tx43) w32 H.size hT ) (cwV 2 hC.2.2.2.2 uV_RX1_61 rfl rfl rfl (by decide +kernel) ⟨Nat.le_of_ble_eq_true rfl, Nat.le_of_ble_eq_true rfl⟩) rfl hl.1 rfl (Nat.le_of_ble_eq_true rfl) dX1_takeStep_99 (fun w47 H locs hp46 hw => ?_)
      obtain ⟨hT, k48, hg49⟩ := hp46
      have hF := hF.tr k48 (by decide)
      have c50 := k48.gi kC_at152 (by decide) c39
      have c51 := k48.gi kC_at149 (by decide) c35
      have c52 := k48.gi kC_at149 (by decide) c37
      have c53 := k48.gi kC_at149 (by decide) c41
      have c54 := k48.gi kC_at149 (by decide) c44
      clear hg49
      refine lv_goto (tgt := 155) hx hb dX1_takeStep_102 (by decide) ?_
      exact J155 0 x36 f40_152_3 H locs ls w47 (show 0 ≤ x36.toInt by omega) (show x36.toInt ≤ 999999 by omega)  hw hT hF c52 c50 (lv_sub hl [2, 3, 0] rfl)
  refine lv_aload_n hx hb dX1_takeStep_0 rfl (lv_at hl 1 rfl) ?_
  refine tk_Vi hC hK hw hT hA hE hSR kC_at152 (by decide) rfl (k_X9_isAtGoal_2 l adK adV dC dI cy ad B (by omega) (by omega) qr s1    w0 s.heap.size hT ) (cwV 0 hC.2.2.2.2 uV_RX1_31 rfl rfl rfl (by decide +kernel) ⟨Nat.le_of_ble_eq_true rfl, Nat.le_of_ble_eq_true rfl⟩) rfl hl.1 rfl (Nat.le_of_ble_eq_true rfl) dX1_takeStep_1 (fun r55 w57 H locs hp56 hw => ?_)
  obtain ⟨hT, k58, hg59⟩ := hp56
  have hF := hF.tr k58 (by decide)
  rcases hg59 with rfl | rfl
  · refine lv_if_eq (tgt := 9) hx hb dX1_takeStep_4 (by decide) (fun _ => ?_) (fun c => absurd (by decide) c)
    refine lv_aload_n hx hb dX1_takeStep_9 rfl (lv_at hl 1 rfl) ?_
    refine tk_geti hC hK hw hT hinX9 kC_at152 (by decide) rfl 3 (by decide) (List.mem_cons_of_mem _ uw_42_3) rfl rfl dX1_takeStep_10 (fun x60 c61 rx60 tx60 => ?_)
    refine lv_if_lt (tgt := 40) hx hb dX1_takeStep_13 (by decide) (fun c62 => ?_) (fun c62 => ?_)
    · have c62 : x60.toInt < (0 : Int) := wk_lt.mp c62
      exact J40 x60 H locs ls w57   hw hT hF c61 (lv_sub hl [0, 1] rfl)
    · have c62 : (0 : Int) ≤ x60.toInt := wk_ltF c62
      refine lv_aload_n hx hb dX1_takeStep_16 rfl (lv_at hl 1 rfl) ?_
      refine tk_geti hC hK hw hT hinX9 kC_at152 (by decide) rfl 3 (by decide) (List.mem_cons_of_mem _ uw_42_3) rfl rfl dX1_takeStep_17 (fun x63 c64 rx63 tx63 => ?_)
      refine wk_top x60 (c64.symm.trans c61) ?_
      refine lv_aload_n hx hb dX1_takeStep_20 rfl (lv_at hl 0 rfl) ?_
      refine tk_getA hC hK hw hT hinX1 kC_at149 (by decide) rfl 2 (by decide) (List.mem_cons_of_mem _ uw_5_2) rfl rfl dX1_takeStep_21 ?_
      refine tk_alenR (v := 6) hC hK hw hT kC_at4 rfl (by decide) rfl (by decide) dX1_takeStep_24 ?_
      refine lv_icmp_ge (tgt := 40) hx hb dX1_takeStep_25 (by decide) (fun c65 => ?_) (fun c65 => ?_)
      · have c65 : (6 : Int) ≤ x60.toInt := wk_le.mp c65
        exact J40 x60 H locs ls w57   hw hT hF c61 (lv_sub hl [0, 1] rfl)
      · have c65 : x60.toInt < (6 : Int) := wk_leF c65
        refine lv_aload_n hx hb dX1_takeStep_28 rfl (lv_at hl 0 rfl) ?_
        refine tk_getA hC hK hw hT hinX1 kC_at149 (by decide) rfl 2 (by decide) (List.mem_cons_of_mem _ uw_5_2) rfl rfl dX1_takeStep_29 ?_
        refine lv_aload_n hx hb dX1_takeStep_32 rfl (lv_at hl 1 rfl) ?_
        refine tk_geti hC hK hw hT hinX9 kC_at152 (by decide) rfl 3 (by decide) (List.mem_cons_of_mem _ uw_42_3) rfl rfl dX1_takeStep_33 (fun x66 c67 rx66 tx66 => ?_)
        refine wk_top x60 (c67.symm.trans c61) ?_
        refine tk_aald hC hK hw hT kC_at4 rfl (by decide) rfl (show 0 ≤ x60.toInt from c62) (show x60.toInt < 6 from c65) dX1_takeStep_36 (fun j68 hj68 gj68 => ?_)
        refine lv_goto (tgt := 41) hx hb dX1_takeStep_37 (by decide) ?_
        refine lv_astore_n (lv' := [(2, .ref (ad (el 39 4 j68))), (0, .ref (ad 149)), (1, .ref (ad 152))]) hx hb dX1_takeStep_41 rfl hl (by decide) rfl (fun ls hl => ?_)
        refine lv_aload_n hx hb dX1_takeStep_42 rfl (lv_at hl 1 rfl) ?_
        refine lv_aload_n hx hb dX1_takeStep_43 rfl (lv_at hl 2 rfl) ?_
        refine lv_aload_n hx hb dX1_takeStep_44 rfl (lv_at hl 0 rfl) ?_
        refine lv_ifnull hx hb dX1_takeStep_45 ?_
        refine lv_aload_n hx hb dX1_takeStep_48 rfl (lv_at hl 0 rfl) ?_
        refine tk_geti hC hK hw hT hinX2 (kC_el39 kC_at4 hj68) (by decide) rfl 5 (by decide) (List.mem_cons_of_mem _ uw_42_4) rfl rfl dX1_takeStep_49 (fun x69 c70 rx69 tx69 => ?_)
        refine lv_if_eq (tgt := 59) hx hb dX1_takeStep_52 (by decide) (fun c71 => ?_) (fun c71 => ?_)
        · have c71 : x69.toInt = (0 : Int) := wk_eq.mp c71
          refine lv_iconst (v := 0) hx hb dX1_takeStep_59 (by decide) ?_
          refine tk_Vv hC hK hw hT hA hE hSR kC_at149 (by decide) rfl (k_X1_lookAround_3 l adK adV dC dI cy ad B (by omega) (by omega) qr s1    w57 H.size hT ) (cwV 2 hC.2.2.2.2 uV_RX1_47 rfl rfl rfl (by decide +kernel) ⟨Nat.le_of_ble_eq_true rfl, Nat.le_of_ble_eq_true rfl⟩) rfl hl.1 rfl (Nat.le_of_ble_eq_true rfl) dX1_takeStep_60 (fun w74 H locs hp73 hw => ?_)
          obtain ⟨hT, k75, hg80⟩ := hp73
          have hF := hF.tr k75 (by decide)
          have c81 := k75.gi kC_at152 (by decide) c61
          have c82 := k75.gi (kC_el39 kC_at4 hj68) (by decide) c70
          obtain ⟨⟨x76, c77, rx76, tx76⟩, ⟨x78, c79, rx78, tx78⟩⟩ := hg80
          refine lv_aload_n hx hb dX1_takeStep_63 rfl (lv_at hl 0 rfl) ?_
          refine lv_ifnull hx hb dX1_takeStep_64 ?_
          refine lv_aload_n hx hb dX1_takeStep_67 rfl (lv_at hl 1 rfl) ?_
          refine lv_aload_n hx hb dX1_takeStep_68 rfl (lv_at hl 2 rfl) ?_
          refine lv_aload_n hx hb dX1_takeStep_69 rfl (lv_at hl 0 rfl) ?_
          refine tk_Vi hC hK hw hT hA hE hSR kC_at149 (by decide) rfl (k_X1_chooseDeed_2 l adK adV dC dI cy ad B (by omega) (by omega) qr s1   (el 39 4 j68) (kC_el39 kC_at4 hj68) w74 H.size hT ) (cwV 2 hC.2.2.2.2 uV_RX1_51 rfl rfl rfl (by decide +kernel) ⟨Nat.le_of_ble_eq_true rfl, Nat.le_of_ble_eq_true rfl⟩) rfl hl.1 rfl (Nat.le_of_ble_eq_true rfl) dX1_takeStep_70 (fun r83 w85 H locs hp84 hw => ?_)
          obtain ⟨hT, k86, hg91⟩ := hp84
          have hF := hF.tr k86 (by decide)
          have c92 := k86.gi kC_at152 (by decide) c81
          have c93 := k86.gi (kC_el39 kC_at4 hj68) (by decide) c82
          have c94 := k86.gi kC_at149 (by decide) c77
          have c95 := k86.gi kC_at149 (by decide) c79
          rcases hg91 with ⟨x87, c88, rx87, tx87⟩ | ⟨g89, g90⟩
          · refine lv_goto (tgt := 88) hx hb dX1_takeStep_73 (by decide) ?_
            refine lv_istore_n (lv' := [(3, .int r83), (2, .ref (ad (el 39 4 j68))), (0, .ref (ad 149)), (1, .ref (ad 152))]) hx hb dX1_takeStep_88 rfl hl (by decide) rfl (fun ls hl => ?_)
            refine lv_iload_n hx hb dX1_takeStep_89 rfl (lv_at hl 0 rfl) ?_
            refine lv_if_ne (tgt := 105) hx hb dX1_takeStep_90 (by decide) (fun c96 => ?_) (fun c96 => ?_)
            · have c96 : ¬ r83.toInt = (0 : Int) := wk_eqF c96
              refine lv_iload_n hx hb dX1_takeStep_105 rfl (lv_at hl 0 rfl) ?_
              refine lv_iconst (v := 1) hx hb dX1_takeStep_106 (by decide) ?_
              refine lv_icmp_ne (tgt := 122) hx hb dX1_takeStep_107 (by decide) (fun c97 => ?_) (fun c97 => ?_)
              · have c97 : ¬ r83.toInt = (1 : Int) := wk_eqF c97
                refine lv_iload_n hx hb dX1_takeStep_122 rfl (lv_at hl 0 rfl) ?_
                refine lv_iconst (v := 2) hx hb dX1_takeStep_123 (by decide) ?_
                refine lv_icmp_ne (tgt := 145) hx hb dX1_takeStep_124 (by decide) (fun c98 => ?_) (fun c98 => ?_)
                · have c98 : ¬ r83.toInt = (2 : Int) := wk_eqF c98
                  exact J145 r83 x78 x60 H locs ls w85 (show 0 ≤ x78.toInt by omega) (show x78.toInt ≤ 999999 by omega)  hw hT hF c95 c92 (lv_sub hl [2, 3, 0] rfl)
                · have c98 : r83.toInt = (2 : Int) := wk_eq.mp c98
                  refine lv_aload_n hx hb dX1_takeStep_127 rfl (lv_at hl 3 rfl) ?_
                  refine lv_aload_n hx hb dX1_takeStep_128 rfl (lv_at hl 3 rfl) ?_
                  refine tk_Vl hC hK hw hT hA hE hSR kC_at152 (by decide) rfl (k_X9_dayNow_2 l adK adV dC dI cy ad B (by omega) (by omega) qr s1    w85 H.size hT ) (cwV 0 hC.2.2.2.2 uV_RX1_68 rfl rfl rfl (by decide +kernel) ⟨Nat.le_of_ble_eq_true rfl, Nat.le_of_ble_eq_true rfl⟩) rfl hl.1 rfl (Nat.le_of_ble_eq_true rfl) dX1_takeStep_129 (fun r99 w101 H locs hp100 hw => ?_)
                  obtain ⟨hT, k102, hg105⟩ := hp100
                  have hF := hF.tr k102 (by decide)
                  have c106 := k102.gi kC_at152 (by decide) c92
                  have c107 := k102.gi (kC_el39 kC_at4 hj68) (by decide) c93
                  have c108 := k102.gi kC_at149 (by decide) c94
                  have c109 := k102.gi kC_at149 (by decide) c95
                  have c110 := k102.gi (kC_el39 kC_at4 hj68) (by decide) c88
                  obtain ⟨g103, g104⟩ := hg105
                  refine tk_putl hC hK hw hT hinX9 tyX9_ok nmX9 kC_at152 (by decide) rfl rfl 8 (by decide) (List.mem_cons_of_mem _ uw_42_8) rfl rfl rfl rfl (wk_i64 r99).1 (wk_i64 r99).2 dX1_takeStep_132 (fun H locs w111 hw hT k113 c112 => ?_)
                  have hF := hF.put kC_at152 (k := 8) (by decide) k113
                  have c114 := k113.gi (Or.inr (by decide)) c106
                  have c115 := k113.gi (Or.inr (by decide)) c107
                  have c116 := k113.gi (Or.inr (by decide)) c108
                  have c117 := k113.gi (Or.inl (tk_ne kC_at149 kC_at152 (by decide))) c109
                  have c118 := k113.gi (Or.inr (by decide)) c110
                  refine lv_aload_n hx hb dX1_takeStep_135 rfl (lv_at hl 3 rfl) ?_
                  refine lv_dup hx hb dX1_takeStep_136 rfl ?_
                  refine tk_geti hC hK hw hT hinX9 kC_at152 (by decide) rfl 6 (by decide) (List.mem_cons_of_mem _ uw_42_9) rfl rfl dX1_takeStep_137 (fun x119 c120 rx119 tx119 => ?_)
                  refine lv_iconst (v := 1) hx hb dX1_takeStep_140 (by decide) ?_
                  refine lv_iadd hx hb dX1_takeStep_141 ?_
                  have nx121 := wk_i32 x119
                  refine lv_topi (fun x122 ex122 => ?_)
                  refine tk_puti hC hK hw hT hinX9 tyX9_ok nmX9 kC_at152 (by decide) rfl rfl 6 (by decide) (List.mem_cons_of_mem _ uw_42_9) rfl rfl rfl rfl (wk_i32 x122).1 (wk_i32 x122).2 dX1_takeStep_142 (fun H locs w123 hw hT k125 c124 => ?_)
                  have hF := hF.put kC_at152 (k := 6) (by decide) k125
                  have c126 := k125.gi (Or.inr (by decide)) c114
                  have c127 := k125.gi (Or.inr (by decide)) c115
                  have c128 := k125.gi (Or.inr (by decide)) c116
                  have c129 := k125.gi (Or.inr (by decide)) c117
                  have c130 := k125.gi (Or.inr (by decide)) c118
                  have c131 := k125.gl (Or.inr (by decide)) c112
                  exact J145 r83 x78 x60 H locs ls w123 (show 0 ≤ x78.toInt by omega) (show x78.toInt ≤ 999999 by omega)  hw hT hF c129 c126 (lv_sub hl [2, 3, 0] rfl)
              · have c97 : r83.toInt = (1 : Int) := wk_eq.mp c97
                refine lv_aload_n hx hb dX1_takeStep_110 rfl (lv_at hl 2 rfl) ?_
                refine lv_aload_n hx hb dX1_takeStep_111 rfl (lv_at hl 3 rfl) ?_
                refine lv_aload_n hx hb dX1_takeStep_112 rfl (lv_at hl 2 rfl) ?_
                refine tk_geti hC hK hw hT hinX1 kC_at149 (by decide) rfl 7 (by decide) (List.mem_cons_of_mem _ uw_42_7) rfl rfl dX1_takeStep_113 (fun x132 c133 rx132 tx132 => ?_)
                refine wk_top x76 (c133.symm.trans c94) ?_
                obtain rfl : x76 = (-1) := wk_eq.mpr (show x76.toInt = (-1) by omega)
                refine tk_Vv hC hK hw hT hA hE hSR kC_at149 (by decide) rfl (k_X1_follow_4 l adK adV dC dI cy ad B (by omega) (by omega) qr s1    w85 H.size hT ) (cwV 2 hC.2.2.2.2 uV_RX1_61 rfl rfl rfl (by decide +kernel) ⟨Nat.le_of_ble_eq_true rfl, Nat.le_of_ble_eq_true rfl⟩) rfl hl.1 rfl (Nat.le_of_ble_eq_true rfl) dX1_takeStep_116 (fun w136 H locs hp135 hw => ?_)
                obtain ⟨hT, k137, hg138⟩ := hp135
                have hF := hF.tr k137 (by decide)
                have c139 := k137.gi kC_at152 (by decide) c92
                have c140 := k137.gi (kC_el39 kC_at4 hj68) (by decide) c93
                have c141 := k137.gi kC_at149 (by decide) c94
                have c142 := k137.gi kC_at149 (by decide) c95
                have c143 := k137.gi (kC_el39 kC_at4 hj68) (by decide) c88
                clear hg138
                refine lv_goto (tgt := 155) hx hb dX1_takeStep_119 (by decide) ?_
                exact J155 r83 x78 x60 H locs ls w136 (show 0 ≤ x78.toInt by omega) (show x78.toInt ≤ 999999 by omega)  hw (hT.up (show B ≤ (B + 9) by omega)) hF c142 c139 (lv_sub hl [2, 3, 0] rfl)
            · have c96 : r83.toInt = (0 : Int) := wk_eq.mp c96
              refine lv_aload_n hx hb dX1_takeStep_93 rfl (lv_at hl 2 rfl) ?_
              refine lv_aload_n hx hb dX1_takeStep_94 rfl (lv_at hl 3 rfl) ?_
              refine lv_aload_n hx hb dX1_takeStep_95 rfl (lv_at hl 2 rfl) ?_
              refine tk_geti hC hK hw hT hinX1 kC_at149 (by decide) rfl 5 (by decide) (List.mem_cons_of_mem _ uw_42_6) rfl rfl dX1_takeStep_96 (fun x144 c145 rx144 tx144 => ?_)
              refine tk_Vv hC hK hw hT hA hE hSR kC_at149 (by decide) rfl (k_X1_follow_3 l adK adV dC dI cy ad B (by omega) (by omega) qr s1   x144 (show (-1) ≤ x144.toInt from rx144) (show x144.toInt ≤ 11 from tx144) w85 H.size hT ) (cwV 2 hC.2.2.2.2 uV_RX1_61 rfl rfl rfl (by decide +kernel) ⟨Nat.le_of_ble_eq_true rfl, Nat.le_of_ble_eq_true rfl⟩) rfl hl.1 rfl (Nat.le_of_ble_eq_true rfl) dX1_takeStep_99 (fun w148 H locs hp147 hw => ?_)
              obtain ⟨hT, k149, hg150⟩ := hp147
              have hF := hF.tr k149 (by decide)
              have c151 := k149.gi kC_at152 (by decide) c92
              have c152 := k149.gi (kC_el39 kC_at4 hj68) (by decide) c93
              have c153 := k149.gi kC_at149 (by decide) c94
              have c154 := k149.gi kC_at149 (by decide) c95
              have c155 := k149.gi (kC_el39 kC_at4 hj68) (by decide) c88
              have c156 := k149.gi kC_at149 (by decide) c145
              clear hg150
              refine lv_goto (tgt := 155) hx hb dX1_takeStep_102 (by decide) ?_
              exact J155 r83 x78 x60 H locs ls w148 (show 0 ≤ x78.toInt by omega) (show x78.toInt ≤ 999999 by omega)  hw hT hF c154 c151 (lv_sub hl [2, 3, 0] rfl)
          · refine lv_goto (tgt := 88) hx hb dX1_takeStep_73 (by decide) ?_
            refine lv_istore_n (lv' := [(3, .int r83), (2, .ref (ad (el 39 4 j68))), (0, .ref (ad 149)), (1, .ref (ad 152))]) hx hb dX1_takeStep_88 rfl hl (by decide) rfl (fun ls hl => ?_)
            refine lv_iload_n hx hb dX1_takeStep_89 rfl (lv_at hl 0 rfl) ?_
            refine lv_if_ne (tgt := 105) hx hb dX1_takeStep_90 (by decide) (fun c157 => ?_) (fun c157 => ?_)
            · have c157 : ¬ r83.toInt = (0 : Int) := wk_eqF c157
              refine lv_iload_n hx hb dX1_takeStep_105 rfl (lv_at hl 0 rfl) ?_
              refine lv_iconst (v := 1) hx hb dX1_takeStep_106 (by decide) ?_
              refine lv_icmp_ne (tgt := 122) hx hb dX1_takeStep_107 (by decide) (fun c158 => ?_) (fun c158 => ?_)
              · have c158 : ¬ r83.toInt = (1 : Int) := wk_eqF c158
                refine lv_iload_n hx hb dX1_takeStep_122 rfl (lv_at hl 0 rfl) ?_
                refine lv_iconst (v := 2) hx hb dX1_takeStep_123 (by decide) ?_
                refine lv_icmp_ne (tgt := 145) hx hb dX1_takeStep_124 (by decide) (fun c159 => ?_) (fun c159 => ?_)
                · have c159 : ¬ r83.toInt = (2 : Int) := wk_eqF c159
                  exact J145 r83 x78 x60 H locs ls w85 (show 0 ≤ x78.toInt by omega) (show x78.toInt ≤ 999999 by omega)  hw hT hF c95 c92 (lv_sub hl [2, 3, 0] rfl)
                · have c159 : r83.toInt = (2 : Int) := wk_eq.mp c159
                  refine lv_aload_n hx hb dX1_takeStep_127 rfl (lv_at hl 3 rfl) ?_
                  refine lv_aload_n hx hb dX1_takeStep_128 rfl (lv_at hl 3 rfl) ?_
                  refine tk_Vl hC hK hw hT hA hE hSR kC_at152 (by decide) rfl (k_X9_dayNow_2 l adK adV dC dI cy ad B (by omega) (by omega) qr s1    w85 H.size hT ) (cwV 0 hC.2.2.2.2 uV_RX1_68 rfl rfl rfl (by decide +kernel) ⟨Nat.le_of_ble_eq_true rfl, Nat.le_of_ble_eq_true rfl⟩) rfl hl.1 rfl (Nat.le_of_ble_eq_true rfl) dX1_takeStep_129 (fun r160 w162 H locs hp161 hw => ?_)
                  obtain ⟨hT, k163, hg166⟩ := hp161
                  have hF := hF.tr k163 (by decide)
                  have c167 := k163.gi kC_at152 (by decide) c92
                  have c168 := k163.gi (kC_el39 kC_at4 hj68) (by decide) c93
                  have c169 := k163.gi kC_at149 (by decide) c94
                  have c170 := k163.gi kC_at149 (by decide) c95
                  obtain ⟨g164, g165⟩ := hg166
                  refine tk_putl hC hK hw hT hinX9 tyX9_ok nmX9 kC_at152 (by decide) rfl rfl 8 (by decide) (List.mem_cons_of_mem _ uw_42_8) rfl rfl rfl rfl (wk_i64 r160).1 (wk_i64 r160).2 dX1_takeStep_132 (fun H locs w171 hw hT k173 c172 => ?_)
                  have hF := hF.put kC_at152 (k := 8) (by decide) k173
                  have c174 := k173.gi (Or.inr (by decide)) c167
                  have c175 := k173.gi (Or.inr (by decide)) c168
                  have c176 := k173.gi (Or.inr (by decide)) c169
                  have c177 := k173.gi (Or.inl (tk_ne kC_at149 kC_at152 (by decide))) c170
                  refine lv_aload_n hx hb dX1_takeStep_135 rfl (lv_at hl 3 rfl) ?_
                  refine lv_dup hx hb dX1_takeStep_136 rfl ?_
                  refine tk_geti hC hK hw hT hinX9 kC_at152 (by decide) rfl 6 (by decide) (List.mem_cons_of_mem _ uw_42_9) rfl rfl dX1_takeStep_137 (fun x178 c179 rx178 tx178 => ?_)
                  refine lv_iconst (v := 1) hx hb dX1_takeStep_140 (by decide) ?_
                  refine lv_iadd hx hb dX1_takeStep_141 ?_
                  have nx180 := wk_i32 x178
                  refine lv_topi (fun x181 ex181 => ?_)
                  refine tk_puti hC hK hw hT hinX9 tyX9_ok nmX9 kC_at152 (by decide) rfl rfl 6 (by decide) (List.mem_cons_of_mem _ uw_42_9) rfl rfl rfl rfl (wk_i32 x181).1 (wk_i32 x181).2 dX1_takeStep_142 (fun H locs w182 hw hT k184 c183 => ?_)
                  have hF := hF.put kC_at152 (k := 6) (by decide) k184
                  have c185 := k184.gi (Or.inr (by decide)) c174
                  have c186 := k184.gi (Or.inr (by decide)) c175
                  have c187 := k184.gi (Or.inr (by decide)) c176
                  have c188 := k184.gi (Or.inr (by decide)) c177
                  have c189 := k184.gl (Or.inr (by decide)) c172
                  exact J145 r83 x78 x60 H locs ls w182 (show 0 ≤ x78.toInt by omega) (show x78.toInt ≤ 999999 by omega)  hw hT hF c188 c185 (lv_sub hl [2, 3, 0] rfl)
              · have c158 : r83.toInt = (1 : Int) := wk_eq.mp c158
                refine lv_aload_n hx hb dX1_takeStep_110 rfl (lv_at hl 2 rfl) ?_
                refine lv_aload_n hx hb dX1_takeStep_111 rfl (lv_at hl 3 rfl) ?_
                refine lv_aload_n hx hb dX1_takeStep_112 rfl (lv_at hl 2 rfl) ?_
                refine tk_geti hC hK hw hT hinX1 kC_at149 (by decide) rfl 7 (by decide) (List.mem_cons_of_mem _ uw_42_7) rfl rfl dX1_takeStep_113 (fun x190 c191 rx190 tx190 => ?_)
                refine wk_top x76 (c191.symm.trans c94) ?_
                obtain rfl : x76 = (-1) := wk_eq.mpr (show x76.toInt = (-1) by omega)
                refine tk_Vv hC hK hw hT hA hE hSR kC_at149 (by decide) rfl (k_X1_follow_4 l adK adV dC dI cy ad B (by omega) (by omega) qr s1    w85 H.size hT ) (cwV 2 hC.2.2.2.2 uV_RX1_61 rfl rfl rfl (by decide +kernel) ⟨Nat.le_of_ble_eq_true rfl, Nat.le_of_ble_eq_true rfl⟩) rfl hl.1 rfl (Nat.le_of_ble_eq_true rfl) dX1_takeStep_116 (fun w194 H locs hp193 hw => ?_)
                obtain ⟨hT, k195, hg196⟩ := hp193
                have hF := hF.tr k195 (by decide)
                have c197 := k195.gi kC_at152 (by decide) c92
                have c198 := k195.gi (kC_el39 kC_at4 hj68) (by decide) c93
                have c199 := k195.gi kC_at149 (by decide) c94
                have c200 := k195.gi kC_at149 (by decide) c95
                clear hg196
                refine lv_goto (tgt := 155) hx hb dX1_takeStep_119 (by decide) ?_
                exact J155 r83 x78 x60 H locs ls w194 (show 0 ≤ x78.toInt by omega) (show x78.toInt ≤ 999999 by omega)  hw (hT.up (show B ≤ (B + 9) by omega)) hF c200 c197 (lv_sub hl [2, 3, 0] rfl)
            · have c157 : r83.toInt = (0 : Int) := wk_eq.mp c157
              refine lv_aload_n hx hb dX1_takeStep_93 rfl (lv_at hl 2 rfl) ?_
              refine lv_aload_n hx hb dX1_takeStep_94 rfl (lv_at hl 3 rfl) ?_
              refine lv_aload_n hx hb dX1_takeStep_95 rfl (lv_at hl 2 rfl) ?_
              refine tk_geti hC hK hw hT hinX1 kC_at149 (by decide) rfl 5 (by decide) (List.mem_cons_of_mem _ uw_42_6) rfl rfl dX1_takeStep_96 (fun x201 c202 rx201 tx201 => ?_)
              refine tk_Vv hC hK hw hT hA hE hSR kC_at149 (by decide) rfl (k_X1_follow_3 l adK adV dC dI cy ad B (by omega) (by omega) qr s1   x201 (show (-1) ≤ x201.toInt from rx201) (show x201.toInt ≤ 11 from tx201) w85 H.size hT ) (cwV 2 hC.2.2.2.2 uV_RX1_61 rfl rfl rfl (by decide +kernel) ⟨Nat.le_of_ble_eq_true rfl, Nat.le_of_ble_eq_true rfl⟩) rfl hl.1 rfl (Nat.le_of_ble_eq_true rfl) dX1_takeStep_99 (fun w205 H locs hp204 hw => ?_)
              obtain ⟨hT, k206, hg207⟩ := hp204
              have hF := hF.tr k206 (by decide)
              have c208 := k206.gi kC_at152 (by decide) c92
              have c209 := k206.gi (kC_el39 kC_at4 hj68) (by decide) c93
              have c210 := k206.gi kC_at149 (by decide) c94
              have c211 := k206.gi kC_at149 (by decide) c95
              have c212 := k206.gi kC_at149 (by decide) c202
              clear hg207
              refine lv_goto (tgt := 155) hx hb dX1_takeStep_102 (by decide) ?_
              exact J155 r83 x78 x60 H locs ls w205 (show 0 ≤ x78.toInt by omega) (show x78.toInt ≤ 999999 by omega)  hw hT hF c211 c208 (lv_sub hl [2, 3, 0] rfl)
        · have c71 : ¬ x69.toInt = (0 : Int) := wk_eqF c71
          refine lv_iconst (v := 1) hx hb dX1_takeStep_55 (by decide) ?_
          refine lv_goto (tgt := 60) hx hb dX1_takeStep_56 (by decide) ?_
          refine tk_Vv hC hK hw hT hA hE hSR kC_at149 (by decide) rfl (k_X1_lookAround_4 l adK adV dC dI cy ad B (by omega) (by omega) qr s1    w57 H.size hT ) (cwV 2 hC.2.2.2.2 uV_RX1_47 rfl rfl rfl (by decide +kernel) ⟨Nat.le_of_ble_eq_true rfl, Nat.le_of_ble_eq_true rfl⟩) rfl hl.1 rfl (Nat.le_of_ble_eq_true rfl) dX1_takeStep_60 (fun w215 H locs hp214 hw => ?_)
          obtain ⟨hT, k216, hg219⟩ := hp214
          have hF := hF.tr k216 (by decide)
          have c220 := k216.gi kC_at152 (by decide) c61
          have c221 := k216.gi (kC_el39 kC_at4 hj68) (by decide) c70
          obtain ⟨x217, c218, rx217, tx217⟩ := hg219
          refine lv_aload_n hx hb dX1_takeStep_63 rfl (lv_at hl 0 rfl) ?_
          refine lv_ifnull hx hb dX1_takeStep_64 ?_
          refine lv_aload_n hx hb dX1_takeStep_67 rfl (lv_at hl 1 rfl) ?_
          refine lv_aload_n hx hb dX1_takeStep_68 rfl (lv_at hl 2 rfl) ?_
          refine lv_aload_n hx hb dX1_takeStep_69 rfl (lv_at hl 0 rfl) ?_
          refine tk_Vi hC hK hw hT hA hE hSR kC_at149 (by decide) rfl (k_X1_chooseDeed_2 l adK adV dC dI cy ad B (by omega) (by omega) qr s1   (el 39 4 j68) (kC_el39 kC_at4 hj68) w215 H.size hT ) (cwV 2 hC.2.2.2.2 uV_RX1_51 rfl rfl rfl (by decide +kernel) ⟨Nat.le_of_ble_eq_true rfl, Nat.le_of_ble_eq_true rfl⟩) rfl hl.1 rfl (Nat.le_of_ble_eq_true rfl) dX1_takeStep_70 (fun r222 w224 H locs hp223 hw => ?_)
          obtain ⟨hT, k225, hg230⟩ := hp223
          have hF := hF.tr k225 (by decide)
          have c231 := k225.gi kC_at152 (by decide) c220
          have c232 := k225.gi (kC_el39 kC_at4 hj68) (by decide) c221
          have c233 := k225.gi kC_at149 (by decide) c218
          rcases hg230 with ⟨x226, c227, rx226, tx226⟩ | ⟨g228, g229⟩
          · refine lv_goto (tgt := 88) hx hb dX1_takeStep_73 (by decide) ?_
            refine lv_istore_n (lv' := [(3, .int r222), (2, .ref (ad (el 39 4 j68))), (0, .ref (ad 149)), (1, .ref (ad 152))]) hx hb dX1_takeStep_88 rfl hl (by decide) rfl (fun ls hl => ?_)
            refine lv_iload_n hx hb dX1_takeStep_89 rfl (lv_at hl 0 rfl) ?_
            refine lv_if_ne (tgt := 105) hx hb dX1_takeStep_90 (by decide) (fun c234 => ?_) (fun c234 => ?_)
            · have c234 : ¬ r222.toInt = (0 : Int) := wk_eqF c234
              refine lv_iload_n hx hb dX1_takeStep_105 rfl (lv_at hl 0 rfl) ?_
              refine lv_iconst (v := 1) hx hb dX1_takeStep_106 (by decide) ?_
              refine lv_icmp_ne (tgt := 122) hx hb dX1_takeStep_107 (by decide) (fun c235 => ?_) (fun c235 => ?_)
              · have c235 : ¬ r222.toInt = (1 : Int) := wk_eqF c235
                refine lv_iload_n hx hb dX1_takeStep_122 rfl (lv_at hl 0 rfl) ?_
                refine lv_iconst (v := 2) hx hb dX1_takeStep_123 (by decide) ?_
                refine lv_icmp_ne (tgt := 145) hx hb dX1_takeStep_124 (by decide) (fun c236 => ?_) (fun c236 => ?_)
                · have c236 : ¬ r222.toInt = (2 : Int) := wk_eqF c236
                  exact J145 r222 x217 x60 H locs ls w224 (show 0 ≤ x217.toInt by omega) (show x217.toInt ≤ 999999 by omega)  hw hT hF c233 c231 (lv_sub hl [2, 3, 0] rfl)
                · have c236 : r222.toInt = (2 : Int) := wk_eq.mp c236
                  refine lv_aload_n hx hb dX1_takeStep_127 rfl (lv_at hl 3 rfl) ?_
                  refine lv_aload_n hx hb dX1_takeStep_128 rfl (lv_at hl 3 rfl) ?_
                  refine tk_Vl hC hK hw hT hA hE hSR kC_at152 (by decide) rfl (k_X9_dayNow_2 l adK adV dC dI cy ad B (by omega) (by omega) qr s1    w224 H.size hT ) (cwV 0 hC.2.2.2.2 uV_RX1_68 rfl rfl rfl (by decide +kernel) ⟨Nat.le_of_ble_eq_true rfl, Nat.le_of_ble_eq_true rfl⟩) rfl hl.1 rfl (Nat.le_of_ble_eq_true rfl) dX1_takeStep_129 (fun r237 w239 H locs hp238 hw => ?_)
                  obtain ⟨hT, k240, hg243⟩ := hp238
                  have hF := hF.tr k240 (by decide)
                  have c244 := k240.gi kC_at152 (by decide) c231
                  have c245 := k240.gi (kC_el39 kC_at4 hj68) (by decide) c232
                  have c246 := k240.gi kC_at149 (by decide) c233
                  have c247 := k240.gi (kC_el39 kC_at4 hj68) (by decide) c227
                  obtain ⟨g241, g242⟩ := hg243
                  refine tk_putl hC hK hw hT hinX9 tyX9_ok nmX9 kC_at152 (by decide) rfl rfl 8 (by decide) (List.mem_cons_of_mem _ uw_42_8) rfl rfl rfl rfl (wk_i64 r237).1 (wk_i64 r237).2 dX1_takeStep_132 (fun H locs w248 hw hT k250 c249 => ?_)
                  have hF := hF.put kC_at152 (k := 8) (by decide) k250
                  have c251 := k250.gi (Or.inr (by decide)) c244
                  have c252 := k250.gi (Or.inr (by decide)) c245
                  have c253 := k250.gi (Or.inl (tk_ne kC_at149 kC_at152 (by decide))) c246
                  have c254 := k250.gi (Or.inr (by decide)) c247
                  refine lv_aload_n hx hb dX1_takeStep_135 rfl (lv_at hl 3 rfl) ?_
                  refine lv_dup hx hb dX1_takeStep_136 rfl ?_
                  refine tk_geti hC hK hw hT hinX9 kC_at152 (by decide) rfl 6 (by decide) (List.mem_cons_of_mem _ uw_42_9) rfl rfl dX1_takeStep_137 (fun x255 c256 rx255 tx255 => ?_)
                  refine lv_iconst (v := 1) hx hb dX1_takeStep_140 (by decide) ?_
                  refine lv_iadd hx hb dX1_takeStep_141 ?_
                  have nx257 := wk_i32 x255
                  refine lv_topi (fun x258 ex258 => ?_)
                  refine tk_puti hC hK hw hT hinX9 tyX9_ok nmX9 kC_at152 (by decide) rfl rfl 6 (by decide) (List.mem_cons_of_mem _ uw_42_9) rfl rfl rfl rfl (wk_i32 x258).1 (wk_i32 x258).2 dX1_takeStep_142 (fun H locs w259 hw hT k261 c260 => ?_)
                  have hF := hF.put kC_at152 (k := 6) (by decide) k261
                  have c262 := k261.gi (Or.inr (by decide)) c251
                  have c263 := k261.gi (Or.inr (by decide)) c252
                  have c264 := k261.gi (Or.inr (by decide)) c253
                  have c265 := k261.gi (Or.inr (by decide)) c254
                  have c266 := k261.gl (Or.inr (by decide)) c249
                  exact J145 r222 x217 x60 H locs ls w259 (show 0 ≤ x217.toInt by omega) (show x217.toInt ≤ 999999 by omega)  hw hT hF c264 c262 (lv_sub hl [2, 3, 0] rfl)
              · have c235 : r222.toInt = (1 : Int) := wk_eq.mp c235
                refine lv_aload_n hx hb dX1_takeStep_110 rfl (lv_at hl 2 rfl) ?_
                refine lv_aload_n hx hb dX1_takeStep_111 rfl (lv_at hl 3 rfl) ?_
                refine lv_aload_n hx hb dX1_takeStep_112 rfl (lv_at hl 2 rfl) ?_
                refine tk_geti hC hK hw hT hinX1 kC_at149 (by decide) rfl 7 (by decide) (List.mem_cons_of_mem _ uw_42_7) rfl rfl dX1_takeStep_113 (fun x267 c268 rx267 tx267 => ?_)
                refine tk_Vv hC hK hw hT hA hE hSR kC_at149 (by decide) rfl (k_X1_follow_3 l adK adV dC dI cy ad B (by omega) (by omega) qr s1   x267 (show (-1) ≤ x267.toInt from rx267) (show x267.toInt ≤ 11 from tx267) w224 H.size hT ) (cwV 2 hC.2.2.2.2 uV_RX1_61 rfl rfl rfl (by decide +kernel) ⟨Nat.le_of_ble_eq_true rfl, Nat.le_of_ble_eq_true rfl⟩) rfl hl.1 rfl (Nat.le_of_ble_eq_true rfl) dX1_takeStep_116 (fun w271 H locs hp270 hw => ?_)
                obtain ⟨hT, k272, hg273⟩ := hp270
                have hF := hF.tr k272 (by decide)
                have c274 := k272.gi kC_at152 (by decide) c231
                have c275 := k272.gi (kC_el39 kC_at4 hj68) (by decide) c232
                have c276 := k272.gi kC_at149 (by decide) c233
                have c277 := k272.gi (kC_el39 kC_at4 hj68) (by decide) c227
                have c278 := k272.gi kC_at149 (by decide) c268
                clear hg273
                refine lv_goto (tgt := 155) hx hb dX1_takeStep_119 (by decide) ?_
                exact J155 r222 x217 x60 H locs ls w271 (show 0 ≤ x217.toInt by omega) (show x217.toInt ≤ 999999 by omega)  hw hT hF c276 c274 (lv_sub hl [2, 3, 0] rfl)
            · have c234 : r222.toInt = (0 : Int) := wk_eq.mp c234
              refine lv_aload_n hx hb dX1_takeStep_93 rfl (lv_at hl 2 rfl) ?_
              refine lv_aload_n hx hb dX1_takeStep_94 rfl (lv_at hl 3 rfl) ?_
              refine lv_aload_n hx hb dX1_takeStep_95 rfl (lv_at hl 2 rfl) ?_
              refine tk_geti hC hK hw hT hinX1 kC_at149 (by decide) rfl 5 (by decide) (List.mem_cons_of_mem _ uw_42_6) rfl rfl dX1_takeStep_96 (fun x279 c280 rx279 tx279 => ?_)
              refine tk_Vv hC hK hw hT hA hE hSR kC_at149 (by decide) rfl (k_X1_follow_3 l adK adV dC dI cy ad B (by omega) (by omega) qr s1   x279 (show (-1) ≤ x279.toInt from rx279) (show x279.toInt ≤ 11 from tx279) w224 H.size hT ) (cwV 2 hC.2.2.2.2 uV_RX1_61 rfl rfl rfl (by decide +kernel) ⟨Nat.le_of_ble_eq_true rfl, Nat.le_of_ble_eq_true rfl⟩) rfl hl.1 rfl (Nat.le_of_ble_eq_true rfl) dX1_takeStep_99 (fun w283 H locs hp282 hw => ?_)
              obtain ⟨hT, k284, hg285⟩ := hp282
              have hF := hF.tr k284 (by decide)
              have c286 := k284.gi kC_at152 (by decide) c231
              have c287 := k284.gi (kC_el39 kC_at4 hj68) (by decide) c232
              have c288 := k284.gi kC_at149 (by decide) c233
              have c289 := k284.gi (kC_el39 kC_at4 hj68) (by decide) c227
              have c290 := k284.gi kC_at149 (by decide) c280
              clear hg285
              refine lv_goto (tgt := 155) hx hb dX1_takeStep_102 (by decide) ?_
              exact J155 r222 x217 x60 H locs ls w283 (show 0 ≤ x217.toInt by omega) (show x217.toInt ≤ 999999 by omega)  hw hT hF c288 c286 (lv_sub hl [2, 3, 0] rfl)
          · refine lv_goto (tgt := 88) hx hb dX1_takeStep_73 (by decide) ?_
            refine lv_istore_n (lv' := [(3, .int r222), (2, .ref (ad (el 39 4 j68))), (0, .ref (ad 149)), (1, .ref (ad 152))]) hx hb dX1_takeStep_88 rfl hl (by decide) rfl (fun ls hl => ?_)
            refine lv_iload_n hx hb dX1_takeStep_89 rfl (lv_at hl 0 rfl) ?_
            refine lv_if_ne (tgt := 105) hx hb dX1_takeStep_90 (by decide) (fun c291 => ?_) (fun c291 => ?_)
            · have c291 : ¬ r222.toInt = (0 : Int) := wk_eqF c291
              refine lv_iload_n hx hb dX1_takeStep_105 rfl (lv_at hl 0 rfl) ?_
              refine lv_iconst (v := 1) hx hb dX1_takeStep_106 (by decide) ?_
              refine lv_icmp_ne (tgt := 122) hx hb dX1_takeStep_107 (by decide) (fun c292 => ?_) (fun c292 => ?_)
              · have c292 : ¬ r222.toInt = (1 : Int) := wk_eqF c292
                refine lv_iload_n hx hb dX1_takeStep_122 rfl (lv_at hl 0 rfl) ?_
                refine lv_iconst (v := 2) hx hb dX1_takeStep_123 (by decide) ?_
                refine lv_icmp_ne (tgt := 145) hx hb dX1_takeStep_124 (by decide) (fun c293 => ?_) (fun c293 => ?_)
                · have c293 : ¬ r222.toInt = (2 : Int) := wk_eqF c293
                  exact J145 r222 x217 x60 H locs ls w224 (show 0 ≤ x217.toInt by omega) (show x217.toInt ≤ 999999 by omega)  hw hT hF c233 c231 (lv_sub hl [2, 3, 0] rfl)
                · have c293 : r222.toInt = (2 : Int) := wk_eq.mp c293
                  refine lv_aload_n hx hb dX1_takeStep_127 rfl (lv_at hl 3 rfl) ?_
                  refine lv_aload_n hx hb dX1_takeStep_128 rfl (lv_at hl 3 rfl) ?_
                  refine tk_Vl hC hK hw hT hA hE hSR kC_at152 (by decide) rfl (k_X9_dayNow_2 l adK adV dC dI cy ad B (by omega) (by omega) qr s1    w224 H.size hT ) (cwV 0 hC.2.2.2.2 uV_RX1_68 rfl rfl rfl (by decide +kernel) ⟨Nat.le_of_ble_eq_true rfl, Nat.le_of_ble_eq_true rfl⟩) rfl hl.1 rfl (Nat.le_of_ble_eq_true rfl) dX1_takeStep_129 (fun r294 w296 H locs hp295 hw => ?_)
                  obtain ⟨hT, k297, hg300⟩ := hp295
                  have hF := hF.tr k297 (by decide)
                  have c301 := k297.gi kC_at152 (by decide) c231
                  have c302 := k297.gi (kC_el39 kC_at4 hj68) (by decide) c232
                  have c303 := k297.gi kC_at149 (by decide) c233
                  obtain ⟨g298, g299⟩ := hg300
                  refine tk_putl hC hK hw hT hinX9 tyX9_ok nmX9 kC_at152 (by decide) rfl rfl 8 (by decide) (List.mem_cons_of_mem _ uw_42_8) rfl rfl rfl rfl (wk_i64 r294).1 (wk_i64 r294).2 dX1_takeStep_132 (fun H locs w304 hw hT k306 c305 => ?_)
                  have hF := hF.put kC_at152 (k := 8) (by decide) k306
                  have c307 := k306.gi (Or.inr (by decide)) c301
                  have c308 := k306.gi (Or.inr (by decide)) c302
                  have c309 := k306.gi (Or.inl (tk_ne kC_at149 kC_at152 (by decide))) c303
                  refine lv_aload_n hx hb dX1_takeStep_135 rfl (lv_at hl 3 rfl) ?_
                  refine lv_dup hx hb dX1_takeStep_136 rfl ?_
                  refine tk_geti hC hK hw hT hinX9 kC_at152 (by decide) rfl 6 (by decide) (List.mem_cons_of_mem _ uw_42_9) rfl rfl dX1_takeStep_137 (fun x310 c311 rx310 tx310 => ?_)
                  refine lv_iconst (v := 1) hx hb dX1_takeStep_140 (by decide) ?_
                  refine lv_iadd hx hb dX1_takeStep_141 ?_
                  have nx312 := wk_i32 x310
                  refine lv_topi (fun x313 ex313 => ?_)
                  refine tk_puti hC hK hw hT hinX9 tyX9_ok nmX9 kC_at152 (by decide) rfl rfl 6 (by decide) (List.mem_cons_of_mem _ uw_42_9) rfl rfl rfl rfl (wk_i32 x313).1 (wk_i32 x313).2 dX1_takeStep_142 (fun H locs w314 hw hT k316 c315 => ?_)
                  have hF := hF.put kC_at152 (k := 6) (by decide) k316
                  have c317 := k316.gi (Or.inr (by decide)) c307
                  have c318 := k316.gi (Or.inr (by decide)) c308
                  have c319 := k316.gi (Or.inr (by decide)) c309
                  have c320 := k316.gl (Or.inr (by decide)) c305
                  exact J145 r222 x217 x60 H locs ls w314 (show 0 ≤ x217.toInt by omega) (show x217.toInt ≤ 999999 by omega)  hw hT hF c319 c317 (lv_sub hl [2, 3, 0] rfl)
              · have c292 : r222.toInt = (1 : Int) := wk_eq.mp c292
                refine lv_aload_n hx hb dX1_takeStep_110 rfl (lv_at hl 2 rfl) ?_
                refine lv_aload_n hx hb dX1_takeStep_111 rfl (lv_at hl 3 rfl) ?_
                refine lv_aload_n hx hb dX1_takeStep_112 rfl (lv_at hl 2 rfl) ?_
                refine tk_geti hC hK hw hT hinX1 kC_at149 (by decide) rfl 7 (by decide) (List.mem_cons_of_mem _ uw_42_7) rfl rfl dX1_takeStep_113 (fun x321 c322 rx321 tx321 => ?_)
                refine tk_Vv hC hK hw hT hA hE hSR kC_at149 (by decide) rfl (k_X1_follow_3 l adK adV dC dI cy ad B (by omega) (by omega) qr s1   x321 (show (-1) ≤ x321.toInt from rx321) (show x321.toInt ≤ 11 from tx321) w224 H.size hT ) (cwV 2 hC.2.2.2.2 uV_RX1_61 rfl rfl rfl (by decide +kernel) ⟨Nat.le_of_ble_eq_true rfl, Nat.le_of_ble_eq_true rfl⟩) rfl hl.1 rfl (Nat.le_of_ble_eq_true rfl) dX1_takeStep_116 (fun w325 H locs hp324 hw => ?_)
                obtain ⟨hT, k326, hg327⟩ := hp324
                have hF := hF.tr k326 (by decide)
                have c328 := k326.gi kC_at152 (by decide) c231
                have c329 := k326.gi (kC_el39 kC_at4 hj68) (by decide) c232
                have c330 := k326.gi kC_at149 (by decide) c233
                have c331 := k326.gi kC_at149 (by decide) c322
                clear hg327
                refine lv_goto (tgt := 155) hx hb dX1_takeStep_119 (by decide) ?_
                exact J155 r222 x217 x60 H locs ls w325 (show 0 ≤ x217.toInt by omega) (show x217.toInt ≤ 999999 by omega)  hw hT hF c330 c328 (lv_sub hl [2, 3, 0] rfl)
            · have c291 : r222.toInt = (0 : Int) := wk_eq.mp c291
              refine lv_aload_n hx hb dX1_takeStep_93 rfl (lv_at hl 2 rfl) ?_
              refine lv_aload_n hx hb dX1_takeStep_94 rfl (lv_at hl 3 rfl) ?_
              refine lv_aload_n hx hb dX1_takeStep_95 rfl (lv_at hl 2 rfl) ?_
              refine tk_geti hC hK hw hT hinX1 kC_at149 (by decide) rfl 5 (by decide) (List.mem_cons_of_mem _ uw_42_6) rfl rfl dX1_takeStep_96 (fun x332 c333 rx332 tx332 => ?_)
              refine tk_Vv hC hK hw hT hA hE hSR kC_at149 (by decide) rfl (k_X1_follow_3 l adK adV dC dI cy ad B (by omega) (by omega) qr s1   x332 (show (-1) ≤ x332.toInt from rx332) (show x332.toInt ≤ 11 from tx332) w224 H.size hT ) (cwV 2 hC.2.2.2.2 uV_RX1_61 rfl rfl rfl (by decide +kernel) ⟨Nat.le_of_ble_eq_true rfl, Nat.le_of_ble_eq_true rfl⟩) rfl hl.1 rfl (Nat.le_of_ble_eq_true rfl) dX1_takeStep_99 (fun w336 H locs hp335 hw => ?_)
              obtain ⟨hT, k337, hg338⟩ := hp335
              have hF := hF.tr k337 (by decide)
              have c339 := k337.gi kC_at152 (by decide) c231
              have c340 := k337.gi (kC_el39 kC_at4 hj68) (by decide) c232
              have c341 := k337.gi kC_at149 (by decide) c233
              have c342 := k337.gi kC_at149 (by decide) c333
              clear hg338
              refine lv_goto (tgt := 155) hx hb dX1_takeStep_102 (by decide) ?_
              exact J155 r222 x217 x60 H locs ls w336 (show 0 ≤ x217.toInt by omega) (show x217.toInt ≤ 999999 by omega)  hw hT hF c341 c339 (lv_sub hl [2, 3, 0] rfl)
  · refine lv_if_eq (tgt := 9) hx hb dX1_takeStep_4 (by decide) (fun c => absurd c (by decide)) (fun _ => ?_)
    refine lv_iconst (v := 4) hx hb dX1_takeStep_7 (by decide) ?_
    exact tk_iret hC hr hlocks hK ⟨(hT.up (show B ≤ (B + 9) by omega)), hF, (Or.inr rfl)⟩ hw dX1_takeStep_8
abbrev P_X1_takeSteps_2 (ad : Nat → Nat) (cy : Nat → ClassId) (B : Int) (qr : Nat) (s1 : Int) (a2 : Int32) (w0 : va_W) : Int32 → va_W → Prop := fun r u => TW ksC ad cy (B + 3600) qr s1 u ∧ FE ksC [(1, 4, 4), (1, 5, 5), (1, 6, 6), (1, 7, 7), (1, 8, 8), (9, 0, 0), (9, 4, 4), (9, 5, 5), (9, 6, 6), (9, 7, 7), (9, 8, 8), (45, 0, 64)] w0 u ∧ ((0 ≤ r.toInt ∧ r.toInt ≤ 400))
set_option maxHeartbeats 4000000 in
set_option maxRecDepth 100000 in
theorem k_X1_takeSteps_2 (l : Launch) (adK adV : Nat → Nat) (dC : Nat → ClassId) (dI : Nat → Nat → Nat) (cy : Nat → ClassId) (ad : Nat → Nat) (B : Int) (hB0 : 2147483648 ≤ B) (hB1 : B ≤ 1152921504606843385) (qr : Nat) (s1 : Int)  (a2 : Int32) (ra2 : 0 ≤ a2.toInt) (ta2 : a2.toInt ≤ 400) (w0 : va_W) (sz : Nat) (hT : TW ksC ad cy B qr s1 w0)  : Met l yX1_takeSteps (wu yX1_takeSteps cX1_takeSteps 4 (some .int)) ({ frames := 6, cells := 0, slots := 0, locals := 135 }) (va_Pc [.ref (ad 149), .ref (ad 152), .int a2] (wpreS adK adV dC dI cy sz w0)) (va_Qi (P_X1_takeSteps_2 ad cy B qr s1 a2 w0) (fun u : va_W => wpost dC dI cy (va_A w0 sz) u) (va_A w0 sz)) 0 0 (va_A w0 sz) := by
  refine Met.ofW (cc := cX1_takeSteps) (maxL := 4) (ret := (some .int)) (by decide) rfl ?_
  intro p e s m args below meth c s₁ Bk hml hv
  obtain ⟨rfl, ⟨hsz, hP, hK, hD0⟩, hE, hSR⟩ := hv
  have hx := Bk.exec
  have hb := Bk.bytes
  have hr := Bk.returns
  have hlocks := Bk.notSynchronized
  have hC : CallFix p m c cX1_takeSteps 4 s _ (wu yX1_takeSteps cX1_takeSteps 4 (some .int)) RX1 := ⟨hx, hb, hml, findClass_of_methodNamed Bk.named, atoms_spec (ws := (wu yX1_takeSteps cX1_takeSteps 4 (some .int))) Bk.pre⟩
  subst hsz
  have hD := hD0.self (sz := s.heap.size)
  generalize hAe : va_A w0 s.heap.size = A at hD hE ⊢
  have hA : ∀ q : Nat, s.heap.size ≤ q → A q := fun q h => by rw [← hAe]; exact Or.inr h
  have hw : Wd dC dI A s.heap s.heap [] w0 := ⟨hP, hD, va_S.rf⟩
  have hF : FE ksC [(1, 4, 4), (1, 5, 5), (1, 6, 6), (1, 7, 7), (1, 8, 8), (9, 0, 0), (9, 4, 4), (9, 5, 5), (9, 6, 6), (9, 7, 7), (9, 8, 8), (45, 0, 64)] w0 w0 := FE.rf
  have hl := lv_entry ([.ref (ad 149), .ref (ad 152), .int a2]) (n := 4) (Nat.le_of_ble_eq_true rfl)
  rw [lg_entry_eq]
  generalize (lg_sl ([.ref (ad 149), .ref (ad 152), .int a2]) ++ List.replicate (4 - (lg_sl ([.ref (ad 149), .ref (ad 152), .int a2])).length) Slot.unset).toArray = ls at hl ⊢
  have hl : lv_has ls 4 [(0, .ref (ad 149)), (1, .ref (ad 152)), (2, .int a2)] := hl
  generalize hloc : ([] : List Loc) = locs at hw ⊢
  have L2 : ∀ (n2 : Nat) (v2_3 : Int32) (H : Heap) (locs : List Loc) (ls : Array Slot) (w1 : va_W), 0 ≤ a2.toInt → a2.toInt ≤ 400 → 0 ≤ v2_3.toInt → v2_3.toInt ≤ 400 → (400 - v2_3.toInt).toNat < n2 → Wd dC dI A s.heap H locs w1 → TW ksC ad cy (B + 0 + 9 * v2_3.toInt) qr s1 w1 → FE ksC [(1, 4, 4), (1, 5, 5), (1, 6, 6), (1, 7, 7), (1, 8, 8), (9, 0, 0), (9, 4, 4), (9, 5, 5), (9, 6, 6), (9, 7, 7), (9, 8, 8), (45, 0, 64)] w0 w1 → lv_has ls 4 [(0, .ref (ad 149)), (1, .ref (ad 152)), (2, .int a2), (3, .int v2_3)] → W p l e ({ frames := 6, cells := 0, slots := 0, locals := 135 }) s m (List.toArray [.ref (ad 149), .ref (ad 152), .int a2]) below meth c H locs 0 0 (MQ below (va_Qi (P_X1_takeSteps_2 ad cy B qr s1 a2 w0) (fun u : va_W => wpost dC dI cy A u) A) (List.toArray [.ref (ad 149), .ref (ad 152), .int a2]) s 0 0 A) (F0 m 2 ls []) := by
    intro n2
    induction n2 with
    | zero => intro v2_3 H locs ls w1 r2 t3 r4 t5 hm2 hw hT hF hl; omega
    | succ n2 ih2 =>
      intro v2_3 H locs ls w1 r2 t3 r4 t5 hm2 hw hT hF hl
      refine lv_iload_n hx hb dX1_takeSteps_2 rfl (lv_at hl 3 rfl) ?_
      refine lv_iload_n hx hb dX1_takeSteps_3 rfl (lv_at hl 2 rfl) ?_
      refine lv_icmp_ge (tgt := 24) hx hb dX1_takeSteps_4 (by decide) (fun c6 => ?_) (fun c6 => ?_)
      · have c6 : a2.toInt ≤ v2_3.toInt := wk_le.mp c6
        refine lv_iload_n hx hb dX1_takeSteps_24 rfl (lv_at hl 2 rfl) ?_
        exact tk_iret hC hr hlocks hK ⟨(hT.up (show (B + 0 + 9 * v2_3.toInt) ≤ (B + 3600) by omega)), hF, ⟨(show 0 ≤ a2.toInt from r2), (show a2.toInt ≤ 400 from t3)⟩⟩ hw dX1_takeSteps_25
      · have c6 : v2_3.toInt < a2.toInt := wk_leF c6
        refine lv_aload_n hx hb dX1_takeSteps_7 rfl (lv_at hl 0 rfl) ?_
        refine lv_aload_n hx hb dX1_takeSteps_8 rfl (lv_at hl 1 rfl) ?_
        refine tk_Vi hC hK hw hT hA hE hSR kC_at149 (by decide) rfl (k_X1_takeStep_2 l adK adV dC dI cy ad (B + 0 + 9 * v2_3.toInt) (by omega) (by omega) qr s1    w1 H.size hT ) (cwV 1 hC.2.2.2.2 uV_RX1_27 rfl rfl rfl (by decide +kernel) ⟨Nat.le_of_ble_eq_true rfl, Nat.le_of_ble_eq_true rfl⟩) rfl hl.1 rfl (Nat.le_of_ble_eq_true rfl) dX1_takeSteps_9 (fun r7 w9 H locs hp8 hw => ?_)
        obtain ⟨hT, k10, hg13⟩ := hp8
        have hT := hT.up (B' := (B + 9 + 9 * v2_3.toInt)) (by omega)
        have hF := hF.tr k10 (by decide)
        rcases hg13 with ⟨x11, c12, rx11, tx11⟩ | rfl
        · refine lv_iconst (v := 4) hx hb dX1_takeSteps_12 (by decide) ?_
          refine lv_icmp_ne (tgt := 18) hx hb dX1_takeSteps_13 (by decide) (fun c14 => ?_) (fun c14 => ?_)
          · have c14 : ¬ r7.toInt = (4 : Int) := wk_eqF c14
            obtain ⟨x15, ex15⟩ : ∃ y : Int32, y = v2_3 + Int32.ofInt 1 := ⟨_, rfl⟩
            refine lv_iinc (v := x15) (lv' := [(3, .int x15), (0, .ref (ad 149)), (1, .ref (ad 152)), (2, .int a2)]) hx hb dX1_takeSteps_18 hl (k := 3) rfl ex15.symm (by decide) rfl (fun ls hl => ?_)
            have ex15 : x15.toInt = v2_3.toInt + 1 := by rw [ex15]; exact wk_add (y := 1) (show -2147483648 ≤ v2_3.toInt + 1 by omega) (show v2_3.toInt + 1 ≤ 2147483647 by omega)
            refine lv_goto (tgt := 2) hx hb dX1_takeSteps_21 (by decide) ?_
            exact ih2 x15 H locs ls w9 (show 0 ≤ a2.toInt from r2) (show a2.toInt ≤ 400 from t3) (show 0 ≤ x15.toInt by omega) (show x15.toInt ≤ 400 by omega) (show (400 - x15.toInt).toNat < n2 by omega) hw (hT.up (show (B + 9 + 9 * v2_3.toInt) ≤ (B + 0 + 9 * x15.toInt) by omega)) hF  (lv_sub hl [1, 2, 3, 0] rfl)
          · have c14 : r7.toInt = (4 : Int) := wk_eq.mp c14
            refine lv_iload_n hx hb dX1_takeSteps_16 rfl (lv_at hl 3 rfl) ?_
            exact tk_iret hC hr hlocks hK ⟨(hT.up (show (B + 9 + 9 * v2_3.toInt) ≤ (B + 3600) by omega)), hF, ⟨(show 0 ≤ v2_3.toInt from r4), (show v2_3.toInt ≤ 400 from t5)⟩⟩ hw dX1_takeSteps_17
        · refine lv_iconst (v := 4) hx hb dX1_takeSteps_12 (by decide) ?_
          refine lv_icmp_ne (tgt := 18) hx hb dX1_takeSteps_13 (by decide) (fun c => absurd (by decide) c) (fun _ => ?_)
          refine lv_iload_n hx hb dX1_takeSteps_16 rfl (lv_at hl 3 rfl) ?_
          exact tk_iret hC hr hlocks hK ⟨(hT.up (show (B + 9 + 9 * v2_3.toInt) ≤ (B + 3600) by omega)), hF, ⟨(show 0 ≤ v2_3.toInt from r4), (show v2_3.toInt ≤ 400 from t5)⟩⟩ hw dX1_takeSteps_17
  refine lv_iconst (v := 0) hx hb dX1_takeSteps_0 (by decide) ?_
  refine lv_istore_n (lv' := [(3, .int 0), (0, .ref (ad 149)), (1, .ref (ad 152)), (2, .int a2)]) hx hb dX1_takeSteps_1 rfl hl (by decide) rfl (fun ls hl => ?_)
  exact L2 ((400 - (0 : Int)).toNat + 1) 0 s.heap locs ls w0 (show 0 ≤ a2.toInt from ra2) (show a2.toInt ≤ 400 from ta2) (by decide) (by decide) (Nat.lt_succ_self _) hw (hT.up (show B ≤ (B + 0 + 9 * (0 : Int32).toInt) by rw [show (0 : Int32).toInt = 0 by decide]; omega)) hF  (lv_sub hl [1, 2, 3, 0] rfl)
abbrev P_X8_tellComing_1 (ad : Nat → Nat) (cy : Nat → ClassId) (B : Int) (qr : Nat) (s1 : Int) (q1_ : Nat) (a2 : Int32) (a3 : Int32) (w0 : va_W) : Int32 → va_W → Prop := fun r u => TW ksC ad cy (B + 3600) qr s1 u ∧ FE ksC [(1, 4, 4), (1, 5, 5), (1, 6, 6), (1, 7, 7), (1, 8, 8), (9, 0, 0), (9, 1, 1), (9, 2, 2), (9, 3, 3), (9, 4, 4), (9, 5, 5), (9, 6, 6), (9, 7, 7), (9, 8, 8), (45, 0, 64)] w0 u ∧ ((True) ∨ (r = (-2) ∧ a3.toInt ≤ 0) ∨ (0 ≤ r.toInt ∧ r.toInt ≤ 400 ∧ 1 ≤ a3.toInt ∧ a3.toInt ≤ 1))
set_option maxHeartbeats 4000000 in
set_option maxRecDepth 100000 in
theorem k_X8_tellComing_1 (l : Launch) (adK adV : Nat → Nat) (dC : Nat → ClassId) (dI : Nat → Nat → Nat) (cy : Nat → ClassId) (ad : Nat → Nat) (B : Int) (hB0 : 2147483648 ≤ B) (hB1 : B ≤ 1152921504606843376) (qr : Nat) (s1 : Int)  (q1_ : Nat) (hkq1_ : ksC[q1_]? = some 9) (a2 : Int32) (ra2 : 0 ≤ a2.toInt) (ta2 : a2.toInt ≤ 400) (a3 : Int32) (ra3 : 0 ≤ a3.toInt) (ta3 : a3.toInt ≤ 2) (w0 : va_W) (sz : Nat) (hT : TW ksC ad cy B qr s1 w0)  : Met l yX8_tellComing (wu yX8_tellComing cX8_tellComing 5 (some .int)) ({ frames := 7, cells := 0, slots := 0, locals := 158 }) (va_Pc [.ref (ad 151), .ref (ad q1_), .int a2, .int a3] (wpreS adK adV dC dI cy sz w0)) (va_Qi (P_X8_tellComing_1 ad cy B qr s1 q1_ a2 a3 w0) (fun u : va_W => wpost dC dI cy (va_A w0 sz) u) (va_A w0 sz)) 0 0 (va_A w0 sz) := by
  refine Met.ofW (cc := cX8_tellComing) (maxL := 5) (ret := (some .int)) (by decide) rfl ?_
  intro p e s m args below meth c s₁ Bk hml hv
  obtain ⟨rfl, ⟨hsz, hP, hK, hD0⟩, hE, hSR⟩ := hv
  have hx := Bk.exec
  have hb := Bk.bytes
  have hr := Bk.returns
  have hlocks := Bk.notSynchronized
  have hC : CallFix p m c cX8_tellComing 5 s _ (wu yX8_tellComing cX8_tellComing 5 (some .int)) RX8 := ⟨hx, hb, hml, findClass_of_methodNamed Bk.named, atoms_spec (ws := (wu yX8_tellComing cX8_tellComing 5 (some .int))) Bk.pre⟩
  subst hsz
  have hD := hD0.self (sz := s.heap.size)
  generalize hAe : va_A w0 s.heap.size = A at hD hE ⊢
  have hA : ∀ q : Nat, s.heap.size ≤ q → A q := fun q h => by rw [← hAe]; exact Or.inr h
  have hw : Wd dC dI A s.heap s.heap [] w0 := ⟨hP, hD, va_S.rf⟩
  have hF : FE ksC [(1, 4, 4), (1, 5, 5), (1, 6, 6), (1, 7, 7), (1, 8, 8), (9, 0, 0), (9, 1, 1), (9, 2, 2), (9, 3, 3), (9, 4, 4), (9, 5, 5), (9, 6, 6), (9, 7, 7), (9, 8, 8), (45, 0, 64)] w0 w0 := FE.rf
  have hl := lv_entry ([.ref (ad 151), .ref (ad q1_), .int a2, .int a3]) (n := 5) (Nat.le_of_ble_eq_true rfl)
  rw [lg_entry_eq]
  generalize (lg_sl ([.ref (ad 151), .ref (ad q1_), .int a2, .int a3]) ++ List.replicate (5 - (lg_sl ([.ref (ad 151), .ref (ad q1_), .int a2, .int a3])).length) Slot.unset).toArray = ls at hl ⊢
  have hl : lv_has ls 5 [(0, .ref (ad 151)), (1, .ref (ad q1_)), (2, .int a2), (3, .int a3)] := hl
  generalize hloc : ([] : List Loc) = locs at hw ⊢
  have hinX8 : ∀ w ∈ u_ws RX8 TX8 8, w ∈ (wu yX8_tellComing cX8_tellComing 5 (some .int)) := fun _ h => List.mem_cons_of_mem _ (up_79 h)
  have hinX9 : ∀ w ∈ u_ws RX9 TX9 9, w ∈ (wu yX8_tellComing cX8_tellComing 5 (some .int)) := fun _ h => List.mem_cons_of_mem _ (up_82 h)
  refine lv_aload_n hx hb dX8_tellComing_0 rfl (lv_at hl 0 rfl) ?_
  refine tk_getA hC hK hw hT hinX8 kC_at151 (by decide) rfl 3 (by decide) (List.mem_cons_of_mem _ uw_5_8) rfl rfl dX8_tellComing_1 ?_
  refine lv_aload_n hx hb dX8_tellComing_4 rfl (lv_at hl 1 rfl) ?_
  refine tk_Vv hC hK hw hT hA hE hSR kC_at152 (by decide) rfl (k_X9_copyFrom_1 l adK adV dC dI cy ad B (by omega) (by omega) qr s1   q1_ hkq1_ w0 s.heap.size hT ) (cwV 1 hC.2.2.2.2 uV_RX8_37 rfl rfl rfl (by decide +kernel) ⟨Nat.le_of_ble_eq_true rfl, Nat.le_of_ble_eq_true rfl⟩) rfl hl.1 rfl (Nat.le_of_ble_eq_true rfl) dX8_tellComing_5 (fun w3 H locs hp2 hw => ?_)
  obtain ⟨hT, k4, hg5⟩ := hp2
  have hF := hF.tr k4 (by decide)
  clear hg5
  refine lv_aload_n hx hb dX8_tellComing_8 rfl (lv_at hl 0 rfl) ?_
  refine tk_getA hC hK hw hT hinX8 kC_at151 (by decide) rfl 2 (by decide) (List.mem_cons_of_mem _ uw_5_13) rfl rfl dX8_tellComing_9 ?_
  refine lv_aload_n hx hb dX8_tellComing_12 rfl (lv_at hl 0 rfl) ?_
  refine tk_getA hC hK hw hT hinX8 kC_at151 (by decide) rfl 3 (by decide) (List.mem_cons_of_mem _ uw_5_8) rfl rfl dX8_tellComing_13 ?_
  refine lv_iload_n hx hb dX8_tellComing_16 rfl (lv_at hl 2 rfl) ?_
  refine tk_Vi hC hK hw hT hA hE hSR kC_at149 (by decide) rfl (k_X1_takeSteps_2 l adK adV dC dI cy ad B (by omega) (by omega) qr s1   a2 (show 0 ≤ a2.toInt from ra2) (show a2.toInt ≤ 400 from ta2) w3 H.size hT ) (cwV 2 hC.2.2.2.2 uV_RX8_41 rfl rfl rfl (by decide +kernel) ⟨Nat.le_of_ble_eq_true rfl, Nat.le_of_ble_eq_true rfl⟩) rfl hl.1 rfl (Nat.le_of_ble_eq_true rfl) dX8_tellComing_17 (fun r6 w8 H locs hp7 hw => ?_)
  obtain ⟨hT, k9, hg12⟩ := hp7
  have hF := hF.tr k9 (by decide)
  obtain ⟨g10, g11⟩ := hg12
  refine lv_istore (lv' := [(4, .int r6), (0, .ref (ad 151)), (1, .ref (ad q1_)), (2, .int a2), (3, .int a3)]) hx hb dX8_tellComing_20 hl (by decide) rfl (fun ls hl => ?_)
  refine lv_iload_n hx hb dX8_tellComing_22 rfl (lv_at hl 4 rfl) ?_
  refine lv_if_ne (tgt := 50) hx hb dX8_tellComing_23 (by decide) (fun c13 => ?_) (fun c13 => ?_)
  · have c13 : ¬ a3.toInt = (0 : Int) := wk_eqF c13
    refine lv_iload_n hx hb dX8_tellComing_50 rfl (lv_at hl 4 rfl) ?_
    refine lv_iconst (v := 1) hx hb dX8_tellComing_51 (by decide) ?_
    refine lv_icmp_ne (tgt := 60) hx hb dX8_tellComing_52 (by decide) (fun c14 => ?_) (fun c14 => ?_)
    · have c14 : ¬ a3.toInt = (1 : Int) := wk_eqF c14
      refine lv_aload_n hx hb dX8_tellComing_60 rfl (lv_at hl 1 rfl) ?_
      refine tk_getA hC hK hw hT hinX8 kC_at151 (by decide) rfl 3 (by decide) (List.mem_cons_of_mem _ uw_5_8) rfl rfl dX8_tellComing_61 ?_
      refine tk_geti hC hK hw hT hinX9 kC_at152 (by decide) rfl 6 (by decide) (List.mem_cons_of_mem _ uw_53_11) rfl rfl dX8_tellComing_64 (fun x15 c16 rx15 tx15 => ?_)
      refine lv_aload_n hx hb dX8_tellComing_67 rfl (lv_at hl 2 rfl) ?_
      refine tk_geti hC hK hw hT hinX9 hkq1_ (by decide) rfl 6 (by decide) (List.mem_cons_of_mem _ uw_53_11) rfl rfl dX8_tellComing_68 (fun x17 c18 rx17 tx17 => ?_)
      refine lv_isub hx hb dX8_tellComing_71 ?_
      have nx19 := wk_i32 x15
      have nx20 := wk_i32 x17
      refine lv_topi (fun x21 ex21 => ?_)
      exact tk_iret hC hr hlocks hK ⟨hT, hF, (Or.inl trivial)⟩ hw dX8_tellComing_72
    · have c14 : a3.toInt = (1 : Int) := wk_eq.mp c14
      refine lv_iload hx hb dX8_tellComing_55 (lv_at hl 0 rfl) ?_
      refine lv_goto (tgt := 72) hx hb dX8_tellComing_57 (by decide) ?_
      exact tk_iret hC hr hlocks hK ⟨hT, hF, (Or.inr (Or.inr ⟨(show 0 ≤ r6.toInt by omega), (show r6.toInt ≤ 400 by omega), (show 1 ≤ a3.toInt by omega), (show a3.toInt ≤ 1 by omega)⟩))⟩ hw dX8_tellComing_72
  · have c13 : a3.toInt = (0 : Int) := wk_eq.mp c13
    refine lv_aload_n hx hb dX8_tellComing_26 rfl (lv_at hl 1 rfl) ?_
    refine tk_getA hC hK hw hT hinX8 kC_at151 (by decide) rfl 3 (by decide) (List.mem_cons_of_mem _ uw_5_8) rfl rfl dX8_tellComing_27 ?_
    refine tk_Vi hC hK hw hT hA hE hSR kC_at152 (by decide) rfl (k_X9_isAtGoal_2 l adK adV dC dI cy ad (B + 3600) (by omega) (by omega) qr s1    w8 H.size hT ) (cwV 0 hC.2.2.2.2 uV_RX8_47 rfl rfl rfl (by decide +kernel) ⟨Nat.le_of_ble_eq_true rfl, Nat.le_of_ble_eq_true rfl⟩) rfl hl.1 rfl (Nat.le_of_ble_eq_true rfl) dX8_tellComing_30 (fun r22 w24 H locs hp23 hw => ?_)
    obtain ⟨hT, k25, hg26⟩ := hp23
    have hF := hF.tr k25 (by decide)
    rcases hg26 with rfl | rfl
    · refine lv_if_eq (tgt := 47) hx hb dX8_tellComing_33 (by decide) (fun _ => ?_) (fun c => absurd (by decide) c)
      refine lv_bipush (v := (-2)) hx hb dX8_tellComing_47 (by decide) ?_
      exact tk_iret hC hr hlocks hK ⟨hT, hF, (Or.inr (Or.inl ⟨rfl, (show a3.toInt ≤ 0 by omega)⟩))⟩ hw dX8_tellComing_49
    · refine lv_if_eq (tgt := 47) hx hb dX8_tellComing_33 (by decide) (fun c => absurd c (by decide)) (fun _ => ?_)
      refine lv_aload_n hx hb dX8_tellComing_36 rfl (lv_at hl 1 rfl) ?_
      refine tk_getA hC hK hw hT hinX8 kC_at151 (by decide) rfl 3 (by decide) (List.mem_cons_of_mem _ uw_5_8) rfl rfl dX8_tellComing_37 ?_
      refine tk_getB hC hK hw hT hinX9 kC_at152 (by decide) rfl 4 (by decide) (List.mem_cons_of_mem _ uw_53_10) rfl rfl dX8_tellComing_40 (fun x27 c28 rx27 tx27 => ?_)
      refine lv_l2i hx hb dX8_tellComing_43 rfl ?_
      refine lv_topi (fun x29 ex29 => ?_)
      refine lv_goto (tgt := 49) hx hb dX8_tellComing_44 (by decide) ?_
      exact tk_iret hC hr hlocks hK ⟨hT, hF, (Or.inl trivial)⟩ hw dX8_tellComing_49
abbrev P_X11_comes_1 (ad : Nat → Nat) (cy : Nat → ClassId) (B : Int) (qr : Nat) (s1 : Int) (a1 : Int32) (a2 : Int32) (a3 : Int32) (w0 : va_W) : Int32 → va_W → Prop := fun r u => TW ksC ad cy (B + 3600) qr s1 u ∧ FE ksC [(1, 4, 4), (1, 5, 5), (1, 6, 6), (1, 7, 7), (1, 8, 8), (9, 0, 0), (9, 1, 1), (9, 2, 2), (9, 3, 3), (9, 4, 4), (9, 5, 5), (9, 6, 6), (9, 7, 7), (9, 8, 8), (42, 0, 1100), (43, 0, 1100), (44, 0, 11), (45, 0, 64)] w0 u ∧ ((0 ≤ a1.toInt ∧ a1.toInt ≤ 3 ∧ 0 ≤ a2.toInt ∧ a2.toInt ≤ 400 ∧ 0 ≤ a3.toInt ∧ a3.toInt ≤ 2 ∧ (∃ y : Int32, gi u 38 9 = y ∧ 1 ≤ y.toInt ∧ y.toInt ≤ 4)) ∨ (r = (-2) ∧ 0 ≤ a1.toInt ∧ a1.toInt ≤ 3 ∧ 0 ≤ a2.toInt ∧ a2.toInt ≤ 400 ∧ 0 ≤ a3.toInt ∧ a3.toInt ≤ 0 ∧ (∃ y : Int32, gi u 38 9 = y ∧ 1 ≤ y.toInt ∧ y.toInt ≤ 4)) ∨ (0 ≤ r.toInt ∧ r.toInt ≤ 400 ∧ 0 ≤ a1.toInt ∧ a1.toInt ≤ 3 ∧ 0 ≤ a2.toInt ∧ a2.toInt ≤ 400 ∧ 1 ≤ a3.toInt ∧ a3.toInt ≤ 1 ∧ (∃ y : Int32, gi u 38 9 = y ∧ 1 ≤ y.toInt ∧ y.toInt ≤ 4)) ∨ (r = (-1)))
set_option maxHeartbeats 4000000 in
set_option maxRecDepth 100000 in
theorem k_X11_comes_1 (l : Launch) (adK adV : Nat → Nat) (dC : Nat → ClassId) (dI : Nat → Nat → Nat) (cy : Nat → ClassId) (ad : Nat → Nat) (B : Int) (hB0 : 2147483648 ≤ B) (hB1 : B ≤ 1152921504606843376) (qr : Nat) (s1 : Int)  (a1 : Int32) (a2 : Int32) (a3 : Int32) (w0 : va_W) (sz : Nat) (hT : TW ksC ad cy B qr s1 w0)  : Met l yX11_comes (wu yX11_comes cX11_comes 4 (some .int)) ({ frames := 8, cells := 0, slots := 0, locals := 182 }) (va_Pc [.ref (ad 0), .int a1, .int a2, .int a3] (wpreS adK adV dC dI cy sz w0)) (va_Qi (P_X11_comes_1 ad cy B qr s1 a1 a2 a3 w0) (fun u : va_W => wpost dC dI cy (va_A w0 sz) u) (va_A w0 sz)) 0 0 (va_A w0 sz) := by
  refine Met.ofW (cc := cX11_comes) (maxL := 4) (ret := (some .int)) (by decide) rfl ?_
  intro p e s m args below meth c s₁ Bk hml hv
  obtain ⟨rfl, ⟨hsz, hP, hK, hD0⟩, hE, hSR⟩ := hv
  have hx := Bk.exec
  have hb := Bk.bytes
  have hr := Bk.returns
  have hlocks := Bk.notSynchronized
  have hC : CallFix p m c cX11_comes 4 s _ (wu yX11_comes cX11_comes 4 (some .int)) RX11 := ⟨hx, hb, hml, findClass_of_methodNamed Bk.named, atoms_spec (ws := (wu yX11_comes cX11_comes 4 (some .int))) Bk.pre⟩
  subst hsz
  have hD := hD0.self (sz := s.heap.size)
  generalize hAe : va_A w0 s.heap.size = A at hD hE ⊢
  have hA : ∀ q : Nat, s.heap.size ≤ q → A q := fun q h => by rw [← hAe]; exact Or.inr h
  have hw : Wd dC dI A s.heap s.heap [] w0 := ⟨hP, hD, va_S.rf⟩
  have hF : FE ksC [(1, 4, 4), (1, 5, 5), (1, 6, 6), (1, 7, 7), (1, 8, 8), (9, 0, 0), (9, 1, 1), (9, 2, 2), (9, 3, 3), (9, 4, 4), (9, 5, 5), (9, 6, 6), (9, 7, 7), (9, 8, 8), (42, 0, 1100), (43, 0, 1100), (44, 0, 11), (45, 0, 64)] w0 w0 := FE.rf
  have hl := lv_entry ([.ref (ad 0), .int a1, .int a2, .int a3]) (n := 4) (Nat.le_of_ble_eq_true rfl)
  rw [lg_entry_eq]
  generalize (lg_sl ([.ref (ad 0), .int a1, .int a2, .int a3]) ++ List.replicate (4 - (lg_sl ([.ref (ad 0), .int a1, .int a2, .int a3])).length) Slot.unset).toArray = ls at hl ⊢
  have hl : lv_has ls 4 [(0, .ref (ad 0)), (1, .int a1), (2, .int a2), (3, .int a3)] := hl
  generalize hloc : ([] : List Loc) = locs at hw ⊢
  have hinX11 : ∀ w ∈ u_ws RX11 TX11 13, w ∈ (wu yX11_comes cX11_comes 4 (some .int)) := fun _ h => List.mem_cons_of_mem _ (up_70 h)
  have hinX5 : ∀ w ∈ u_ws RX5 TX5 14, w ∈ (wu yX11_comes cX11_comes 4 (some .int)) := fun _ h => List.mem_cons_of_mem _ (up_76 h)
  have J28 : ∀ (H : Heap) (locs : List Loc) (ls : Array Slot) (w1 : va_W), Wd dC dI A s.heap H locs w1 → TW ksC ad cy B qr s1 w1 → FE ksC [(1, 4, 4), (1, 5, 5), (1, 6, 6), (1, 7, 7), (1, 8, 8), (9, 0, 0), (9, 1, 1), (9, 2, 2), (9, 3, 3), (9, 4, 4), (9, 5, 5), (9, 6, 6), (9, 7, 7), (9, 8, 8), (42, 0, 1100), (43, 0, 1100), (44, 0, 11), (45, 0, 64)] w0 w1 → lv_has ls 4 [(0, .ref (ad 0)), (1, .int a1), (2, .int a2), (3, .int a3)] → W p l e ({ frames := 8, cells := 0, slots := 0, locals := 182 }) s m (List.toArray [.ref (ad 0), .int a1, .int a2, .int a3]) below meth c H locs 0 0 (MQ below (va_Qi (P_X11_comes_1 ad cy B qr s1 a1 a2 a3 w0) (fun u : va_W => wpost dC dI cy A u) A) (List.toArray [.ref (ad 0), .int a1, .int a2, .int a3]) s 0 0 A) (F0 m 28 ls []) := by
    intro H locs ls w1 hw hT hF hl
    refine lv_iconst (v := (-1)) hx hb dX11_comes_28 (by decide) ?_
    exact tk_iret hC hr hlocks hK ⟨(hT.up (show B ≤ (B + 3600) by omega)), hF, (Or.inr (Or.inr (Or.inr rfl)))⟩ hw dX11_comes_29
  refine lv_aload_n hx hb dX11_comes_0 rfl (lv_at hl 0 rfl) ?_
  refine lv_iload_n hx hb dX11_comes_1 rfl (lv_at hl 1 rfl) ?_
  refine tk_Vi hC hK hw hT hA hE hSR kC_at0 (by decide) rfl (k_X11_hasWalker_1 l adK adV dC dI cy ad B (by omega) (by omega) qr s1   a1 w0 s.heap.size hT ) (cwV 1 hC.2.2.2.2 uV_RX11_205 rfl rfl rfl (by decide +kernel) ⟨Nat.le_of_ble_eq_true rfl, Nat.le_of_ble_eq_true rfl⟩) rfl hl.1 rfl (Nat.le_of_ble_eq_true rfl) dX11_comes_2 (fun r2 w4 H locs hp3 hw => ?_)
  obtain ⟨hT, k5, hg10⟩ := hp3
  have hF := hF.tr k5 (by decide)
  rcases hg10 with rfl | ⟨rfl, g6, g7, ⟨x8, c9, rx8, tx8⟩⟩
  · refine lv_if_eq (tgt := 28) hx hb dX11_comes_5 (by decide) (fun _ => ?_) (fun c => absurd (by decide) c)
    exact J28  H locs ls w4   hw hT hF  (lv_sub hl [0, 1, 2, 3] rfl)
  · refine lv_if_eq (tgt := 28) hx hb dX11_comes_5 (by decide) (fun c => absurd c (by decide)) (fun _ => ?_)
    refine lv_iload_n hx hb dX11_comes_8 rfl (lv_at hl 2 rfl) ?_
    refine lv_if_lt (tgt := 28) hx hb dX11_comes_9 (by decide) (fun c11 => ?_) (fun c11 => ?_)
    · have c11 : a2.toInt < (0 : Int) := wk_lt.mp c11
      exact J28  H locs ls w4   hw hT hF  (lv_sub hl [0, 1, 2, 3] rfl)
    · have c11 : (0 : Int) ≤ a2.toInt := wk_ltF c11
      refine lv_iload_n hx hb dX11_comes_12 rfl (lv_at hl 2 rfl) ?_
      refine lv_sipush (v := 400) hx hb dX11_comes_13 (by decide) ?_
      refine lv_icmp_gt (tgt := 28) hx hb dX11_comes_16 (by decide) (fun c12 => ?_) (fun c12 => ?_)
      · have c12 : (400 : Int) < a2.toInt := wk_lt.mp c12
        exact J28  H locs ls w4   hw hT hF  (lv_sub hl [0, 1, 2, 3] rfl)
      · have c12 : a2.toInt ≤ (400 : Int) := wk_ltF c12
        refine lv_iload_n hx hb dX11_comes_19 rfl (lv_at hl 3 rfl) ?_
        refine lv_if_lt (tgt := 28) hx hb dX11_comes_20 (by decide) (fun c13 => ?_) (fun c13 => ?_)
        · have c13 : a3.toInt < (0 : Int) := wk_lt.mp c13
          exact J28  H locs ls w4   hw hT hF  (lv_sub hl [0, 1, 2, 3] rfl)
        · have c13 : (0 : Int) ≤ a3.toInt := wk_ltF c13
          refine lv_iload_n hx hb dX11_comes_23 rfl (lv_at hl 3 rfl) ?_
          refine lv_iconst (v := 2) hx hb dX11_comes_24 (by decide) ?_
          refine lv_icmp_le (tgt := 30) hx hb dX11_comes_25 (by decide) (fun c14 => ?_) (fun c14 => ?_)
          · have c14 : a3.toInt ≤ (2 : Int) := wk_le.mp c14
            refine lv_aload_n hx hb dX11_comes_30 rfl (lv_at hl 0 rfl) ?_
            refine tk_getA hC hK hw hT hinX11 kC_at0 (by decide) rfl 7 (by decide) (List.mem_cons_of_mem _ uw_1_14) rfl rfl dX11_comes_31 ?_
            refine tk_Vv hC hK hw hT hA hE hSR kC_at145 (by decide) rfl (k_X0_refreshAll_1 l adK adV dC dI cy ad B (by omega) (by omega) qr s1    w4 H.size hT ) (cwV 0 hC.2.2.2.2 uV_RX11_212 rfl rfl rfl (by decide +kernel) ⟨Nat.le_of_ble_eq_true rfl, Nat.le_of_ble_eq_true rfl⟩) rfl hl.1 rfl (Nat.le_of_ble_eq_true rfl) dX11_comes_34 (fun w17 H locs hp16 hw => ?_)
            obtain ⟨hT, k18, hg19⟩ := hp16
            have hF := hF.tr k18 (by decide)
            have c20 := k18.gi kC_at38 (by decide) c9
            clear hg19
            refine lv_aload_n hx hb dX11_comes_37 rfl (lv_at hl 0 rfl) ?_
            refine tk_getA hC hK hw hT hinX11 kC_at0 (by decide) rfl 9 (by decide) (List.mem_cons_of_mem _ uw_1_22) rfl rfl dX11_comes_38 ?_
            refine lv_aload_n hx hb dX11_comes_41 rfl (lv_at hl 0 rfl) ?_
            refine tk_getA hC hK hw hT hinX11 kC_at0 (by decide) rfl 4 (by decide) (List.mem_cons_of_mem _ uw_1_7) rfl rfl dX11_comes_42 ?_
            refine tk_getO hC hK hw hT hinX5 kC_at38 (by decide) rfl 2 (by decide) (List.mem_cons_of_mem _ uw_39_0) rfl rfl dX11_comes_45 ?_
            refine lv_iload_n hx hb dX11_comes_48 rfl (lv_at hl 1 rfl) ?_
            refine tk_aald hC hK hw hT kC_at49 rfl (by decide) rfl (show 0 ≤ a1.toInt by omega) (show a1.toInt < 4 by omega) dX11_comes_49 (fun j21 hj21 gj21 => ?_)
            refine lv_iload_n hx hb dX11_comes_50 rfl (lv_at hl 2 rfl) ?_
            refine lv_iload_n hx hb dX11_comes_51 rfl (lv_at hl 3 rfl) ?_
            refine tk_Vi hC hK hw hT hA hE hSR kC_at151 (by decide) rfl (k_X8_tellComing_1 l adK adV dC dI cy ad B (by omega) (by omega) qr s1   (el 33 49 j21) (kC_el33 kC_at49 hj21) a2 (show 0 ≤ a2.toInt from c11) (show a2.toInt ≤ 400 from c12) a3 (show 0 ≤ a3.toInt from c13) (show a3.toInt ≤ 2 from c14) w17 H.size hT ) (cwV 3 hC.2.2.2.2 uV_RX11_232 rfl rfl rfl (by decide +kernel) ⟨Nat.le_of_ble_eq_true rfl, Nat.le_of_ble_eq_true rfl⟩) rfl hl.1 rfl (Nat.le_of_ble_eq_true rfl) dX11_comes_52 (fun r22 w24 H locs hp23 hw => ?_)
            obtain ⟨hT, k25, hg31⟩ := hp23
            have hF := hF.tr k25 (by decide)
            have c32 := k25.gi kC_at38 (by decide) c20
            rcases hg31 with - | ⟨rfl, g26⟩ | ⟨g27, g28, g29, g30⟩
            · exact tk_iret hC hr hlocks hK ⟨hT, hF, (Or.inl ⟨(show 0 ≤ a1.toInt by omega), (show a1.toInt ≤ 3 by omega), (show 0 ≤ a2.toInt from c11), (show a2.toInt ≤ 400 from c12), (show 0 ≤ a3.toInt from c13), (show a3.toInt ≤ 2 from c14), ⟨x8, c32, (show 1 ≤ x8.toInt by omega), (show x8.toInt ≤ 4 by omega)⟩⟩)⟩ hw dX11_comes_55
            · exact tk_iret hC hr hlocks hK ⟨hT, hF, (Or.inr (Or.inl ⟨rfl, (show 0 ≤ a1.toInt by omega), (show a1.toInt ≤ 3 by omega), (show 0 ≤ a2.toInt from c11), (show a2.toInt ≤ 400 from c12), (show 0 ≤ a3.toInt from c13), (show a3.toInt ≤ 0 by omega), ⟨x8, c32, (show 1 ≤ x8.toInt by omega), (show x8.toInt ≤ 4 by omega)⟩⟩))⟩ hw dX11_comes_55
            · exact tk_iret hC hr hlocks hK ⟨hT, hF, (Or.inr (Or.inr (Or.inl ⟨(show 0 ≤ r22.toInt by omega), (show r22.toInt ≤ 400 by omega), (show 0 ≤ a1.toInt by omega), (show a1.toInt ≤ 3 by omega), (show 0 ≤ a2.toInt from c11), (show a2.toInt ≤ 400 from c12), (show 1 ≤ a3.toInt by omega), (show a3.toInt ≤ 1 by omega), ⟨x8, c32, (show 1 ≤ x8.toInt by omega), (show x8.toInt ≤ 4 by omega)⟩⟩)))⟩ hw dX11_comes_55
          · have c14 : (2 : Int) < a3.toInt := wk_leF c14
            exact J28  H locs ls w4   hw hT hF  (lv_sub hl [0, 1, 2, 3] rfl)
abbrev P_X8_ghostKey_1 (ad : Nat → Nat) (cy : Nat → ClassId) (B : Int) (qr : Nat) (s1 : Int)  (w0 : va_W) : Int32 → va_W → Prop := fun r u => TW ksC ad cy B qr s1 u ∧ FE ksC ([] : List (Nat × Nat × Nat)) w0 u ∧ ((0 ≤ r.toInt ∧ r.toInt ≤ 18479))
set_option maxHeartbeats 4000000 in
set_option maxRecDepth 100000 in
theorem k_X8_ghostKey_1 (l : Launch) (adK adV : Nat → Nat) (dC : Nat → ClassId) (dI : Nat → Nat → Nat) (cy : Nat → ClassId) (ad : Nat → Nat) (B : Int) (hB0 : 2147483648 ≤ B) (hB1 : B ≤ 1152921504606846976) (qr : Nat) (s1 : Int)   (w0 : va_W) (sz : Nat) (hT : TW ksC ad cy B qr s1 w0)  : Met l yX8_ghostKey (wu yX8_ghostKey cX8_ghostKey 2 (some .int)) ({ frames := 1, cells := 0, slots := 0, locals := 12 }) (va_Pc [.ref (ad 151)] (wpreS adK adV dC dI cy sz w0)) (va_Qi (P_X8_ghostKey_1 ad cy B qr s1  w0) (fun u : va_W => wpost dC dI cy (va_A w0 sz) u) (va_A w0 sz)) 0 0 (va_A w0 sz) := by
  refine Met.ofW (cc := cX8_ghostKey) (maxL := 2) (ret := (some .int)) (by decide) rfl ?_
  intro p e s m args below meth c s₁ Bk hml hv
  obtain ⟨rfl, ⟨hsz, hP, hK, hD0⟩, hE, hSR⟩ := hv
  have hx := Bk.exec
  have hb := Bk.bytes
  have hr := Bk.returns
  have hlocks := Bk.notSynchronized
  have hC : CallFix p m c cX8_ghostKey 2 s _ (wu yX8_ghostKey cX8_ghostKey 2 (some .int)) RX8 := ⟨hx, hb, hml, findClass_of_methodNamed Bk.named, atoms_spec (ws := (wu yX8_ghostKey cX8_ghostKey 2 (some .int))) Bk.pre⟩
  subst hsz
  have hD := hD0.self (sz := s.heap.size)
  generalize hAe : va_A w0 s.heap.size = A at hD hE ⊢
  have hA : ∀ q : Nat, s.heap.size ≤ q → A q := fun q h => by rw [← hAe]; exact Or.inr h
  have hw : Wd dC dI A s.heap s.heap [] w0 := ⟨hP, hD, va_S.rf⟩
  have hF : FE ksC ([] : List (Nat × Nat × Nat)) w0 w0 := FE.rf
  have hl := lv_entry ([.ref (ad 151)]) (n := 2) (Nat.le_of_ble_eq_true rfl)
  rw [lg_entry_eq]
  generalize (lg_sl ([.ref (ad 151)]) ++ List.replicate (2 - (lg_sl ([.ref (ad 151)])).length) Slot.unset).toArray = ls at hl ⊢
  have hl : lv_has ls 2 [(0, .ref (ad 151))] := hl
  generalize hloc : ([] : List Loc) = locs at hw ⊢
  have hinX8 : ∀ w ∈ u_ws RX8 TX8 8, w ∈ (wu yX8_ghostKey cX8_ghostKey 2 (some .int)) := fun _ h => List.mem_cons_of_mem _ (up_79 h)
  have hinX9 : ∀ w ∈ u_ws RX9 TX9 9, w ∈ (wu yX8_ghostKey cX8_ghostKey 2 (some .int)) := fun _ h => List.mem_cons_of_mem _ (up_82 h)
  refine lv_aload_n hx hb dX8_ghostKey_0 rfl (lv_at hl 0 rfl) ?_
  refine tk_getA hC hK hw hT hinX8 kC_at151 (by decide) rfl 3 (by decide) (List.mem_cons_of_mem _ uw_5_8) rfl rfl dX8_ghostKey_1 ?_
  refine tk_getB hC hK hw hT hinX9 kC_at152 (by decide) rfl 4 (by decide) (List.mem_cons_of_mem _ uw_53_10) rfl rfl dX8_ghostKey_4 (fun x1 c2 rx1 tx1 => ?_)
  refine lv_ldc2 (v := 168) hx hb hC.2.2.2.1 (hC.2.2.2.2 _ (List.mem_cons_of_mem _ uw_55_2)) dX8_ghostKey_7 ?_
  refine lv_lrem hx hb dX8_ghostKey_10 (by decide) ?_
  refine lv_topl (fun x3 ex3 => ?_)
  have ex3 : x3.toInt = x1.toInt % (168 : Int) := by rw [ex3]; exact wk_reml (show 0 ≤ x1.toInt by omega) (show 0 < (168 : Int) by decide)
  refine lv_l2i hx hb dX8_ghostKey_11 rfl ?_
  refine lv_topi (fun x4 ex4 => ?_)
  have ex4 : x4.toInt = x3.toInt := by rw [ex4]; exact wk_l2i (by omega) (by omega)
  refine lv_istore_n (lv' := [(1, .int x4), (0, .ref (ad 151))]) hx hb dX8_ghostKey_12 rfl hl (by decide) rfl (fun ls hl => ?_)
  refine lv_iload_n hx hb dX8_ghostKey_13 rfl (lv_at hl 0 rfl) ?_
  refine lv_bipush (v := 10) hx hb dX8_ghostKey_14 (by decide) ?_
  refine lv_imul hx hb dX8_ghostKey_16 ?_
  refine lv_topi (fun x5 ex5 => ?_)
  have ex5 : x5.toInt = x4.toInt * (10 : Int) := by rw [ex5]; exact wk_mul (show (-2147483648) ≤ x4.toInt * (10 : Int) by omega) (show x4.toInt * (10 : Int) ≤ 2147483647 by omega)
  refine lv_aload_n hx hb dX8_ghostKey_17 rfl (lv_at hl 1 rfl) ?_
  refine tk_getA hC hK hw hT hinX8 kC_at151 (by decide) rfl 3 (by decide) (List.mem_cons_of_mem _ uw_5_8) rfl rfl dX8_ghostKey_18 ?_
  refine tk_geti hC hK hw hT hinX9 kC_at152 (by decide) rfl 0 (by decide) (List.mem_cons_of_mem _ uw_55_3) rfl rfl dX8_ghostKey_21 (fun x6 c7 rx6 tx6 => ?_)
  refine lv_iadd hx hb dX8_ghostKey_24 ?_
  refine lv_topi (fun x8 ex8 => ?_)
  have ex8 : x8.toInt = x5.toInt + x6.toInt := by rw [ex8]; exact wk_add (show (-2147483648) ≤ x5.toInt + x6.toInt by omega) (show x5.toInt + x6.toInt ≤ 2147483647 by omega)
  refine lv_bipush (v := 11) hx hb dX8_ghostKey_25 (by decide) ?_
  refine lv_imul hx hb dX8_ghostKey_27 ?_
  refine lv_topi (fun x9 ex9 => ?_)
  have ex9 : x9.toInt = x8.toInt * (11 : Int) := by rw [ex9]; exact wk_mul (show (-2147483648) ≤ x8.toInt * (11 : Int) by omega) (show x8.toInt * (11 : Int) ≤ 2147483647 by omega)
  refine lv_aload_n hx hb dX8_ghostKey_28 rfl (lv_at hl 1 rfl) ?_
  refine tk_getA hC hK hw hT hinX8 kC_at151 (by decide) rfl 3 (by decide) (List.mem_cons_of_mem _ uw_5_8) rfl rfl dX8_ghostKey_29 ?_
  refine tk_geti hC hK hw hT hinX9 kC_at152 (by decide) rfl 7 (by decide) (List.mem_cons_of_mem _ uw_55_4) rfl rfl dX8_ghostKey_32 (fun x10 c11 rx10 tx10 => ?_)
  refine lv_iadd hx hb dX8_ghostKey_35 ?_
  refine lv_topi (fun x12 ex12 => ?_)
  have ex12 : x12.toInt = x9.toInt + x10.toInt := by rw [ex12]; exact wk_add (show (-2147483648) ≤ x9.toInt + x10.toInt by omega) (show x9.toInt + x10.toInt ≤ 2147483647 by omega)
  refine lv_iconst (v := 1) hx hb dX8_ghostKey_36 (by decide) ?_
  refine lv_iadd hx hb dX8_ghostKey_37 ?_
  refine lv_topi (fun x13 ex13 => ?_)
  have ex13 : x13.toInt = x12.toInt + (1 : Int) := by rw [ex13]; exact wk_add (show (-2147483648) ≤ x12.toInt + (1 : Int) by omega) (show x12.toInt + (1 : Int) ≤ 2147483647 by omega)
  exact tk_iret hC hr hlocks hK ⟨hT, hF, ⟨(show 0 ≤ x13.toInt by omega), (show x13.toInt ≤ 18479 by omega)⟩⟩ hw dX8_ghostKey_38
abbrev P_X8_findCircle_1 (ad : Nat → Nat) (cy : Nat → ClassId) (B : Int) (qr : Nat) (s1 : Int) (a1 : Int32) (w0 : va_W) : Int32 → va_W → Prop := fun r u => TW ksC ad cy (B + 2709) qr s1 u ∧ FE ksC [(1, 4, 4), (1, 5, 5), (1, 6, 6), (1, 7, 7), (1, 8, 8), (9, 0, 0), (9, 4, 4), (9, 5, 5), (9, 6, 6), (9, 7, 7), (9, 8, 8), (45, 0, 64), (46, 0, 301)] w0 u ∧ (((-298) ≤ r.toInt ∧ r.toInt ≤ 300 ∧ 1 ≤ a1.toInt) ∨ (r = (-2)) ∨ (0 ≤ r.toInt ∧ r.toInt ≤ 299 ∧ a1.toInt ≤ 0))
set_option maxHeartbeats 4000000 in
set_option maxRecDepth 100000 in
theorem k_X8_findCircle_1 (l : Launch) (adK adV : Nat → Nat) (dC : Nat → ClassId) (dI : Nat → Nat → Nat) (cy : Nat → ClassId) (ad : Nat → Nat) (B : Int) (hB0 : 2147483648 ≤ B) (hB1 : B ≤ 1152921504606844267) (qr : Nat) (s1 : Int)  (a1 : Int32) (ra1 : 0 ≤ a1.toInt) (ta1 : a1.toInt ≤ 1) (w0 : va_W) (sz : Nat) (hT : TW ksC ad cy B qr s1 w0)  : Met l yX8_findCircle (wu yX8_findCircle cX8_findCircle 4 (some .int)) ({ frames := 6, cells := 0, slots := 0, locals := 135 }) (va_Pc [.ref (ad 151), .int a1] (wpreS adK adV dC dI cy sz w0)) (va_Qi (P_X8_findCircle_1 ad cy B qr s1 a1 w0) (fun u : va_W => wpost dC dI cy (va_A w0 sz) u) (va_A w0 sz)) 0 0 (va_A w0 sz) := by
  refine Met.ofW (cc := cX8_findCircle) (maxL := 4) (ret := (some .int)) (by decide) rfl ?_
  intro p e s m args below meth c s₁ Bk hml hv
  obtain ⟨rfl, ⟨hsz, hP, hK, hD0⟩, hE, hSR⟩ := hv
  have hx := Bk.exec
  have hb := Bk.bytes
  have hr := Bk.returns
  have hlocks := Bk.notSynchronized
  have hC : CallFix p m c cX8_findCircle 4 s _ (wu yX8_findCircle cX8_findCircle 4 (some .int)) RX8 := ⟨hx, hb, hml, findClass_of_methodNamed Bk.named, atoms_spec (ws := (wu yX8_findCircle cX8_findCircle 4 (some .int))) Bk.pre⟩
  subst hsz
  have hD := hD0.self (sz := s.heap.size)
  generalize hAe : va_A w0 s.heap.size = A at hD hE ⊢
  have hA : ∀ q : Nat, s.heap.size ≤ q → A q := fun q h => by rw [← hAe]; exact Or.inr h
  have hw : Wd dC dI A s.heap s.heap [] w0 := ⟨hP, hD, va_S.rf⟩
  have hF : FE ksC [(1, 4, 4), (1, 5, 5), (1, 6, 6), (1, 7, 7), (1, 8, 8), (9, 0, 0), (9, 4, 4), (9, 5, 5), (9, 6, 6), (9, 7, 7), (9, 8, 8), (45, 0, 64), (46, 0, 301)] w0 w0 := FE.rf
  have hl := lv_entry ([.ref (ad 151), .int a1]) (n := 4) (Nat.le_of_ble_eq_true rfl)
  rw [lg_entry_eq]
  generalize (lg_sl ([.ref (ad 151), .int a1]) ++ List.replicate (4 - (lg_sl ([.ref (ad 151), .int a1])).length) Slot.unset).toArray = ls at hl ⊢
  have hl : lv_has ls 4 [(0, .ref (ad 151)), (1, .int a1)] := hl
  generalize hloc : ([] : List Loc) = locs at hw ⊢
  have hinX8 : ∀ w ∈ u_ws RX8 TX8 8, w ∈ (wu yX8_findCircle cX8_findCircle 4 (some .int)) := fun _ h => List.mem_cons_of_mem _ (up_79 h)
  have L12 : ∀ (n12 : Nat) (v12_2 : Int32) (f12_153_0 : Int32) (H : Heap) (locs : List Loc) (ls : Array Slot) (w1 : va_W), 0 ≤ a1.toInt → a1.toInt ≤ 1 → 1 ≤ v12_2.toInt → v12_2.toInt ≤ 301 → 0 ≤ f12_153_0.toInt → f12_153_0.toInt ≤ 18479 → (301 - v12_2.toInt).toNat < n12 → Wd dC dI A s.heap H locs w1 → TW ksC ad cy (B + 0 + 9 * v12_2.toInt) qr s1 w1 → FE ksC [(1, 4, 4), (1, 5, 5), (1, 6, 6), (1, 7, 7), (1, 8, 8), (9, 0, 0), (9, 4, 4), (9, 5, 5), (9, 6, 6), (9, 7, 7), (9, 8, 8), (45, 0, 64), (46, 0, 301)] w0 w1 → gi w1 153 0 = f12_153_0 → lv_has ls 4 [(0, .ref (ad 151)), (1, .int a1), (2, .int v12_2)] → W p l e ({ frames := 6, cells := 0, slots := 0, locals := 135 }) s m (List.toArray [.ref (ad 151), .int a1]) below meth c H locs 0 0 (MQ below (va_Qi (P_X8_findCircle_1 ad cy B qr s1 a1 w0) (fun u : va_W => wpost dC dI cy A u) A) (List.toArray [.ref (ad 151), .int a1]) s 0 0 A) (F0 m 12 ls []) := by
    intro n12
    induction n12 with
    | zero => intro v12_2 f12_153_0 H locs ls w1 r2 t3 r4 t5 r6 t7 hm12 hw hT hF c8 hl; omega
    | succ n12 ih12 =>
      intro v12_2 f12_153_0 H locs ls w1 r2 t3 r4 t5 r6 t7 hm12 hw hT hF c8 hl
      have L56 : ∀ (n56 : Nat) (v56_3 : Int32) (H : Heap) (locs : List Loc) (ls : Array Slot) (w9 : va_W), 0 ≤ a1.toInt → a1.toInt ≤ 1 → 1 ≤ v12_2.toInt → v12_2.toInt ≤ 300 → 0 ≤ v56_3.toInt → v56_3.toInt ≤ 300 → 0 ≤ f12_153_0.toInt → f12_153_0.toInt ≤ 18479 → (300 - v56_3.toInt).toNat < n56 → Wd dC dI A s.heap H locs w9 → TW ksC ad cy (B + 9 + 9 * v12_2.toInt) qr s1 w9 → FE ksC [(1, 4, 4), (1, 5, 5), (1, 6, 6), (1, 7, 7), (1, 8, 8), (9, 0, 0), (9, 4, 4), (9, 5, 5), (9, 6, 6), (9, 7, 7), (9, 8, 8), (45, 0, 64), (46, 0, 301)] w0 w9 → gi w9 153 0 = f12_153_0 → lv_has ls 4 [(0, .ref (ad 151)), (1, .int a1), (2, .int v12_2), (3, .int v56_3)] → W p l e ({ frames := 6, cells := 0, slots := 0, locals := 135 }) s m (List.toArray [.ref (ad 151), .int a1]) below meth c H locs 0 0 (MQ below (va_Qi (P_X8_findCircle_1 ad cy B qr s1 a1 w0) (fun u : va_W => wpost dC dI cy A u) A) (List.toArray [.ref (ad 151), .int a1]) s 0 0 A) (F0 m 56 ls []) := by
        intro n56
        induction n56 with
        | zero => intro v56_3 H locs ls w9 r10 t11 r12 t13 r14 t15 r16 t17 hm56 hw hT hF c18 hl; omega
        | succ n56 ih56 =>
          intro v56_3 H locs ls w9 r10 t11 r12 t13 r14 t15 r16 t17 hm56 hw hT hF c18 hl
          refine lv_iload_n hx hb dX8_findCircle_56 rfl (lv_at hl 3 rfl) ?_
          refine lv_iload_n hx hb dX8_findCircle_57 rfl (lv_at hl 2 rfl) ?_
          refine lv_icmp_ge (tgt := 94) hx hb dX8_findCircle_58 (by decide) (fun c19 => ?_) (fun c19 => ?_)
          · have c19 : v12_2.toInt ≤ v56_3.toInt := wk_le.mp c19
            obtain ⟨x20, ex20⟩ : ∃ y : Int32, y = v12_2 + Int32.ofInt 1 := ⟨_, rfl⟩
            refine lv_iinc (v := x20) (lv' := [(2, .int x20), (0, .ref (ad 151)), (1, .int a1), (3, .int v56_3)]) hx hb dX8_findCircle_94 hl (k := 2) rfl ex20.symm (by decide) rfl (fun ls hl => ?_)
            have ex20 : x20.toInt = v12_2.toInt + 1 := by rw [ex20]; exact wk_add (y := 1) (show -2147483648 ≤ v12_2.toInt + 1 by omega) (show v12_2.toInt + 1 ≤ 2147483647 by omega)
            refine lv_goto (tgt := 12) hx hb dX8_findCircle_97 (by decide) ?_
            exact ih12 x20 f12_153_0 H locs ls w9 (show 0 ≤ a1.toInt from r10) (show a1.toInt ≤ 1 from t11) (show 1 ≤ x20.toInt by omega) (show x20.toInt ≤ 301 by omega) (show 0 ≤ f12_153_0.toInt from r16) (show f12_153_0.toInt ≤ 18479 from t17) (show (301 - x20.toInt).toNat < n12 by omega) hw (hT.up (show (B + 9 + 9 * v12_2.toInt) ≤ (B + 0 + 9 * x20.toInt) by omega)) hF c18 (lv_sub hl [1, 2, 0] rfl)
          · have c19 : v56_3.toInt < v12_2.toInt := wk_leF c19
            refine lv_aload_n hx hb dX8_findCircle_61 rfl (lv_at hl 0 rfl) ?_
            refine tk_getA hC hK hw hT hinX8 kC_at151 (by decide) rfl 4 (by decide) (List.mem_cons_of_mem _ uw_5_9) rfl rfl dX8_findCircle_62 ?_
            refine lv_iload_n hx hb dX8_findCircle_65 rfl (lv_at hl 3 rfl) ?_
            refine tk_iald hC hK hw hT kC_at153 rfl rfl (show 0 ≤ v56_3.toInt from r14) (show v56_3.toInt < 301 from Int.lt_of_le_of_lt t15 (by decide)) dX8_findCircle_66 (fun x21 c22 rx21 tx21 => ?_)
            refine lv_aload_n hx hb dX8_findCircle_67 rfl (lv_at hl 0 rfl) ?_
            refine tk_getA hC hK hw hT hinX8 kC_at151 (by decide) rfl 4 (by decide) (List.mem_cons_of_mem _ uw_5_9) rfl rfl dX8_findCircle_68 ?_
            refine lv_iload_n hx hb dX8_findCircle_71 rfl (lv_at hl 2 rfl) ?_
            refine tk_iald hC hK hw hT kC_at153 rfl rfl (show 0 ≤ v12_2.toInt from Int.le_trans (by decide) r12) (show v12_2.toInt < 301 from Int.lt_of_le_of_lt t13 (by decide)) dX8_findCircle_72 (fun x23 c24 rx23 tx23 => ?_)
            refine lv_icmp_ne (tgt := 88) hx hb dX8_findCircle_73 (by decide) (fun c25 => ?_) (fun c25 => ?_)
            · have c25 : ¬ x21.toInt = x23.toInt := wk_eqF c25
              obtain ⟨x26, ex26⟩ : ∃ y : Int32, y = v56_3 + Int32.ofInt 1 := ⟨_, rfl⟩
              refine lv_iinc (v := x26) (lv' := [(3, .int x26), (0, .ref (ad 151)), (1, .int a1), (2, .int v12_2)]) hx hb dX8_findCircle_88 hl (k := 3) rfl ex26.symm (by decide) rfl (fun ls hl => ?_)
              have ex26 : x26.toInt = v56_3.toInt + 1 := by rw [ex26]; exact wk_add (y := 1) (show -2147483648 ≤ v56_3.toInt + 1 by omega) (show v56_3.toInt + 1 ≤ 2147483647 by omega)
              refine lv_goto (tgt := 56) hx hb dX8_findCircle_91 (by decide) ?_
              exact ih56 x26 H locs ls w9 (show 0 ≤ a1.toInt from r10) (show a1.toInt ≤ 1 from t11) (show 1 ≤ v12_2.toInt from r12) (show v12_2.toInt ≤ 300 from t13) (show 0 ≤ x26.toInt by omega) (show x26.toInt ≤ 300 by omega) (show 0 ≤ f12_153_0.toInt from r16) (show f12_153_0.toInt ≤ 18479 from t17) (show (300 - x26.toInt).toNat < n56 by omega) hw hT hF c18 (lv_sub hl [1, 2, 3, 0] rfl)
            · have c25 : x21.toInt = x23.toInt := wk_eq.mp c25
              refine lv_iload_n hx hb dX8_findCircle_76 rfl (lv_at hl 1 rfl) ?_
              refine lv_if_ne (tgt := 84) hx hb dX8_findCircle_77 (by decide) (fun c27 => ?_) (fun c27 => ?_)
              · have c27 : ¬ a1.toInt = (0 : Int) := wk_eqF c27
                refine lv_iload_n hx hb dX8_findCircle_84 rfl (lv_at hl 2 rfl) ?_
                refine lv_iload_n hx hb dX8_findCircle_85 rfl (lv_at hl 3 rfl) ?_
                refine lv_isub hx hb dX8_findCircle_86 ?_
                refine lv_topi (fun x28 ex28 => ?_)
                have ex28 : x28.toInt = v12_2.toInt - v56_3.toInt := by rw [ex28]; exact wk_sub (show (-2147483648) ≤ v12_2.toInt - v56_3.toInt by omega) (show v12_2.toInt - v56_3.toInt ≤ 2147483647 by omega)
                exact tk_iret hC hr hlocks hK ⟨(hT.up (show (B + 9 + 9 * v12_2.toInt) ≤ (B + 2709) by omega)), hF, (Or.inl ⟨(show (-298) ≤ x28.toInt by omega), (show x28.toInt ≤ 300 by omega), (show 1 ≤ a1.toInt by omega)⟩)⟩ hw dX8_findCircle_87
              · have c27 : a1.toInt = (0 : Int) := wk_eq.mp c27
                refine lv_iload_n hx hb dX8_findCircle_80 rfl (lv_at hl 3 rfl) ?_
                refine lv_goto (tgt := 87) hx hb dX8_findCircle_81 (by decide) ?_
                exact tk_iret hC hr hlocks hK ⟨(hT.up (show (B + 9 + 9 * v12_2.toInt) ≤ (B + 2709) by omega)), hF, (Or.inr (Or.inr ⟨(show 0 ≤ v56_3.toInt from r14), (show v56_3.toInt ≤ 299 by omega), (show a1.toInt ≤ 0 by omega)⟩))⟩ hw dX8_findCircle_87
      refine lv_iload_n hx hb dX8_findCircle_12 rfl (lv_at hl 2 rfl) ?_
      refine lv_sipush (v := 300) hx hb dX8_findCircle_13 (by decide) ?_
      refine lv_icmp_gt (tgt := 100) hx hb dX8_findCircle_16 (by decide) (fun c29 => ?_) (fun c29 => ?_)
      · have c29 : (300 : Int) < v12_2.toInt := wk_lt.mp c29
        refine lv_bipush (v := (-2)) hx hb dX8_findCircle_100 (by decide) ?_
        exact tk_iret hC hr hlocks hK ⟨(hT.up (show (B + 0 + 9 * v12_2.toInt) ≤ (B + 2709) by omega)), hF, (Or.inr (Or.inl rfl))⟩ hw dX8_findCircle_102
      · have c29 : v12_2.toInt ≤ (300 : Int) := wk_ltF c29
        refine lv_aload_n hx hb dX8_findCircle_19 rfl (lv_at hl 0 rfl) ?_
        refine tk_getA hC hK hw hT hinX8 kC_at151 (by decide) rfl 2 (by decide) (List.mem_cons_of_mem _ uw_5_13) rfl rfl dX8_findCircle_20 ?_
        refine lv_aload_n hx hb dX8_findCircle_23 rfl (lv_at hl 0 rfl) ?_
        refine tk_getA hC hK hw hT hinX8 kC_at151 (by decide) rfl 3 (by decide) (List.mem_cons_of_mem _ uw_5_8) rfl rfl dX8_findCircle_24 ?_
        refine tk_Vi hC hK hw hT hA hE hSR kC_at149 (by decide) rfl (k_X1_takeStep_2 l adK adV dC dI cy ad (B + 0 + 9 * v12_2.toInt) (by omega) (by omega) qr s1    w1 H.size hT ) (cwV 1 hC.2.2.2.2 uV_RX8_71 rfl rfl rfl (by decide +kernel) ⟨Nat.le_of_ble_eq_true rfl, Nat.le_of_ble_eq_true rfl⟩) rfl hl.1 rfl (Nat.le_of_ble_eq_true rfl) dX8_findCircle_27 (fun r30 w32 H locs hp31 hw => ?_)
        obtain ⟨hT, k33, hg36⟩ := hp31
        have hT := hT.up (B' := (B + 9 + 9 * v12_2.toInt)) (by omega)
        have hF := hF.tr k33 (by decide)
        have c37 := k33.gi kC_at153 (by decide) c8
        rcases hg36 with ⟨x34, c35, rx34, tx34⟩ | rfl
        · refine lv_pop hx hb dX8_findCircle_30 rfl ?_
          refine lv_aload_n hx hb dX8_findCircle_31 rfl (lv_at hl 0 rfl) ?_
          refine tk_getA hC hK hw hT hinX8 kC_at151 (by decide) rfl 3 (by decide) (List.mem_cons_of_mem _ uw_5_8) rfl rfl dX8_findCircle_32 ?_
          refine tk_Vi hC hK hw hT hA hE hSR kC_at152 (by decide) rfl (k_X9_isAtGoal_2 l adK adV dC dI cy ad (B + 9 + 9 * v12_2.toInt) (by omega) (by omega) qr s1    w32 H.size hT ) (cwV 0 hC.2.2.2.2 uV_RX8_47 rfl rfl rfl (by decide +kernel) ⟨Nat.le_of_ble_eq_true rfl, Nat.le_of_ble_eq_true rfl⟩) rfl hl.1 rfl (Nat.le_of_ble_eq_true rfl) dX8_findCircle_35 (fun r38 w40 H locs hp39 hw => ?_)
          obtain ⟨hT, k41, hg42⟩ := hp39
          have hF := hF.tr k41 (by decide)
          have c43 := k41.gi kC_at153 (by decide) c37
          have c44 := k41.gi kC_at149 (by decide) c35
          rcases hg42 with rfl | rfl
          · refine lv_if_eq (tgt := 44) hx hb dX8_findCircle_38 (by decide) (fun _ => ?_) (fun c => absurd (by decide) c)
            refine lv_aload_n hx hb dX8_findCircle_44 rfl (lv_at hl 0 rfl) ?_
            refine tk_getA hC hK hw hT hinX8 kC_at151 (by decide) rfl 4 (by decide) (List.mem_cons_of_mem _ uw_5_9) rfl rfl dX8_findCircle_45 ?_
            refine lv_iload_n hx hb dX8_findCircle_48 rfl (lv_at hl 2 rfl) ?_
            refine lv_aload_n hx hb dX8_findCircle_49 rfl (lv_at hl 0 rfl) ?_
            refine tk_Vi hC hK hw hT hA hE hSR kC_at151 (by decide) rfl (k_X8_ghostKey_1 l adK adV dC dI cy ad (B + 9 + 9 * v12_2.toInt) (by omega) (by omega) qr s1    w40 H.size hT ) (cwV 0 hC.2.2.2.2 uV_RX8_67 rfl rfl rfl (by decide +kernel) ⟨Nat.le_of_ble_eq_true rfl, Nat.le_of_ble_eq_true rfl⟩) rfl hl.1 rfl (Nat.le_of_ble_eq_true rfl) dX8_findCircle_50 (fun r45 w47 H locs hp46 hw => ?_)
            obtain ⟨hT, k48, hg51⟩ := hp46
            have hF := hF.tr k48 (by decide)
            have c52 := k48.gi kC_at153 (by decide) c43
            have c53 := k48.gi kC_at149 (by decide) c44
            obtain ⟨g49, g50⟩ := hg51
            refine tk_iast hC hK hw hT kC_at153 (by decide) rfl rfl (show 0 ≤ v12_2.toInt from Int.le_trans (by decide) r4) (show v12_2.toInt < 301 from Int.lt_of_le_of_lt c29 (by decide)) (wk_i32 r45).1 (wk_i32 r45).2 dX8_findCircle_53 (fun H locs w54 hw hT k56 c55 => ?_)
            have hF := hF.put kC_at153 (inE_of (a := 0) (b := 301) (by decide) (show 0 ≤ v12_2.toInt.toNat by omega) (show v12_2.toInt.toNat ≤ 301 by omega)) k56
            have c57 := k56.gi (Or.inr (show 0 ≠ v12_2.toInt.toNat by omega)) c52
            have c58 := k56.gi (Or.inl (tk_ne kC_at149 kC_at153 (by decide))) c53
            refine lv_iconst (v := 0) hx hb dX8_findCircle_54 (by decide) ?_
            refine lv_istore_n (lv' := [(3, .int 0), (0, .ref (ad 151)), (1, .int a1), (2, .int v12_2)]) hx hb dX8_findCircle_55 rfl hl (by decide) rfl (fun ls hl => ?_)
            exact L56 ((300 - (0 : Int)).toNat + 1) 0 H locs ls w54 (show 0 ≤ a1.toInt from r2) (show a1.toInt ≤ 1 from t3) (show 1 ≤ v12_2.toInt from r4) (show v12_2.toInt ≤ 300 from c29) (by decide) (by decide) (show 0 ≤ f12_153_0.toInt from r6) (show f12_153_0.toInt ≤ 18479 from t7) (Nat.lt_succ_self _) hw hT hF c57 (lv_sub hl [1, 2, 3, 0] rfl)
          · refine lv_if_eq (tgt := 44) hx hb dX8_findCircle_38 (by decide) (fun c => absurd c (by decide)) (fun _ => ?_)
            refine lv_bipush (v := (-2)) hx hb dX8_findCircle_41 (by decide) ?_
            exact tk_iret hC hr hlocks hK ⟨(hT.up (show (B + 9 + 9 * v12_2.toInt) ≤ (B + 2709) by omega)), hF, (Or.inr (Or.inl rfl))⟩ hw dX8_findCircle_43
        · refine lv_pop hx hb dX8_findCircle_30 rfl ?_
          refine lv_aload_n hx hb dX8_findCircle_31 rfl (lv_at hl 0 rfl) ?_
          refine tk_getA hC hK hw hT hinX8 kC_at151 (by decide) rfl 3 (by decide) (List.mem_cons_of_mem _ uw_5_8) rfl rfl dX8_findCircle_32 ?_
          refine tk_Vi hC hK hw hT hA hE hSR kC_at152 (by decide) rfl (k_X9_isAtGoal_2 l adK adV dC dI cy ad (B + 9 + 9 * v12_2.toInt) (by omega) (by omega) qr s1    w32 H.size hT ) (cwV 0 hC.2.2.2.2 uV_RX8_47 rfl rfl rfl (by decide +kernel) ⟨Nat.le_of_ble_eq_true rfl, Nat.le_of_ble_eq_true rfl⟩) rfl hl.1 rfl (Nat.le_of_ble_eq_true rfl) dX8_findCircle_35 (fun r59 w61 H locs hp60 hw => ?_)
          obtain ⟨hT, k62, hg63⟩ := hp60
          have hF := hF.tr k62 (by decide)
          have c64 := k62.gi kC_at153 (by decide) c37
          rcases hg63 with rfl | rfl
          · refine lv_if_eq (tgt := 44) hx hb dX8_findCircle_38 (by decide) (fun _ => ?_) (fun c => absurd (by decide) c)
            refine lv_aload_n hx hb dX8_findCircle_44 rfl (lv_at hl 0 rfl) ?_
            refine tk_getA hC hK hw hT hinX8 kC_at151 (by decide) rfl 4 (by decide) (List.mem_cons_of_mem _ uw_5_9) rfl rfl dX8_findCircle_45 ?_
            refine lv_iload_n hx hb dX8_findCircle_48 rfl (lv_at hl 2 rfl) ?_
            refine lv_aload_n hx hb dX8_findCircle_49 rfl (lv_at hl 0 rfl) ?_
            refine tk_Vi hC hK hw hT hA hE hSR kC_at151 (by decide) rfl (k_X8_ghostKey_1 l adK adV dC dI cy ad (B + 9 + 9 * v12_2.toInt) (by omega) (by omega) qr s1    w61 H.size hT ) (cwV 0 hC.2.2.2.2 uV_RX8_67 rfl rfl rfl (by decide +kernel) ⟨Nat.le_of_ble_eq_true rfl, Nat.le_of_ble_eq_true rfl⟩) rfl hl.1 rfl (Nat.le_of_ble_eq_true rfl) dX8_findCircle_50 (fun r65 w67 H locs hp66 hw => ?_)
            obtain ⟨hT, k68, hg71⟩ := hp66
            have hF := hF.tr k68 (by decide)
            have c72 := k68.gi kC_at153 (by decide) c64
            obtain ⟨g69, g70⟩ := hg71
            refine tk_iast hC hK hw hT kC_at153 (by decide) rfl rfl (show 0 ≤ v12_2.toInt from Int.le_trans (by decide) r4) (show v12_2.toInt < 301 from Int.lt_of_le_of_lt c29 (by decide)) (wk_i32 r65).1 (wk_i32 r65).2 dX8_findCircle_53 (fun H locs w73 hw hT k75 c74 => ?_)
            have hF := hF.put kC_at153 (inE_of (a := 0) (b := 301) (by decide) (show 0 ≤ v12_2.toInt.toNat by omega) (show v12_2.toInt.toNat ≤ 301 by omega)) k75
            have c76 := k75.gi (Or.inr (show 0 ≠ v12_2.toInt.toNat by omega)) c72
            refine lv_iconst (v := 0) hx hb dX8_findCircle_54 (by decide) ?_
            refine lv_istore_n (lv' := [(3, .int 0), (0, .ref (ad 151)), (1, .int a1), (2, .int v12_2)]) hx hb dX8_findCircle_55 rfl hl (by decide) rfl (fun ls hl => ?_)
            exact L56 ((300 - (0 : Int)).toNat + 1) 0 H locs ls w73 (show 0 ≤ a1.toInt from r2) (show a1.toInt ≤ 1 from t3) (show 1 ≤ v12_2.toInt from r4) (show v12_2.toInt ≤ 300 from c29) (by decide) (by decide) (show 0 ≤ f12_153_0.toInt from r6) (show f12_153_0.toInt ≤ 18479 from t7) (Nat.lt_succ_self _) hw hT hF c76 (lv_sub hl [1, 2, 3, 0] rfl)
          · refine lv_if_eq (tgt := 44) hx hb dX8_findCircle_38 (by decide) (fun c => absurd c (by decide)) (fun _ => ?_)
            refine lv_bipush (v := (-2)) hx hb dX8_findCircle_41 (by decide) ?_
            exact tk_iret hC hr hlocks hK ⟨(hT.up (show (B + 9 + 9 * v12_2.toInt) ≤ (B + 2709) by omega)), hF, (Or.inr (Or.inl rfl))⟩ hw dX8_findCircle_43
  refine lv_aload_n hx hb dX8_findCircle_0 rfl (lv_at hl 0 rfl) ?_
  refine tk_getA hC hK hw hT hinX8 kC_at151 (by decide) rfl 4 (by decide) (List.mem_cons_of_mem _ uw_5_9) rfl rfl dX8_findCircle_1 ?_
  refine lv_iconst (v := 0) hx hb dX8_findCircle_4 (by decide) ?_
  refine lv_aload_n hx hb dX8_findCircle_5 rfl (lv_at hl 0 rfl) ?_
  refine tk_Vi hC hK hw hT hA hE hSR kC_at151 (by decide) rfl (k_X8_ghostKey_1 l adK adV dC dI cy ad B (by omega) (by omega) qr s1    w0 s.heap.size hT ) (cwV 0 hC.2.2.2.2 uV_RX8_67 rfl rfl rfl (by decide +kernel) ⟨Nat.le_of_ble_eq_true rfl, Nat.le_of_ble_eq_true rfl⟩) rfl hl.1 rfl (Nat.le_of_ble_eq_true rfl) dX8_findCircle_6 (fun r77 w79 H locs hp78 hw => ?_)
  obtain ⟨hT, k80, hg83⟩ := hp78
  have hF := hF.tr k80 (by decide)
  obtain ⟨g81, g82⟩ := hg83
  refine tk_iast hC hK hw hT kC_at153 (by decide) rfl rfl (by decide) (by decide) (wk_i32 r77).1 (wk_i32 r77).2 dX8_findCircle_9 (fun H locs w84 hw hT k86 c85 => ?_)
  have hF := hF.put kC_at153 (inE_of (a := 0) (b := 301) (by decide) (by decide) (by decide)) k86
  have c85 : gi w84 153 0 = r77 := c85
  refine lv_iconst (v := 1) hx hb dX8_findCircle_10 (by decide) ?_
  refine lv_istore_n (lv' := [(2, .int 1), (0, .ref (ad 151)), (1, .int a1)]) hx hb dX8_findCircle_11 rfl hl (by decide) rfl (fun ls hl => ?_)
  exact L12 ((301 - (1 : Int)).toNat + 1) 1 r77 H locs ls w84 (show 0 ≤ a1.toInt from ra1) (show a1.toInt ≤ 1 from ta1) (by decide) (by decide) (show 0 ≤ r77.toInt by omega) (show r77.toInt ≤ 18479 by omega) (Nat.lt_succ_self _) hw (hT.up (show B ≤ (B + 0 + 9 * (1 : Int32).toInt) by rw [show (1 : Int32).toInt = 1 by decide]; omega)) hF c85 (lv_sub hl [1, 2, 0] rfl)
abbrev P_X8_tellCircle_1 (ad : Nat → Nat) (cy : Nat → ClassId) (B : Int) (qr : Nat) (s1 : Int) (q1_ : Nat) (a2 : Int32) (w0 : va_W) : Int32 → va_W → Prop := fun r u => TW ksC ad cy (B + 2709) qr s1 u ∧ FE ksC [(1, 4, 4), (1, 5, 5), (1, 6, 6), (1, 7, 7), (1, 8, 8), (1, 9, 9), (9, 0, 0), (9, 1, 1), (9, 2, 2), (9, 3, 3), (9, 4, 4), (9, 5, 5), (9, 6, 6), (9, 7, 7), (9, 8, 8), (45, 0, 64), (46, 0, 301)] w0 u ∧ (((-298) ≤ r.toInt ∧ r.toInt ≤ 300 ∧ 1 ≤ a2.toInt ∧ (∃ y : Int32, gi u 149 9 = y ∧ 0 ≤ y.toInt ∧ y.toInt ≤ 0)) ∨ (r = (-2) ∧ (∃ y : Int32, gi u 149 9 = y ∧ 0 ≤ y.toInt ∧ y.toInt ≤ 0)) ∨ (0 ≤ r.toInt ∧ r.toInt ≤ 299 ∧ a2.toInt ≤ 0 ∧ (∃ y : Int32, gi u 149 9 = y ∧ 0 ≤ y.toInt ∧ y.toInt ≤ 0)))
set_option maxHeartbeats 4000000 in
set_option maxRecDepth 100000 in
theorem k_X8_tellCircle_1 (l : Launch) (adK adV : Nat → Nat) (dC : Nat → ClassId) (dI : Nat → Nat → Nat) (cy : Nat → ClassId) (ad : Nat → Nat) (B : Int) (hB0 : 2147483648 ≤ B) (hB1 : B ≤ 1152921504606844267) (qr : Nat) (s1 : Int)  (q1_ : Nat) (hkq1_ : ksC[q1_]? = some 9) (a2 : Int32) (ra2 : 0 ≤ a2.toInt) (ta2 : a2.toInt ≤ 1) (w0 : va_W) (sz : Nat) (hT : TW ksC ad cy B qr s1 w0)  : Met l yX8_tellCircle (wu yX8_tellCircle cX8_tellCircle 4 (some .int)) ({ frames := 7, cells := 0, slots := 0, locals := 158 }) (va_Pc [.ref (ad 151), .ref (ad q1_), .int a2] (wpreS adK adV dC dI cy sz w0)) (va_Qi (P_X8_tellCircle_1 ad cy B qr s1 q1_ a2 w0) (fun u : va_W => wpost dC dI cy (va_A w0 sz) u) (va_A w0 sz)) 0 0 (va_A w0 sz) := by
  refine Met.ofW (cc := cX8_tellCircle) (maxL := 4) (ret := (some .int)) (by decide) rfl ?_
  intro p e s m args below meth c s₁ Bk hml hv
  obtain ⟨rfl, ⟨hsz, hP, hK, hD0⟩, hE, hSR⟩ := hv
  have hx := Bk.exec
  have hb := Bk.bytes
  have hr := Bk.returns
  have hlocks := Bk.notSynchronized
  have hC : CallFix p m c cX8_tellCircle 4 s _ (wu yX8_tellCircle cX8_tellCircle 4 (some .int)) RX8 := ⟨hx, hb, hml, findClass_of_methodNamed Bk.named, atoms_spec (ws := (wu yX8_tellCircle cX8_tellCircle 4 (some .int))) Bk.pre⟩
  subst hsz
  have hD := hD0.self (sz := s.heap.size)
  generalize hAe : va_A w0 s.heap.size = A at hD hE ⊢
  have hA : ∀ q : Nat, s.heap.size ≤ q → A q := fun q h => by rw [← hAe]; exact Or.inr h
  have hw : Wd dC dI A s.heap s.heap [] w0 := ⟨hP, hD, va_S.rf⟩
  have hF : FE ksC [(1, 4, 4), (1, 5, 5), (1, 6, 6), (1, 7, 7), (1, 8, 8), (1, 9, 9), (9, 0, 0), (9, 1, 1), (9, 2, 2), (9, 3, 3), (9, 4, 4), (9, 5, 5), (9, 6, 6), (9, 7, 7), (9, 8, 8), (45, 0, 64), (46, 0, 301)] w0 w0 := FE.rf
  have hl := lv_entry ([.ref (ad 151), .ref (ad q1_), .int a2]) (n := 4) (Nat.le_of_ble_eq_true rfl)
  rw [lg_entry_eq]
  generalize (lg_sl ([.ref (ad 151), .ref (ad q1_), .int a2]) ++ List.replicate (4 - (lg_sl ([.ref (ad 151), .ref (ad q1_), .int a2])).length) Slot.unset).toArray = ls at hl ⊢
  have hl : lv_has ls 4 [(0, .ref (ad 151)), (1, .ref (ad q1_)), (2, .int a2)] := hl
  generalize hloc : ([] : List Loc) = locs at hw ⊢
  have hinX8 : ∀ w ∈ u_ws RX8 TX8 8, w ∈ (wu yX8_tellCircle cX8_tellCircle 4 (some .int)) := fun _ h => List.mem_cons_of_mem _ (up_79 h)
  have hinX1 : ∀ w ∈ u_ws RX1 TX1 10, w ∈ (wu yX8_tellCircle cX8_tellCircle 4 (some .int)) := fun _ h => List.mem_cons_of_mem _ (up_78 h)
  refine lv_aload_n hx hb dX8_tellCircle_0 rfl (lv_at hl 0 rfl) ?_
  refine tk_getA hC hK hw hT hinX8 kC_at151 (by decide) rfl 3 (by decide) (List.mem_cons_of_mem _ uw_5_8) rfl rfl dX8_tellCircle_1 ?_
  refine lv_aload_n hx hb dX8_tellCircle_4 rfl (lv_at hl 1 rfl) ?_
  refine tk_Vv hC hK hw hT hA hE hSR kC_at152 (by decide) rfl (k_X9_copyFrom_1 l adK adV dC dI cy ad B (by omega) (by omega) qr s1   q1_ hkq1_ w0 s.heap.size hT ) (cwV 1 hC.2.2.2.2 uV_RX8_37 rfl rfl rfl (by decide +kernel) ⟨Nat.le_of_ble_eq_true rfl, Nat.le_of_ble_eq_true rfl⟩) rfl hl.1 rfl (Nat.le_of_ble_eq_true rfl) dX8_tellCircle_5 (fun w3 H locs hp2 hw => ?_)
  obtain ⟨hT, k4, hg5⟩ := hp2
  have hF := hF.tr k4 (by decide)
  clear hg5
  refine lv_aload_n hx hb dX8_tellCircle_8 rfl (lv_at hl 0 rfl) ?_
  refine tk_getA hC hK hw hT hinX8 kC_at151 (by decide) rfl 2 (by decide) (List.mem_cons_of_mem _ uw_5_13) rfl rfl dX8_tellCircle_9 ?_
  refine lv_iconst (v := 1) hx hb dX8_tellCircle_12 (by decide) ?_
  refine tk_putz hC hK hw hT hinX1 tyX1_ok nmX1 kC_at149 (by decide) rfl rfl 9 (by decide) (List.mem_cons_of_mem _ uw_54_17) rfl rfl rfl rfl (by decide) (by decide) dX8_tellCircle_13 (fun H locs w6 hw hT k8 c7 => ?_)
  have hF := hF.put kC_at149 (k := 9) (by decide) k8
  refine lv_aload_n hx hb dX8_tellCircle_16 rfl (lv_at hl 0 rfl) ?_
  refine lv_iload_n hx hb dX8_tellCircle_17 rfl (lv_at hl 2 rfl) ?_
  refine tk_Vi hC hK hw hT hA hE hSR kC_at151 (by decide) rfl (k_X8_findCircle_1 l adK adV dC dI cy ad B (by omega) (by omega) qr s1   a2 (show 0 ≤ a2.toInt from ra2) (show a2.toInt ≤ 1 from ta2) w6 H.size hT ) (cwV 1 hC.2.2.2.2 uV_RX8_63 rfl rfl rfl (by decide +kernel) ⟨Nat.le_of_ble_eq_true rfl, Nat.le_of_ble_eq_true rfl⟩) rfl hl.1 rfl (Nat.le_of_ble_eq_true rfl) dX8_tellCircle_18 (fun r9 w11 H locs hp10 hw => ?_)
  obtain ⟨hT, k12, hg19⟩ := hp10
  have hF := hF.tr k12 (by decide)
  have c20 := k12.gi kC_at149 (by decide) c7
  rcases hg19 with ⟨g13, g14, g15⟩ | rfl | ⟨g16, g17, g18⟩
  · refine lv_istore_n (lv' := [(3, .int r9), (0, .ref (ad 151)), (1, .ref (ad q1_)), (2, .int a2)]) hx hb dX8_tellCircle_21 rfl hl (by decide) rfl (fun ls hl => ?_)
    refine lv_aload_n hx hb dX8_tellCircle_22 rfl (lv_at hl 1 rfl) ?_
    refine tk_getA hC hK hw hT hinX8 kC_at151 (by decide) rfl 2 (by decide) (List.mem_cons_of_mem _ uw_5_13) rfl rfl dX8_tellCircle_23 ?_
    refine lv_iconst (v := 0) hx hb dX8_tellCircle_26 (by decide) ?_
    refine tk_putz hC hK hw hT hinX1 tyX1_ok nmX1 kC_at149 (by decide) rfl rfl 9 (by decide) (List.mem_cons_of_mem _ uw_54_17) rfl rfl rfl rfl (by decide) (by decide) dX8_tellCircle_27 (fun H locs w21 hw hT k23 c22 => ?_)
    have hF := hF.put kC_at149 (k := 9) (by decide) k23
    refine lv_iload_n hx hb dX8_tellCircle_30 rfl (lv_at hl 0 rfl) ?_
    exact tk_iret hC hr hlocks hK ⟨hT, hF, (Or.inl ⟨(show (-298) ≤ r9.toInt by omega), (show r9.toInt ≤ 300 by omega), (show 1 ≤ a2.toInt by omega), ⟨0, c22, (by decide), (by decide)⟩⟩)⟩ hw dX8_tellCircle_31
  · refine lv_istore_n (lv' := [(3, .int (-2)), (0, .ref (ad 151)), (1, .ref (ad q1_)), (2, .int a2)]) hx hb dX8_tellCircle_21 rfl hl (by decide) rfl (fun ls hl => ?_)
    refine lv_aload_n hx hb dX8_tellCircle_22 rfl (lv_at hl 1 rfl) ?_
    refine tk_getA hC hK hw hT hinX8 kC_at151 (by decide) rfl 2 (by decide) (List.mem_cons_of_mem _ uw_5_13) rfl rfl dX8_tellCircle_23 ?_
    refine lv_iconst (v := 0) hx hb dX8_tellCircle_26 (by decide) ?_
    refine tk_putz hC hK hw hT hinX1 tyX1_ok nmX1 kC_at149 (by decide) rfl rfl 9 (by decide) (List.mem_cons_of_mem _ uw_54_17) rfl rfl rfl rfl (by decide) (by decide) dX8_tellCircle_27 (fun H locs w24 hw hT k26 c25 => ?_)
    have hF := hF.put kC_at149 (k := 9) (by decide) k26
    refine lv_iload_n hx hb dX8_tellCircle_30 rfl (lv_at hl 0 rfl) ?_
    exact tk_iret hC hr hlocks hK ⟨hT, hF, (Or.inr (Or.inl ⟨rfl, ⟨0, c25, (by decide), (by decide)⟩⟩))⟩ hw dX8_tellCircle_31
  · refine lv_istore_n (lv' := [(3, .int r9), (0, .ref (ad 151)), (1, .ref (ad q1_)), (2, .int a2)]) hx hb dX8_tellCircle_21 rfl hl (by decide) rfl (fun ls hl => ?_)
    refine lv_aload_n hx hb dX8_tellCircle_22 rfl (lv_at hl 1 rfl) ?_
    refine tk_getA hC hK hw hT hinX8 kC_at151 (by decide) rfl 2 (by decide) (List.mem_cons_of_mem _ uw_5_13) rfl rfl dX8_tellCircle_23 ?_
    refine lv_iconst (v := 0) hx hb dX8_tellCircle_26 (by decide) ?_
    refine tk_putz hC hK hw hT hinX1 tyX1_ok nmX1 kC_at149 (by decide) rfl rfl 9 (by decide) (List.mem_cons_of_mem _ uw_54_17) rfl rfl rfl rfl (by decide) (by decide) dX8_tellCircle_27 (fun H locs w27 hw hT k29 c28 => ?_)
    have hF := hF.put kC_at149 (k := 9) (by decide) k29
    refine lv_iload_n hx hb dX8_tellCircle_30 rfl (lv_at hl 0 rfl) ?_
    exact tk_iret hC hr hlocks hK ⟨hT, hF, (Or.inr (Or.inr ⟨(show 0 ≤ r9.toInt by omega), (show r9.toInt ≤ 299 by omega), (show a2.toInt ≤ 0 by omega), ⟨0, c28, (by decide), (by decide)⟩⟩))⟩ hw dX8_tellCircle_31
abbrev P_X11_round_1 (ad : Nat → Nat) (cy : Nat → ClassId) (B : Int) (qr : Nat) (s1 : Int) (a1 : Int32) (a2 : Int32) (w0 : va_W) : Int32 → va_W → Prop := fun r u => TW ksC ad cy (B + 2709) qr s1 u ∧ FE ksC [(1, 4, 4), (1, 5, 5), (1, 6, 6), (1, 7, 7), (1, 8, 8), (1, 9, 9), (9, 0, 0), (9, 1, 1), (9, 2, 2), (9, 3, 3), (9, 4, 4), (9, 5, 5), (9, 6, 6), (9, 7, 7), (9, 8, 8), (42, 0, 1100), (43, 0, 1100), (44, 0, 11), (45, 0, 64), (46, 0, 301)] w0 u ∧ (((-298) ≤ r.toInt ∧ r.toInt ≤ 300 ∧ 0 ≤ a1.toInt ∧ a1.toInt ≤ 3 ∧ 1 ≤ a2.toInt ∧ a2.toInt ≤ 1 ∧ (∃ y : Int32, gi u 149 9 = y ∧ 0 ≤ y.toInt ∧ y.toInt ≤ 0) ∧ (∃ y : Int32, gi u 38 9 = y ∧ 1 ≤ y.toInt ∧ y.toInt ≤ 4)) ∨ (r = (-2) ∧ 0 ≤ a1.toInt ∧ a1.toInt ≤ 3 ∧ 0 ≤ a2.toInt ∧ a2.toInt ≤ 1 ∧ (∃ y : Int32, gi u 149 9 = y ∧ 0 ≤ y.toInt ∧ y.toInt ≤ 0) ∧ (∃ y : Int32, gi u 38 9 = y ∧ 1 ≤ y.toInt ∧ y.toInt ≤ 4)) ∨ (0 ≤ r.toInt ∧ r.toInt ≤ 299 ∧ 0 ≤ a1.toInt ∧ a1.toInt ≤ 3 ∧ 0 ≤ a2.toInt ∧ a2.toInt ≤ 0 ∧ (∃ y : Int32, gi u 149 9 = y ∧ 0 ≤ y.toInt ∧ y.toInt ≤ 0) ∧ (∃ y : Int32, gi u 38 9 = y ∧ 1 ≤ y.toInt ∧ y.toInt ≤ 4)) ∨ (r = (-1)))
set_option maxHeartbeats 4000000 in
set_option maxRecDepth 100000 in
theorem k_X11_round_1 (l : Launch) (adK adV : Nat → Nat) (dC : Nat → ClassId) (dI : Nat → Nat → Nat) (cy : Nat → ClassId) (ad : Nat → Nat) (B : Int) (hB0 : 2147483648 ≤ B) (hB1 : B ≤ 1152921504606844267) (qr : Nat) (s1 : Int)  (a1 : Int32) (a2 : Int32) (w0 : va_W) (sz : Nat) (hT : TW ksC ad cy B qr s1 w0)  : Met l yX11_round (wu yX11_round cX11_round 3 (some .int)) ({ frames := 8, cells := 0, slots := 0, locals := 181 }) (va_Pc [.ref (ad 0), .int a1, .int a2] (wpreS adK adV dC dI cy sz w0)) (va_Qi (P_X11_round_1 ad cy B qr s1 a1 a2 w0) (fun u : va_W => wpost dC dI cy (va_A w0 sz) u) (va_A w0 sz)) 0 0 (va_A w0 sz) := by
  refine Met.ofW (cc := cX11_round) (maxL := 3) (ret := (some .int)) (by decide) rfl ?_
  intro p e s m args below meth c s₁ Bk hml hv
  obtain ⟨rfl, ⟨hsz, hP, hK, hD0⟩, hE, hSR⟩ := hv
  have hx := Bk.exec
  have hb := Bk.bytes
  have hr := Bk.returns
  have hlocks := Bk.notSynchronized
  have hC : CallFix p m c cX11_round 3 s _ (wu yX11_round cX11_round 3 (some .int)) RX11 := ⟨hx, hb, hml, findClass_of_methodNamed Bk.named, atoms_spec (ws := (wu yX11_round cX11_round 3 (some .int))) Bk.pre⟩
  subst hsz
  have hD := hD0.self (sz := s.heap.size)
  generalize hAe : va_A w0 s.heap.size = A at hD hE ⊢
  have hA : ∀ q : Nat, s.heap.size ≤ q → A q := fun q h => by rw [← hAe]; exact Or.inr h
  have hw : Wd dC dI A s.heap s.heap [] w0 := ⟨hP, hD, va_S.rf⟩
  have hF : FE ksC [(1, 4, 4), (1, 5, 5), (1, 6, 6), (1, 7, 7), (1, 8, 8), (1, 9, 9), (9, 0, 0), (9, 1, 1), (9, 2, 2), (9, 3, 3), (9, 4, 4), (9, 5, 5), (9, 6, 6), (9, 7, 7), (9, 8, 8), (42, 0, 1100), (43, 0, 1100), (44, 0, 11), (45, 0, 64), (46, 0, 301)] w0 w0 := FE.rf
  have hl := lv_entry ([.ref (ad 0), .int a1, .int a2]) (n := 3) (Nat.le_of_ble_eq_true rfl)
  rw [lg_entry_eq]
  generalize (lg_sl ([.ref (ad 0), .int a1, .int a2]) ++ List.replicate (3 - (lg_sl ([.ref (ad 0), .int a1, .int a2])).length) Slot.unset).toArray = ls at hl ⊢
  have hl : lv_has ls 3 [(0, .ref (ad 0)), (1, .int a1), (2, .int a2)] := hl
  generalize hloc : ([] : List Loc) = locs at hw ⊢
  have hinX11 : ∀ w ∈ u_ws RX11 TX11 13, w ∈ (wu yX11_round cX11_round 3 (some .int)) := fun _ h => List.mem_cons_of_mem _ (up_70 h)
  have hinX5 : ∀ w ∈ u_ws RX5 TX5 14, w ∈ (wu yX11_round cX11_round 3 (some .int)) := fun _ h => List.mem_cons_of_mem _ (up_76 h)
  have J17 : ∀ (H : Heap) (locs : List Loc) (ls : Array Slot) (w1 : va_W), Wd dC dI A s.heap H locs w1 → TW ksC ad cy B qr s1 w1 → FE ksC [(1, 4, 4), (1, 5, 5), (1, 6, 6), (1, 7, 7), (1, 8, 8), (1, 9, 9), (9, 0, 0), (9, 1, 1), (9, 2, 2), (9, 3, 3), (9, 4, 4), (9, 5, 5), (9, 6, 6), (9, 7, 7), (9, 8, 8), (42, 0, 1100), (43, 0, 1100), (44, 0, 11), (45, 0, 64), (46, 0, 301)] w0 w1 → lv_has ls 3 [(0, .ref (ad 0)), (1, .int a1), (2, .int a2)] → W p l e ({ frames := 8, cells := 0, slots := 0, locals := 181 }) s m (List.toArray [.ref (ad 0), .int a1, .int a2]) below meth c H locs 0 0 (MQ below (va_Qi (P_X11_round_1 ad cy B qr s1 a1 a2 w0) (fun u : va_W => wpost dC dI cy A u) A) (List.toArray [.ref (ad 0), .int a1, .int a2]) s 0 0 A) (F0 m 17 ls []) := by
    intro H locs ls w1 hw hT hF hl
    refine lv_iconst (v := (-1)) hx hb dX11_round_17 (by decide) ?_
    exact tk_iret hC hr hlocks hK ⟨(hT.up (show B ≤ (B + 2709) by omega)), hF, (Or.inr (Or.inr (Or.inr rfl)))⟩ hw dX11_round_18
  refine lv_aload_n hx hb dX11_round_0 rfl (lv_at hl 0 rfl) ?_
  refine lv_iload_n hx hb dX11_round_1 rfl (lv_at hl 1 rfl) ?_
  refine tk_Vi hC hK hw hT hA hE hSR kC_at0 (by decide) rfl (k_X11_hasWalker_1 l adK adV dC dI cy ad B (by omega) (by omega) qr s1   a1 w0 s.heap.size hT ) (cwV 1 hC.2.2.2.2 uV_RX11_205 rfl rfl rfl (by decide +kernel) ⟨Nat.le_of_ble_eq_true rfl, Nat.le_of_ble_eq_true rfl⟩) rfl hl.1 rfl (Nat.le_of_ble_eq_true rfl) dX11_round_2 (fun r2 w4 H locs hp3 hw => ?_)
  obtain ⟨hT, k5, hg10⟩ := hp3
  have hF := hF.tr k5 (by decide)
  rcases hg10 with rfl | ⟨rfl, g6, g7, ⟨x8, c9, rx8, tx8⟩⟩
  · refine lv_if_eq (tgt := 17) hx hb dX11_round_5 (by decide) (fun _ => ?_) (fun c => absurd (by decide) c)
    exact J17  H locs ls w4   hw hT hF  (lv_sub hl [0, 1, 2] rfl)
  · refine lv_if_eq (tgt := 17) hx hb dX11_round_5 (by decide) (fun c => absurd c (by decide)) (fun _ => ?_)
    refine lv_iload_n hx hb dX11_round_8 rfl (lv_at hl 2 rfl) ?_
    refine lv_if_lt (tgt := 17) hx hb dX11_round_9 (by decide) (fun c11 => ?_) (fun c11 => ?_)
    · have c11 : a2.toInt < (0 : Int) := wk_lt.mp c11
      exact J17  H locs ls w4   hw hT hF  (lv_sub hl [0, 1, 2] rfl)
    · have c11 : (0 : Int) ≤ a2.toInt := wk_ltF c11
      refine lv_iload_n hx hb dX11_round_12 rfl (lv_at hl 2 rfl) ?_
      refine lv_iconst (v := 1) hx hb dX11_round_13 (by decide) ?_
      refine lv_icmp_le (tgt := 19) hx hb dX11_round_14 (by decide) (fun c12 => ?_) (fun c12 => ?_)
      · have c12 : a2.toInt ≤ (1 : Int) := wk_le.mp c12
        refine lv_aload_n hx hb dX11_round_19 rfl (lv_at hl 0 rfl) ?_
        refine tk_getA hC hK hw hT hinX11 kC_at0 (by decide) rfl 7 (by decide) (List.mem_cons_of_mem _ uw_1_14) rfl rfl dX11_round_20 ?_
        refine tk_Vv hC hK hw hT hA hE hSR kC_at145 (by decide) rfl (k_X0_refreshAll_1 l adK adV dC dI cy ad B (by omega) (by omega) qr s1    w4 H.size hT ) (cwV 0 hC.2.2.2.2 uV_RX11_212 rfl rfl rfl (by decide +kernel) ⟨Nat.le_of_ble_eq_true rfl, Nat.le_of_ble_eq_true rfl⟩) rfl hl.1 rfl (Nat.le_of_ble_eq_true rfl) dX11_round_23 (fun w15 H locs hp14 hw => ?_)
        obtain ⟨hT, k16, hg17⟩ := hp14
        have hF := hF.tr k16 (by decide)
        have c18 := k16.gi kC_at38 (by decide) c9
        clear hg17
        refine lv_aload_n hx hb dX11_round_26 rfl (lv_at hl 0 rfl) ?_
        refine tk_getA hC hK hw hT hinX11 kC_at0 (by decide) rfl 9 (by decide) (List.mem_cons_of_mem _ uw_1_22) rfl rfl dX11_round_27 ?_
        refine lv_aload_n hx hb dX11_round_30 rfl (lv_at hl 0 rfl) ?_
        refine tk_getA hC hK hw hT hinX11 kC_at0 (by decide) rfl 4 (by decide) (List.mem_cons_of_mem _ uw_1_7) rfl rfl dX11_round_31 ?_
        refine tk_getO hC hK hw hT hinX5 kC_at38 (by decide) rfl 2 (by decide) (List.mem_cons_of_mem _ uw_39_0) rfl rfl dX11_round_34 ?_
        refine lv_iload_n hx hb dX11_round_37 rfl (lv_at hl 1 rfl) ?_
        refine tk_aald hC hK hw hT kC_at49 rfl (by decide) rfl (show 0 ≤ a1.toInt by omega) (show a1.toInt < 4 by omega) dX11_round_38 (fun j19 hj19 gj19 => ?_)
        refine lv_iload_n hx hb dX11_round_39 rfl (lv_at hl 2 rfl) ?_
        refine tk_Vi hC hK hw hT hA hE hSR kC_at151 (by decide) rfl (k_X8_tellCircle_1 l adK adV dC dI cy ad B (by omega) (by omega) qr s1   (el 33 49 j19) (kC_el33 kC_at49 hj19) a2 (show 0 ≤ a2.toInt from c11) (show a2.toInt ≤ 1 from c12) w15 H.size hT ) (cwV 2 hC.2.2.2.2 uV_RX11_236 rfl rfl rfl (by decide +kernel) ⟨Nat.le_of_ble_eq_true rfl, Nat.le_of_ble_eq_true rfl⟩) rfl hl.1 rfl (Nat.le_of_ble_eq_true rfl) dX11_round_40 (fun r20 w22 H locs hp21 hw => ?_)
        obtain ⟨hT, k23, hg36⟩ := hp21
        have hF := hF.tr k23 (by decide)
        have c37 := k23.gi kC_at38 (by decide) c18
        rcases hg36 with ⟨g24, g25, g26, ⟨x27, c28, rx27, tx27⟩⟩ | ⟨rfl, ⟨x29, c30, rx29, tx29⟩⟩ | ⟨g31, g32, g33, ⟨x34, c35, rx34, tx34⟩⟩
        · exact tk_iret hC hr hlocks hK ⟨hT, hF, (Or.inl ⟨(show (-298) ≤ r20.toInt by omega), (show r20.toInt ≤ 300 by omega), (show 0 ≤ a1.toInt by omega), (show a1.toInt ≤ 3 by omega), (show 1 ≤ a2.toInt by omega), (show a2.toInt ≤ 1 from c12), ⟨x27, c28, (show 0 ≤ x27.toInt by omega), (show x27.toInt ≤ 0 by omega)⟩, ⟨x8, c37, (show 1 ≤ x8.toInt by omega), (show x8.toInt ≤ 4 by omega)⟩⟩)⟩ hw dX11_round_43
        · exact tk_iret hC hr hlocks hK ⟨hT, hF, (Or.inr (Or.inl ⟨rfl, (show 0 ≤ a1.toInt by omega), (show a1.toInt ≤ 3 by omega), (show 0 ≤ a2.toInt from c11), (show a2.toInt ≤ 1 from c12), ⟨x29, c30, (show 0 ≤ x29.toInt by omega), (show x29.toInt ≤ 0 by omega)⟩, ⟨x8, c37, (show 1 ≤ x8.toInt by omega), (show x8.toInt ≤ 4 by omega)⟩⟩))⟩ hw dX11_round_43
        · exact tk_iret hC hr hlocks hK ⟨hT, hF, (Or.inr (Or.inr (Or.inl ⟨(show 0 ≤ r20.toInt by omega), (show r20.toInt ≤ 299 by omega), (show 0 ≤ a1.toInt by omega), (show a1.toInt ≤ 3 by omega), (show 0 ≤ a2.toInt from c11), (show a2.toInt ≤ 0 by omega), ⟨x34, c35, (show 0 ≤ x34.toInt by omega), (show x34.toInt ≤ 0 by omega)⟩, ⟨x8, c37, (show 1 ≤ x8.toInt by omega), (show x8.toInt ≤ 4 by omega)⟩⟩)))⟩ hw dX11_round_43
      · have c12 : (1 : Int) < a2.toInt := wk_leF c12
        exact J17  H locs ls w4   hw hT hF  (lv_sub hl [0, 1, 2] rfl)
abbrev P_X8_note_1 (ad : Nat → Nat) (cy : Nat → ClassId) (B : Int) (qr : Nat) (s1 : Int) (a1 : Int64) (a2 : Int32) (a3 : Int32) (a4 : Int32) (a5 : Int32) (w0 : va_W) : va_W → Prop := fun u => TW ksC ad cy B qr s1 u ∧ FE ksC [(47, 0, 2420)] w0 u ∧ ((True))
set_option maxHeartbeats 4000000 in
set_option maxRecDepth 100000 in
theorem k_X8_note_1 (l : Launch) (adK adV : Nat → Nat) (dC : Nat → ClassId) (dI : Nat → Nat → Nat) (cy : Nat → ClassId) (ad : Nat → Nat) (B : Int) (hB0 : 2147483648 ≤ B) (hB1 : B ≤ 1152921504606846976) (qr : Nat) (s1 : Int)  (a1 : Int64) (ra1 : 0 ≤ a1.toInt) (ta1 : a1.toInt ≤ 2305843009213693952) (a2 : Int32) (ra2 : 0 ≤ a2.toInt) (ta2 : a2.toInt ≤ 120) (a3 : Int32) (ra3 : 0 ≤ a3.toInt) (ta3 : a3.toInt ≤ 9) (a4 : Int32) (ra4 : 0 ≤ a4.toInt) (ta4 : a4.toInt ≤ 18) (a5 : Int32) (ra5 : 0 ≤ a5.toInt) (ta5 : a5.toInt ≤ 999999) (w0 : va_W) (sz : Nat) (hT : TW ksC ad cy B qr s1 w0)  : Met l yX8_note (wu yX8_note cX8_note 9 none) ({ frames := 1, cells := 0, slots := 0, locals := 21 }) (va_Pc [.ref (ad 151), .long a1, .int a2, .int a3, .int a4, .int a5] (wpreS adK adV dC dI cy sz w0)) (va_Qv (P_X8_note_1 ad cy B qr s1 a1 a2 a3 a4 a5 w0) (fun u : va_W => wpost dC dI cy (va_A w0 sz) u) (va_A w0 sz)) 0 0 (va_A w0 sz) := by
  refine Met.ofW (cc := cX8_note) (maxL := 9) (ret := none) (by decide) rfl ?_
  intro p e s m args below meth c s₁ Bk hml hv
  obtain ⟨rfl, ⟨hsz, hP, hK, hD0⟩, hE, hSR⟩ := hv
  have hx := Bk.exec
  have hb := Bk.bytes
  have hr := Bk.returns
  have hlocks := Bk.notSynchronized
  have hC : CallFix p m c cX8_note 9 s _ (wu yX8_note cX8_note 9 none) RX8 := ⟨hx, hb, hml, findClass_of_methodNamed Bk.named, atoms_spec (ws := (wu yX8_note cX8_note 9 none)) Bk.pre⟩
  subst hsz
  have hD := hD0.self (sz := s.heap.size)
  generalize hAe : va_A w0 s.heap.size = A at hD hE ⊢
  have hA : ∀ q : Nat, s.heap.size ≤ q → A q := fun q h => by rw [← hAe]; exact Or.inr h
  have hw : Wd dC dI A s.heap s.heap [] w0 := ⟨hP, hD, va_S.rf⟩
  have hF : FE ksC [(47, 0, 2420)] w0 w0 := FE.rf
  have hl := lv_entry ([.ref (ad 151), .long a1, .int a2, .int a3, .int a4, .int a5]) (n := 9) (Nat.le_of_ble_eq_true rfl)
  rw [lg_entry_eq]
  generalize (lg_sl ([.ref (ad 151), .long a1, .int a2, .int a3, .int a4, .int a5]) ++ List.replicate (9 - (lg_sl ([.ref (ad 151), .long a1, .int a2, .int a3, .int a4, .int a5])).length) Slot.unset).toArray = ls at hl ⊢
  have hl : lv_has ls 9 [(0, .ref (ad 151)), (1, .long a1), (3, .int a2), (4, .int a3), (5, .int a4), (6, .int a5)] := hl
  generalize hloc : ([] : List Loc) = locs at hw ⊢
  have hinX8 : ∀ w ∈ u_ws RX8 TX8 8, w ∈ (wu yX8_note cX8_note 9 none) := fun _ h => List.mem_cons_of_mem _ (up_79 h)
  refine lv_iload_n hx hb dX8_note_0 rfl (lv_at hl 2 rfl) ?_
  refine lv_iload hx hb dX8_note_1 (lv_at hl 3 rfl) ?_
  refine lv_iadd hx hb dX8_note_3 ?_
  refine lv_topi (fun x1 ex1 => ?_)
  have ex1 : x1.toInt = a2.toInt + a3.toInt := by rw [ex1]; exact wk_add (show (-2147483648) ≤ a2.toInt + a3.toInt by omega) (show a2.toInt + a3.toInt ≤ 2147483647 by omega)
  refine lv_aload_n hx hb dX8_note_4 rfl (lv_at hl 0 rfl) ?_
  refine tk_geti hC hK hw hT hinX8 kC_at151 (by decide) rfl 6 (by decide) (List.mem_cons_of_mem _ uw_55_22) rfl rfl dX8_note_5 (fun x2 c3 rx2 tx2 => ?_)
  refine lv_icmp_le (tgt := 12) hx hb dX8_note_8 (by decide) (fun c4 => ?_) (fun c4 => ?_)
  · have c4 : x1.toInt ≤ x2.toInt := wk_le.mp c4
    refine lv_lload_n hx hb dX8_note_12 rfl (lv_at hl 1 rfl) ?_
    refine lv_ldc2 (v := 24) hx hb hC.2.2.2.1 (hC.2.2.2.2 _ (List.mem_cons_of_mem _ uw_56_12)) dX8_note_13 ?_
    refine lv_ldiv hx hb dX8_note_16 (by decide) ?_
    refine lv_topl (fun x5 ex5 => ?_)
    have ex5 : x5.toInt = a1.toInt / (24 : Int) := by rw [ex5]; exact wk_divl (show 0 ≤ a1.toInt from ra1) (show 0 < (24 : Int) by decide)
    refine lv_lload_n hx hb dX8_note_17 rfl (lv_at hl 1 rfl) ?_
    refine lv_iload hx hb dX8_note_18 (lv_at hl 3 rfl) ?_
    refine lv_i2l hx hb dX8_note_20 rfl ?_
    refine lv_topl (fun x6 ex6 => ?_)
    have ex6 : x6.toInt = a3.toInt := by rw [ex6]; exact wk_i2l _
    have bx6 := wk_i32 a3
    refine lv_ladd hx hb dX8_note_21 ?_
    refine lv_topl (fun x7 ex7 => ?_)
    have ex7 : x7.toInt = a1.toInt + x6.toInt := by rw [ex7]; exact wk_addl (show (-9223372036854775808) ≤ a1.toInt + x6.toInt by omega) (show a1.toInt + x6.toInt ≤ 9223372036854775807 by omega)
    refine lv_ldc2 (v := 24) hx hb hC.2.2.2.1 (hC.2.2.2.2 _ (List.mem_cons_of_mem _ uw_56_12)) dX8_note_22 ?_
    refine lv_ldiv hx hb dX8_note_25 (by decide) ?_
    refine lv_topl (fun x8 ex8 => ?_)
    have ex8 : x8.toInt = x7.toInt / (24 : Int) := by rw [ex8]; exact wk_divl (show 0 ≤ x7.toInt by omega) (show 0 < (24 : Int) by decide)
    refine W.lcmp hx hb dX8_note_26 ?_
    refine lv_if_ne (tgt := 34) hx hb dX8_note_27 (by decide) (fun c9 => ?_) (fun c9 => ?_)
    · have c9 : ¬ x5.toInt = x8.toInt := wk_ceF c9
      refine lv_iconst (v := 0) hx hb dX8_note_34 (by decide) ?_
      refine lv_istore (lv' := [(7, .int 0), (0, .ref (ad 151)), (1, .long a1), (3, .int a2), (4, .int a3), (5, .int a4), (6, .int a5)]) hx hb dX8_note_35 hl (by decide) rfl (fun ls hl => ?_)
      refine lv_iload_n hx hb dX8_note_37 rfl (lv_at hl 3 rfl) ?_
      refine lv_iload hx hb dX8_note_38 (lv_at hl 4 rfl) ?_
      refine lv_iadd hx hb dX8_note_40 ?_
      refine lv_topi (fun x10 ex10 => ?_)
      have ex10 : x10.toInt = a2.toInt + a3.toInt := by rw [ex10]; exact wk_add (show (-2147483648) ≤ a2.toInt + a3.toInt by omega) (show a2.toInt + a3.toInt ≤ 2147483647 by omega)
      refine lv_bipush (v := 20) hx hb dX8_note_41 (by decide) ?_
      refine lv_imul hx hb dX8_note_43 ?_
      refine lv_topi (fun x11 ex11 => ?_)
      have ex11 : x11.toInt = x10.toInt * (20 : Int) := by rw [ex11]; exact wk_mul (show (-2147483648) ≤ x10.toInt * (20 : Int) by omega) (show x10.toInt * (20 : Int) ≤ 2147483647 by omega)
      refine lv_iload hx hb dX8_note_44 (lv_at hl 0 rfl) ?_
      refine lv_if_eq (tgt := 54) hx hb dX8_note_46 (by decide) (fun _ => ?_) (fun c => absurd (by decide) c)
      refine lv_iload hx hb dX8_note_54 (lv_at hl 5 rfl) ?_
      refine lv_iload hx hb dX8_note_56 (lv_at hl 5 rfl) ?_
      refine lv_iconst (v := 2) hx hb dX8_note_58 (by decide) ?_
      refine lv_irem hx hb dX8_note_59 (by decide) ?_
      refine lv_topi (fun x12 ex12 => ?_)
      have ex12 : x12.toInt = a4.toInt % (2 : Int) := by rw [ex12]; exact wk_rem (show 0 ≤ a4.toInt from ra4) (show 0 < (2 : Int) by decide)
      refine lv_isub hx hb dX8_note_60 ?_
      refine lv_topi (fun x13 ex13 => ?_)
      have ex13 : x13.toInt = a4.toInt - x12.toInt := by rw [ex13]; exact wk_sub (show (-2147483648) ≤ a4.toInt - x12.toInt by omega) (show a4.toInt - x12.toInt ≤ 2147483647 by omega)
      refine lv_iadd hx hb dX8_note_61 ?_
      refine lv_topi (fun x14 ex14 => ?_)
      have ex14 : x14.toInt = x11.toInt + x13.toInt := by rw [ex14]; exact wk_add (show (-2147483648) ≤ x11.toInt + x13.toInt by omega) (show x11.toInt + x13.toInt ≤ 2147483647 by omega)
      refine lv_istore (lv' := [(8, .int x14), (7, .int 0), (0, .ref (ad 151)), (1, .long a1), (3, .int a2), (4, .int a3), (5, .int a4), (6, .int a5)]) hx hb dX8_note_62 hl (by decide) rfl (fun ls hl => ?_)
      refine lv_aload_n hx hb dX8_note_64 rfl (lv_at hl 2 rfl) ?_
      refine tk_getA hC hK hw hT hinX8 kC_at151 (by decide) rfl 5 (by decide) (List.mem_cons_of_mem _ uw_5_10) rfl rfl dX8_note_65 ?_
      refine lv_iload hx hb dX8_note_68 (lv_at hl 0 rfl) ?_
      refine lv_aload_n hx hb dX8_note_70 rfl (lv_at hl 2 rfl) ?_
      refine tk_getA hC hK hw hT hinX8 kC_at151 (by decide) rfl 5 (by decide) (List.mem_cons_of_mem _ uw_5_10) rfl rfl dX8_note_71 ?_
      refine lv_iload hx hb dX8_note_74 (lv_at hl 0 rfl) ?_
      refine tk_iald hC hK hw hT kC_at154 rfl rfl (show 0 ≤ x14.toInt by omega) (show x14.toInt < 2420 by omega) dX8_note_76 (fun x15 c16 rx15 tx15 => ?_)
      refine lv_iload hx hb dX8_note_77 (lv_at hl 7 rfl) ?_
      refine va_mmin hx hb (hC.2.2.1.trans hl.1.symm) hC.2.2.2.1 (hC.2.2.2.2 _ (List.mem_cons_of_mem _ uw_56_19)) (hC.2.2.2.2 _ (List.mem_cons_of_mem _ uw_14_19)) (hC.2.2.2.2 _ (List.mem_cons_of_mem _ uw_14_16)) (hC.2.2.2.2 _ (List.mem_cons_of_mem _ uw_14_20)) (Nat.le_of_ble_eq_true rfl) (Nat.le_of_ble_eq_true rfl) (Nat.zero_le _) (Nat.zero_le _) dX8_note_79 ?_
      refine lv_topi (fun x17 ex17 => ?_)
      have bx17 : (x17.toInt = x15.toInt ∧ x15.toInt ≤ a5.toInt) ∨ (x17.toInt = a5.toInt ∧ a5.toInt < x15.toInt) := by rw [ex17]; exact wk_min
      refine tk_iast hC hK hw hT kC_at154 (by decide) rfl rfl (show 0 ≤ x14.toInt by omega) (show x14.toInt < 2420 by omega) (show 0 ≤ x17.toInt by omega) (show x17.toInt ≤ 1000000 by omega) dX8_note_82 (fun H locs w18 hw hT k20 c19 => ?_)
      have hF := hF.put kC_at154 (inE_of (a := 0) (b := 2420) (by decide) (show 0 ≤ x14.toInt.toNat by omega) (show x14.toInt.toNat ≤ 2420 by omega)) k20
      have c21 := k20.gi (Or.inl (tk_ne kC_at151 kC_at154 (by decide))) c3
      exact tk_vret hC hr hlocks hK ⟨hT, hF, trivial⟩ hw dX8_note_83
    · have c9 : x5.toInt = x8.toInt := wk_ceT c9
      refine lv_iconst (v := 1) hx hb dX8_note_30 (by decide) ?_
      refine lv_goto (tgt := 35) hx hb dX8_note_31 (by decide) ?_
      refine lv_istore (lv' := [(7, .int 1), (0, .ref (ad 151)), (1, .long a1), (3, .int a2), (4, .int a3), (5, .int a4), (6, .int a5)]) hx hb dX8_note_35 hl (by decide) rfl (fun ls hl => ?_)
      refine lv_iload_n hx hb dX8_note_37 rfl (lv_at hl 3 rfl) ?_
      refine lv_iload hx hb dX8_note_38 (lv_at hl 4 rfl) ?_
      refine lv_iadd hx hb dX8_note_40 ?_
      refine lv_topi (fun x22 ex22 => ?_)
      have ex22 : x22.toInt = a2.toInt + a3.toInt := by rw [ex22]; exact wk_add (show (-2147483648) ≤ a2.toInt + a3.toInt by omega) (show a2.toInt + a3.toInt ≤ 2147483647 by omega)
      refine lv_bipush (v := 20) hx hb dX8_note_41 (by decide) ?_
      refine lv_imul hx hb dX8_note_43 ?_
      refine lv_topi (fun x23 ex23 => ?_)
      have ex23 : x23.toInt = x22.toInt * (20 : Int) := by rw [ex23]; exact wk_mul (show (-2147483648) ≤ x22.toInt * (20 : Int) by omega) (show x22.toInt * (20 : Int) ≤ 2147483647 by omega)
      refine lv_iload hx hb dX8_note_44 (lv_at hl 0 rfl) ?_
      refine lv_if_eq (tgt := 54) hx hb dX8_note_46 (by decide) (fun c => absurd c (by decide)) (fun _ => ?_)
      refine lv_iload hx hb dX8_note_49 (lv_at hl 5 rfl) ?_
      refine lv_goto (tgt := 61) hx hb dX8_note_51 (by decide) ?_
      refine lv_iadd hx hb dX8_note_61 ?_
      refine lv_topi (fun x24 ex24 => ?_)
      have ex24 : x24.toInt = x23.toInt + a4.toInt := by rw [ex24]; exact wk_add (show (-2147483648) ≤ x23.toInt + a4.toInt by omega) (show x23.toInt + a4.toInt ≤ 2147483647 by omega)
      refine lv_istore (lv' := [(8, .int x24), (7, .int 1), (0, .ref (ad 151)), (1, .long a1), (3, .int a2), (4, .int a3), (5, .int a4), (6, .int a5)]) hx hb dX8_note_62 hl (by decide) rfl (fun ls hl => ?_)
      refine lv_aload_n hx hb dX8_note_64 rfl (lv_at hl 2 rfl) ?_
      refine tk_getA hC hK hw hT hinX8 kC_at151 (by decide) rfl 5 (by decide) (List.mem_cons_of_mem _ uw_5_10) rfl rfl dX8_note_65 ?_
      refine lv_iload hx hb dX8_note_68 (lv_at hl 0 rfl) ?_
      refine lv_aload_n hx hb dX8_note_70 rfl (lv_at hl 2 rfl) ?_
      refine tk_getA hC hK hw hT hinX8 kC_at151 (by decide) rfl 5 (by decide) (List.mem_cons_of_mem _ uw_5_10) rfl rfl dX8_note_71 ?_
      refine lv_iload hx hb dX8_note_74 (lv_at hl 0 rfl) ?_
      refine tk_iald hC hK hw hT kC_at154 rfl rfl (show 0 ≤ x24.toInt by omega) (show x24.toInt < 2420 by omega) dX8_note_76 (fun x25 c26 rx25 tx25 => ?_)
      refine lv_iload hx hb dX8_note_77 (lv_at hl 7 rfl) ?_
      refine va_mmin hx hb (hC.2.2.1.trans hl.1.symm) hC.2.2.2.1 (hC.2.2.2.2 _ (List.mem_cons_of_mem _ uw_56_19)) (hC.2.2.2.2 _ (List.mem_cons_of_mem _ uw_14_19)) (hC.2.2.2.2 _ (List.mem_cons_of_mem _ uw_14_16)) (hC.2.2.2.2 _ (List.mem_cons_of_mem _ uw_14_20)) (Nat.le_of_ble_eq_true rfl) (Nat.le_of_ble_eq_true rfl) (Nat.zero_le _) (Nat.zero_le _) dX8_note_79 ?_
      refine lv_topi (fun x27 ex27 => ?_)
      have bx27 : (x27.toInt = x25.toInt ∧ x25.toInt ≤ a5.toInt) ∨ (x27.toInt = a5.toInt ∧ a5.toInt < x25.toInt) := by rw [ex27]; exact wk_min
      refine tk_iast hC hK hw hT kC_at154 (by decide) rfl rfl (show 0 ≤ x24.toInt by omega) (show x24.toInt < 2420 by omega) (show 0 ≤ x27.toInt by omega) (show x27.toInt ≤ 1000000 by omega) dX8_note_82 (fun H locs w28 hw hT k30 c29 => ?_)
      have hF := hF.put kC_at154 (inE_of (a := 0) (b := 2420) (by decide) (show 0 ≤ x24.toInt.toNat by omega) (show x24.toInt.toNat ≤ 2420 by omega)) k30
      have c31 := k30.gi (Or.inl (tk_ne kC_at151 kC_at154 (by decide))) c3
      exact tk_vret hC hr hlocks hK ⟨hT, hF, trivial⟩ hw dX8_note_83
  · have c4 : x2.toInt < x1.toInt := wk_leF c4
    exact tk_vret hC hr hlocks hK ⟨hT, hF, trivial⟩ hw dX8_note_11
abbrev P_X8_note_2 (ad : Nat → Nat) (cy : Nat → ClassId) (B : Int) (qr : Nat) (s1 : Int) (a1 : Int64) (a2 : Int32) (a3 : Int32) (a4 : Int32) (a5 : Int32) (w0 : va_W) : va_W → Prop := fun u => TW ksC ad cy B qr s1 u ∧ FE ksC [(47, 0, 2420)] w0 u ∧ ((True))
set_option maxHeartbeats 4000000 in
set_option maxRecDepth 100000 in
theorem k_X8_note_2 (l : Launch) (adK adV : Nat → Nat) (dC : Nat → ClassId) (dI : Nat → Nat → Nat) (cy : Nat → ClassId) (ad : Nat → Nat) (B : Int) (hB0 : 2147483648 ≤ B) (hB1 : B ≤ 1152921504606846976) (qr : Nat) (s1 : Int)  (a1 : Int64) (ra1 : 0 ≤ a1.toInt) (ta1 : a1.toInt ≤ 2305843009213693952) (a2 : Int32) (ra2 : 0 ≤ a2.toInt) (ta2 : a2.toInt ≤ 120) (a3 : Int32) (ra3 : 0 ≤ a3.toInt) (ta3 : a3.toInt ≤ 9) (a4 : Int32) (ra4 : 1 ≤ a4.toInt) (ta4 : a4.toInt ≤ 19) (a5 : Int32) (ra5 : 0 ≤ a5.toInt) (ta5 : a5.toInt ≤ 999999) (w0 : va_W) (sz : Nat) (hT : TW ksC ad cy B qr s1 w0)  : Met l yX8_note (wu yX8_note cX8_note 9 none) ({ frames := 1, cells := 0, slots := 0, locals := 21 }) (va_Pc [.ref (ad 151), .long a1, .int a2, .int a3, .int a4, .int a5] (wpreS adK adV dC dI cy sz w0)) (va_Qv (P_X8_note_2 ad cy B qr s1 a1 a2 a3 a4 a5 w0) (fun u : va_W => wpost dC dI cy (va_A w0 sz) u) (va_A w0 sz)) 0 0 (va_A w0 sz) := by
  refine Met.ofW (cc := cX8_note) (maxL := 9) (ret := none) (by decide) rfl ?_
  intro p e s m args below meth c s₁ Bk hml hv
  obtain ⟨rfl, ⟨hsz, hP, hK, hD0⟩, hE, hSR⟩ := hv
  have hx := Bk.exec
  have hb := Bk.bytes
  have hr := Bk.returns
  have hlocks := Bk.notSynchronized
  have hC : CallFix p m c cX8_note 9 s _ (wu yX8_note cX8_note 9 none) RX8 := ⟨hx, hb, hml, findClass_of_methodNamed Bk.named, atoms_spec (ws := (wu yX8_note cX8_note 9 none)) Bk.pre⟩
  subst hsz
  have hD := hD0.self (sz := s.heap.size)
  generalize hAe : va_A w0 s.heap.size = A at hD hE ⊢
  have hA : ∀ q : Nat, s.heap.size ≤ q → A q := fun q h => by rw [← hAe]; exact Or.inr h
  have hw : Wd dC dI A s.heap s.heap [] w0 := ⟨hP, hD, va_S.rf⟩
  have hF : FE ksC [(47, 0, 2420)] w0 w0 := FE.rf
  have hl := lv_entry ([.ref (ad 151), .long a1, .int a2, .int a3, .int a4, .int a5]) (n := 9) (Nat.le_of_ble_eq_true rfl)
  rw [lg_entry_eq]
  generalize (lg_sl ([.ref (ad 151), .long a1, .int a2, .int a3, .int a4, .int a5]) ++ List.replicate (9 - (lg_sl ([.ref (ad 151), .long a1, .int a2, .int a3, .int a4, .int a5])).length) Slot.unset).toArray = ls at hl ⊢
  have hl : lv_has ls 9 [(0, .ref (ad 151)), (1, .long a1), (3, .int a2), (4, .int a3), (5, .int a4), (6, .int a5)] := hl
  generalize hloc : ([] : List Loc) = locs at hw ⊢
  have hinX8 : ∀ w ∈ u_ws RX8 TX8 8, w ∈ (wu yX8_note cX8_note 9 none) := fun _ h => List.mem_cons_of_mem _ (up_79 h)
  refine lv_iload_n hx hb dX8_note_0 rfl (lv_at hl 2 rfl) ?_
  refine lv_iload hx hb dX8_note_1 (lv_at hl 3 rfl) ?_
  refine lv_iadd hx hb dX8_note_3 ?_
  refine lv_topi (fun x1 ex1 => ?_)
  have ex1 : x1.toInt = a2.toInt + a3.toInt := by rw [ex1]; exact wk_add (show (-2147483648) ≤ a2.toInt + a3.toInt by omega) (show a2.toInt + a3.toInt ≤ 2147483647 by omega)
  refine lv_aload_n hx hb dX8_note_4 rfl (lv_at hl 0 rfl) ?_
  refine tk_geti hC hK hw hT hinX8 kC_at151 (by decide) rfl 6 (by decide) (List.mem_cons_of_mem _ uw_55_22) rfl rfl dX8_note_5 (fun x2 c3 rx2 tx2 => ?_)
  refine lv_icmp_le (tgt := 12) hx hb dX8_note_8 (by decide) (fun c4 => ?_) (fun c4 => ?_)
  · have c4 : x1.toInt ≤ x2.toInt := wk_le.mp c4
    refine lv_lload_n hx hb dX8_note_12 rfl (lv_at hl 1 rfl) ?_
    refine lv_ldc2 (v := 24) hx hb hC.2.2.2.1 (hC.2.2.2.2 _ (List.mem_cons_of_mem _ uw_56_12)) dX8_note_13 ?_
    refine lv_ldiv hx hb dX8_note_16 (by decide) ?_
    refine lv_topl (fun x5 ex5 => ?_)
    have ex5 : x5.toInt = a1.toInt / (24 : Int) := by rw [ex5]; exact wk_divl (show 0 ≤ a1.toInt from ra1) (show 0 < (24 : Int) by decide)
    refine lv_lload_n hx hb dX8_note_17 rfl (lv_at hl 1 rfl) ?_
    refine lv_iload hx hb dX8_note_18 (lv_at hl 3 rfl) ?_
    refine lv_i2l hx hb dX8_note_20 rfl ?_
    refine lv_topl (fun x6 ex6 => ?_)
    have ex6 : x6.toInt = a3.toInt := by rw [ex6]; exact wk_i2l _
    have bx6 := wk_i32 a3
    refine lv_ladd hx hb dX8_note_21 ?_
    refine lv_topl (fun x7 ex7 => ?_)
    have ex7 : x7.toInt = a1.toInt + x6.toInt := by rw [ex7]; exact wk_addl (show (-9223372036854775808) ≤ a1.toInt + x6.toInt by omega) (show a1.toInt + x6.toInt ≤ 9223372036854775807 by omega)
    refine lv_ldc2 (v := 24) hx hb hC.2.2.2.1 (hC.2.2.2.2 _ (List.mem_cons_of_mem _ uw_56_12)) dX8_note_22 ?_
    refine lv_ldiv hx hb dX8_note_25 (by decide) ?_
    refine lv_topl (fun x8 ex8 => ?_)
    have ex8 : x8.toInt = x7.toInt / (24 : Int) := by rw [ex8]; exact wk_divl (show 0 ≤ x7.toInt by omega) (show 0 < (24 : Int) by decide)
    refine W.lcmp hx hb dX8_note_26 ?_
    refine lv_if_ne (tgt := 34) hx hb dX8_note_27 (by decide) (fun c9 => ?_) (fun c9 => ?_)
    · have c9 : ¬ x5.toInt = x8.toInt := wk_ceF c9
      refine lv_iconst (v := 0) hx hb dX8_note_34 (by decide) ?_
      refine lv_istore (lv' := [(7, .int 0), (0, .ref (ad 151)), (1, .long a1), (3, .int a2), (4, .int a3), (5, .int a4), (6, .int a5)]) hx hb dX8_note_35 hl (by decide) rfl (fun ls hl => ?_)
      refine lv_iload_n hx hb dX8_note_37 rfl (lv_at hl 3 rfl) ?_
      refine lv_iload hx hb dX8_note_38 (lv_at hl 4 rfl) ?_
      refine lv_iadd hx hb dX8_note_40 ?_
      refine lv_topi (fun x10 ex10 => ?_)
      have ex10 : x10.toInt = a2.toInt + a3.toInt := by rw [ex10]; exact wk_add (show (-2147483648) ≤ a2.toInt + a3.toInt by omega) (show a2.toInt + a3.toInt ≤ 2147483647 by omega)
      refine lv_bipush (v := 20) hx hb dX8_note_41 (by decide) ?_
      refine lv_imul hx hb dX8_note_43 ?_
      refine lv_topi (fun x11 ex11 => ?_)
      have ex11 : x11.toInt = x10.toInt * (20 : Int) := by rw [ex11]; exact wk_mul (show (-2147483648) ≤ x10.toInt * (20 : Int) by omega) (show x10.toInt * (20 : Int) ≤ 2147483647 by omega)
      refine lv_iload hx hb dX8_note_44 (lv_at hl 0 rfl) ?_
      refine lv_if_eq (tgt := 54) hx hb dX8_note_46 (by decide) (fun _ => ?_) (fun c => absurd (by decide) c)
      refine lv_iload hx hb dX8_note_54 (lv_at hl 5 rfl) ?_
      refine lv_iload hx hb dX8_note_56 (lv_at hl 5 rfl) ?_
      refine lv_iconst (v := 2) hx hb dX8_note_58 (by decide) ?_
      refine lv_irem hx hb dX8_note_59 (by decide) ?_
      refine lv_topi (fun x12 ex12 => ?_)
      have ex12 : x12.toInt = a4.toInt % (2 : Int) := by rw [ex12]; exact wk_rem (show 0 ≤ a4.toInt from Int.le_trans (by decide) ra4) (show 0 < (2 : Int) by decide)
      refine lv_isub hx hb dX8_note_60 ?_
      refine lv_topi (fun x13 ex13 => ?_)
      have ex13 : x13.toInt = a4.toInt - x12.toInt := by rw [ex13]; exact wk_sub (show (-2147483648) ≤ a4.toInt - x12.toInt by omega) (show a4.toInt - x12.toInt ≤ 2147483647 by omega)
      refine lv_iadd hx hb dX8_note_61 ?_
      refine lv_topi (fun x14 ex14 => ?_)
      have ex14 : x14.toInt = x11.toInt + x13.toInt := by rw [ex14]; exact wk_add (show (-2147483648) ≤ x11.toInt + x13.toInt by omega) (show x11.toInt + x13.toInt ≤ 2147483647 by omega)
      refine lv_istore (lv' := [(8, .int x14), (7, .int 0), (0, .ref (ad 151)), (1, .long a1), (3, .int a2), (4, .int a3), (5, .int a4), (6, .int a5)]) hx hb dX8_note_62 hl (by decide) rfl (fun ls hl => ?_)
      refine lv_aload_n hx hb dX8_note_64 rfl (lv_at hl 2 rfl) ?_
      refine tk_getA hC hK hw hT hinX8 kC_at151 (by decide) rfl 5 (by decide) (List.mem_cons_of_mem _ uw_5_10) rfl rfl dX8_note_65 ?_
      refine lv_iload hx hb dX8_note_68 (lv_at hl 0 rfl) ?_
      refine lv_aload_n hx hb dX8_note_70 rfl (lv_at hl 2 rfl) ?_
      refine tk_getA hC hK hw hT hinX8 kC_at151 (by decide) rfl 5 (by decide) (List.mem_cons_of_mem _ uw_5_10) rfl rfl dX8_note_71 ?_
      refine lv_iload hx hb dX8_note_74 (lv_at hl 0 rfl) ?_
      refine tk_iald hC hK hw hT kC_at154 rfl rfl (show 0 ≤ x14.toInt by omega) (show x14.toInt < 2420 by omega) dX8_note_76 (fun x15 c16 rx15 tx15 => ?_)
      refine lv_iload hx hb dX8_note_77 (lv_at hl 7 rfl) ?_
      refine va_mmin hx hb (hC.2.2.1.trans hl.1.symm) hC.2.2.2.1 (hC.2.2.2.2 _ (List.mem_cons_of_mem _ uw_56_19)) (hC.2.2.2.2 _ (List.mem_cons_of_mem _ uw_14_19)) (hC.2.2.2.2 _ (List.mem_cons_of_mem _ uw_14_16)) (hC.2.2.2.2 _ (List.mem_cons_of_mem _ uw_14_20)) (Nat.le_of_ble_eq_true rfl) (Nat.le_of_ble_eq_true rfl) (Nat.zero_le _) (Nat.zero_le _) dX8_note_79 ?_
      refine lv_topi (fun x17 ex17 => ?_)
      have bx17 : (x17.toInt = x15.toInt ∧ x15.toInt ≤ a5.toInt) ∨ (x17.toInt = a5.toInt ∧ a5.toInt < x15.toInt) := by rw [ex17]; exact wk_min
      refine tk_iast hC hK hw hT kC_at154 (by decide) rfl rfl (show 0 ≤ x14.toInt by omega) (show x14.toInt < 2420 by omega) (show 0 ≤ x17.toInt by omega) (show x17.toInt ≤ 1000000 by omega) dX8_note_82 (fun H locs w18 hw hT k20 c19 => ?_)
      have hF := hF.put kC_at154 (inE_of (a := 0) (b := 2420) (by decide) (show 0 ≤ x14.toInt.toNat by omega) (show x14.toInt.toNat ≤ 2420 by omega)) k20
      have c21 := k20.gi (Or.inl (tk_ne kC_at151 kC_at154 (by decide))) c3
      exact tk_vret hC hr hlocks hK ⟨hT, hF, trivial⟩ hw dX8_note_83
    · have c9 : x5.toInt = x8.toInt := wk_ceT c9
      refine lv_iconst (v := 1) hx hb dX8_note_30 (by decide) ?_
      refine lv_goto (tgt := 35) hx hb dX8_note_31 (by decide) ?_
      refine lv_istore (lv' := [(7, .int 1), (0, .ref (ad 151)), (1, .long a1), (3, .int a2), (4, .int a3), (5, .int a4), (6, .int a5)]) hx hb dX8_note_35 hl (by decide) rfl (fun ls hl => ?_)
      refine lv_iload_n hx hb dX8_note_37 rfl (lv_at hl 3 rfl) ?_
      refine lv_iload hx hb dX8_note_38 (lv_at hl 4 rfl) ?_
      refine lv_iadd hx hb dX8_note_40 ?_
      refine lv_topi (fun x22 ex22 => ?_)
      have ex22 : x22.toInt = a2.toInt + a3.toInt := by rw [ex22]; exact wk_add (show (-2147483648) ≤ a2.toInt + a3.toInt by omega) (show a2.toInt + a3.toInt ≤ 2147483647 by omega)
      refine lv_bipush (v := 20) hx hb dX8_note_41 (by decide) ?_
      refine lv_imul hx hb dX8_note_43 ?_
      refine lv_topi (fun x23 ex23 => ?_)
      have ex23 : x23.toInt = x22.toInt * (20 : Int) := by rw [ex23]; exact wk_mul (show (-2147483648) ≤ x22.toInt * (20 : Int) by omega) (show x22.toInt * (20 : Int) ≤ 2147483647 by omega)
      refine lv_iload hx hb dX8_note_44 (lv_at hl 0 rfl) ?_
      refine lv_if_eq (tgt := 54) hx hb dX8_note_46 (by decide) (fun c => absurd c (by decide)) (fun _ => ?_)
      refine lv_iload hx hb dX8_note_49 (lv_at hl 5 rfl) ?_
      refine lv_goto (tgt := 61) hx hb dX8_note_51 (by decide) ?_
      refine lv_iadd hx hb dX8_note_61 ?_
      refine lv_topi (fun x24 ex24 => ?_)
      have ex24 : x24.toInt = x23.toInt + a4.toInt := by rw [ex24]; exact wk_add (show (-2147483648) ≤ x23.toInt + a4.toInt by omega) (show x23.toInt + a4.toInt ≤ 2147483647 by omega)
      refine lv_istore (lv' := [(8, .int x24), (7, .int 1), (0, .ref (ad 151)), (1, .long a1), (3, .int a2), (4, .int a3), (5, .int a4), (6, .int a5)]) hx hb dX8_note_62 hl (by decide) rfl (fun ls hl => ?_)
      refine lv_aload_n hx hb dX8_note_64 rfl (lv_at hl 2 rfl) ?_
      refine tk_getA hC hK hw hT hinX8 kC_at151 (by decide) rfl 5 (by decide) (List.mem_cons_of_mem _ uw_5_10) rfl rfl dX8_note_65 ?_
      refine lv_iload hx hb dX8_note_68 (lv_at hl 0 rfl) ?_
      refine lv_aload_n hx hb dX8_note_70 rfl (lv_at hl 2 rfl) ?_
      refine tk_getA hC hK hw hT hinX8 kC_at151 (by decide) rfl 5 (by decide) (List.mem_cons_of_mem _ uw_5_10) rfl rfl dX8_note_71 ?_
      refine lv_iload hx hb dX8_note_74 (lv_at hl 0 rfl) ?_
      refine tk_iald hC hK hw hT kC_at154 rfl rfl (show 0 ≤ x24.toInt by omega) (show x24.toInt < 2420 by omega) dX8_note_76 (fun x25 c26 rx25 tx25 => ?_)
      refine lv_iload hx hb dX8_note_77 (lv_at hl 7 rfl) ?_
      refine va_mmin hx hb (hC.2.2.1.trans hl.1.symm) hC.2.2.2.1 (hC.2.2.2.2 _ (List.mem_cons_of_mem _ uw_56_19)) (hC.2.2.2.2 _ (List.mem_cons_of_mem _ uw_14_19)) (hC.2.2.2.2 _ (List.mem_cons_of_mem _ uw_14_16)) (hC.2.2.2.2 _ (List.mem_cons_of_mem _ uw_14_20)) (Nat.le_of_ble_eq_true rfl) (Nat.le_of_ble_eq_true rfl) (Nat.zero_le _) (Nat.zero_le _) dX8_note_79 ?_
      refine lv_topi (fun x27 ex27 => ?_)
      have bx27 : (x27.toInt = x25.toInt ∧ x25.toInt ≤ a5.toInt) ∨ (x27.toInt = a5.toInt ∧ a5.toInt < x25.toInt) := by rw [ex27]; exact wk_min
      refine tk_iast hC hK hw hT kC_at154 (by decide) rfl rfl (show 0 ≤ x24.toInt by omega) (show x24.toInt < 2420 by omega) (show 0 ≤ x27.toInt by omega) (show x27.toInt ≤ 1000000 by omega) dX8_note_82 (fun H locs w28 hw hT k30 c29 => ?_)
      have hF := hF.put kC_at154 (inE_of (a := 0) (b := 2420) (by decide) (show 0 ≤ x24.toInt.toNat by omega) (show x24.toInt.toNat ≤ 2420 by omega)) k30
      have c31 := k30.gi (Or.inl (tk_ne kC_at151 kC_at154 (by decide))) c3
      exact tk_vret hC hr hlocks hK ⟨hT, hF, trivial⟩ hw dX8_note_83
  · have c4 : x2.toInt < x1.toInt := wk_leF c4
    exact tk_vret hC hr hlocks hK ⟨hT, hF, trivial⟩ hw dX8_note_11
abbrev P_X8_note_3 (ad : Nat → Nat) (cy : Nat → ClassId) (B : Int) (qr : Nat) (s1 : Int) (a1 : Int64) (a2 : Int32) (a4 : Int32) (a5 : Int32) (w0 : va_W) : va_W → Prop := fun u => TW ksC ad cy B qr s1 u ∧ FE ksC [(47, 0, 2420)] w0 u ∧ ((True))
set_option maxHeartbeats 4000000 in
set_option maxRecDepth 100000 in
theorem k_X8_note_3 (l : Launch) (adK adV : Nat → Nat) (dC : Nat → ClassId) (dI : Nat → Nat → Nat) (cy : Nat → ClassId) (ad : Nat → Nat) (B : Int) (hB0 : 2147483648 ≤ B) (hB1 : B ≤ 1152921504606846976) (qr : Nat) (s1 : Int)  (a1 : Int64) (ra1 : 0 ≤ a1.toInt) (ta1 : a1.toInt ≤ 2305843009213694072) (a2 : Int32) (ra2 : 0 ≤ a2.toInt) (ta2 : a2.toInt ≤ 120) (a4 : Int32) (ra4 : 0 ≤ a4.toInt) (ta4 : a4.toInt ≤ 19) (a5 : Int32) (ra5 : 0 ≤ a5.toInt) (ta5 : a5.toInt ≤ 999999) (w0 : va_W) (sz : Nat) (hT : TW ksC ad cy B qr s1 w0)  : Met l yX8_note (wu yX8_note cX8_note 9 none) ({ frames := 1, cells := 0, slots := 0, locals := 21 }) (va_Pc [.ref (ad 151), .long a1, .int a2, .int 1, .int a4, .int a5] (wpreS adK adV dC dI cy sz w0)) (va_Qv (P_X8_note_3 ad cy B qr s1 a1 a2 a4 a5 w0) (fun u : va_W => wpost dC dI cy (va_A w0 sz) u) (va_A w0 sz)) 0 0 (va_A w0 sz) := by
  refine Met.ofW (cc := cX8_note) (maxL := 9) (ret := none) (by decide) rfl ?_
  intro p e s m args below meth c s₁ Bk hml hv
  obtain ⟨rfl, ⟨hsz, hP, hK, hD0⟩, hE, hSR⟩ := hv
  have hx := Bk.exec
  have hb := Bk.bytes
  have hr := Bk.returns
  have hlocks := Bk.notSynchronized
  have hC : CallFix p m c cX8_note 9 s _ (wu yX8_note cX8_note 9 none) RX8 := ⟨hx, hb, hml, findClass_of_methodNamed Bk.named, atoms_spec (ws := (wu yX8_note cX8_note 9 none)) Bk.pre⟩
  subst hsz
  have hD := hD0.self (sz := s.heap.size)
  generalize hAe : va_A w0 s.heap.size = A at hD hE ⊢
  have hA : ∀ q : Nat, s.heap.size ≤ q → A q := fun q h => by rw [← hAe]; exact Or.inr h
  have hw : Wd dC dI A s.heap s.heap [] w0 := ⟨hP, hD, va_S.rf⟩
  have hF : FE ksC [(47, 0, 2420)] w0 w0 := FE.rf
  have hl := lv_entry ([.ref (ad 151), .long a1, .int a2, .int 1, .int a4, .int a5]) (n := 9) (Nat.le_of_ble_eq_true rfl)
  rw [lg_entry_eq]
  generalize (lg_sl ([.ref (ad 151), .long a1, .int a2, .int 1, .int a4, .int a5]) ++ List.replicate (9 - (lg_sl ([.ref (ad 151), .long a1, .int a2, .int 1, .int a4, .int a5])).length) Slot.unset).toArray = ls at hl ⊢
  have hl : lv_has ls 9 [(0, .ref (ad 151)), (1, .long a1), (3, .int a2), (4, .int 1), (5, .int a4), (6, .int a5)] := hl
  generalize hloc : ([] : List Loc) = locs at hw ⊢
  have hinX8 : ∀ w ∈ u_ws RX8 TX8 8, w ∈ (wu yX8_note cX8_note 9 none) := fun _ h => List.mem_cons_of_mem _ (up_79 h)
  refine lv_iload_n hx hb dX8_note_0 rfl (lv_at hl 2 rfl) ?_
  refine lv_iload hx hb dX8_note_1 (lv_at hl 3 rfl) ?_
  refine lv_iadd hx hb dX8_note_3 ?_
  refine lv_topi (fun x1 ex1 => ?_)
  have ex1 : x1.toInt = a2.toInt + (1 : Int) := by rw [ex1]; exact wk_add (show (-2147483648) ≤ a2.toInt + (1 : Int) by omega) (show a2.toInt + (1 : Int) ≤ 2147483647 by omega)
  refine lv_aload_n hx hb dX8_note_4 rfl (lv_at hl 0 rfl) ?_
  refine tk_geti hC hK hw hT hinX8 kC_at151 (by decide) rfl 6 (by decide) (List.mem_cons_of_mem _ uw_55_22) rfl rfl dX8_note_5 (fun x2 c3 rx2 tx2 => ?_)
  refine lv_icmp_le (tgt := 12) hx hb dX8_note_8 (by decide) (fun c4 => ?_) (fun c4 => ?_)
  · have c4 : x1.toInt ≤ x2.toInt := wk_le.mp c4
    refine lv_lload_n hx hb dX8_note_12 rfl (lv_at hl 1 rfl) ?_
    refine lv_ldc2 (v := 24) hx hb hC.2.2.2.1 (hC.2.2.2.2 _ (List.mem_cons_of_mem _ uw_56_12)) dX8_note_13 ?_
    refine lv_ldiv hx hb dX8_note_16 (by decide) ?_
    refine lv_topl (fun x5 ex5 => ?_)
    have ex5 : x5.toInt = a1.toInt / (24 : Int) := by rw [ex5]; exact wk_divl (show 0 ≤ a1.toInt from ra1) (show 0 < (24 : Int) by decide)
    refine lv_lload_n hx hb dX8_note_17 rfl (lv_at hl 1 rfl) ?_
    refine lv_iload hx hb dX8_note_18 (lv_at hl 3 rfl) ?_
    refine lv_i2l hx hb dX8_note_20 rfl ?_
    refine wk_topl 1 (by decide) ?_
    refine lv_ladd hx hb dX8_note_21 ?_
    refine lv_topl (fun x6 ex6 => ?_)
    have ex6 : x6.toInt = a1.toInt + (1 : Int) := by rw [ex6]; exact wk_addl (show (-9223372036854775808) ≤ a1.toInt + (1 : Int) by omega) (show a1.toInt + (1 : Int) ≤ 9223372036854775807 by omega)
    refine lv_ldc2 (v := 24) hx hb hC.2.2.2.1 (hC.2.2.2.2 _ (List.mem_cons_of_mem _ uw_56_12)) dX8_note_22 ?_
    refine lv_ldiv hx hb dX8_note_25 (by decide) ?_
    refine lv_topl (fun x7 ex7 => ?_)
    have ex7 : x7.toInt = x6.toInt / (24 : Int) := by rw [ex7]; exact wk_divl (show 0 ≤ x6.toInt by omega) (show 0 < (24 : Int) by decide)
    refine W.lcmp hx hb dX8_note_26 ?_
    refine lv_if_ne (tgt := 34) hx hb dX8_note_27 (by decide) (fun c8 => ?_) (fun c8 => ?_)
    · have c8 : ¬ x5.toInt = x7.toInt := wk_ceF c8
      refine lv_iconst (v := 0) hx hb dX8_note_34 (by decide) ?_
      refine lv_istore (lv' := [(7, .int 0), (0, .ref (ad 151)), (1, .long a1), (3, .int a2), (4, .int 1), (5, .int a4), (6, .int a5)]) hx hb dX8_note_35 hl (by decide) rfl (fun ls hl => ?_)
      refine lv_iload_n hx hb dX8_note_37 rfl (lv_at hl 3 rfl) ?_
      refine lv_iload hx hb dX8_note_38 (lv_at hl 4 rfl) ?_
      refine lv_iadd hx hb dX8_note_40 ?_
      refine lv_topi (fun x9 ex9 => ?_)
      have ex9 : x9.toInt = a2.toInt + (1 : Int) := by rw [ex9]; exact wk_add (show (-2147483648) ≤ a2.toInt + (1 : Int) by omega) (show a2.toInt + (1 : Int) ≤ 2147483647 by omega)
      refine lv_bipush (v := 20) hx hb dX8_note_41 (by decide) ?_
      refine lv_imul hx hb dX8_note_43 ?_
      refine lv_topi (fun x10 ex10 => ?_)
      have ex10 : x10.toInt = x9.toInt * (20 : Int) := by rw [ex10]; exact wk_mul (show (-2147483648) ≤ x9.toInt * (20 : Int) by omega) (show x9.toInt * (20 : Int) ≤ 2147483647 by omega)
      refine lv_iload hx hb dX8_note_44 (lv_at hl 0 rfl) ?_
      refine lv_if_eq (tgt := 54) hx hb dX8_note_46 (by decide) (fun _ => ?_) (fun c => absurd (by decide) c)
      refine lv_iload hx hb dX8_note_54 (lv_at hl 5 rfl) ?_
      refine lv_iload hx hb dX8_note_56 (lv_at hl 5 rfl) ?_
      refine lv_iconst (v := 2) hx hb dX8_note_58 (by decide) ?_
      refine lv_irem hx hb dX8_note_59 (by decide) ?_
      refine lv_topi (fun x11 ex11 => ?_)
      have ex11 : x11.toInt = a4.toInt % (2 : Int) := by rw [ex11]; exact wk_rem (show 0 ≤ a4.toInt from ra4) (show 0 < (2 : Int) by decide)
      refine lv_isub hx hb dX8_note_60 ?_
      refine lv_topi (fun x12 ex12 => ?_)
      have ex12 : x12.toInt = a4.toInt - x11.toInt := by rw [ex12]; exact wk_sub (show (-2147483648) ≤ a4.toInt - x11.toInt by omega) (show a4.toInt - x11.toInt ≤ 2147483647 by omega)
      refine lv_iadd hx hb dX8_note_61 ?_
      refine lv_topi (fun x13 ex13 => ?_)
      have ex13 : x13.toInt = x10.toInt + x12.toInt := by rw [ex13]; exact wk_add (show (-2147483648) ≤ x10.toInt + x12.toInt by omega) (show x10.toInt + x12.toInt ≤ 2147483647 by omega)
      refine lv_istore (lv' := [(8, .int x13), (7, .int 0), (0, .ref (ad 151)), (1, .long a1), (3, .int a2), (4, .int 1), (5, .int a4), (6, .int a5)]) hx hb dX8_note_62 hl (by decide) rfl (fun ls hl => ?_)
      refine lv_aload_n hx hb dX8_note_64 rfl (lv_at hl 2 rfl) ?_
      refine tk_getA hC hK hw hT hinX8 kC_at151 (by decide) rfl 5 (by decide) (List.mem_cons_of_mem _ uw_5_10) rfl rfl dX8_note_65 ?_
      refine lv_iload hx hb dX8_note_68 (lv_at hl 0 rfl) ?_
      refine lv_aload_n hx hb dX8_note_70 rfl (lv_at hl 2 rfl) ?_
      refine tk_getA hC hK hw hT hinX8 kC_at151 (by decide) rfl 5 (by decide) (List.mem_cons_of_mem _ uw_5_10) rfl rfl dX8_note_71 ?_
      refine lv_iload hx hb dX8_note_74 (lv_at hl 0 rfl) ?_
      refine tk_iald hC hK hw hT kC_at154 rfl rfl (show 0 ≤ x13.toInt by omega) (show x13.toInt < 2420 by omega) dX8_note_76 (fun x14 c15 rx14 tx14 => ?_)
      refine lv_iload hx hb dX8_note_77 (lv_at hl 7 rfl) ?_
      refine va_mmin hx hb (hC.2.2.1.trans hl.1.symm) hC.2.2.2.1 (hC.2.2.2.2 _ (List.mem_cons_of_mem _ uw_56_19)) (hC.2.2.2.2 _ (List.mem_cons_of_mem _ uw_14_19)) (hC.2.2.2.2 _ (List.mem_cons_of_mem _ uw_14_16)) (hC.2.2.2.2 _ (List.mem_cons_of_mem _ uw_14_20)) (Nat.le_of_ble_eq_true rfl) (Nat.le_of_ble_eq_true rfl) (Nat.zero_le _) (Nat.zero_le _) dX8_note_79 ?_
      refine lv_topi (fun x16 ex16 => ?_)
      have bx16 : (x16.toInt = x14.toInt ∧ x14.toInt ≤ a5.toInt) ∨ (x16.toInt = a5.toInt ∧ a5.toInt < x14.toInt) := by rw [ex16]; exact wk_min
      refine tk_iast hC hK hw hT kC_at154 (by decide) rfl rfl (show 0 ≤ x13.toInt by omega) (show x13.toInt < 2420 by omega) (show 0 ≤ x16.toInt by omega) (show x16.toInt ≤ 1000000 by omega) dX8_note_82 (fun H locs w17 hw hT k19 c18 => ?_)
      have hF := hF.put kC_at154 (inE_of (a := 0) (b := 2420) (by decide) (show 0 ≤ x13.toInt.toNat by omega) (show x13.toInt.toNat ≤ 2420 by omega)) k19
      have c20 := k19.gi (Or.inl (tk_ne kC_at151 kC_at154 (by decide))) c3
      exact tk_vret hC hr hlocks hK ⟨hT, hF, trivial⟩ hw dX8_note_83
    · have c8 : x5.toInt = x7.toInt := wk_ceT c8
      refine lv_iconst (v := 1) hx hb dX8_note_30 (by decide) ?_
      refine lv_goto (tgt := 35) hx hb dX8_note_31 (by decide) ?_
      refine lv_istore (lv' := [(7, .int 1), (0, .ref (ad 151)), (1, .long a1), (3, .int a2), (4, .int 1), (5, .int a4), (6, .int a5)]) hx hb dX8_note_35 hl (by decide) rfl (fun ls hl => ?_)
      refine lv_iload_n hx hb dX8_note_37 rfl (lv_at hl 3 rfl) ?_
      refine lv_iload hx hb dX8_note_38 (lv_at hl 4 rfl) ?_
      refine lv_iadd hx hb dX8_note_40 ?_
      refine lv_topi (fun x21 ex21 => ?_)
      have ex21 : x21.toInt = a2.toInt + (1 : Int) := by rw [ex21]; exact wk_add (show (-2147483648) ≤ a2.toInt + (1 : Int) by omega) (show a2.toInt + (1 : Int) ≤ 2147483647 by omega)
      refine lv_bipush (v := 20) hx hb dX8_note_41 (by decide) ?_
      refine lv_imul hx hb dX8_note_43 ?_
      refine lv_topi (fun x22 ex22 => ?_)
      have ex22 : x22.toInt = x21.toInt * (20 : Int) := by rw [ex22]; exact wk_mul (show (-2147483648) ≤ x21.toInt * (20 : Int) by omega) (show x21.toInt * (20 : Int) ≤ 2147483647 by omega)
      refine lv_iload hx hb dX8_note_44 (lv_at hl 0 rfl) ?_
      refine lv_if_eq (tgt := 54) hx hb dX8_note_46 (by decide) (fun c => absurd c (by decide)) (fun _ => ?_)
      refine lv_iload hx hb dX8_note_49 (lv_at hl 5 rfl) ?_
      refine lv_goto (tgt := 61) hx hb dX8_note_51 (by decide) ?_
      refine lv_iadd hx hb dX8_note_61 ?_
      refine lv_topi (fun x23 ex23 => ?_)
      have ex23 : x23.toInt = x22.toInt + a4.toInt := by rw [ex23]; exact wk_add (show (-2147483648) ≤ x22.toInt + a4.toInt by omega) (show x22.toInt + a4.toInt ≤ 2147483647 by omega)
      refine lv_istore (lv' := [(8, .int x23), (7, .int 1), (0, .ref (ad 151)), (1, .long a1), (3, .int a2), (4, .int 1), (5, .int a4), (6, .int a5)]) hx hb dX8_note_62 hl (by decide) rfl (fun ls hl => ?_)
      refine lv_aload_n hx hb dX8_note_64 rfl (lv_at hl 2 rfl) ?_
      refine tk_getA hC hK hw hT hinX8 kC_at151 (by decide) rfl 5 (by decide) (List.mem_cons_of_mem _ uw_5_10) rfl rfl dX8_note_65 ?_
      refine lv_iload hx hb dX8_note_68 (lv_at hl 0 rfl) ?_
      refine lv_aload_n hx hb dX8_note_70 rfl (lv_at hl 2 rfl) ?_
      refine tk_getA hC hK hw hT hinX8 kC_at151 (by decide) rfl 5 (by decide) (List.mem_cons_of_mem _ uw_5_10) rfl rfl dX8_note_71 ?_
      refine lv_iload hx hb dX8_note_74 (lv_at hl 0 rfl) ?_
      refine tk_iald hC hK hw hT kC_at154 rfl rfl (show 0 ≤ x23.toInt by omega) (show x23.toInt < 2420 by omega) dX8_note_76 (fun x24 c25 rx24 tx24 => ?_)
      refine lv_iload hx hb dX8_note_77 (lv_at hl 7 rfl) ?_
      refine va_mmin hx hb (hC.2.2.1.trans hl.1.symm) hC.2.2.2.1 (hC.2.2.2.2 _ (List.mem_cons_of_mem _ uw_56_19)) (hC.2.2.2.2 _ (List.mem_cons_of_mem _ uw_14_19)) (hC.2.2.2.2 _ (List.mem_cons_of_mem _ uw_14_16)) (hC.2.2.2.2 _ (List.mem_cons_of_mem _ uw_14_20)) (Nat.le_of_ble_eq_true rfl) (Nat.le_of_ble_eq_true rfl) (Nat.zero_le _) (Nat.zero_le _) dX8_note_79 ?_
      refine lv_topi (fun x26 ex26 => ?_)
      have bx26 : (x26.toInt = x24.toInt ∧ x24.toInt ≤ a5.toInt) ∨ (x26.toInt = a5.toInt ∧ a5.toInt < x24.toInt) := by rw [ex26]; exact wk_min
      refine tk_iast hC hK hw hT kC_at154 (by decide) rfl rfl (show 0 ≤ x23.toInt by omega) (show x23.toInt < 2420 by omega) (show 0 ≤ x26.toInt by omega) (show x26.toInt ≤ 1000000 by omega) dX8_note_82 (fun H locs w27 hw hT k29 c28 => ?_)
      have hF := hF.put kC_at154 (inE_of (a := 0) (b := 2420) (by decide) (show 0 ≤ x23.toInt.toNat by omega) (show x23.toInt.toNat ≤ 2420 by omega)) k29
      have c30 := k29.gi (Or.inl (tk_ne kC_at151 kC_at154 (by decide))) c3
      exact tk_vret hC hr hlocks hK ⟨hT, hF, trivial⟩ hw dX8_note_83
  · have c4 : x2.toInt < x1.toInt := wk_leF c4
    exact tk_vret hC hr hlocks hK ⟨hT, hF, trivial⟩ hw dX8_note_11
abbrev P_X8_note_4 (ad : Nat → Nat) (cy : Nat → ClassId) (B : Int) (qr : Nat) (s1 : Int) (a1 : Int64) (a2 : Int32) (a4 : Int32) (a5 : Int32) (w0 : va_W) : va_W → Prop := fun u => TW ksC ad cy B qr s1 u ∧ FE ksC [(47, 0, 2420)] w0 u ∧ ((True))
set_option maxHeartbeats 4000000 in
set_option maxRecDepth 100000 in
theorem k_X8_note_4 (l : Launch) (adK adV : Nat → Nat) (dC : Nat → ClassId) (dI : Nat → Nat → Nat) (cy : Nat → ClassId) (ad : Nat → Nat) (B : Int) (hB0 : 2147483648 ≤ B) (hB1 : B ≤ 1152921504606846976) (qr : Nat) (s1 : Int)  (a1 : Int64) (ra1 : 0 ≤ a1.toInt) (ta1 : a1.toInt ≤ 2305843009213694072) (a2 : Int32) (ra2 : 0 ≤ a2.toInt) (ta2 : a2.toInt ≤ 120) (a4 : Int32) (ra4 : 1 ≤ a4.toInt) (ta4 : a4.toInt ≤ 19) (a5 : Int32) (ra5 : 1 ≤ a5.toInt) (ta5 : a5.toInt ≤ 1000000) (w0 : va_W) (sz : Nat) (hT : TW ksC ad cy B qr s1 w0)  : Met l yX8_note (wu yX8_note cX8_note 9 none) ({ frames := 1, cells := 0, slots := 0, locals := 21 }) (va_Pc [.ref (ad 151), .long a1, .int a2, .int 1, .int a4, .int a5] (wpreS adK adV dC dI cy sz w0)) (va_Qv (P_X8_note_4 ad cy B qr s1 a1 a2 a4 a5 w0) (fun u : va_W => wpost dC dI cy (va_A w0 sz) u) (va_A w0 sz)) 0 0 (va_A w0 sz) := by
  refine Met.ofW (cc := cX8_note) (maxL := 9) (ret := none) (by decide) rfl ?_
  intro p e s m args below meth c s₁ Bk hml hv
  obtain ⟨rfl, ⟨hsz, hP, hK, hD0⟩, hE, hSR⟩ := hv
  have hx := Bk.exec
  have hb := Bk.bytes
  have hr := Bk.returns
  have hlocks := Bk.notSynchronized
  have hC : CallFix p m c cX8_note 9 s _ (wu yX8_note cX8_note 9 none) RX8 := ⟨hx, hb, hml, findClass_of_methodNamed Bk.named, atoms_spec (ws := (wu yX8_note cX8_note 9 none)) Bk.pre⟩
  subst hsz
  have hD := hD0.self (sz := s.heap.size)
  generalize hAe : va_A w0 s.heap.size = A at hD hE ⊢
  have hA : ∀ q : Nat, s.heap.size ≤ q → A q := fun q h => by rw [← hAe]; exact Or.inr h
  have hw : Wd dC dI A s.heap s.heap [] w0 := ⟨hP, hD, va_S.rf⟩
  have hF : FE ksC [(47, 0, 2420)] w0 w0 := FE.rf
  have hl := lv_entry ([.ref (ad 151), .long a1, .int a2, .int 1, .int a4, .int a5]) (n := 9) (Nat.le_of_ble_eq_true rfl)
  rw [lg_entry_eq]
  generalize (lg_sl ([.ref (ad 151), .long a1, .int a2, .int 1, .int a4, .int a5]) ++ List.replicate (9 - (lg_sl ([.ref (ad 151), .long a1, .int a2, .int 1, .int a4, .int a5])).length) Slot.unset).toArray = ls at hl ⊢
  have hl : lv_has ls 9 [(0, .ref (ad 151)), (1, .long a1), (3, .int a2), (4, .int 1), (5, .int a4), (6, .int a5)] := hl
  generalize hloc : ([] : List Loc) = locs at hw ⊢
  have hinX8 : ∀ w ∈ u_ws RX8 TX8 8, w ∈ (wu yX8_note cX8_note 9 none) := fun _ h => List.mem_cons_of_mem _ (up_79 h)
  refine lv_iload_n hx hb dX8_note_0 rfl (lv_at hl 2 rfl) ?_
  refine lv_iload hx hb dX8_note_1 (lv_at hl 3 rfl) ?_
  refine lv_iadd hx hb dX8_note_3 ?_
  refine lv_topi (fun x1 ex1 => ?_)
  have ex1 : x1.toInt = a2.toInt + (1 : Int) := by rw [ex1]; exact wk_add (show (-2147483648) ≤ a2.toInt + (1 : Int) by omega) (show a2.toInt + (1 : Int) ≤ 2147483647 by omega)
  refine lv_aload_n hx hb dX8_note_4 rfl (lv_at hl 0 rfl) ?_
  refine tk_geti hC hK hw hT hinX8 kC_at151 (by decide) rfl 6 (by decide) (List.mem_cons_of_mem _ uw_55_22) rfl rfl dX8_note_5 (fun x2 c3 rx2 tx2 => ?_)
  refine lv_icmp_le (tgt := 12) hx hb dX8_note_8 (by decide) (fun c4 => ?_) (fun c4 => ?_)
  · have c4 : x1.toInt ≤ x2.toInt := wk_le.mp c4
    refine lv_lload_n hx hb dX8_note_12 rfl (lv_at hl 1 rfl) ?_
    refine lv_ldc2 (v := 24) hx hb hC.2.2.2.1 (hC.2.2.2.2 _ (List.mem_cons_of_mem _ uw_56_12)) dX8_note_13 ?_
    refine lv_ldiv hx hb dX8_note_16 (by decide) ?_
    refine lv_topl (fun x5 ex5 => ?_)
    have ex5 : x5.toInt = a1.toInt / (24 : Int) := by rw [ex5]; exact wk_divl (show 0 ≤ a1.toInt from ra1) (show 0 < (24 : Int) by decide)
    refine lv_lload_n hx hb dX8_note_17 rfl (lv_at hl 1 rfl) ?_
    refine lv_iload hx hb dX8_note_18 (lv_at hl 3 rfl) ?_
    refine lv_i2l hx hb dX8_note_20 rfl ?_
    refine wk_topl 1 (by decide) ?_
    refine lv_ladd hx hb dX8_note_21 ?_
    refine lv_topl (fun x6 ex6 => ?_)
    have ex6 : x6.toInt = a1.toInt + (1 : Int) := by rw [ex6]; exact wk_addl (show (-9223372036854775808) ≤ a1.toInt + (1 : Int) by omega) (show a1.toInt + (1 : Int) ≤ 9223372036854775807 by omega)
    refine lv_ldc2 (v := 24) hx hb hC.2.2.2.1 (hC.2.2.2.2 _ (List.mem_cons_of_mem _ uw_56_12)) dX8_note_22 ?_
    refine lv_ldiv hx hb dX8_note_25 (by decide) ?_
    refine lv_topl (fun x7 ex7 => ?_)
    have ex7 : x7.toInt = x6.toInt / (24 : Int) := by rw [ex7]; exact wk_divl (show 0 ≤ x6.toInt by omega) (show 0 < (24 : Int) by decide)
    refine W.lcmp hx hb dX8_note_26 ?_
    refine lv_if_ne (tgt := 34) hx hb dX8_note_27 (by decide) (fun c8 => ?_) (fun c8 => ?_)
    · have c8 : ¬ x5.toInt = x7.toInt := wk_ceF c8
      refine lv_iconst (v := 0) hx hb dX8_note_34 (by decide) ?_
      refine lv_istore (lv' := [(7, .int 0), (0, .ref (ad 151)), (1, .long a1), (3, .int a2), (4, .int 1), (5, .int a4), (6, .int a5)]) hx hb dX8_note_35 hl (by decide) rfl (fun ls hl => ?_)
      refine lv_iload_n hx hb dX8_note_37 rfl (lv_at hl 3 rfl) ?_
      refine lv_iload hx hb dX8_note_38 (lv_at hl 4 rfl) ?_
      refine lv_iadd hx hb dX8_note_40 ?_
      refine lv_topi (fun x9 ex9 => ?_)
      have ex9 : x9.toInt = a2.toInt + (1 : Int) := by rw [ex9]; exact wk_add (show (-2147483648) ≤ a2.toInt + (1 : Int) by omega) (show a2.toInt + (1 : Int) ≤ 2147483647 by omega)
      refine lv_bipush (v := 20) hx hb dX8_note_41 (by decide) ?_
      refine lv_imul hx hb dX8_note_43 ?_
      refine lv_topi (fun x10 ex10 => ?_)
      have ex10 : x10.toInt = x9.toInt * (20 : Int) := by rw [ex10]; exact wk_mul (show (-2147483648) ≤ x9.toInt * (20 : Int) by omega) (show x9.toInt * (20 : Int) ≤ 2147483647 by omega)
      refine lv_iload hx hb dX8_note_44 (lv_at hl 0 rfl) ?_
      refine lv_if_eq (tgt := 54) hx hb dX8_note_46 (by decide) (fun _ => ?_) (fun c => absurd (by decide) c)
      refine lv_iload hx hb dX8_note_54 (lv_at hl 5 rfl) ?_
      refine lv_iload hx hb dX8_note_56 (lv_at hl 5 rfl) ?_
      refine lv_iconst (v := 2) hx hb dX8_note_58 (by decide) ?_
      refine lv_irem hx hb dX8_note_59 (by decide) ?_
      refine lv_topi (fun x11 ex11 => ?_)
      have ex11 : x11.toInt = a4.toInt % (2 : Int) := by rw [ex11]; exact wk_rem (show 0 ≤ a4.toInt from Int.le_trans (by decide) ra4) (show 0 < (2 : Int) by decide)
      refine lv_isub hx hb dX8_note_60 ?_
      refine lv_topi (fun x12 ex12 => ?_)
      have ex12 : x12.toInt = a4.toInt - x11.toInt := by rw [ex12]; exact wk_sub (show (-2147483648) ≤ a4.toInt - x11.toInt by omega) (show a4.toInt - x11.toInt ≤ 2147483647 by omega)
      refine lv_iadd hx hb dX8_note_61 ?_
      refine lv_topi (fun x13 ex13 => ?_)
      have ex13 : x13.toInt = x10.toInt + x12.toInt := by rw [ex13]; exact wk_add (show (-2147483648) ≤ x10.toInt + x12.toInt by omega) (show x10.toInt + x12.toInt ≤ 2147483647 by omega)
      refine lv_istore (lv' := [(8, .int x13), (7, .int 0), (0, .ref (ad 151)), (1, .long a1), (3, .int a2), (4, .int 1), (5, .int a4), (6, .int a5)]) hx hb dX8_note_62 hl (by decide) rfl (fun ls hl => ?_)
      refine lv_aload_n hx hb dX8_note_64 rfl (lv_at hl 2 rfl) ?_
      refine tk_getA hC hK hw hT hinX8 kC_at151 (by decide) rfl 5 (by decide) (List.mem_cons_of_mem _ uw_5_10) rfl rfl dX8_note_65 ?_
      refine lv_iload hx hb dX8_note_68 (lv_at hl 0 rfl) ?_
      refine lv_aload_n hx hb dX8_note_70 rfl (lv_at hl 2 rfl) ?_
      refine tk_getA hC hK hw hT hinX8 kC_at151 (by decide) rfl 5 (by decide) (List.mem_cons_of_mem _ uw_5_10) rfl rfl dX8_note_71 ?_
      refine lv_iload hx hb dX8_note_74 (lv_at hl 0 rfl) ?_
      refine tk_iald hC hK hw hT kC_at154 rfl rfl (show 0 ≤ x13.toInt by omega) (show x13.toInt < 2420 by omega) dX8_note_76 (fun x14 c15 rx14 tx14 => ?_)
      refine lv_iload hx hb dX8_note_77 (lv_at hl 7 rfl) ?_
      refine va_mmin hx hb (hC.2.2.1.trans hl.1.symm) hC.2.2.2.1 (hC.2.2.2.2 _ (List.mem_cons_of_mem _ uw_56_19)) (hC.2.2.2.2 _ (List.mem_cons_of_mem _ uw_14_19)) (hC.2.2.2.2 _ (List.mem_cons_of_mem _ uw_14_16)) (hC.2.2.2.2 _ (List.mem_cons_of_mem _ uw_14_20)) (Nat.le_of_ble_eq_true rfl) (Nat.le_of_ble_eq_true rfl) (Nat.zero_le _) (Nat.zero_le _) dX8_note_79 ?_
      refine lv_topi (fun x16 ex16 => ?_)
      have bx16 : (x16.toInt = x14.toInt ∧ x14.toInt ≤ a5.toInt) ∨ (x16.toInt = a5.toInt ∧ a5.toInt < x14.toInt) := by rw [ex16]; exact wk_min
      refine tk_iast hC hK hw hT kC_at154 (by decide) rfl rfl (show 0 ≤ x13.toInt by omega) (show x13.toInt < 2420 by omega) (show 0 ≤ x16.toInt by omega) (show x16.toInt ≤ 1000000 by omega) dX8_note_82 (fun H locs w17 hw hT k19 c18 => ?_)
      have hF := hF.put kC_at154 (inE_of (a := 0) (b := 2420) (by decide) (show 0 ≤ x13.toInt.toNat by omega) (show x13.toInt.toNat ≤ 2420 by omega)) k19
      have c20 := k19.gi (Or.inl (tk_ne kC_at151 kC_at154 (by decide))) c3
      exact tk_vret hC hr hlocks hK ⟨hT, hF, trivial⟩ hw dX8_note_83
    · have c8 : x5.toInt = x7.toInt := wk_ceT c8
      refine lv_iconst (v := 1) hx hb dX8_note_30 (by decide) ?_
      refine lv_goto (tgt := 35) hx hb dX8_note_31 (by decide) ?_
      refine lv_istore (lv' := [(7, .int 1), (0, .ref (ad 151)), (1, .long a1), (3, .int a2), (4, .int 1), (5, .int a4), (6, .int a5)]) hx hb dX8_note_35 hl (by decide) rfl (fun ls hl => ?_)
      refine lv_iload_n hx hb dX8_note_37 rfl (lv_at hl 3 rfl) ?_
      refine lv_iload hx hb dX8_note_38 (lv_at hl 4 rfl) ?_
      refine lv_iadd hx hb dX8_note_40 ?_
      refine lv_topi (fun x21 ex21 => ?_)
      have ex21 : x21.toInt = a2.toInt + (1 : Int) := by rw [ex21]; exact wk_add (show (-2147483648) ≤ a2.toInt + (1 : Int) by omega) (show a2.toInt + (1 : Int) ≤ 2147483647 by omega)
      refine lv_bipush (v := 20) hx hb dX8_note_41 (by decide) ?_
      refine lv_imul hx hb dX8_note_43 ?_
      refine lv_topi (fun x22 ex22 => ?_)
      have ex22 : x22.toInt = x21.toInt * (20 : Int) := by rw [ex22]; exact wk_mul (show (-2147483648) ≤ x21.toInt * (20 : Int) by omega) (show x21.toInt * (20 : Int) ≤ 2147483647 by omega)
      refine lv_iload hx hb dX8_note_44 (lv_at hl 0 rfl) ?_
      refine lv_if_eq (tgt := 54) hx hb dX8_note_46 (by decide) (fun c => absurd c (by decide)) (fun _ => ?_)
      refine lv_iload hx hb dX8_note_49 (lv_at hl 5 rfl) ?_
      refine lv_goto (tgt := 61) hx hb dX8_note_51 (by decide) ?_
      refine lv_iadd hx hb dX8_note_61 ?_
      refine lv_topi (fun x23 ex23 => ?_)
      have ex23 : x23.toInt = x22.toInt + a4.toInt := by rw [ex23]; exact wk_add (show (-2147483648) ≤ x22.toInt + a4.toInt by omega) (show x22.toInt + a4.toInt ≤ 2147483647 by omega)
      refine lv_istore (lv' := [(8, .int x23), (7, .int 1), (0, .ref (ad 151)), (1, .long a1), (3, .int a2), (4, .int 1), (5, .int a4), (6, .int a5)]) hx hb dX8_note_62 hl (by decide) rfl (fun ls hl => ?_)
      refine lv_aload_n hx hb dX8_note_64 rfl (lv_at hl 2 rfl) ?_
      refine tk_getA hC hK hw hT hinX8 kC_at151 (by decide) rfl 5 (by decide) (List.mem_cons_of_mem _ uw_5_10) rfl rfl dX8_note_65 ?_
      refine lv_iload hx hb dX8_note_68 (lv_at hl 0 rfl) ?_
      refine lv_aload_n hx hb dX8_note_70 rfl (lv_at hl 2 rfl) ?_
      refine tk_getA hC hK hw hT hinX8 kC_at151 (by decide) rfl 5 (by decide) (List.mem_cons_of_mem _ uw_5_10) rfl rfl dX8_note_71 ?_
      refine lv_iload hx hb dX8_note_74 (lv_at hl 0 rfl) ?_
      refine tk_iald hC hK hw hT kC_at154 rfl rfl (show 0 ≤ x23.toInt by omega) (show x23.toInt < 2420 by omega) dX8_note_76 (fun x24 c25 rx24 tx24 => ?_)
      refine lv_iload hx hb dX8_note_77 (lv_at hl 7 rfl) ?_
      refine va_mmin hx hb (hC.2.2.1.trans hl.1.symm) hC.2.2.2.1 (hC.2.2.2.2 _ (List.mem_cons_of_mem _ uw_56_19)) (hC.2.2.2.2 _ (List.mem_cons_of_mem _ uw_14_19)) (hC.2.2.2.2 _ (List.mem_cons_of_mem _ uw_14_16)) (hC.2.2.2.2 _ (List.mem_cons_of_mem _ uw_14_20)) (Nat.le_of_ble_eq_true rfl) (Nat.le_of_ble_eq_true rfl) (Nat.zero_le _) (Nat.zero_le _) dX8_note_79 ?_
      refine lv_topi (fun x26 ex26 => ?_)
      have bx26 : (x26.toInt = x24.toInt ∧ x24.toInt ≤ a5.toInt) ∨ (x26.toInt = a5.toInt ∧ a5.toInt < x24.toInt) := by rw [ex26]; exact wk_min
      refine tk_iast hC hK hw hT kC_at154 (by decide) rfl rfl (show 0 ≤ x23.toInt by omega) (show x23.toInt < 2420 by omega) (show 0 ≤ x26.toInt by omega) (show x26.toInt ≤ 1000000 by omega) dX8_note_82 (fun H locs w27 hw hT k29 c28 => ?_)
      have hF := hF.put kC_at154 (inE_of (a := 0) (b := 2420) (by decide) (show 0 ≤ x23.toInt.toNat by omega) (show x23.toInt.toNat ≤ 2420 by omega)) k29
      have c30 := k29.gi (Or.inl (tk_ne kC_at151 kC_at154 (by decide))) c3
      exact tk_vret hC hr hlocks hK ⟨hT, hF, trivial⟩ hw dX8_note_83
  · have c4 : x2.toInt < x1.toInt := wk_leF c4
    exact tk_vret hC hr hlocks hK ⟨hT, hF, trivial⟩ hw dX8_note_11
abbrev P_X8_spread_1 (ad : Nat → Nat) (cy : Nat → ClassId) (B : Int) (qr : Nat) (s1 : Int) (q1_ : Nat) (a2 : Int32) (a3 : Int32) (a4 : Int32) (w0 : va_W) : va_W → Prop := fun u => TW ksC ad cy B qr s1 u ∧ FE ksC [(47, 0, 2420)] w0 u ∧ ((True))
set_option maxHeartbeats 4000000 in
set_option maxRecDepth 100000 in
theorem k_X8_spread_1 (l : Launch) (adK adV : Nat → Nat) (dC : Nat → ClassId) (dI : Nat → Nat → Nat) (cy : Nat → ClassId) (ad : Nat → Nat) (B : Int) (hB0 : 2147483648 ≤ B) (hB1 : B ≤ 1152921504606846976) (qr : Nat) (s1 : Int)  (q1_ : Nat) (hkq1_ : ksC[q1_]? = some 9) (a2 : Int32) (ra2 : 0 ≤ a2.toInt) (ta2 : a2.toInt ≤ 120) (a3 : Int32) (ra3 : 0 ≤ a3.toInt) (ta3 : a3.toInt ≤ 19) (a4 : Int32) (ra4 : 0 ≤ a4.toInt) (ta4 : a4.toInt ≤ 999999) (w0 : va_W) (sz : Nat) (hT : TW ksC ad cy B qr s1 w0)  : Met l yX8_spread (wu yX8_spread cX8_spread 13 none) ({ frames := 3, cells := 0, slots := 0, locals := 65 }) (va_Pc [.ref (ad 151), .ref (ad q1_), .int a2, .int a3, .int a4] (wpreS adK adV dC dI cy sz w0)) (va_Qv (P_X8_spread_1 ad cy B qr s1 q1_ a2 a3 a4 w0) (fun u : va_W => wpost dC dI cy (va_A w0 sz) u) (va_A w0 sz)) 0 0 (va_A w0 sz) := by
  refine Met.ofW (cc := cX8_spread) (maxL := 13) (ret := none) (by decide) rfl ?_
  intro p e s m args below meth c s₁ Bk hml hv
  obtain ⟨rfl, ⟨hsz, hP, hK, hD0⟩, hE, hSR⟩ := hv
  have hx := Bk.exec
  have hb := Bk.bytes
  have hr := Bk.returns
  have hlocks := Bk.notSynchronized
  have hC : CallFix p m c cX8_spread 13 s _ (wu yX8_spread cX8_spread 13 none) RX8 := ⟨hx, hb, hml, findClass_of_methodNamed Bk.named, atoms_spec (ws := (wu yX8_spread cX8_spread 13 none)) Bk.pre⟩
  subst hsz
  have hD := hD0.self (sz := s.heap.size)
  generalize hAe : va_A w0 s.heap.size = A at hD hE ⊢
  have hA : ∀ q : Nat, s.heap.size ≤ q → A q := fun q h => by rw [← hAe]; exact Or.inr h
  have hw : Wd dC dI A s.heap s.heap [] w0 := ⟨hP, hD, va_S.rf⟩
  have hF : FE ksC [(47, 0, 2420)] w0 w0 := FE.rf
  have hl := lv_entry ([.ref (ad 151), .ref (ad q1_), .int a2, .int a3, .int a4]) (n := 13) (Nat.le_of_ble_eq_true rfl)
  rw [lg_entry_eq]
  generalize (lg_sl ([.ref (ad 151), .ref (ad q1_), .int a2, .int a3, .int a4]) ++ List.replicate (13 - (lg_sl ([.ref (ad 151), .ref (ad q1_), .int a2, .int a3, .int a4])).length) Slot.unset).toArray = ls at hl ⊢
  have hl : lv_has ls 13 [(0, .ref (ad 151)), (1, .ref (ad q1_)), (2, .int a2), (3, .int a3), (4, .int a4)] := hl
  generalize hloc : ([] : List Loc) = locs at hw ⊢
  have hinX9 : ∀ w ∈ u_ws RX9 TX9 9, w ∈ (wu yX8_spread cX8_spread 13 none) := fun _ h => List.mem_cons_of_mem _ (up_82 h)
  have hinX8 : ∀ w ∈ u_ws RX8 TX8 8, w ∈ (wu yX8_spread cX8_spread 13 none) := fun _ h => List.mem_cons_of_mem _ (up_79 h)
  have hinX5 : ∀ w ∈ u_ws RX5 TX5 14, w ∈ (wu yX8_spread cX8_spread 13 none) := fun _ h => List.mem_cons_of_mem _ (up_76 h)
  have hinX7 : ∀ w ∈ u_ws RX7 TX7 12, w ∈ (wu yX8_spread cX8_spread 13 none) := fun _ h => List.mem_cons_of_mem _ (up_73 h)
  have J185 : ∀ (v185_5 : Int32) (v185_6 : Int32) (v185_7 : Int64) (v185_9 : Int32) (v185_10 : Int32) (v185_11 : Int32) (f185_q1__1 : Int32) (H : Heap) (locs : List Loc) (ls : Array Slot) (w1 : va_W), 0 ≤ a2.toInt → a2.toInt ≤ 120 → 0 ≤ a3.toInt → a3.toInt ≤ 19 → 0 ≤ a4.toInt → a4.toInt ≤ 999999 → 0 ≤ v185_5.toInt → v185_5.toInt ≤ 9 → 0 ≤ v185_6.toInt → v185_6.toInt ≤ 1 → 0 ≤ v185_7.toInt → v185_7.toInt ≤ 2305843009213693952 → 0 ≤ v185_9.toInt → v185_9.toInt ≤ 10 → 0 ≤ v185_10.toInt → v185_10.toInt ≤ 11 → (-1) ≤ v185_11.toInt → v185_11.toInt ≤ 1 → 0 ≤ f185_q1__1.toInt → f185_q1__1.toInt ≤ 9 → Wd dC dI A s.heap H locs w1 → TW ksC ad cy B qr s1 w1 → FE ksC [(47, 0, 2420)] w0 w1 → gi w1 q1_ 1 = f185_q1__1 → lv_has ls 13 [(0, .ref (ad 151)), (1, .ref (ad q1_)), (2, .int a2), (3, .int a3), (4, .int a4), (5, .int v185_5), (6, .int v185_6), (7, .long v185_7), (9, .int v185_9), (10, .int v185_10), (11, .int v185_11)] → W p l e ({ frames := 3, cells := 0, slots := 0, locals := 65 }) s m (List.toArray [.ref (ad 151), .ref (ad q1_), .int a2, .int a3, .int a4]) below meth c H locs 0 0 (MQ below (va_Qv (P_X8_spread_1 ad cy B qr s1 q1_ a2 a3 a4 w0) (fun u : va_W => wpost dC dI cy A u) A) (List.toArray [.ref (ad 151), .ref (ad q1_), .int a2, .int a3, .int a4]) s 0 0 A) (F0 m 185 ls []) := by
    intro v185_5 v185_6 v185_7 v185_9 v185_10 v185_11 f185_q1__1 H locs ls w1 r2 t3 r4 t5 r6 t7 r8 t9 r10 t11 r12 t13 r14 t15 r16 t17 r18 t19 r20 t21 hw hT hF c22 hl
    exact tk_vret hC hr hlocks hK ⟨hT, hF, trivial⟩ hw dX8_spread_185
  have J50 : ∀ (v50_5 : Int32) (v50_6 : Int32) (v50_7 : Int64) (H : Heap) (locs : List Loc) (ls : Array Slot) (w23 : va_W), 0 ≤ a2.toInt → a2.toInt ≤ 120 → 0 ≤ a3.toInt → a3.toInt ≤ 19 → 0 ≤ a4.toInt → a4.toInt ≤ 999999 → 0 ≤ v50_5.toInt → v50_5.toInt ≤ 9 → 0 ≤ v50_6.toInt → v50_6.toInt ≤ 1 → 0 ≤ v50_7.toInt → v50_7.toInt ≤ 2305843009213693952 → Wd dC dI A s.heap H locs w23 → TW ksC ad cy B qr s1 w23 → FE ksC [(47, 0, 2420)] w0 w23 → lv_has ls 13 [(0, .ref (ad 151)), (1, .ref (ad q1_)), (2, .int a2), (3, .int a3), (4, .int a4), (5, .int v50_5), (6, .int v50_6), (7, .long v50_7)] → W p l e ({ frames := 3, cells := 0, slots := 0, locals := 65 }) s m (List.toArray [.ref (ad 151), .ref (ad q1_), .int a2, .int a3, .int a4]) below meth c H locs 0 0 (MQ below (va_Qv (P_X8_spread_1 ad cy B qr s1 q1_ a2 a3 a4 w0) (fun u : va_W => wpost dC dI cy A u) A) (List.toArray [.ref (ad 151), .ref (ad q1_), .int a2, .int a3, .int a4]) s 0 0 A) (F0 m 50 ls []) := by
    intro v50_5 v50_6 v50_7 H locs ls w23 r24 t25 r26 t27 r28 t29 r30 t31 r32 t33 r34 t35 hw hT hF hl
    refine lv_iload hx hb dX8_spread_50 (lv_at hl 6 rfl) ?_
    refine lv_iconst (v := 1) hx hb dX8_spread_52 (by decide) ?_
    refine lv_icmp_ne (tgt := 68) hx hb dX8_spread_53 (by decide) (fun c36 => ?_) (fun c36 => ?_)
    · have c36 : ¬ v50_6.toInt = (1 : Int) := wk_eqF c36
      refine lv_aload_n hx hb dX8_spread_68 rfl (lv_at hl 1 rfl) ?_
      refine tk_geti hC hK hw hT hinX9 hkq1_ (by decide) rfl 2 (by decide) (List.mem_cons_of_mem _ uw_56_13) rfl rfl dX8_spread_69 (fun x37 c38 rx37 tx37 => ?_)
      refine lv_istore (lv' := [(9, .int x37), (0, .ref (ad 151)), (1, .ref (ad q1_)), (2, .int a2), (3, .int a3), (4, .int a4), (5, .int v50_5), (6, .int v50_6), (7, .long v50_7)]) hx hb dX8_spread_72 hl (by decide) rfl (fun ls hl => ?_)
      refine lv_aload_n hx hb dX8_spread_74 rfl (lv_at hl 1 rfl) ?_
      refine tk_getA hC hK hw hT hinX8 kC_at151 (by decide) rfl 1 (by decide) (List.mem_cons_of_mem _ uw_5_12) rfl rfl dX8_spread_75 ?_
      refine lv_iload hx hb dX8_spread_78 (lv_at hl 0 rfl) ?_
      refine lv_iload hx hb dX8_spread_80 (lv_at hl 6 rfl) ?_
      refine lv_aload_n hx hb dX8_spread_82 rfl (lv_at hl 2 rfl) ?_
      refine tk_geti hC hK hw hT hinX9 hkq1_ (by decide) rfl 1 (by decide) (List.mem_cons_of_mem _ uw_56_2) rfl rfl dX8_spread_83 (fun x39 c40 rx39 tx39 => ?_)
      refine tk_Vi hC hK hw hT hA hE hSR kC_at145 (by decide) rfl (k_X0_streetBy_1 l adK adV dC dI cy ad B (by omega) (by omega) qr s1   x37 (show 0 ≤ x37.toInt by omega) (show x37.toInt ≤ 3 by omega) v50_5 (show 0 ≤ v50_5.toInt from r30) (show v50_5.toInt ≤ 9 from t31) x39 (show 0 ≤ x39.toInt by omega) (show x39.toInt ≤ 9 by omega) w23 H.size hT ) (cwV 3 hC.2.2.2.2 uV_RX8_129 rfl rfl rfl (by decide +kernel) ⟨Nat.le_of_ble_eq_true rfl, Nat.le_of_ble_eq_true rfl⟩) rfl hl.1 rfl (Nat.le_of_ble_eq_true rfl) dX8_spread_86 (fun r41 w43 H locs hp42 hw => ?_)
      obtain ⟨hT, k44, hg47⟩ := hp42
      have hF := hF.tr k44 (by decide)
      have c48 := k44.gi hkq1_ (by decide) c38
      have c49 := k44.gi hkq1_ (by decide) c40
      obtain ⟨g45, g46⟩ := hg47
      refine lv_istore (lv' := [(10, .int r41), (9, .int x37), (0, .ref (ad 151)), (1, .ref (ad q1_)), (2, .int a2), (3, .int a3), (4, .int a4), (5, .int v50_5), (6, .int v50_6), (7, .long v50_7)]) hx hb dX8_spread_89 hl (by decide) rfl (fun ls hl => ?_)
      refine lv_iload hx hb dX8_spread_91 (lv_at hl 0 rfl) ?_
      refine lv_iconst (v := (-1)) hx hb dX8_spread_93 (by decide) ?_
      refine lv_icmp_ne (tgt := 98) hx hb dX8_spread_94 (by decide) (fun c50 => ?_) (fun c50 => ?_)
      · have c50 : ¬ r41.toInt = (-1 : Int) := wk_eqF c50
        refine lv_aload_n hx hb dX8_spread_98 rfl (lv_at hl 2 rfl) ?_
        refine tk_getA hC hK hw hT hinX8 kC_at151 (by decide) rfl 0 (by decide) (List.mem_cons_of_mem _ uw_5_11) rfl rfl dX8_spread_99 ?_
        refine tk_getO hC hK hw hT hinX5 kC_at38 (by decide) rfl 0 (by decide) (List.mem_cons_of_mem _ uw_56_0) rfl rfl dX8_spread_102 ?_
        refine lv_iload hx hb dX8_spread_105 (lv_at hl 0 rfl) ?_
        refine lv_iload hx hb dX8_spread_107 (lv_at hl 7 rfl) ?_
        refine tk_Vi hC hK hw hT hA hE hSR kC_at39 (by decide) rfl (k_X7_sideOf_2 l adK adV dC dI cy ad B (by omega) (by omega) qr s1   r41 (show 0 ≤ r41.toInt by omega) (show r41.toInt ≤ 11 by omega) v50_5 (show 0 ≤ v50_5.toInt from r30) (show v50_5.toInt ≤ 9 from t31) w43 H.size hT ) (cwV 2 hC.2.2.2.2 uV_RX8_133 rfl rfl rfl (by decide +kernel) ⟨Nat.le_of_ble_eq_true rfl, Nat.le_of_ble_eq_true rfl⟩) rfl hl.1 rfl (Nat.le_of_ble_eq_true rfl) dX8_spread_109 (fun r51 w53 H locs hp52 hw => ?_)
        obtain ⟨hT, k54, hg57⟩ := hp52
        have hF := hF.tr k54 (by decide)
        have c58 := k54.gi hkq1_ (by decide) c48
        have c59 := k54.gi hkq1_ (by decide) c49
        rcases hg57 with rfl | ⟨rfl, c55⟩ | ⟨rfl, c56⟩
        · refine lv_istore (lv' := [(11, .int (-1)), (10, .int r41), (9, .int x37), (0, .ref (ad 151)), (1, .ref (ad q1_)), (2, .int a2), (3, .int a3), (4, .int a4), (5, .int v50_5), (6, .int v50_6), (7, .long v50_7)]) hx hb dX8_spread_112 hl (by decide) rfl (fun ls hl => ?_)
          refine lv_iload hx hb dX8_spread_114 (lv_at hl 0 rfl) ?_
          refine lv_iconst (v := (-1)) hx hb dX8_spread_116 (by decide) ?_
          refine lv_icmp_eq (tgt := 185) hx hb dX8_spread_117 (by decide) (fun _ => ?_) (fun c => absurd (by decide) c)
          exact J185 v50_5 v50_6 v50_7 x37 r41 (-1) x39 H locs ls w53 (show 0 ≤ a2.toInt from r24) (show a2.toInt ≤ 120 from t25) (show 0 ≤ a3.toInt from r26) (show a3.toInt ≤ 19 from t27) (show 0 ≤ a4.toInt from r28) (show a4.toInt ≤ 999999 from t29) (show 0 ≤ v50_5.toInt from r30) (show v50_5.toInt ≤ 9 from t31) (show 0 ≤ v50_6.toInt from r32) (show v50_6.toInt ≤ 1 from t33) (show 0 ≤ v50_7.toInt from r34) (show v50_7.toInt ≤ 2305843009213693952 from t35) (show 0 ≤ x37.toInt by omega) (show x37.toInt ≤ 10 by omega) (show 0 ≤ r41.toInt by omega) (show r41.toInt ≤ 11 by omega) (by decide) (by decide) (show 0 ≤ x39.toInt by omega) (show x39.toInt ≤ 9 by omega)  hw hT hF c59 (lv_sub hl [3, 4, 5, 6, 7, 8, 9, 10, 2, 1, 0] rfl)
        · refine lv_istore (lv' := [(11, .int 0), (10, .int r41), (9, .int x37), (0, .ref (ad 151)), (1, .ref (ad q1_)), (2, .int a2), (3, .int a3), (4, .int a4), (5, .int v50_5), (6, .int v50_6), (7, .long v50_7)]) hx hb dX8_spread_112 hl (by decide) rfl (fun ls hl => ?_)
          refine lv_iload hx hb dX8_spread_114 (lv_at hl 0 rfl) ?_
          refine lv_iconst (v := (-1)) hx hb dX8_spread_116 (by decide) ?_
          refine lv_icmp_eq (tgt := 185) hx hb dX8_spread_117 (by decide) (fun c => absurd c (by decide)) (fun _ => ?_)
          refine lv_aload_n hx hb dX8_spread_120 rfl (lv_at hl 3 rfl) ?_
          refine tk_getA hC hK hw hT hinX8 kC_at151 (by decide) rfl 0 (by decide) (List.mem_cons_of_mem _ uw_5_11) rfl rfl dX8_spread_121 ?_
          refine tk_getO hC hK hw hT hinX5 kC_at38 (by decide) rfl 0 (by decide) (List.mem_cons_of_mem _ uw_56_0) rfl rfl dX8_spread_124 ?_
          refine lv_iload hx hb dX8_spread_127 (lv_at hl 1 rfl) ?_
          refine lv_iload hx hb dX8_spread_129 (lv_at hl 0 rfl) ?_
          refine lv_lload hx hb dX8_spread_131 (lv_at hl 10 rfl) ?_
          refine lv_iconst (v := 1) hx hb dX8_spread_133 (by decide) ?_
          refine tk_Vi hC hK hw hT hA hE hSR kC_at39 (by decide) rfl (k_X7_isOpen_4 l adK adV dC dI cy ad B (by omega) (by omega) qr s1   r41 (show 0 ≤ r41.toInt by omega) (show r41.toInt ≤ 11 by omega) v50_7 (show 0 ≤ v50_7.toInt from r34) (show v50_7.toInt ≤ 2305843009213693952 from t35) w53 H.size hT ) (cwV 4 hC.2.2.2.2 uV_RX8_137 rfl rfl rfl (by decide +kernel) ⟨Nat.le_of_ble_eq_true rfl, Nat.le_of_ble_eq_true rfl⟩) rfl hl.1 rfl (Nat.le_of_ble_eq_true rfl) dX8_spread_134 (fun r60 w62 H locs hp61 hw => ?_)
          obtain ⟨hT, k63, hg64⟩ := hp61
          have hF := hF.tr k63 (by decide)
          have c65 := k63.gi hkq1_ (by decide) c58
          have c66 := k63.gi hkq1_ (by decide) c59
          have c67 := k63.gi kC_at40 rfl c55
          rcases hg64 with rfl | rfl
          · refine lv_if_eq (tgt := 185) hx hb dX8_spread_137 (by decide) (fun _ => ?_) (fun c => absurd (by decide) c)
            exact J185 v50_5 v50_6 v50_7 x37 r41 0 x39 H locs ls w62 (show 0 ≤ a2.toInt from r24) (show a2.toInt ≤ 120 from t25) (show 0 ≤ a3.toInt from r26) (show a3.toInt ≤ 19 from t27) (show 0 ≤ a4.toInt from r28) (show a4.toInt ≤ 999999 from t29) (show 0 ≤ v50_5.toInt from r30) (show v50_5.toInt ≤ 9 from t31) (show 0 ≤ v50_6.toInt from r32) (show v50_6.toInt ≤ 1 from t33) (show 0 ≤ v50_7.toInt from r34) (show v50_7.toInt ≤ 2305843009213693952 from t35) (show 0 ≤ x37.toInt by omega) (show x37.toInt ≤ 10 by omega) (show 0 ≤ r41.toInt by omega) (show r41.toInt ≤ 11 by omega) (by decide) (by decide) (show 0 ≤ x39.toInt by omega) (show x39.toInt ≤ 9 by omega)  hw hT hF c66 (lv_sub hl [3, 4, 5, 6, 7, 8, 9, 10, 2, 1, 0] rfl)
          · refine lv_if_eq (tgt := 185) hx hb dX8_spread_137 (by decide) (fun c => absurd c (by decide)) (fun _ => ?_)
            refine lv_iconst (v := 2) hx hb dX8_spread_140 (by decide) ?_
            refine lv_aload_n hx hb dX8_spread_141 rfl (lv_at hl 3 rfl) ?_
            refine tk_getA hC hK hw hT hinX8 kC_at151 (by decide) rfl 0 (by decide) (List.mem_cons_of_mem _ uw_5_11) rfl rfl dX8_spread_142 ?_
            refine tk_getO hC hK hw hT hinX5 kC_at38 (by decide) rfl 0 (by decide) (List.mem_cons_of_mem _ uw_56_0) rfl rfl dX8_spread_145 ?_
            refine lv_iload hx hb dX8_spread_148 (lv_at hl 1 rfl) ?_
            refine lv_iload hx hb dX8_spread_150 (lv_at hl 0 rfl) ?_
            refine tk_Vi hC hK hw hT hA hE hSR kC_at39 (by decide) rfl (k_X7_cornerAcross_2 l adK adV dC dI cy ad B (by omega) (by omega) qr s1   r41 (show 0 ≤ r41.toInt by omega) (show r41.toInt ≤ 11 by omega) w62 H.size hT ) (cwV 2 hC.2.2.2.2 uV_RX8_141 rfl rfl rfl (by decide +kernel) ⟨Nat.le_of_ble_eq_true rfl, Nat.le_of_ble_eq_true rfl⟩) rfl hl.1 rfl (Nat.le_of_ble_eq_true rfl) dX8_spread_152 (fun r68 w70 H locs hp69 hw => ?_)
            obtain ⟨hT, k71, hg74⟩ := hp69
            have hF := hF.tr k71 (by decide)
            have c75 := k71.gi hkq1_ (by decide) c65
            have c76 := k71.gi hkq1_ (by decide) c66
            have c77 := k71.gi kC_at40 rfl c67
            obtain ⟨g72, g73⟩ := hg74
            refine lv_imul hx hb dX8_spread_155 ?_
            refine lv_topi (fun x78 ex78 => ?_)
            have ex78 : x78.toInt = (2 : Int) * r68.toInt := by rw [ex78]; exact wk_mul (show (-2147483648) ≤ (2 : Int) * r68.toInt by omega) (show (2 : Int) * r68.toInt ≤ 2147483647 by omega)
            refine lv_iload hx hb dX8_spread_156 (lv_at hl 9 rfl) ?_
            refine lv_iadd hx hb dX8_spread_158 ?_
            refine lv_topi (fun x79 ex79 => ?_)
            have ex79 : x79.toInt = x78.toInt + v50_6.toInt := by rw [ex79]; exact wk_add (show (-2147483648) ≤ x78.toInt + v50_6.toInt by omega) (show x78.toInt + v50_6.toInt ≤ 2147483647 by omega)
            refine lv_istore (lv' := [(12, .int x79), (11, .int 0), (10, .int r41), (9, .int x37), (0, .ref (ad 151)), (1, .ref (ad q1_)), (2, .int a2), (3, .int a3), (4, .int a4), (5, .int v50_5), (6, .int v50_6), (7, .long v50_7)]) hx hb dX8_spread_159 hl (by decide) rfl (fun ls hl => ?_)
            refine lv_aload_n hx hb dX8_spread_161 rfl (lv_at hl 4 rfl) ?_
            refine lv_lload hx hb dX8_spread_162 (lv_at hl 11 rfl) ?_
            refine lv_iload_n hx hb dX8_spread_164 rfl (lv_at hl 6 rfl) ?_
            refine lv_aload_n hx hb dX8_spread_165 rfl (lv_at hl 4 rfl) ?_
            refine tk_getA hC hK hw hT hinX8 kC_at151 (by decide) rfl 0 (by decide) (List.mem_cons_of_mem _ uw_5_11) rfl rfl dX8_spread_166 ?_
            refine tk_getO hC hK hw hT hinX5 kC_at38 (by decide) rfl 0 (by decide) (List.mem_cons_of_mem _ uw_56_0) rfl rfl dX8_spread_169 ?_
            refine tk_getO hC hK hw hT hinX7 kC_at39 (by decide) rfl 1 (by decide) (List.mem_cons_of_mem _ uw_56_14) rfl rfl dX8_spread_172 ?_
            refine lv_iload hx hb dX8_spread_175 (lv_at hl 2 rfl) ?_
            refine tk_iald hC hK hw hT kC_at41 rfl rfl (show 0 ≤ r41.toInt by omega) (show r41.toInt < 13 by omega) dX8_spread_177 (fun x80 c81 rx80 tx80 => ?_)
            refine lv_iload hx hb dX8_spread_178 (lv_at hl 0 rfl) ?_
            refine lv_iload hx hb dX8_spread_180 (lv_at hl 8 rfl) ?_
            refine tk_Vv hC hK hw hT hA hE hSR kC_at151 (by decide) rfl (k_X8_note_1 l adK adV dC dI cy ad B (by omega) (by omega) qr s1   v50_7 (show 0 ≤ v50_7.toInt from r34) (show v50_7.toInt ≤ 2305843009213693952 from t35) a2 (show 0 ≤ a2.toInt from r24) (show a2.toInt ≤ 120 from t25) x80 (show 0 ≤ x80.toInt from rx80) (show x80.toInt ≤ 9 from tx80) x79 (show 0 ≤ x79.toInt by omega) (show x79.toInt ≤ 18 by omega) a4 (show 0 ≤ a4.toInt from r28) (show a4.toInt ≤ 999999 from t29) w70 H.size hT ) (cwV 5 hC.2.2.2.2 uV_RX8_114 rfl rfl rfl (by decide +kernel) ⟨Nat.le_of_ble_eq_true rfl, Nat.le_of_ble_eq_true rfl⟩) rfl hl.1 rfl (Nat.le_of_ble_eq_true rfl) dX8_spread_182 (fun w84 H locs hp83 hw => ?_)
            obtain ⟨hT, k85, hg86⟩ := hp83
            have hF := hF.tr k85 (by decide)
            have c87 := k85.gi hkq1_ (by decide) c75
            have c88 := k85.gi hkq1_ (by decide) c76
            have c89 := k85.gi kC_at40 rfl c77
            clear hg86
            exact J185 v50_5 v50_6 v50_7 x37 r41 0 x39 H locs ls w84 (show 0 ≤ a2.toInt from r24) (show a2.toInt ≤ 120 from t25) (show 0 ≤ a3.toInt from r26) (show a3.toInt ≤ 19 from t27) (show 0 ≤ a4.toInt from r28) (show a4.toInt ≤ 999999 from t29) (show 0 ≤ v50_5.toInt from r30) (show v50_5.toInt ≤ 9 from t31) (show 0 ≤ v50_6.toInt from r32) (show v50_6.toInt ≤ 1 from t33) (show 0 ≤ v50_7.toInt from r34) (show v50_7.toInt ≤ 2305843009213693952 from t35) (show 0 ≤ x37.toInt by omega) (show x37.toInt ≤ 10 by omega) (show 0 ≤ r41.toInt by omega) (show r41.toInt ≤ 11 by omega) (by decide) (by decide) (show 0 ≤ x39.toInt by omega) (show x39.toInt ≤ 9 by omega)  hw hT hF c88 (lv_sub hl [4, 5, 6, 7, 8, 9, 10, 11, 3, 2, 1] rfl)
        · refine lv_istore (lv' := [(11, .int 1), (10, .int r41), (9, .int x37), (0, .ref (ad 151)), (1, .ref (ad q1_)), (2, .int a2), (3, .int a3), (4, .int a4), (5, .int v50_5), (6, .int v50_6), (7, .long v50_7)]) hx hb dX8_spread_112 hl (by decide) rfl (fun ls hl => ?_)
          refine lv_iload hx hb dX8_spread_114 (lv_at hl 0 rfl) ?_
          refine lv_iconst (v := (-1)) hx hb dX8_spread_116 (by decide) ?_
          refine lv_icmp_eq (tgt := 185) hx hb dX8_spread_117 (by decide) (fun c => absurd c (by decide)) (fun _ => ?_)
          refine lv_aload_n hx hb dX8_spread_120 rfl (lv_at hl 3 rfl) ?_
          refine tk_getA hC hK hw hT hinX8 kC_at151 (by decide) rfl 0 (by decide) (List.mem_cons_of_mem _ uw_5_11) rfl rfl dX8_spread_121 ?_
          refine tk_getO hC hK hw hT hinX5 kC_at38 (by decide) rfl 0 (by decide) (List.mem_cons_of_mem _ uw_56_0) rfl rfl dX8_spread_124 ?_
          refine lv_iload hx hb dX8_spread_127 (lv_at hl 1 rfl) ?_
          refine lv_iload hx hb dX8_spread_129 (lv_at hl 0 rfl) ?_
          refine lv_lload hx hb dX8_spread_131 (lv_at hl 10 rfl) ?_
          refine lv_iconst (v := 1) hx hb dX8_spread_133 (by decide) ?_
          refine tk_Vi hC hK hw hT hA hE hSR kC_at39 (by decide) rfl (k_X7_isOpen_6 l adK adV dC dI cy ad B (by omega) (by omega) qr s1   r41 (show 0 ≤ r41.toInt by omega) (show r41.toInt ≤ 11 by omega) v50_7 (show 0 ≤ v50_7.toInt from r34) (show v50_7.toInt ≤ 2305843009213693952 from t35) w53 H.size hT ) (cwV 4 hC.2.2.2.2 uV_RX8_137 rfl rfl rfl (by decide +kernel) ⟨Nat.le_of_ble_eq_true rfl, Nat.le_of_ble_eq_true rfl⟩) rfl hl.1 rfl (Nat.le_of_ble_eq_true rfl) dX8_spread_134 (fun r90 w92 H locs hp91 hw => ?_)
          obtain ⟨hT, k93, hg94⟩ := hp91
          have hF := hF.tr k93 (by decide)
          have c95 := k93.gi hkq1_ (by decide) c58
          have c96 := k93.gi hkq1_ (by decide) c59
          have c97 := k93.gi kC_at40 rfl c56
          rcases hg94 with rfl | rfl
          · refine lv_if_eq (tgt := 185) hx hb dX8_spread_137 (by decide) (fun _ => ?_) (fun c => absurd (by decide) c)
            exact J185 v50_5 v50_6 v50_7 x37 r41 1 x39 H locs ls w92 (show 0 ≤ a2.toInt from r24) (show a2.toInt ≤ 120 from t25) (show 0 ≤ a3.toInt from r26) (show a3.toInt ≤ 19 from t27) (show 0 ≤ a4.toInt from r28) (show a4.toInt ≤ 999999 from t29) (show 0 ≤ v50_5.toInt from r30) (show v50_5.toInt ≤ 9 from t31) (show 0 ≤ v50_6.toInt from r32) (show v50_6.toInt ≤ 1 from t33) (show 0 ≤ v50_7.toInt from r34) (show v50_7.toInt ≤ 2305843009213693952 from t35) (show 0 ≤ x37.toInt by omega) (show x37.toInt ≤ 10 by omega) (show 0 ≤ r41.toInt by omega) (show r41.toInt ≤ 11 by omega) (by decide) (by decide) (show 0 ≤ x39.toInt by omega) (show x39.toInt ≤ 9 by omega)  hw hT hF c96 (lv_sub hl [3, 4, 5, 6, 7, 8, 9, 10, 2, 1, 0] rfl)
          · refine lv_if_eq (tgt := 185) hx hb dX8_spread_137 (by decide) (fun c => absurd c (by decide)) (fun _ => ?_)
            refine lv_iconst (v := 2) hx hb dX8_spread_140 (by decide) ?_
            refine lv_aload_n hx hb dX8_spread_141 rfl (lv_at hl 3 rfl) ?_
            refine tk_getA hC hK hw hT hinX8 kC_at151 (by decide) rfl 0 (by decide) (List.mem_cons_of_mem _ uw_5_11) rfl rfl dX8_spread_142 ?_
            refine tk_getO hC hK hw hT hinX5 kC_at38 (by decide) rfl 0 (by decide) (List.mem_cons_of_mem _ uw_56_0) rfl rfl dX8_spread_145 ?_
            refine lv_iload hx hb dX8_spread_148 (lv_at hl 1 rfl) ?_
            refine lv_iload hx hb dX8_spread_150 (lv_at hl 0 rfl) ?_
            refine tk_Vi hC hK hw hT hA hE hSR kC_at39 (by decide) rfl (k_X7_cornerAcross_3 l adK adV dC dI cy ad B (by omega) (by omega) qr s1   r41 (show 0 ≤ r41.toInt by omega) (show r41.toInt ≤ 11 by omega) w92 H.size hT ) (cwV 2 hC.2.2.2.2 uV_RX8_141 rfl rfl rfl (by decide +kernel) ⟨Nat.le_of_ble_eq_true rfl, Nat.le_of_ble_eq_true rfl⟩) rfl hl.1 rfl (Nat.le_of_ble_eq_true rfl) dX8_spread_152 (fun r98 w100 H locs hp99 hw => ?_)
            obtain ⟨hT, k101, hg104⟩ := hp99
            have hF := hF.tr k101 (by decide)
            have c105 := k101.gi hkq1_ (by decide) c95
            have c106 := k101.gi hkq1_ (by decide) c96
            have c107 := k101.gi kC_at40 rfl c97
            obtain ⟨g102, g103⟩ := hg104
            refine lv_imul hx hb dX8_spread_155 ?_
            refine lv_topi (fun x108 ex108 => ?_)
            have ex108 : x108.toInt = (2 : Int) * r98.toInt := by rw [ex108]; exact wk_mul (show (-2147483648) ≤ (2 : Int) * r98.toInt by omega) (show (2 : Int) * r98.toInt ≤ 2147483647 by omega)
            refine lv_iload hx hb dX8_spread_156 (lv_at hl 9 rfl) ?_
            refine lv_iadd hx hb dX8_spread_158 ?_
            refine lv_topi (fun x109 ex109 => ?_)
            have ex109 : x109.toInt = x108.toInt + v50_6.toInt := by rw [ex109]; exact wk_add (show (-2147483648) ≤ x108.toInt + v50_6.toInt by omega) (show x108.toInt + v50_6.toInt ≤ 2147483647 by omega)
            refine lv_istore (lv' := [(12, .int x109), (11, .int 1), (10, .int r41), (9, .int x37), (0, .ref (ad 151)), (1, .ref (ad q1_)), (2, .int a2), (3, .int a3), (4, .int a4), (5, .int v50_5), (6, .int v50_6), (7, .long v50_7)]) hx hb dX8_spread_159 hl (by decide) rfl (fun ls hl => ?_)
            refine lv_aload_n hx hb dX8_spread_161 rfl (lv_at hl 4 rfl) ?_
            refine lv_lload hx hb dX8_spread_162 (lv_at hl 11 rfl) ?_
            refine lv_iload_n hx hb dX8_spread_164 rfl (lv_at hl 6 rfl) ?_
            refine lv_aload_n hx hb dX8_spread_165 rfl (lv_at hl 4 rfl) ?_
            refine tk_getA hC hK hw hT hinX8 kC_at151 (by decide) rfl 0 (by decide) (List.mem_cons_of_mem _ uw_5_11) rfl rfl dX8_spread_166 ?_
            refine tk_getO hC hK hw hT hinX5 kC_at38 (by decide) rfl 0 (by decide) (List.mem_cons_of_mem _ uw_56_0) rfl rfl dX8_spread_169 ?_
            refine tk_getO hC hK hw hT hinX7 kC_at39 (by decide) rfl 1 (by decide) (List.mem_cons_of_mem _ uw_56_14) rfl rfl dX8_spread_172 ?_
            refine lv_iload hx hb dX8_spread_175 (lv_at hl 2 rfl) ?_
            refine tk_iald hC hK hw hT kC_at41 rfl rfl (show 0 ≤ r41.toInt by omega) (show r41.toInt < 13 by omega) dX8_spread_177 (fun x110 c111 rx110 tx110 => ?_)
            refine lv_iload hx hb dX8_spread_178 (lv_at hl 0 rfl) ?_
            refine lv_iload hx hb dX8_spread_180 (lv_at hl 8 rfl) ?_
            refine tk_Vv hC hK hw hT hA hE hSR kC_at151 (by decide) rfl (k_X8_note_1 l adK adV dC dI cy ad B (by omega) (by omega) qr s1   v50_7 (show 0 ≤ v50_7.toInt from r34) (show v50_7.toInt ≤ 2305843009213693952 from t35) a2 (show 0 ≤ a2.toInt from r24) (show a2.toInt ≤ 120 from t25) x110 (show 0 ≤ x110.toInt from rx110) (show x110.toInt ≤ 9 from tx110) x109 (show 0 ≤ x109.toInt by omega) (show x109.toInt ≤ 18 by omega) a4 (show 0 ≤ a4.toInt from r28) (show a4.toInt ≤ 999999 from t29) w100 H.size hT ) (cwV 5 hC.2.2.2.2 uV_RX8_114 rfl rfl rfl (by decide +kernel) ⟨Nat.le_of_ble_eq_true rfl, Nat.le_of_ble_eq_true rfl⟩) rfl hl.1 rfl (Nat.le_of_ble_eq_true rfl) dX8_spread_182 (fun w114 H locs hp113 hw => ?_)
            obtain ⟨hT, k115, hg116⟩ := hp113
            have hF := hF.tr k115 (by decide)
            have c117 := k115.gi hkq1_ (by decide) c105
            have c118 := k115.gi hkq1_ (by decide) c106
            have c119 := k115.gi kC_at40 rfl c107
            clear hg116
            exact J185 v50_5 v50_6 v50_7 x37 r41 1 x39 H locs ls w114 (show 0 ≤ a2.toInt from r24) (show a2.toInt ≤ 120 from t25) (show 0 ≤ a3.toInt from r26) (show a3.toInt ≤ 19 from t27) (show 0 ≤ a4.toInt from r28) (show a4.toInt ≤ 999999 from t29) (show 0 ≤ v50_5.toInt from r30) (show v50_5.toInt ≤ 9 from t31) (show 0 ≤ v50_6.toInt from r32) (show v50_6.toInt ≤ 1 from t33) (show 0 ≤ v50_7.toInt from r34) (show v50_7.toInt ≤ 2305843009213693952 from t35) (show 0 ≤ x37.toInt by omega) (show x37.toInt ≤ 10 by omega) (show 0 ≤ r41.toInt by omega) (show r41.toInt ≤ 11 by omega) (by decide) (by decide) (show 0 ≤ x39.toInt by omega) (show x39.toInt ≤ 9 by omega)  hw hT hF c118 (lv_sub hl [4, 5, 6, 7, 8, 9, 10, 11, 3, 2, 1] rfl)
      · have c50 : r41.toInt = (-1 : Int) := wk_eq.mp c50
        exact tk_vret hC hr hlocks hK ⟨hT, hF, trivial⟩ hw dX8_spread_97
    · have c36 : v50_6.toInt = (1 : Int) := wk_eq.mp c36
      refine lv_lload hx hb dX8_spread_56 (lv_at hl 7 rfl) ?_
      refine lv_ldc2 (v := 24) hx hb hC.2.2.2.1 (hC.2.2.2.2 _ (List.mem_cons_of_mem _ uw_56_12)) dX8_spread_58 ?_
      refine lv_ldiv hx hb dX8_spread_61 (by decide) ?_
      refine lv_topl (fun x120 ex120 => ?_)
      have ex120 : x120.toInt = v50_7.toInt / (24 : Int) := by rw [ex120]; exact wk_divl (show 0 ≤ v50_7.toInt from r34) (show 0 < (24 : Int) by decide)
      refine tk_Si hC hK hw hT hA hE hSR (k_X0_ofWeekday_1 l adK adV dC dI cy ad B (by omega) (by omega) qr s1   x120 (show 0 ≤ x120.toInt by omega) (show x120.toInt ≤ 96076792050570581 by omega) w23 H.size hT ) (va_cwS 1 hC.2.2.2.2 uS_RX8_120 rfl rfl rfl (by decide +kernel) ⟨Nat.le_of_ble_eq_true rfl, Nat.le_of_ble_eq_true rfl⟩) rfl hl.1 rfl (Nat.le_of_ble_eq_true rfl) dX8_spread_62 (fun r121 w123 H locs hp122 hw => ?_)
      obtain ⟨hT, k124, hg127⟩ := hp122
      have hF := hF.tr k124 (by decide)
      obtain ⟨g125, g126⟩ := hg127
      refine lv_goto (tgt := 72) hx hb dX8_spread_65 (by decide) ?_
      refine lv_istore (lv' := [(9, .int r121), (0, .ref (ad 151)), (1, .ref (ad q1_)), (2, .int a2), (3, .int a3), (4, .int a4), (5, .int v50_5), (6, .int v50_6), (7, .long v50_7)]) hx hb dX8_spread_72 hl (by decide) rfl (fun ls hl => ?_)
      refine lv_aload_n hx hb dX8_spread_74 rfl (lv_at hl 1 rfl) ?_
      refine tk_getA hC hK hw hT hinX8 kC_at151 (by decide) rfl 1 (by decide) (List.mem_cons_of_mem _ uw_5_12) rfl rfl dX8_spread_75 ?_
      refine lv_iload hx hb dX8_spread_78 (lv_at hl 0 rfl) ?_
      refine lv_iload hx hb dX8_spread_80 (lv_at hl 6 rfl) ?_
      refine lv_aload_n hx hb dX8_spread_82 rfl (lv_at hl 2 rfl) ?_
      refine tk_geti hC hK hw hT hinX9 hkq1_ (by decide) rfl 1 (by decide) (List.mem_cons_of_mem _ uw_56_2) rfl rfl dX8_spread_83 (fun x128 c129 rx128 tx128 => ?_)
      refine tk_Vi hC hK hw hT hA hE hSR kC_at145 (by decide) rfl (k_X0_streetBy_2 l adK adV dC dI cy ad B (by omega) (by omega) qr s1   r121 (show 4 ≤ r121.toInt by omega) (show r121.toInt ≤ 10 by omega) v50_5 (show 0 ≤ v50_5.toInt from r30) (show v50_5.toInt ≤ 9 from t31) x128 (show 0 ≤ x128.toInt by omega) (show x128.toInt ≤ 9 by omega) w123 H.size hT ) (cwV 3 hC.2.2.2.2 uV_RX8_129 rfl rfl rfl (by decide +kernel) ⟨Nat.le_of_ble_eq_true rfl, Nat.le_of_ble_eq_true rfl⟩) rfl hl.1 rfl (Nat.le_of_ble_eq_true rfl) dX8_spread_86 (fun r130 w132 H locs hp131 hw => ?_)
      obtain ⟨hT, k133, hg136⟩ := hp131
      have hF := hF.tr k133 (by decide)
      have c137 := k133.gi hkq1_ (by decide) c129
      obtain ⟨g134, g135⟩ := hg136
      refine lv_istore (lv' := [(10, .int r130), (9, .int r121), (0, .ref (ad 151)), (1, .ref (ad q1_)), (2, .int a2), (3, .int a3), (4, .int a4), (5, .int v50_5), (6, .int v50_6), (7, .long v50_7)]) hx hb dX8_spread_89 hl (by decide) rfl (fun ls hl => ?_)
      refine lv_iload hx hb dX8_spread_91 (lv_at hl 0 rfl) ?_
      refine lv_iconst (v := (-1)) hx hb dX8_spread_93 (by decide) ?_
      refine lv_icmp_ne (tgt := 98) hx hb dX8_spread_94 (by decide) (fun c138 => ?_) (fun c138 => ?_)
      · have c138 : ¬ r130.toInt = (-1 : Int) := wk_eqF c138
        refine lv_aload_n hx hb dX8_spread_98 rfl (lv_at hl 2 rfl) ?_
        refine tk_getA hC hK hw hT hinX8 kC_at151 (by decide) rfl 0 (by decide) (List.mem_cons_of_mem _ uw_5_11) rfl rfl dX8_spread_99 ?_
        refine tk_getO hC hK hw hT hinX5 kC_at38 (by decide) rfl 0 (by decide) (List.mem_cons_of_mem _ uw_56_0) rfl rfl dX8_spread_102 ?_
        refine lv_iload hx hb dX8_spread_105 (lv_at hl 0 rfl) ?_
        refine lv_iload hx hb dX8_spread_107 (lv_at hl 7 rfl) ?_
        refine tk_Vi hC hK hw hT hA hE hSR kC_at39 (by decide) rfl (k_X7_sideOf_2 l adK adV dC dI cy ad B (by omega) (by omega) qr s1   r130 (show 0 ≤ r130.toInt by omega) (show r130.toInt ≤ 11 by omega) v50_5 (show 0 ≤ v50_5.toInt from r30) (show v50_5.toInt ≤ 9 from t31) w132 H.size hT ) (cwV 2 hC.2.2.2.2 uV_RX8_133 rfl rfl rfl (by decide +kernel) ⟨Nat.le_of_ble_eq_true rfl, Nat.le_of_ble_eq_true rfl⟩) rfl hl.1 rfl (Nat.le_of_ble_eq_true rfl) dX8_spread_109 (fun r139 w141 H locs hp140 hw => ?_)
        obtain ⟨hT, k142, hg145⟩ := hp140
        have hF := hF.tr k142 (by decide)
        have c146 := k142.gi hkq1_ (by decide) c137
        rcases hg145 with rfl | ⟨rfl, c143⟩ | ⟨rfl, c144⟩
        · refine lv_istore (lv' := [(11, .int (-1)), (10, .int r130), (9, .int r121), (0, .ref (ad 151)), (1, .ref (ad q1_)), (2, .int a2), (3, .int a3), (4, .int a4), (5, .int v50_5), (6, .int v50_6), (7, .long v50_7)]) hx hb dX8_spread_112 hl (by decide) rfl (fun ls hl => ?_)
          refine lv_iload hx hb dX8_spread_114 (lv_at hl 0 rfl) ?_
          refine lv_iconst (v := (-1)) hx hb dX8_spread_116 (by decide) ?_
          refine lv_icmp_eq (tgt := 185) hx hb dX8_spread_117 (by decide) (fun _ => ?_) (fun c => absurd (by decide) c)
          exact J185 v50_5 v50_6 v50_7 r121 r130 (-1) x128 H locs ls w141 (show 0 ≤ a2.toInt from r24) (show a2.toInt ≤ 120 from t25) (show 0 ≤ a3.toInt from r26) (show a3.toInt ≤ 19 from t27) (show 0 ≤ a4.toInt from r28) (show a4.toInt ≤ 999999 from t29) (show 0 ≤ v50_5.toInt from r30) (show v50_5.toInt ≤ 9 from t31) (show 0 ≤ v50_6.toInt from r32) (show v50_6.toInt ≤ 1 from t33) (show 0 ≤ v50_7.toInt from r34) (show v50_7.toInt ≤ 2305843009213693952 from t35) (show 0 ≤ r121.toInt by omega) (show r121.toInt ≤ 10 by omega) (show 0 ≤ r130.toInt by omega) (show r130.toInt ≤ 11 by omega) (by decide) (by decide) (show 0 ≤ x128.toInt by omega) (show x128.toInt ≤ 9 by omega)  hw hT hF c146 (lv_sub hl [3, 4, 5, 6, 7, 8, 9, 10, 2, 1, 0] rfl)
        · refine lv_istore (lv' := [(11, .int 0), (10, .int r130), (9, .int r121), (0, .ref (ad 151)), (1, .ref (ad q1_)), (2, .int a2), (3, .int a3), (4, .int a4), (5, .int v50_5), (6, .int v50_6), (7, .long v50_7)]) hx hb dX8_spread_112 hl (by decide) rfl (fun ls hl => ?_)
          refine lv_iload hx hb dX8_spread_114 (lv_at hl 0 rfl) ?_
          refine lv_iconst (v := (-1)) hx hb dX8_spread_116 (by decide) ?_
          refine lv_icmp_eq (tgt := 185) hx hb dX8_spread_117 (by decide) (fun c => absurd c (by decide)) (fun _ => ?_)
          refine lv_aload_n hx hb dX8_spread_120 rfl (lv_at hl 3 rfl) ?_
          refine tk_getA hC hK hw hT hinX8 kC_at151 (by decide) rfl 0 (by decide) (List.mem_cons_of_mem _ uw_5_11) rfl rfl dX8_spread_121 ?_
          refine tk_getO hC hK hw hT hinX5 kC_at38 (by decide) rfl 0 (by decide) (List.mem_cons_of_mem _ uw_56_0) rfl rfl dX8_spread_124 ?_
          refine lv_iload hx hb dX8_spread_127 (lv_at hl 1 rfl) ?_
          refine lv_iload hx hb dX8_spread_129 (lv_at hl 0 rfl) ?_
          refine lv_lload hx hb dX8_spread_131 (lv_at hl 10 rfl) ?_
          refine lv_iconst (v := 1) hx hb dX8_spread_133 (by decide) ?_
          refine tk_Vi hC hK hw hT hA hE hSR kC_at39 (by decide) rfl (k_X7_isOpen_4 l adK adV dC dI cy ad B (by omega) (by omega) qr s1   r130 (show 0 ≤ r130.toInt by omega) (show r130.toInt ≤ 11 by omega) v50_7 (show 0 ≤ v50_7.toInt from r34) (show v50_7.toInt ≤ 2305843009213693952 from t35) w141 H.size hT ) (cwV 4 hC.2.2.2.2 uV_RX8_137 rfl rfl rfl (by decide +kernel) ⟨Nat.le_of_ble_eq_true rfl, Nat.le_of_ble_eq_true rfl⟩) rfl hl.1 rfl (Nat.le_of_ble_eq_true rfl) dX8_spread_134 (fun r147 w149 H locs hp148 hw => ?_)
          obtain ⟨hT, k150, hg151⟩ := hp148
          have hF := hF.tr k150 (by decide)
          have c152 := k150.gi hkq1_ (by decide) c146
          have c153 := k150.gi kC_at40 rfl c143
          rcases hg151 with rfl | rfl
          · refine lv_if_eq (tgt := 185) hx hb dX8_spread_137 (by decide) (fun _ => ?_) (fun c => absurd (by decide) c)
            exact J185 v50_5 v50_6 v50_7 r121 r130 0 x128 H locs ls w149 (show 0 ≤ a2.toInt from r24) (show a2.toInt ≤ 120 from t25) (show 0 ≤ a3.toInt from r26) (show a3.toInt ≤ 19 from t27) (show 0 ≤ a4.toInt from r28) (show a4.toInt ≤ 999999 from t29) (show 0 ≤ v50_5.toInt from r30) (show v50_5.toInt ≤ 9 from t31) (show 0 ≤ v50_6.toInt from r32) (show v50_6.toInt ≤ 1 from t33) (show 0 ≤ v50_7.toInt from r34) (show v50_7.toInt ≤ 2305843009213693952 from t35) (show 0 ≤ r121.toInt by omega) (show r121.toInt ≤ 10 by omega) (show 0 ≤ r130.toInt by omega) (show r130.toInt ≤ 11 by omega) (by decide) (by decide) (show 0 ≤ x128.toInt by omega) (show x128.toInt ≤ 9 by omega)  hw hT hF c152 (lv_sub hl [3, 4, 5, 6, 7, 8, 9, 10, 2, 1, 0] rfl)
          · refine lv_if_eq (tgt := 185) hx hb dX8_spread_137 (by decide) (fun c => absurd c (by decide)) (fun _ => ?_)
            refine lv_iconst (v := 2) hx hb dX8_spread_140 (by decide) ?_
            refine lv_aload_n hx hb dX8_spread_141 rfl (lv_at hl 3 rfl) ?_
            refine tk_getA hC hK hw hT hinX8 kC_at151 (by decide) rfl 0 (by decide) (List.mem_cons_of_mem _ uw_5_11) rfl rfl dX8_spread_142 ?_
            refine tk_getO hC hK hw hT hinX5 kC_at38 (by decide) rfl 0 (by decide) (List.mem_cons_of_mem _ uw_56_0) rfl rfl dX8_spread_145 ?_
            refine lv_iload hx hb dX8_spread_148 (lv_at hl 1 rfl) ?_
            refine lv_iload hx hb dX8_spread_150 (lv_at hl 0 rfl) ?_
            refine tk_Vi hC hK hw hT hA hE hSR kC_at39 (by decide) rfl (k_X7_cornerAcross_2 l adK adV dC dI cy ad B (by omega) (by omega) qr s1   r130 (show 0 ≤ r130.toInt by omega) (show r130.toInt ≤ 11 by omega) w149 H.size hT ) (cwV 2 hC.2.2.2.2 uV_RX8_141 rfl rfl rfl (by decide +kernel) ⟨Nat.le_of_ble_eq_true rfl, Nat.le_of_ble_eq_true rfl⟩) rfl hl.1 rfl (Nat.le_of_ble_eq_true rfl) dX8_spread_152 (fun r154 w156 H locs hp155 hw => ?_)
            obtain ⟨hT, k157, hg160⟩ := hp155
            have hF := hF.tr k157 (by decide)
            have c161 := k157.gi hkq1_ (by decide) c152
            have c162 := k157.gi kC_at40 rfl c153
            obtain ⟨g158, g159⟩ := hg160
            refine lv_imul hx hb dX8_spread_155 ?_
            refine lv_topi (fun x163 ex163 => ?_)
            have ex163 : x163.toInt = (2 : Int) * r154.toInt := by rw [ex163]; exact wk_mul (show (-2147483648) ≤ (2 : Int) * r154.toInt by omega) (show (2 : Int) * r154.toInt ≤ 2147483647 by omega)
            refine lv_iload hx hb dX8_spread_156 (lv_at hl 9 rfl) ?_
            refine lv_iadd hx hb dX8_spread_158 ?_
            refine lv_topi (fun x164 ex164 => ?_)
            have ex164 : x164.toInt = x163.toInt + v50_6.toInt := by rw [ex164]; exact wk_add (show (-2147483648) ≤ x163.toInt + v50_6.toInt by omega) (show x163.toInt + v50_6.toInt ≤ 2147483647 by omega)
            refine lv_istore (lv' := [(12, .int x164), (11, .int 0), (10, .int r130), (9, .int r121), (0, .ref (ad 151)), (1, .ref (ad q1_)), (2, .int a2), (3, .int a3), (4, .int a4), (5, .int v50_5), (6, .int v50_6), (7, .long v50_7)]) hx hb dX8_spread_159 hl (by decide) rfl (fun ls hl => ?_)
            refine lv_aload_n hx hb dX8_spread_161 rfl (lv_at hl 4 rfl) ?_
            refine lv_lload hx hb dX8_spread_162 (lv_at hl 11 rfl) ?_
            refine lv_iload_n hx hb dX8_spread_164 rfl (lv_at hl 6 rfl) ?_
            refine lv_aload_n hx hb dX8_spread_165 rfl (lv_at hl 4 rfl) ?_
            refine tk_getA hC hK hw hT hinX8 kC_at151 (by decide) rfl 0 (by decide) (List.mem_cons_of_mem _ uw_5_11) rfl rfl dX8_spread_166 ?_
            refine tk_getO hC hK hw hT hinX5 kC_at38 (by decide) rfl 0 (by decide) (List.mem_cons_of_mem _ uw_56_0) rfl rfl dX8_spread_169 ?_
            refine tk_getO hC hK hw hT hinX7 kC_at39 (by decide) rfl 1 (by decide) (List.mem_cons_of_mem _ uw_56_14) rfl rfl dX8_spread_172 ?_
            refine lv_iload hx hb dX8_spread_175 (lv_at hl 2 rfl) ?_
            refine tk_iald hC hK hw hT kC_at41 rfl rfl (show 0 ≤ r130.toInt by omega) (show r130.toInt < 13 by omega) dX8_spread_177 (fun x165 c166 rx165 tx165 => ?_)
            refine lv_iload hx hb dX8_spread_178 (lv_at hl 0 rfl) ?_
            refine lv_iload hx hb dX8_spread_180 (lv_at hl 8 rfl) ?_
            refine tk_Vv hC hK hw hT hA hE hSR kC_at151 (by decide) rfl (k_X8_note_2 l adK adV dC dI cy ad B (by omega) (by omega) qr s1   v50_7 (show 0 ≤ v50_7.toInt from r34) (show v50_7.toInt ≤ 2305843009213693952 from t35) a2 (show 0 ≤ a2.toInt from r24) (show a2.toInt ≤ 120 from t25) x165 (show 0 ≤ x165.toInt from rx165) (show x165.toInt ≤ 9 from tx165) x164 (show 1 ≤ x164.toInt by omega) (show x164.toInt ≤ 19 by omega) a4 (show 0 ≤ a4.toInt from r28) (show a4.toInt ≤ 999999 from t29) w156 H.size hT ) (cwV 5 hC.2.2.2.2 uV_RX8_114 rfl rfl rfl (by decide +kernel) ⟨Nat.le_of_ble_eq_true rfl, Nat.le_of_ble_eq_true rfl⟩) rfl hl.1 rfl (Nat.le_of_ble_eq_true rfl) dX8_spread_182 (fun w169 H locs hp168 hw => ?_)
            obtain ⟨hT, k170, hg171⟩ := hp168
            have hF := hF.tr k170 (by decide)
            have c172 := k170.gi hkq1_ (by decide) c161
            have c173 := k170.gi kC_at40 rfl c162
            clear hg171
            exact J185 v50_5 v50_6 v50_7 r121 r130 0 x128 H locs ls w169 (show 0 ≤ a2.toInt from r24) (show a2.toInt ≤ 120 from t25) (show 0 ≤ a3.toInt from r26) (show a3.toInt ≤ 19 from t27) (show 0 ≤ a4.toInt from r28) (show a4.toInt ≤ 999999 from t29) (show 0 ≤ v50_5.toInt from r30) (show v50_5.toInt ≤ 9 from t31) (show 0 ≤ v50_6.toInt from r32) (show v50_6.toInt ≤ 1 from t33) (show 0 ≤ v50_7.toInt from r34) (show v50_7.toInt ≤ 2305843009213693952 from t35) (show 0 ≤ r121.toInt by omega) (show r121.toInt ≤ 10 by omega) (show 0 ≤ r130.toInt by omega) (show r130.toInt ≤ 11 by omega) (by decide) (by decide) (show 0 ≤ x128.toInt by omega) (show x128.toInt ≤ 9 by omega)  hw hT hF c172 (lv_sub hl [4, 5, 6, 7, 8, 9, 10, 11, 3, 2, 1] rfl)
        · refine lv_istore (lv' := [(11, .int 1), (10, .int r130), (9, .int r121), (0, .ref (ad 151)), (1, .ref (ad q1_)), (2, .int a2), (3, .int a3), (4, .int a4), (5, .int v50_5), (6, .int v50_6), (7, .long v50_7)]) hx hb dX8_spread_112 hl (by decide) rfl (fun ls hl => ?_)
          refine lv_iload hx hb dX8_spread_114 (lv_at hl 0 rfl) ?_
          refine lv_iconst (v := (-1)) hx hb dX8_spread_116 (by decide) ?_
          refine lv_icmp_eq (tgt := 185) hx hb dX8_spread_117 (by decide) (fun c => absurd c (by decide)) (fun _ => ?_)
          refine lv_aload_n hx hb dX8_spread_120 rfl (lv_at hl 3 rfl) ?_
          refine tk_getA hC hK hw hT hinX8 kC_at151 (by decide) rfl 0 (by decide) (List.mem_cons_of_mem _ uw_5_11) rfl rfl dX8_spread_121 ?_
          refine tk_getO hC hK hw hT hinX5 kC_at38 (by decide) rfl 0 (by decide) (List.mem_cons_of_mem _ uw_56_0) rfl rfl dX8_spread_124 ?_
          refine lv_iload hx hb dX8_spread_127 (lv_at hl 1 rfl) ?_
          refine lv_iload hx hb dX8_spread_129 (lv_at hl 0 rfl) ?_
          refine lv_lload hx hb dX8_spread_131 (lv_at hl 10 rfl) ?_
          refine lv_iconst (v := 1) hx hb dX8_spread_133 (by decide) ?_
          refine tk_Vi hC hK hw hT hA hE hSR kC_at39 (by decide) rfl (k_X7_isOpen_6 l adK adV dC dI cy ad B (by omega) (by omega) qr s1   r130 (show 0 ≤ r130.toInt by omega) (show r130.toInt ≤ 11 by omega) v50_7 (show 0 ≤ v50_7.toInt from r34) (show v50_7.toInt ≤ 2305843009213693952 from t35) w141 H.size hT ) (cwV 4 hC.2.2.2.2 uV_RX8_137 rfl rfl rfl (by decide +kernel) ⟨Nat.le_of_ble_eq_true rfl, Nat.le_of_ble_eq_true rfl⟩) rfl hl.1 rfl (Nat.le_of_ble_eq_true rfl) dX8_spread_134 (fun r174 w176 H locs hp175 hw => ?_)
          obtain ⟨hT, k177, hg178⟩ := hp175
          have hF := hF.tr k177 (by decide)
          have c179 := k177.gi hkq1_ (by decide) c146
          have c180 := k177.gi kC_at40 rfl c144
          rcases hg178 with rfl | rfl
          · refine lv_if_eq (tgt := 185) hx hb dX8_spread_137 (by decide) (fun _ => ?_) (fun c => absurd (by decide) c)
            exact J185 v50_5 v50_6 v50_7 r121 r130 1 x128 H locs ls w176 (show 0 ≤ a2.toInt from r24) (show a2.toInt ≤ 120 from t25) (show 0 ≤ a3.toInt from r26) (show a3.toInt ≤ 19 from t27) (show 0 ≤ a4.toInt from r28) (show a4.toInt ≤ 999999 from t29) (show 0 ≤ v50_5.toInt from r30) (show v50_5.toInt ≤ 9 from t31) (show 0 ≤ v50_6.toInt from r32) (show v50_6.toInt ≤ 1 from t33) (show 0 ≤ v50_7.toInt from r34) (show v50_7.toInt ≤ 2305843009213693952 from t35) (show 0 ≤ r121.toInt by omega) (show r121.toInt ≤ 10 by omega) (show 0 ≤ r130.toInt by omega) (show r130.toInt ≤ 11 by omega) (by decide) (by decide) (show 0 ≤ x128.toInt by omega) (show x128.toInt ≤ 9 by omega)  hw hT hF c179 (lv_sub hl [3, 4, 5, 6, 7, 8, 9, 10, 2, 1, 0] rfl)
          · refine lv_if_eq (tgt := 185) hx hb dX8_spread_137 (by decide) (fun c => absurd c (by decide)) (fun _ => ?_)
            refine lv_iconst (v := 2) hx hb dX8_spread_140 (by decide) ?_
            refine lv_aload_n hx hb dX8_spread_141 rfl (lv_at hl 3 rfl) ?_
            refine tk_getA hC hK hw hT hinX8 kC_at151 (by decide) rfl 0 (by decide) (List.mem_cons_of_mem _ uw_5_11) rfl rfl dX8_spread_142 ?_
            refine tk_getO hC hK hw hT hinX5 kC_at38 (by decide) rfl 0 (by decide) (List.mem_cons_of_mem _ uw_56_0) rfl rfl dX8_spread_145 ?_
            refine lv_iload hx hb dX8_spread_148 (lv_at hl 1 rfl) ?_
            refine lv_iload hx hb dX8_spread_150 (lv_at hl 0 rfl) ?_
            refine tk_Vi hC hK hw hT hA hE hSR kC_at39 (by decide) rfl (k_X7_cornerAcross_3 l adK adV dC dI cy ad B (by omega) (by omega) qr s1   r130 (show 0 ≤ r130.toInt by omega) (show r130.toInt ≤ 11 by omega) w176 H.size hT ) (cwV 2 hC.2.2.2.2 uV_RX8_141 rfl rfl rfl (by decide +kernel) ⟨Nat.le_of_ble_eq_true rfl, Nat.le_of_ble_eq_true rfl⟩) rfl hl.1 rfl (Nat.le_of_ble_eq_true rfl) dX8_spread_152 (fun r181 w183 H locs hp182 hw => ?_)
            obtain ⟨hT, k184, hg187⟩ := hp182
            have hF := hF.tr k184 (by decide)
            have c188 := k184.gi hkq1_ (by decide) c179
            have c189 := k184.gi kC_at40 rfl c180
            obtain ⟨g185, g186⟩ := hg187
            refine lv_imul hx hb dX8_spread_155 ?_
            refine lv_topi (fun x190 ex190 => ?_)
            have ex190 : x190.toInt = (2 : Int) * r181.toInt := by rw [ex190]; exact wk_mul (show (-2147483648) ≤ (2 : Int) * r181.toInt by omega) (show (2 : Int) * r181.toInt ≤ 2147483647 by omega)
            refine lv_iload hx hb dX8_spread_156 (lv_at hl 9 rfl) ?_
            refine lv_iadd hx hb dX8_spread_158 ?_
            refine lv_topi (fun x191 ex191 => ?_)
            have ex191 : x191.toInt = x190.toInt + v50_6.toInt := by rw [ex191]; exact wk_add (show (-2147483648) ≤ x190.toInt + v50_6.toInt by omega) (show x190.toInt + v50_6.toInt ≤ 2147483647 by omega)
            refine lv_istore (lv' := [(12, .int x191), (11, .int 1), (10, .int r130), (9, .int r121), (0, .ref (ad 151)), (1, .ref (ad q1_)), (2, .int a2), (3, .int a3), (4, .int a4), (5, .int v50_5), (6, .int v50_6), (7, .long v50_7)]) hx hb dX8_spread_159 hl (by decide) rfl (fun ls hl => ?_)
            refine lv_aload_n hx hb dX8_spread_161 rfl (lv_at hl 4 rfl) ?_
            refine lv_lload hx hb dX8_spread_162 (lv_at hl 11 rfl) ?_
            refine lv_iload_n hx hb dX8_spread_164 rfl (lv_at hl 6 rfl) ?_
            refine lv_aload_n hx hb dX8_spread_165 rfl (lv_at hl 4 rfl) ?_
            refine tk_getA hC hK hw hT hinX8 kC_at151 (by decide) rfl 0 (by decide) (List.mem_cons_of_mem _ uw_5_11) rfl rfl dX8_spread_166 ?_
            refine tk_getO hC hK hw hT hinX5 kC_at38 (by decide) rfl 0 (by decide) (List.mem_cons_of_mem _ uw_56_0) rfl rfl dX8_spread_169 ?_
            refine tk_getO hC hK hw hT hinX7 kC_at39 (by decide) rfl 1 (by decide) (List.mem_cons_of_mem _ uw_56_14) rfl rfl dX8_spread_172 ?_
            refine lv_iload hx hb dX8_spread_175 (lv_at hl 2 rfl) ?_
            refine tk_iald hC hK hw hT kC_at41 rfl rfl (show 0 ≤ r130.toInt by omega) (show r130.toInt < 13 by omega) dX8_spread_177 (fun x192 c193 rx192 tx192 => ?_)
            refine lv_iload hx hb dX8_spread_178 (lv_at hl 0 rfl) ?_
            refine lv_iload hx hb dX8_spread_180 (lv_at hl 8 rfl) ?_
            refine tk_Vv hC hK hw hT hA hE hSR kC_at151 (by decide) rfl (k_X8_note_2 l adK adV dC dI cy ad B (by omega) (by omega) qr s1   v50_7 (show 0 ≤ v50_7.toInt from r34) (show v50_7.toInt ≤ 2305843009213693952 from t35) a2 (show 0 ≤ a2.toInt from r24) (show a2.toInt ≤ 120 from t25) x192 (show 0 ≤ x192.toInt from rx192) (show x192.toInt ≤ 9 from tx192) x191 (show 1 ≤ x191.toInt by omega) (show x191.toInt ≤ 19 by omega) a4 (show 0 ≤ a4.toInt from r28) (show a4.toInt ≤ 999999 from t29) w183 H.size hT ) (cwV 5 hC.2.2.2.2 uV_RX8_114 rfl rfl rfl (by decide +kernel) ⟨Nat.le_of_ble_eq_true rfl, Nat.le_of_ble_eq_true rfl⟩) rfl hl.1 rfl (Nat.le_of_ble_eq_true rfl) dX8_spread_182 (fun w196 H locs hp195 hw => ?_)
            obtain ⟨hT, k197, hg198⟩ := hp195
            have hF := hF.tr k197 (by decide)
            have c199 := k197.gi hkq1_ (by decide) c188
            have c200 := k197.gi kC_at40 rfl c189
            clear hg198
            exact J185 v50_5 v50_6 v50_7 r121 r130 1 x128 H locs ls w196 (show 0 ≤ a2.toInt from r24) (show a2.toInt ≤ 120 from t25) (show 0 ≤ a3.toInt from r26) (show a3.toInt ≤ 19 from t27) (show 0 ≤ a4.toInt from r28) (show a4.toInt ≤ 999999 from t29) (show 0 ≤ v50_5.toInt from r30) (show v50_5.toInt ≤ 9 from t31) (show 0 ≤ v50_6.toInt from r32) (show v50_6.toInt ≤ 1 from t33) (show 0 ≤ v50_7.toInt from r34) (show v50_7.toInt ≤ 2305843009213693952 from t35) (show 0 ≤ r121.toInt by omega) (show r121.toInt ≤ 10 by omega) (show 0 ≤ r130.toInt by omega) (show r130.toInt ≤ 11 by omega) (by decide) (by decide) (show 0 ≤ x128.toInt by omega) (show x128.toInt ≤ 9 by omega)  hw hT hF c199 (lv_sub hl [4, 5, 6, 7, 8, 9, 10, 11, 3, 2, 1] rfl)
      · have c138 : r130.toInt = (-1 : Int) := wk_eq.mp c138
        exact tk_vret hC hr hlocks hK ⟨hT, hF, trivial⟩ hw dX8_spread_97
  refine lv_iload_n hx hb dX8_spread_0 rfl (lv_at hl 3 rfl) ?_
  refine lv_iconst (v := 2) hx hb dX8_spread_1 (by decide) ?_
  refine lv_idiv hx hb dX8_spread_2 (by decide) ?_
  refine lv_topi (fun x201 ex201 => ?_)
  have ex201 : x201.toInt = a3.toInt / (2 : Int) := by rw [ex201]; exact wk_div (show 0 ≤ a3.toInt from ra3) (show 0 < (2 : Int) by decide)
  refine lv_istore (lv' := [(5, .int x201), (0, .ref (ad 151)), (1, .ref (ad q1_)), (2, .int a2), (3, .int a3), (4, .int a4)]) hx hb dX8_spread_3 hl (by decide) rfl (fun ls hl => ?_)
  refine lv_iload_n hx hb dX8_spread_5 rfl (lv_at hl 4 rfl) ?_
  refine lv_iconst (v := 2) hx hb dX8_spread_6 (by decide) ?_
  refine lv_irem hx hb dX8_spread_7 (by decide) ?_
  refine lv_topi (fun x202 ex202 => ?_)
  have ex202 : x202.toInt = a3.toInt % (2 : Int) := by rw [ex202]; exact wk_rem (show 0 ≤ a3.toInt from ra3) (show 0 < (2 : Int) by decide)
  refine lv_istore (lv' := [(6, .int x202), (5, .int x201), (0, .ref (ad 151)), (1, .ref (ad q1_)), (2, .int a2), (3, .int a3), (4, .int a4)]) hx hb dX8_spread_8 hl (by decide) rfl (fun ls hl => ?_)
  refine lv_aload_n hx hb dX8_spread_10 rfl (lv_at hl 3 rfl) ?_
  refine tk_getB hC hK hw hT hinX9 hkq1_ (by decide) rfl 4 (by decide) (List.mem_cons_of_mem _ uw_53_10) rfl rfl dX8_spread_11 (fun x203 c204 rx203 tx203 => ?_)
  refine lv_iload_n hx hb dX8_spread_14 rfl (lv_at hl 4 rfl) ?_
  refine lv_i2l hx hb dX8_spread_15 rfl ?_
  refine lv_topl (fun x205 ex205 => ?_)
  have ex205 : x205.toInt = a2.toInt := by rw [ex205]; exact wk_i2l _
  have bx205 := wk_i32 a2
  refine lv_ladd hx hb dX8_spread_16 ?_
  refine lv_topl (fun x206 ex206 => ?_)
  have ex206 : x206.toInt = x203.toInt + x205.toInt := by rw [ex206]; exact wk_addl (show (-9223372036854775808) ≤ x203.toInt + x205.toInt by omega) (show x203.toInt + x205.toInt ≤ 9223372036854775807 by omega)
  refine lv_lstore (lv' := [(7, .long x206), (6, .int x202), (5, .int x201), (0, .ref (ad 151)), (1, .ref (ad q1_)), (2, .int a2), (3, .int a3), (4, .int a4)]) hx hb dX8_spread_17 hl (by decide) rfl (fun ls hl => ?_)
  refine lv_aload_n hx hb dX8_spread_19 rfl (lv_at hl 3 rfl) ?_
  refine lv_lload hx hb dX8_spread_20 (lv_at hl 0 rfl) ?_
  refine lv_iload_n hx hb dX8_spread_22 rfl (lv_at hl 5 rfl) ?_
  refine lv_iconst (v := 1) hx hb dX8_spread_23 (by decide) ?_
  refine lv_iload_n hx hb dX8_spread_24 rfl (lv_at hl 6 rfl) ?_
  refine lv_iload hx hb dX8_spread_25 (lv_at hl 7 rfl) ?_
  refine tk_Vv hC hK hw hT hA hE hSR kC_at151 (by decide) rfl (k_X8_note_3 l adK adV dC dI cy ad B (by omega) (by omega) qr s1   x206 (show 0 ≤ x206.toInt by omega) (show x206.toInt ≤ 2305843009213694072 by omega) a2 (show 0 ≤ a2.toInt from ra2) (show a2.toInt ≤ 120 from ta2) a3 (show 0 ≤ a3.toInt from ra3) (show a3.toInt ≤ 19 from ta3) a4 (show 0 ≤ a4.toInt from ra4) (show a4.toInt ≤ 999999 from ta4) w0 s.heap.size hT ) (cwV 5 hC.2.2.2.2 uV_RX8_114 rfl rfl rfl (by decide +kernel) ⟨Nat.le_of_ble_eq_true rfl, Nat.le_of_ble_eq_true rfl⟩) rfl hl.1 rfl (Nat.le_of_ble_eq_true rfl) dX8_spread_27 (fun w209 H locs hp208 hw => ?_)
  obtain ⟨hT, k210, hg211⟩ := hp208
  have hF := hF.tr k210 (by decide)
  have c212 := k210.gl hkq1_ (by decide) c204
  clear hg211
  refine lv_iload hx hb dX8_spread_30 (lv_at hl 1 rfl) ?_
  refine lv_if_ne (tgt := 50) hx hb dX8_spread_32 (by decide) (fun c213 => ?_) (fun c213 => ?_)
  · have c213 : ¬ x202.toInt = (0 : Int) := wk_eqF c213
    exact J50 x201 x202 x206 H locs ls w209 (show 0 ≤ a2.toInt from ra2) (show a2.toInt ≤ 120 from ta2) (show 0 ≤ a3.toInt from ra3) (show a3.toInt ≤ 19 from ta3) (show 0 ≤ a4.toInt from ra4) (show a4.toInt ≤ 999999 from ta4) (show 0 ≤ x201.toInt by omega) (show x201.toInt ≤ 9 by omega) (show 0 ≤ x202.toInt by omega) (show x202.toInt ≤ 1 by omega) (show 0 ≤ x206.toInt by omega) (show x206.toInt ≤ 2305843009213693952 by omega)  hw hT hF  (lv_sub hl [3, 4, 5, 6, 7, 2, 1, 0] rfl)
  · have c213 : x202.toInt = (0 : Int) := wk_eq.mp c213
    refine lv_aload_n hx hb dX8_spread_35 rfl (lv_at hl 3 rfl) ?_
    refine lv_lload hx hb dX8_spread_36 (lv_at hl 0 rfl) ?_
    refine lv_iload_n hx hb dX8_spread_38 rfl (lv_at hl 5 rfl) ?_
    refine lv_iconst (v := 1) hx hb dX8_spread_39 (by decide) ?_
    refine lv_iload_n hx hb dX8_spread_40 rfl (lv_at hl 6 rfl) ?_
    refine lv_iconst (v := 1) hx hb dX8_spread_41 (by decide) ?_
    refine lv_iadd hx hb dX8_spread_42 ?_
    refine lv_topi (fun x214 ex214 => ?_)
    have ex214 : x214.toInt = a3.toInt + (1 : Int) := by rw [ex214]; exact wk_add (show (-2147483648) ≤ a3.toInt + (1 : Int) by omega) (show a3.toInt + (1 : Int) ≤ 2147483647 by omega)
    refine lv_iload hx hb dX8_spread_43 (lv_at hl 7 rfl) ?_
    refine lv_iconst (v := 1) hx hb dX8_spread_45 (by decide) ?_
    refine lv_iadd hx hb dX8_spread_46 ?_
    refine lv_topi (fun x215 ex215 => ?_)
    have ex215 : x215.toInt = a4.toInt + (1 : Int) := by rw [ex215]; exact wk_add (show (-2147483648) ≤ a4.toInt + (1 : Int) by omega) (show a4.toInt + (1 : Int) ≤ 2147483647 by omega)
    refine tk_Vv hC hK hw hT hA hE hSR kC_at151 (by decide) rfl (k_X8_note_4 l adK adV dC dI cy ad B (by omega) (by omega) qr s1   x206 (show 0 ≤ x206.toInt by omega) (show x206.toInt ≤ 2305843009213694072 by omega) a2 (show 0 ≤ a2.toInt from ra2) (show a2.toInt ≤ 120 from ta2) x214 (show 1 ≤ x214.toInt by omega) (show x214.toInt ≤ 19 by omega) x215 (show 1 ≤ x215.toInt by omega) (show x215.toInt ≤ 1000000 by omega) w209 H.size hT ) (cwV 5 hC.2.2.2.2 uV_RX8_114 rfl rfl rfl (by decide +kernel) ⟨Nat.le_of_ble_eq_true rfl, Nat.le_of_ble_eq_true rfl⟩) rfl hl.1 rfl (Nat.le_of_ble_eq_true rfl) dX8_spread_47 (fun w218 H locs hp217 hw => ?_)
    obtain ⟨hT, k219, hg220⟩ := hp217
    have hF := hF.tr k219 (by decide)
    have c221 := k219.gl hkq1_ (by decide) c212
    clear hg220
    exact J50 x201 x202 x206 H locs ls w218 (show 0 ≤ a2.toInt from ra2) (show a2.toInt ≤ 120 from ta2) (show 0 ≤ a3.toInt from ra3) (show a3.toInt ≤ 19 from ta3) (show 0 ≤ a4.toInt from ra4) (show a4.toInt ≤ 999999 from ta4) (show 0 ≤ x201.toInt by omega) (show x201.toInt ≤ 9 by omega) (show 0 ≤ x202.toInt by omega) (show x202.toInt ≤ 1 by omega) (show 0 ≤ x206.toInt by omega) (show x206.toInt ≤ 2305843009213693952 by omega)  hw hT hF  (lv_sub hl [3, 4, 5, 6, 7, 2, 1, 0] rfl)
abbrev P_J7_fill_53178_1 (ad : Nat → Nat) (cy : Nat → ClassId) (B : Int) (qr : Nat) (s1 : Int)  (w0 : va_W) : va_W → Prop := fun u => TW ksC ad cy B qr s1 u ∧ FE ksC [(47, 0, 2420)] w0 u ∧ ((True))
set_option maxHeartbeats 4000000 in
set_option maxRecDepth 100000 in
theorem k_J7_fill_53178_1 (l : Launch) (adK adV : Nat → Nat) (dC : Nat → ClassId) (dI : Nat → Nat → Nat) (cy : Nat → ClassId) (ad : Nat → Nat) (B : Int) (hB0 : 2147483648 ≤ B) (hB1 : B ≤ 1152921504606846976) (qr : Nat) (s1 : Int)   (w0 : va_W) (sz : Nat) (hT : TW ksC ad cy B qr s1 w0)  : Met l yJ7_fill_53178 (wu yJ7_fill_53178 cJ7_fill_53178 4 none) ({ frames := 1, cells := 0, slots := 0, locals := 12 }) (va_Pc [.ref (ad 154), .int 1000000] (wpreS adK adV dC dI cy sz w0)) (va_Qv (P_J7_fill_53178_1 ad cy B qr s1  w0) (fun u : va_W => wpost dC dI cy (va_A w0 sz) u) (va_A w0 sz)) 0 0 (va_A w0 sz) := by
  refine Met.ofW (cc := cJ7_fill_53178) (maxL := 4) (ret := none) (by decide) rfl ?_
  intro p e s m args below meth c s₁ Bk hml hv
  obtain ⟨rfl, ⟨hsz, hP, hK, hD0⟩, hE, hSR⟩ := hv
  have hx := Bk.exec
  have hb := Bk.bytes
  have hr := Bk.returns
  have hlocks := Bk.notSynchronized
  have hC : CallFix p m c cJ7_fill_53178 4 s _ (wu yJ7_fill_53178 cJ7_fill_53178 4 none) RJ7 := ⟨hx, hb, hml, findClass_of_methodNamed Bk.named, atoms_spec (ws := (wu yJ7_fill_53178 cJ7_fill_53178 4 none)) Bk.pre⟩
  subst hsz
  have hD := hD0.self (sz := s.heap.size)
  generalize hAe : va_A w0 s.heap.size = A at hD hE ⊢
  have hA : ∀ q : Nat, s.heap.size ≤ q → A q := fun q h => by rw [← hAe]; exact Or.inr h
  have hw : Wd dC dI A s.heap s.heap [] w0 := ⟨hP, hD, va_S.rf⟩
  have hF : FE ksC [(47, 0, 2420)] w0 w0 := FE.rf
  have hl := lv_entry ([.ref (ad 154), .int 1000000]) (n := 4) (Nat.le_of_ble_eq_true rfl)
  rw [lg_entry_eq]
  generalize (lg_sl ([.ref (ad 154), .int 1000000]) ++ List.replicate (4 - (lg_sl ([.ref (ad 154), .int 1000000])).length) Slot.unset).toArray = ls at hl ⊢
  have hl : lv_has ls 4 [(0, .ref (ad 154)), (1, .int 1000000)] := hl
  generalize hloc : ([] : List Loc) = locs at hw ⊢
  have L5 : ∀ (n5 : Nat) (v5_2 : Int32) (H : Heap) (locs : List Loc) (ls : Array Slot) (w1 : va_W), 0 ≤ v5_2.toInt → v5_2.toInt ≤ 2420 → (2420 - v5_2.toInt).toNat < n5 → Wd dC dI A s.heap H locs w1 → TW ksC ad cy B qr s1 w1 → FE ksC [(47, 0, 2420)] w0 w1 → lv_has ls 4 [(0, .ref (ad 154)), (1, .int 1000000), (2, .int v5_2), (3, .int 2420)] → W p l e ({ frames := 1, cells := 0, slots := 0, locals := 12 }) s m (List.toArray [.ref (ad 154), .int 1000000]) below meth c H locs 0 0 (MQ below (va_Qv (P_J7_fill_53178_1 ad cy B qr s1  w0) (fun u : va_W => wpost dC dI cy A u) A) (List.toArray [.ref (ad 154), .int 1000000]) s 0 0 A) (F0 m 5 ls []) := by
    intro n5
    induction n5 with
    | zero => intro v5_2 H locs ls w1 r2 t3 hm5 hw hT hF hl; omega
    | succ n5 ih5 =>
      intro v5_2 H locs ls w1 r2 t3 hm5 hw hT hF hl
      refine lv_iload_n hx hb dJ7_fill_53178_5 rfl (lv_at hl 2 rfl) ?_
      refine lv_iload_n hx hb dJ7_fill_53178_6 rfl (lv_at hl 3 rfl) ?_
      refine lv_icmp_ge (tgt := 20) hx hb dJ7_fill_53178_7 (by decide) (fun c4 => ?_) (fun c4 => ?_)
      · have c4 : (2420 : Int) ≤ v5_2.toInt := wk_le.mp c4
        exact tk_vret hC hr hlocks hK ⟨hT, hF, trivial⟩ hw dJ7_fill_53178_20
      · have c4 : v5_2.toInt < (2420 : Int) := wk_leF c4
        refine lv_aload_n hx hb dJ7_fill_53178_10 rfl (lv_at hl 0 rfl) ?_
        refine lv_iload_n hx hb dJ7_fill_53178_11 rfl (lv_at hl 2 rfl) ?_
        refine lv_iload_n hx hb dJ7_fill_53178_12 rfl (lv_at hl 1 rfl) ?_
        refine tk_iast hC hK hw hT kC_at154 (by decide) rfl rfl (show 0 ≤ v5_2.toInt from r2) (show v5_2.toInt < 2420 from c4) (by decide) (by decide) dJ7_fill_53178_13 (fun H locs w5 hw hT k7 c6 => ?_)
        have hF := hF.put kC_at154 (inE_of (a := 0) (b := 2420) (by decide) (show 0 ≤ v5_2.toInt.toNat by omega) (show v5_2.toInt.toNat ≤ 2420 by omega)) k7
        obtain ⟨x8, ex8⟩ : ∃ y : Int32, y = v5_2 + Int32.ofInt 1 := ⟨_, rfl⟩
        refine lv_iinc (v := x8) (lv' := [(2, .int x8), (0, .ref (ad 154)), (1, .int 1000000), (3, .int 2420)]) hx hb dJ7_fill_53178_14 hl (k := 2) rfl ex8.symm (by decide) rfl (fun ls hl => ?_)
        have ex8 : x8.toInt = v5_2.toInt + 1 := by rw [ex8]; exact wk_add (y := 1) (show -2147483648 ≤ v5_2.toInt + 1 by omega) (show v5_2.toInt + 1 ≤ 2147483647 by omega)
        refine lv_goto (tgt := 5) hx hb dJ7_fill_53178_17 (by decide) ?_
        exact ih5 x8 H locs ls w5 (show 0 ≤ x8.toInt by omega) (show x8.toInt ≤ 2420 by omega) (show (2420 - x8.toInt).toNat < n5 by omega) hw hT hF  (lv_sub hl [1, 2, 0, 3] rfl)
  refine lv_iconst (v := 0) hx hb dJ7_fill_53178_0 (by decide) ?_
  refine lv_istore_n (lv' := [(2, .int 0), (0, .ref (ad 154)), (1, .int 1000000)]) hx hb dJ7_fill_53178_1 rfl hl (by decide) rfl (fun ls hl => ?_)
  refine lv_aload_n hx hb dJ7_fill_53178_2 rfl (lv_at hl 1 rfl) ?_
  refine tk_alen (v := 2420) hC hK hw hT kC_at154 rfl (by decide) rfl (by decide) dJ7_fill_53178_3 ?_
  refine lv_istore_n (lv' := [(3, .int 2420), (2, .int 0), (0, .ref (ad 154)), (1, .int 1000000)]) hx hb dJ7_fill_53178_4 rfl hl (by decide) rfl (fun ls hl => ?_)
  exact L5 ((2420 - (0 : Int)).toNat + 1) 0 s.heap locs ls w0 (by decide) (by decide) (Nat.lt_succ_self _) hw hT hF  (lv_sub hl [2, 3, 1, 0] rfl)
abbrev P_X8_fewestQuestions_1 (ad : Nat → Nat) (cy : Nat → ClassId) (B : Int) (qr : Nat) (s1 : Int) (q1_ : Nat) (a2 : Int32) (w0 : va_W) : Int32 → va_W → Prop := fun r u => TW ksC ad cy B qr s1 u ∧ FE ksC [(8, 6, 6), (47, 0, 2420)] w0 u ∧ ((r = (-2)) ∨ (0 ≤ r.toInt ∧ r.toInt ≤ 999999))
set_option maxHeartbeats 4000000 in
set_option maxRecDepth 100000 in
theorem k_X8_fewestQuestions_1 (l : Launch) (adK adV : Nat → Nat) (dC : Nat → ClassId) (dI : Nat → Nat → Nat) (cy : Nat → ClassId) (ad : Nat → Nat) (B : Int) (hB0 : 2147483648 ≤ B) (hB1 : B ≤ 1152921504606846976) (qr : Nat) (s1 : Int)  (q1_ : Nat) (hkq1_ : ksC[q1_]? = some 9) (a2 : Int32) (ra2 : 0 ≤ a2.toInt) (ta2 : a2.toInt ≤ 120) (w0 : va_W) (sz : Nat) (hT : TW ksC ad cy B qr s1 w0)  : Met l yX8_fewestQuestions (wu yX8_fewestQuestions cX8_fewestQuestions 7 (some .int)) ({ frames := 4, cells := 0, slots := 0, locals := 97 }) (va_Pc [.ref (ad 151), .ref (ad q1_), .int a2] (wpreS adK adV dC dI cy sz w0)) (va_Qi (P_X8_fewestQuestions_1 ad cy B qr s1 q1_ a2 w0) (fun u : va_W => wpost dC dI cy (va_A w0 sz) u) (va_A w0 sz)) 0 0 (va_A w0 sz) := by
  refine Met.ofW (cc := cX8_fewestQuestions) (maxL := 7) (ret := (some .int)) (by decide) rfl ?_
  intro p e s m args below meth c s₁ Bk hml hv
  obtain ⟨rfl, ⟨hsz, hP, hK, hD0⟩, hE, hSR⟩ := hv
  have hx := Bk.exec
  have hb := Bk.bytes
  have hr := Bk.returns
  have hlocks := Bk.notSynchronized
  have hC : CallFix p m c cX8_fewestQuestions 7 s _ (wu yX8_fewestQuestions cX8_fewestQuestions 7 (some .int)) RX8 := ⟨hx, hb, hml, findClass_of_methodNamed Bk.named, atoms_spec (ws := (wu yX8_fewestQuestions cX8_fewestQuestions 7 (some .int))) Bk.pre⟩
  subst hsz
  have hD := hD0.self (sz := s.heap.size)
  generalize hAe : va_A w0 s.heap.size = A at hD hE ⊢
  have hA : ∀ q : Nat, s.heap.size ≤ q → A q := fun q h => by rw [← hAe]; exact Or.inr h
  have hw : Wd dC dI A s.heap s.heap [] w0 := ⟨hP, hD, va_S.rf⟩
  have hF : FE ksC [(8, 6, 6), (47, 0, 2420)] w0 w0 := FE.rf
  have hl := lv_entry ([.ref (ad 151), .ref (ad q1_), .int a2]) (n := 7) (Nat.le_of_ble_eq_true rfl)
  rw [lg_entry_eq]
  generalize (lg_sl ([.ref (ad 151), .ref (ad q1_), .int a2]) ++ List.replicate (7 - (lg_sl ([.ref (ad 151), .ref (ad q1_), .int a2])).length) Slot.unset).toArray = ls at hl ⊢
  have hl : lv_has ls 7 [(0, .ref (ad 151)), (1, .ref (ad q1_)), (2, .int a2)] := hl
  generalize hloc : ([] : List Loc) = locs at hw ⊢
  have hinX8 : ∀ w ∈ u_ws RX8 TX8 8, w ∈ (wu yX8_fewestQuestions cX8_fewestQuestions 7 (some .int)) := fun _ h => List.mem_cons_of_mem _ (up_79 h)
  have hinX5 : ∀ w ∈ u_ws RX5 TX5 14, w ∈ (wu yX8_fewestQuestions cX8_fewestQuestions 7 (some .int)) := fun _ h => List.mem_cons_of_mem _ (up_76 h)
  have hinX7 : ∀ w ∈ u_ws RX7 TX7 12, w ∈ (wu yX8_fewestQuestions cX8_fewestQuestions 7 (some .int)) := fun _ h => List.mem_cons_of_mem _ (up_73 h)
  have hinX9 : ∀ w ∈ u_ws RX9 TX9 9, w ∈ (wu yX8_fewestQuestions cX8_fewestQuestions 7 (some .int)) := fun _ h => List.mem_cons_of_mem _ (up_82 h)
  have L45 : ∀ (n45 : Nat) (v45_3 : Int32) (v45_4 : Int32) (f45_q1__0 : Int32) (H : Heap) (locs : List Loc) (ls : Array Slot) (w1 : va_W), 0 ≤ a2.toInt → a2.toInt ≤ 120 → 0 ≤ v45_3.toInt → v45_3.toInt ≤ 1000000 → 0 ≤ v45_4.toInt → v45_4.toInt ≤ 121 → 0 ≤ a2.toInt → a2.toInt ≤ 120 → 0 ≤ f45_q1__0.toInt → f45_q1__0.toInt ≤ 9 → (121 - v45_4.toInt).toNat < n45 → Wd dC dI A s.heap H locs w1 → TW ksC ad cy B qr s1 w1 → FE ksC [(8, 6, 6), (47, 0, 2420)] w0 w1 → gi w1 151 6 = a2 → gi w1 q1_ 0 = f45_q1__0 → lv_has ls 7 [(0, .ref (ad 151)), (1, .ref (ad q1_)), (2, .int a2), (3, .int v45_3), (4, .int v45_4)] → W p l e ({ frames := 4, cells := 0, slots := 0, locals := 97 }) s m (List.toArray [.ref (ad 151), .ref (ad q1_), .int a2]) below meth c H locs 0 0 (MQ below (va_Qi (P_X8_fewestQuestions_1 ad cy B qr s1 q1_ a2 w0) (fun u : va_W => wpost dC dI cy A u) A) (List.toArray [.ref (ad 151), .ref (ad q1_), .int a2]) s 0 0 A) (F0 m 45 ls []) := by
    intro n45
    induction n45 with
    | zero => intro v45_3 v45_4 f45_q1__0 H locs ls w1 r2 t3 r4 t5 r6 t7 r8 t9 r11 t12 hm45 hw hT hF c10 c13 hl; omega
    | succ n45 ih45 =>
      intro v45_3 v45_4 f45_q1__0 H locs ls w1 r2 t3 r4 t5 r6 t7 r8 t9 r11 t12 hm45 hw hT hF c10 c13 hl
      have L54 : ∀ (n54 : Nat) (v54_3 : Int32) (v54_5 : Int32) (H : Heap) (locs : List Loc) (ls : Array Slot) (w14 : va_W), 0 ≤ a2.toInt → a2.toInt ≤ 120 → 0 ≤ v54_3.toInt → v54_3.toInt ≤ 1000000 → 0 ≤ v45_4.toInt → v45_4.toInt ≤ 120 → 0 ≤ v54_5.toInt → v54_5.toInt ≤ 20 → 0 ≤ a2.toInt → a2.toInt ≤ 120 → 0 ≤ f45_q1__0.toInt → f45_q1__0.toInt ≤ 9 → (20 - v54_5.toInt).toNat < n54 → Wd dC dI A s.heap H locs w14 → TW ksC ad cy B qr s1 w14 → FE ksC [(8, 6, 6), (47, 0, 2420)] w0 w14 → gi w14 151 6 = a2 → gi w14 q1_ 0 = f45_q1__0 → lv_has ls 7 [(0, .ref (ad 151)), (1, .ref (ad q1_)), (2, .int a2), (3, .int v54_3), (4, .int v45_4), (5, .int v54_5)] → W p l e ({ frames := 4, cells := 0, slots := 0, locals := 97 }) s m (List.toArray [.ref (ad 151), .ref (ad q1_), .int a2]) below meth c H locs 0 0 (MQ below (va_Qi (P_X8_fewestQuestions_1 ad cy B qr s1 q1_ a2 w0) (fun u : va_W => wpost dC dI cy A u) A) (List.toArray [.ref (ad 151), .ref (ad q1_), .int a2]) s 0 0 A) (F0 m 54 ls []) := by
        intro n54
        induction n54 with
        | zero => intro v54_3 v54_5 H locs ls w14 r15 t16 r17 t18 r19 t20 r21 t22 r23 t24 r26 t27 hm54 hw hT hF c25 c28 hl; omega
        | succ n54 ih54 =>
          intro v54_3 v54_5 H locs ls w14 r15 t16 r17 t18 r19 t20 r21 t22 r23 t24 r26 t27 hm54 hw hT hF c25 c28 hl
          have J123 : ∀ (v123_3 : Int32) (v123_6 : Int32) (f123_39_8 : Int32) (H : Heap) (locs : List Loc) (ls : Array Slot) (w29 : va_W), 0 ≤ a2.toInt → a2.toInt ≤ 120 → 0 ≤ v123_3.toInt → v123_3.toInt ≤ 1000000 → 0 ≤ v45_4.toInt → v45_4.toInt ≤ 120 → 0 ≤ v54_5.toInt → v54_5.toInt ≤ 19 → 0 ≤ v123_6.toInt → v123_6.toInt ≤ 1000000 → 0 ≤ a2.toInt → a2.toInt ≤ 120 → 1 ≤ f123_39_8.toInt → f123_39_8.toInt ≤ 10 → 0 ≤ f45_q1__0.toInt → f45_q1__0.toInt ≤ 9 → Wd dC dI A s.heap H locs w29 → TW ksC ad cy B qr s1 w29 → FE ksC [(8, 6, 6), (47, 0, 2420)] w0 w29 → gi w29 151 6 = a2 → gi w29 39 8 = f123_39_8 → gi w29 q1_ 0 = f45_q1__0 → lv_has ls 7 [(0, .ref (ad 151)), (1, .ref (ad q1_)), (2, .int a2), (3, .int v123_3), (4, .int v45_4), (5, .int v54_5), (6, .int v123_6)] → W p l e ({ frames := 4, cells := 0, slots := 0, locals := 97 }) s m (List.toArray [.ref (ad 151), .ref (ad q1_), .int a2]) below meth c H locs 0 0 (MQ below (va_Qi (P_X8_fewestQuestions_1 ad cy B qr s1 q1_ a2 w0) (fun u : va_W => wpost dC dI cy A u) A) (List.toArray [.ref (ad 151), .ref (ad q1_), .int a2]) s 0 0 A) (F0 m 123 ls []) := by
            intro v123_3 v123_6 f123_39_8 H locs ls w29 r30 t31 r32 t33 r34 t35 r36 t37 r38 t39 r40 t41 r43 t44 r46 t47 hw hT hF c42 c45 c48 hl
            obtain ⟨x49, ex49⟩ : ∃ y : Int32, y = v54_5 + Int32.ofInt 1 := ⟨_, rfl⟩
            refine lv_iinc (v := x49) (lv' := [(5, .int x49), (0, .ref (ad 151)), (1, .ref (ad q1_)), (2, .int a2), (3, .int v123_3), (4, .int v45_4), (6, .int v123_6)]) hx hb dX8_fewestQuestions_123 hl (k := 5) rfl ex49.symm (by decide) rfl (fun ls hl => ?_)
            have ex49 : x49.toInt = v54_5.toInt + 1 := by rw [ex49]; exact wk_add (y := 1) (show -2147483648 ≤ v54_5.toInt + 1 by omega) (show v54_5.toInt + 1 ≤ 2147483647 by omega)
            refine lv_goto (tgt := 54) hx hb dX8_fewestQuestions_126 (by decide) ?_
            exact ih54 v123_3 x49 H locs ls w29 (show 0 ≤ a2.toInt from r40) (show a2.toInt ≤ 120 from t41) (show 0 ≤ v123_3.toInt from r32) (show v123_3.toInt ≤ 1000000 from t33) (show 0 ≤ v45_4.toInt from r34) (show v45_4.toInt ≤ 120 from t35) (show 0 ≤ x49.toInt by omega) (show x49.toInt ≤ 20 by omega) (show 0 ≤ a2.toInt from r40) (show a2.toInt ≤ 120 from t41) (show 0 ≤ f45_q1__0.toInt from r46) (show f45_q1__0.toInt ≤ 9 from t47) (show (20 - x49.toInt).toNat < n54 by omega) hw hT hF c42 c48 (lv_sub hl [1, 2, 3, 4, 5, 0] rfl)
          refine lv_iload hx hb dX8_fewestQuestions_54 (lv_at hl 5 rfl) ?_
          refine lv_iconst (v := 2) hx hb dX8_fewestQuestions_56 (by decide) ?_
          refine lv_aload_n hx hb dX8_fewestQuestions_57 rfl (lv_at hl 0 rfl) ?_
          refine tk_getA hC hK hw hT hinX8 kC_at151 (by decide) rfl 0 (by decide) (List.mem_cons_of_mem _ uw_5_11) rfl rfl dX8_fewestQuestions_58 ?_
          refine tk_getO hC hK hw hT hinX5 kC_at38 (by decide) rfl 0 (by decide) (List.mem_cons_of_mem _ uw_56_0) rfl rfl dX8_fewestQuestions_61 ?_
          refine tk_geti hC hK hw hT hinX7 kC_at39 (by decide) rfl 8 (by decide) (List.mem_cons_of_mem _ uw_56_1) rfl rfl dX8_fewestQuestions_64 (fun x50 c51 rx50 tx50 => ?_)
          refine lv_imul hx hb dX8_fewestQuestions_67 ?_
          refine lv_topi (fun x52 ex52 => ?_)
          have ex52 : x52.toInt = (2 : Int) * x50.toInt := by rw [ex52]; exact wk_mul (show (-2147483648) ≤ (2 : Int) * x50.toInt by omega) (show (2 : Int) * x50.toInt ≤ 2147483647 by omega)
          refine lv_icmp_ge (tgt := 129) hx hb dX8_fewestQuestions_68 (by decide) (fun c53 => ?_) (fun c53 => ?_)
          · have c53 : x52.toInt ≤ v54_5.toInt := wk_le.mp c53
            obtain ⟨x54, ex54⟩ : ∃ y : Int32, y = v45_4 + Int32.ofInt 1 := ⟨_, rfl⟩
            refine lv_iinc (v := x54) (lv' := [(4, .int x54), (0, .ref (ad 151)), (1, .ref (ad q1_)), (2, .int a2), (3, .int v54_3), (5, .int v54_5)]) hx hb dX8_fewestQuestions_129 hl (k := 4) rfl ex54.symm (by decide) rfl (fun ls hl => ?_)
            have ex54 : x54.toInt = v45_4.toInt + 1 := by rw [ex54]; exact wk_add (y := 1) (show -2147483648 ≤ v45_4.toInt + 1 by omega) (show v45_4.toInt + 1 ≤ 2147483647 by omega)
            refine lv_goto (tgt := 45) hx hb dX8_fewestQuestions_132 (by decide) ?_
            exact ih45 v54_3 x54 f45_q1__0 H locs ls w14 (show 0 ≤ a2.toInt from r23) (show a2.toInt ≤ 120 from t24) (show 0 ≤ v54_3.toInt from r17) (show v54_3.toInt ≤ 1000000 from t18) (show 0 ≤ x54.toInt by omega) (show x54.toInt ≤ 121 by omega) (show 0 ≤ a2.toInt from r23) (show a2.toInt ≤ 120 from t24) (show 0 ≤ f45_q1__0.toInt from r26) (show f45_q1__0.toInt ≤ 9 from t27) (show (121 - x54.toInt).toNat < n45 by omega) hw hT hF c25 c28 (lv_sub hl [1, 2, 3, 4, 0] rfl)
          · have c53 : v54_5.toInt < x52.toInt := wk_leF c53
            refine lv_aload_n hx hb dX8_fewestQuestions_71 rfl (lv_at hl 0 rfl) ?_
            refine tk_getA hC hK hw hT hinX8 kC_at151 (by decide) rfl 5 (by decide) (List.mem_cons_of_mem _ uw_5_10) rfl rfl dX8_fewestQuestions_72 ?_
            refine lv_iload hx hb dX8_fewestQuestions_75 (lv_at hl 4 rfl) ?_
            refine lv_bipush (v := 20) hx hb dX8_fewestQuestions_77 (by decide) ?_
            refine lv_imul hx hb dX8_fewestQuestions_79 ?_
            refine lv_topi (fun x55 ex55 => ?_)
            have ex55 : x55.toInt = v45_4.toInt * (20 : Int) := by rw [ex55]; exact wk_mul (show (-2147483648) ≤ v45_4.toInt * (20 : Int) by omega) (show v45_4.toInt * (20 : Int) ≤ 2147483647 by omega)
            refine lv_iload hx hb dX8_fewestQuestions_80 (lv_at hl 5 rfl) ?_
            refine lv_iadd hx hb dX8_fewestQuestions_82 ?_
            refine lv_topi (fun x56 ex56 => ?_)
            have ex56 : x56.toInt = x55.toInt + v54_5.toInt := by rw [ex56]; exact wk_add (show (-2147483648) ≤ x55.toInt + v54_5.toInt by omega) (show x55.toInt + v54_5.toInt ≤ 2147483647 by omega)
            refine tk_iald hC hK hw hT kC_at154 rfl rfl (show 0 ≤ x56.toInt by omega) (show x56.toInt < 2420 by omega) dX8_fewestQuestions_83 (fun x57 c58 rx57 tx57 => ?_)
            refine lv_istore (lv' := [(6, .int x57), (0, .ref (ad 151)), (1, .ref (ad q1_)), (2, .int a2), (3, .int v54_3), (4, .int v45_4), (5, .int v54_5)]) hx hb dX8_fewestQuestions_84 hl (by decide) rfl (fun ls hl => ?_)
            refine lv_iload hx hb dX8_fewestQuestions_86 (lv_at hl 0 rfl) ?_
            refine lv_iload_n hx hb dX8_fewestQuestions_88 rfl (lv_at hl 4 rfl) ?_
            refine lv_icmp_lt (tgt := 95) hx hb dX8_fewestQuestions_89 (by decide) (fun c59 => ?_) (fun c59 => ?_)
            · have c59 : x57.toInt < v54_3.toInt := wk_lt.mp c59
              refine lv_iload hx hb dX8_fewestQuestions_95 (lv_at hl 6 rfl) ?_
              refine lv_iconst (v := 2) hx hb dX8_fewestQuestions_97 (by decide) ?_
              refine lv_idiv hx hb dX8_fewestQuestions_98 (by decide) ?_
              refine lv_topi (fun x60 ex60 => ?_)
              have ex60 : x60.toInt = v54_5.toInt / (2 : Int) := by rw [ex60]; exact wk_div (show 0 ≤ v54_5.toInt from r21) (show 0 < (2 : Int) by decide)
              refine lv_aload_n hx hb dX8_fewestQuestions_99 rfl (lv_at hl 2 rfl) ?_
              refine tk_geti hC hK hw hT hinX9 hkq1_ (by decide) rfl 1 (by decide) (List.mem_cons_of_mem _ uw_56_2) rfl rfl dX8_fewestQuestions_100 (fun x61 c62 rx61 tx61 => ?_)
              refine lv_icmp_ne (tgt := 112) hx hb dX8_fewestQuestions_103 (by decide) (fun c63 => ?_) (fun c63 => ?_)
              · have c63 : ¬ x60.toInt = x61.toInt := wk_eqF c63
                refine lv_aload_n hx hb dX8_fewestQuestions_112 rfl (lv_at hl 1 rfl) ?_
                refine lv_aload_n hx hb dX8_fewestQuestions_113 rfl (lv_at hl 2 rfl) ?_
                refine lv_iload hx hb dX8_fewestQuestions_114 (lv_at hl 5 rfl) ?_
                refine lv_iload hx hb dX8_fewestQuestions_116 (lv_at hl 6 rfl) ?_
                refine lv_iload hx hb dX8_fewestQuestions_118 (lv_at hl 0 rfl) ?_
                refine tk_Vv hC hK hw hT hA hE hSR kC_at151 (by decide) rfl (k_X8_spread_1 l adK adV dC dI cy ad B (by omega) (by omega) qr s1   q1_ hkq1_ v45_4 (show 0 ≤ v45_4.toInt from r19) (show v45_4.toInt ≤ 120 from t20) v54_5 (show 0 ≤ v54_5.toInt from r21) (show v54_5.toInt ≤ 19 by omega) x57 (show 0 ≤ x57.toInt from rx57) (show x57.toInt ≤ 999999 by omega) w14 H.size hT ) (cwV 4 hC.2.2.2.2 uV_RX8_110 rfl rfl rfl (by decide +kernel) ⟨Nat.le_of_ble_eq_true rfl, Nat.le_of_ble_eq_true rfl⟩) rfl hl.1 rfl (Nat.le_of_ble_eq_true rfl) dX8_fewestQuestions_120 (fun w66 H locs hp65 hw => ?_)
                obtain ⟨hT, k67, hg68⟩ := hp65
                have hF := hF.tr k67 (by decide)
                have c69 := k67.gi kC_at151 (by decide) c25
                have c70 := k67.gi hkq1_ (by decide) c28
                have c71 := k67.gi kC_at39 (by decide) c51
                have c72 := k67.gi hkq1_ (by decide) c62
                clear hg68
                exact J123 v54_3 x57 x50 H locs ls w66 (show 0 ≤ a2.toInt from r23) (show a2.toInt ≤ 120 from t24) (show 0 ≤ v54_3.toInt from r17) (show v54_3.toInt ≤ 1000000 from t18) (show 0 ≤ v45_4.toInt from r19) (show v45_4.toInt ≤ 120 from t20) (show 0 ≤ v54_5.toInt from r21) (show v54_5.toInt ≤ 19 by omega) (show 0 ≤ x57.toInt from rx57) (show x57.toInt ≤ 1000000 from tx57) (show 0 ≤ a2.toInt from r23) (show a2.toInt ≤ 120 from t24) (show 1 ≤ x50.toInt by omega) (show x50.toInt ≤ 10 from tx50) (show 0 ≤ f45_q1__0.toInt from r26) (show f45_q1__0.toInt ≤ 9 from t27)  hw hT hF c69 c71 c70 (lv_sub hl [1, 2, 3, 4, 5, 6, 0] rfl)
              · have c63 : x60.toInt = x61.toInt := wk_eq.mp c63
                refine lv_iload hx hb dX8_fewestQuestions_106 (lv_at hl 0 rfl) ?_
                refine lv_istore_n (lv' := [(3, .int x57), (6, .int x57), (0, .ref (ad 151)), (1, .ref (ad q1_)), (2, .int a2), (4, .int v45_4), (5, .int v54_5)]) hx hb dX8_fewestQuestions_108 rfl hl (by decide) rfl (fun ls hl => ?_)
                refine lv_goto (tgt := 123) hx hb dX8_fewestQuestions_109 (by decide) ?_
                exact J123 x57 x57 x50 H locs ls w14 (show 0 ≤ a2.toInt from r23) (show a2.toInt ≤ 120 from t24) (show 0 ≤ x57.toInt from rx57) (show x57.toInt ≤ 1000000 from tx57) (show 0 ≤ v45_4.toInt from r19) (show v45_4.toInt ≤ 120 from t20) (show 0 ≤ v54_5.toInt from r21) (show v54_5.toInt ≤ 19 by omega) (show 0 ≤ x57.toInt from rx57) (show x57.toInt ≤ 1000000 from tx57) (show 0 ≤ a2.toInt from r23) (show a2.toInt ≤ 120 from t24) (show 1 ≤ x50.toInt by omega) (show x50.toInt ≤ 10 from tx50) (show 0 ≤ f45_q1__0.toInt from r26) (show f45_q1__0.toInt ≤ 9 from t27)  hw hT hF c25 c51 c28 (lv_sub hl [2, 3, 4, 0, 5, 6, 1] rfl)
            · have c59 : v54_3.toInt ≤ x57.toInt := wk_ltF c59
              refine lv_goto (tgt := 123) hx hb dX8_fewestQuestions_92 (by decide) ?_
              exact J123 v54_3 x57 x50 H locs ls w14 (show 0 ≤ a2.toInt from r23) (show a2.toInt ≤ 120 from t24) (show 0 ≤ v54_3.toInt from r17) (show v54_3.toInt ≤ 1000000 from t18) (show 0 ≤ v45_4.toInt from r19) (show v45_4.toInt ≤ 120 from t20) (show 0 ≤ v54_5.toInt from r21) (show v54_5.toInt ≤ 19 by omega) (show 0 ≤ x57.toInt from rx57) (show x57.toInt ≤ 1000000 from tx57) (show 0 ≤ a2.toInt from r23) (show a2.toInt ≤ 120 from t24) (show 1 ≤ x50.toInt by omega) (show x50.toInt ≤ 10 from tx50) (show 0 ≤ f45_q1__0.toInt from r26) (show f45_q1__0.toInt ≤ 9 from t27)  hw hT hF c25 c51 c28 (lv_sub hl [1, 2, 3, 4, 5, 6, 0] rfl)
      refine lv_iload hx hb dX8_fewestQuestions_45 (lv_at hl 4 rfl) ?_
      refine lv_iload_n hx hb dX8_fewestQuestions_47 rfl (lv_at hl 2 rfl) ?_
      refine lv_icmp_gt (tgt := 135) hx hb dX8_fewestQuestions_48 (by decide) (fun c73 => ?_) (fun c73 => ?_)
      · have c73 : a2.toInt < v45_4.toInt := wk_lt.mp c73
        refine lv_iload_n hx hb dX8_fewestQuestions_135 rfl (lv_at hl 3 rfl) ?_
        refine lv_ldc (v := 1000000) hx hb hC.2.2.2.1 (hC.2.2.2.2 _ (List.mem_cons_of_mem _ uw_55_23)) dX8_fewestQuestions_136 ?_
        refine lv_icmp_ne (tgt := 146) hx hb dX8_fewestQuestions_138 (by decide) (fun c74 => ?_) (fun c74 => ?_)
        · have c74 : ¬ v45_3.toInt = (1000000 : Int) := wk_eqF c74
          refine lv_iload_n hx hb dX8_fewestQuestions_146 rfl (lv_at hl 3 rfl) ?_
          exact tk_iret hC hr hlocks hK ⟨hT, hF, (Or.inr ⟨(show 0 ≤ v45_3.toInt from r4), (show v45_3.toInt ≤ 999999 by omega)⟩)⟩ hw dX8_fewestQuestions_147
        · have c74 : v45_3.toInt = (1000000 : Int) := wk_eq.mp c74
          refine lv_bipush (v := (-2)) hx hb dX8_fewestQuestions_141 (by decide) ?_
          refine lv_goto (tgt := 147) hx hb dX8_fewestQuestions_143 (by decide) ?_
          exact tk_iret hC hr hlocks hK ⟨hT, hF, (Or.inl rfl)⟩ hw dX8_fewestQuestions_147
      · have c73 : v45_4.toInt ≤ a2.toInt := wk_ltF c73
        refine lv_iconst (v := 0) hx hb dX8_fewestQuestions_51 (by decide) ?_
        refine lv_istore (lv' := [(5, .int 0), (0, .ref (ad 151)), (1, .ref (ad q1_)), (2, .int a2), (3, .int v45_3), (4, .int v45_4)]) hx hb dX8_fewestQuestions_52 hl (by decide) rfl (fun ls hl => ?_)
        exact L54 ((20 - (0 : Int)).toNat + 1) v45_3 0 H locs ls w1 (show 0 ≤ a2.toInt from r8) (show a2.toInt ≤ 120 from t9) (show 0 ≤ v45_3.toInt from r4) (show v45_3.toInt ≤ 1000000 from t5) (show 0 ≤ v45_4.toInt from r6) (show v45_4.toInt ≤ 120 by omega) (by decide) (by decide) (show 0 ≤ a2.toInt from r8) (show a2.toInt ≤ 120 from t9) (show 0 ≤ f45_q1__0.toInt from r11) (show f45_q1__0.toInt ≤ 9 from t12) (Nat.lt_succ_self _) hw hT hF c10 c13 (lv_sub hl [1, 2, 3, 4, 5, 0] rfl)
  refine lv_aload_n hx hb dX8_fewestQuestions_0 rfl (lv_at hl 0 rfl) ?_
  refine lv_iload_n hx hb dX8_fewestQuestions_1 rfl (lv_at hl 2 rfl) ?_
  refine tk_puti hC hK hw hT hinX8 tyX8_ok nmX8 kC_at151 (by decide) rfl rfl 6 (by decide) (List.mem_cons_of_mem _ uw_55_22) rfl rfl rfl rfl (show 0 ≤ a2.toInt from ra2) (show a2.toInt ≤ 120 from ta2) dX8_fewestQuestions_2 (fun H locs w75 hw hT k77 c76 => ?_)
  have hF := hF.put kC_at151 (k := 6) (by decide) k77
  refine lv_aload_n hx hb dX8_fewestQuestions_5 rfl (lv_at hl 0 rfl) ?_
  refine tk_getA hC hK hw hT hinX8 kC_at151 (by decide) rfl 5 (by decide) (List.mem_cons_of_mem _ uw_5_10) rfl rfl dX8_fewestQuestions_6 ?_
  refine lv_ldc (v := 1000000) hx hb hC.2.2.2.1 (hC.2.2.2.2 _ (List.mem_cons_of_mem _ uw_55_23)) dX8_fewestQuestions_9 ?_
  refine tk_Sv hC hK hw hT hA hE hSR (k_J7_fill_53178_1 l adK adV dC dI cy ad B (by omega) (by omega) qr s1    w75 H.size hT ) (va_cwS 2 hC.2.2.2.2 uS_RX8_87 rfl rfl rfl (by decide +kernel) ⟨Nat.le_of_ble_eq_true rfl, Nat.le_of_ble_eq_true rfl⟩) rfl hl.1 rfl (Nat.le_of_ble_eq_true rfl) dX8_fewestQuestions_11 (fun w80 H locs hp79 hw => ?_)
  obtain ⟨hT, k81, hg82⟩ := hp79
  have hF := hF.tr k81 (by decide)
  have c83 := k81.gi kC_at151 (by decide) c76
  clear hg82
  refine lv_aload_n hx hb dX8_fewestQuestions_14 rfl (lv_at hl 0 rfl) ?_
  refine tk_getA hC hK hw hT hinX8 kC_at151 (by decide) rfl 5 (by decide) (List.mem_cons_of_mem _ uw_5_10) rfl rfl dX8_fewestQuestions_15 ?_
  refine lv_iconst (v := 2) hx hb dX8_fewestQuestions_18 (by decide) ?_
  refine lv_aload_n hx hb dX8_fewestQuestions_19 rfl (lv_at hl 1 rfl) ?_
  refine tk_geti hC hK hw hT hinX9 hkq1_ (by decide) rfl 0 (by decide) (List.mem_cons_of_mem _ uw_55_3) rfl rfl dX8_fewestQuestions_20 (fun x84 c85 rx84 tx84 => ?_)
  refine lv_imul hx hb dX8_fewestQuestions_23 ?_
  refine lv_topi (fun x86 ex86 => ?_)
  have ex86 : x86.toInt = (2 : Int) * x84.toInt := by rw [ex86]; exact wk_mul (show (-2147483648) ≤ (2 : Int) * x84.toInt by omega) (show (2 : Int) * x84.toInt ≤ 2147483647 by omega)
  refine lv_aload_n hx hb dX8_fewestQuestions_24 rfl (lv_at hl 1 rfl) ?_
  refine tk_Vi hC hK hw hT hA hE hSR hkq1_ (by decide) rfl (k_X9_askedToday_1 l adK adV dC dI cy ad B (by omega) (by omega) qr s1   q1_ hkq1_ w80 H.size hT ) (cwV 0 hC.2.2.2.2 uV_RX8_93 rfl rfl rfl (by decide +kernel) ⟨Nat.le_of_ble_eq_true rfl, Nat.le_of_ble_eq_true rfl⟩) rfl hl.1 rfl (Nat.le_of_ble_eq_true rfl) dX8_fewestQuestions_25 (fun r87 w89 H locs hp88 hw => ?_)
  obtain ⟨hT, k90, hg91⟩ := hp88
  have hF := hF.tr k90 (by decide)
  have c92 := k90.gi kC_at151 (by decide) c83
  have c93 := k90.gi hkq1_ (by decide) c85
  rcases hg91 with rfl | rfl
  · refine lv_if_eq (tgt := 35) hx hb dX8_fewestQuestions_28 (by decide) (fun _ => ?_) (fun c => absurd (by decide) c)
    refine lv_iconst (v := 0) hx hb dX8_fewestQuestions_35 (by decide) ?_
    refine lv_iadd hx hb dX8_fewestQuestions_36 ?_
    refine lv_topi (fun x94 ex94 => ?_)
    have ex94 : x94.toInt = x86.toInt + (0 : Int) := by rw [ex94]; exact wk_add (show (-2147483648) ≤ x86.toInt + (0 : Int) by omega) (show x86.toInt + (0 : Int) ≤ 2147483647 by omega)
    refine lv_iconst (v := 0) hx hb dX8_fewestQuestions_37 (by decide) ?_
    refine tk_iast hC hK hw hT kC_at154 (by decide) rfl rfl (show 0 ≤ x94.toInt by omega) (show x94.toInt < 2420 by omega) (by decide) (by decide) dX8_fewestQuestions_38 (fun H locs w95 hw hT k97 c96 => ?_)
    have hF := hF.put kC_at154 (inE_of (a := 0) (b := 2420) (by decide) (show 0 ≤ x94.toInt.toNat by omega) (show x94.toInt.toNat ≤ 2420 by omega)) k97
    have c98 := k97.gi (Or.inl (tk_ne kC_at151 kC_at154 (by decide))) c92
    have c99 := k97.gi (Or.inl (tk_ne hkq1_ kC_at154 (by decide))) c93
    refine lv_ldc (v := 1000000) hx hb hC.2.2.2.1 (hC.2.2.2.2 _ (List.mem_cons_of_mem _ uw_55_23)) dX8_fewestQuestions_39 ?_
    refine lv_istore_n (lv' := [(3, .int 1000000), (0, .ref (ad 151)), (1, .ref (ad q1_)), (2, .int a2)]) hx hb dX8_fewestQuestions_41 rfl hl (by decide) rfl (fun ls hl => ?_)
    refine lv_iconst (v := 0) hx hb dX8_fewestQuestions_42 (by decide) ?_
    refine lv_istore (lv' := [(4, .int 0), (3, .int 1000000), (0, .ref (ad 151)), (1, .ref (ad q1_)), (2, .int a2)]) hx hb dX8_fewestQuestions_43 hl (by decide) rfl (fun ls hl => ?_)
    exact L45 ((121 - (0 : Int)).toNat + 1) 1000000 0 x84 H locs ls w95 (show 0 ≤ a2.toInt from ra2) (show a2.toInt ≤ 120 from ta2) (by decide) (by decide) (by decide) (by decide) (show 0 ≤ a2.toInt from ra2) (show a2.toInt ≤ 120 from ta2) (show 0 ≤ x84.toInt by omega) (show x84.toInt ≤ 9 by omega) (Nat.lt_succ_self _) hw hT hF c98 c99 (lv_sub hl [2, 3, 4, 1, 0] rfl)
  · refine lv_if_eq (tgt := 35) hx hb dX8_fewestQuestions_28 (by decide) (fun c => absurd c (by decide)) (fun _ => ?_)
    refine lv_iconst (v := 1) hx hb dX8_fewestQuestions_31 (by decide) ?_
    refine lv_goto (tgt := 36) hx hb dX8_fewestQuestions_32 (by decide) ?_
    refine lv_iadd hx hb dX8_fewestQuestions_36 ?_
    refine lv_topi (fun x100 ex100 => ?_)
    have ex100 : x100.toInt = x86.toInt + (1 : Int) := by rw [ex100]; exact wk_add (show (-2147483648) ≤ x86.toInt + (1 : Int) by omega) (show x86.toInt + (1 : Int) ≤ 2147483647 by omega)
    refine lv_iconst (v := 0) hx hb dX8_fewestQuestions_37 (by decide) ?_
    refine tk_iast hC hK hw hT kC_at154 (by decide) rfl rfl (show 0 ≤ x100.toInt by omega) (show x100.toInt < 2420 by omega) (by decide) (by decide) dX8_fewestQuestions_38 (fun H locs w101 hw hT k103 c102 => ?_)
    have hF := hF.put kC_at154 (inE_of (a := 0) (b := 2420) (by decide) (show 0 ≤ x100.toInt.toNat by omega) (show x100.toInt.toNat ≤ 2420 by omega)) k103
    have c104 := k103.gi (Or.inl (tk_ne kC_at151 kC_at154 (by decide))) c92
    have c105 := k103.gi (Or.inl (tk_ne hkq1_ kC_at154 (by decide))) c93
    refine lv_ldc (v := 1000000) hx hb hC.2.2.2.1 (hC.2.2.2.2 _ (List.mem_cons_of_mem _ uw_55_23)) dX8_fewestQuestions_39 ?_
    refine lv_istore_n (lv' := [(3, .int 1000000), (0, .ref (ad 151)), (1, .ref (ad q1_)), (2, .int a2)]) hx hb dX8_fewestQuestions_41 rfl hl (by decide) rfl (fun ls hl => ?_)
    refine lv_iconst (v := 0) hx hb dX8_fewestQuestions_42 (by decide) ?_
    refine lv_istore (lv' := [(4, .int 0), (3, .int 1000000), (0, .ref (ad 151)), (1, .ref (ad q1_)), (2, .int a2)]) hx hb dX8_fewestQuestions_43 hl (by decide) rfl (fun ls hl => ?_)
    exact L45 ((121 - (0 : Int)).toNat + 1) 1000000 0 x84 H locs ls w101 (show 0 ≤ a2.toInt from ra2) (show a2.toInt ≤ 120 from ta2) (by decide) (by decide) (by decide) (by decide) (show 0 ≤ a2.toInt from ra2) (show a2.toInt ≤ 120 from ta2) (show 0 ≤ x84.toInt by omega) (show x84.toInt ≤ 9 by omega) (Nat.lt_succ_self _) hw hT hF c104 c105 (lv_sub hl [2, 3, 4, 1, 0] rfl)
abbrev P_X11_questions_1 (ad : Nat → Nat) (cy : Nat → ClassId) (B : Int) (qr : Nat) (s1 : Int) (a1 : Int32) (a2 : Int32) (w0 : va_W) : Int32 → va_W → Prop := fun r u => TW ksC ad cy B qr s1 u ∧ FE ksC [(8, 6, 6), (42, 0, 1100), (43, 0, 1100), (44, 0, 11), (47, 0, 2420)] w0 u ∧ ((r = (-2) ∧ 0 ≤ a1.toInt ∧ a1.toInt ≤ 3 ∧ 0 ≤ a2.toInt ∧ a2.toInt ≤ 120 ∧ (∃ y : Int32, gi u 38 9 = y ∧ 1 ≤ y.toInt ∧ y.toInt ≤ 4)) ∨ (0 ≤ r.toInt ∧ r.toInt ≤ 999999 ∧ 0 ≤ a1.toInt ∧ a1.toInt ≤ 3 ∧ 0 ≤ a2.toInt ∧ a2.toInt ≤ 120 ∧ (∃ y : Int32, gi u 38 9 = y ∧ 1 ≤ y.toInt ∧ y.toInt ≤ 4)) ∨ (r = (-1)))
set_option maxHeartbeats 4000000 in
set_option maxRecDepth 100000 in
theorem k_X11_questions_1 (l : Launch) (adK adV : Nat → Nat) (dC : Nat → ClassId) (dI : Nat → Nat → Nat) (cy : Nat → ClassId) (ad : Nat → Nat) (B : Int) (hB0 : 2147483648 ≤ B) (hB1 : B ≤ 1152921504606846976) (qr : Nat) (s1 : Int)  (a1 : Int32) (a2 : Int32) (w0 : va_W) (sz : Nat) (hT : TW ksC ad cy B qr s1 w0)  : Met l yX11_questions (wu yX11_questions cX11_questions 3 (some .int)) ({ frames := 6, cells := 0, slots := 0, locals := 130 }) (va_Pc [.ref (ad 0), .int a1, .int a2] (wpreS adK adV dC dI cy sz w0)) (va_Qi (P_X11_questions_1 ad cy B qr s1 a1 a2 w0) (fun u : va_W => wpost dC dI cy (va_A w0 sz) u) (va_A w0 sz)) 0 0 (va_A w0 sz) := by
  refine Met.ofW (cc := cX11_questions) (maxL := 3) (ret := (some .int)) (by decide) rfl ?_
  intro p e s m args below meth c s₁ Bk hml hv
  obtain ⟨rfl, ⟨hsz, hP, hK, hD0⟩, hE, hSR⟩ := hv
  have hx := Bk.exec
  have hb := Bk.bytes
  have hr := Bk.returns
  have hlocks := Bk.notSynchronized
  have hC : CallFix p m c cX11_questions 3 s _ (wu yX11_questions cX11_questions 3 (some .int)) RX11 := ⟨hx, hb, hml, findClass_of_methodNamed Bk.named, atoms_spec (ws := (wu yX11_questions cX11_questions 3 (some .int))) Bk.pre⟩
  subst hsz
  have hD := hD0.self (sz := s.heap.size)
  generalize hAe : va_A w0 s.heap.size = A at hD hE ⊢
  have hA : ∀ q : Nat, s.heap.size ≤ q → A q := fun q h => by rw [← hAe]; exact Or.inr h
  have hw : Wd dC dI A s.heap s.heap [] w0 := ⟨hP, hD, va_S.rf⟩
  have hF : FE ksC [(8, 6, 6), (42, 0, 1100), (43, 0, 1100), (44, 0, 11), (47, 0, 2420)] w0 w0 := FE.rf
  have hl := lv_entry ([.ref (ad 0), .int a1, .int a2]) (n := 3) (Nat.le_of_ble_eq_true rfl)
  rw [lg_entry_eq]
  generalize (lg_sl ([.ref (ad 0), .int a1, .int a2]) ++ List.replicate (3 - (lg_sl ([.ref (ad 0), .int a1, .int a2])).length) Slot.unset).toArray = ls at hl ⊢
  have hl : lv_has ls 3 [(0, .ref (ad 0)), (1, .int a1), (2, .int a2)] := hl
  generalize hloc : ([] : List Loc) = locs at hw ⊢
  have hinX11 : ∀ w ∈ u_ws RX11 TX11 13, w ∈ (wu yX11_questions cX11_questions 3 (some .int)) := fun _ h => List.mem_cons_of_mem _ (up_70 h)
  have hinX5 : ∀ w ∈ u_ws RX5 TX5 14, w ∈ (wu yX11_questions cX11_questions 3 (some .int)) := fun _ h => List.mem_cons_of_mem _ (up_76 h)
  have J18 : ∀ (H : Heap) (locs : List Loc) (ls : Array Slot) (w1 : va_W), Wd dC dI A s.heap H locs w1 → TW ksC ad cy B qr s1 w1 → FE ksC [(8, 6, 6), (42, 0, 1100), (43, 0, 1100), (44, 0, 11), (47, 0, 2420)] w0 w1 → lv_has ls 3 [(0, .ref (ad 0)), (1, .int a1), (2, .int a2)] → W p l e ({ frames := 6, cells := 0, slots := 0, locals := 130 }) s m (List.toArray [.ref (ad 0), .int a1, .int a2]) below meth c H locs 0 0 (MQ below (va_Qi (P_X11_questions_1 ad cy B qr s1 a1 a2 w0) (fun u : va_W => wpost dC dI cy A u) A) (List.toArray [.ref (ad 0), .int a1, .int a2]) s 0 0 A) (F0 m 18 ls []) := by
    intro H locs ls w1 hw hT hF hl
    refine lv_iconst (v := (-1)) hx hb dX11_questions_18 (by decide) ?_
    exact tk_iret hC hr hlocks hK ⟨hT, hF, (Or.inr (Or.inr rfl))⟩ hw dX11_questions_19
  refine lv_aload_n hx hb dX11_questions_0 rfl (lv_at hl 0 rfl) ?_
  refine lv_iload_n hx hb dX11_questions_1 rfl (lv_at hl 1 rfl) ?_
  refine tk_Vi hC hK hw hT hA hE hSR kC_at0 (by decide) rfl (k_X11_hasWalker_1 l adK adV dC dI cy ad B (by omega) (by omega) qr s1   a1 w0 s.heap.size hT ) (cwV 1 hC.2.2.2.2 uV_RX11_205 rfl rfl rfl (by decide +kernel) ⟨Nat.le_of_ble_eq_true rfl, Nat.le_of_ble_eq_true rfl⟩) rfl hl.1 rfl (Nat.le_of_ble_eq_true rfl) dX11_questions_2 (fun r2 w4 H locs hp3 hw => ?_)
  obtain ⟨hT, k5, hg10⟩ := hp3
  have hF := hF.tr k5 (by decide)
  rcases hg10 with rfl | ⟨rfl, g6, g7, ⟨x8, c9, rx8, tx8⟩⟩
  · refine lv_if_eq (tgt := 18) hx hb dX11_questions_5 (by decide) (fun _ => ?_) (fun c => absurd (by decide) c)
    exact J18  H locs ls w4   hw hT hF  (lv_sub hl [0, 1, 2] rfl)
  · refine lv_if_eq (tgt := 18) hx hb dX11_questions_5 (by decide) (fun c => absurd c (by decide)) (fun _ => ?_)
    refine lv_iload_n hx hb dX11_questions_8 rfl (lv_at hl 2 rfl) ?_
    refine lv_if_lt (tgt := 18) hx hb dX11_questions_9 (by decide) (fun c11 => ?_) (fun c11 => ?_)
    · have c11 : a2.toInt < (0 : Int) := wk_lt.mp c11
      exact J18  H locs ls w4   hw hT hF  (lv_sub hl [0, 1, 2] rfl)
    · have c11 : (0 : Int) ≤ a2.toInt := wk_ltF c11
      refine lv_iload_n hx hb dX11_questions_12 rfl (lv_at hl 2 rfl) ?_
      refine lv_bipush (v := 120) hx hb dX11_questions_13 (by decide) ?_
      refine lv_icmp_le (tgt := 20) hx hb dX11_questions_15 (by decide) (fun c12 => ?_) (fun c12 => ?_)
      · have c12 : a2.toInt ≤ (120 : Int) := wk_le.mp c12
        refine lv_aload_n hx hb dX11_questions_20 rfl (lv_at hl 0 rfl) ?_
        refine tk_getA hC hK hw hT hinX11 kC_at0 (by decide) rfl 7 (by decide) (List.mem_cons_of_mem _ uw_1_14) rfl rfl dX11_questions_21 ?_
        refine tk_Vv hC hK hw hT hA hE hSR kC_at145 (by decide) rfl (k_X0_refreshAll_1 l adK adV dC dI cy ad B (by omega) (by omega) qr s1    w4 H.size hT ) (cwV 0 hC.2.2.2.2 uV_RX11_212 rfl rfl rfl (by decide +kernel) ⟨Nat.le_of_ble_eq_true rfl, Nat.le_of_ble_eq_true rfl⟩) rfl hl.1 rfl (Nat.le_of_ble_eq_true rfl) dX11_questions_24 (fun w15 H locs hp14 hw => ?_)
        obtain ⟨hT, k16, hg17⟩ := hp14
        have hF := hF.tr k16 (by decide)
        have c18 := k16.gi kC_at38 (by decide) c9
        clear hg17
        refine lv_aload_n hx hb dX11_questions_27 rfl (lv_at hl 0 rfl) ?_
        refine tk_getA hC hK hw hT hinX11 kC_at0 (by decide) rfl 9 (by decide) (List.mem_cons_of_mem _ uw_1_22) rfl rfl dX11_questions_28 ?_
        refine lv_aload_n hx hb dX11_questions_31 rfl (lv_at hl 0 rfl) ?_
        refine tk_getA hC hK hw hT hinX11 kC_at0 (by decide) rfl 4 (by decide) (List.mem_cons_of_mem _ uw_1_7) rfl rfl dX11_questions_32 ?_
        refine tk_getO hC hK hw hT hinX5 kC_at38 (by decide) rfl 2 (by decide) (List.mem_cons_of_mem _ uw_39_0) rfl rfl dX11_questions_35 ?_
        refine lv_iload_n hx hb dX11_questions_38 rfl (lv_at hl 1 rfl) ?_
        refine tk_aald hC hK hw hT kC_at49 rfl (by decide) rfl (show 0 ≤ a1.toInt by omega) (show a1.toInt < 4 by omega) dX11_questions_39 (fun j19 hj19 gj19 => ?_)
        refine lv_iload_n hx hb dX11_questions_40 rfl (lv_at hl 2 rfl) ?_
        refine tk_Vi hC hK hw hT hA hE hSR kC_at151 (by decide) rfl (k_X8_fewestQuestions_1 l adK adV dC dI cy ad B (by omega) (by omega) qr s1   (el 33 49 j19) (kC_el33 kC_at49 hj19) a2 (show 0 ≤ a2.toInt from c11) (show a2.toInt ≤ 120 from c12) w15 H.size hT ) (cwV 2 hC.2.2.2.2 uV_RX11_239 rfl rfl rfl (by decide +kernel) ⟨Nat.le_of_ble_eq_true rfl, Nat.le_of_ble_eq_true rfl⟩) rfl hl.1 rfl (Nat.le_of_ble_eq_true rfl) dX11_questions_41 (fun r20 w22 H locs hp21 hw => ?_)
        obtain ⟨hT, k23, hg26⟩ := hp21
        have hF := hF.tr k23 (by decide)
        have c27 := k23.gi kC_at38 (by decide) c18
        rcases hg26 with rfl | ⟨g24, g25⟩
        · exact tk_iret hC hr hlocks hK ⟨hT, hF, (Or.inl ⟨rfl, (show 0 ≤ a1.toInt by omega), (show a1.toInt ≤ 3 by omega), (show 0 ≤ a2.toInt from c11), (show a2.toInt ≤ 120 from c12), ⟨x8, c27, (show 1 ≤ x8.toInt by omega), (show x8.toInt ≤ 4 by omega)⟩⟩)⟩ hw dX11_questions_44
        · exact tk_iret hC hr hlocks hK ⟨hT, hF, (Or.inr (Or.inl ⟨(show 0 ≤ r20.toInt by omega), (show r20.toInt ≤ 999999 by omega), (show 0 ≤ a1.toInt by omega), (show a1.toInt ≤ 3 by omega), (show 0 ≤ a2.toInt from c11), (show a2.toInt ≤ 120 from c12), ⟨x8, c27, (show 1 ≤ x8.toInt by omega), (show x8.toInt ≤ 4 by omega)⟩⟩))⟩ hw dX11_questions_44
      · have c12 : (120 : Int) < a2.toInt := wk_leF c12
        exact J18  H locs ls w4   hw hT hF  (lv_sub hl [0, 1, 2] rfl)
abbrev P_X10_takeDay_1 (ad : Nat → Nat) (cy : Nat → ClassId) (B : Int) (qr : Nat) (s1 : Int) (a1 : Int32) (w0 : va_W) : va_W → Prop := fun u => TW ksC ad cy B qr s1 u ∧ FE ksC [(10, 4, 4), (50, 0, 12)] w0 u ∧ ((True))
set_option maxHeartbeats 4000000 in
set_option maxRecDepth 100000 in
theorem k_X10_takeDay_1 (l : Launch) (adK adV : Nat → Nat) (dC : Nat → ClassId) (dI : Nat → Nat → Nat) (cy : Nat → ClassId) (ad : Nat → Nat) (B : Int) (hB0 : 2147483648 ≤ B) (hB1 : B ≤ 1152921504606846976) (qr : Nat) (s1 : Int)  (a1 : Int32) (ra1 : 0 ≤ a1.toInt) (ta1 : a1.toInt ≤ 6) (w0 : va_W) (sz : Nat) (hT : TW ksC ad cy B qr s1 w0)  : Met l yX10_takeDay (wu yX10_takeDay cX10_takeDay 3 none) ({ frames := 2, cells := 0, slots := 0, locals := 34 }) (va_Pc [.ref (ad 158), .int a1] (wpreS adK adV dC dI cy sz w0)) (va_Qv (P_X10_takeDay_1 ad cy B qr s1 a1 w0) (fun u : va_W => wpost dC dI cy (va_A w0 sz) u) (va_A w0 sz)) 0 0 (va_A w0 sz) := by
  refine Met.ofW (cc := cX10_takeDay) (maxL := 3) (ret := none) (by decide) rfl ?_
  intro p e s m args below meth c s₁ Bk hml hv
  obtain ⟨rfl, ⟨hsz, hP, hK, hD0⟩, hE, hSR⟩ := hv
  have hx := Bk.exec
  have hb := Bk.bytes
  have hr := Bk.returns
  have hlocks := Bk.notSynchronized
  have hC : CallFix p m c cX10_takeDay 3 s _ (wu yX10_takeDay cX10_takeDay 3 none) RX10 := ⟨hx, hb, hml, findClass_of_methodNamed Bk.named, atoms_spec (ws := (wu yX10_takeDay cX10_takeDay 3 none)) Bk.pre⟩
  subst hsz
  have hD := hD0.self (sz := s.heap.size)
  generalize hAe : va_A w0 s.heap.size = A at hD hE ⊢
  have hA : ∀ q : Nat, s.heap.size ≤ q → A q := fun q h => by rw [← hAe]; exact Or.inr h
  have hw : Wd dC dI A s.heap s.heap [] w0 := ⟨hP, hD, va_S.rf⟩
  have hF : FE ksC [(10, 4, 4), (50, 0, 12)] w0 w0 := FE.rf
  have hl := lv_entry ([.ref (ad 158), .int a1]) (n := 3) (Nat.le_of_ble_eq_true rfl)
  rw [lg_entry_eq]
  generalize (lg_sl ([.ref (ad 158), .int a1]) ++ List.replicate (3 - (lg_sl ([.ref (ad 158), .int a1])).length) Slot.unset).toArray = ls at hl ⊢
  have hl : lv_has ls 3 [(0, .ref (ad 158)), (1, .int a1)] := hl
  generalize hloc : ([] : List Loc) = locs at hw ⊢
  have hinX10 : ∀ w ∈ u_ws RX10 TX10 5, w ∈ (wu yX10_takeDay cX10_takeDay 3 none) := fun _ h => List.mem_cons_of_mem _ (up_81 h)
  have hinX7 : ∀ w ∈ u_ws RX7 TX7 12, w ∈ (wu yX10_takeDay cX10_takeDay 3 none) := fun _ h => List.mem_cons_of_mem _ (up_73 h)
  have J65 : ∀ (v65_2 : Int32) (f65_158_4 : Int32) (f65_39_9 : Int32) (H : Heap) (locs : List Loc) (ls : Array Slot) (w1 : va_W), 0 ≤ a1.toInt → a1.toInt ≤ 6 → 0 ≤ v65_2.toInt → v65_2.toInt ≤ 12 → 0 ≤ f65_158_4.toInt → f65_158_4.toInt ≤ 12 → 0 ≤ f65_39_9.toInt → f65_39_9.toInt ≤ 12 → Wd dC dI A s.heap H locs w1 → TW ksC ad cy B qr s1 w1 → FE ksC [(10, 4, 4), (50, 0, 12)] w0 w1 → gi w1 158 4 = f65_158_4 → gi w1 39 9 = f65_39_9 → lv_has ls 3 [(0, .ref (ad 158)), (1, .int a1), (2, .int v65_2)] → W p l e ({ frames := 2, cells := 0, slots := 0, locals := 34 }) s m (List.toArray [.ref (ad 158), .int a1]) below meth c H locs 0 0 (MQ below (va_Qv (P_X10_takeDay_1 ad cy B qr s1 a1 w0) (fun u : va_W => wpost dC dI cy A u) A) (List.toArray [.ref (ad 158), .int a1]) s 0 0 A) (F0 m 65 ls []) := by
    intro v65_2 f65_158_4 f65_39_9 H locs ls w1 r2 t3 r4 t5 r6 t7 r9 t10 hw hT hF c8 c11 hl
    exact tk_vret hC hr hlocks hK ⟨hT, hF, trivial⟩ hw dX10_takeDay_65
  have L7 : ∀ (n7 : Nat) (v7_2 : Int32) (f7_158_4 : Int32) (H : Heap) (locs : List Loc) (ls : Array Slot) (w12 : va_W), 0 ≤ a1.toInt → a1.toInt ≤ 6 → 0 ≤ v7_2.toInt → v7_2.toInt ≤ 12 → 0 ≤ f7_158_4.toInt → f7_158_4.toInt ≤ 12 → (12 - v7_2.toInt).toNat < n7 → Wd dC dI A s.heap H locs w12 → TW ksC ad cy B qr s1 w12 → FE ksC [(10, 4, 4), (50, 0, 12)] w0 w12 → gi w12 158 4 = f7_158_4 → lv_has ls 3 [(0, .ref (ad 158)), (1, .int a1), (2, .int v7_2)] → W p l e ({ frames := 2, cells := 0, slots := 0, locals := 34 }) s m (List.toArray [.ref (ad 158), .int a1]) below meth c H locs 0 0 (MQ below (va_Qv (P_X10_takeDay_1 ad cy B qr s1 a1 w0) (fun u : va_W => wpost dC dI cy A u) A) (List.toArray [.ref (ad 158), .int a1]) s 0 0 A) (F0 m 7 ls []) := by
    intro n7
    induction n7 with
    | zero => intro v7_2 f7_158_4 H locs ls w12 r13 t14 r15 t16 r17 t18 hm7 hw hT hF c19 hl; omega
    | succ n7 ih7 =>
      intro v7_2 f7_158_4 H locs ls w12 r13 t14 r15 t16 r17 t18 hm7 hw hT hF c19 hl
      have J59 : ∀ (f59_158_4 : Int32) (f59_39_9 : Int32) (H : Heap) (locs : List Loc) (ls : Array Slot) (w20 : va_W), 0 ≤ a1.toInt → a1.toInt ≤ 6 → 0 ≤ v7_2.toInt → v7_2.toInt ≤ 11 → 0 ≤ f59_158_4.toInt → f59_158_4.toInt ≤ 12 → 1 ≤ f59_39_9.toInt → f59_39_9.toInt ≤ 12 → Wd dC dI A s.heap H locs w20 → TW ksC ad cy B qr s1 w20 → FE ksC [(10, 4, 4), (50, 0, 12)] w0 w20 → gi w20 158 4 = f59_158_4 → gi w20 39 9 = f59_39_9 → lv_has ls 3 [(0, .ref (ad 158)), (1, .int a1), (2, .int v7_2)] → W p l e ({ frames := 2, cells := 0, slots := 0, locals := 34 }) s m (List.toArray [.ref (ad 158), .int a1]) below meth c H locs 0 0 (MQ below (va_Qv (P_X10_takeDay_1 ad cy B qr s1 a1 w0) (fun u : va_W => wpost dC dI cy A u) A) (List.toArray [.ref (ad 158), .int a1]) s 0 0 A) (F0 m 59 ls []) := by
        intro f59_158_4 f59_39_9 H locs ls w20 r21 t22 r23 t24 r25 t26 r28 t29 hw hT hF c27 c30 hl
        obtain ⟨x31, ex31⟩ : ∃ y : Int32, y = v7_2 + Int32.ofInt 1 := ⟨_, rfl⟩
        refine lv_iinc (v := x31) (lv' := [(2, .int x31), (0, .ref (ad 158)), (1, .int a1)]) hx hb dX10_takeDay_59 hl (k := 2) rfl ex31.symm (by decide) rfl (fun ls hl => ?_)
        have ex31 : x31.toInt = v7_2.toInt + 1 := by rw [ex31]; exact wk_add (y := 1) (show -2147483648 ≤ v7_2.toInt + 1 by omega) (show v7_2.toInt + 1 ≤ 2147483647 by omega)
        refine lv_goto (tgt := 7) hx hb dX10_takeDay_62 (by decide) ?_
        exact ih7 x31 f59_158_4 H locs ls w20 (show 0 ≤ a1.toInt from r21) (show a1.toInt ≤ 6 from t22) (show 0 ≤ x31.toInt by omega) (show x31.toInt ≤ 12 by omega) (show 0 ≤ f59_158_4.toInt from r25) (show f59_158_4.toInt ≤ 12 from t26) (show (12 - x31.toInt).toNat < n7 by omega) hw hT hF c27 (lv_sub hl [1, 2, 0] rfl)
      refine lv_iload_n hx hb dX10_takeDay_7 rfl (lv_at hl 2 rfl) ?_
      refine lv_aload_n hx hb dX10_takeDay_8 rfl (lv_at hl 0 rfl) ?_
      refine tk_getA hC hK hw hT hinX10 kC_at158 (by decide) rfl 1 (by decide) (List.mem_cons_of_mem _ uw_6_8) rfl rfl dX10_takeDay_9 ?_
      refine tk_geti hC hK hw hT hinX7 kC_at39 (by decide) rfl 9 (by decide) (List.mem_cons_of_mem _ uw_60_0) rfl rfl dX10_takeDay_12 (fun x32 c33 rx32 tx32 => ?_)
      refine lv_icmp_ge (tgt := 65) hx hb dX10_takeDay_15 (by decide) (fun c34 => ?_) (fun c34 => ?_)
      · have c34 : x32.toInt ≤ v7_2.toInt := wk_le.mp c34
        exact J65 v7_2 f7_158_4 x32 H locs ls w12 (show 0 ≤ a1.toInt from r13) (show a1.toInt ≤ 6 from t14) (show 0 ≤ v7_2.toInt from r15) (show v7_2.toInt ≤ 12 from t16) (show 0 ≤ f7_158_4.toInt from r17) (show f7_158_4.toInt ≤ 12 from t18) (show 0 ≤ x32.toInt from rx32) (show x32.toInt ≤ 12 from tx32)  hw hT hF c19 c33 (lv_sub hl [0, 1, 2] rfl)
      · have c34 : v7_2.toInt < x32.toInt := wk_leF c34
        refine lv_aload_n hx hb dX10_takeDay_18 rfl (lv_at hl 0 rfl) ?_
        refine tk_geti hC hK hw hT hinX10 kC_at158 (by decide) rfl 4 (by decide) (List.mem_cons_of_mem _ uw_59_23) rfl rfl dX10_takeDay_19 (fun x35 c36 rx35 tx35 => ?_)
        refine wk_top f7_158_4 (c36.symm.trans c19) ?_
        refine lv_bipush (v := 12) hx hb dX10_takeDay_22 (by decide) ?_
        refine lv_icmp_ge (tgt := 65) hx hb dX10_takeDay_24 (by decide) (fun c37 => ?_) (fun c37 => ?_)
        · have c37 : (12 : Int) ≤ f7_158_4.toInt := wk_le.mp c37
          exact J65 v7_2 f7_158_4 x32 H locs ls w12 (show 0 ≤ a1.toInt from r13) (show a1.toInt ≤ 6 from t14) (show 0 ≤ v7_2.toInt from r15) (show v7_2.toInt ≤ 12 from t16) (show 0 ≤ f7_158_4.toInt from r17) (show f7_158_4.toInt ≤ 12 from t18) (show 0 ≤ x32.toInt from rx32) (show x32.toInt ≤ 12 from tx32)  hw hT hF c19 c33 (lv_sub hl [0, 1, 2] rfl)
        · have c37 : f7_158_4.toInt < (12 : Int) := wk_leF c37
          refine lv_aload_n hx hb dX10_takeDay_27 rfl (lv_at hl 0 rfl) ?_
          refine tk_getA hC hK hw hT hinX10 kC_at158 (by decide) rfl 1 (by decide) (List.mem_cons_of_mem _ uw_6_8) rfl rfl dX10_takeDay_28 ?_
          refine lv_iload_n hx hb dX10_takeDay_31 rfl (lv_at hl 2 rfl) ?_
          refine lv_iload_n hx hb dX10_takeDay_32 rfl (lv_at hl 1 rfl) ?_
          refine tk_Vi hC hK hw hT hA hE hSR kC_at39 (by decide) rfl (k_X7_signOn_1 l adK adV dC dI cy ad B (by omega) (by omega) qr s1   v7_2 (show 0 ≤ v7_2.toInt from r15) (show v7_2.toInt ≤ 11 by omega) a1 (show 0 ≤ a1.toInt from r13) (show a1.toInt ≤ 6 from t14) w12 H.size hT ) (cwV 2 hC.2.2.2.2 uV_RX10_38 rfl rfl rfl (by decide +kernel) ⟨Nat.le_of_ble_eq_true rfl, Nat.le_of_ble_eq_true rfl⟩) rfl hl.1 rfl (Nat.le_of_ble_eq_true rfl) dX10_takeDay_33 (fun r38 w40 H locs hp39 hw => ?_)
          obtain ⟨hT, k41, hg44⟩ := hp39
          have hF := hF.tr k41 (by decide)
          have c45 := k41.gi kC_at158 (by decide) c19
          have c46 := k41.gi kC_at39 (by decide) c33
          obtain ⟨g42, g43⟩ := hg44
          refine lv_if_eq (tgt := 59) hx hb dX10_takeDay_36 (by decide) (fun c47 => ?_) (fun c47 => ?_)
          · have c47 : r38.toInt = (0 : Int) := wk_eq.mp c47
            exact J59 f7_158_4 x32 H locs ls w40 (show 0 ≤ a1.toInt from r13) (show a1.toInt ≤ 6 from t14) (show 0 ≤ v7_2.toInt from r15) (show v7_2.toInt ≤ 11 by omega) (show 0 ≤ f7_158_4.toInt from r17) (show f7_158_4.toInt ≤ 12 from t18) (show 1 ≤ x32.toInt by omega) (show x32.toInt ≤ 12 from tx32)  hw hT hF c45 c46 (lv_sub hl [0, 1, 2] rfl)
          · have c47 : ¬ r38.toInt = (0 : Int) := wk_eqF c47
            refine lv_aload_n hx hb dX10_takeDay_39 rfl (lv_at hl 0 rfl) ?_
            refine tk_getA hC hK hw hT hinX10 kC_at158 (by decide) rfl 2 (by decide) (List.mem_cons_of_mem _ uw_6_4) rfl rfl dX10_takeDay_40 ?_
            refine lv_aload_n hx hb dX10_takeDay_43 rfl (lv_at hl 0 rfl) ?_
            refine tk_geti hC hK hw hT hinX10 kC_at158 (by decide) rfl 4 (by decide) (List.mem_cons_of_mem _ uw_59_23) rfl rfl dX10_takeDay_44 (fun x48 c49 rx48 tx48 => ?_)
            refine wk_top f7_158_4 (c49.symm.trans c45) ?_
            refine lv_iload_n hx hb dX10_takeDay_47 rfl (lv_at hl 2 rfl) ?_
            refine tk_iast hC hK hw hT kC_at159 (by decide) rfl rfl (show 0 ≤ f7_158_4.toInt from r17) (show f7_158_4.toInt < 12 from c37) (show 0 ≤ v7_2.toInt from r15) (show v7_2.toInt ≤ 11 by omega) dX10_takeDay_48 (fun H locs w50 hw hT k52 c51 => ?_)
            have hF := hF.put kC_at159 (inE_of (a := 0) (b := 12) (by decide) (show 0 ≤ f7_158_4.toInt.toNat by omega) (show f7_158_4.toInt.toNat ≤ 12 by omega)) k52
            have c53 := k52.gi (Or.inl (tk_ne kC_at158 kC_at159 (by decide))) c45
            have c54 := k52.gi (Or.inl (tk_ne kC_at39 kC_at159 (by decide))) c46
            refine lv_aload_n hx hb dX10_takeDay_49 rfl (lv_at hl 0 rfl) ?_
            refine lv_dup hx hb dX10_takeDay_50 rfl ?_
            refine tk_geti hC hK hw hT hinX10 kC_at158 (by decide) rfl 4 (by decide) (List.mem_cons_of_mem _ uw_59_23) rfl rfl dX10_takeDay_51 (fun x55 c56 rx55 tx55 => ?_)
            refine wk_top f7_158_4 (c56.symm.trans c53) ?_
            refine lv_iconst (v := 1) hx hb dX10_takeDay_54 (by decide) ?_
            refine lv_iadd hx hb dX10_takeDay_55 ?_
            refine lv_topi (fun x57 ex57 => ?_)
            have ex57 : x57.toInt = f7_158_4.toInt + (1 : Int) := by rw [ex57]; exact wk_add (show (-2147483648) ≤ f7_158_4.toInt + (1 : Int) by omega) (show f7_158_4.toInt + (1 : Int) ≤ 2147483647 by omega)
            refine tk_puti hC hK hw hT hinX10 tyX10_ok nmX10 kC_at158 (by decide) rfl rfl 4 (by decide) (List.mem_cons_of_mem _ uw_59_23) rfl rfl rfl rfl (show 0 ≤ x57.toInt by omega) (show x57.toInt ≤ 12 by omega) dX10_takeDay_56 (fun H locs w58 hw hT k60 c59 => ?_)
            have hF := hF.put kC_at158 (k := 4) (by decide) k60
            have c61 := k60.gi (Or.inr (by decide)) c54
            exact J59 x57 x32 H locs ls w58 (show 0 ≤ a1.toInt from r13) (show a1.toInt ≤ 6 from t14) (show 0 ≤ v7_2.toInt from r15) (show v7_2.toInt ≤ 11 by omega) (show 0 ≤ x57.toInt by omega) (show x57.toInt ≤ 12 by omega) (show 1 ≤ x32.toInt by omega) (show x32.toInt ≤ 12 from tx32)  hw hT hF c59 c61 (lv_sub hl [0, 1, 2] rfl)
  refine lv_aload_n hx hb dX10_takeDay_0 rfl (lv_at hl 0 rfl) ?_
  refine lv_iconst (v := 0) hx hb dX10_takeDay_1 (by decide) ?_
  refine tk_puti hC hK hw hT hinX10 tyX10_ok nmX10 kC_at158 (by decide) rfl rfl 4 (by decide) (List.mem_cons_of_mem _ uw_59_23) rfl rfl rfl rfl (by decide) (by decide) dX10_takeDay_2 (fun H locs w62 hw hT k64 c63 => ?_)
  have hF := hF.put kC_at158 (k := 4) (by decide) k64
  refine lv_iconst (v := 0) hx hb dX10_takeDay_5 (by decide) ?_
  refine lv_istore_n (lv' := [(2, .int 0), (0, .ref (ad 158)), (1, .int a1)]) hx hb dX10_takeDay_6 rfl hl (by decide) rfl (fun ls hl => ?_)
  exact L7 ((12 - (0 : Int)).toNat + 1) 0 0 H locs ls w62 (show 0 ≤ a1.toInt from ra1) (show a1.toInt ≤ 6 from ta1) (by decide) (by decide) (by decide) (by decide) (Nat.lt_succ_self _) hw hT hF c63 (lv_sub hl [1, 2, 0] rfl)
abbrev P_X10_crossing_1 (ad : Nat → Nat) (cy : Nat → ClassId) (B : Int) (qr : Nat) (s1 : Int) (a1 : Int32) (a2 : Int32) (w0 : va_W) : Int32 → va_W → Prop := fun r u => TW ksC ad cy B qr s1 u ∧ FE ksC ([] : List (Nat × Nat × Nat)) w0 u ∧ (((-1) ≤ r.toInt ∧ r.toInt ≤ 1))
set_option maxHeartbeats 4000000 in
set_option maxRecDepth 100000 in
theorem k_X10_crossing_1 (l : Launch) (adK adV : Nat → Nat) (dC : Nat → ClassId) (dI : Nat → Nat → Nat) (cy : Nat → ClassId) (ad : Nat → Nat) (B : Int) (hB0 : 2147483648 ≤ B) (hB1 : B ≤ 1152921504606846976) (qr : Nat) (s1 : Int)  (a1 : Int32) (ra1 : 0 ≤ a1.toInt) (ta1 : a1.toInt ≤ 5) (a2 : Int32) (ra2 : 1 ≤ a2.toInt) (ta2 : a2.toInt ≤ 1023) (w0 : va_W) (sz : Nat) (hT : TW ksC ad cy B qr s1 w0)  : Met l yX10_crossing (wu yX10_crossing cX10_crossing 3 (some .int)) ({ frames := 1, cells := 0, slots := 0, locals := 12 }) (va_Pc [.ref (ad 158), .int a1, .int a2] (wpreS adK adV dC dI cy sz w0)) (va_Qi (P_X10_crossing_1 ad cy B qr s1 a1 a2 w0) (fun u : va_W => wpost dC dI cy (va_A w0 sz) u) (va_A w0 sz)) 0 0 (va_A w0 sz) := by
  refine Met.ofW (cc := cX10_crossing) (maxL := 3) (ret := (some .int)) (by decide) rfl ?_
  intro p e s m args below meth c s₁ Bk hml hv
  obtain ⟨rfl, ⟨hsz, hP, hK, hD0⟩, hE, hSR⟩ := hv
  have hx := Bk.exec
  have hb := Bk.bytes
  have hr := Bk.returns
  have hlocks := Bk.notSynchronized
  have hC : CallFix p m c cX10_crossing 3 s _ (wu yX10_crossing cX10_crossing 3 (some .int)) RX10 := ⟨hx, hb, hml, findClass_of_methodNamed Bk.named, atoms_spec (ws := (wu yX10_crossing cX10_crossing 3 (some .int))) Bk.pre⟩
  subst hsz
  have hD := hD0.self (sz := s.heap.size)
  generalize hAe : va_A w0 s.heap.size = A at hD hE ⊢
  have hA : ∀ q : Nat, s.heap.size ≤ q → A q := fun q h => by rw [← hAe]; exact Or.inr h
  have hw : Wd dC dI A s.heap s.heap [] w0 := ⟨hP, hD, va_S.rf⟩
  have hF : FE ksC ([] : List (Nat × Nat × Nat)) w0 w0 := FE.rf
  have hl := lv_entry ([.ref (ad 158), .int a1, .int a2]) (n := 3) (Nat.le_of_ble_eq_true rfl)
  rw [lg_entry_eq]
  generalize (lg_sl ([.ref (ad 158), .int a1, .int a2]) ++ List.replicate (3 - (lg_sl ([.ref (ad 158), .int a1, .int a2])).length) Slot.unset).toArray = ls at hl ⊢
  have hl : lv_has ls 3 [(0, .ref (ad 158)), (1, .int a1), (2, .int a2)] := hl
  generalize hloc : ([] : List Loc) = locs at hw ⊢
  have hinX10 : ∀ w ∈ u_ws RX10 TX10 5, w ∈ (wu yX10_crossing cX10_crossing 3 (some .int)) := fun _ h => List.mem_cons_of_mem _ (up_81 h)
  have hinX5 : ∀ w ∈ u_ws RX5 TX5 14, w ∈ (wu yX10_crossing cX10_crossing 3 (some .int)) := fun _ h => List.mem_cons_of_mem _ (up_76 h)
  refine lv_iload_n hx hb dX10_crossing_0 rfl (lv_at hl 2 rfl) ?_
  refine lv_aload_n hx hb dX10_crossing_1 rfl (lv_at hl 0 rfl) ?_
  refine tk_getA hC hK hw hT hinX10 kC_at158 (by decide) rfl 0 (by decide) (List.mem_cons_of_mem _ uw_6_6) rfl rfl dX10_crossing_2 ?_
  refine tk_getO hC hK hw hT hinX5 kC_at38 (by decide) rfl 3 (by decide) (List.mem_cons_of_mem _ uw_60_16) rfl rfl dX10_crossing_5 ?_
  refine lv_iload_n hx hb dX10_crossing_8 rfl (lv_at hl 1 rfl) ?_
  refine tk_iald hC hK hw hT kC_at50 rfl rfl (show 0 ≤ a1.toInt from ra1) (show a1.toInt < 6 from Int.lt_of_le_of_lt ta1 (by decide)) dX10_crossing_9 (fun x1 c2 rx1 tx1 => ?_)
  refine lv_ishr hx hb dX10_crossing_10 ?_
  refine lv_topi (fun x3 ex3 => ?_)
  have bx3 : 0 ≤ x3.toInt ∧ x3.toInt ≤ a2.toInt := by rw [ex3]; exact wk_shr (by omega)
  refine lv_iconst (v := 1) hx hb dX10_crossing_11 (by decide) ?_
  refine lv_iand hx hb dX10_crossing_12 ?_
  refine lv_topi (fun x4 ex4 => ?_)
  have bx4 : 0 ≤ x4.toInt ∧ x4.toInt ≤ (1 : Int) := by rw [ex4]; exact wk_and (by decide)
  refine lv_iload_n hx hb dX10_crossing_13 rfl (lv_at hl 2 rfl) ?_
  refine lv_aload_n hx hb dX10_crossing_14 rfl (lv_at hl 0 rfl) ?_
  refine tk_getA hC hK hw hT hinX10 kC_at158 (by decide) rfl 0 (by decide) (List.mem_cons_of_mem _ uw_6_6) rfl rfl dX10_crossing_15 ?_
  refine tk_getO hC hK hw hT hinX5 kC_at38 (by decide) rfl 4 (by decide) (List.mem_cons_of_mem _ uw_60_17) rfl rfl dX10_crossing_18 ?_
  refine lv_iload_n hx hb dX10_crossing_21 rfl (lv_at hl 1 rfl) ?_
  refine tk_iald hC hK hw hT kC_at51 rfl rfl (show 0 ≤ a1.toInt from ra1) (show a1.toInt < 6 from Int.lt_of_le_of_lt ta1 (by decide)) dX10_crossing_22 (fun x5 c6 rx5 tx5 => ?_)
  refine lv_ishr hx hb dX10_crossing_23 ?_
  refine lv_topi (fun x7 ex7 => ?_)
  have bx7 : 0 ≤ x7.toInt ∧ x7.toInt ≤ a2.toInt := by rw [ex7]; exact wk_shr (by omega)
  refine lv_iconst (v := 1) hx hb dX10_crossing_24 (by decide) ?_
  refine lv_iand hx hb dX10_crossing_25 ?_
  refine lv_topi (fun x8 ex8 => ?_)
  have bx8 : 0 ≤ x8.toInt ∧ x8.toInt ≤ (1 : Int) := by rw [ex8]; exact wk_and (by decide)
  refine lv_isub hx hb dX10_crossing_26 ?_
  refine lv_topi (fun x9 ex9 => ?_)
  have ex9 : x9.toInt = x4.toInt - x8.toInt := by rw [ex9]; exact wk_sub (show (-2147483648) ≤ x4.toInt - x8.toInt by omega) (show x4.toInt - x8.toInt ≤ 2147483647 by omega)
  exact tk_iret hC hr hlocks hK ⟨hT, hF, ⟨(show (-1) ≤ x9.toInt by omega), (show x9.toInt ≤ 1 by omega)⟩⟩ hw dX10_crossing_27
abbrev P_X10_crossing_2 (ad : Nat → Nat) (cy : Nat → ClassId) (B : Int) (qr : Nat) (s1 : Int) (a1 : Int32) (a2 : Int32) (w0 : va_W) : Int32 → va_W → Prop := fun r u => TW ksC ad cy B qr s1 u ∧ FE ksC ([] : List (Nat × Nat × Nat)) w0 u ∧ (((-1) ≤ r.toInt ∧ r.toInt ≤ 1))
set_option maxHeartbeats 4000000 in
set_option maxRecDepth 100000 in
theorem k_X10_crossing_2 (l : Launch) (adK adV : Nat → Nat) (dC : Nat → ClassId) (dI : Nat → Nat → Nat) (cy : Nat → ClassId) (ad : Nat → Nat) (B : Int) (hB0 : 2147483648 ≤ B) (hB1 : B ≤ 1152921504606846976) (qr : Nat) (s1 : Int)  (a1 : Int32) (ra1 : 1 ≤ a1.toInt) (ta1 : a1.toInt ≤ 5) (a2 : Int32) (ra2 : 1 ≤ a2.toInt) (ta2 : a2.toInt ≤ 1023) (w0 : va_W) (sz : Nat) (hT : TW ksC ad cy B qr s1 w0)  : Met l yX10_crossing (wu yX10_crossing cX10_crossing 3 (some .int)) ({ frames := 1, cells := 0, slots := 0, locals := 12 }) (va_Pc [.ref (ad 158), .int a1, .int a2] (wpreS adK adV dC dI cy sz w0)) (va_Qi (P_X10_crossing_2 ad cy B qr s1 a1 a2 w0) (fun u : va_W => wpost dC dI cy (va_A w0 sz) u) (va_A w0 sz)) 0 0 (va_A w0 sz) := by
  refine Met.ofW (cc := cX10_crossing) (maxL := 3) (ret := (some .int)) (by decide) rfl ?_
  intro p e s m args below meth c s₁ Bk hml hv
  obtain ⟨rfl, ⟨hsz, hP, hK, hD0⟩, hE, hSR⟩ := hv
  have hx := Bk.exec
  have hb := Bk.bytes
  have hr := Bk.returns
  have hlocks := Bk.notSynchronized
  have hC : CallFix p m c cX10_crossing 3 s _ (wu yX10_crossing cX10_crossing 3 (some .int)) RX10 := ⟨hx, hb, hml, findClass_of_methodNamed Bk.named, atoms_spec (ws := (wu yX10_crossing cX10_crossing 3 (some .int))) Bk.pre⟩
  subst hsz
  have hD := hD0.self (sz := s.heap.size)
  generalize hAe : va_A w0 s.heap.size = A at hD hE ⊢
  have hA : ∀ q : Nat, s.heap.size ≤ q → A q := fun q h => by rw [← hAe]; exact Or.inr h
  have hw : Wd dC dI A s.heap s.heap [] w0 := ⟨hP, hD, va_S.rf⟩
  have hF : FE ksC ([] : List (Nat × Nat × Nat)) w0 w0 := FE.rf
  have hl := lv_entry ([.ref (ad 158), .int a1, .int a2]) (n := 3) (Nat.le_of_ble_eq_true rfl)
  rw [lg_entry_eq]
  generalize (lg_sl ([.ref (ad 158), .int a1, .int a2]) ++ List.replicate (3 - (lg_sl ([.ref (ad 158), .int a1, .int a2])).length) Slot.unset).toArray = ls at hl ⊢
  have hl : lv_has ls 3 [(0, .ref (ad 158)), (1, .int a1), (2, .int a2)] := hl
  generalize hloc : ([] : List Loc) = locs at hw ⊢
  have hinX10 : ∀ w ∈ u_ws RX10 TX10 5, w ∈ (wu yX10_crossing cX10_crossing 3 (some .int)) := fun _ h => List.mem_cons_of_mem _ (up_81 h)
  have hinX5 : ∀ w ∈ u_ws RX5 TX5 14, w ∈ (wu yX10_crossing cX10_crossing 3 (some .int)) := fun _ h => List.mem_cons_of_mem _ (up_76 h)
  refine lv_iload_n hx hb dX10_crossing_0 rfl (lv_at hl 2 rfl) ?_
  refine lv_aload_n hx hb dX10_crossing_1 rfl (lv_at hl 0 rfl) ?_
  refine tk_getA hC hK hw hT hinX10 kC_at158 (by decide) rfl 0 (by decide) (List.mem_cons_of_mem _ uw_6_6) rfl rfl dX10_crossing_2 ?_
  refine tk_getO hC hK hw hT hinX5 kC_at38 (by decide) rfl 3 (by decide) (List.mem_cons_of_mem _ uw_60_16) rfl rfl dX10_crossing_5 ?_
  refine lv_iload_n hx hb dX10_crossing_8 rfl (lv_at hl 1 rfl) ?_
  refine tk_iald hC hK hw hT kC_at50 rfl rfl (show 0 ≤ a1.toInt from Int.le_trans (by decide) ra1) (show a1.toInt < 6 from Int.lt_of_le_of_lt ta1 (by decide)) dX10_crossing_9 (fun x1 c2 rx1 tx1 => ?_)
  refine lv_ishr hx hb dX10_crossing_10 ?_
  refine lv_topi (fun x3 ex3 => ?_)
  have bx3 : 0 ≤ x3.toInt ∧ x3.toInt ≤ a2.toInt := by rw [ex3]; exact wk_shr (by omega)
  refine lv_iconst (v := 1) hx hb dX10_crossing_11 (by decide) ?_
  refine lv_iand hx hb dX10_crossing_12 ?_
  refine lv_topi (fun x4 ex4 => ?_)
  have bx4 : 0 ≤ x4.toInt ∧ x4.toInt ≤ (1 : Int) := by rw [ex4]; exact wk_and (by decide)
  refine lv_iload_n hx hb dX10_crossing_13 rfl (lv_at hl 2 rfl) ?_
  refine lv_aload_n hx hb dX10_crossing_14 rfl (lv_at hl 0 rfl) ?_
  refine tk_getA hC hK hw hT hinX10 kC_at158 (by decide) rfl 0 (by decide) (List.mem_cons_of_mem _ uw_6_6) rfl rfl dX10_crossing_15 ?_
  refine tk_getO hC hK hw hT hinX5 kC_at38 (by decide) rfl 4 (by decide) (List.mem_cons_of_mem _ uw_60_17) rfl rfl dX10_crossing_18 ?_
  refine lv_iload_n hx hb dX10_crossing_21 rfl (lv_at hl 1 rfl) ?_
  refine tk_iald hC hK hw hT kC_at51 rfl rfl (show 0 ≤ a1.toInt from Int.le_trans (by decide) ra1) (show a1.toInt < 6 from Int.lt_of_le_of_lt ta1 (by decide)) dX10_crossing_22 (fun x5 c6 rx5 tx5 => ?_)
  refine lv_ishr hx hb dX10_crossing_23 ?_
  refine lv_topi (fun x7 ex7 => ?_)
  have bx7 : 0 ≤ x7.toInt ∧ x7.toInt ≤ a2.toInt := by rw [ex7]; exact wk_shr (by omega)
  refine lv_iconst (v := 1) hx hb dX10_crossing_24 (by decide) ?_
  refine lv_iand hx hb dX10_crossing_25 ?_
  refine lv_topi (fun x8 ex8 => ?_)
  have bx8 : 0 ≤ x8.toInt ∧ x8.toInt ≤ (1 : Int) := by rw [ex8]; exact wk_and (by decide)
  refine lv_isub hx hb dX10_crossing_26 ?_
  refine lv_topi (fun x9 ex9 => ?_)
  have ex9 : x9.toInt = x4.toInt - x8.toInt := by rw [ex9]; exact wk_sub (show (-2147483648) ≤ x4.toInt - x8.toInt by omega) (show x4.toInt - x8.toInt ≤ 2147483647 by omega)
  exact tk_iret hC hr hlocks hK ⟨hT, hF, ⟨(show (-1) ≤ x9.toInt by omega), (show x9.toInt ≤ 1 by omega)⟩⟩ hw dX10_crossing_27
abbrev P_X10_layRoads_1 (ad : Nat → Nat) (cy : Nat → ClassId) (B : Int) (qr : Nat) (s1 : Int) (a1 : Int32) (a2 : Int32) (a3 : Int32) (w0 : va_W) : va_W → Prop := fun u => TW ksC ad cy B qr s1 u ∧ FE ksC [(51, 0, 10)] w0 u ∧ ((True))
set_option maxHeartbeats 4000000 in
set_option maxRecDepth 100000 in
theorem k_X10_layRoads_1 (l : Launch) (adK adV : Nat → Nat) (dC : Nat → ClassId) (dI : Nat → Nat → Nat) (cy : Nat → ClassId) (ad : Nat → Nat) (B : Int) (hB0 : 2147483648 ≤ B) (hB1 : B ≤ 1152921504606846976) (qr : Nat) (s1 : Int)  (a1 : Int32) (ra1 : 0 ≤ a1.toInt) (ta1 : a1.toInt ≤ 12) (a2 : Int32) (ra2 : 0 ≤ a2.toInt) (ta2 : a2.toInt ≤ 8191) (a3 : Int32) (ra3 : (-1) ≤ a3.toInt) (ta3 : a3.toInt ≤ 11) (w0 : va_W) (sz : Nat) (hT : TW ksC ad cy B qr s1 w0)  : Met l yX10_layRoads (wu yX10_layRoads cX10_layRoads 8 none) ({ frames := 1, cells := 0, slots := 0, locals := 12 }) (va_Pc [.ref (ad 158), .int a1, .int a2, .int a3] (wpreS adK adV dC dI cy sz w0)) (va_Qv (P_X10_layRoads_1 ad cy B qr s1 a1 a2 a3 w0) (fun u : va_W => wpost dC dI cy (va_A w0 sz) u) (va_A w0 sz)) 0 0 (va_A w0 sz) := by
  refine Met.ofW (cc := cX10_layRoads) (maxL := 8) (ret := none) (by decide) rfl ?_
  intro p e s m args below meth c s₁ Bk hml hv
  obtain ⟨rfl, ⟨hsz, hP, hK, hD0⟩, hE, hSR⟩ := hv
  have hx := Bk.exec
  have hb := Bk.bytes
  have hr := Bk.returns
  have hlocks := Bk.notSynchronized
  have hC : CallFix p m c cX10_layRoads 8 s _ (wu yX10_layRoads cX10_layRoads 8 none) RX10 := ⟨hx, hb, hml, findClass_of_methodNamed Bk.named, atoms_spec (ws := (wu yX10_layRoads cX10_layRoads 8 none)) Bk.pre⟩
  subst hsz
  have hD := hD0.self (sz := s.heap.size)
  generalize hAe : va_A w0 s.heap.size = A at hD hE ⊢
  have hA : ∀ q : Nat, s.heap.size ≤ q → A q := fun q h => by rw [← hAe]; exact Or.inr h
  have hw : Wd dC dI A s.heap s.heap [] w0 := ⟨hP, hD, va_S.rf⟩
  have hF : FE ksC [(51, 0, 10)] w0 w0 := FE.rf
  have hl := lv_entry ([.ref (ad 158), .int a1, .int a2, .int a3]) (n := 8) (Nat.le_of_ble_eq_true rfl)
  rw [lg_entry_eq]
  generalize (lg_sl ([.ref (ad 158), .int a1, .int a2, .int a3]) ++ List.replicate (8 - (lg_sl ([.ref (ad 158), .int a1, .int a2, .int a3])).length) Slot.unset).toArray = ls at hl ⊢
  have hl : lv_has ls 8 [(0, .ref (ad 158)), (1, .int a1), (2, .int a2), (3, .int a3)] := hl
  generalize hloc : ([] : List Loc) = locs at hw ⊢
  have hinX10 : ∀ w ∈ u_ws RX10 TX10 5, w ∈ (wu yX10_layRoads cX10_layRoads 8 none) := fun _ h => List.mem_cons_of_mem _ (up_81 h)
  have hinX7 : ∀ w ∈ u_ws RX7 TX7 12, w ∈ (wu yX10_layRoads cX10_layRoads 8 none) := fun _ h => List.mem_cons_of_mem _ (up_73 h)
  have L27 : ∀ (n27 : Nat) (v27_4 : Int32) (H : Heap) (locs : List Loc) (ls : Array Slot) (w1 : va_W), 0 ≤ a1.toInt → a1.toInt ≤ 12 → 0 ≤ a2.toInt → a2.toInt ≤ 8191 → (-1) ≤ a3.toInt → a3.toInt ≤ 11 → 0 ≤ v27_4.toInt → v27_4.toInt ≤ 12 → (12 - v27_4.toInt).toNat < n27 → Wd dC dI A s.heap H locs w1 → TW ksC ad cy B qr s1 w1 → FE ksC [(51, 0, 10)] w0 w1 → lv_has ls 8 [(0, .ref (ad 158)), (1, .int a1), (2, .int a2), (3, .int a3), (4, .int v27_4)] → W p l e ({ frames := 1, cells := 0, slots := 0, locals := 12 }) s m (List.toArray [.ref (ad 158), .int a1, .int a2, .int a3]) below meth c H locs 0 0 (MQ below (va_Qv (P_X10_layRoads_1 ad cy B qr s1 a1 a2 a3 w0) (fun u : va_W => wpost dC dI cy A u) A) (List.toArray [.ref (ad 158), .int a1, .int a2, .int a3]) s 0 0 A) (F0 m 27 ls []) := by
    intro n27
    induction n27 with
    | zero => intro v27_4 H locs ls w1 r2 t3 r4 t5 r6 t7 r8 t9 hm27 hw hT hF hl; omega
    | succ n27 ih27 =>
      intro v27_4 H locs ls w1 r2 t3 r4 t5 r6 t7 r8 t9 hm27 hw hT hF hl
      have J144 : ∀ (f144_158_4 : Int32) (H : Heap) (locs : List Loc) (ls : Array Slot) (w10 : va_W), 0 ≤ a1.toInt → a1.toInt ≤ 12 → 0 ≤ a2.toInt → a2.toInt ≤ 8191 → (-1) ≤ a3.toInt → a3.toInt ≤ 11 → 0 ≤ v27_4.toInt → v27_4.toInt ≤ 11 → 1 ≤ f144_158_4.toInt → f144_158_4.toInt ≤ 12 → Wd dC dI A s.heap H locs w10 → TW ksC ad cy B qr s1 w10 → FE ksC [(51, 0, 10)] w0 w10 → gi w10 158 4 = f144_158_4 → lv_has ls 8 [(0, .ref (ad 158)), (1, .int a1), (2, .int a2), (3, .int a3), (4, .int v27_4)] → W p l e ({ frames := 1, cells := 0, slots := 0, locals := 12 }) s m (List.toArray [.ref (ad 158), .int a1, .int a2, .int a3]) below meth c H locs 0 0 (MQ below (va_Qv (P_X10_layRoads_1 ad cy B qr s1 a1 a2 a3 w0) (fun u : va_W => wpost dC dI cy A u) A) (List.toArray [.ref (ad 158), .int a1, .int a2, .int a3]) s 0 0 A) (F0 m 144 ls []) := by
        intro f144_158_4 H locs ls w10 r11 t12 r13 t14 r15 t16 r17 t18 r19 t20 hw hT hF c21 hl
        obtain ⟨x22, ex22⟩ : ∃ y : Int32, y = v27_4 + Int32.ofInt 1 := ⟨_, rfl⟩
        refine lv_iinc (v := x22) (lv' := [(4, .int x22), (0, .ref (ad 158)), (1, .int a1), (2, .int a2), (3, .int a3)]) hx hb dX10_layRoads_144 hl (k := 4) rfl ex22.symm (by decide) rfl (fun ls hl => ?_)
        have ex22 : x22.toInt = v27_4.toInt + 1 := by rw [ex22]; exact wk_add (y := 1) (show -2147483648 ≤ v27_4.toInt + 1 by omega) (show v27_4.toInt + 1 ≤ 2147483647 by omega)
        refine lv_goto (tgt := 27) hx hb dX10_layRoads_147 (by decide) ?_
        exact ih27 x22 H locs ls w10 (show 0 ≤ a1.toInt from r11) (show a1.toInt ≤ 12 from t12) (show 0 ≤ a2.toInt from r13) (show a2.toInt ≤ 8191 from t14) (show (-1) ≤ a3.toInt from r15) (show a3.toInt ≤ 11 from t16) (show 0 ≤ x22.toInt by omega) (show x22.toInt ≤ 12 by omega) (show (12 - x22.toInt).toNat < n27 by omega) hw hT hF  (lv_sub hl [1, 2, 3, 4, 0] rfl)
      have J130 : ∀ (v130_5 : Int32) (v130_6 : Int32) (v130_7 : Int32) (f130_158_4 : Int32) (H : Heap) (locs : List Loc) (ls : Array Slot) (w23 : va_W), 0 ≤ a1.toInt → a1.toInt ≤ 12 → 0 ≤ a2.toInt → a2.toInt ≤ 8191 → (-1) ≤ a3.toInt → a3.toInt ≤ 11 → 0 ≤ v27_4.toInt → v27_4.toInt ≤ 11 → 0 ≤ v130_5.toInt → v130_5.toInt ≤ 9 → 0 ≤ v130_6.toInt → v130_6.toInt ≤ 9 → 0 ≤ v130_7.toInt → v130_7.toInt ≤ 1 → 1 ≤ f130_158_4.toInt → f130_158_4.toInt ≤ 12 → Wd dC dI A s.heap H locs w23 → TW ksC ad cy B qr s1 w23 → FE ksC [(51, 0, 10)] w0 w23 → gi w23 158 4 = f130_158_4 → lv_has ls 8 [(0, .ref (ad 158)), (1, .int a1), (2, .int a2), (3, .int a3), (4, .int v27_4), (5, .int v130_5), (6, .int v130_6), (7, .int v130_7)] → W p l e ({ frames := 1, cells := 0, slots := 0, locals := 12 }) s m (List.toArray [.ref (ad 158), .int a1, .int a2, .int a3]) below meth c H locs 0 0 (MQ below (va_Qv (P_X10_layRoads_1 ad cy B qr s1 a1 a2 a3 w0) (fun u : va_W => wpost dC dI cy A u) A) (List.toArray [.ref (ad 158), .int a1, .int a2, .int a3]) s 0 0 A) (F0 m 130 ls []) := by
        intro v130_5 v130_6 v130_7 f130_158_4 H locs ls w23 r24 t25 r26 t27 r28 t29 r30 t31 r32 t33 r34 t35 r36 t37 r38 t39 hw hT hF c40 hl
        refine lv_aload_n hx hb dX10_layRoads_130 rfl (lv_at hl 0 rfl) ?_
        refine tk_getA hC hK hw hT hinX10 kC_at158 (by decide) rfl 3 (by decide) (List.mem_cons_of_mem _ uw_6_5) rfl rfl dX10_layRoads_131 ?_
        refine lv_iload hx hb dX10_layRoads_134 (lv_at hl 6 rfl) ?_
        refine lv_dup2_11 hx hb dX10_layRoads_136 rfl rfl ?_
        refine tk_iald hC hK hw hT kC_at160 rfl rfl (show 0 ≤ v130_6.toInt from r34) (show v130_6.toInt < 10 from Int.lt_of_le_of_lt t35 (by decide)) dX10_layRoads_137 (fun x41 c42 rx41 tx41 => ?_)
        refine lv_iconst (v := 1) hx hb dX10_layRoads_138 (by decide) ?_
        refine lv_iload hx hb dX10_layRoads_139 (lv_at hl 5 rfl) ?_
        refine lv_ishl hx hb dX10_layRoads_141 ?_
        refine lv_topi (fun x43 ex43 => ?_)
        have bx43 : 1 ≤ x43.toInt ∧ x43.toInt ≤ 512 := by rw [ex43]; exact wk_shl1 9 (by decide) (by omega) (by omega)
        refine lv_ior hx hb dX10_layRoads_142 ?_
        refine lv_topi (fun x44 ex44 => ?_)
        have bx44 : 0 ≤ x44.toInt ∧ x44.toInt < 1024 := by rw [ex44]; exact wk_or 10 (by decide) (by omega) (by omega) (by omega) (by omega)
        have mx44 : x41.toInt ≤ x44.toInt ∧ x43.toInt ≤ x44.toInt := by rw [ex44]; exact wk_orL 10 (by decide) (by omega) (by omega) (by omega) (by omega)
        refine tk_iast hC hK hw hT kC_at160 (by decide) rfl rfl (show 0 ≤ v130_6.toInt from r34) (show v130_6.toInt < 10 from Int.lt_of_le_of_lt t35 (by decide)) (show 0 ≤ x44.toInt by omega) (show x44.toInt ≤ 1023 by omega) dX10_layRoads_143 (fun H locs w45 hw hT k47 c46 => ?_)
        have hF := hF.put kC_at160 (inE_of (a := 0) (b := 10) (by decide) (show 0 ≤ v130_6.toInt.toNat by omega) (show v130_6.toInt.toNat ≤ 10 by omega)) k47
        have c48 := k47.gi (Or.inl (tk_ne kC_at158 kC_at160 (by decide))) c40
        exact J144 f130_158_4 H locs ls w45 (show 0 ≤ a1.toInt from r24) (show a1.toInt ≤ 12 from t25) (show 0 ≤ a2.toInt from r26) (show a2.toInt ≤ 8191 from t27) (show (-1) ≤ a3.toInt from r28) (show a3.toInt ≤ 11 from t29) (show 0 ≤ v27_4.toInt from r30) (show v27_4.toInt ≤ 11 from t31) (show 1 ≤ f130_158_4.toInt from r38) (show f130_158_4.toInt ≤ 12 from t39)  hw hT hF c48 (lv_sub hl [0, 1, 2, 3, 4] rfl)
      have J118 : ∀ (v118_5 : Int32) (v118_6 : Int32) (v118_7 : Int32) (f118_158_4 : Int32) (H : Heap) (locs : List Loc) (ls : Array Slot) (w49 : va_W), 0 ≤ a1.toInt → a1.toInt ≤ 12 → 0 ≤ a2.toInt → a2.toInt ≤ 8191 → (-1) ≤ a3.toInt → a3.toInt ≤ 11 → 0 ≤ v27_4.toInt → v27_4.toInt ≤ 11 → 0 ≤ v118_5.toInt → v118_5.toInt ≤ 9 → 0 ≤ v118_6.toInt → v118_6.toInt ≤ 9 → 0 ≤ v118_7.toInt → v118_7.toInt ≤ 1 → 1 ≤ f118_158_4.toInt → f118_158_4.toInt ≤ 12 → Wd dC dI A s.heap H locs w49 → TW ksC ad cy B qr s1 w49 → FE ksC [(51, 0, 10)] w0 w49 → gi w49 158 4 = f118_158_4 → lv_has ls 8 [(0, .ref (ad 158)), (1, .int a1), (2, .int a2), (3, .int a3), (4, .int v27_4), (5, .int v118_5), (6, .int v118_6), (7, .int v118_7)] → W p l e ({ frames := 1, cells := 0, slots := 0, locals := 12 }) s m (List.toArray [.ref (ad 158), .int a1, .int a2, .int a3]) below meth c H locs 0 0 (MQ below (va_Qv (P_X10_layRoads_1 ad cy B qr s1 a1 a2 a3 w0) (fun u : va_W => wpost dC dI cy A u) A) (List.toArray [.ref (ad 158), .int a1, .int a2, .int a3]) s 0 0 A) (F0 m 118 ls []) := by
        intro v118_5 v118_6 v118_7 f118_158_4 H locs ls w49 r50 t51 r52 t53 r54 t55 r56 t57 r58 t59 r60 t61 r62 t63 r64 t65 hw hT hF c66 hl
        refine lv_iload hx hb dX10_layRoads_118 (lv_at hl 4 rfl) ?_
        refine lv_iload_n hx hb dX10_layRoads_120 rfl (lv_at hl 1 rfl) ?_
        refine lv_icmp_lt (tgt := 130) hx hb dX10_layRoads_121 (by decide) (fun c67 => ?_) (fun c67 => ?_)
        · have c67 : v27_4.toInt < a1.toInt := wk_lt.mp c67
          exact J130 v118_5 v118_6 v118_7 f118_158_4 H locs ls w49 (show 0 ≤ a1.toInt from r50) (show a1.toInt ≤ 12 from t51) (show 0 ≤ a2.toInt from r52) (show a2.toInt ≤ 8191 from t53) (show (-1) ≤ a3.toInt from r54) (show a3.toInt ≤ 11 from t55) (show 0 ≤ v27_4.toInt from r56) (show v27_4.toInt ≤ 11 from t57) (show 0 ≤ v118_5.toInt from r58) (show v118_5.toInt ≤ 9 from t59) (show 0 ≤ v118_6.toInt from r60) (show v118_6.toInt ≤ 9 from t61) (show 0 ≤ v118_7.toInt from r62) (show v118_7.toInt ≤ 1 from t63) (show 1 ≤ f118_158_4.toInt from r64) (show f118_158_4.toInt ≤ 12 from t65)  hw hT hF c66 (lv_sub hl [0, 1, 2, 3, 4, 5, 6, 7] rfl)
        · have c67 : a1.toInt ≤ v27_4.toInt := wk_ltF c67
          refine lv_iload hx hb dX10_layRoads_124 (lv_at hl 7 rfl) ?_
          refine lv_iconst (v := 1) hx hb dX10_layRoads_126 (by decide) ?_
          refine lv_icmp_ne (tgt := 144) hx hb dX10_layRoads_127 (by decide) (fun c68 => ?_) (fun c68 => ?_)
          · have c68 : ¬ v118_7.toInt = (1 : Int) := wk_eqF c68
            exact J144 f118_158_4 H locs ls w49 (show 0 ≤ a1.toInt from r50) (show a1.toInt ≤ 12 from t51) (show 0 ≤ a2.toInt from r52) (show a2.toInt ≤ 8191 from t53) (show (-1) ≤ a3.toInt from r54) (show a3.toInt ≤ 11 from t55) (show 0 ≤ v27_4.toInt from r56) (show v27_4.toInt ≤ 11 from t57) (show 1 ≤ f118_158_4.toInt from r64) (show f118_158_4.toInt ≤ 12 from t65)  hw hT hF c66 (lv_sub hl [0, 1, 2, 3, 4] rfl)
          · have c68 : v118_7.toInt = (1 : Int) := wk_eq.mp c68
            exact J130 v118_5 v118_6 v118_7 f118_158_4 H locs ls w49 (show 0 ≤ a1.toInt from r50) (show a1.toInt ≤ 12 from t51) (show 0 ≤ a2.toInt from r52) (show a2.toInt ≤ 8191 from t53) (show (-1) ≤ a3.toInt from r54) (show a3.toInt ≤ 11 from t55) (show 0 ≤ v27_4.toInt from r56) (show v27_4.toInt ≤ 11 from t57) (show 0 ≤ v118_5.toInt from r58) (show v118_5.toInt ≤ 9 from t59) (show 0 ≤ v118_6.toInt from r60) (show v118_6.toInt ≤ 9 from t61) (show 0 ≤ v118_7.toInt from r62) (show v118_7.toInt ≤ 1 from t63) (show 1 ≤ f118_158_4.toInt from r64) (show f118_158_4.toInt ≤ 12 from t65)  hw hT hF c66 (lv_sub hl [0, 1, 2, 3, 4, 5, 6, 7] rfl)
      have J104 : ∀ (v104_5 : Int32) (v104_6 : Int32) (v104_7 : Int32) (f104_158_4 : Int32) (H : Heap) (locs : List Loc) (ls : Array Slot) (w69 : va_W), 0 ≤ a1.toInt → a1.toInt ≤ 12 → 0 ≤ a2.toInt → a2.toInt ≤ 8191 → (-1) ≤ a3.toInt → a3.toInt ≤ 11 → 0 ≤ v27_4.toInt → v27_4.toInt ≤ 11 → 0 ≤ v104_5.toInt → v104_5.toInt ≤ 9 → 0 ≤ v104_6.toInt → v104_6.toInt ≤ 9 → 0 ≤ v104_7.toInt → v104_7.toInt ≤ 1 → 1 ≤ f104_158_4.toInt → f104_158_4.toInt ≤ 12 → Wd dC dI A s.heap H locs w69 → TW ksC ad cy B qr s1 w69 → FE ksC [(51, 0, 10)] w0 w69 → gi w69 158 4 = f104_158_4 → lv_has ls 8 [(0, .ref (ad 158)), (1, .int a1), (2, .int a2), (3, .int a3), (4, .int v27_4), (5, .int v104_5), (6, .int v104_6), (7, .int v104_7)] → W p l e ({ frames := 1, cells := 0, slots := 0, locals := 12 }) s m (List.toArray [.ref (ad 158), .int a1, .int a2, .int a3]) below meth c H locs 0 0 (MQ below (va_Qv (P_X10_layRoads_1 ad cy B qr s1 a1 a2 a3 w0) (fun u : va_W => wpost dC dI cy A u) A) (List.toArray [.ref (ad 158), .int a1, .int a2, .int a3]) s 0 0 A) (F0 m 104 ls []) := by
        intro v104_5 v104_6 v104_7 f104_158_4 H locs ls w69 r70 t71 r72 t73 r74 t75 r76 t77 r78 t79 r80 t81 r82 t83 r84 t85 hw hT hF c86 hl
        refine lv_aload_n hx hb dX10_layRoads_104 rfl (lv_at hl 0 rfl) ?_
        refine tk_getA hC hK hw hT hinX10 kC_at158 (by decide) rfl 3 (by decide) (List.mem_cons_of_mem _ uw_6_5) rfl rfl dX10_layRoads_105 ?_
        refine lv_iload hx hb dX10_layRoads_108 (lv_at hl 5 rfl) ?_
        refine lv_dup2_11 hx hb dX10_layRoads_110 rfl rfl ?_
        refine tk_iald hC hK hw hT kC_at160 rfl rfl (show 0 ≤ v104_5.toInt from r78) (show v104_5.toInt < 10 from Int.lt_of_le_of_lt t79 (by decide)) dX10_layRoads_111 (fun x87 c88 rx87 tx87 => ?_)
        refine lv_iconst (v := 1) hx hb dX10_layRoads_112 (by decide) ?_
        refine lv_iload hx hb dX10_layRoads_113 (lv_at hl 6 rfl) ?_
        refine lv_ishl hx hb dX10_layRoads_115 ?_
        refine lv_topi (fun x89 ex89 => ?_)
        have bx89 : 1 ≤ x89.toInt ∧ x89.toInt ≤ 512 := by rw [ex89]; exact wk_shl1 9 (by decide) (by omega) (by omega)
        refine lv_ior hx hb dX10_layRoads_116 ?_
        refine lv_topi (fun x90 ex90 => ?_)
        have bx90 : 0 ≤ x90.toInt ∧ x90.toInt < 1024 := by rw [ex90]; exact wk_or 10 (by decide) (by omega) (by omega) (by omega) (by omega)
        have mx90 : x87.toInt ≤ x90.toInt ∧ x89.toInt ≤ x90.toInt := by rw [ex90]; exact wk_orL 10 (by decide) (by omega) (by omega) (by omega) (by omega)
        refine tk_iast hC hK hw hT kC_at160 (by decide) rfl rfl (show 0 ≤ v104_5.toInt from r78) (show v104_5.toInt < 10 from Int.lt_of_le_of_lt t79 (by decide)) (show 0 ≤ x90.toInt by omega) (show x90.toInt ≤ 1023 by omega) dX10_layRoads_117 (fun H locs w91 hw hT k93 c92 => ?_)
        have hF := hF.put kC_at160 (inE_of (a := 0) (b := 10) (by decide) (show 0 ≤ v104_5.toInt.toNat by omega) (show v104_5.toInt.toNat ≤ 10 by omega)) k93
        have c94 := k93.gi (Or.inl (tk_ne kC_at158 kC_at160 (by decide))) c86
        exact J118 v104_5 v104_6 v104_7 f104_158_4 H locs ls w91 (show 0 ≤ a1.toInt from r70) (show a1.toInt ≤ 12 from t71) (show 0 ≤ a2.toInt from r72) (show a2.toInt ≤ 8191 from t73) (show (-1) ≤ a3.toInt from r74) (show a3.toInt ≤ 11 from t75) (show 0 ≤ v27_4.toInt from r76) (show v27_4.toInt ≤ 11 from t77) (show 0 ≤ v104_5.toInt from r78) (show v104_5.toInt ≤ 9 from t79) (show 0 ≤ v104_6.toInt from r80) (show v104_6.toInt ≤ 9 from t81) (show 0 ≤ v104_7.toInt from r82) (show v104_7.toInt ≤ 1 from t83) (show 1 ≤ f104_158_4.toInt from r84) (show f104_158_4.toInt ≤ 12 from t85)  hw hT hF c94 (lv_sub hl [0, 1, 2, 3, 4, 5, 6, 7] rfl)
      refine lv_iload hx hb dX10_layRoads_27 (lv_at hl 4 rfl) ?_
      refine lv_aload_n hx hb dX10_layRoads_29 rfl (lv_at hl 0 rfl) ?_
      refine tk_geti hC hK hw hT hinX10 kC_at158 (by decide) rfl 4 (by decide) (List.mem_cons_of_mem _ uw_59_23) rfl rfl dX10_layRoads_30 (fun x95 c96 rx95 tx95 => ?_)
      refine lv_icmp_ge (tgt := 150) hx hb dX10_layRoads_33 (by decide) (fun c97 => ?_) (fun c97 => ?_)
      · have c97 : x95.toInt ≤ v27_4.toInt := wk_le.mp c97
        exact tk_vret hC hr hlocks hK ⟨hT, hF, trivial⟩ hw dX10_layRoads_150
      · have c97 : v27_4.toInt < x95.toInt := wk_leF c97
        refine lv_iload hx hb dX10_layRoads_36 (lv_at hl 4 rfl) ?_
        refine lv_iload_n hx hb dX10_layRoads_38 rfl (lv_at hl 3 rfl) ?_
        refine lv_icmp_ne (tgt := 45) hx hb dX10_layRoads_39 (by decide) (fun c98 => ?_) (fun c98 => ?_)
        · have c98 : ¬ v27_4.toInt = a3.toInt := wk_eqF c98
          refine lv_aload_n hx hb dX10_layRoads_45 rfl (lv_at hl 0 rfl) ?_
          refine tk_getA hC hK hw hT hinX10 kC_at158 (by decide) rfl 1 (by decide) (List.mem_cons_of_mem _ uw_6_8) rfl rfl dX10_layRoads_46 ?_
          refine tk_getO hC hK hw hT hinX7 kC_at39 (by decide) rfl 0 (by decide) (List.mem_cons_of_mem _ uw_60_11) rfl rfl dX10_layRoads_49 ?_
          refine lv_iconst (v := 2) hx hb dX10_layRoads_52 (by decide) ?_
          refine lv_aload_n hx hb dX10_layRoads_53 rfl (lv_at hl 0 rfl) ?_
          refine tk_getA hC hK hw hT hinX10 kC_at158 (by decide) rfl 2 (by decide) (List.mem_cons_of_mem _ uw_6_4) rfl rfl dX10_layRoads_54 ?_
          refine lv_iload hx hb dX10_layRoads_57 (lv_at hl 4 rfl) ?_
          refine tk_iald hC hK hw hT kC_at159 rfl rfl (show 0 ≤ v27_4.toInt from r8) (show v27_4.toInt < 12 by omega) dX10_layRoads_59 (fun x99 c100 rx99 tx99 => ?_)
          refine lv_imul hx hb dX10_layRoads_60 ?_
          refine lv_topi (fun x101 ex101 => ?_)
          have ex101 : x101.toInt = (2 : Int) * x99.toInt := by rw [ex101]; exact wk_mul (show (-2147483648) ≤ (2 : Int) * x99.toInt by omega) (show (2 : Int) * x99.toInt ≤ 2147483647 by omega)
          refine tk_iald hC hK hw hT kC_at40 rfl rfl (show 0 ≤ x101.toInt by omega) (show x101.toInt < 26 by omega) dX10_layRoads_61 (fun x102 c103 rx102 tx102 => ?_)
          have c103 : gi w1 40 (2 * x99.toInt + 0).toNat = x102 := (congrArg (gi w1 40) (congrArg Int.toNat (show 2 * x99.toInt + 0 = x101.toInt by omega))).trans c103
          refine lv_istore (lv' := [(5, .int x102), (0, .ref (ad 158)), (1, .int a1), (2, .int a2), (3, .int a3), (4, .int v27_4)]) hx hb dX10_layRoads_62 hl (by decide) rfl (fun ls hl => ?_)
          refine lv_aload_n hx hb dX10_layRoads_64 rfl (lv_at hl 1 rfl) ?_
          refine tk_getA hC hK hw hT hinX10 kC_at158 (by decide) rfl 1 (by decide) (List.mem_cons_of_mem _ uw_6_8) rfl rfl dX10_layRoads_65 ?_
          refine tk_getO hC hK hw hT hinX7 kC_at39 (by decide) rfl 0 (by decide) (List.mem_cons_of_mem _ uw_60_11) rfl rfl dX10_layRoads_68 ?_
          refine lv_iconst (v := 2) hx hb dX10_layRoads_71 (by decide) ?_
          refine lv_aload_n hx hb dX10_layRoads_72 rfl (lv_at hl 1 rfl) ?_
          refine tk_getA hC hK hw hT hinX10 kC_at158 (by decide) rfl 2 (by decide) (List.mem_cons_of_mem _ uw_6_4) rfl rfl dX10_layRoads_73 ?_
          refine lv_iload hx hb dX10_layRoads_76 (lv_at hl 5 rfl) ?_
          refine tk_iald hC hK hw hT kC_at159 rfl rfl (show 0 ≤ v27_4.toInt from r8) (show v27_4.toInt < 12 by omega) dX10_layRoads_78 (fun x104 c105 rx104 tx104 => ?_)
          refine lv_imul hx hb dX10_layRoads_79 ?_
          refine lv_topi (fun x106 ex106 => ?_)
          have ex106 : x106.toInt = (2 : Int) * x104.toInt := by rw [ex106]; exact wk_mul (show (-2147483648) ≤ (2 : Int) * x104.toInt by omega) (show (2 : Int) * x104.toInt ≤ 2147483647 by omega)
          refine lv_iconst (v := 1) hx hb dX10_layRoads_80 (by decide) ?_
          refine lv_iadd hx hb dX10_layRoads_81 ?_
          refine lv_topi (fun x107 ex107 => ?_)
          have ex107 : x107.toInt = x106.toInt + (1 : Int) := by rw [ex107]; exact wk_add (show (-2147483648) ≤ x106.toInt + (1 : Int) by omega) (show x106.toInt + (1 : Int) ≤ 2147483647 by omega)
          refine tk_iald hC hK hw hT kC_at40 rfl rfl (show 0 ≤ x107.toInt by omega) (show x107.toInt < 26 by omega) dX10_layRoads_82 (fun x108 c109 rx108 tx108 => ?_)
          have c109 : gi w1 40 (2 * x104.toInt + 1).toNat = x108 := (congrArg (gi w1 40) (congrArg Int.toNat (show 2 * x104.toInt + 1 = x107.toInt by omega))).trans c109
          refine lv_istore (lv' := [(6, .int x108), (5, .int x102), (0, .ref (ad 158)), (1, .int a1), (2, .int a2), (3, .int a3), (4, .int v27_4)]) hx hb dX10_layRoads_83 hl (by decide) rfl (fun ls hl => ?_)
          refine lv_iload_n hx hb dX10_layRoads_85 rfl (lv_at hl 4 rfl) ?_
          refine lv_iload hx hb dX10_layRoads_86 (lv_at hl 6 rfl) ?_
          refine lv_ishr hx hb dX10_layRoads_88 ?_
          refine lv_topi (fun x110 ex110 => ?_)
          have bx110 : 0 ≤ x110.toInt ∧ x110.toInt ≤ a2.toInt := by rw [ex110]; exact wk_shr (by omega)
          refine lv_iconst (v := 1) hx hb dX10_layRoads_89 (by decide) ?_
          refine lv_iand hx hb dX10_layRoads_90 ?_
          refine lv_topi (fun x111 ex111 => ?_)
          have bx111 : 0 ≤ x111.toInt ∧ x111.toInt ≤ (1 : Int) := by rw [ex111]; exact wk_and (by decide)
          refine lv_istore (lv' := [(7, .int x111), (6, .int x108), (5, .int x102), (0, .ref (ad 158)), (1, .int a1), (2, .int a2), (3, .int a3), (4, .int v27_4)]) hx hb dX10_layRoads_91 hl (by decide) rfl (fun ls hl => ?_)
          refine lv_iload hx hb dX10_layRoads_93 (lv_at hl 7 rfl) ?_
          refine lv_iload_n hx hb dX10_layRoads_95 rfl (lv_at hl 4 rfl) ?_
          refine lv_icmp_lt (tgt := 104) hx hb dX10_layRoads_96 (by decide) (fun c112 => ?_) (fun c112 => ?_)
          · have c112 : v27_4.toInt < a1.toInt := wk_lt.mp c112
            exact J104 x102 x108 x111 x95 H locs ls w1 (show 0 ≤ a1.toInt from r2) (show a1.toInt ≤ 12 from t3) (show 0 ≤ a2.toInt from r4) (show a2.toInt ≤ 8191 from t5) (show (-1) ≤ a3.toInt from r6) (show a3.toInt ≤ 11 from t7) (show 0 ≤ v27_4.toInt from r8) (show v27_4.toInt ≤ 11 by omega) (show 0 ≤ x102.toInt from rx102) (show x102.toInt ≤ 9 from tx102) (show 0 ≤ x108.toInt from rx108) (show x108.toInt ≤ 9 from tx108) (show 0 ≤ x111.toInt by omega) (show x111.toInt ≤ 1 by omega) (show 1 ≤ x95.toInt by omega) (show x95.toInt ≤ 12 from tx95)  hw hT hF c96 (lv_sub hl [3, 4, 5, 6, 7, 2, 1, 0] rfl)
          · have c112 : a1.toInt ≤ v27_4.toInt := wk_ltF c112
            refine lv_iload hx hb dX10_layRoads_99 (lv_at hl 0 rfl) ?_
            refine lv_if_ne (tgt := 118) hx hb dX10_layRoads_101 (by decide) (fun c113 => ?_) (fun c113 => ?_)
            · have c113 : ¬ x111.toInt = (0 : Int) := wk_eqF c113
              exact J118 x102 x108 x111 x95 H locs ls w1 (show 0 ≤ a1.toInt from r2) (show a1.toInt ≤ 12 from t3) (show 0 ≤ a2.toInt from r4) (show a2.toInt ≤ 8191 from t5) (show (-1) ≤ a3.toInt from r6) (show a3.toInt ≤ 11 from t7) (show 0 ≤ v27_4.toInt from r8) (show v27_4.toInt ≤ 11 by omega) (show 0 ≤ x102.toInt from rx102) (show x102.toInt ≤ 9 from tx102) (show 0 ≤ x108.toInt from rx108) (show x108.toInt ≤ 9 from tx108) (show 0 ≤ x111.toInt by omega) (show x111.toInt ≤ 1 by omega) (show 1 ≤ x95.toInt by omega) (show x95.toInt ≤ 12 from tx95)  hw hT hF c96 (lv_sub hl [3, 4, 5, 6, 7, 2, 1, 0] rfl)
            · have c113 : x111.toInt = (0 : Int) := wk_eq.mp c113
              exact J104 x102 x108 x111 x95 H locs ls w1 (show 0 ≤ a1.toInt from r2) (show a1.toInt ≤ 12 from t3) (show 0 ≤ a2.toInt from r4) (show a2.toInt ≤ 8191 from t5) (show (-1) ≤ a3.toInt from r6) (show a3.toInt ≤ 11 from t7) (show 0 ≤ v27_4.toInt from r8) (show v27_4.toInt ≤ 11 by omega) (show 0 ≤ x102.toInt from rx102) (show x102.toInt ≤ 9 from tx102) (show 0 ≤ x108.toInt from rx108) (show x108.toInt ≤ 9 from tx108) (show 0 ≤ x111.toInt by omega) (show x111.toInt ≤ 1 by omega) (show 1 ≤ x95.toInt by omega) (show x95.toInt ≤ 12 from tx95)  hw hT hF c96 (lv_sub hl [3, 4, 5, 6, 7, 2, 1, 0] rfl)
        · have c98 : v27_4.toInt = a3.toInt := wk_eq.mp c98
          refine lv_goto (tgt := 144) hx hb dX10_layRoads_42 (by decide) ?_
          exact J144 x95 H locs ls w1 (show 0 ≤ a1.toInt from r2) (show a1.toInt ≤ 12 from t3) (show 0 ≤ a2.toInt from r4) (show a2.toInt ≤ 8191 from t5) (show (-1) ≤ a3.toInt from r6) (show a3.toInt ≤ 11 from t7) (show 0 ≤ v27_4.toInt from r8) (show v27_4.toInt ≤ 11 by omega) (show 1 ≤ x95.toInt by omega) (show x95.toInt ≤ 12 from tx95)  hw hT hF c96 (lv_sub hl [0, 1, 2, 3, 4] rfl)
  have L3 : ∀ (n3 : Nat) (v3_4 : Int32) (H : Heap) (locs : List Loc) (ls : Array Slot) (w114 : va_W), 0 ≤ a1.toInt → a1.toInt ≤ 12 → 0 ≤ a2.toInt → a2.toInt ≤ 8191 → (-1) ≤ a3.toInt → a3.toInt ≤ 11 → 0 ≤ v3_4.toInt → v3_4.toInt ≤ 10 → (10 - v3_4.toInt).toNat < n3 → Wd dC dI A s.heap H locs w114 → TW ksC ad cy B qr s1 w114 → FE ksC [(51, 0, 10)] w0 w114 → lv_has ls 8 [(0, .ref (ad 158)), (1, .int a1), (2, .int a2), (3, .int a3), (4, .int v3_4)] → W p l e ({ frames := 1, cells := 0, slots := 0, locals := 12 }) s m (List.toArray [.ref (ad 158), .int a1, .int a2, .int a3]) below meth c H locs 0 0 (MQ below (va_Qv (P_X10_layRoads_1 ad cy B qr s1 a1 a2 a3 w0) (fun u : va_W => wpost dC dI cy A u) A) (List.toArray [.ref (ad 158), .int a1, .int a2, .int a3]) s 0 0 A) (F0 m 3 ls []) := by
    intro n3
    induction n3 with
    | zero => intro v3_4 H locs ls w114 r115 t116 r117 t118 r119 t120 r121 t122 hm3 hw hT hF hl; omega
    | succ n3 ih3 =>
      intro v3_4 H locs ls w114 r115 t116 r117 t118 r119 t120 r121 t122 hm3 hw hT hF hl
      refine lv_iload hx hb dX10_layRoads_3 (lv_at hl 4 rfl) ?_
      refine lv_bipush (v := 10) hx hb dX10_layRoads_5 (by decide) ?_
      refine lv_icmp_ge (tgt := 24) hx hb dX10_layRoads_7 (by decide) (fun c123 => ?_) (fun c123 => ?_)
      · have c123 : (10 : Int) ≤ v3_4.toInt := wk_le.mp c123
        refine lv_iconst (v := 0) hx hb dX10_layRoads_24 (by decide) ?_
        refine lv_istore (lv' := [(4, .int 0), (0, .ref (ad 158)), (1, .int a1), (2, .int a2), (3, .int a3)]) hx hb dX10_layRoads_25 hl (by decide) rfl (fun ls hl => ?_)
        exact L27 ((12 - (0 : Int)).toNat + 1) 0 H locs ls w114 (show 0 ≤ a1.toInt from r115) (show a1.toInt ≤ 12 from t116) (show 0 ≤ a2.toInt from r117) (show a2.toInt ≤ 8191 from t118) (show (-1) ≤ a3.toInt from r119) (show a3.toInt ≤ 11 from t120) (by decide) (by decide) (Nat.lt_succ_self _) hw hT hF  (lv_sub hl [1, 2, 3, 4, 0] rfl)
      · have c123 : v3_4.toInt < (10 : Int) := wk_leF c123
        refine lv_aload_n hx hb dX10_layRoads_10 rfl (lv_at hl 0 rfl) ?_
        refine tk_getA hC hK hw hT hinX10 kC_at158 (by decide) rfl 3 (by decide) (List.mem_cons_of_mem _ uw_6_5) rfl rfl dX10_layRoads_11 ?_
        refine lv_iload hx hb dX10_layRoads_14 (lv_at hl 4 rfl) ?_
        refine lv_iconst (v := 0) hx hb dX10_layRoads_16 (by decide) ?_
        refine tk_iast hC hK hw hT kC_at160 (by decide) rfl rfl (show 0 ≤ v3_4.toInt from r121) (show v3_4.toInt < 10 from c123) (by decide) (by decide) dX10_layRoads_17 (fun H locs w124 hw hT k126 c125 => ?_)
        have hF := hF.put kC_at160 (inE_of (a := 0) (b := 10) (by decide) (show 0 ≤ v3_4.toInt.toNat by omega) (show v3_4.toInt.toNat ≤ 10 by omega)) k126
        obtain ⟨x127, ex127⟩ : ∃ y : Int32, y = v3_4 + Int32.ofInt 1 := ⟨_, rfl⟩
        refine lv_iinc (v := x127) (lv' := [(4, .int x127), (0, .ref (ad 158)), (1, .int a1), (2, .int a2), (3, .int a3)]) hx hb dX10_layRoads_18 hl (k := 4) rfl ex127.symm (by decide) rfl (fun ls hl => ?_)
        have ex127 : x127.toInt = v3_4.toInt + 1 := by rw [ex127]; exact wk_add (y := 1) (show -2147483648 ≤ v3_4.toInt + 1 by omega) (show v3_4.toInt + 1 ≤ 2147483647 by omega)
        refine lv_goto (tgt := 3) hx hb dX10_layRoads_21 (by decide) ?_
        exact ih3 x127 H locs ls w124 (show 0 ≤ a1.toInt from r115) (show a1.toInt ≤ 12 from t116) (show 0 ≤ a2.toInt from r117) (show a2.toInt ≤ 8191 from t118) (show (-1) ≤ a3.toInt from r119) (show a3.toInt ≤ 11 from t120) (show 0 ≤ x127.toInt by omega) (show x127.toInt ≤ 10 by omega) (show (10 - x127.toInt).toNat < n3 by omega) hw hT hF  (lv_sub hl [1, 2, 3, 4, 0] rfl)
  refine lv_iconst (v := 0) hx hb dX10_layRoads_0 (by decide) ?_
  refine lv_istore (lv' := [(4, .int 0), (0, .ref (ad 158)), (1, .int a1), (2, .int a2), (3, .int a3)]) hx hb dX10_layRoads_1 hl (by decide) rfl (fun ls hl => ?_)
  exact L3 ((10 - (0 : Int)).toNat + 1) 0 s.heap locs ls w0 (show 0 ≤ a1.toInt from ra1) (show a1.toInt ≤ 12 from ta1) (show 0 ≤ a2.toInt from ra2) (show a2.toInt ≤ 8191 from ta2) (show (-1) ≤ a3.toInt from ra3) (show a3.toInt ≤ 11 from ta3) (by decide) (by decide) (Nat.lt_succ_self _) hw hT hF  (lv_sub hl [1, 2, 3, 4, 0] rfl)
abbrev P_X10_cornersFrom_1 (ad : Nat → Nat) (cy : Nat → ClassId) (B : Int) (qr : Nat) (s1 : Int) (a1 : Int32) (w0 : va_W) : Int32 → va_W → Prop := fun r u => TW ksC ad cy B qr s1 u ∧ FE ksC ([] : List (Nat × Nat × Nat)) w0 u ∧ ((1 ≤ r.toInt ∧ r.toInt ≤ 1023))
set_option maxHeartbeats 4000000 in
set_option maxRecDepth 100000 in
theorem k_X10_cornersFrom_1 (l : Launch) (adK adV : Nat → Nat) (dC : Nat → ClassId) (dI : Nat → Nat → Nat) (cy : Nat → ClassId) (ad : Nat → Nat) (B : Int) (hB0 : 2147483648 ≤ B) (hB1 : B ≤ 1152921504606846976) (qr : Nat) (s1 : Int)  (a1 : Int32) (ra1 : 0 ≤ a1.toInt) (ta1 : a1.toInt ≤ 9) (w0 : va_W) (sz : Nat) (hT : TW ksC ad cy B qr s1 w0)  : Met l yX10_cornersFrom (wu yX10_cornersFrom cX10_cornersFrom 7 (some .int)) ({ frames := 1, cells := 0, slots := 0, locals := 12 }) (va_Pc [.ref (ad 158), .int a1] (wpreS adK adV dC dI cy sz w0)) (va_Qi (P_X10_cornersFrom_1 ad cy B qr s1 a1 w0) (fun u : va_W => wpost dC dI cy (va_A w0 sz) u) (va_A w0 sz)) 0 0 (va_A w0 sz) := by
  refine Met.ofW (cc := cX10_cornersFrom) (maxL := 7) (ret := (some .int)) (by decide) rfl ?_
  intro p e s m args below meth c s₁ Bk hml hv
  obtain ⟨rfl, ⟨hsz, hP, hK, hD0⟩, hE, hSR⟩ := hv
  have hx := Bk.exec
  have hb := Bk.bytes
  have hr := Bk.returns
  have hlocks := Bk.notSynchronized
  have hC : CallFix p m c cX10_cornersFrom 7 s _ (wu yX10_cornersFrom cX10_cornersFrom 7 (some .int)) RX10 := ⟨hx, hb, hml, findClass_of_methodNamed Bk.named, atoms_spec (ws := (wu yX10_cornersFrom cX10_cornersFrom 7 (some .int))) Bk.pre⟩
  subst hsz
  have hD := hD0.self (sz := s.heap.size)
  generalize hAe : va_A w0 s.heap.size = A at hD hE ⊢
  have hA : ∀ q : Nat, s.heap.size ≤ q → A q := fun q h => by rw [← hAe]; exact Or.inr h
  have hw : Wd dC dI A s.heap s.heap [] w0 := ⟨hP, hD, va_S.rf⟩
  have hF : FE ksC ([] : List (Nat × Nat × Nat)) w0 w0 := FE.rf
  have hl := lv_entry ([.ref (ad 158), .int a1]) (n := 7) (Nat.le_of_ble_eq_true rfl)
  rw [lg_entry_eq]
  generalize (lg_sl ([.ref (ad 158), .int a1]) ++ List.replicate (7 - (lg_sl ([.ref (ad 158), .int a1])).length) Slot.unset).toArray = ls at hl ⊢
  have hl : lv_has ls 7 [(0, .ref (ad 158)), (1, .int a1)] := hl
  generalize hloc : ([] : List Loc) = locs at hw ⊢
  have hinX10 : ∀ w ∈ u_ws RX10 TX10 5, w ∈ (wu yX10_cornersFrom cX10_cornersFrom 7 (some .int)) := fun _ h => List.mem_cons_of_mem _ (up_81 h)
  have hinX7 : ∀ w ∈ u_ws RX7 TX7 12, w ∈ (wu yX10_cornersFrom cX10_cornersFrom 7 (some .int)) := fun _ h => List.mem_cons_of_mem _ (up_73 h)
  have J87 : ∀ (v87_2 : Int32) (v87_3 : Int32) (v87_4 : Int32) (H : Heap) (locs : List Loc) (ls : Array Slot) (w1 : va_W), 0 ≤ a1.toInt → a1.toInt ≤ 9 → 1 ≤ v87_2.toInt → v87_2.toInt ≤ 1023 → 0 ≤ v87_3.toInt → v87_3.toInt ≤ 1023 → 0 ≤ v87_4.toInt → v87_4.toInt ≤ 10 → Wd dC dI A s.heap H locs w1 → TW ksC ad cy B qr s1 w1 → FE ksC ([] : List (Nat × Nat × Nat)) w0 w1 → lv_has ls 7 [(0, .ref (ad 158)), (1, .int a1), (2, .int v87_2), (3, .int v87_3), (4, .int v87_4)] → W p l e ({ frames := 1, cells := 0, slots := 0, locals := 12 }) s m (List.toArray [.ref (ad 158), .int a1]) below meth c H locs 0 0 (MQ below (va_Qi (P_X10_cornersFrom_1 ad cy B qr s1 a1 w0) (fun u : va_W => wpost dC dI cy A u) A) (List.toArray [.ref (ad 158), .int a1]) s 0 0 A) (F0 m 87 ls []) := by
    intro v87_2 v87_3 v87_4 H locs ls w1 r2 t3 r4 t5 r6 t7 r8 t9 hw hT hF hl
    refine lv_iload_n hx hb dX10_cornersFrom_87 rfl (lv_at hl 2 rfl) ?_
    exact tk_iret hC hr hlocks hK ⟨hT, hF, ⟨(show 1 ≤ v87_2.toInt from r4), (show v87_2.toInt ≤ 1023 from t5)⟩⟩ hw dX10_cornersFrom_88
  have L9 : ∀ (n9 : Nat) (v9_2 : Int32) (v9_3 : Int32) (v9_4 : Int32) (H : Heap) (locs : List Loc) (ls : Array Slot) (w10 : va_W), 0 ≤ a1.toInt → a1.toInt ≤ 9 → 1 ≤ v9_2.toInt → v9_2.toInt ≤ 1023 → 0 ≤ v9_3.toInt → v9_3.toInt ≤ 1023 → 0 ≤ v9_4.toInt → v9_4.toInt ≤ 10 → (10 - v9_4.toInt).toNat < n9 → Wd dC dI A s.heap H locs w10 → TW ksC ad cy B qr s1 w10 → FE ksC ([] : List (Nat × Nat × Nat)) w0 w10 → lv_has ls 7 [(0, .ref (ad 158)), (1, .int a1), (2, .int v9_2), (3, .int v9_3), (4, .int v9_4)] → W p l e ({ frames := 1, cells := 0, slots := 0, locals := 12 }) s m (List.toArray [.ref (ad 158), .int a1]) below meth c H locs 0 0 (MQ below (va_Qi (P_X10_cornersFrom_1 ad cy B qr s1 a1 w0) (fun u : va_W => wpost dC dI cy A u) A) (List.toArray [.ref (ad 158), .int a1]) s 0 0 A) (F0 m 9 ls []) := by
    intro n9
    induction n9 with
    | zero => intro v9_2 v9_3 v9_4 H locs ls w10 r11 t12 r13 t14 r15 t16 r17 t18 hm9 hw hT hF hl; omega
    | succ n9 ih9 =>
      intro v9_2 v9_3 v9_4 H locs ls w10 r11 t12 r13 t14 r15 t16 r17 t18 hm9 hw hT hF hl
      have L26 : ∀ (n26 : Nat) (v26_5 : Int32) (v26_6 : Int32) (H : Heap) (locs : List Loc) (ls : Array Slot) (w19 : va_W), 0 ≤ a1.toInt → a1.toInt ≤ 9 → 1 ≤ v9_2.toInt → v9_2.toInt ≤ 1023 → 1 ≤ v9_3.toInt → v9_3.toInt ≤ 1023 → 0 ≤ v9_4.toInt → v9_4.toInt ≤ 9 → 0 ≤ v26_5.toInt → v26_5.toInt ≤ 1023 → 0 ≤ v26_6.toInt → v26_6.toInt ≤ 10 → (10 - v26_6.toInt).toNat < n26 → Wd dC dI A s.heap H locs w19 → TW ksC ad cy B qr s1 w19 → FE ksC ([] : List (Nat × Nat × Nat)) w0 w19 → lv_has ls 7 [(0, .ref (ad 158)), (1, .int a1), (2, .int v9_2), (3, .int v9_3), (4, .int v9_4), (5, .int v26_5), (6, .int v26_6)] → W p l e ({ frames := 1, cells := 0, slots := 0, locals := 12 }) s m (List.toArray [.ref (ad 158), .int a1]) below meth c H locs 0 0 (MQ below (va_Qi (P_X10_cornersFrom_1 ad cy B qr s1 a1 w0) (fun u : va_W => wpost dC dI cy A u) A) (List.toArray [.ref (ad 158), .int a1]) s 0 0 A) (F0 m 26 ls []) := by
        intro n26
        induction n26 with
        | zero => intro v26_5 v26_6 H locs ls w19 r20 t21 r22 t23 r24 t25 r26 t27 r28 t29 r30 t31 hm26 hw hT hF hl; omega
        | succ n26 ih26 =>
          intro v26_5 v26_6 H locs ls w19 r20 t21 r22 t23 r24 t25 r26 t27 r28 t29 r30 t31 hm26 hw hT hF hl
          have J59 : ∀ (v59_5 : Int32) (f59_39_8 : Int32) (H : Heap) (locs : List Loc) (ls : Array Slot) (w32 : va_W), 0 ≤ a1.toInt → a1.toInt ≤ 9 → 1 ≤ v9_2.toInt → v9_2.toInt ≤ 1023 → 1 ≤ v9_3.toInt → v9_3.toInt ≤ 1023 → 0 ≤ v9_4.toInt → v9_4.toInt ≤ 9 → 0 ≤ v59_5.toInt → v59_5.toInt ≤ 1023 → 0 ≤ v26_6.toInt → v26_6.toInt ≤ 9 → 1 ≤ f59_39_8.toInt → f59_39_8.toInt ≤ 10 → Wd dC dI A s.heap H locs w32 → TW ksC ad cy B qr s1 w32 → FE ksC ([] : List (Nat × Nat × Nat)) w0 w32 → gi w32 39 8 = f59_39_8 → lv_has ls 7 [(0, .ref (ad 158)), (1, .int a1), (2, .int v9_2), (3, .int v9_3), (4, .int v9_4), (5, .int v59_5), (6, .int v26_6)] → W p l e ({ frames := 1, cells := 0, slots := 0, locals := 12 }) s m (List.toArray [.ref (ad 158), .int a1]) below meth c H locs 0 0 (MQ below (va_Qi (P_X10_cornersFrom_1 ad cy B qr s1 a1 w0) (fun u : va_W => wpost dC dI cy A u) A) (List.toArray [.ref (ad 158), .int a1]) s 0 0 A) (F0 m 59 ls []) := by
            intro v59_5 f59_39_8 H locs ls w32 r33 t34 r35 t36 r37 t38 r39 t40 r41 t42 r43 t44 r45 t46 hw hT hF c47 hl
            obtain ⟨x48, ex48⟩ : ∃ y : Int32, y = v26_6 + Int32.ofInt 1 := ⟨_, rfl⟩
            refine lv_iinc (v := x48) (lv' := [(6, .int x48), (0, .ref (ad 158)), (1, .int a1), (2, .int v9_2), (3, .int v9_3), (4, .int v9_4), (5, .int v59_5)]) hx hb dX10_cornersFrom_59 hl (k := 6) rfl ex48.symm (by decide) rfl (fun ls hl => ?_)
            have ex48 : x48.toInt = v26_6.toInt + 1 := by rw [ex48]; exact wk_add (y := 1) (show -2147483648 ≤ v26_6.toInt + 1 by omega) (show v26_6.toInt + 1 ≤ 2147483647 by omega)
            refine lv_goto (tgt := 26) hx hb dX10_cornersFrom_62 (by decide) ?_
            exact ih26 v59_5 x48 H locs ls w32 (show 0 ≤ a1.toInt from r33) (show a1.toInt ≤ 9 from t34) (show 1 ≤ v9_2.toInt from r35) (show v9_2.toInt ≤ 1023 from t36) (show 1 ≤ v9_3.toInt from r37) (show v9_3.toInt ≤ 1023 from t38) (show 0 ≤ v9_4.toInt from r39) (show v9_4.toInt ≤ 9 from t40) (show 0 ≤ v59_5.toInt from r41) (show v59_5.toInt ≤ 1023 from t42) (show 0 ≤ x48.toInt by omega) (show x48.toInt ≤ 10 by omega) (show (10 - x48.toInt).toNat < n26 by omega) hw hT hF  (lv_sub hl [1, 2, 3, 4, 5, 6, 0] rfl)
          refine lv_iload hx hb dX10_cornersFrom_26 (lv_at hl 6 rfl) ?_
          refine lv_aload_n hx hb dX10_cornersFrom_28 rfl (lv_at hl 0 rfl) ?_
          refine tk_getA hC hK hw hT hinX10 kC_at158 (by decide) rfl 1 (by decide) (List.mem_cons_of_mem _ uw_6_8) rfl rfl dX10_cornersFrom_29 ?_
          refine tk_geti hC hK hw hT hinX7 kC_at39 (by decide) rfl 8 (by decide) (List.mem_cons_of_mem _ uw_60_22) rfl rfl dX10_cornersFrom_32 (fun x49 c50 rx49 tx49 => ?_)
          refine lv_icmp_ge (tgt := 65) hx hb dX10_cornersFrom_35 (by decide) (fun c51 => ?_) (fun c51 => ?_)
          · have c51 : x49.toInt ≤ v26_6.toInt := wk_le.mp c51
            refine lv_iload hx hb dX10_cornersFrom_65 (lv_at hl 5 rfl) ?_
            refine lv_iload_n hx hb dX10_cornersFrom_67 rfl (lv_at hl 2 rfl) ?_
            refine lv_iconst (v := (-1)) hx hb dX10_cornersFrom_68 (by decide) ?_
            refine lv_ixor hx hb dX10_cornersFrom_69 ?_
            refine lv_topi (fun x52 ex52 => ?_)
            refine lv_iand hx hb dX10_cornersFrom_70 ?_
            refine lv_topi (fun x53 ex53 => ?_)
            have bx53 : 0 ≤ x53.toInt ∧ x53.toInt ≤ v26_5.toInt := by rw [ex53]; exact wk_andC (by omega)
            refine lv_sipush (v := 1023) hx hb dX10_cornersFrom_71 (by decide) ?_
            refine lv_iand hx hb dX10_cornersFrom_74 ?_
            refine lv_topi (fun x54 ex54 => ?_)
            have bx54 : 0 ≤ x54.toInt ∧ x54.toInt ≤ (1023 : Int) := by rw [ex54]; exact wk_and (by decide)
            refine lv_istore_n (lv' := [(3, .int x54), (0, .ref (ad 158)), (1, .int a1), (2, .int v9_2), (4, .int v9_4), (5, .int v26_5), (6, .int v26_6)]) hx hb dX10_cornersFrom_75 rfl hl (by decide) rfl (fun ls hl => ?_)
            refine lv_iload_n hx hb dX10_cornersFrom_76 rfl (lv_at hl 3 rfl) ?_
            refine lv_iload hx hb dX10_cornersFrom_77 (lv_at hl 5 rfl) ?_
            refine lv_ior hx hb dX10_cornersFrom_79 ?_
            refine lv_topi (fun x55 ex55 => ?_)
            have bx55 : 0 ≤ x55.toInt ∧ x55.toInt < 1024 := by rw [ex55]; exact wk_or 10 (by decide) (by omega) (by omega) (by omega) (by omega)
            have mx55 : v9_2.toInt ≤ x55.toInt ∧ v26_5.toInt ≤ x55.toInt := by rw [ex55]; exact wk_orL 10 (by decide) (by omega) (by omega) (by omega) (by omega)
            refine lv_istore_n (lv' := [(2, .int x55), (3, .int x54), (0, .ref (ad 158)), (1, .int a1), (4, .int v9_4), (5, .int v26_5), (6, .int v26_6)]) hx hb dX10_cornersFrom_80 rfl hl (by decide) rfl (fun ls hl => ?_)
            obtain ⟨x56, ex56⟩ : ∃ y : Int32, y = v9_4 + Int32.ofInt 1 := ⟨_, rfl⟩
            refine lv_iinc (v := x56) (lv' := [(4, .int x56), (2, .int x55), (3, .int x54), (0, .ref (ad 158)), (1, .int a1), (5, .int v26_5), (6, .int v26_6)]) hx hb dX10_cornersFrom_81 hl (k := 4) rfl ex56.symm (by decide) rfl (fun ls hl => ?_)
            have ex56 : x56.toInt = v9_4.toInt + 1 := by rw [ex56]; exact wk_add (y := 1) (show -2147483648 ≤ v9_4.toInt + 1 by omega) (show v9_4.toInt + 1 ≤ 2147483647 by omega)
            refine lv_goto (tgt := 9) hx hb dX10_cornersFrom_84 (by decide) ?_
            exact ih9 x55 x54 x56 H locs ls w19 (show 0 ≤ a1.toInt from r20) (show a1.toInt ≤ 9 from t21) (show 1 ≤ x55.toInt by omega) (show x55.toInt ≤ 1023 by omega) (show 0 ≤ x54.toInt by omega) (show x54.toInt ≤ 1023 by omega) (show 0 ≤ x56.toInt by omega) (show x56.toInt ≤ 10 by omega) (show (10 - x56.toInt).toNat < n9 by omega) hw hT hF  (lv_sub hl [3, 4, 1, 2, 0] rfl)
          · have c51 : v26_6.toInt < x49.toInt := wk_leF c51
            refine lv_iload_n hx hb dX10_cornersFrom_38 rfl (lv_at hl 3 rfl) ?_
            refine lv_iload hx hb dX10_cornersFrom_39 (lv_at hl 6 rfl) ?_
            refine lv_ishr hx hb dX10_cornersFrom_41 ?_
            refine lv_topi (fun x57 ex57 => ?_)
            have bx57 : 0 ≤ x57.toInt ∧ x57.toInt ≤ v9_3.toInt := by rw [ex57]; exact wk_shr (by omega)
            refine lv_iconst (v := 1) hx hb dX10_cornersFrom_42 (by decide) ?_
            refine lv_iand hx hb dX10_cornersFrom_43 ?_
            refine lv_topi (fun x58 ex58 => ?_)
            have bx58 : 0 ≤ x58.toInt ∧ x58.toInt ≤ (1 : Int) := by rw [ex58]; exact wk_and (by decide)
            refine lv_if_eq (tgt := 59) hx hb dX10_cornersFrom_44 (by decide) (fun c59 => ?_) (fun c59 => ?_)
            · have c59 : x58.toInt = (0 : Int) := wk_eq.mp c59
              exact J59 v26_5 x49 H locs ls w19 (show 0 ≤ a1.toInt from r20) (show a1.toInt ≤ 9 from t21) (show 1 ≤ v9_2.toInt from r22) (show v9_2.toInt ≤ 1023 from t23) (show 1 ≤ v9_3.toInt from r24) (show v9_3.toInt ≤ 1023 from t25) (show 0 ≤ v9_4.toInt from r26) (show v9_4.toInt ≤ 9 from t27) (show 0 ≤ v26_5.toInt from r28) (show v26_5.toInt ≤ 1023 from t29) (show 0 ≤ v26_6.toInt from r30) (show v26_6.toInt ≤ 9 by omega) (show 1 ≤ x49.toInt by omega) (show x49.toInt ≤ 10 from tx49)  hw hT hF c50 (lv_sub hl [0, 1, 2, 3, 4, 5, 6] rfl)
            · have c59 : ¬ x58.toInt = (0 : Int) := wk_eqF c59
              refine lv_iload hx hb dX10_cornersFrom_47 (lv_at hl 5 rfl) ?_
              refine lv_aload_n hx hb dX10_cornersFrom_49 rfl (lv_at hl 0 rfl) ?_
              refine tk_getA hC hK hw hT hinX10 kC_at158 (by decide) rfl 3 (by decide) (List.mem_cons_of_mem _ uw_6_5) rfl rfl dX10_cornersFrom_50 ?_
              refine lv_iload hx hb dX10_cornersFrom_53 (lv_at hl 6 rfl) ?_
              refine tk_iald hC hK hw hT kC_at160 rfl rfl (show 0 ≤ v26_6.toInt from r30) (show v26_6.toInt < 10 by omega) dX10_cornersFrom_55 (fun x60 c61 rx60 tx60 => ?_)
              refine lv_ior hx hb dX10_cornersFrom_56 ?_
              refine lv_topi (fun x62 ex62 => ?_)
              have bx62 : 0 ≤ x62.toInt ∧ x62.toInt < 1024 := by rw [ex62]; exact wk_or 10 (by decide) (by omega) (by omega) (by omega) (by omega)
              have mx62 : v26_5.toInt ≤ x62.toInt ∧ x60.toInt ≤ x62.toInt := by rw [ex62]; exact wk_orL 10 (by decide) (by omega) (by omega) (by omega) (by omega)
              refine lv_istore (lv' := [(5, .int x62), (0, .ref (ad 158)), (1, .int a1), (2, .int v9_2), (3, .int v9_3), (4, .int v9_4), (6, .int v26_6)]) hx hb dX10_cornersFrom_57 hl (by decide) rfl (fun ls hl => ?_)
              exact J59 x62 x49 H locs ls w19 (show 0 ≤ a1.toInt from r20) (show a1.toInt ≤ 9 from t21) (show 1 ≤ v9_2.toInt from r22) (show v9_2.toInt ≤ 1023 from t23) (show 1 ≤ v9_3.toInt from r24) (show v9_3.toInt ≤ 1023 from t25) (show 0 ≤ v9_4.toInt from r26) (show v9_4.toInt ≤ 9 from t27) (show 0 ≤ x62.toInt by omega) (show x62.toInt ≤ 1023 by omega) (show 0 ≤ v26_6.toInt from r30) (show v26_6.toInt ≤ 9 by omega) (show 1 ≤ x49.toInt by omega) (show x49.toInt ≤ 10 from tx49)  hw hT hF c50 (lv_sub hl [1, 2, 3, 4, 5, 0, 6] rfl)
      refine lv_iload hx hb dX10_cornersFrom_9 (lv_at hl 4 rfl) ?_
      refine lv_bipush (v := 10) hx hb dX10_cornersFrom_11 (by decide) ?_
      refine lv_icmp_ge (tgt := 87) hx hb dX10_cornersFrom_13 (by decide) (fun c63 => ?_) (fun c63 => ?_)
      · have c63 : (10 : Int) ≤ v9_4.toInt := wk_le.mp c63
        exact J87 v9_2 v9_3 v9_4 H locs ls w10 (show 0 ≤ a1.toInt from r11) (show a1.toInt ≤ 9 from t12) (show 1 ≤ v9_2.toInt from r13) (show v9_2.toInt ≤ 1023 from t14) (show 0 ≤ v9_3.toInt from r15) (show v9_3.toInt ≤ 1023 from t16) (show 0 ≤ v9_4.toInt from r17) (show v9_4.toInt ≤ 10 from t18)  hw hT hF  (lv_sub hl [0, 1, 2, 3, 4] rfl)
      · have c63 : v9_4.toInt < (10 : Int) := wk_leF c63
        refine lv_iload_n hx hb dX10_cornersFrom_16 rfl (lv_at hl 3 rfl) ?_
        refine lv_if_eq (tgt := 87) hx hb dX10_cornersFrom_17 (by decide) (fun c64 => ?_) (fun c64 => ?_)
        · have c64 : v9_3.toInt = (0 : Int) := wk_eq.mp c64
          exact J87 v9_2 v9_3 v9_4 H locs ls w10 (show 0 ≤ a1.toInt from r11) (show a1.toInt ≤ 9 from t12) (show 1 ≤ v9_2.toInt from r13) (show v9_2.toInt ≤ 1023 from t14) (show 0 ≤ v9_3.toInt from r15) (show v9_3.toInt ≤ 1023 from t16) (show 0 ≤ v9_4.toInt from r17) (show v9_4.toInt ≤ 10 from t18)  hw hT hF  (lv_sub hl [0, 1, 2, 3, 4] rfl)
        · have c64 : ¬ v9_3.toInt = (0 : Int) := wk_eqF c64
          refine lv_iconst (v := 0) hx hb dX10_cornersFrom_20 (by decide) ?_
          refine lv_istore (lv' := [(5, .int 0), (0, .ref (ad 158)), (1, .int a1), (2, .int v9_2), (3, .int v9_3), (4, .int v9_4)]) hx hb dX10_cornersFrom_21 hl (by decide) rfl (fun ls hl => ?_)
          refine lv_iconst (v := 0) hx hb dX10_cornersFrom_23 (by decide) ?_
          refine lv_istore (lv' := [(6, .int 0), (5, .int 0), (0, .ref (ad 158)), (1, .int a1), (2, .int v9_2), (3, .int v9_3), (4, .int v9_4)]) hx hb dX10_cornersFrom_24 hl (by decide) rfl (fun ls hl => ?_)
          exact L26 ((10 - (0 : Int)).toNat + 1) 0 0 H locs ls w10 (show 0 ≤ a1.toInt from r11) (show a1.toInt ≤ 9 from t12) (show 1 ≤ v9_2.toInt from r13) (show v9_2.toInt ≤ 1023 from t14) (show 1 ≤ v9_3.toInt by omega) (show v9_3.toInt ≤ 1023 from t16) (show 0 ≤ v9_4.toInt from r17) (show v9_4.toInt ≤ 9 by omega) (by decide) (by decide) (by decide) (by decide) (Nat.lt_succ_self _) hw hT hF  (lv_sub hl [2, 3, 4, 5, 6, 1, 0] rfl)
  refine lv_iconst (v := 1) hx hb dX10_cornersFrom_0 (by decide) ?_
  refine lv_iload_n hx hb dX10_cornersFrom_1 rfl (lv_at hl 1 rfl) ?_
  refine lv_ishl hx hb dX10_cornersFrom_2 ?_
  refine lv_topi (fun x65 ex65 => ?_)
  have bx65 : 1 ≤ x65.toInt ∧ x65.toInt ≤ 512 := by rw [ex65]; exact wk_shl1 9 (by decide) (by omega) (by omega)
  refine lv_istore_n (lv' := [(2, .int x65), (0, .ref (ad 158)), (1, .int a1)]) hx hb dX10_cornersFrom_3 rfl hl (by decide) rfl (fun ls hl => ?_)
  refine lv_iload_n hx hb dX10_cornersFrom_4 rfl (lv_at hl 0 rfl) ?_
  refine lv_istore_n (lv' := [(3, .int x65), (2, .int x65), (0, .ref (ad 158)), (1, .int a1)]) hx hb dX10_cornersFrom_5 rfl hl (by decide) rfl (fun ls hl => ?_)
  refine lv_iconst (v := 0) hx hb dX10_cornersFrom_6 (by decide) ?_
  refine lv_istore (lv' := [(4, .int 0), (3, .int x65), (2, .int x65), (0, .ref (ad 158)), (1, .int a1)]) hx hb dX10_cornersFrom_7 hl (by decide) rfl (fun ls hl => ?_)
  exact L9 ((10 - (0 : Int)).toNat + 1) x65 x65 0 s.heap locs ls w0 (show 0 ≤ a1.toInt from ra1) (show a1.toInt ≤ 9 from ta1) (show 1 ≤ x65.toInt by omega) (show x65.toInt ≤ 1023 by omega) (show 0 ≤ x65.toInt by omega) (show x65.toInt ≤ 1023 by omega) (by decide) (by decide) (Nat.lt_succ_self _) hw hT hF  (lv_sub hl [3, 4, 2, 1, 0] rfl)
abbrev P_X10_oddsOver_1 (ad : Nat → Nat) (cy : Nat → ClassId) (B : Int) (qr : Nat) (s1 : Int) (a1 : Int32) (w0 : va_W) : Int32 → va_W → Prop := fun r u => TW ksC ad cy B qr s1 u ∧ FE ksC [(51, 0, 10)] w0 u ∧ ((0 ≤ r.toInt ∧ r.toInt ≤ 127))
set_option maxHeartbeats 4000000 in
set_option maxRecDepth 100000 in
theorem k_X10_oddsOver_1 (l : Launch) (adK adV : Nat → Nat) (dC : Nat → ClassId) (dI : Nat → Nat → Nat) (cy : Nat → ClassId) (ad : Nat → Nat) (B : Int) (hB0 : 2147483648 ≤ B) (hB1 : B ≤ 1152921504606846976) (qr : Nat) (s1 : Int)  (a1 : Int32) (ra1 : 0 ≤ a1.toInt) (ta1 : a1.toInt ≤ 11) (w0 : va_W) (sz : Nat) (hT : TW ksC ad cy B qr s1 w0)  : Met l yX10_oddsOver (wu yX10_oddsOver cX10_oddsOver 7 (some .int)) ({ frames := 2, cells := 0, slots := 0, locals := 39 }) (va_Pc [.ref (ad 158), .int a1] (wpreS adK adV dC dI cy sz w0)) (va_Qi (P_X10_oddsOver_1 ad cy B qr s1 a1 w0) (fun u : va_W => wpost dC dI cy (va_A w0 sz) u) (va_A w0 sz)) 0 0 (va_A w0 sz) := by
  refine Met.ofW (cc := cX10_oddsOver) (maxL := 7) (ret := (some .int)) (by decide) rfl ?_
  intro p e s m args below meth c s₁ Bk hml hv
  obtain ⟨rfl, ⟨hsz, hP, hK, hD0⟩, hE, hSR⟩ := hv
  have hx := Bk.exec
  have hb := Bk.bytes
  have hr := Bk.returns
  have hlocks := Bk.notSynchronized
  have hC : CallFix p m c cX10_oddsOver 7 s _ (wu yX10_oddsOver cX10_oddsOver 7 (some .int)) RX10 := ⟨hx, hb, hml, findClass_of_methodNamed Bk.named, atoms_spec (ws := (wu yX10_oddsOver cX10_oddsOver 7 (some .int))) Bk.pre⟩
  subst hsz
  have hD := hD0.self (sz := s.heap.size)
  generalize hAe : va_A w0 s.heap.size = A at hD hE ⊢
  have hA : ∀ q : Nat, s.heap.size ≤ q → A q := fun q h => by rw [← hAe]; exact Or.inr h
  have hw : Wd dC dI A s.heap s.heap [] w0 := ⟨hP, hD, va_S.rf⟩
  have hF : FE ksC [(51, 0, 10)] w0 w0 := FE.rf
  have hl := lv_entry ([.ref (ad 158), .int a1]) (n := 7) (Nat.le_of_ble_eq_true rfl)
  rw [lg_entry_eq]
  generalize (lg_sl ([.ref (ad 158), .int a1]) ++ List.replicate (7 - (lg_sl ([.ref (ad 158), .int a1])).length) Slot.unset).toArray = ls at hl ⊢
  have hl : lv_has ls 7 [(0, .ref (ad 158)), (1, .int a1)] := hl
  generalize hloc : ([] : List Loc) = locs at hw ⊢
  have hinX10 : ∀ w ∈ u_ws RX10 TX10 5, w ∈ (wu yX10_oddsOver cX10_oddsOver 7 (some .int)) := fun _ h => List.mem_cons_of_mem _ (up_81 h)
  have hinX5 : ∀ w ∈ u_ws RX5 TX5 14, w ∈ (wu yX10_oddsOver cX10_oddsOver 7 (some .int)) := fun _ h => List.mem_cons_of_mem _ (up_76 h)
  have hinX7 : ∀ w ∈ u_ws RX7 TX7 12, w ∈ (wu yX10_oddsOver cX10_oddsOver 7 (some .int)) := fun _ h => List.mem_cons_of_mem _ (up_73 h)
  have L36 : ∀ (n36 : Nat) (v36_2 : Int32) (v36_3 : Int32) (v36_4 : Int32) (H : Heap) (locs : List Loc) (ls : Array Slot) (w1 : va_W), 0 ≤ a1.toInt → a1.toInt ≤ 11 → 1 ≤ v36_2.toInt → v36_2.toInt ≤ 1023 → 0 ≤ v36_3.toInt → v36_3.toInt ≤ 127 → 0 ≤ v36_4.toInt → v36_4.toInt ≤ 6 → (6 - v36_4.toInt).toNat < n36 → Wd dC dI A s.heap H locs w1 → TW ksC ad cy B qr s1 w1 → FE ksC [(51, 0, 10)] w0 w1 → lv_has ls 7 [(0, .ref (ad 158)), (1, .int a1), (2, .int v36_2), (3, .int v36_3), (4, .int v36_4)] → W p l e ({ frames := 2, cells := 0, slots := 0, locals := 39 }) s m (List.toArray [.ref (ad 158), .int a1]) below meth c H locs 0 0 (MQ below (va_Qi (P_X10_oddsOver_1 ad cy B qr s1 a1 w0) (fun u : va_W => wpost dC dI cy A u) A) (List.toArray [.ref (ad 158), .int a1]) s 0 0 A) (F0 m 36 ls []) := by
    intro n36
    induction n36 with
    | zero => intro v36_2 v36_3 v36_4 H locs ls w1 r2 t3 r4 t5 r6 t7 r8 t9 hm36 hw hT hF hl; omega
    | succ n36 ih36 =>
      intro v36_2 v36_3 v36_4 H locs ls w1 r2 t3 r4 t5 r6 t7 r8 t9 hm36 hw hT hF hl
      have L54 : ∀ (n54 : Nat) (v54_3 : Int32) (v54_5 : Int32) (f54_38_10 : Int32) (H : Heap) (locs : List Loc) (ls : Array Slot) (w10 : va_W), 0 ≤ a1.toInt → a1.toInt ≤ 11 → 1 ≤ v36_2.toInt → v36_2.toInt ≤ 1023 → 0 ≤ v54_3.toInt → v54_3.toInt ≤ 127 → 0 ≤ v36_4.toInt → v36_4.toInt ≤ 5 → 1 ≤ v54_5.toInt → v54_5.toInt ≤ 6 → 1 ≤ f54_38_10.toInt → f54_38_10.toInt ≤ 6 → (6 - v54_5.toInt).toNat < n54 → Wd dC dI A s.heap H locs w10 → TW ksC ad cy B qr s1 w10 → FE ksC [(51, 0, 10)] w0 w10 → gi w10 38 10 = f54_38_10 → lv_has ls 7 [(0, .ref (ad 158)), (1, .int a1), (2, .int v36_2), (3, .int v54_3), (4, .int v36_4), (5, .int v54_5)] → W p l e ({ frames := 2, cells := 0, slots := 0, locals := 39 }) s m (List.toArray [.ref (ad 158), .int a1]) below meth c H locs 0 0 (MQ below (va_Qi (P_X10_oddsOver_1 ad cy B qr s1 a1 w0) (fun u : va_W => wpost dC dI cy A u) A) (List.toArray [.ref (ad 158), .int a1]) s 0 0 A) (F0 m 54 ls []) := by
        intro n54
        induction n54 with
        | zero => intro v54_3 v54_5 f54_38_10 H locs ls w10 r11 t12 r13 t14 r15 t16 r17 t18 r19 t20 r21 t22 hm54 hw hT hF c23 hl; omega
        | succ n54 ih54 =>
          intro v54_3 v54_5 f54_38_10 H locs ls w10 r11 t12 r13 t14 r15 t16 r17 t18 r19 t20 r21 t22 hm54 hw hT hF c23 hl
          have J108 : ∀ (v108_3 : Int32) (v108_6 : Int32) (H : Heap) (locs : List Loc) (ls : Array Slot) (w24 : va_W), 0 ≤ a1.toInt → a1.toInt ≤ 11 → 1 ≤ v36_2.toInt → v36_2.toInt ≤ 1023 → 0 ≤ v108_3.toInt → v108_3.toInt ≤ 127 → 0 ≤ v36_4.toInt → v36_4.toInt ≤ 5 → 1 ≤ v54_5.toInt → v54_5.toInt ≤ 5 → 1 ≤ v108_6.toInt → v108_6.toInt ≤ 63 → 2 ≤ f54_38_10.toInt → f54_38_10.toInt ≤ 6 → Wd dC dI A s.heap H locs w24 → TW ksC ad cy B qr s1 w24 → FE ksC [(51, 0, 10)] w0 w24 → gi w24 38 10 = f54_38_10 → lv_has ls 7 [(0, .ref (ad 158)), (1, .int a1), (2, .int v36_2), (3, .int v108_3), (4, .int v36_4), (5, .int v54_5), (6, .int v108_6)] → W p l e ({ frames := 2, cells := 0, slots := 0, locals := 39 }) s m (List.toArray [.ref (ad 158), .int a1]) below meth c H locs 0 0 (MQ below (va_Qi (P_X10_oddsOver_1 ad cy B qr s1 a1 w0) (fun u : va_W => wpost dC dI cy A u) A) (List.toArray [.ref (ad 158), .int a1]) s 0 0 A) (F0 m 108 ls []) := by
            intro v108_3 v108_6 H locs ls w24 r25 t26 r27 t28 r29 t30 r31 t32 r33 t34 r35 t36 r37 t38 hw hT hF c39 hl
            obtain ⟨x40, ex40⟩ : ∃ y : Int32, y = v54_5 + Int32.ofInt 1 := ⟨_, rfl⟩
            refine lv_iinc (v := x40) (lv' := [(5, .int x40), (0, .ref (ad 158)), (1, .int a1), (2, .int v36_2), (3, .int v108_3), (4, .int v36_4), (6, .int v108_6)]) hx hb dX10_oddsOver_108 hl (k := 5) rfl ex40.symm (by decide) rfl (fun ls hl => ?_)
            have ex40 : x40.toInt = v54_5.toInt + 1 := by rw [ex40]; exact wk_add (y := 1) (show -2147483648 ≤ v54_5.toInt + 1 by omega) (show v54_5.toInt + 1 ≤ 2147483647 by omega)
            refine lv_goto (tgt := 54) hx hb dX10_oddsOver_111 (by decide) ?_
            exact ih54 v108_3 x40 f54_38_10 H locs ls w24 (show 0 ≤ a1.toInt from r25) (show a1.toInt ≤ 11 from t26) (show 1 ≤ v36_2.toInt from r27) (show v36_2.toInt ≤ 1023 from t28) (show 0 ≤ v108_3.toInt from r29) (show v108_3.toInt ≤ 127 from t30) (show 0 ≤ v36_4.toInt from r31) (show v36_4.toInt ≤ 5 from t32) (show 1 ≤ x40.toInt by omega) (show x40.toInt ≤ 6 by omega) (show 1 ≤ f54_38_10.toInt from r21) (show f54_38_10.toInt ≤ 6 from t38) (show (6 - x40.toInt).toNat < n54 by omega) hw hT hF c39 (lv_sub hl [1, 2, 3, 4, 5, 0] rfl)
          have J105 : ∀ (v105_6 : Int32) (H : Heap) (locs : List Loc) (ls : Array Slot) (w41 : va_W), 0 ≤ a1.toInt → a1.toInt ≤ 11 → 1 ≤ v36_2.toInt → v36_2.toInt ≤ 1023 → 0 ≤ v54_3.toInt → v54_3.toInt ≤ 127 → 0 ≤ v36_4.toInt → v36_4.toInt ≤ 5 → 1 ≤ v54_5.toInt → v54_5.toInt ≤ 5 → 1 ≤ v105_6.toInt → v105_6.toInt ≤ 63 → 2 ≤ f54_38_10.toInt → f54_38_10.toInt ≤ 6 → Wd dC dI A s.heap H locs w41 → TW ksC ad cy B qr s1 w41 → FE ksC [(51, 0, 10)] w0 w41 → gi w41 38 10 = f54_38_10 → lv_has ls 7 [(0, .ref (ad 158)), (1, .int a1), (2, .int v36_2), (3, .int v54_3), (4, .int v36_4), (5, .int v54_5), (6, .int v105_6)] → W p l e ({ frames := 2, cells := 0, slots := 0, locals := 39 }) s m (List.toArray [.ref (ad 158), .int a1]) below meth c H locs 0 0 (MQ below (va_Qi (P_X10_oddsOver_1 ad cy B qr s1 a1 w0) (fun u : va_W => wpost dC dI cy A u) A) (List.toArray [.ref (ad 158), .int a1]) s 0 0 A) (F0 m 105 ls []) := by
            intro v105_6 H locs ls w41 r42 t43 r44 t45 r46 t47 r48 t49 r50 t51 r52 t53 r54 t55 hw hT hF c56 hl
            refine lv_iload hx hb dX10_oddsOver_105 (lv_at hl 6 rfl) ?_
            refine lv_istore_n (lv' := [(3, .int v105_6), (0, .ref (ad 158)), (1, .int a1), (2, .int v36_2), (4, .int v36_4), (5, .int v54_5), (6, .int v105_6)]) hx hb dX10_oddsOver_107 rfl hl (by decide) rfl (fun ls hl => ?_)
            exact J108 v105_6 v105_6 H locs ls w41 (show 0 ≤ a1.toInt from r42) (show a1.toInt ≤ 11 from t43) (show 1 ≤ v36_2.toInt from r44) (show v36_2.toInt ≤ 1023 from t45) (show 0 ≤ v105_6.toInt from Int.le_trans (by decide) r52) (show v105_6.toInt ≤ 127 from Int.le_trans t53 (by decide)) (show 0 ≤ v36_4.toInt from r48) (show v36_4.toInt ≤ 5 from t49) (show 1 ≤ v54_5.toInt from r50) (show v54_5.toInt ≤ 5 from t51) (show 1 ≤ v105_6.toInt from r52) (show v105_6.toInt ≤ 63 from t53) (show 2 ≤ f54_38_10.toInt from r54) (show f54_38_10.toInt ≤ 6 from t55)  hw hT hF c56 (lv_sub hl [1, 2, 3, 0, 4, 5, 6] rfl)
          refine lv_iload hx hb dX10_oddsOver_54 (lv_at hl 5 rfl) ?_
          refine lv_aload_n hx hb dX10_oddsOver_56 rfl (lv_at hl 0 rfl) ?_
          refine tk_getA hC hK hw hT hinX10 kC_at158 (by decide) rfl 0 (by decide) (List.mem_cons_of_mem _ uw_6_6) rfl rfl dX10_oddsOver_57 ?_
          refine tk_geti hC hK hw hT hinX5 kC_at38 (by decide) rfl 10 (by decide) (List.mem_cons_of_mem _ uw_60_6) rfl rfl dX10_oddsOver_60 (fun x57 c58 rx57 tx57 => ?_)
          refine wk_top f54_38_10 (c58.symm.trans c23) ?_
          refine lv_icmp_ge (tgt := 114) hx hb dX10_oddsOver_63 (by decide) (fun c59 => ?_) (fun c59 => ?_)
          · have c59 : f54_38_10.toInt ≤ v54_5.toInt := wk_le.mp c59
            obtain ⟨x60, ex60⟩ : ∃ y : Int32, y = v36_4 + Int32.ofInt 1 := ⟨_, rfl⟩
            refine lv_iinc (v := x60) (lv' := [(4, .int x60), (0, .ref (ad 158)), (1, .int a1), (2, .int v36_2), (3, .int v54_3), (5, .int v54_5)]) hx hb dX10_oddsOver_114 hl (k := 4) rfl ex60.symm (by decide) rfl (fun ls hl => ?_)
            have ex60 : x60.toInt = v36_4.toInt + 1 := by rw [ex60]; exact wk_add (y := 1) (show -2147483648 ≤ v36_4.toInt + 1 by omega) (show v36_4.toInt + 1 ≤ 2147483647 by omega)
            refine lv_goto (tgt := 36) hx hb dX10_oddsOver_117 (by decide) ?_
            exact ih36 v36_2 v54_3 x60 H locs ls w10 (show 0 ≤ a1.toInt from r11) (show a1.toInt ≤ 11 from t12) (show 1 ≤ v36_2.toInt from r13) (show v36_2.toInt ≤ 1023 from t14) (show 0 ≤ v54_3.toInt from r15) (show v54_3.toInt ≤ 127 from t16) (show 0 ≤ x60.toInt by omega) (show x60.toInt ≤ 6 by omega) (show (6 - x60.toInt).toNat < n36 by omega) hw hT hF  (lv_sub hl [1, 2, 3, 4, 0] rfl)
          · have c59 : v54_5.toInt < f54_38_10.toInt := wk_leF c59
            refine lv_iconst (v := 1) hx hb dX10_oddsOver_66 (by decide) ?_
            refine lv_iload hx hb dX10_oddsOver_67 (lv_at hl 4 rfl) ?_
            refine lv_ishl hx hb dX10_oddsOver_69 ?_
            refine lv_topi (fun x61 ex61 => ?_)
            have bx61 : 1 ≤ x61.toInt ∧ x61.toInt ≤ 32 := by rw [ex61]; exact wk_shl1 5 (by decide) (by omega) (by omega)
            refine lv_iconst (v := 1) hx hb dX10_oddsOver_70 (by decide) ?_
            refine lv_iload hx hb dX10_oddsOver_71 (lv_at hl 5 rfl) ?_
            refine lv_ishl hx hb dX10_oddsOver_73 ?_
            refine lv_topi (fun x62 ex62 => ?_)
            have bx62 : 1 ≤ x62.toInt ∧ x62.toInt ≤ 32 := by rw [ex62]; exact wk_shl1 5 (by decide) (by omega) (by omega)
            refine lv_ior hx hb dX10_oddsOver_74 ?_
            refine lv_topi (fun x63 ex63 => ?_)
            have bx63 : 0 ≤ x63.toInt ∧ x63.toInt < 64 := by rw [ex63]; exact wk_or 6 (by decide) (by omega) (by omega) (by omega) (by omega)
            have mx63 : x61.toInt ≤ x63.toInt ∧ x62.toInt ≤ x63.toInt := by rw [ex63]; exact wk_orL 6 (by decide) (by omega) (by omega) (by omega) (by omega)
            refine lv_istore (lv' := [(6, .int x63), (0, .ref (ad 158)), (1, .int a1), (2, .int v36_2), (3, .int v54_3), (4, .int v36_4), (5, .int v54_5)]) hx hb dX10_oddsOver_75 hl (by decide) rfl (fun ls hl => ?_)
            refine lv_aload_n hx hb dX10_oddsOver_77 rfl (lv_at hl 1 rfl) ?_
            refine lv_iload hx hb dX10_oddsOver_78 (lv_at hl 5 rfl) ?_
            refine lv_iload_n hx hb dX10_oddsOver_80 rfl (lv_at hl 3 rfl) ?_
            refine tk_Vi hC hK hw hT hA hE hSR kC_at158 (by decide) rfl (k_X10_crossing_1 l adK adV dC dI cy ad B (by omega) (by omega) qr s1   v36_4 (show 0 ≤ v36_4.toInt from r17) (show v36_4.toInt ≤ 5 from t18) v36_2 (show 1 ≤ v36_2.toInt from r13) (show v36_2.toInt ≤ 1023 from t14) w10 H.size hT ) (cwV 2 hC.2.2.2.2 uV_RX10_63 rfl rfl rfl (by decide +kernel) ⟨Nat.le_of_ble_eq_true rfl, Nat.le_of_ble_eq_true rfl⟩) rfl hl.1 rfl (Nat.le_of_ble_eq_true rfl) dX10_oddsOver_81 (fun r64 w66 H locs hp65 hw => ?_)
            obtain ⟨hT, k67, hg70⟩ := hp65
            have hF := hF.tr k67 (by decide)
            have c71 := k67.gi kC_at38 (by decide) c23
            obtain ⟨g68, g69⟩ := hg70
            refine lv_aload_n hx hb dX10_oddsOver_84 rfl (lv_at hl 1 rfl) ?_
            refine lv_iload hx hb dX10_oddsOver_85 (lv_at hl 6 rfl) ?_
            refine lv_iload_n hx hb dX10_oddsOver_87 rfl (lv_at hl 3 rfl) ?_
            refine tk_Vi hC hK hw hT hA hE hSR kC_at158 (by decide) rfl (k_X10_crossing_2 l adK adV dC dI cy ad B (by omega) (by omega) qr s1   v54_5 (show 1 ≤ v54_5.toInt from r19) (show v54_5.toInt ≤ 5 by omega) v36_2 (show 1 ≤ v36_2.toInt from r13) (show v36_2.toInt ≤ 1023 from t14) w66 H.size hT ) (cwV 2 hC.2.2.2.2 uV_RX10_63 rfl rfl rfl (by decide +kernel) ⟨Nat.le_of_ble_eq_true rfl, Nat.le_of_ble_eq_true rfl⟩) rfl hl.1 rfl (Nat.le_of_ble_eq_true rfl) dX10_oddsOver_88 (fun r72 w74 H locs hp73 hw => ?_)
            obtain ⟨hT, k75, hg78⟩ := hp73
            have hF := hF.tr k75 (by decide)
            have c79 := k75.gi kC_at38 (by decide) c71
            obtain ⟨g76, g77⟩ := hg78
            refine lv_imul hx hb dX10_oddsOver_91 ?_
            refine lv_topi (fun x80 ex80 => ?_)
            refine lv_if_ge (tgt := 108) hx hb dX10_oddsOver_92 (by decide) (fun c81 => ?_) (fun c81 => ?_)
            · have c81 : (0 : Int) ≤ x80.toInt := wk_le.mp c81
              exact J108 v54_3 x63 H locs ls w74 (show 0 ≤ a1.toInt from r11) (show a1.toInt ≤ 11 from t12) (show 1 ≤ v36_2.toInt from r13) (show v36_2.toInt ≤ 1023 from t14) (show 0 ≤ v54_3.toInt from r15) (show v54_3.toInt ≤ 127 from t16) (show 0 ≤ v36_4.toInt from r17) (show v36_4.toInt ≤ 5 from t18) (show 1 ≤ v54_5.toInt from r19) (show v54_5.toInt ≤ 5 by omega) (show 1 ≤ x63.toInt by omega) (show x63.toInt ≤ 63 by omega) (show 2 ≤ f54_38_10.toInt by omega) (show f54_38_10.toInt ≤ 6 from t22)  hw hT hF c79 (lv_sub hl [1, 2, 3, 4, 5, 6, 0] rfl)
            · have c81 : x80.toInt < (0 : Int) := wk_leF c81
              refine lv_iload_n hx hb dX10_oddsOver_95 rfl (lv_at hl 4 rfl) ?_
              refine lv_if_eq (tgt := 105) hx hb dX10_oddsOver_96 (by decide) (fun c82 => ?_) (fun c82 => ?_)
              · have c82 : v54_3.toInt = (0 : Int) := wk_eq.mp c82
                exact J105 x63 H locs ls w74 (show 0 ≤ a1.toInt from r11) (show a1.toInt ≤ 11 from t12) (show 1 ≤ v36_2.toInt from r13) (show v36_2.toInt ≤ 1023 from t14) (show 0 ≤ v54_3.toInt from r15) (show v54_3.toInt ≤ 127 from t16) (show 0 ≤ v36_4.toInt from r17) (show v36_4.toInt ≤ 5 from t18) (show 1 ≤ v54_5.toInt from r19) (show v54_5.toInt ≤ 5 by omega) (show 1 ≤ x63.toInt by omega) (show x63.toInt ≤ 63 by omega) (show 2 ≤ f54_38_10.toInt by omega) (show f54_38_10.toInt ≤ 6 from t22)  hw hT hF c79 (lv_sub hl [1, 2, 3, 4, 5, 6, 0] rfl)
              · have c82 : ¬ v54_3.toInt = (0 : Int) := wk_eqF c82
                refine lv_iload hx hb dX10_oddsOver_99 (lv_at hl 0 rfl) ?_
                refine lv_iload_n hx hb dX10_oddsOver_101 rfl (lv_at hl 4 rfl) ?_
                refine lv_icmp_ge (tgt := 108) hx hb dX10_oddsOver_102 (by decide) (fun c83 => ?_) (fun c83 => ?_)
                · have c83 : v54_3.toInt ≤ x63.toInt := wk_le.mp c83
                  exact J108 v54_3 x63 H locs ls w74 (show 0 ≤ a1.toInt from r11) (show a1.toInt ≤ 11 from t12) (show 1 ≤ v36_2.toInt from r13) (show v36_2.toInt ≤ 1023 from t14) (show 0 ≤ v54_3.toInt from r15) (show v54_3.toInt ≤ 127 from t16) (show 0 ≤ v36_4.toInt from r17) (show v36_4.toInt ≤ 5 from t18) (show 1 ≤ v54_5.toInt from r19) (show v54_5.toInt ≤ 5 by omega) (show 1 ≤ x63.toInt by omega) (show x63.toInt ≤ 63 by omega) (show 2 ≤ f54_38_10.toInt by omega) (show f54_38_10.toInt ≤ 6 from t22)  hw hT hF c79 (lv_sub hl [1, 2, 3, 4, 5, 6, 0] rfl)
                · have c83 : x63.toInt < v54_3.toInt := wk_leF c83
                  exact J105 x63 H locs ls w74 (show 0 ≤ a1.toInt from r11) (show a1.toInt ≤ 11 from t12) (show 1 ≤ v36_2.toInt from r13) (show v36_2.toInt ≤ 1023 from t14) (show 0 ≤ v54_3.toInt from r15) (show v54_3.toInt ≤ 127 from t16) (show 0 ≤ v36_4.toInt from r17) (show v36_4.toInt ≤ 5 from t18) (show 1 ≤ v54_5.toInt from r19) (show v54_5.toInt ≤ 5 by omega) (show 1 ≤ x63.toInt by omega) (show x63.toInt ≤ 63 by omega) (show 2 ≤ f54_38_10.toInt by omega) (show f54_38_10.toInt ≤ 6 from t22)  hw hT hF c79 (lv_sub hl [1, 2, 3, 4, 5, 6, 0] rfl)
      refine lv_iload hx hb dX10_oddsOver_36 (lv_at hl 4 rfl) ?_
      refine lv_aload_n hx hb dX10_oddsOver_38 rfl (lv_at hl 0 rfl) ?_
      refine tk_getA hC hK hw hT hinX10 kC_at158 (by decide) rfl 0 (by decide) (List.mem_cons_of_mem _ uw_6_6) rfl rfl dX10_oddsOver_39 ?_
      refine tk_geti hC hK hw hT hinX5 kC_at38 (by decide) rfl 10 (by decide) (List.mem_cons_of_mem _ uw_60_6) rfl rfl dX10_oddsOver_42 (fun x84 c85 rx84 tx84 => ?_)
      refine lv_icmp_ge (tgt := 120) hx hb dX10_oddsOver_45 (by decide) (fun c86 => ?_) (fun c86 => ?_)
      · have c86 : x84.toInt ≤ v36_4.toInt := wk_le.mp c86
        refine lv_iload_n hx hb dX10_oddsOver_120 rfl (lv_at hl 3 rfl) ?_
        exact tk_iret hC hr hlocks hK ⟨hT, hF, ⟨(show 0 ≤ v36_3.toInt from r6), (show v36_3.toInt ≤ 127 from t7)⟩⟩ hw dX10_oddsOver_121
      · have c86 : v36_4.toInt < x84.toInt := wk_leF c86
        refine lv_iload hx hb dX10_oddsOver_48 (lv_at hl 4 rfl) ?_
        refine lv_iconst (v := 1) hx hb dX10_oddsOver_50 (by decide) ?_
        refine lv_iadd hx hb dX10_oddsOver_51 ?_
        refine lv_topi (fun x87 ex87 => ?_)
        have ex87 : x87.toInt = v36_4.toInt + (1 : Int) := by rw [ex87]; exact wk_add (show (-2147483648) ≤ v36_4.toInt + (1 : Int) by omega) (show v36_4.toInt + (1 : Int) ≤ 2147483647 by omega)
        refine lv_istore (lv' := [(5, .int x87), (0, .ref (ad 158)), (1, .int a1), (2, .int v36_2), (3, .int v36_3), (4, .int v36_4)]) hx hb dX10_oddsOver_52 hl (by decide) rfl (fun ls hl => ?_)
        exact L54 ((6 - x87.toInt).toNat + 1) v36_3 x87 x84 H locs ls w1 (show 0 ≤ a1.toInt from r2) (show a1.toInt ≤ 11 from t3) (show 1 ≤ v36_2.toInt from r4) (show v36_2.toInt ≤ 1023 from t5) (show 0 ≤ v36_3.toInt from r6) (show v36_3.toInt ≤ 127 from t7) (show 0 ≤ v36_4.toInt from r8) (show v36_4.toInt ≤ 5 by omega) (show 1 ≤ x87.toInt by omega) (show x87.toInt ≤ 6 by omega) (show 1 ≤ x84.toInt by omega) (show x84.toInt ≤ 6 from tx84) (Nat.lt_succ_self _) hw hT hF c85 (lv_sub hl [1, 2, 3, 4, 5, 0] rfl)
  refine lv_aload_n hx hb dX10_oddsOver_0 rfl (lv_at hl 0 rfl) ?_
  refine lv_aload_n hx hb dX10_oddsOver_1 rfl (lv_at hl 0 rfl) ?_
  refine tk_geti hC hK hw hT hinX10 kC_at158 (by decide) rfl 4 (by decide) (List.mem_cons_of_mem _ uw_59_23) rfl rfl dX10_oddsOver_2 (fun x88 c89 rx88 tx88 => ?_)
  refine lv_iconst (v := 0) hx hb dX10_oddsOver_5 (by decide) ?_
  refine lv_iload_n hx hb dX10_oddsOver_6 rfl (lv_at hl 1 rfl) ?_
  refine tk_Vv hC hK hw hT hA hE hSR kC_at158 (by decide) rfl (k_X10_layRoads_1 l adK adV dC dI cy ad B (by omega) (by omega) qr s1   x88 (show 0 ≤ x88.toInt from rx88) (show x88.toInt ≤ 12 from tx88) 0 (by decide) (by decide) a1 (show (-1) ≤ a1.toInt from Int.le_trans (by decide) ra1) (show a1.toInt ≤ 11 from ta1) w0 s.heap.size hT ) (cwV 3 hC.2.2.2.2 uV_RX10_42 rfl rfl rfl (by decide +kernel) ⟨Nat.le_of_ble_eq_true rfl, Nat.le_of_ble_eq_true rfl⟩) rfl hl.1 rfl (Nat.le_of_ble_eq_true rfl) dX10_oddsOver_7 (fun w92 H locs hp91 hw => ?_)
  obtain ⟨hT, k93, hg94⟩ := hp91
  have hF := hF.tr k93 (by decide)
  have c95 := k93.gi kC_at158 (by decide) c89
  clear hg94
  refine lv_aload_n hx hb dX10_oddsOver_10 rfl (lv_at hl 0 rfl) ?_
  refine lv_aload_n hx hb dX10_oddsOver_11 rfl (lv_at hl 0 rfl) ?_
  refine tk_getA hC hK hw hT hinX10 kC_at158 (by decide) rfl 1 (by decide) (List.mem_cons_of_mem _ uw_6_8) rfl rfl dX10_oddsOver_12 ?_
  refine tk_getO hC hK hw hT hinX7 kC_at39 (by decide) rfl 0 (by decide) (List.mem_cons_of_mem _ uw_60_11) rfl rfl dX10_oddsOver_15 ?_
  refine lv_iconst (v := 2) hx hb dX10_oddsOver_18 (by decide) ?_
  refine lv_aload_n hx hb dX10_oddsOver_19 rfl (lv_at hl 0 rfl) ?_
  refine tk_getA hC hK hw hT hinX10 kC_at158 (by decide) rfl 2 (by decide) (List.mem_cons_of_mem _ uw_6_4) rfl rfl dX10_oddsOver_20 ?_
  refine lv_iload_n hx hb dX10_oddsOver_23 rfl (lv_at hl 1 rfl) ?_
  refine tk_iald hC hK hw hT kC_at159 rfl rfl (show 0 ≤ a1.toInt from ra1) (show a1.toInt < 12 from Int.lt_of_le_of_lt ta1 (by decide)) dX10_oddsOver_24 (fun x96 c97 rx96 tx96 => ?_)
  refine lv_imul hx hb dX10_oddsOver_25 ?_
  refine lv_topi (fun x98 ex98 => ?_)
  have ex98 : x98.toInt = (2 : Int) * x96.toInt := by rw [ex98]; exact wk_mul (show (-2147483648) ≤ (2 : Int) * x96.toInt by omega) (show (2 : Int) * x96.toInt ≤ 2147483647 by omega)
  refine tk_iald hC hK hw hT kC_at40 rfl rfl (show 0 ≤ x98.toInt by omega) (show x98.toInt < 26 by omega) dX10_oddsOver_26 (fun x99 c100 rx99 tx99 => ?_)
  have c100 : gi w92 40 (2 * x96.toInt + 0).toNat = x99 := (congrArg (gi w92 40) (congrArg Int.toNat (show 2 * x96.toInt + 0 = x98.toInt by omega))).trans c100
  refine tk_Vi hC hK hw hT hA hE hSR kC_at158 (by decide) rfl (k_X10_cornersFrom_1 l adK adV dC dI cy ad B (by omega) (by omega) qr s1   x99 (show 0 ≤ x99.toInt from rx99) (show x99.toInt ≤ 9 from tx99) w92 H.size hT ) (cwV 1 hC.2.2.2.2 uV_RX10_60 rfl rfl rfl (by decide +kernel) ⟨Nat.le_of_ble_eq_true rfl, Nat.le_of_ble_eq_true rfl⟩) rfl hl.1 rfl (Nat.le_of_ble_eq_true rfl) dX10_oddsOver_27 (fun r101 w103 H locs hp102 hw => ?_)
  obtain ⟨hT, k104, hg107⟩ := hp102
  have hF := hF.tr k104 (by decide)
  have c108 := k104.gi kC_at158 (by decide) c95
  have c109 := k104.gi kC_at40 rfl c100
  obtain ⟨g105, g106⟩ := hg107
  refine lv_istore_n (lv' := [(2, .int r101), (0, .ref (ad 158)), (1, .int a1)]) hx hb dX10_oddsOver_30 rfl hl (by decide) rfl (fun ls hl => ?_)
  refine lv_iconst (v := 0) hx hb dX10_oddsOver_31 (by decide) ?_
  refine lv_istore_n (lv' := [(3, .int 0), (2, .int r101), (0, .ref (ad 158)), (1, .int a1)]) hx hb dX10_oddsOver_32 rfl hl (by decide) rfl (fun ls hl => ?_)
  refine lv_iconst (v := 0) hx hb dX10_oddsOver_33 (by decide) ?_
  refine lv_istore (lv' := [(4, .int 0), (3, .int 0), (2, .int r101), (0, .ref (ad 158)), (1, .int a1)]) hx hb dX10_oddsOver_34 hl (by decide) rfl (fun ls hl => ?_)
  exact L36 ((6 - (0 : Int)).toNat + 1) r101 0 0 H locs ls w103 (show 0 ≤ a1.toInt from ra1) (show a1.toInt ≤ 11 from ta1) (show 1 ≤ r101.toInt by omega) (show r101.toInt ≤ 1023 by omega) (by decide) (by decide) (by decide) (by decide) (Nat.lt_succ_self _) hw hT hF  (lv_sub hl [3, 4, 2, 1, 0] rfl)
abbrev P_X10_canDo_1 (ad : Nat → Nat) (cy : Nat → ClassId) (B : Int) (qr : Nat) (s1 : Int) (a1 : Int32) (w0 : va_W) : Int32 → va_W → Prop := fun r u => TW ksC ad cy B qr s1 u ∧ FE ksC ([] : List (Nat × Nat × Nat)) w0 u ∧ ((r = 0) ∨ (r = 1))
set_option maxHeartbeats 4000000 in
set_option maxRecDepth 100000 in
theorem k_X10_canDo_1 (l : Launch) (adK adV : Nat → Nat) (dC : Nat → ClassId) (dI : Nat → Nat → Nat) (cy : Nat → ClassId) (ad : Nat → Nat) (B : Int) (hB0 : 2147483648 ≤ B) (hB1 : B ≤ 1152921504606846976) (qr : Nat) (s1 : Int)  (a1 : Int32) (ra1 : 0 ≤ a1.toInt) (ta1 : a1.toInt ≤ 5) (w0 : va_W) (sz : Nat) (hT : TW ksC ad cy B qr s1 w0)  : Met l yX10_canDo (wu yX10_canDo cX10_canDo 2 (some .boolean)) ({ frames := 2, cells := 0, slots := 0, locals := 38 }) (va_Pc [.ref (ad 158), .int a1] (wpreS adK adV dC dI cy sz w0)) (va_Qi (P_X10_canDo_1 ad cy B qr s1 a1 w0) (fun u : va_W => wpost dC dI cy (va_A w0 sz) u) (va_A w0 sz)) 0 0 (va_A w0 sz) := by
  refine Met.ofW (cc := cX10_canDo) (maxL := 2) (ret := (some .boolean)) (by decide) rfl ?_
  intro p e s m args below meth c s₁ Bk hml hv
  obtain ⟨rfl, ⟨hsz, hP, hK, hD0⟩, hE, hSR⟩ := hv
  have hx := Bk.exec
  have hb := Bk.bytes
  have hr := Bk.returns
  have hlocks := Bk.notSynchronized
  have hC : CallFix p m c cX10_canDo 2 s _ (wu yX10_canDo cX10_canDo 2 (some .boolean)) RX10 := ⟨hx, hb, hml, findClass_of_methodNamed Bk.named, atoms_spec (ws := (wu yX10_canDo cX10_canDo 2 (some .boolean))) Bk.pre⟩
  subst hsz
  have hD := hD0.self (sz := s.heap.size)
  generalize hAe : va_A w0 s.heap.size = A at hD hE ⊢
  have hA : ∀ q : Nat, s.heap.size ≤ q → A q := fun q h => by rw [← hAe]; exact Or.inr h
  have hw : Wd dC dI A s.heap s.heap [] w0 := ⟨hP, hD, va_S.rf⟩
  have hF : FE ksC ([] : List (Nat × Nat × Nat)) w0 w0 := FE.rf
  have hl := lv_entry ([.ref (ad 158), .int a1]) (n := 2) (Nat.le_of_ble_eq_true rfl)
  rw [lg_entry_eq]
  generalize (lg_sl ([.ref (ad 158), .int a1]) ++ List.replicate (2 - (lg_sl ([.ref (ad 158), .int a1])).length) Slot.unset).toArray = ls at hl ⊢
  have hl : lv_has ls 2 [(0, .ref (ad 158)), (1, .int a1)] := hl
  generalize hloc : ([] : List Loc) = locs at hw ⊢
  have hinX10 : ∀ w ∈ u_ws RX10 TX10 5, w ∈ (wu yX10_canDo cX10_canDo 2 (some .boolean)) := fun _ h => List.mem_cons_of_mem _ (up_81 h)
  have hinX5 : ∀ w ∈ u_ws RX5 TX5 14, w ∈ (wu yX10_canDo cX10_canDo 2 (some .boolean)) := fun _ h => List.mem_cons_of_mem _ (up_76 h)
  refine lv_aload_n hx hb dX10_canDo_0 rfl (lv_at hl 0 rfl) ?_
  refine lv_aload_n hx hb dX10_canDo_1 rfl (lv_at hl 0 rfl) ?_
  refine tk_getA hC hK hw hT hinX10 kC_at158 (by decide) rfl 0 (by decide) (List.mem_cons_of_mem _ uw_6_6) rfl rfl dX10_canDo_2 ?_
  refine tk_getO hC hK hw hT hinX5 kC_at38 (by decide) rfl 3 (by decide) (List.mem_cons_of_mem _ uw_60_16) rfl rfl dX10_canDo_5 ?_
  refine lv_iload_n hx hb dX10_canDo_8 rfl (lv_at hl 1 rfl) ?_
  refine tk_iald hC hK hw hT kC_at50 rfl rfl (show 0 ≤ a1.toInt from ra1) (show a1.toInt < 6 from Int.lt_of_le_of_lt ta1 (by decide)) dX10_canDo_9 (fun x1 c2 rx1 tx1 => ?_)
  refine tk_Vi hC hK hw hT hA hE hSR kC_at158 (by decide) rfl (k_X10_cornersFrom_1 l adK adV dC dI cy ad B (by omega) (by omega) qr s1   x1 (show 0 ≤ x1.toInt from rx1) (show x1.toInt ≤ 9 from tx1) w0 s.heap.size hT ) (cwV 1 hC.2.2.2.2 uV_RX10_60 rfl rfl rfl (by decide +kernel) ⟨Nat.le_of_ble_eq_true rfl, Nat.le_of_ble_eq_true rfl⟩) rfl hl.1 rfl (Nat.le_of_ble_eq_true rfl) dX10_canDo_10 (fun r3 w5 H locs hp4 hw => ?_)
  obtain ⟨hT, k6, hg9⟩ := hp4
  have hF := hF.tr k6 (by decide)
  obtain ⟨g7, g8⟩ := hg9
  refine lv_aload_n hx hb dX10_canDo_13 rfl (lv_at hl 0 rfl) ?_
  refine tk_getA hC hK hw hT hinX10 kC_at158 (by decide) rfl 0 (by decide) (List.mem_cons_of_mem _ uw_6_6) rfl rfl dX10_canDo_14 ?_
  refine tk_getO hC hK hw hT hinX5 kC_at38 (by decide) rfl 4 (by decide) (List.mem_cons_of_mem _ uw_60_17) rfl rfl dX10_canDo_17 ?_
  refine lv_iload_n hx hb dX10_canDo_20 rfl (lv_at hl 1 rfl) ?_
  refine tk_iald hC hK hw hT kC_at51 rfl rfl (show 0 ≤ a1.toInt from ra1) (show a1.toInt < 6 from Int.lt_of_le_of_lt ta1 (by decide)) dX10_canDo_21 (fun x10 c11 rx10 tx10 => ?_)
  refine lv_ishr hx hb dX10_canDo_22 ?_
  refine lv_topi (fun x12 ex12 => ?_)
  have bx12 : 0 ≤ x12.toInt ∧ x12.toInt ≤ r3.toInt := by rw [ex12]; exact wk_shr (by omega)
  refine lv_iconst (v := 1) hx hb dX10_canDo_23 (by decide) ?_
  refine lv_iand hx hb dX10_canDo_24 ?_
  refine lv_topi (fun x13 ex13 => ?_)
  have bx13 : 0 ≤ x13.toInt ∧ x13.toInt ≤ (1 : Int) := by rw [ex13]; exact wk_and (by decide)
  refine lv_if_eq (tgt := 32) hx hb dX10_canDo_25 (by decide) (fun c14 => ?_) (fun c14 => ?_)
  · have c14 : x13.toInt = (0 : Int) := wk_eq.mp c14
    refine lv_iconst (v := 0) hx hb dX10_canDo_32 (by decide) ?_
    exact tk_zret hC hr rfl hlocks hK ⟨hT, hF, (Or.inl rfl)⟩ hw dX10_canDo_33
  · have c14 : ¬ x13.toInt = (0 : Int) := wk_eqF c14
    refine lv_iconst (v := 1) hx hb dX10_canDo_28 (by decide) ?_
    refine lv_goto (tgt := 33) hx hb dX10_canDo_29 (by decide) ?_
    exact tk_zret hC hr rfl hlocks hK ⟨hT, hF, (Or.inr rfl)⟩ hw dX10_canDo_33
abbrev P_X10_findClash_1 (ad : Nat → Nat) (cy : Nat → ClassId) (B : Int) (qr : Nat) (s1 : Int)  (w0 : va_W) : Int32 → va_W → Prop := fun r u => TW ksC ad cy B qr s1 u ∧ FE ksC [(51, 0, 10)] w0 u ∧ ((0 ≤ r.toInt ∧ r.toInt ≤ 127))
set_option maxHeartbeats 4000000 in
set_option maxRecDepth 100000 in
theorem k_X10_findClash_1 (l : Launch) (adK adV : Nat → Nat) (dC : Nat → ClassId) (dI : Nat → Nat → Nat) (cy : Nat → ClassId) (ad : Nat → Nat) (B : Int) (hB0 : 2147483648 ≤ B) (hB1 : B ≤ 1152921504606846976) (qr : Nat) (s1 : Int)   (w0 : va_W) (sz : Nat) (hT : TW ksC ad cy B qr s1 w0)  : Met l yX10_findClash (wu yX10_findClash cX10_findClash 4 (some .int)) ({ frames := 3, cells := 0, slots := 0, locals := 65 }) (va_Pc [.ref (ad 158)] (wpreS adK adV dC dI cy sz w0)) (va_Qi (P_X10_findClash_1 ad cy B qr s1  w0) (fun u : va_W => wpost dC dI cy (va_A w0 sz) u) (va_A w0 sz)) 0 0 (va_A w0 sz) := by
  refine Met.ofW (cc := cX10_findClash) (maxL := 4) (ret := (some .int)) (by decide) rfl ?_
  intro p e s m args below meth c s₁ Bk hml hv
  obtain ⟨rfl, ⟨hsz, hP, hK, hD0⟩, hE, hSR⟩ := hv
  have hx := Bk.exec
  have hb := Bk.bytes
  have hr := Bk.returns
  have hlocks := Bk.notSynchronized
  have hC : CallFix p m c cX10_findClash 4 s _ (wu yX10_findClash cX10_findClash 4 (some .int)) RX10 := ⟨hx, hb, hml, findClass_of_methodNamed Bk.named, atoms_spec (ws := (wu yX10_findClash cX10_findClash 4 (some .int))) Bk.pre⟩
  subst hsz
  have hD := hD0.self (sz := s.heap.size)
  generalize hAe : va_A w0 s.heap.size = A at hD hE ⊢
  have hA : ∀ q : Nat, s.heap.size ≤ q → A q := fun q h => by rw [← hAe]; exact Or.inr h
  have hw : Wd dC dI A s.heap s.heap [] w0 := ⟨hP, hD, va_S.rf⟩
  have hF : FE ksC [(51, 0, 10)] w0 w0 := FE.rf
  have hl := lv_entry ([.ref (ad 158)]) (n := 4) (Nat.le_of_ble_eq_true rfl)
  rw [lg_entry_eq]
  generalize (lg_sl ([.ref (ad 158)]) ++ List.replicate (4 - (lg_sl ([.ref (ad 158)])).length) Slot.unset).toArray = ls at hl ⊢
  have hl : lv_has ls 4 [(0, .ref (ad 158))] := hl
  generalize hloc : ([] : List Loc) = locs at hw ⊢
  have hinX10 : ∀ w ∈ u_ws RX10 TX10 5, w ∈ (wu yX10_findClash cX10_findClash 4 (some .int)) := fun _ h => List.mem_cons_of_mem _ (up_81 h)
  have hinX5 : ∀ w ∈ u_ws RX5 TX5 14, w ∈ (wu yX10_findClash cX10_findClash 4 (some .int)) := fun _ h => List.mem_cons_of_mem _ (up_76 h)
  have L45 : ∀ (n45 : Nat) (v45_1 : Int32) (v45_2 : Int32) (f45_158_4 : Int32) (f45_38_10 : Int32) (H : Heap) (locs : List Loc) (ls : Array Slot) (w1 : va_W), 0 ≤ v45_1.toInt → v45_1.toInt ≤ 127 → 0 ≤ v45_2.toInt → v45_2.toInt ≤ 12 → 0 ≤ f45_158_4.toInt → f45_158_4.toInt ≤ 12 → 0 ≤ f45_38_10.toInt → f45_38_10.toInt ≤ 6 → (12 - v45_2.toInt).toNat < n45 → Wd dC dI A s.heap H locs w1 → TW ksC ad cy B qr s1 w1 → FE ksC [(51, 0, 10)] w0 w1 → gi w1 158 4 = f45_158_4 → gi w1 38 10 = f45_38_10 → lv_has ls 4 [(0, .ref (ad 158)), (1, .int v45_1), (2, .int v45_2)] → W p l e ({ frames := 3, cells := 0, slots := 0, locals := 65 }) s m (List.toArray [.ref (ad 158)]) below meth c H locs 0 0 (MQ below (va_Qi (P_X10_findClash_1 ad cy B qr s1  w0) (fun u : va_W => wpost dC dI cy A u) A) (List.toArray [.ref (ad 158)]) s 0 0 A) (F0 m 45 ls []) := by
    intro n45
    induction n45 with
    | zero => intro v45_1 v45_2 f45_158_4 f45_38_10 H locs ls w1 r2 t3 r4 t5 r6 t7 r9 t10 hm45 hw hT hF c8 c11 hl; omega
    | succ n45 ih45 =>
      intro v45_1 v45_2 f45_158_4 f45_38_10 H locs ls w1 r2 t3 r4 t5 r6 t7 r9 t10 hm45 hw hT hF c8 c11 hl
      have J74 : ∀ (v74_1 : Int32) (v74_3 : Int32) (H : Heap) (locs : List Loc) (ls : Array Slot) (w12 : va_W), 0 ≤ v74_1.toInt → v74_1.toInt ≤ 127 → 0 ≤ v45_2.toInt → v45_2.toInt ≤ 11 → 0 ≤ v74_3.toInt → v74_3.toInt ≤ 127 → 1 ≤ f45_158_4.toInt → f45_158_4.toInt ≤ 12 → 0 ≤ f45_38_10.toInt → f45_38_10.toInt ≤ 6 → Wd dC dI A s.heap H locs w12 → TW ksC ad cy B qr s1 w12 → FE ksC [(51, 0, 10)] w0 w12 → gi w12 158 4 = f45_158_4 → gi w12 38 10 = f45_38_10 → lv_has ls 4 [(0, .ref (ad 158)), (1, .int v74_1), (2, .int v45_2), (3, .int v74_3)] → W p l e ({ frames := 3, cells := 0, slots := 0, locals := 65 }) s m (List.toArray [.ref (ad 158)]) below meth c H locs 0 0 (MQ below (va_Qi (P_X10_findClash_1 ad cy B qr s1  w0) (fun u : va_W => wpost dC dI cy A u) A) (List.toArray [.ref (ad 158)]) s 0 0 A) (F0 m 74 ls []) := by
        intro v74_1 v74_3 H locs ls w12 r13 t14 r15 t16 r17 t18 r19 t20 r22 t23 hw hT hF c21 c24 hl
        obtain ⟨x25, ex25⟩ : ∃ y : Int32, y = v45_2 + Int32.ofInt 1 := ⟨_, rfl⟩
        refine lv_iinc (v := x25) (lv' := [(2, .int x25), (0, .ref (ad 158)), (1, .int v74_1), (3, .int v74_3)]) hx hb dX10_findClash_74 hl (k := 2) rfl ex25.symm (by decide) rfl (fun ls hl => ?_)
        have ex25 : x25.toInt = v45_2.toInt + 1 := by rw [ex25]; exact wk_add (y := 1) (show -2147483648 ≤ v45_2.toInt + 1 by omega) (show v45_2.toInt + 1 ≤ 2147483647 by omega)
        refine lv_goto (tgt := 45) hx hb dX10_findClash_77 (by decide) ?_
        exact ih45 v74_1 x25 f45_158_4 f45_38_10 H locs ls w12 (show 0 ≤ v74_1.toInt from r13) (show v74_1.toInt ≤ 127 from t14) (show 0 ≤ x25.toInt by omega) (show x25.toInt ≤ 12 by omega) (show 0 ≤ f45_158_4.toInt from r6) (show f45_158_4.toInt ≤ 12 from t20) (show 0 ≤ f45_38_10.toInt from r22) (show f45_38_10.toInt ≤ 6 from t23) (show (12 - x25.toInt).toNat < n45 by omega) hw hT hF c21 c24 (lv_sub hl [1, 2, 0] rfl)
      have J72 : ∀ (v72_3 : Int32) (H : Heap) (locs : List Loc) (ls : Array Slot) (w26 : va_W), 0 ≤ v45_1.toInt → v45_1.toInt ≤ 127 → 0 ≤ v45_2.toInt → v45_2.toInt ≤ 11 → 1 ≤ v72_3.toInt → v72_3.toInt ≤ 127 → 1 ≤ f45_158_4.toInt → f45_158_4.toInt ≤ 12 → 0 ≤ f45_38_10.toInt → f45_38_10.toInt ≤ 6 → Wd dC dI A s.heap H locs w26 → TW ksC ad cy B qr s1 w26 → FE ksC [(51, 0, 10)] w0 w26 → gi w26 158 4 = f45_158_4 → gi w26 38 10 = f45_38_10 → lv_has ls 4 [(0, .ref (ad 158)), (1, .int v45_1), (2, .int v45_2), (3, .int v72_3)] → W p l e ({ frames := 3, cells := 0, slots := 0, locals := 65 }) s m (List.toArray [.ref (ad 158)]) below meth c H locs 0 0 (MQ below (va_Qi (P_X10_findClash_1 ad cy B qr s1  w0) (fun u : va_W => wpost dC dI cy A u) A) (List.toArray [.ref (ad 158)]) s 0 0 A) (F0 m 72 ls []) := by
        intro v72_3 H locs ls w26 r27 t28 r29 t30 r31 t32 r33 t34 r36 t37 hw hT hF c35 c38 hl
        refine lv_iload_n hx hb dX10_findClash_72 rfl (lv_at hl 3 rfl) ?_
        refine lv_istore_n (lv' := [(1, .int v72_3), (0, .ref (ad 158)), (2, .int v45_2), (3, .int v72_3)]) hx hb dX10_findClash_73 rfl hl (by decide) rfl (fun ls hl => ?_)
        exact J74 v72_3 v72_3 H locs ls w26 (show 0 ≤ v72_3.toInt from Int.le_trans (by decide) r31) (show v72_3.toInt ≤ 127 from t32) (show 0 ≤ v45_2.toInt from r29) (show v45_2.toInt ≤ 11 from t30) (show 0 ≤ v72_3.toInt from Int.le_trans (by decide) r31) (show v72_3.toInt ≤ 127 from t32) (show 1 ≤ f45_158_4.toInt from r33) (show f45_158_4.toInt ≤ 12 from t34) (show 0 ≤ f45_38_10.toInt from r36) (show f45_38_10.toInt ≤ 6 from t37)  hw hT hF c35 c38 (lv_sub hl [1, 0, 2, 3] rfl)
      refine lv_iload_n hx hb dX10_findClash_45 rfl (lv_at hl 2 rfl) ?_
      refine lv_aload_n hx hb dX10_findClash_46 rfl (lv_at hl 0 rfl) ?_
      refine tk_geti hC hK hw hT hinX10 kC_at158 (by decide) rfl 4 (by decide) (List.mem_cons_of_mem _ uw_59_23) rfl rfl dX10_findClash_47 (fun x39 c40 rx39 tx39 => ?_)
      refine wk_top f45_158_4 (c40.symm.trans c8) ?_
      refine lv_icmp_ge (tgt := 80) hx hb dX10_findClash_50 (by decide) (fun c41 => ?_) (fun c41 => ?_)
      · have c41 : f45_158_4.toInt ≤ v45_2.toInt := wk_le.mp c41
        refine lv_iload_n hx hb dX10_findClash_80 rfl (lv_at hl 1 rfl) ?_
        exact tk_iret hC hr hlocks hK ⟨hT, hF, ⟨(show 0 ≤ v45_1.toInt from r2), (show v45_1.toInt ≤ 127 from t3)⟩⟩ hw dX10_findClash_81
      · have c41 : v45_2.toInt < f45_158_4.toInt := wk_leF c41
        refine lv_aload_n hx hb dX10_findClash_53 rfl (lv_at hl 0 rfl) ?_
        refine lv_iload_n hx hb dX10_findClash_54 rfl (lv_at hl 2 rfl) ?_
        refine tk_Vi hC hK hw hT hA hE hSR kC_at158 (by decide) rfl (k_X10_oddsOver_1 l adK adV dC dI cy ad B (by omega) (by omega) qr s1   v45_2 (show 0 ≤ v45_2.toInt from r4) (show v45_2.toInt ≤ 11 by omega) w1 H.size hT ) (cwV 1 hC.2.2.2.2 uV_RX10_53 rfl rfl rfl (by decide +kernel) ⟨Nat.le_of_ble_eq_true rfl, Nat.le_of_ble_eq_true rfl⟩) rfl hl.1 rfl (Nat.le_of_ble_eq_true rfl) dX10_findClash_55 (fun r42 w44 H locs hp43 hw => ?_)
        obtain ⟨hT, k45, hg48⟩ := hp43
        have hF := hF.tr k45 (by decide)
        have c49 := k45.gi kC_at158 (by decide) c8
        have c50 := k45.gi kC_at38 (by decide) c11
        obtain ⟨g46, g47⟩ := hg48
        refine lv_istore_n (lv' := [(3, .int r42), (0, .ref (ad 158)), (1, .int v45_1), (2, .int v45_2)]) hx hb dX10_findClash_58 rfl hl (by decide) rfl (fun ls hl => ?_)
        refine lv_iload_n hx hb dX10_findClash_59 rfl (lv_at hl 0 rfl) ?_
        refine lv_if_eq (tgt := 74) hx hb dX10_findClash_60 (by decide) (fun c51 => ?_) (fun c51 => ?_)
        · have c51 : r42.toInt = (0 : Int) := wk_eq.mp c51
          exact J74 v45_1 r42 H locs ls w44 (show 0 ≤ v45_1.toInt from r2) (show v45_1.toInt ≤ 127 from t3) (show 0 ≤ v45_2.toInt from r4) (show v45_2.toInt ≤ 11 by omega) (show 0 ≤ r42.toInt by omega) (show r42.toInt ≤ 127 by omega) (show 1 ≤ f45_158_4.toInt by omega) (show f45_158_4.toInt ≤ 12 from t7) (show 0 ≤ f45_38_10.toInt from r9) (show f45_38_10.toInt ≤ 6 from t10)  hw hT hF c49 c50 (lv_sub hl [1, 2, 3, 0] rfl)
        · have c51 : ¬ r42.toInt = (0 : Int) := wk_eqF c51
          refine lv_iload_n hx hb dX10_findClash_63 rfl (lv_at hl 2 rfl) ?_
          refine lv_if_eq (tgt := 72) hx hb dX10_findClash_64 (by decide) (fun c52 => ?_) (fun c52 => ?_)
          · have c52 : v45_1.toInt = (0 : Int) := wk_eq.mp c52
            exact J72 r42 H locs ls w44 (show 0 ≤ v45_1.toInt from r2) (show v45_1.toInt ≤ 127 from t3) (show 0 ≤ v45_2.toInt from r4) (show v45_2.toInt ≤ 11 by omega) (show 1 ≤ r42.toInt by omega) (show r42.toInt ≤ 127 by omega) (show 1 ≤ f45_158_4.toInt by omega) (show f45_158_4.toInt ≤ 12 from t7) (show 0 ≤ f45_38_10.toInt from r9) (show f45_38_10.toInt ≤ 6 from t10)  hw hT hF c49 c50 (lv_sub hl [1, 2, 3, 0] rfl)
          · have c52 : ¬ v45_1.toInt = (0 : Int) := wk_eqF c52
            refine lv_iload_n hx hb dX10_findClash_67 rfl (lv_at hl 0 rfl) ?_
            refine lv_iload_n hx hb dX10_findClash_68 rfl (lv_at hl 2 rfl) ?_
            refine lv_icmp_ge (tgt := 74) hx hb dX10_findClash_69 (by decide) (fun c53 => ?_) (fun c53 => ?_)
            · have c53 : v45_1.toInt ≤ r42.toInt := wk_le.mp c53
              exact J74 v45_1 r42 H locs ls w44 (show 0 ≤ v45_1.toInt from r2) (show v45_1.toInt ≤ 127 from t3) (show 0 ≤ v45_2.toInt from r4) (show v45_2.toInt ≤ 11 by omega) (show 0 ≤ r42.toInt by omega) (show r42.toInt ≤ 127 by omega) (show 1 ≤ f45_158_4.toInt by omega) (show f45_158_4.toInt ≤ 12 from t7) (show 0 ≤ f45_38_10.toInt from r9) (show f45_38_10.toInt ≤ 6 from t10)  hw hT hF c49 c50 (lv_sub hl [1, 2, 3, 0] rfl)
            · have c53 : r42.toInt < v45_1.toInt := wk_leF c53
              exact J72 r42 H locs ls w44 (show 0 ≤ v45_1.toInt from r2) (show v45_1.toInt ≤ 127 from t3) (show 0 ≤ v45_2.toInt from r4) (show v45_2.toInt ≤ 11 by omega) (show 1 ≤ r42.toInt by omega) (show r42.toInt ≤ 127 by omega) (show 1 ≤ f45_158_4.toInt by omega) (show f45_158_4.toInt ≤ 12 from t7) (show 0 ≤ f45_38_10.toInt from r9) (show f45_38_10.toInt ≤ 6 from t10)  hw hT hF c49 c50 (lv_sub hl [1, 2, 3, 0] rfl)
  have L12 : ∀ (n12 : Nat) (v12_1 : Int32) (f12_158_4 : Int32) (H : Heap) (locs : List Loc) (ls : Array Slot) (w54 : va_W), 0 ≤ v12_1.toInt → v12_1.toInt ≤ 6 → 0 ≤ f12_158_4.toInt → f12_158_4.toInt ≤ 12 → (6 - v12_1.toInt).toNat < n12 → Wd dC dI A s.heap H locs w54 → TW ksC ad cy B qr s1 w54 → FE ksC [(51, 0, 10)] w0 w54 → gi w54 158 4 = f12_158_4 → lv_has ls 4 [(0, .ref (ad 158)), (1, .int v12_1)] → W p l e ({ frames := 3, cells := 0, slots := 0, locals := 65 }) s m (List.toArray [.ref (ad 158)]) below meth c H locs 0 0 (MQ below (va_Qi (P_X10_findClash_1 ad cy B qr s1  w0) (fun u : va_W => wpost dC dI cy A u) A) (List.toArray [.ref (ad 158)]) s 0 0 A) (F0 m 12 ls []) := by
    intro n12
    induction n12 with
    | zero => intro v12_1 f12_158_4 H locs ls w54 r55 t56 r57 t58 hm12 hw hT hF c59 hl; omega
    | succ n12 ih12 =>
      intro v12_1 f12_158_4 H locs ls w54 r55 t56 r57 t58 hm12 hw hT hF c59 hl
      refine lv_iload_n hx hb dX10_findClash_12 rfl (lv_at hl 1 rfl) ?_
      refine lv_aload_n hx hb dX10_findClash_13 rfl (lv_at hl 0 rfl) ?_
      refine tk_getA hC hK hw hT hinX10 kC_at158 (by decide) rfl 0 (by decide) (List.mem_cons_of_mem _ uw_6_6) rfl rfl dX10_findClash_14 ?_
      refine tk_geti hC hK hw hT hinX5 kC_at38 (by decide) rfl 10 (by decide) (List.mem_cons_of_mem _ uw_60_6) rfl rfl dX10_findClash_17 (fun x60 c61 rx60 tx60 => ?_)
      refine lv_icmp_ge (tgt := 41) hx hb dX10_findClash_20 (by decide) (fun c62 => ?_) (fun c62 => ?_)
      · have c62 : x60.toInt ≤ v12_1.toInt := wk_le.mp c62
        refine lv_iconst (v := 0) hx hb dX10_findClash_41 (by decide) ?_
        refine lv_istore_n (lv' := [(1, .int 0), (0, .ref (ad 158))]) hx hb dX10_findClash_42 rfl hl (by decide) rfl (fun ls hl => ?_)
        refine lv_iconst (v := 0) hx hb dX10_findClash_43 (by decide) ?_
        refine lv_istore_n (lv' := [(2, .int 0), (1, .int 0), (0, .ref (ad 158))]) hx hb dX10_findClash_44 rfl hl (by decide) rfl (fun ls hl => ?_)
        exact L45 ((12 - (0 : Int)).toNat + 1) 0 0 f12_158_4 x60 H locs ls w54 (by decide) (by decide) (by decide) (by decide) (show 0 ≤ f12_158_4.toInt from r57) (show f12_158_4.toInt ≤ 12 from t58) (show 0 ≤ x60.toInt from rx60) (show x60.toInt ≤ 6 from tx60) (Nat.lt_succ_self _) hw hT hF c59 c61 (lv_sub hl [2, 1, 0] rfl)
      · have c62 : v12_1.toInt < x60.toInt := wk_leF c62
        refine lv_aload_n hx hb dX10_findClash_23 rfl (lv_at hl 0 rfl) ?_
        refine lv_iload_n hx hb dX10_findClash_24 rfl (lv_at hl 1 rfl) ?_
        refine tk_Vi hC hK hw hT hA hE hSR kC_at158 (by decide) rfl (k_X10_canDo_1 l adK adV dC dI cy ad B (by omega) (by omega) qr s1   v12_1 (show 0 ≤ v12_1.toInt from r55) (show v12_1.toInt ≤ 5 by omega) w54 H.size hT ) (cwV 1 hC.2.2.2.2 uV_RX10_49 rfl rfl rfl (by decide +kernel) ⟨Nat.le_of_ble_eq_true rfl, Nat.le_of_ble_eq_true rfl⟩) rfl hl.1 rfl (Nat.le_of_ble_eq_true rfl) dX10_findClash_25 (fun r63 w65 H locs hp64 hw => ?_)
        obtain ⟨hT, k66, hg67⟩ := hp64
        have hF := hF.tr k66 (by decide)
        have c68 := k66.gi kC_at158 (by decide) c59
        have c69 := k66.gi kC_at38 (by decide) c61
        rcases hg67 with rfl | rfl
        · refine lv_if_ne (tgt := 35) hx hb dX10_findClash_28 (by decide) (fun c => absurd (by decide) c) (fun _ => ?_)
          refine lv_iconst (v := 1) hx hb dX10_findClash_31 (by decide) ?_
          refine lv_iload_n hx hb dX10_findClash_32 rfl (lv_at hl 1 rfl) ?_
          refine lv_ishl hx hb dX10_findClash_33 ?_
          refine lv_topi (fun x70 ex70 => ?_)
          have bx70 : 1 ≤ x70.toInt ∧ x70.toInt ≤ 32 := by rw [ex70]; exact wk_shl1 5 (by decide) (by omega) (by omega)
          exact tk_iret hC hr hlocks hK ⟨hT, hF, ⟨(show 0 ≤ x70.toInt by omega), (show x70.toInt ≤ 127 by omega)⟩⟩ hw dX10_findClash_34
        · refine lv_if_ne (tgt := 35) hx hb dX10_findClash_28 (by decide) (fun _ => ?_) (fun c => absurd c (by decide))
          obtain ⟨x71, ex71⟩ : ∃ y : Int32, y = v12_1 + Int32.ofInt 1 := ⟨_, rfl⟩
          refine lv_iinc (v := x71) (lv' := [(1, .int x71), (0, .ref (ad 158))]) hx hb dX10_findClash_35 hl (k := 1) rfl ex71.symm (by decide) rfl (fun ls hl => ?_)
          have ex71 : x71.toInt = v12_1.toInt + 1 := by rw [ex71]; exact wk_add (y := 1) (show -2147483648 ≤ v12_1.toInt + 1 by omega) (show v12_1.toInt + 1 ≤ 2147483647 by omega)
          refine lv_goto (tgt := 12) hx hb dX10_findClash_38 (by decide) ?_
          exact ih12 x71 f12_158_4 H locs ls w65 (show 0 ≤ x71.toInt by omega) (show x71.toInt ≤ 6 by omega) (show 0 ≤ f12_158_4.toInt from r57) (show f12_158_4.toInt ≤ 12 from t58) (show (6 - x71.toInt).toNat < n12 by omega) hw hT hF c68 (lv_sub hl [1, 0] rfl)
  refine lv_aload_n hx hb dX10_findClash_0 rfl (lv_at hl 0 rfl) ?_
  refine lv_aload_n hx hb dX10_findClash_1 rfl (lv_at hl 0 rfl) ?_
  refine tk_geti hC hK hw hT hinX10 kC_at158 (by decide) rfl 4 (by decide) (List.mem_cons_of_mem _ uw_59_23) rfl rfl dX10_findClash_2 (fun x72 c73 rx72 tx72 => ?_)
  refine lv_iconst (v := 0) hx hb dX10_findClash_5 (by decide) ?_
  refine lv_iconst (v := (-1)) hx hb dX10_findClash_6 (by decide) ?_
  refine tk_Vv hC hK hw hT hA hE hSR kC_at158 (by decide) rfl (k_X10_layRoads_1 l adK adV dC dI cy ad B (by omega) (by omega) qr s1   x72 (show 0 ≤ x72.toInt from rx72) (show x72.toInt ≤ 12 from tx72) 0 (by decide) (by decide) ((-1)) (by decide) (by decide) w0 s.heap.size hT ) (cwV 3 hC.2.2.2.2 uV_RX10_42 rfl rfl rfl (by decide +kernel) ⟨Nat.le_of_ble_eq_true rfl, Nat.le_of_ble_eq_true rfl⟩) rfl hl.1 rfl (Nat.le_of_ble_eq_true rfl) dX10_findClash_7 (fun w76 H locs hp75 hw => ?_)
  obtain ⟨hT, k77, hg78⟩ := hp75
  have hF := hF.tr k77 (by decide)
  have c79 := k77.gi kC_at158 (by decide) c73
  clear hg78
  refine lv_iconst (v := 0) hx hb dX10_findClash_10 (by decide) ?_
  refine lv_istore_n (lv' := [(1, .int 0), (0, .ref (ad 158))]) hx hb dX10_findClash_11 rfl hl (by decide) rfl (fun ls hl => ?_)
  exact L12 ((6 - (0 : Int)).toNat + 1) 0 x72 H locs ls w76 (by decide) (by decide) (show 0 ≤ x72.toInt from rx72) (show x72.toInt ≤ 12 from tx72) (Nat.lt_succ_self _) hw hT hF c79 (lv_sub hl [1, 0] rfl)
abbrev P_X10_leastBelow_13 (ad : Nat → Nat) (cy : Nat → ClassId) (B : Int) (qr : Nat) (s1 : Int) (a2 : Int32) (w0 : va_W) : Int32 → va_W → Prop := fun r u => TW ksC ad cy B qr s1 u ∧ FE ksC [(51, 0, 10)] w0 u ∧ ((0 ≤ r.toInt ∧ r.toInt ≤ 8191) ∨ (r = (-1) ∧ (∃ y : Int32, gi u 38 10 = y ∧ 1 ≤ y.toInt ∧ y.toInt ≤ 6)))
set_option maxHeartbeats 4000000 in
set_option maxRecDepth 100000 in
theorem k_X10_leastBelow_13 (l : Launch) (adK adV : Nat → Nat) (dC : Nat → ClassId) (dI : Nat → Nat → Nat) (cy : Nat → ClassId) (ad : Nat → Nat) (B : Int) (hB0 : 2147483648 ≤ B) (hB1 : B ≤ 1152921504606846976) (qr : Nat) (s1 : Int)  (a2 : Int32) (ra2 : 0 ≤ a2.toInt) (ta2 : a2.toInt ≤ 8191) (w0 : va_W) (sz : Nat) (hT : TW ksC ad cy B qr s1 w0)  : Met l yX10_leastBelow (wu yX10_leastBelow cX10_leastBelow 4 (some .int)) ({ frames := 3, cells := 0, slots := 0, locals := 59 }) (va_Pc [.ref (ad 158), .int 0, .int a2] (wpreS adK adV dC dI cy sz w0)) (va_Qi (P_X10_leastBelow_13 ad cy B qr s1 a2 w0) (fun u : va_W => wpost dC dI cy (va_A w0 sz) u) (va_A w0 sz)) 0 0 (va_A w0 sz) := by
  refine Met.ofW (cc := cX10_leastBelow) (maxL := 4) (ret := (some .int)) (by decide) rfl ?_
  intro p e s m args below meth c s₁ Bk hml hv
  obtain ⟨rfl, ⟨hsz, hP, hK, hD0⟩, hE, hSR⟩ := hv
  have hx := Bk.exec
  have hb := Bk.bytes
  have hr := Bk.returns
  have hlocks := Bk.notSynchronized
  have hC : CallFix p m c cX10_leastBelow 4 s _ (wu yX10_leastBelow cX10_leastBelow 4 (some .int)) RX10 := ⟨hx, hb, hml, findClass_of_methodNamed Bk.named, atoms_spec (ws := (wu yX10_leastBelow cX10_leastBelow 4 (some .int))) Bk.pre⟩
  subst hsz
  have hD := hD0.self (sz := s.heap.size)
  generalize hAe : va_A w0 s.heap.size = A at hD hE ⊢
  have hA : ∀ q : Nat, s.heap.size ≤ q → A q := fun q h => by rw [← hAe]; exact Or.inr h
  have hw : Wd dC dI A s.heap s.heap [] w0 := ⟨hP, hD, va_S.rf⟩
  have hF : FE ksC [(51, 0, 10)] w0 w0 := FE.rf
  have hl := lv_entry ([.ref (ad 158), .int 0, .int a2]) (n := 4) (Nat.le_of_ble_eq_true rfl)
  rw [lg_entry_eq]
  generalize (lg_sl ([.ref (ad 158), .int 0, .int a2]) ++ List.replicate (4 - (lg_sl ([.ref (ad 158), .int 0, .int a2])).length) Slot.unset).toArray = ls at hl ⊢
  have hl : lv_has ls 4 [(0, .ref (ad 158)), (1, .int 0), (2, .int a2)] := hl
  generalize hloc : ([] : List Loc) = locs at hw ⊢
  have hinX10 : ∀ w ∈ u_ws RX10 TX10 5, w ∈ (wu yX10_leastBelow cX10_leastBelow 4 (some .int)) := fun _ h => List.mem_cons_of_mem _ (up_81 h)
  have hinX5 : ∀ w ∈ u_ws RX5 TX5 14, w ∈ (wu yX10_leastBelow cX10_leastBelow 4 (some .int)) := fun _ h => List.mem_cons_of_mem _ (up_76 h)
  have L9 : ∀ (n9 : Nat) (v9_3 : Int32) (H : Heap) (locs : List Loc) (ls : Array Slot) (w1 : va_W), 0 ≤ a2.toInt → a2.toInt ≤ 8191 → 0 ≤ v9_3.toInt → v9_3.toInt ≤ 6 → (6 - v9_3.toInt).toNat < n9 → Wd dC dI A s.heap H locs w1 → TW ksC ad cy B qr s1 w1 → FE ksC [(51, 0, 10)] w0 w1 → lv_has ls 4 [(0, .ref (ad 158)), (1, .int 0), (2, .int a2), (3, .int v9_3)] → W p l e ({ frames := 3, cells := 0, slots := 0, locals := 59 }) s m (List.toArray [.ref (ad 158), .int 0, .int a2]) below meth c H locs 0 0 (MQ below (va_Qi (P_X10_leastBelow_13 ad cy B qr s1 a2 w0) (fun u : va_W => wpost dC dI cy A u) A) (List.toArray [.ref (ad 158), .int 0, .int a2]) s 0 0 A) (F0 m 9 ls []) := by
    intro n9
    induction n9 with
    | zero => intro v9_3 H locs ls w1 r2 t3 r4 t5 hm9 hw hT hF hl; omega
    | succ n9 ih9 =>
      intro v9_3 H locs ls w1 r2 t3 r4 t5 hm9 hw hT hF hl
      refine lv_iload_n hx hb dX10_leastBelow_9 rfl (lv_at hl 3 rfl) ?_
      refine lv_aload_n hx hb dX10_leastBelow_10 rfl (lv_at hl 0 rfl) ?_
      refine tk_getA hC hK hw hT hinX10 kC_at158 (by decide) rfl 0 (by decide) (List.mem_cons_of_mem _ uw_6_6) rfl rfl dX10_leastBelow_11 ?_
      refine tk_geti hC hK hw hT hinX5 kC_at38 (by decide) rfl 10 (by decide) (List.mem_cons_of_mem _ uw_60_6) rfl rfl dX10_leastBelow_14 (fun x6 c7 rx6 tx6 => ?_)
      refine lv_icmp_ge (tgt := 36) hx hb dX10_leastBelow_17 (by decide) (fun c8 => ?_) (fun c8 => ?_)
      · have c8 : x6.toInt ≤ v9_3.toInt := wk_le.mp c8
        refine lv_iload_n hx hb dX10_leastBelow_36 rfl (lv_at hl 1 rfl) ?_
        refine lv_if_gt (tgt := 42) hx hb dX10_leastBelow_37 (by decide) (fun c => absurd c (by decide)) (fun _ => ?_)
        refine lv_iload_n hx hb dX10_leastBelow_40 rfl (lv_at hl 2 rfl) ?_
        exact tk_iret hC hr hlocks hK ⟨hT, hF, (Or.inl ⟨(show 0 ≤ a2.toInt from r2), (show a2.toInt ≤ 8191 from t3)⟩)⟩ hw dX10_leastBelow_41
      · have c8 : v9_3.toInt < x6.toInt := wk_leF c8
        refine lv_aload_n hx hb dX10_leastBelow_20 rfl (lv_at hl 0 rfl) ?_
        refine lv_iload_n hx hb dX10_leastBelow_21 rfl (lv_at hl 3 rfl) ?_
        refine tk_Vi hC hK hw hT hA hE hSR kC_at158 (by decide) rfl (k_X10_canDo_1 l adK adV dC dI cy ad B (by omega) (by omega) qr s1   v9_3 (show 0 ≤ v9_3.toInt from r4) (show v9_3.toInt ≤ 5 by omega) w1 H.size hT ) (cwV 1 hC.2.2.2.2 uV_RX10_49 rfl rfl rfl (by decide +kernel) ⟨Nat.le_of_ble_eq_true rfl, Nat.le_of_ble_eq_true rfl⟩) rfl hl.1 rfl (Nat.le_of_ble_eq_true rfl) dX10_leastBelow_22 (fun r9 w11 H locs hp10 hw => ?_)
        obtain ⟨hT, k12, hg13⟩ := hp10
        have hF := hF.tr k12 (by decide)
        have c14 := k12.gi kC_at38 (by decide) c7
        rcases hg13 with rfl | rfl
        · refine lv_if_ne (tgt := 30) hx hb dX10_leastBelow_25 (by decide) (fun c => absurd (by decide) c) (fun _ => ?_)
          refine lv_iconst (v := (-1)) hx hb dX10_leastBelow_28 (by decide) ?_
          exact tk_iret hC hr hlocks hK ⟨hT, hF, (Or.inr ⟨rfl, ⟨x6, c14, (show 1 ≤ x6.toInt by omega), (show x6.toInt ≤ 6 from tx6)⟩⟩)⟩ hw dX10_leastBelow_29
        · refine lv_if_ne (tgt := 30) hx hb dX10_leastBelow_25 (by decide) (fun _ => ?_) (fun c => absurd c (by decide))
          obtain ⟨x15, ex15⟩ : ∃ y : Int32, y = v9_3 + Int32.ofInt 1 := ⟨_, rfl⟩
          refine lv_iinc (v := x15) (lv' := [(3, .int x15), (0, .ref (ad 158)), (1, .int 0), (2, .int a2)]) hx hb dX10_leastBelow_30 hl (k := 3) rfl ex15.symm (by decide) rfl (fun ls hl => ?_)
          have ex15 : x15.toInt = v9_3.toInt + 1 := by rw [ex15]; exact wk_add (y := 1) (show -2147483648 ≤ v9_3.toInt + 1 by omega) (show v9_3.toInt + 1 ≤ 2147483647 by omega)
          refine lv_goto (tgt := 9) hx hb dX10_leastBelow_33 (by decide) ?_
          exact ih9 x15 H locs ls w11 (show 0 ≤ a2.toInt from r2) (show a2.toInt ≤ 8191 from t3) (show 0 ≤ x15.toInt by omega) (show x15.toInt ≤ 6 by omega) (show (6 - x15.toInt).toNat < n9 by omega) hw hT hF  (lv_sub hl [1, 2, 3, 0] rfl)
  refine lv_aload_n hx hb dX10_leastBelow_0 rfl (lv_at hl 0 rfl) ?_
  refine lv_iload_n hx hb dX10_leastBelow_1 rfl (lv_at hl 1 rfl) ?_
  refine lv_iload_n hx hb dX10_leastBelow_2 rfl (lv_at hl 2 rfl) ?_
  refine lv_iconst (v := (-1)) hx hb dX10_leastBelow_3 (by decide) ?_
  refine tk_Vv hC hK hw hT hA hE hSR kC_at158 (by decide) rfl (k_X10_layRoads_1 l adK adV dC dI cy ad B (by omega) (by omega) qr s1   0 (by decide) (by decide) a2 (show 0 ≤ a2.toInt from ra2) (show a2.toInt ≤ 8191 from ta2) ((-1)) (by decide) (by decide) w0 s.heap.size hT ) (cwV 3 hC.2.2.2.2 uV_RX10_42 rfl rfl rfl (by decide +kernel) ⟨Nat.le_of_ble_eq_true rfl, Nat.le_of_ble_eq_true rfl⟩) rfl hl.1 rfl (Nat.le_of_ble_eq_true rfl) dX10_leastBelow_4 (fun w18 H locs hp17 hw => ?_)
  obtain ⟨hT, k19, hg20⟩ := hp17
  have hF := hF.tr k19 (by decide)
  clear hg20
  refine lv_iconst (v := 0) hx hb dX10_leastBelow_7 (by decide) ?_
  refine lv_istore_n (lv' := [(3, .int 0), (0, .ref (ad 158)), (1, .int 0), (2, .int a2)]) hx hb dX10_leastBelow_8 rfl hl (by decide) rfl (fun ls hl => ?_)
  exact L9 ((6 - (0 : Int)).toNat + 1) 0 H locs ls w18 (show 0 ≤ a2.toInt from ra2) (show a2.toInt ≤ 8191 from ta2) (by decide) (by decide) (Nat.lt_succ_self _) hw hT hF  (lv_sub hl [1, 2, 3, 0] rfl)
abbrev P_X10_leastBelow_12 (ad : Nat → Nat) (cy : Nat → ClassId) (B : Int) (qr : Nat) (s1 : Int) (a1 : Int32) (a2 : Int32) (w0 : va_W) : Int32 → va_W → Prop := fun r u => TW ksC ad cy B qr s1 u ∧ FE ksC [(51, 0, 10)] w0 u ∧ ((0 ≤ r.toInt ∧ r.toInt ≤ 8191) ∨ (r = (-1) ∧ (∃ y : Int32, gi u 38 10 = y ∧ 1 ≤ y.toInt ∧ y.toInt ≤ 6)))
set_option maxHeartbeats 4000000 in
set_option maxRecDepth 100000 in
theorem k_X10_leastBelow_12 (l : Launch) (adK adV : Nat → Nat) (dC : Nat → ClassId) (dI : Nat → Nat → Nat) (cy : Nat → ClassId) (ad : Nat → Nat) (B : Int) (hB0 : 2147483648 ≤ B) (hB1 : B ≤ 1152921504606846976) (qr : Nat) (s1 : Int)  (a1 : Int32) (ra1 : 0 ≤ a1.toInt) (ta1 : a1.toInt ≤ 1) (a2 : Int32) (ra2 : 0 ≤ a2.toInt) (ta2 : a2.toInt ≤ 8191) (w0 : va_W) (sz : Nat) (hT : TW ksC ad cy B qr s1 w0)  : Met l yX10_leastBelow (wu yX10_leastBelow cX10_leastBelow 4 (some .int)) ({ frames := 4, cells := 0, slots := 0, locals := 82 }) (va_Pc [.ref (ad 158), .int a1, .int a2] (wpreS adK adV dC dI cy sz w0)) (va_Qi (P_X10_leastBelow_12 ad cy B qr s1 a1 a2 w0) (fun u : va_W => wpost dC dI cy (va_A w0 sz) u) (va_A w0 sz)) 0 0 (va_A w0 sz) := by
  refine Met.ofW (cc := cX10_leastBelow) (maxL := 4) (ret := (some .int)) (by decide) rfl ?_
  intro p e s m args below meth c s₁ Bk hml hv
  obtain ⟨rfl, ⟨hsz, hP, hK, hD0⟩, hE, hSR⟩ := hv
  have hx := Bk.exec
  have hb := Bk.bytes
  have hr := Bk.returns
  have hlocks := Bk.notSynchronized
  have hC : CallFix p m c cX10_leastBelow 4 s _ (wu yX10_leastBelow cX10_leastBelow 4 (some .int)) RX10 := ⟨hx, hb, hml, findClass_of_methodNamed Bk.named, atoms_spec (ws := (wu yX10_leastBelow cX10_leastBelow 4 (some .int))) Bk.pre⟩
  subst hsz
  have hD := hD0.self (sz := s.heap.size)
  generalize hAe : va_A w0 s.heap.size = A at hD hE ⊢
  have hA : ∀ q : Nat, s.heap.size ≤ q → A q := fun q h => by rw [← hAe]; exact Or.inr h
  have hw : Wd dC dI A s.heap s.heap [] w0 := ⟨hP, hD, va_S.rf⟩
  have hF : FE ksC [(51, 0, 10)] w0 w0 := FE.rf
  have hl := lv_entry ([.ref (ad 158), .int a1, .int a2]) (n := 4) (Nat.le_of_ble_eq_true rfl)
  rw [lg_entry_eq]
  generalize (lg_sl ([.ref (ad 158), .int a1, .int a2]) ++ List.replicate (4 - (lg_sl ([.ref (ad 158), .int a1, .int a2])).length) Slot.unset).toArray = ls at hl ⊢
  have hl : lv_has ls 4 [(0, .ref (ad 158)), (1, .int a1), (2, .int a2)] := hl
  generalize hloc : ([] : List Loc) = locs at hw ⊢
  have hinX10 : ∀ w ∈ u_ws RX10 TX10 5, w ∈ (wu yX10_leastBelow cX10_leastBelow 4 (some .int)) := fun _ h => List.mem_cons_of_mem _ (up_81 h)
  have hinX5 : ∀ w ∈ u_ws RX5 TX5 14, w ∈ (wu yX10_leastBelow cX10_leastBelow 4 (some .int)) := fun _ h => List.mem_cons_of_mem _ (up_76 h)
  have L9 : ∀ (n9 : Nat) (v9_3 : Int32) (H : Heap) (locs : List Loc) (ls : Array Slot) (w1 : va_W), 0 ≤ a1.toInt → a1.toInt ≤ 1 → 0 ≤ a2.toInt → a2.toInt ≤ 8191 → 0 ≤ v9_3.toInt → v9_3.toInt ≤ 6 → (6 - v9_3.toInt).toNat < n9 → Wd dC dI A s.heap H locs w1 → TW ksC ad cy B qr s1 w1 → FE ksC [(51, 0, 10)] w0 w1 → lv_has ls 4 [(0, .ref (ad 158)), (1, .int a1), (2, .int a2), (3, .int v9_3)] → W p l e ({ frames := 4, cells := 0, slots := 0, locals := 82 }) s m (List.toArray [.ref (ad 158), .int a1, .int a2]) below meth c H locs 0 0 (MQ below (va_Qi (P_X10_leastBelow_12 ad cy B qr s1 a1 a2 w0) (fun u : va_W => wpost dC dI cy A u) A) (List.toArray [.ref (ad 158), .int a1, .int a2]) s 0 0 A) (F0 m 9 ls []) := by
    intro n9
    induction n9 with
    | zero => intro v9_3 H locs ls w1 r2 t3 r4 t5 r6 t7 hm9 hw hT hF hl; omega
    | succ n9 ih9 =>
      intro v9_3 H locs ls w1 r2 t3 r4 t5 r6 t7 hm9 hw hT hF hl
      refine lv_iload_n hx hb dX10_leastBelow_9 rfl (lv_at hl 3 rfl) ?_
      refine lv_aload_n hx hb dX10_leastBelow_10 rfl (lv_at hl 0 rfl) ?_
      refine tk_getA hC hK hw hT hinX10 kC_at158 (by decide) rfl 0 (by decide) (List.mem_cons_of_mem _ uw_6_6) rfl rfl dX10_leastBelow_11 ?_
      refine tk_geti hC hK hw hT hinX5 kC_at38 (by decide) rfl 10 (by decide) (List.mem_cons_of_mem _ uw_60_6) rfl rfl dX10_leastBelow_14 (fun x8 c9 rx8 tx8 => ?_)
      refine lv_icmp_ge (tgt := 36) hx hb dX10_leastBelow_17 (by decide) (fun c10 => ?_) (fun c10 => ?_)
      · have c10 : x8.toInt ≤ v9_3.toInt := wk_le.mp c10
        refine lv_iload_n hx hb dX10_leastBelow_36 rfl (lv_at hl 1 rfl) ?_
        refine lv_if_gt (tgt := 42) hx hb dX10_leastBelow_37 (by decide) (fun c11 => ?_) (fun c11 => ?_)
        · have c11 : (0 : Int) < a1.toInt := wk_lt.mp c11
          refine lv_aload_n hx hb dX10_leastBelow_42 rfl (lv_at hl 0 rfl) ?_
          refine lv_iload_n hx hb dX10_leastBelow_43 rfl (lv_at hl 1 rfl) ?_
          refine lv_iconst (v := 1) hx hb dX10_leastBelow_44 (by decide) ?_
          refine lv_isub hx hb dX10_leastBelow_45 ?_
          refine lv_topi (fun x12 ex12 => ?_)
          have ex12 : x12.toInt = a1.toInt - (1 : Int) := by rw [ex12]; exact wk_sub (show (-2147483648) ≤ a1.toInt - (1 : Int) by omega) (show a1.toInt - (1 : Int) ≤ 2147483647 by omega)
          refine lv_iload_n hx hb dX10_leastBelow_46 rfl (lv_at hl 2 rfl) ?_
          obtain rfl : x12 = 0 := wk_eq.mpr (show x12.toInt = 0 by omega)
          refine tk_Vi hC hK hw hT hA hE hSR kC_at158 (by decide) rfl (k_X10_leastBelow_13 l adK adV dC dI cy ad B (by omega) (by omega) qr s1   a2 (show 0 ≤ a2.toInt from r4) (show a2.toInt ≤ 8191 from t5) w1 H.size hT ) (cwV 2 hC.2.2.2.2 uV_RX10_72 rfl rfl rfl (by decide +kernel) ⟨Nat.le_of_ble_eq_true rfl, Nat.le_of_ble_eq_true rfl⟩) rfl hl.1 rfl (Nat.le_of_ble_eq_true rfl) dX10_leastBelow_47 (fun r13 w15 H locs hp14 hw => ?_)
          obtain ⟨hT, k16, hg21⟩ := hp14
          have hF := hF.tr k16 (by decide)
          have c22 := k16.gi kC_at38 (by decide) c9
          rcases hg21 with ⟨g17, g18⟩ | ⟨rfl, ⟨x19, c20, rx19, tx19⟩⟩
          · refine lv_istore_n (lv' := [(3, .int r13), (0, .ref (ad 158)), (1, .int a1), (2, .int a2)]) hx hb dX10_leastBelow_50 rfl hl (by decide) rfl (fun ls hl => ?_)
            refine lv_iload_n hx hb dX10_leastBelow_51 rfl (lv_at hl 0 rfl) ?_
            refine lv_iconst (v := (-1)) hx hb dX10_leastBelow_52 (by decide) ?_
            refine lv_icmp_eq (tgt := 60) hx hb dX10_leastBelow_53 (by decide) (fun c => absurd c (fun h => absurd (show r13.toInt = (-1 : Int) from wk_eq.mp h) (by omega))) (fun _ => ?_)
            refine lv_iload_n hx hb dX10_leastBelow_56 rfl (lv_at hl 0 rfl) ?_
            refine lv_goto (tgt := 74) hx hb dX10_leastBelow_57 (by decide) ?_
            exact tk_iret hC hr hlocks hK ⟨hT, hF, (Or.inl ⟨(show 0 ≤ r13.toInt by omega), (show r13.toInt ≤ 8191 by omega)⟩)⟩ hw dX10_leastBelow_74
          · have ex19 : x19.toInt = x8.toInt := by rw [← c22.symm.trans c20]
            refine lv_istore_n (lv' := [(3, .int (-1)), (0, .ref (ad 158)), (1, .int a1), (2, .int a2)]) hx hb dX10_leastBelow_50 rfl hl (by decide) rfl (fun ls hl => ?_)
            refine lv_iload_n hx hb dX10_leastBelow_51 rfl (lv_at hl 0 rfl) ?_
            refine lv_iconst (v := (-1)) hx hb dX10_leastBelow_52 (by decide) ?_
            refine lv_icmp_eq (tgt := 60) hx hb dX10_leastBelow_53 (by decide) (fun _ => ?_) (fun c => absurd (by decide) c)
            refine lv_aload_n hx hb dX10_leastBelow_60 rfl (lv_at hl 1 rfl) ?_
            refine lv_iload_n hx hb dX10_leastBelow_61 rfl (lv_at hl 2 rfl) ?_
            refine lv_iconst (v := 1) hx hb dX10_leastBelow_62 (by decide) ?_
            refine lv_isub hx hb dX10_leastBelow_63 ?_
            refine lv_topi (fun x23 ex23 => ?_)
            have ex23 : x23.toInt = a1.toInt - (1 : Int) := by rw [ex23]; exact wk_sub (show (-2147483648) ≤ a1.toInt - (1 : Int) by omega) (show a1.toInt - (1 : Int) ≤ 2147483647 by omega)
            refine lv_iload_n hx hb dX10_leastBelow_64 rfl (lv_at hl 3 rfl) ?_
            refine lv_iconst (v := 1) hx hb dX10_leastBelow_65 (by decide) ?_
            refine lv_iload_n hx hb dX10_leastBelow_66 rfl (lv_at hl 2 rfl) ?_
            refine lv_iconst (v := 1) hx hb dX10_leastBelow_67 (by decide) ?_
            refine lv_isub hx hb dX10_leastBelow_68 ?_
            refine lv_topi (fun x24 ex24 => ?_)
            have ex24 : x24.toInt = a1.toInt - (1 : Int) := by rw [ex24]; exact wk_sub (show (-2147483648) ≤ a1.toInt - (1 : Int) by omega) (show a1.toInt - (1 : Int) ≤ 2147483647 by omega)
            refine lv_ishl hx hb dX10_leastBelow_69 ?_
            refine lv_topi (fun x25 ex25 => ?_)
            have bx25 : 1 ≤ x25.toInt ∧ x25.toInt ≤ 1 := by rw [ex25]; exact wk_shl1 0 (by decide) (by omega) (by omega)
            refine lv_ior hx hb dX10_leastBelow_70 ?_
            refine lv_topi (fun x26 ex26 => ?_)
            have bx26 : 0 ≤ x26.toInt ∧ x26.toInt < 8192 := by rw [ex26]; exact wk_or 13 (by decide) (by omega) (by omega) (by omega) (by omega)
            have mx26 : a2.toInt ≤ x26.toInt ∧ x25.toInt ≤ x26.toInt := by rw [ex26]; exact wk_orL 13 (by decide) (by omega) (by omega) (by omega) (by omega)
            obtain rfl : x23 = 0 := wk_eq.mpr (show x23.toInt = 0 by omega)
            refine tk_Vi hC hK hw hT hA hE hSR kC_at158 (by decide) rfl (k_X10_leastBelow_13 l adK adV dC dI cy ad B (by omega) (by omega) qr s1   x26 (show 0 ≤ x26.toInt by omega) (show x26.toInt ≤ 8191 by omega) w15 H.size hT ) (cwV 2 hC.2.2.2.2 uV_RX10_72 rfl rfl rfl (by decide +kernel) ⟨Nat.le_of_ble_eq_true rfl, Nat.le_of_ble_eq_true rfl⟩) rfl hl.1 rfl (Nat.le_of_ble_eq_true rfl) dX10_leastBelow_71 (fun r27 w29 H locs hp28 hw => ?_)
            obtain ⟨hT, k30, hg35⟩ := hp28
            have hF := hF.tr k30 (by decide)
            have c36 := k30.gi kC_at38 (by decide) c22
            rcases hg35 with ⟨g31, g32⟩ | ⟨rfl, ⟨x33, c34, rx33, tx33⟩⟩
            · exact tk_iret hC hr hlocks hK ⟨hT, hF, (Or.inl ⟨(show 0 ≤ r27.toInt by omega), (show r27.toInt ≤ 8191 by omega)⟩)⟩ hw dX10_leastBelow_74
            · have ex33 : x33.toInt = x8.toInt := by rw [← c36.symm.trans c34]
              exact tk_iret hC hr hlocks hK ⟨hT, hF, (Or.inr ⟨rfl, ⟨x8, c36, (show 1 ≤ x8.toInt by omega), (show x8.toInt ≤ 6 from tx8)⟩⟩)⟩ hw dX10_leastBelow_74
        · have c11 : a1.toInt ≤ (0 : Int) := wk_ltF c11
          refine lv_iload_n hx hb dX10_leastBelow_40 rfl (lv_at hl 2 rfl) ?_
          exact tk_iret hC hr hlocks hK ⟨hT, hF, (Or.inl ⟨(show 0 ≤ a2.toInt from r4), (show a2.toInt ≤ 8191 from t5)⟩)⟩ hw dX10_leastBelow_41
      · have c10 : v9_3.toInt < x8.toInt := wk_leF c10
        refine lv_aload_n hx hb dX10_leastBelow_20 rfl (lv_at hl 0 rfl) ?_
        refine lv_iload_n hx hb dX10_leastBelow_21 rfl (lv_at hl 3 rfl) ?_
        refine tk_Vi hC hK hw hT hA hE hSR kC_at158 (by decide) rfl (k_X10_canDo_1 l adK adV dC dI cy ad B (by omega) (by omega) qr s1   v9_3 (show 0 ≤ v9_3.toInt from r6) (show v9_3.toInt ≤ 5 by omega) w1 H.size hT ) (cwV 1 hC.2.2.2.2 uV_RX10_49 rfl rfl rfl (by decide +kernel) ⟨Nat.le_of_ble_eq_true rfl, Nat.le_of_ble_eq_true rfl⟩) rfl hl.1 rfl (Nat.le_of_ble_eq_true rfl) dX10_leastBelow_22 (fun r37 w39 H locs hp38 hw => ?_)
        obtain ⟨hT, k40, hg41⟩ := hp38
        have hF := hF.tr k40 (by decide)
        have c42 := k40.gi kC_at38 (by decide) c9
        rcases hg41 with rfl | rfl
        · refine lv_if_ne (tgt := 30) hx hb dX10_leastBelow_25 (by decide) (fun c => absurd (by decide) c) (fun _ => ?_)
          refine lv_iconst (v := (-1)) hx hb dX10_leastBelow_28 (by decide) ?_
          exact tk_iret hC hr hlocks hK ⟨hT, hF, (Or.inr ⟨rfl, ⟨x8, c42, (show 1 ≤ x8.toInt by omega), (show x8.toInt ≤ 6 from tx8)⟩⟩)⟩ hw dX10_leastBelow_29
        · refine lv_if_ne (tgt := 30) hx hb dX10_leastBelow_25 (by decide) (fun _ => ?_) (fun c => absurd c (by decide))
          obtain ⟨x43, ex43⟩ : ∃ y : Int32, y = v9_3 + Int32.ofInt 1 := ⟨_, rfl⟩
          refine lv_iinc (v := x43) (lv' := [(3, .int x43), (0, .ref (ad 158)), (1, .int a1), (2, .int a2)]) hx hb dX10_leastBelow_30 hl (k := 3) rfl ex43.symm (by decide) rfl (fun ls hl => ?_)
          have ex43 : x43.toInt = v9_3.toInt + 1 := by rw [ex43]; exact wk_add (y := 1) (show -2147483648 ≤ v9_3.toInt + 1 by omega) (show v9_3.toInt + 1 ≤ 2147483647 by omega)
          refine lv_goto (tgt := 9) hx hb dX10_leastBelow_33 (by decide) ?_
          exact ih9 x43 H locs ls w39 (show 0 ≤ a1.toInt from r2) (show a1.toInt ≤ 1 from t3) (show 0 ≤ a2.toInt from r4) (show a2.toInt ≤ 8191 from t5) (show 0 ≤ x43.toInt by omega) (show x43.toInt ≤ 6 by omega) (show (6 - x43.toInt).toNat < n9 by omega) hw hT hF  (lv_sub hl [1, 2, 3, 0] rfl)
  refine lv_aload_n hx hb dX10_leastBelow_0 rfl (lv_at hl 0 rfl) ?_
  refine lv_iload_n hx hb dX10_leastBelow_1 rfl (lv_at hl 1 rfl) ?_
  refine lv_iload_n hx hb dX10_leastBelow_2 rfl (lv_at hl 2 rfl) ?_
  refine lv_iconst (v := (-1)) hx hb dX10_leastBelow_3 (by decide) ?_
  refine tk_Vv hC hK hw hT hA hE hSR kC_at158 (by decide) rfl (k_X10_layRoads_1 l adK adV dC dI cy ad B (by omega) (by omega) qr s1   a1 (show 0 ≤ a1.toInt from ra1) (show a1.toInt ≤ 12 from Int.le_trans ta1 (by decide)) a2 (show 0 ≤ a2.toInt from ra2) (show a2.toInt ≤ 8191 from ta2) ((-1)) (by decide) (by decide) w0 s.heap.size hT ) (cwV 3 hC.2.2.2.2 uV_RX10_42 rfl rfl rfl (by decide +kernel) ⟨Nat.le_of_ble_eq_true rfl, Nat.le_of_ble_eq_true rfl⟩) rfl hl.1 rfl (Nat.le_of_ble_eq_true rfl) dX10_leastBelow_4 (fun w46 H locs hp45 hw => ?_)
  obtain ⟨hT, k47, hg48⟩ := hp45
  have hF := hF.tr k47 (by decide)
  clear hg48
  refine lv_iconst (v := 0) hx hb dX10_leastBelow_7 (by decide) ?_
  refine lv_istore_n (lv' := [(3, .int 0), (0, .ref (ad 158)), (1, .int a1), (2, .int a2)]) hx hb dX10_leastBelow_8 rfl hl (by decide) rfl (fun ls hl => ?_)
  exact L9 ((6 - (0 : Int)).toNat + 1) 0 H locs ls w46 (show 0 ≤ a1.toInt from ra1) (show a1.toInt ≤ 1 from ta1) (show 0 ≤ a2.toInt from ra2) (show a2.toInt ≤ 8191 from ta2) (by decide) (by decide) (Nat.lt_succ_self _) hw hT hF  (lv_sub hl [1, 2, 3, 0] rfl)
