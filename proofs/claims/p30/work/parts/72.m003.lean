abbrev P_X1_takeStep_1 (ad : Nat → Nat) (cy : Nat → ClassId) (B : Int) (qr : Nat) (s1 : Int) (q1_ : Nat) (w0 : va_W) : Int32 → va_W → Prop := fun r u => TW ksC ad cy (B + 9) qr s1 u ∧ FE ksC [(1, 4, 4), (1, 5, 5), (1, 6, 6), (1, 7, 7), (1, 8, 8), (9, 0, 0), (9, 4, 4), (9, 5, 5), (9, 6, 6), (9, 7, 7), (9, 8, 8), (45, 0, 64)] w0 u ∧ (((∃ y : Int32, gi u 149 8 = y ∧ 0 ≤ y.toInt ∧ y.toInt ≤ 999999)) ∨ (r = 4))
set_option maxHeartbeats 4000000 in
set_option maxRecDepth 100000 in
theorem k_X1_takeStep_1 (l : Launch) (adK adV : Nat → Nat) (dC : Nat → ClassId) (dI : Nat → Nat → Nat) (cy : Nat → ClassId) (ad : Nat → Nat) (B : Int) (hB0 : 2147483648 ≤ B) (hB1 : B ≤ 1152921504606846976) (qr : Nat) (s1 : Int)  (q1_ : Nat) (hkq1_ : ksC[q1_]? = some 9) (w0 : va_W) (sz : Nat) (hT : TW ksC ad cy B qr s1 w0)  : Met l yX1_takeStep (wu yX1_takeStep cX1_takeStep 4 (some .int)) ({ frames := 5, cells := 0, slots := 0, locals := 112 }) (va_Pc [.ref (ad 149), .ref (ad q1_)] (wpreS adK adV dC dI cy sz w0)) (va_Qi (P_X1_takeStep_1 ad cy B qr s1 q1_ w0) (fun u : va_W => wpost dC dI cy (va_A w0 sz) u) (va_A w0 sz)) 0 0 (va_A w0 sz) := by
  refine Met.ofW (cc := cX1_takeStep) (maxL := 4) (ret := (some .int)) (by decide) rfl ?_
  intro p e s m args below meth c s₁ Bk hml hv
  obtain ⟨rfl, ⟨hsz, hP, hK, hD0⟩, hE, hSR⟩ := hv
  have hx := Bk.exec
  have hb := Bk.bytes
  have hr := Bk.returns
  have hlocks := Bk.notSynchronized
  have hC : CallFix p m c cX1_takeStep 4 s _ (wu yX1_takeStep cX1_takeStep 4 (some .int)) RX1 := ⟨hx, hb, hml, findClass_of_methodNamed Bk.named, atoms_spec (ws := (wu yX1_takeStep cX1_takeStep 4 (some .int))) Bk.pre⟩
  subst hsz
  have hD := hD0.self (sz := s.heap.size)
  generalize hAe : va_A w0 s.heap.size = A at hD hE ⊢
  have hA : ∀ q : Nat, s.heap.size ≤ q → A q := fun q h => by rw [← hAe]; exact Or.inr h
  have hw : Wd dC dI A s.heap s.heap [] w0 := ⟨hP, hD, va_S.rf⟩
  have hF : FE ksC [(1, 4, 4), (1, 5, 5), (1, 6, 6), (1, 7, 7), (1, 8, 8), (9, 0, 0), (9, 4, 4), (9, 5, 5), (9, 6, 6), (9, 7, 7), (9, 8, 8), (45, 0, 64)] w0 w0 := FE.rf
  have hl := lv_entry ([.ref (ad 149), .ref (ad q1_)]) (n := 4) (Nat.le_of_ble_eq_true rfl)
  rw [lg_entry_eq]
  generalize (lg_sl ([.ref (ad 149), .ref (ad q1_)]) ++ List.replicate (4 - (lg_sl ([.ref (ad 149), .ref (ad q1_)])).length) Slot.unset).toArray = ls at hl ⊢
  have hl : lv_has ls 4 [(0, .ref (ad 149)), (1, .ref (ad q1_))] := hl
  generalize hloc : ([] : List Loc) = locs at hw ⊢
  have hinX9 : ∀ w ∈ u_ws RX9 TX9 9, w ∈ (wu yX1_takeStep cX1_takeStep 4 (some .int)) := fun _ h => List.mem_cons_of_mem _ (up_82 h)
  have hinX1 : ∀ w ∈ u_ws RX1 TX1 10, w ∈ (wu yX1_takeStep cX1_takeStep 4 (some .int)) := fun _ h => List.mem_cons_of_mem _ (up_78 h)
  have hinX2 : ∀ w ∈ u_ws RX2 TX2 6, w ∈ (wu yX1_takeStep cX1_takeStep 4 (some .int)) := fun _ h => List.mem_cons_of_mem _ (up_74 h)
  have J155 : ∀ (v155_3 : Int32) (f155_149_8 : Int32) (f155_q1__3 : Int32) (H : Heap) (locs : List Loc) (ls : Array Slot) (w1 : va_W), 0 ≤ f155_149_8.toInt → f155_149_8.toInt ≤ 999999 → Wd dC dI A s.heap H locs w1 → TW ksC ad cy (B + 9) qr s1 w1 → FE ksC [(1, 4, 4), (1, 5, 5), (1, 6, 6), (1, 7, 7), (1, 8, 8), (9, 0, 0), (9, 4, 4), (9, 5, 5), (9, 6, 6), (9, 7, 7), (9, 8, 8), (45, 0, 64)] w0 w1 → gi w1 149 8 = f155_149_8 → gi w1 q1_ 3 = f155_q1__3 → lv_has ls 4 [(0, .ref (ad 149)), (1, .ref (ad q1_)), (3, .int v155_3)] → W p l e ({ frames := 5, cells := 0, slots := 0, locals := 112 }) s m (List.toArray [.ref (ad 149), .ref (ad q1_)]) below meth c H locs 0 0 (MQ below (va_Qi (P_X1_takeStep_1 ad cy B qr s1 q1_ w0) (fun u : va_W => wpost dC dI cy A u) A) (List.toArray [.ref (ad 149), .ref (ad q1_)]) s 0 0 A) (F0 m 155 ls []) := by
    intro v155_3 f155_149_8 f155_q1__3 H locs ls w1 r2 t3 hw hT hF c4 c5 hl
    refine lv_aload_n hx hb dX1_takeStep_155 rfl (lv_at hl 1 rfl) ?_
    refine lv_dup hx hb dX1_takeStep_156 rfl ?_
    refine tk_geti hC hK hw hT hinX9 hkq1_ (by decide) rfl 5 (by decide) (List.mem_cons_of_mem _ uw_42_11) rfl rfl dX1_takeStep_157 (fun x6 c7 rx6 tx6 => ?_)
    refine lv_iconst (v := 1) hx hb dX1_takeStep_160 (by decide) ?_
    refine lv_iadd hx hb dX1_takeStep_161 ?_
    have nx8 := wk_i32 x6
    refine lv_topi (fun x9 ex9 => ?_)
    refine tk_puti hC hK hw hT hinX9 tyX9_ok nmX9 hkq1_ (by decide) rfl rfl 5 (by decide) (List.mem_cons_of_mem _ uw_42_11) rfl rfl rfl rfl (wk_i32 x9).1 (wk_i32 x9).2 dX1_takeStep_162 (fun H locs w10 hw hT k12 c11 => ?_)
    have hF := hF.put hkq1_ (k := 5) (by decide) k12
    have c13 := k12.gi (Or.inr (by decide)) c4
    have c14 := k12.gi (Or.inr (by decide)) c5
    refine lv_iload_n hx hb dX1_takeStep_165 rfl (lv_at hl 2 rfl) ?_
    exact tk_iret hC hr hlocks hK ⟨hT, hF, (Or.inl ⟨f155_149_8, c13, (show 0 ≤ f155_149_8.toInt from r2), (show f155_149_8.toInt ≤ 999999 from t3)⟩)⟩ hw dX1_takeStep_166
  have J145 : ∀ (v145_3 : Int32) (f145_149_8 : Int32) (f145_q1__3 : Int32) (H : Heap) (locs : List Loc) (ls : Array Slot) (w15 : va_W), 0 ≤ f145_149_8.toInt → f145_149_8.toInt ≤ 999999 → Wd dC dI A s.heap H locs w15 → TW ksC ad cy B qr s1 w15 → FE ksC [(1, 4, 4), (1, 5, 5), (1, 6, 6), (1, 7, 7), (1, 8, 8), (9, 0, 0), (9, 4, 4), (9, 5, 5), (9, 6, 6), (9, 7, 7), (9, 8, 8), (45, 0, 64)] w0 w15 → gi w15 149 8 = f145_149_8 → gi w15 q1_ 3 = f145_q1__3 → lv_has ls 4 [(0, .ref (ad 149)), (1, .ref (ad q1_)), (3, .int v145_3)] → W p l e ({ frames := 5, cells := 0, slots := 0, locals := 112 }) s m (List.toArray [.ref (ad 149), .ref (ad q1_)]) below meth c H locs 0 0 (MQ below (va_Qi (P_X1_takeStep_1 ad cy B qr s1 q1_ w0) (fun u : va_W => wpost dC dI cy A u) A) (List.toArray [.ref (ad 149), .ref (ad q1_)]) s 0 0 A) (F0 m 145 ls []) := by
    intro v145_3 f145_149_8 f145_q1__3 H locs ls w15 r16 t17 hw hT hF c18 c19 hl
    refine lv_aload_n hx hb dX1_takeStep_145 rfl (lv_at hl 1 rfl) ?_
    refine lv_dup hx hb dX1_takeStep_146 rfl ?_
    refine tk_getB hC hK hw hT hinX9 hkq1_ (by decide) rfl 4 (by decide) (List.mem_cons_of_mem _ uw_42_10) rfl rfl dX1_takeStep_147 (fun x20 c21 rx20 tx20 => ?_)
    refine lv_lconst (v := 1) hx hb dX1_takeStep_150 (by decide) ?_
    refine lv_ladd hx hb dX1_takeStep_151 ?_
    refine lv_topl (fun x22 ex22 => ?_)
    have ex22 : x22.toInt = x20.toInt + (1 : Int) := by rw [ex22]; exact wk_addl (show (-9223372036854775808) ≤ x20.toInt + (1 : Int) by omega) (show x20.toInt + (1 : Int) ≤ 9223372036854775807 by omega)
    have hT := hT.up (show B ≤ (B + 1) by omega)
    refine tk_putB hC hK hw hT hinX9 tyX9_ok nmX9 hkq1_ (by decide) rfl rfl 4 (by decide) (List.mem_cons_of_mem _ uw_42_10) rfl rfl rfl rfl (show 0 ≤ x22.toInt by first | with_reducible assumption | omega) (show x22.toInt ≤ (B + 1) by omega) dX1_takeStep_152 (fun H locs w23 hw hT k25 c24 => ?_)
    have hF := hF.put hkq1_ (k := 4) (by decide) k25
    have c26 := k25.gi (Or.inr (by decide)) c18
    have c27 := k25.gi (Or.inr (by decide)) c19
    exact J155 v145_3 f145_149_8 f145_q1__3 H locs ls w23 (show 0 ≤ f145_149_8.toInt from r16) (show f145_149_8.toInt ≤ 999999 from t17)  hw (hT.up (show (B + 1) ≤ (B + 9) by omega)) hF c26 c27 (lv_sub hl [0, 1, 2] rfl)
  have J40 : ∀ (f40_q1__3 : Int32) (H : Heap) (locs : List Loc) (ls : Array Slot) (w28 : va_W), Wd dC dI A s.heap H locs w28 → TW ksC ad cy B qr s1 w28 → FE ksC [(1, 4, 4), (1, 5, 5), (1, 6, 6), (1, 7, 7), (1, 8, 8), (9, 0, 0), (9, 4, 4), (9, 5, 5), (9, 6, 6), (9, 7, 7), (9, 8, 8), (45, 0, 64)] w0 w28 → gi w28 q1_ 3 = f40_q1__3 → lv_has ls 4 [(0, .ref (ad 149)), (1, .ref (ad q1_))] → W p l e ({ frames := 5, cells := 0, slots := 0, locals := 112 }) s m (List.toArray [.ref (ad 149), .ref (ad q1_)]) below meth c H locs 0 0 (MQ below (va_Qi (P_X1_takeStep_1 ad cy B qr s1 q1_ w0) (fun u : va_W => wpost dC dI cy A u) A) (List.toArray [.ref (ad 149), .ref (ad q1_)]) s 0 0 A) (F0 m 40 ls []) := by
    intro f40_q1__3 H locs ls w28 hw hT hF c29 hl
    refine lv_null hx hb dX1_takeStep_40 ?_
    refine lv_astore_nN (lv' := [(2, .null), (0, .ref (ad 149)), (1, .ref (ad q1_))]) hx hb dX1_takeStep_41 rfl hl (by decide) rfl (fun ls hl => ?_)
    refine lv_aload_n hx hb dX1_takeStep_42 rfl (lv_at hl 1 rfl) ?_
    refine lv_aload_n hx hb dX1_takeStep_43 rfl (lv_at hl 2 rfl) ?_
    refine lv_aload_nN hx hb dX1_takeStep_44 rfl (lv_at hl 0 rfl) ?_
    refine lv_ifnullN (tgt := 59) hx hb dX1_takeStep_45 (by decide) ?_
    refine lv_iconst (v := 0) hx hb dX1_takeStep_59 (by decide) ?_
    refine tk_Vv hC hK hw hT hA hE hSR kC_at149 (by decide) rfl (k_X1_lookAround_1 l adK adV dC dI cy ad B hB0 (Int.le_trans hB1 (by decide)) qr s1   q1_ hkq1_ w28 H.size hT ) (cwV 2 hC.2.2.2.2 uV_RX1_47 rfl rfl rfl (by decide +kernel) ⟨Nat.le_of_ble_eq_true rfl, Nat.le_of_ble_eq_true rfl⟩) rfl hl.1 rfl (Nat.le_of_ble_eq_true rfl) dX1_takeStep_60 (fun w32 H locs hp31 hw => ?_)
    obtain ⟨hT, k33, hg38⟩ := hp31
    have hF := hF.tr k33 (by decide)
    have c39 := k33.gi hkq1_ (by decide) c29
    obtain ⟨⟨x34, c35, rx34, tx34⟩, ⟨x36, c37, rx36, tx36⟩⟩ := hg38
    refine lv_aload_nN hx hb dX1_takeStep_63 rfl (lv_at hl 0 rfl) ?_
    refine lv_ifnullN (tgt := 76) hx hb dX1_takeStep_64 (by decide) ?_
    refine lv_aload_n hx hb dX1_takeStep_76 rfl (lv_at hl 1 rfl) ?_
    refine tk_geti hC hK hw hT hinX1 kC_at149 (by decide) rfl 6 (by decide) (List.mem_cons_of_mem _ uw_42_5) rfl rfl dX1_takeStep_77 (fun x40 c41 rx40 tx40 => ?_)
    refine lv_if_eq (tgt := 87) hx hb dX1_takeStep_80 (by decide) (fun c42 => ?_) (fun c42 => ?_)
    · have c42 : x40.toInt = (0 : Int) := wk_eq.mp c42
      refine lv_iconst (v := 3) hx hb dX1_takeStep_87 (by decide) ?_
      refine lv_istore_n (lv' := [(3, .int 3), (2, .null), (0, .ref (ad 149)), (1, .ref (ad q1_))]) hx hb dX1_takeStep_88 rfl hl (by decide) rfl (fun ls hl => ?_)
      refine lv_iload_n hx hb dX1_takeStep_89 rfl (lv_at hl 0 rfl) ?_
      refine lv_if_ne (tgt := 105) hx hb dX1_takeStep_90 (by decide) (fun _ => ?_) (fun c => absurd c (by decide))
      refine lv_iload_n hx hb dX1_takeStep_105 rfl (lv_at hl 0 rfl) ?_
      refine lv_iconst (v := 1) hx hb dX1_takeStep_106 (by decide) ?_
      refine lv_icmp_ne (tgt := 122) hx hb dX1_takeStep_107 (by decide) (fun _ => ?_) (fun c => absurd c (by decide))
      refine lv_iload_n hx hb dX1_takeStep_122 rfl (lv_at hl 0 rfl) ?_
      refine lv_iconst (v := 2) hx hb dX1_takeStep_123 (by decide) ?_
      refine lv_icmp_ne (tgt := 145) hx hb dX1_takeStep_124 (by decide) (fun _ => ?_) (fun c => absurd c (by decide))
      exact J145 3 x36 f40_q1__3 H locs ls w32 (show 0 ≤ x36.toInt by first | with_reducible assumption | omega) (show x36.toInt ≤ 999999 by first | with_reducible assumption | omega)  hw hT hF c37 c39 (lv_sub hl [2, 3, 0] rfl)
    · have c42 : ¬ x40.toInt = (0 : Int) := wk_eqF c42
      refine lv_iconst (v := 0) hx hb dX1_takeStep_83 (by decide) ?_
      refine lv_goto (tgt := 88) hx hb dX1_takeStep_84 (by decide) ?_
      refine lv_istore_n (lv' := [(3, .int 0), (2, .null), (0, .ref (ad 149)), (1, .ref (ad q1_))]) hx hb dX1_takeStep_88 rfl hl (by decide) rfl (fun ls hl => ?_)
      refine lv_iload_n hx hb dX1_takeStep_89 rfl (lv_at hl 0 rfl) ?_
      refine lv_if_ne (tgt := 105) hx hb dX1_takeStep_90 (by decide) (fun c => absurd (by decide) c) (fun _ => ?_)
      refine lv_aload_n hx hb dX1_takeStep_93 rfl (lv_at hl 2 rfl) ?_
      refine lv_aload_n hx hb dX1_takeStep_94 rfl (lv_at hl 3 rfl) ?_
      refine lv_aload_n hx hb dX1_takeStep_95 rfl (lv_at hl 2 rfl) ?_
      refine tk_geti hC hK hw hT hinX1 kC_at149 (by decide) rfl 5 (by decide) (List.mem_cons_of_mem _ uw_42_6) rfl rfl dX1_takeStep_96 (fun x43 c44 rx43 tx43 => ?_)
      refine tk_Vv hC hK hw hT hA hE hSR kC_at149 (by decide) rfl (k_X1_follow_1 l adK adV dC dI cy ad B hB0 (Int.le_trans hB1 (by decide)) qr s1   q1_ hkq1_ x43 (show (-1) ≤ x43.toInt from rx43) (show x43.toInt ≤ 11 from tx43) w32 H.size hT ) (cwV 2 hC.2.2.2.2 uV_RX1_61 rfl rfl rfl (by decide +kernel) ⟨Nat.le_of_ble_eq_true rfl, Nat.le_of_ble_eq_true rfl⟩) rfl hl.1 rfl (Nat.le_of_ble_eq_true rfl) dX1_takeStep_99 (fun w47 H locs hp46 hw => ?_)
      obtain ⟨hT, k48, hg49⟩ := hp46
      have hF := hF.tr k48 (by decide)
      have c50 := k48.gi hkq1_ (by decide) c39
      have c51 := k48.gi kC_at149 (by decide) c35
      have c52 := k48.gi kC_at149 (by decide) c37
      have c53 := k48.gi kC_at149 (by decide) c41
      have c54 := k48.gi kC_at149 (by decide) c44
      clear hg49
      refine lv_goto (tgt := 155) hx hb dX1_takeStep_102 (by decide) ?_
      exact J155 0 x36 f40_q1__3 H locs ls w47 (show 0 ≤ x36.toInt by first | with_reducible assumption | omega) (show x36.toInt ≤ 999999 by first | with_reducible assumption | omega)  hw hT hF c52 c50 (lv_sub hl [2, 3, 0] rfl)
  refine lv_aload_n hx hb dX1_takeStep_0 rfl (lv_at hl 1 rfl) ?_
  refine tk_Vi hC hK hw hT hA hE hSR hkq1_ (by decide) rfl (k_X9_isAtGoal_1 l adK adV dC dI cy ad B hB0 (Int.le_trans hB1 (by decide)) qr s1   q1_ hkq1_ w0 s.heap.size hT ) (cwV 0 hC.2.2.2.2 uV_RX1_31 rfl rfl rfl (by decide +kernel) ⟨Nat.le_of_ble_eq_true rfl, Nat.le_of_ble_eq_true rfl⟩) rfl hl.1 rfl (Nat.le_of_ble_eq_true rfl) dX1_takeStep_1 (fun r55 w57 H locs hp56 hw => ?_)
  obtain ⟨hT, k58, hg59⟩ := hp56
  have hF := hF.tr k58 (by decide)
  rcases hg59 with rfl | rfl
  · refine lv_if_eq (tgt := 9) hx hb dX1_takeStep_4 (by decide) (fun _ => ?_) (fun c => absurd (by decide) c)
    refine lv_aload_n hx hb dX1_takeStep_9 rfl (lv_at hl 1 rfl) ?_
    refine tk_geti hC hK hw hT hinX9 hkq1_ (by decide) rfl 3 (by decide) (List.mem_cons_of_mem _ uw_42_3) rfl rfl dX1_takeStep_10 (fun x60 c61 rx60 tx60 => ?_)
    refine lv_if_lt (tgt := 40) hx hb dX1_takeStep_13 (by decide) (fun c62 => ?_) (fun c62 => ?_)
    · have c62 : x60.toInt < (0 : Int) := wk_lt.mp c62
      exact J40 x60 H locs ls w57   hw hT hF c61 (lv_sub hl [0, 1] rfl)
    · have c62 : (0 : Int) ≤ x60.toInt := wk_ltF c62
      refine lv_aload_n hx hb dX1_takeStep_16 rfl (lv_at hl 1 rfl) ?_
      refine tk_geti hC hK hw hT hinX9 hkq1_ (by decide) rfl 3 (by decide) (List.mem_cons_of_mem _ uw_42_3) rfl rfl dX1_takeStep_17 (fun x63 c64 rx63 tx63 => ?_)
      refine wk_top x60 (c64.symm.trans c61) ?_
      refine lv_aload_n hx hb dX1_takeStep_20 rfl (lv_at hl 0 rfl) ?_
      refine tk_getA hC hK hw hT hinX1 kC_at149 (by decide) rfl 2 (by decide) (List.mem_cons_of_mem _ uw_5_2) rfl rfl dX1_takeStep_21 ?_
      refine tk_alenR (v := 6) hC hK hw hT kC_at4 rfl (by decide) rfl (by decide) dX1_takeStep_24 ?_
      refine lv_icmp_ge (tgt := 40) hx hb dX1_takeStep_25 (by decide) (fun c65 => ?_) (fun c65 => ?_)
      · have c65 : (6 : Int) ≤ x60.toInt := wk_le.mp c65
        exact J40 x60 H locs ls w57   hw hT hF c61 (lv_sub hl [0, 1] rfl)
      · have c65 : x60.toInt < (6 : Int) := wk_leF c65
        refine lv_aload_n hx hb dX1_takeStep_28 rfl (lv_at hl 0 rfl) ?_
        refine tk_getA hC hK hw hT hinX1 kC_at149 (by decide) rfl 2 (by decide) (List.mem_cons_of_mem _ uw_5_2) rfl rfl dX1_takeStep_29 ?_
        refine lv_aload_n hx hb dX1_takeStep_32 rfl (lv_at hl 1 rfl) ?_
        refine tk_geti hC hK hw hT hinX9 hkq1_ (by decide) rfl 3 (by decide) (List.mem_cons_of_mem _ uw_42_3) rfl rfl dX1_takeStep_33 (fun x66 c67 rx66 tx66 => ?_)
        refine wk_top x60 (c67.symm.trans c61) ?_
        refine tk_aald hC hK hw hT kC_at4 rfl (by decide) rfl (show 0 ≤ x60.toInt from c62) (show x60.toInt < 6 from c65) dX1_takeStep_36 (fun j68 hj68 gj68 => ?_)
        refine lv_goto (tgt := 41) hx hb dX1_takeStep_37 (by decide) ?_
        refine lv_astore_n (lv' := [(2, .ref (ad (el 39 4 j68))), (0, .ref (ad 149)), (1, .ref (ad q1_))]) hx hb dX1_takeStep_41 rfl hl (by decide) rfl (fun ls hl => ?_)
        refine lv_aload_n hx hb dX1_takeStep_42 rfl (lv_at hl 1 rfl) ?_
        refine lv_aload_n hx hb dX1_takeStep_43 rfl (lv_at hl 2 rfl) ?_
        refine lv_aload_n hx hb dX1_takeStep_44 rfl (lv_at hl 0 rfl) ?_
        refine lv_ifnull hx hb dX1_takeStep_45 ?_
        refine lv_aload_n hx hb dX1_takeStep_48 rfl (lv_at hl 0 rfl) ?_
        refine tk_geti hC hK hw hT hinX2 (kC_el39 kC_at4 hj68) (by decide) rfl 5 (by decide) (List.mem_cons_of_mem _ uw_42_4) rfl rfl dX1_takeStep_49 (fun x69 c70 rx69 tx69 => ?_)
        refine lv_if_eq (tgt := 59) hx hb dX1_takeStep_52 (by decide) (fun c71 => ?_) (fun c71 => ?_)
        · have c71 : x69.toInt = (0 : Int) := wk_eq.mp c71
          refine lv_iconst (v := 0) hx hb dX1_takeStep_59 (by decide) ?_
          refine tk_Vv hC hK hw hT hA hE hSR kC_at149 (by decide) rfl (k_X1_lookAround_1 l adK adV dC dI cy ad B hB0 (Int.le_trans hB1 (by decide)) qr s1   q1_ hkq1_ w57 H.size hT ) (cwV 2 hC.2.2.2.2 uV_RX1_47 rfl rfl rfl (by decide +kernel) ⟨Nat.le_of_ble_eq_true rfl, Nat.le_of_ble_eq_true rfl⟩) rfl hl.1 rfl (Nat.le_of_ble_eq_true rfl) dX1_takeStep_60 (fun w74 H locs hp73 hw => ?_)
          obtain ⟨hT, k75, hg80⟩ := hp73
          have hF := hF.tr k75 (by decide)
          have c81 := k75.gi hkq1_ (by decide) c61
          have c82 := k75.gi (kC_el39 kC_at4 hj68) (by decide) c70
          obtain ⟨⟨x76, c77, rx76, tx76⟩, ⟨x78, c79, rx78, tx78⟩⟩ := hg80
          refine lv_aload_n hx hb dX1_takeStep_63 rfl (lv_at hl 0 rfl) ?_
          refine lv_ifnull hx hb dX1_takeStep_64 ?_
          refine lv_aload_n hx hb dX1_takeStep_67 rfl (lv_at hl 1 rfl) ?_
          refine lv_aload_n hx hb dX1_takeStep_68 rfl (lv_at hl 2 rfl) ?_
          refine lv_aload_n hx hb dX1_takeStep_69 rfl (lv_at hl 0 rfl) ?_
          refine tk_Vi hC hK hw hT hA hE hSR kC_at149 (by decide) rfl (k_X1_chooseDeed_1 l adK adV dC dI cy ad B hB0 (Int.le_trans hB1 (by decide)) qr s1   q1_ hkq1_ (el 39 4 j68) (kC_el39 kC_at4 hj68) w74 H.size hT ) (cwV 2 hC.2.2.2.2 uV_RX1_51 rfl rfl rfl (by decide +kernel) ⟨Nat.le_of_ble_eq_true rfl, Nat.le_of_ble_eq_true rfl⟩) rfl hl.1 rfl (Nat.le_of_ble_eq_true rfl) dX1_takeStep_70 (fun r83 w85 H locs hp84 hw => ?_)
          obtain ⟨hT, k86, hg91⟩ := hp84
          have hF := hF.tr k86 (by decide)
          have c92 := k86.gi hkq1_ (by decide) c81
          have c93 := k86.gi (kC_el39 kC_at4 hj68) (by decide) c82
          have c94 := k86.gi kC_at149 (by decide) c77
          have c95 := k86.gi kC_at149 (by decide) c79
          rcases hg91 with ⟨x87, c88, rx87, tx87⟩ | ⟨g89, g90⟩
          · refine lv_goto (tgt := 88) hx hb dX1_takeStep_73 (by decide) ?_
            refine lv_istore_n (lv' := [(3, .int r83), (2, .ref (ad (el 39 4 j68))), (0, .ref (ad 149)), (1, .ref (ad q1_))]) hx hb dX1_takeStep_88 rfl hl (by decide) rfl (fun ls hl => ?_)
            refine lv_iload_n hx hb dX1_takeStep_89 rfl (lv_at hl 0 rfl) ?_
            refine lv_if_ne (tgt := 105) hx hb dX1_takeStep_90 (by decide) (fun c96 => ?_) (fun c96 => ?_)
            · have c96 : ¬ r83.toInt = (0 : Int) := wk_eqF c96
              refine lv_iload_n hx hb dX1_takeStep_105 rfl (lv_at hl 0 rfl) ?_
              refine lv_iconst (v := 1) hx hb dX1_takeStep_106 (by decide) ?_
              refine lv_icmp_ne (tgt := 122) hx hb dX1_takeStep_107 (by decide) (fun c97 => ?_) (fun c97 => ?_)
              · have c97 : ¬ r83.toInt = (1 : Int) := wk_eqF c97
                refine lv_iload_n hx hb dX1_takeStep_122 rfl (lv_at hl 0 rfl) ?_
                refine lv_iconst (v := 2) hx hb dX1_takeStep_123 (by decide) ?_
                refine lv_icmp_ne (tgt := 145) hx hb dX1_takeStep_124 (by decide) (fun c98 => ?_) (fun c98 => ?_)
                · have c98 : ¬ r83.toInt = (2 : Int) := wk_eqF c98
                  exact J145 r83 x78 x60 H locs ls w85 (show 0 ≤ x78.toInt by first | with_reducible assumption | omega) (show x78.toInt ≤ 999999 by first | with_reducible assumption | omega)  hw hT hF c95 c92 (lv_sub hl [2, 3, 0] rfl)
                · have c98 : r83.toInt = (2 : Int) := wk_eq.mp c98
                  refine lv_aload_n hx hb dX1_takeStep_127 rfl (lv_at hl 3 rfl) ?_
                  refine lv_aload_n hx hb dX1_takeStep_128 rfl (lv_at hl 3 rfl) ?_
                  refine tk_Vl hC hK hw hT hA hE hSR hkq1_ (by decide) rfl (k_X9_dayNow_1 l adK adV dC dI cy ad B hB0 (Int.le_trans hB1 (by decide)) qr s1   q1_ hkq1_ w85 H.size hT ) (cwV 0 hC.2.2.2.2 uV_RX1_68 rfl rfl rfl (by decide +kernel) ⟨Nat.le_of_ble_eq_true rfl, Nat.le_of_ble_eq_true rfl⟩) rfl hl.1 rfl (Nat.le_of_ble_eq_true rfl) dX1_takeStep_129 (fun r99 w101 H locs hp100 hw => ?_)
                  obtain ⟨hT, k102, hg105⟩ := hp100
                  have hF := hF.tr k102 (by decide)
                  have c106 := k102.gi hkq1_ (by decide) c92
                  have c107 := k102.gi (kC_el39 kC_at4 hj68) (by decide) c93
                  have c108 := k102.gi kC_at149 (by decide) c94
                  have c109 := k102.gi kC_at149 (by decide) c95
                  have c110 := k102.gi (kC_el39 kC_at4 hj68) (by decide) c88
                  obtain ⟨g103, g104⟩ := hg105
                  refine tk_putl hC hK hw hT hinX9 tyX9_ok nmX9 hkq1_ (by decide) rfl rfl 8 (by decide) (List.mem_cons_of_mem _ uw_42_8) rfl rfl rfl rfl (wk_i64 r99).1 (wk_i64 r99).2 dX1_takeStep_132 (fun H locs w111 hw hT k113 c112 => ?_)
                  have hF := hF.put hkq1_ (k := 8) (by decide) k113
                  have c114 := k113.gi (Or.inr (by decide)) c106
                  have c115 := k113.gi (Or.inr (by decide)) c107
                  have c116 := k113.gi (Or.inr (by decide)) c108
                  have c117 := k113.gi (Or.inl (tk_ne kC_at149 hkq1_ (by decide))) c109
                  have c118 := k113.gi (Or.inr (by decide)) c110
                  refine lv_aload_n hx hb dX1_takeStep_135 rfl (lv_at hl 3 rfl) ?_
                  refine lv_dup hx hb dX1_takeStep_136 rfl ?_
                  refine tk_geti hC hK hw hT hinX9 hkq1_ (by decide) rfl 6 (by decide) (List.mem_cons_of_mem _ uw_42_9) rfl rfl dX1_takeStep_137 (fun x119 c120 rx119 tx119 => ?_)
                  refine lv_iconst (v := 1) hx hb dX1_takeStep_140 (by decide) ?_
                  refine lv_iadd hx hb dX1_takeStep_141 ?_
                  have nx121 := wk_i32 x119
                  refine lv_topi (fun x122 ex122 => ?_)
                  refine tk_puti hC hK hw hT hinX9 tyX9_ok nmX9 hkq1_ (by decide) rfl rfl 6 (by decide) (List.mem_cons_of_mem _ uw_42_9) rfl rfl rfl rfl (wk_i32 x122).1 (wk_i32 x122).2 dX1_takeStep_142 (fun H locs w123 hw hT k125 c124 => ?_)
                  have hF := hF.put hkq1_ (k := 6) (by decide) k125
                  have c126 := k125.gi (Or.inr (by decide)) c114
                  have c127 := k125.gi (Or.inr (by decide)) c115
                  have c128 := k125.gi (Or.inr (by decide)) c116
                  have c129 := k125.gi (Or.inr (by decide)) c117
                  have c130 := k125.gi (Or.inr (by decide)) c118
                  have c131 := k125.gl (Or.inr (by decide)) c112
                  exact J145 r83 x78 x60 H locs ls w123 (show 0 ≤ x78.toInt by first | with_reducible assumption | omega) (show x78.toInt ≤ 999999 by first | with_reducible assumption | omega)  hw hT hF c129 c126 (lv_sub hl [2, 3, 0] rfl)
              · have c97 : r83.toInt = (1 : Int) := wk_eq.mp c97
                refine lv_aload_n hx hb dX1_takeStep_110 rfl (lv_at hl 2 rfl) ?_
                refine lv_aload_n hx hb dX1_takeStep_111 rfl (lv_at hl 3 rfl) ?_
                refine lv_aload_n hx hb dX1_takeStep_112 rfl (lv_at hl 2 rfl) ?_
                refine tk_geti hC hK hw hT hinX1 kC_at149 (by decide) rfl 7 (by decide) (List.mem_cons_of_mem _ uw_42_7) rfl rfl dX1_takeStep_113 (fun x132 c133 rx132 tx132 => ?_)
                refine wk_top x76 (c133.symm.trans c94) ?_
                obtain rfl : x76 = (-1) := wk_eq.mpr (show x76.toInt = (-1) by first | exact Int.le_antisymm (by omega) (by omega) | omega)
                refine tk_Vv hC hK hw hT hA hE hSR kC_at149 (by decide) rfl (k_X1_follow_2 l adK adV dC dI cy ad B hB0 (Int.le_trans hB1 (by decide)) qr s1   q1_ hkq1_ w85 H.size hT ) (cwV 2 hC.2.2.2.2 uV_RX1_61 rfl rfl rfl (by decide +kernel) ⟨Nat.le_of_ble_eq_true rfl, Nat.le_of_ble_eq_true rfl⟩) rfl hl.1 rfl (Nat.le_of_ble_eq_true rfl) dX1_takeStep_116 (fun w136 H locs hp135 hw => ?_)
                obtain ⟨hT, k137, hg138⟩ := hp135
                have hF := hF.tr k137 (by decide)
                have c139 := k137.gi hkq1_ (by decide) c92
                have c140 := k137.gi (kC_el39 kC_at4 hj68) (by decide) c93
                have c141 := k137.gi kC_at149 (by decide) c94
                have c142 := k137.gi kC_at149 (by decide) c95
                have c143 := k137.gi (kC_el39 kC_at4 hj68) (by decide) c88
                clear hg138
                refine lv_goto (tgt := 155) hx hb dX1_takeStep_119 (by decide) ?_
                exact J155 r83 x78 x60 H locs ls w136 (show 0 ≤ x78.toInt by first | with_reducible assumption | omega) (show x78.toInt ≤ 999999 by first | with_reducible assumption | omega)  hw (hT.up (show B ≤ (B + 9) by omega)) hF c142 c139 (lv_sub hl [2, 3, 0] rfl)
            · have c96 : r83.toInt = (0 : Int) := wk_eq.mp c96
              refine lv_aload_n hx hb dX1_takeStep_93 rfl (lv_at hl 2 rfl) ?_
              refine lv_aload_n hx hb dX1_takeStep_94 rfl (lv_at hl 3 rfl) ?_
              refine lv_aload_n hx hb dX1_takeStep_95 rfl (lv_at hl 2 rfl) ?_
              refine tk_geti hC hK hw hT hinX1 kC_at149 (by decide) rfl 5 (by decide) (List.mem_cons_of_mem _ uw_42_6) rfl rfl dX1_takeStep_96 (fun x144 c145 rx144 tx144 => ?_)
              refine tk_Vv hC hK hw hT hA hE hSR kC_at149 (by decide) rfl (k_X1_follow_1 l adK adV dC dI cy ad B hB0 (Int.le_trans hB1 (by decide)) qr s1   q1_ hkq1_ x144 (show (-1) ≤ x144.toInt from rx144) (show x144.toInt ≤ 11 from tx144) w85 H.size hT ) (cwV 2 hC.2.2.2.2 uV_RX1_61 rfl rfl rfl (by decide +kernel) ⟨Nat.le_of_ble_eq_true rfl, Nat.le_of_ble_eq_true rfl⟩) rfl hl.1 rfl (Nat.le_of_ble_eq_true rfl) dX1_takeStep_99 (fun w148 H locs hp147 hw => ?_)
              obtain ⟨hT, k149, hg150⟩ := hp147
              have hF := hF.tr k149 (by decide)
              have c151 := k149.gi hkq1_ (by decide) c92
              have c152 := k149.gi (kC_el39 kC_at4 hj68) (by decide) c93
              have c153 := k149.gi kC_at149 (by decide) c94
              have c154 := k149.gi kC_at149 (by decide) c95
              have c155 := k149.gi (kC_el39 kC_at4 hj68) (by decide) c88
              have c156 := k149.gi kC_at149 (by decide) c145
              clear hg150
              refine lv_goto (tgt := 155) hx hb dX1_takeStep_102 (by decide) ?_
              exact J155 r83 x78 x60 H locs ls w148 (show 0 ≤ x78.toInt by first | with_reducible assumption | omega) (show x78.toInt ≤ 999999 by first | with_reducible assumption | omega)  hw hT hF c154 c151 (lv_sub hl [2, 3, 0] rfl)
          · refine lv_goto (tgt := 88) hx hb dX1_takeStep_73 (by decide) ?_
            refine lv_istore_n (lv' := [(3, .int r83), (2, .ref (ad (el 39 4 j68))), (0, .ref (ad 149)), (1, .ref (ad q1_))]) hx hb dX1_takeStep_88 rfl hl (by decide) rfl (fun ls hl => ?_)
            refine lv_iload_n hx hb dX1_takeStep_89 rfl (lv_at hl 0 rfl) ?_
            refine lv_if_ne (tgt := 105) hx hb dX1_takeStep_90 (by decide) (fun c157 => ?_) (fun c157 => ?_)
            · have c157 : ¬ r83.toInt = (0 : Int) := wk_eqF c157
              refine lv_iload_n hx hb dX1_takeStep_105 rfl (lv_at hl 0 rfl) ?_
              refine lv_iconst (v := 1) hx hb dX1_takeStep_106 (by decide) ?_
              refine lv_icmp_ne (tgt := 122) hx hb dX1_takeStep_107 (by decide) (fun c158 => ?_) (fun c158 => ?_)
              · have c158 : ¬ r83.toInt = (1 : Int) := wk_eqF c158
                refine lv_iload_n hx hb dX1_takeStep_122 rfl (lv_at hl 0 rfl) ?_
                refine lv_iconst (v := 2) hx hb dX1_takeStep_123 (by decide) ?_
                refine lv_icmp_ne (tgt := 145) hx hb dX1_takeStep_124 (by decide) (fun c159 => ?_) (fun c159 => ?_)
                · have c159 : ¬ r83.toInt = (2 : Int) := wk_eqF c159
                  exact J145 r83 x78 x60 H locs ls w85 (show 0 ≤ x78.toInt by first | with_reducible assumption | omega) (show x78.toInt ≤ 999999 by first | with_reducible assumption | omega)  hw hT hF c95 c92 (lv_sub hl [2, 3, 0] rfl)
                · have c159 : r83.toInt = (2 : Int) := wk_eq.mp c159
                  refine lv_aload_n hx hb dX1_takeStep_127 rfl (lv_at hl 3 rfl) ?_
                  refine lv_aload_n hx hb dX1_takeStep_128 rfl (lv_at hl 3 rfl) ?_
                  refine tk_Vl hC hK hw hT hA hE hSR hkq1_ (by decide) rfl (k_X9_dayNow_1 l adK adV dC dI cy ad B hB0 (Int.le_trans hB1 (by decide)) qr s1   q1_ hkq1_ w85 H.size hT ) (cwV 0 hC.2.2.2.2 uV_RX1_68 rfl rfl rfl (by decide +kernel) ⟨Nat.le_of_ble_eq_true rfl, Nat.le_of_ble_eq_true rfl⟩) rfl hl.1 rfl (Nat.le_of_ble_eq_true rfl) dX1_takeStep_129 (fun r160 w162 H locs hp161 hw => ?_)
                  obtain ⟨hT, k163, hg166⟩ := hp161
                  have hF := hF.tr k163 (by decide)
                  have c167 := k163.gi hkq1_ (by decide) c92
                  have c168 := k163.gi (kC_el39 kC_at4 hj68) (by decide) c93
                  have c169 := k163.gi kC_at149 (by decide) c94
                  have c170 := k163.gi kC_at149 (by decide) c95
                  obtain ⟨g164, g165⟩ := hg166
                  refine tk_putl hC hK hw hT hinX9 tyX9_ok nmX9 hkq1_ (by decide) rfl rfl 8 (by decide) (List.mem_cons_of_mem _ uw_42_8) rfl rfl rfl rfl (wk_i64 r160).1 (wk_i64 r160).2 dX1_takeStep_132 (fun H locs w171 hw hT k173 c172 => ?_)
                  have hF := hF.put hkq1_ (k := 8) (by decide) k173
                  have c174 := k173.gi (Or.inr (by decide)) c167
                  have c175 := k173.gi (Or.inr (by decide)) c168
                  have c176 := k173.gi (Or.inr (by decide)) c169
                  have c177 := k173.gi (Or.inl (tk_ne kC_at149 hkq1_ (by decide))) c170
                  refine lv_aload_n hx hb dX1_takeStep_135 rfl (lv_at hl 3 rfl) ?_
                  refine lv_dup hx hb dX1_takeStep_136 rfl ?_
                  refine tk_geti hC hK hw hT hinX9 hkq1_ (by decide) rfl 6 (by decide) (List.mem_cons_of_mem _ uw_42_9) rfl rfl dX1_takeStep_137 (fun x178 c179 rx178 tx178 => ?_)
                  refine lv_iconst (v := 1) hx hb dX1_takeStep_140 (by decide) ?_
                  refine lv_iadd hx hb dX1_takeStep_141 ?_
                  have nx180 := wk_i32 x178
                  refine lv_topi (fun x181 ex181 => ?_)
                  refine tk_puti hC hK hw hT hinX9 tyX9_ok nmX9 hkq1_ (by decide) rfl rfl 6 (by decide) (List.mem_cons_of_mem _ uw_42_9) rfl rfl rfl rfl (wk_i32 x181).1 (wk_i32 x181).2 dX1_takeStep_142 (fun H locs w182 hw hT k184 c183 => ?_)
                  have hF := hF.put hkq1_ (k := 6) (by decide) k184
                  have c185 := k184.gi (Or.inr (by decide)) c174
                  have c186 := k184.gi (Or.inr (by decide)) c175
                  have c187 := k184.gi (Or.inr (by decide)) c176
                  have c188 := k184.gi (Or.inr (by decide)) c177
                  have c189 := k184.gl (Or.inr (by decide)) c172
                  exact J145 r83 x78 x60 H locs ls w182 (show 0 ≤ x78.toInt by first | with_reducible assumption | omega) (show x78.toInt ≤ 999999 by first | with_reducible assumption | omega)  hw hT hF c188 c185 (lv_sub hl [2, 3, 0] rfl)
              · have c158 : r83.toInt = (1 : Int) := wk_eq.mp c158
                refine lv_aload_n hx hb dX1_takeStep_110 rfl (lv_at hl 2 rfl) ?_
                refine lv_aload_n hx hb dX1_takeStep_111 rfl (lv_at hl 3 rfl) ?_
                refine lv_aload_n hx hb dX1_takeStep_112 rfl (lv_at hl 2 rfl) ?_
                refine tk_geti hC hK hw hT hinX1 kC_at149 (by decide) rfl 7 (by decide) (List.mem_cons_of_mem _ uw_42_7) rfl rfl dX1_takeStep_113 (fun x190 c191 rx190 tx190 => ?_)
                refine wk_top x76 (c191.symm.trans c94) ?_
                obtain rfl : x76 = (-1) := wk_eq.mpr (show x76.toInt = (-1) by first | exact Int.le_antisymm (by omega) (by omega) | omega)
                refine tk_Vv hC hK hw hT hA hE hSR kC_at149 (by decide) rfl (k_X1_follow_2 l adK adV dC dI cy ad B hB0 (Int.le_trans hB1 (by decide)) qr s1   q1_ hkq1_ w85 H.size hT ) (cwV 2 hC.2.2.2.2 uV_RX1_61 rfl rfl rfl (by decide +kernel) ⟨Nat.le_of_ble_eq_true rfl, Nat.le_of_ble_eq_true rfl⟩) rfl hl.1 rfl (Nat.le_of_ble_eq_true rfl) dX1_takeStep_116 (fun w194 H locs hp193 hw => ?_)
                obtain ⟨hT, k195, hg196⟩ := hp193
                have hF := hF.tr k195 (by decide)
                have c197 := k195.gi hkq1_ (by decide) c92
                have c198 := k195.gi (kC_el39 kC_at4 hj68) (by decide) c93
                have c199 := k195.gi kC_at149 (by decide) c94
                have c200 := k195.gi kC_at149 (by decide) c95
                clear hg196
                refine lv_goto (tgt := 155) hx hb dX1_takeStep_119 (by decide) ?_
                exact J155 r83 x78 x60 H locs ls w194 (show 0 ≤ x78.toInt by first | with_reducible assumption | omega) (show x78.toInt ≤ 999999 by first | with_reducible assumption | omega)  hw (hT.up (show B ≤ (B + 9) by omega)) hF c200 c197 (lv_sub hl [2, 3, 0] rfl)
            · have c157 : r83.toInt = (0 : Int) := wk_eq.mp c157
              refine lv_aload_n hx hb dX1_takeStep_93 rfl (lv_at hl 2 rfl) ?_
              refine lv_aload_n hx hb dX1_takeStep_94 rfl (lv_at hl 3 rfl) ?_
              refine lv_aload_n hx hb dX1_takeStep_95 rfl (lv_at hl 2 rfl) ?_
              refine tk_geti hC hK hw hT hinX1 kC_at149 (by decide) rfl 5 (by decide) (List.mem_cons_of_mem _ uw_42_6) rfl rfl dX1_takeStep_96 (fun x201 c202 rx201 tx201 => ?_)
              refine tk_Vv hC hK hw hT hA hE hSR kC_at149 (by decide) rfl (k_X1_follow_1 l adK adV dC dI cy ad B hB0 (Int.le_trans hB1 (by decide)) qr s1   q1_ hkq1_ x201 (show (-1) ≤ x201.toInt from rx201) (show x201.toInt ≤ 11 from tx201) w85 H.size hT ) (cwV 2 hC.2.2.2.2 uV_RX1_61 rfl rfl rfl (by decide +kernel) ⟨Nat.le_of_ble_eq_true rfl, Nat.le_of_ble_eq_true rfl⟩) rfl hl.1 rfl (Nat.le_of_ble_eq_true rfl) dX1_takeStep_99 (fun w205 H locs hp204 hw => ?_)
              obtain ⟨hT, k206, hg207⟩ := hp204
              have hF := hF.tr k206 (by decide)
              have c208 := k206.gi hkq1_ (by decide) c92
              have c209 := k206.gi (kC_el39 kC_at4 hj68) (by decide) c93
              have c210 := k206.gi kC_at149 (by decide) c94
              have c211 := k206.gi kC_at149 (by decide) c95
              have c212 := k206.gi kC_at149 (by decide) c202
              clear hg207
              refine lv_goto (tgt := 155) hx hb dX1_takeStep_102 (by decide) ?_
              exact J155 r83 x78 x60 H locs ls w205 (show 0 ≤ x78.toInt by first | with_reducible assumption | omega) (show x78.toInt ≤ 999999 by first | with_reducible assumption | omega)  hw hT hF c211 c208 (lv_sub hl [2, 3, 0] rfl)
        · have c71 : ¬ x69.toInt = (0 : Int) := wk_eqF c71
          refine lv_iconst (v := 1) hx hb dX1_takeStep_55 (by decide) ?_
          refine lv_goto (tgt := 60) hx hb dX1_takeStep_56 (by decide) ?_
          refine tk_Vv hC hK hw hT hA hE hSR kC_at149 (by decide) rfl (k_X1_lookAround_2 l adK adV dC dI cy ad B hB0 (Int.le_trans hB1 (by decide)) qr s1   q1_ hkq1_ w57 H.size hT ) (cwV 2 hC.2.2.2.2 uV_RX1_47 rfl rfl rfl (by decide +kernel) ⟨Nat.le_of_ble_eq_true rfl, Nat.le_of_ble_eq_true rfl⟩) rfl hl.1 rfl (Nat.le_of_ble_eq_true rfl) dX1_takeStep_60 (fun w215 H locs hp214 hw => ?_)
          obtain ⟨hT, k216, hg219⟩ := hp214
          have hF := hF.tr k216 (by decide)
          have c220 := k216.gi hkq1_ (by decide) c61
          have c221 := k216.gi (kC_el39 kC_at4 hj68) (by decide) c70
          obtain ⟨x217, c218, rx217, tx217⟩ := hg219
          refine lv_aload_n hx hb dX1_takeStep_63 rfl (lv_at hl 0 rfl) ?_
          refine lv_ifnull hx hb dX1_takeStep_64 ?_
          refine lv_aload_n hx hb dX1_takeStep_67 rfl (lv_at hl 1 rfl) ?_
          refine lv_aload_n hx hb dX1_takeStep_68 rfl (lv_at hl 2 rfl) ?_
          refine lv_aload_n hx hb dX1_takeStep_69 rfl (lv_at hl 0 rfl) ?_
          refine tk_Vi hC hK hw hT hA hE hSR kC_at149 (by decide) rfl (k_X1_chooseDeed_1 l adK adV dC dI cy ad B hB0 (Int.le_trans hB1 (by decide)) qr s1   q1_ hkq1_ (el 39 4 j68) (kC_el39 kC_at4 hj68) w215 H.size hT ) (cwV 2 hC.2.2.2.2 uV_RX1_51 rfl rfl rfl (by decide +kernel) ⟨Nat.le_of_ble_eq_true rfl, Nat.le_of_ble_eq_true rfl⟩) rfl hl.1 rfl (Nat.le_of_ble_eq_true rfl) dX1_takeStep_70 (fun r222 w224 H locs hp223 hw => ?_)
          obtain ⟨hT, k225, hg230⟩ := hp223
          have hF := hF.tr k225 (by decide)
          have c231 := k225.gi hkq1_ (by decide) c220
          have c232 := k225.gi (kC_el39 kC_at4 hj68) (by decide) c221
          have c233 := k225.gi kC_at149 (by decide) c218
          rcases hg230 with ⟨x226, c227, rx226, tx226⟩ | ⟨g228, g229⟩
          · refine lv_goto (tgt := 88) hx hb dX1_takeStep_73 (by decide) ?_
            refine lv_istore_n (lv' := [(3, .int r222), (2, .ref (ad (el 39 4 j68))), (0, .ref (ad 149)), (1, .ref (ad q1_))]) hx hb dX1_takeStep_88 rfl hl (by decide) rfl (fun ls hl => ?_)
            refine lv_iload_n hx hb dX1_takeStep_89 rfl (lv_at hl 0 rfl) ?_
            refine lv_if_ne (tgt := 105) hx hb dX1_takeStep_90 (by decide) (fun c234 => ?_) (fun c234 => ?_)
            · have c234 : ¬ r222.toInt = (0 : Int) := wk_eqF c234
              refine lv_iload_n hx hb dX1_takeStep_105 rfl (lv_at hl 0 rfl) ?_
              refine lv_iconst (v := 1) hx hb dX1_takeStep_106 (by decide) ?_
              refine lv_icmp_ne (tgt := 122) hx hb dX1_takeStep_107 (by decide) (fun c235 => ?_) (fun c235 => ?_)
              · have c235 : ¬ r222.toInt = (1 : Int) := wk_eqF c235
                refine lv_iload_n hx hb dX1_takeStep_122 rfl (lv_at hl 0 rfl) ?_
                refine lv_iconst (v := 2) hx hb dX1_takeStep_123 (by decide) ?_
                refine lv_icmp_ne (tgt := 145) hx hb dX1_takeStep_124 (by decide) (fun c236 => ?_) (fun c236 => ?_)
                · have c236 : ¬ r222.toInt = (2 : Int) := wk_eqF c236
                  exact J145 r222 x217 x60 H locs ls w224 (show 0 ≤ x217.toInt by first | with_reducible assumption | omega) (show x217.toInt ≤ 999999 by first | with_reducible assumption | omega)  hw hT hF c233 c231 (lv_sub hl [2, 3, 0] rfl)
                · have c236 : r222.toInt = (2 : Int) := wk_eq.mp c236
                  refine lv_aload_n hx hb dX1_takeStep_127 rfl (lv_at hl 3 rfl) ?_
                  refine lv_aload_n hx hb dX1_takeStep_128 rfl (lv_at hl 3 rfl) ?_
                  refine tk_Vl hC hK hw hT hA hE hSR hkq1_ (by decide) rfl (k_X9_dayNow_1 l adK adV dC dI cy ad B hB0 (Int.le_trans hB1 (by decide)) qr s1   q1_ hkq1_ w224 H.size hT ) (cwV 0 hC.2.2.2.2 uV_RX1_68 rfl rfl rfl (by decide +kernel) ⟨Nat.le_of_ble_eq_true rfl, Nat.le_of_ble_eq_true rfl⟩) rfl hl.1 rfl (Nat.le_of_ble_eq_true rfl) dX1_takeStep_129 (fun r237 w239 H locs hp238 hw => ?_)
                  obtain ⟨hT, k240, hg243⟩ := hp238
                  have hF := hF.tr k240 (by decide)
                  have c244 := k240.gi hkq1_ (by decide) c231
                  have c245 := k240.gi (kC_el39 kC_at4 hj68) (by decide) c232
                  have c246 := k240.gi kC_at149 (by decide) c233
                  have c247 := k240.gi (kC_el39 kC_at4 hj68) (by decide) c227
                  obtain ⟨g241, g242⟩ := hg243
                  refine tk_putl hC hK hw hT hinX9 tyX9_ok nmX9 hkq1_ (by decide) rfl rfl 8 (by decide) (List.mem_cons_of_mem _ uw_42_8) rfl rfl rfl rfl (wk_i64 r237).1 (wk_i64 r237).2 dX1_takeStep_132 (fun H locs w248 hw hT k250 c249 => ?_)
                  have hF := hF.put hkq1_ (k := 8) (by decide) k250
                  have c251 := k250.gi (Or.inr (by decide)) c244
                  have c252 := k250.gi (Or.inr (by decide)) c245
                  have c253 := k250.gi (Or.inl (tk_ne kC_at149 hkq1_ (by decide))) c246
                  have c254 := k250.gi (Or.inr (by decide)) c247
                  refine lv_aload_n hx hb dX1_takeStep_135 rfl (lv_at hl 3 rfl) ?_
                  refine lv_dup hx hb dX1_takeStep_136 rfl ?_
                  refine tk_geti hC hK hw hT hinX9 hkq1_ (by decide) rfl 6 (by decide) (List.mem_cons_of_mem _ uw_42_9) rfl rfl dX1_takeStep_137 (fun x255 c256 rx255 tx255 => ?_)
                  refine lv_iconst (v := 1) hx hb dX1_takeStep_140 (by decide) ?_
                  refine lv_iadd hx hb dX1_takeStep_141 ?_
                  have nx257 := wk_i32 x255
                  refine lv_topi (fun x258 ex258 => ?_)
                  refine tk_puti hC hK hw hT hinX9 tyX9_ok nmX9 hkq1_ (by decide) rfl rfl 6 (by decide) (List.mem_cons_of_mem _ uw_42_9) rfl rfl rfl rfl (wk_i32 x258).1 (wk_i32 x258).2 dX1_takeStep_142 (fun H locs w259 hw hT k261 c260 => ?_)
                  have hF := hF.put hkq1_ (k := 6) (by decide) k261
                  have c262 := k261.gi (Or.inr (by decide)) c251
                  have c263 := k261.gi (Or.inr (by decide)) c252
                  have c264 := k261.gi (Or.inr (by decide)) c253
                  have c265 := k261.gi (Or.inr (by decide)) c254
                  have c266 := k261.gl (Or.inr (by decide)) c249
                  exact J145 r222 x217 x60 H locs ls w259 (show 0 ≤ x217.toInt by first | with_reducible assumption | omega) (show x217.toInt ≤ 999999 by first | with_reducible assumption | omega)  hw hT hF c264 c262 (lv_sub hl [2, 3, 0] rfl)
              · have c235 : r222.toInt = (1 : Int) := wk_eq.mp c235
                refine lv_aload_n hx hb dX1_takeStep_110 rfl (lv_at hl 2 rfl) ?_
                refine lv_aload_n hx hb dX1_takeStep_111 rfl (lv_at hl 3 rfl) ?_
                refine lv_aload_n hx hb dX1_takeStep_112 rfl (lv_at hl 2 rfl) ?_
                refine tk_geti hC hK hw hT hinX1 kC_at149 (by decide) rfl 7 (by decide) (List.mem_cons_of_mem _ uw_42_7) rfl rfl dX1_takeStep_113 (fun x267 c268 rx267 tx267 => ?_)
                refine tk_Vv hC hK hw hT hA hE hSR kC_at149 (by decide) rfl (k_X1_follow_1 l adK adV dC dI cy ad B hB0 (Int.le_trans hB1 (by decide)) qr s1   q1_ hkq1_ x267 (show (-1) ≤ x267.toInt from rx267) (show x267.toInt ≤ 11 from tx267) w224 H.size hT ) (cwV 2 hC.2.2.2.2 uV_RX1_61 rfl rfl rfl (by decide +kernel) ⟨Nat.le_of_ble_eq_true rfl, Nat.le_of_ble_eq_true rfl⟩) rfl hl.1 rfl (Nat.le_of_ble_eq_true rfl) dX1_takeStep_116 (fun w271 H locs hp270 hw => ?_)
                obtain ⟨hT, k272, hg273⟩ := hp270
                have hF := hF.tr k272 (by decide)
                have c274 := k272.gi hkq1_ (by decide) c231
                have c275 := k272.gi (kC_el39 kC_at4 hj68) (by decide) c232
                have c276 := k272.gi kC_at149 (by decide) c233
                have c277 := k272.gi (kC_el39 kC_at4 hj68) (by decide) c227
                have c278 := k272.gi kC_at149 (by decide) c268
                clear hg273
                refine lv_goto (tgt := 155) hx hb dX1_takeStep_119 (by decide) ?_
                exact J155 r222 x217 x60 H locs ls w271 (show 0 ≤ x217.toInt by first | with_reducible assumption | omega) (show x217.toInt ≤ 999999 by first | with_reducible assumption | omega)  hw hT hF c276 c274 (lv_sub hl [2, 3, 0] rfl)
            · have c234 : r222.toInt = (0 : Int) := wk_eq.mp c234
              refine lv_aload_n hx hb dX1_takeStep_93 rfl (lv_at hl 2 rfl) ?_
              refine lv_aload_n hx hb dX1_takeStep_94 rfl (lv_at hl 3 rfl) ?_
              refine lv_aload_n hx hb dX1_takeStep_95 rfl (lv_at hl 2 rfl) ?_
              refine tk_geti hC hK hw hT hinX1 kC_at149 (by decide) rfl 5 (by decide) (List.mem_cons_of_mem _ uw_42_6) rfl rfl dX1_takeStep_96 (fun x279 c280 rx279 tx279 => ?_)
              refine tk_Vv hC hK hw hT hA hE hSR kC_at149 (by decide) rfl (k_X1_follow_1 l adK adV dC dI cy ad B hB0 (Int.le_trans hB1 (by decide)) qr s1   q1_ hkq1_ x279 (show (-1) ≤ x279.toInt from rx279) (show x279.toInt ≤ 11 from tx279) w224 H.size hT ) (cwV 2 hC.2.2.2.2 uV_RX1_61 rfl rfl rfl (by decide +kernel) ⟨Nat.le_of_ble_eq_true rfl, Nat.le_of_ble_eq_true rfl⟩) rfl hl.1 rfl (Nat.le_of_ble_eq_true rfl) dX1_takeStep_99 (fun w283 H locs hp282 hw => ?_)
              obtain ⟨hT, k284, hg285⟩ := hp282
              have hF := hF.tr k284 (by decide)
              have c286 := k284.gi hkq1_ (by decide) c231
              have c287 := k284.gi (kC_el39 kC_at4 hj68) (by decide) c232
              have c288 := k284.gi kC_at149 (by decide) c233
              have c289 := k284.gi (kC_el39 kC_at4 hj68) (by decide) c227
              have c290 := k284.gi kC_at149 (by decide) c280
              clear hg285
              refine lv_goto (tgt := 155) hx hb dX1_takeStep_102 (by decide) ?_
              exact J155 r222 x217 x60 H locs ls w283 (show 0 ≤ x217.toInt by first | with_reducible assumption | omega) (show x217.toInt ≤ 999999 by first | with_reducible assumption | omega)  hw hT hF c288 c286 (lv_sub hl [2, 3, 0] rfl)
          · refine lv_goto (tgt := 88) hx hb dX1_takeStep_73 (by decide) ?_
            refine lv_istore_n (lv' := [(3, .int r222), (2, .ref (ad (el 39 4 j68))), (0, .ref (ad 149)), (1, .ref (ad q1_))]) hx hb dX1_takeStep_88 rfl hl (by decide) rfl (fun ls hl => ?_)
            refine lv_iload_n hx hb dX1_takeStep_89 rfl (lv_at hl 0 rfl) ?_
            refine lv_if_ne (tgt := 105) hx hb dX1_takeStep_90 (by decide) (fun c291 => ?_) (fun c291 => ?_)
            · have c291 : ¬ r222.toInt = (0 : Int) := wk_eqF c291
              refine lv_iload_n hx hb dX1_takeStep_105 rfl (lv_at hl 0 rfl) ?_
              refine lv_iconst (v := 1) hx hb dX1_takeStep_106 (by decide) ?_
              refine lv_icmp_ne (tgt := 122) hx hb dX1_takeStep_107 (by decide) (fun c292 => ?_) (fun c292 => ?_)
              · have c292 : ¬ r222.toInt = (1 : Int) := wk_eqF c292
                refine lv_iload_n hx hb dX1_takeStep_122 rfl (lv_at hl 0 rfl) ?_
                refine lv_iconst (v := 2) hx hb dX1_takeStep_123 (by decide) ?_
                refine lv_icmp_ne (tgt := 145) hx hb dX1_takeStep_124 (by decide) (fun c293 => ?_) (fun c293 => ?_)
                · have c293 : ¬ r222.toInt = (2 : Int) := wk_eqF c293
                  exact J145 r222 x217 x60 H locs ls w224 (show 0 ≤ x217.toInt by first | with_reducible assumption | omega) (show x217.toInt ≤ 999999 by first | with_reducible assumption | omega)  hw hT hF c233 c231 (lv_sub hl [2, 3, 0] rfl)
                · have c293 : r222.toInt = (2 : Int) := wk_eq.mp c293
                  refine lv_aload_n hx hb dX1_takeStep_127 rfl (lv_at hl 3 rfl) ?_
                  refine lv_aload_n hx hb dX1_takeStep_128 rfl (lv_at hl 3 rfl) ?_
                  refine tk_Vl hC hK hw hT hA hE hSR hkq1_ (by decide) rfl (k_X9_dayNow_1 l adK adV dC dI cy ad B hB0 (Int.le_trans hB1 (by decide)) qr s1   q1_ hkq1_ w224 H.size hT ) (cwV 0 hC.2.2.2.2 uV_RX1_68 rfl rfl rfl (by decide +kernel) ⟨Nat.le_of_ble_eq_true rfl, Nat.le_of_ble_eq_true rfl⟩) rfl hl.1 rfl (Nat.le_of_ble_eq_true rfl) dX1_takeStep_129 (fun r294 w296 H locs hp295 hw => ?_)
                  obtain ⟨hT, k297, hg300⟩ := hp295
                  have hF := hF.tr k297 (by decide)
                  have c301 := k297.gi hkq1_ (by decide) c231
                  have c302 := k297.gi (kC_el39 kC_at4 hj68) (by decide) c232
                  have c303 := k297.gi kC_at149 (by decide) c233
                  obtain ⟨g298, g299⟩ := hg300
                  refine tk_putl hC hK hw hT hinX9 tyX9_ok nmX9 hkq1_ (by decide) rfl rfl 8 (by decide) (List.mem_cons_of_mem _ uw_42_8) rfl rfl rfl rfl (wk_i64 r294).1 (wk_i64 r294).2 dX1_takeStep_132 (fun H locs w304 hw hT k306 c305 => ?_)
                  have hF := hF.put hkq1_ (k := 8) (by decide) k306
                  have c307 := k306.gi (Or.inr (by decide)) c301
                  have c308 := k306.gi (Or.inr (by decide)) c302
                  have c309 := k306.gi (Or.inl (tk_ne kC_at149 hkq1_ (by decide))) c303
                  refine lv_aload_n hx hb dX1_takeStep_135 rfl (lv_at hl 3 rfl) ?_
                  refine lv_dup hx hb dX1_takeStep_136 rfl ?_
                  refine tk_geti hC hK hw hT hinX9 hkq1_ (by decide) rfl 6 (by decide) (List.mem_cons_of_mem _ uw_42_9) rfl rfl dX1_takeStep_137 (fun x310 c311 rx310 tx310 => ?_)
                  refine lv_iconst (v := 1) hx hb dX1_takeStep_140 (by decide) ?_
                  refine lv_iadd hx hb dX1_takeStep_141 ?_
                  have nx312 := wk_i32 x310
                  refine lv_topi (fun x313 ex313 => ?_)
                  refine tk_puti hC hK hw hT hinX9 tyX9_ok nmX9 hkq1_ (by decide) rfl rfl 6 (by decide) (List.mem_cons_of_mem _ uw_42_9) rfl rfl rfl rfl (wk_i32 x313).1 (wk_i32 x313).2 dX1_takeStep_142 (fun H locs w314 hw hT k316 c315 => ?_)
                  have hF := hF.put hkq1_ (k := 6) (by decide) k316
                  have c317 := k316.gi (Or.inr (by decide)) c307
                  have c318 := k316.gi (Or.inr (by decide)) c308
                  have c319 := k316.gi (Or.inr (by decide)) c309
                  have c320 := k316.gl (Or.inr (by decide)) c305
                  exact J145 r222 x217 x60 H locs ls w314 (show 0 ≤ x217.toInt by first | with_reducible assumption | omega) (show x217.toInt ≤ 999999 by first | with_reducible assumption | omega)  hw hT hF c319 c317 (lv_sub hl [2, 3, 0] rfl)
              · have c292 : r222.toInt = (1 : Int) := wk_eq.mp c292
                refine lv_aload_n hx hb dX1_takeStep_110 rfl (lv_at hl 2 rfl) ?_
                refine lv_aload_n hx hb dX1_takeStep_111 rfl (lv_at hl 3 rfl) ?_
                refine lv_aload_n hx hb dX1_takeStep_112 rfl (lv_at hl 2 rfl) ?_
                refine tk_geti hC hK hw hT hinX1 kC_at149 (by decide) rfl 7 (by decide) (List.mem_cons_of_mem _ uw_42_7) rfl rfl dX1_takeStep_113 (fun x321 c322 rx321 tx321 => ?_)
                refine tk_Vv hC hK hw hT hA hE hSR kC_at149 (by decide) rfl (k_X1_follow_1 l adK adV dC dI cy ad B hB0 (Int.le_trans hB1 (by decide)) qr s1   q1_ hkq1_ x321 (show (-1) ≤ x321.toInt from rx321) (show x321.toInt ≤ 11 from tx321) w224 H.size hT ) (cwV 2 hC.2.2.2.2 uV_RX1_61 rfl rfl rfl (by decide +kernel) ⟨Nat.le_of_ble_eq_true rfl, Nat.le_of_ble_eq_true rfl⟩) rfl hl.1 rfl (Nat.le_of_ble_eq_true rfl) dX1_takeStep_116 (fun w325 H locs hp324 hw => ?_)
                obtain ⟨hT, k326, hg327⟩ := hp324
                have hF := hF.tr k326 (by decide)
                have c328 := k326.gi hkq1_ (by decide) c231
                have c329 := k326.gi (kC_el39 kC_at4 hj68) (by decide) c232
                have c330 := k326.gi kC_at149 (by decide) c233
                have c331 := k326.gi kC_at149 (by decide) c322
                clear hg327
                refine lv_goto (tgt := 155) hx hb dX1_takeStep_119 (by decide) ?_
                exact J155 r222 x217 x60 H locs ls w325 (show 0 ≤ x217.toInt by first | with_reducible assumption | omega) (show x217.toInt ≤ 999999 by first | with_reducible assumption | omega)  hw hT hF c330 c328 (lv_sub hl [2, 3, 0] rfl)
            · have c291 : r222.toInt = (0 : Int) := wk_eq.mp c291
              refine lv_aload_n hx hb dX1_takeStep_93 rfl (lv_at hl 2 rfl) ?_
              refine lv_aload_n hx hb dX1_takeStep_94 rfl (lv_at hl 3 rfl) ?_
              refine lv_aload_n hx hb dX1_takeStep_95 rfl (lv_at hl 2 rfl) ?_
              refine tk_geti hC hK hw hT hinX1 kC_at149 (by decide) rfl 5 (by decide) (List.mem_cons_of_mem _ uw_42_6) rfl rfl dX1_takeStep_96 (fun x332 c333 rx332 tx332 => ?_)
              refine tk_Vv hC hK hw hT hA hE hSR kC_at149 (by decide) rfl (k_X1_follow_1 l adK adV dC dI cy ad B hB0 (Int.le_trans hB1 (by decide)) qr s1   q1_ hkq1_ x332 (show (-1) ≤ x332.toInt from rx332) (show x332.toInt ≤ 11 from tx332) w224 H.size hT ) (cwV 2 hC.2.2.2.2 uV_RX1_61 rfl rfl rfl (by decide +kernel) ⟨Nat.le_of_ble_eq_true rfl, Nat.le_of_ble_eq_true rfl⟩) rfl hl.1 rfl (Nat.le_of_ble_eq_true rfl) dX1_takeStep_99 (fun w336 H locs hp335 hw => ?_)
              obtain ⟨hT, k337, hg338⟩ := hp335
              have hF := hF.tr k337 (by decide)
              have c339 := k337.gi hkq1_ (by decide) c231
              have c340 := k337.gi (kC_el39 kC_at4 hj68) (by decide) c232
              have c341 := k337.gi kC_at149 (by decide) c233
              have c342 := k337.gi kC_at149 (by decide) c333
              clear hg338
              refine lv_goto (tgt := 155) hx hb dX1_takeStep_102 (by decide) ?_
              exact J155 r222 x217 x60 H locs ls w336 (show 0 ≤ x217.toInt by first | with_reducible assumption | omega) (show x217.toInt ≤ 999999 by first | with_reducible assumption | omega)  hw hT hF c341 c339 (lv_sub hl [2, 3, 0] rfl)
  · refine lv_if_eq (tgt := 9) hx hb dX1_takeStep_4 (by decide) (fun c => absurd c (by decide)) (fun _ => ?_)
    refine lv_iconst (v := 4) hx hb dX1_takeStep_7 (by decide) ?_
    exact tk_iret hC hr hlocks hK ⟨(hT.up (show B ≤ (B + 9) by omega)), hF, (Or.inr rfl)⟩ hw dX1_takeStep_8
abbrev P_X1_takeSteps_1 (ad : Nat → Nat) (cy : Nat → ClassId) (B : Int) (qr : Nat) (s1 : Int) (q1_ : Nat) (a2 : Int32) (w0 : va_W) : Int32 → va_W → Prop := fun r u => TW ksC ad cy (B + 1800) qr s1 u ∧ FE ksC [(1, 4, 4), (1, 5, 5), (1, 6, 6), (1, 7, 7), (1, 8, 8), (9, 0, 0), (9, 4, 4), (9, 5, 5), (9, 6, 6), (9, 7, 7), (9, 8, 8), (45, 0, 64)] w0 u ∧ ((0 ≤ r.toInt ∧ r.toInt ≤ 200))
set_option maxHeartbeats 4000000 in
set_option maxRecDepth 100000 in
theorem k_X1_takeSteps_1 (l : Launch) (adK adV : Nat → Nat) (dC : Nat → ClassId) (dI : Nat → Nat → Nat) (cy : Nat → ClassId) (ad : Nat → Nat) (B : Int) (hB0 : 2147483648 ≤ B) (hB1 : B ≤ 1152921504606845185) (qr : Nat) (s1 : Int)  (q1_ : Nat) (hkq1_ : ksC[q1_]? = some 9) (a2 : Int32) (ra2 : 1 ≤ a2.toInt) (ta2 : a2.toInt ≤ 200) (w0 : va_W) (sz : Nat) (hT : TW ksC ad cy B qr s1 w0)  : Met l yX1_takeSteps (wu yX1_takeSteps cX1_takeSteps 4 (some .int)) ({ frames := 6, cells := 0, slots := 0, locals := 135 }) (va_Pc [.ref (ad 149), .ref (ad q1_), .int a2] (wpreS adK adV dC dI cy sz w0)) (va_Qi (P_X1_takeSteps_1 ad cy B qr s1 q1_ a2 w0) (fun u : va_W => wpost dC dI cy (va_A w0 sz) u) (va_A w0 sz)) 0 0 (va_A w0 sz) := by
  refine Met.ofW (cc := cX1_takeSteps) (maxL := 4) (ret := (some .int)) (by decide) rfl ?_
  intro p e s m args below meth c s₁ Bk hml hv
  obtain ⟨rfl, ⟨hsz, hP, hK, hD0⟩, hE, hSR⟩ := hv
  have hx := Bk.exec
  have hb := Bk.bytes
  have hr := Bk.returns
  have hlocks := Bk.notSynchronized
  have hC : CallFix p m c cX1_takeSteps 4 s _ (wu yX1_takeSteps cX1_takeSteps 4 (some .int)) RX1 := ⟨hx, hb, hml, findClass_of_methodNamed Bk.named, atoms_spec (ws := (wu yX1_takeSteps cX1_takeSteps 4 (some .int))) Bk.pre⟩
  subst hsz
  have hD := hD0.self (sz := s.heap.size)
  generalize hAe : va_A w0 s.heap.size = A at hD hE ⊢
  have hA : ∀ q : Nat, s.heap.size ≤ q → A q := fun q h => by rw [← hAe]; exact Or.inr h
  have hw : Wd dC dI A s.heap s.heap [] w0 := ⟨hP, hD, va_S.rf⟩
  have hF : FE ksC [(1, 4, 4), (1, 5, 5), (1, 6, 6), (1, 7, 7), (1, 8, 8), (9, 0, 0), (9, 4, 4), (9, 5, 5), (9, 6, 6), (9, 7, 7), (9, 8, 8), (45, 0, 64)] w0 w0 := FE.rf
  have hl := lv_entry ([.ref (ad 149), .ref (ad q1_), .int a2]) (n := 4) (Nat.le_of_ble_eq_true rfl)
  rw [lg_entry_eq]
  generalize (lg_sl ([.ref (ad 149), .ref (ad q1_), .int a2]) ++ List.replicate (4 - (lg_sl ([.ref (ad 149), .ref (ad q1_), .int a2])).length) Slot.unset).toArray = ls at hl ⊢
  have hl : lv_has ls 4 [(0, .ref (ad 149)), (1, .ref (ad q1_)), (2, .int a2)] := hl
  generalize hloc : ([] : List Loc) = locs at hw ⊢
  have L2 : ∀ (n2 : Nat) (v2_3 : Int32) (H : Heap) (locs : List Loc) (ls : Array Slot) (w1 : va_W), 1 ≤ a2.toInt → a2.toInt ≤ 200 → 0 ≤ v2_3.toInt → v2_3.toInt ≤ 200 → (200 - v2_3.toInt).toNat < n2 → Wd dC dI A s.heap H locs w1 → TW ksC ad cy (B + 0 + 9 * v2_3.toInt) qr s1 w1 → FE ksC [(1, 4, 4), (1, 5, 5), (1, 6, 6), (1, 7, 7), (1, 8, 8), (9, 0, 0), (9, 4, 4), (9, 5, 5), (9, 6, 6), (9, 7, 7), (9, 8, 8), (45, 0, 64)] w0 w1 → lv_has ls 4 [(0, .ref (ad 149)), (1, .ref (ad q1_)), (2, .int a2), (3, .int v2_3)] → W p l e ({ frames := 6, cells := 0, slots := 0, locals := 135 }) s m (List.toArray [.ref (ad 149), .ref (ad q1_), .int a2]) below meth c H locs 0 0 (MQ below (va_Qi (P_X1_takeSteps_1 ad cy B qr s1 q1_ a2 w0) (fun u : va_W => wpost dC dI cy A u) A) (List.toArray [.ref (ad 149), .ref (ad q1_), .int a2]) s 0 0 A) (F0 m 2 ls []) := by
    intro n2
    induction n2 with
    | zero => intro v2_3 H locs ls w1 r2 t3 r4 t5 hm2 hw hT hF hl; omega
    | succ n2 ih2 =>
      intro v2_3 H locs ls w1 r2 t3 r4 t5 hm2 hw hT hF hl
      refine lv_iload_n hx hb dX1_takeSteps_2 rfl (lv_at hl 3 rfl) ?_
      refine lv_iload_n hx hb dX1_takeSteps_3 rfl (lv_at hl 2 rfl) ?_
      refine lv_icmp_ge (tgt := 24) hx hb dX1_takeSteps_4 (by decide) (fun c6 => ?_) (fun c6 => ?_)
      · have c6 : a2.toInt ≤ v2_3.toInt := wk_le.mp c6
        refine lv_iload_n hx hb dX1_takeSteps_24 rfl (lv_at hl 2 rfl) ?_
        exact tk_iret hC hr hlocks hK ⟨(hT.up (show (B + 0 + 9 * v2_3.toInt) ≤ (B + 1800) by omega)), hF, ⟨(show 0 ≤ a2.toInt from Int.le_trans (by decide) r2), (show a2.toInt ≤ 200 from t3)⟩⟩ hw dX1_takeSteps_25
      · have c6 : v2_3.toInt < a2.toInt := wk_leF c6
        refine lv_aload_n hx hb dX1_takeSteps_7 rfl (lv_at hl 0 rfl) ?_
        refine lv_aload_n hx hb dX1_takeSteps_8 rfl (lv_at hl 1 rfl) ?_
        refine tk_Vi hC hK hw hT hA hE hSR kC_at149 (by decide) rfl (k_X1_takeStep_1 l adK adV dC dI cy ad (B + 0 + 9 * v2_3.toInt) (by omega) (by omega) qr s1   q1_ hkq1_ w1 H.size hT ) (cwV 1 hC.2.2.2.2 uV_RX1_27 rfl rfl rfl (by decide +kernel) ⟨Nat.le_of_ble_eq_true rfl, Nat.le_of_ble_eq_true rfl⟩) rfl hl.1 rfl (Nat.le_of_ble_eq_true rfl) dX1_takeSteps_9 (fun r7 w9 H locs hp8 hw => ?_)
        obtain ⟨hT, k10, hg13⟩ := hp8
        have hT := hT.up (B' := (B + 9 + 9 * v2_3.toInt)) (by omega)
        have hF := hF.tr k10 (by decide)
        rcases hg13 with ⟨x11, c12, rx11, tx11⟩ | rfl
        · refine lv_iconst (v := 4) hx hb dX1_takeSteps_12 (by decide) ?_
          refine lv_icmp_ne (tgt := 18) hx hb dX1_takeSteps_13 (by decide) (fun c14 => ?_) (fun c14 => ?_)
          · have c14 : ¬ r7.toInt = (4 : Int) := wk_eqF c14
            obtain ⟨x15, ex15⟩ : ∃ y : Int32, y = v2_3 + Int32.ofInt 1 := ⟨_, rfl⟩
            refine lv_iinc (v := x15) (lv' := [(3, .int x15), (0, .ref (ad 149)), (1, .ref (ad q1_)), (2, .int a2)]) hx hb dX1_takeSteps_18 hl (k := 3) rfl ex15.symm (by decide) rfl (fun ls hl => ?_)
            have ex15 : x15.toInt = v2_3.toInt + 1 := by rw [ex15]; exact wk_add (y := 1) (show -2147483648 ≤ v2_3.toInt + 1 by omega) (show v2_3.toInt + 1 ≤ 2147483647 by omega)
            refine lv_goto (tgt := 2) hx hb dX1_takeSteps_21 (by decide) ?_
            exact ih2 x15 H locs ls w9 (show 1 ≤ a2.toInt from r2) (show a2.toInt ≤ 200 from t3) (show 0 ≤ x15.toInt by first | with_reducible assumption | omega) (show x15.toInt ≤ 200 by first | with_reducible assumption | omega) (show (200 - x15.toInt).toNat < n2 by first | exact tn_lt hm2 (by omega) (by omega) | omega) hw (hT.up (show (B + 9 + 9 * v2_3.toInt) ≤ (B + 0 + 9 * x15.toInt) by omega)) hF  (lv_sub hl [1, 2, 3, 0] rfl)
          · have c14 : r7.toInt = (4 : Int) := wk_eq.mp c14
            refine lv_iload_n hx hb dX1_takeSteps_16 rfl (lv_at hl 3 rfl) ?_
            exact tk_iret hC hr hlocks hK ⟨(hT.up (show (B + 9 + 9 * v2_3.toInt) ≤ (B + 1800) by omega)), hF, ⟨(show 0 ≤ v2_3.toInt from r4), (show v2_3.toInt ≤ 200 from t5)⟩⟩ hw dX1_takeSteps_17
        · refine lv_iconst (v := 4) hx hb dX1_takeSteps_12 (by decide) ?_
          refine lv_icmp_ne (tgt := 18) hx hb dX1_takeSteps_13 (by decide) (fun c => absurd (by decide) c) (fun _ => ?_)
          refine lv_iload_n hx hb dX1_takeSteps_16 rfl (lv_at hl 3 rfl) ?_
          exact tk_iret hC hr hlocks hK ⟨(hT.up (show (B + 9 + 9 * v2_3.toInt) ≤ (B + 1800) by omega)), hF, ⟨(show 0 ≤ v2_3.toInt from r4), (show v2_3.toInt ≤ 200 from t5)⟩⟩ hw dX1_takeSteps_17
  refine lv_iconst (v := 0) hx hb dX1_takeSteps_0 (by decide) ?_
  refine lv_istore_n (lv' := [(3, .int 0), (0, .ref (ad 149)), (1, .ref (ad q1_)), (2, .int a2)]) hx hb dX1_takeSteps_1 rfl hl (by decide) rfl (fun ls hl => ?_)
  exact L2 ((200 - (0 : Int)).toNat + 1) 0 s.heap locs ls w0 (show 1 ≤ a2.toInt from ra2) (show a2.toInt ≤ 200 from ta2) (by decide) (by decide) (Nat.lt_succ_self _) hw (hT.up (show B ≤ (B + 0 + 9 * (0 : Int32).toInt) by rw [show (0 : Int32).toInt = 0 by decide]; omega)) hF  (lv_sub hl [1, 2, 3, 0] rfl)
abbrev P_X11_step_1 (ad : Nat → Nat) (cy : Nat → ClassId) (B : Int) (qr : Nat) (s1 : Int) (a1 : Int32) (a2 : Int32) (w0 : va_W) : Int32 → va_W → Prop := fun r u => TW ksC ad cy (B + 1800) qr s1 u ∧ FA ksC [(1, 4, 4), (1, 5, 5), (1, 6, 6), (1, 7, 7), (1, 8, 8), (9, 0, 0), (9, 4, 4), (9, 5, 5), (9, 6, 6), (9, 7, 7), (9, 8, 8), (42, 0, 1100), (43, 0, 1100), (44, 0, 11), (45, 0, 64)] w0 u ∧ ((0 ≤ r.toInt ∧ r.toInt ≤ 9 ∧ 0 ≤ a1.toInt ∧ a1.toInt ≤ 3 ∧ 1 ≤ a2.toInt ∧ a2.toInt ≤ 200 ∧ (∃ y : Int32, gi u 38 9 = y ∧ 1 ≤ y.toInt ∧ y.toInt ≤ 4)) ∨ (r = (-1)))
set_option maxHeartbeats 4000000 in
set_option maxRecDepth 100000 in
theorem k_X11_step_1 (l : Launch) (adK adV : Nat → Nat) (dC : Nat → ClassId) (dI : Nat → Nat → Nat) (cy : Nat → ClassId) (ad : Nat → Nat) (B : Int) (hB0 : 2147483648 ≤ B) (hB1 : B ≤ 1152921504606845185) (qr : Nat) (s1 : Int)  (a1 : Int32) (a2 : Int32) (w0 : va_W) (sz : Nat) (hT : TW ksC ad cy B qr s1 w0)  : Met l yX11_step (wu yX11_step cX11_step 4 (some .int)) ({ frames := 7, cells := 0, slots := 0, locals := 158 }) (va_Pc [.ref (ad 0), .int a1, .int a2] (wpreS adK adV dC dI cy sz w0)) (va_Qi (P_X11_step_1 ad cy B qr s1 a1 a2 w0) (fun u : va_W => wpost dC dI cy (va_A w0 sz) u) (va_A w0 sz)) 0 0 (va_A w0 sz) := by
  refine Met.ofW (cc := cX11_step) (maxL := 4) (ret := (some .int)) (by decide) rfl ?_
  intro p e s m args below meth c s₁ Bk hml hv
  obtain ⟨rfl, ⟨hsz, hP, hK, hD0⟩, hE, hSR⟩ := hv
  have hx := Bk.exec
  have hb := Bk.bytes
  have hr := Bk.returns
  have hlocks := Bk.notSynchronized
  have hC : CallFix p m c cX11_step 4 s _ (wu yX11_step cX11_step 4 (some .int)) RX11 := ⟨hx, hb, hml, findClass_of_methodNamed Bk.named, atoms_spec (ws := (wu yX11_step cX11_step 4 (some .int))) Bk.pre⟩
  subst hsz
  have hD := hD0.self (sz := s.heap.size)
  generalize hAe : va_A w0 s.heap.size = A at hD hE ⊢
  have hA : ∀ q : Nat, s.heap.size ≤ q → A q := fun q h => by rw [← hAe]; exact Or.inr h
  have hw : Wd dC dI A s.heap s.heap [] w0 := ⟨hP, hD, va_S.rf⟩
  have hF : FA ksC [(1, 4, 4), (1, 5, 5), (1, 6, 6), (1, 7, 7), (1, 8, 8), (9, 0, 0), (9, 4, 4), (9, 5, 5), (9, 6, 6), (9, 7, 7), (9, 8, 8), (42, 0, 1100), (43, 0, 1100), (44, 0, 11), (45, 0, 64)] w0 w0 := FA.rf
  have hl := lv_entry ([.ref (ad 0), .int a1, .int a2]) (n := 4) (Nat.le_of_ble_eq_true rfl)
  rw [lg_entry_eq]
  generalize (lg_sl ([.ref (ad 0), .int a1, .int a2]) ++ List.replicate (4 - (lg_sl ([.ref (ad 0), .int a1, .int a2])).length) Slot.unset).toArray = ls at hl ⊢
  have hl : lv_has ls 4 [(0, .ref (ad 0)), (1, .int a1), (2, .int a2)] := hl
  generalize hloc : ([] : List Loc) = locs at hw ⊢
  have hinX11 : ∀ w ∈ u_ws RX11 TX11 13, w ∈ (wu yX11_step cX11_step 4 (some .int)) := fun _ h => List.mem_cons_of_mem _ (up_70 h)
  have hinX5 : ∀ w ∈ u_ws RX5 TX5 14, w ∈ (wu yX11_step cX11_step 4 (some .int)) := fun _ h => List.mem_cons_of_mem _ (up_76 h)
  have hinX9 : ∀ w ∈ u_ws RX9 TX9 9, w ∈ (wu yX11_step cX11_step 4 (some .int)) := fun _ h => List.mem_cons_of_mem _ (up_82 h)
  have J20 : ∀ (H : Heap) (locs : List Loc) (ls : Array Slot) (w1 : va_W), Wd dC dI A s.heap H locs w1 → TW ksC ad cy B qr s1 w1 → FA ksC [(1, 4, 4), (1, 5, 5), (1, 6, 6), (1, 7, 7), (1, 8, 8), (9, 0, 0), (9, 4, 4), (9, 5, 5), (9, 6, 6), (9, 7, 7), (9, 8, 8), (42, 0, 1100), (43, 0, 1100), (44, 0, 11), (45, 0, 64)] w0 w1 → lv_has ls 4 [(0, .ref (ad 0)), (1, .int a1), (2, .int a2)] → W p l e ({ frames := 7, cells := 0, slots := 0, locals := 158 }) s m (List.toArray [.ref (ad 0), .int a1, .int a2]) below meth c H locs 0 0 (MQ below (va_Qi (P_X11_step_1 ad cy B qr s1 a1 a2 w0) (fun u : va_W => wpost dC dI cy A u) A) (List.toArray [.ref (ad 0), .int a1, .int a2]) s 0 0 A) (F0 m 20 ls []) := by
    intro H locs ls w1 hw hT hF hl
    refine lv_iconst (v := (-1)) hx hb dX11_step_20 (by decide) ?_
    exact tk_iret hC hr hlocks hK ⟨(hT.up (show B ≤ (B + 1800) by omega)), hF, (Or.inr rfl)⟩ hw dX11_step_21
  refine lv_aload_n hx hb dX11_step_0 rfl (lv_at hl 0 rfl) ?_
  refine lv_iload_n hx hb dX11_step_1 rfl (lv_at hl 1 rfl) ?_
  refine tk_Vi hC hK hw hT hA hE hSR kC_at0 (by decide) rfl (k_X11_hasWalker_1 l adK adV dC dI cy ad B hB0 (Int.le_trans hB1 (by decide)) qr s1   a1 w0 s.heap.size hT ) (cwV 1 hC.2.2.2.2 uV_RX11_205 rfl rfl rfl (by decide +kernel) ⟨Nat.le_of_ble_eq_true rfl, Nat.le_of_ble_eq_true rfl⟩) rfl hl.1 rfl (Nat.le_of_ble_eq_true rfl) dX11_step_2 (fun r2 w4 H locs hp3 hw => ?_)
  obtain ⟨hT, k5, hg10⟩ := hp3
  have hF := hF.tr k5 (by decide)
  rcases hg10 with rfl | ⟨rfl, g6, g7, ⟨x8, c9, rx8, tx8⟩⟩
  · refine lv_if_eq (tgt := 20) hx hb dX11_step_5 (by decide) (fun _ => ?_) (fun c => absurd (by decide) c)
    exact J20  H locs ls w4   hw hT hF  (lv_sub hl [0, 1, 2] rfl)
  · refine lv_if_eq (tgt := 20) hx hb dX11_step_5 (by decide) (fun c => absurd c (by decide)) (fun _ => ?_)
    refine lv_iload_n hx hb dX11_step_8 rfl (lv_at hl 2 rfl) ?_
    refine lv_iconst (v := 1) hx hb dX11_step_9 (by decide) ?_
    refine lv_icmp_lt (tgt := 20) hx hb dX11_step_10 (by decide) (fun c11 => ?_) (fun c11 => ?_)
    · have c11 : a2.toInt < (1 : Int) := wk_lt.mp c11
      exact J20  H locs ls w4   hw hT hF  (lv_sub hl [0, 1, 2] rfl)
    · have c11 : (1 : Int) ≤ a2.toInt := wk_ltF c11
      refine lv_iload_n hx hb dX11_step_13 rfl (lv_at hl 2 rfl) ?_
      refine lv_sipush (v := 200) hx hb dX11_step_14 (by decide) ?_
      refine lv_icmp_le (tgt := 22) hx hb dX11_step_17 (by decide) (fun c12 => ?_) (fun c12 => ?_)
      · have c12 : a2.toInt ≤ (200 : Int) := wk_le.mp c12
        refine lv_aload_n hx hb dX11_step_22 rfl (lv_at hl 0 rfl) ?_
        refine tk_getA hC hK hw hT hinX11 kC_at0 (by decide) rfl 7 (by decide) (List.mem_cons_of_mem _ uw_1_14) rfl rfl dX11_step_23 ?_
        refine tk_Vv hC hK hw hT hA hE hSR kC_at145 (by decide) rfl (kz_X0_refreshAll_1 l adK adV dC dI cy ad B hB0 (Int.le_trans hB1 (by decide)) qr s1    w4 H.size hT ) (cwV 0 hC.2.2.2.2 uV_RX11_212 rfl rfl rfl (by decide +kernel) ⟨Nat.le_of_ble_eq_true rfl, Nat.le_of_ble_eq_true rfl⟩) rfl hl.1 rfl (Nat.le_of_ble_eq_true rfl) dX11_step_26 (fun w15 H locs hp14 hw => ?_)
        obtain ⟨hT, k16, hev, hg17⟩ := hp14
        have hF := hF.ra k16 hev (by decide)
        have c18 := k16.gi kC_at38 (by decide) c9
        clear hg17
        refine lv_aload_n hx hb dX11_step_29 rfl (lv_at hl 0 rfl) ?_
        refine tk_getA hC hK hw hT hinX11 kC_at0 (by decide) rfl 4 (by decide) (List.mem_cons_of_mem _ uw_1_7) rfl rfl dX11_step_30 ?_
        refine tk_getO hC hK hw hT hinX5 kC_at38 (by decide) rfl 2 (by decide) (List.mem_cons_of_mem _ uw_39_0) rfl rfl dX11_step_33 ?_
        refine lv_iload_n hx hb dX11_step_36 rfl (lv_at hl 1 rfl) ?_
        refine tk_aald hC hK hw hT kC_at49 rfl (by decide) rfl (show 0 ≤ a1.toInt by first | with_reducible assumption | omega) (show a1.toInt < 4 by first | with_reducible assumption | omega) dX11_step_37 (fun j19 hj19 gj19 => ?_)
        refine lv_astore_n (lv' := [(3, .ref (ad (el 33 49 j19))), (0, .ref (ad 0)), (1, .int a1), (2, .int a2)]) hx hb dX11_step_38 rfl hl (by decide) rfl (fun ls hl => ?_)
        refine lv_aload_n hx hb dX11_step_39 rfl (lv_at hl 1 rfl) ?_
        refine tk_getA hC hK hw hT hinX11 kC_at0 (by decide) rfl 8 (by decide) (List.mem_cons_of_mem _ uw_1_18) rfl rfl dX11_step_40 ?_
        refine lv_aload_n hx hb dX11_step_43 rfl (lv_at hl 0 rfl) ?_
        refine lv_iload_n hx hb dX11_step_44 rfl (lv_at hl 3 rfl) ?_
        refine tk_Vi hC hK hw hT hA hE hSR kC_at149 (by decide) rfl (k_X1_takeSteps_1 l adK adV dC dI cy ad B hB0 (Int.le_trans hB1 (by decide)) qr s1   (el 33 49 j19) (kC_el33 kC_at49 hj19) a2 (show 1 ≤ a2.toInt from c11) (show a2.toInt ≤ 200 from c12) w15 H.size hT ) (cwV 2 hC.2.2.2.2 uV_RX11_215 rfl rfl rfl (by decide +kernel) ⟨Nat.le_of_ble_eq_true rfl, Nat.le_of_ble_eq_true rfl⟩) rfl hl.1 rfl (Nat.le_of_ble_eq_true rfl) dX11_step_45 (fun r20 w22 H locs hp21 hw => ?_)
        obtain ⟨hT, k23, hg26⟩ := hp21
        have hF := hF.tr k23 (by decide)
        have c27 := k23.gi kC_at38 (by decide) c18
        obtain ⟨g24, g25⟩ := hg26
        refine lv_pop hx hb dX11_step_48 rfl ?_
        refine lv_aload_n hx hb dX11_step_49 rfl (lv_at hl 0 rfl) ?_
        refine tk_geti hC hK hw hT hinX9 (kC_el33 kC_at49 hj19) (by decide) rfl 0 (by decide) (List.mem_cons_of_mem _ uw_41_12) rfl rfl dX11_step_50 (fun x28 c29 rx28 tx28 => ?_)
        exact tk_iret hC hr hlocks hK ⟨hT, hF, (Or.inl ⟨(show 0 ≤ x28.toInt by first | with_reducible assumption | omega), (show x28.toInt ≤ 9 by first | with_reducible assumption | omega), (show 0 ≤ a1.toInt by first | with_reducible assumption | omega), (show a1.toInt ≤ 3 by first | with_reducible assumption | omega), (show 1 ≤ a2.toInt from c11), (show a2.toInt ≤ 200 from c12), ⟨x8, c27, (show 1 ≤ x8.toInt by first | with_reducible assumption | omega), (show x8.toInt ≤ 4 by first | with_reducible assumption | omega)⟩⟩)⟩ hw dX11_step_53
      · have c12 : (200 : Int) < a2.toInt := wk_leF c12
        exact J20  H locs ls w4   hw hT hF  (lv_sub hl [0, 1, 2] rfl)
abbrev P_X11_isAskedHour_1 (ad : Nat → Nat) (cy : Nat → ClassId) (B : Int) (qr : Nat) (s1 : Int) (a0 : Int32) (w0 : va_W) : Int32 → va_W → Prop := fun r u => TW ksC ad cy B qr s1 u ∧ FE ksC ([] : List (Nat × Nat × Nat)) w0 u ∧ ((r = 0) ∨ (r = 1 ∧ 0 ≤ a0.toInt ∧ a0.toInt ≤ 99999))
set_option maxHeartbeats 4000000 in
set_option maxRecDepth 100000 in
theorem k_X11_isAskedHour_1 (l : Launch) (adK adV : Nat → Nat) (dC : Nat → ClassId) (dI : Nat → Nat → Nat) (cy : Nat → ClassId) (ad : Nat → Nat) (B : Int) (hB0 : 2147483648 ≤ B) (hB1 : B ≤ 1152921504606846976) (qr : Nat) (s1 : Int)  (a0 : Int32) (w0 : va_W) (sz : Nat) (hT : TW ksC ad cy B qr s1 w0)  : Met l yX11_isAskedHour (wu yX11_isAskedHour cX11_isAskedHour 1 (some .boolean)) ({ frames := 1, cells := 0, slots := 0, locals := 12 }) (va_Pc [.int a0] (wpreS adK adV dC dI cy sz w0)) (va_Qi (P_X11_isAskedHour_1 ad cy B qr s1 a0 w0) (fun u : va_W => wpost dC dI cy (va_A w0 sz) u) (va_A w0 sz)) 0 0 (va_A w0 sz) := by
  refine Met.ofW (cc := cX11_isAskedHour) (maxL := 1) (ret := (some .boolean)) (by decide) rfl ?_
  intro p e s m args below meth c s₁ Bk hml hv
  obtain ⟨rfl, ⟨hsz, hP, hK, hD0⟩, hE, hSR⟩ := hv
  have hx := Bk.exec
  have hb := Bk.bytes
  have hr := Bk.returns
  have hlocks := Bk.notSynchronized
  have hC : CallFix p m c cX11_isAskedHour 1 s _ (wu yX11_isAskedHour cX11_isAskedHour 1 (some .boolean)) RX11 := ⟨hx, hb, hml, findClass_of_methodNamed Bk.named, atoms_spec (ws := (wu yX11_isAskedHour cX11_isAskedHour 1 (some .boolean))) Bk.pre⟩
  subst hsz
  have hD := hD0.self (sz := s.heap.size)
  generalize hAe : va_A w0 s.heap.size = A at hD hE ⊢
  have hA : ∀ q : Nat, s.heap.size ≤ q → A q := fun q h => by rw [← hAe]; exact Or.inr h
  have hw : Wd dC dI A s.heap s.heap [] w0 := ⟨hP, hD, va_S.rf⟩
  have hF : FE ksC ([] : List (Nat × Nat × Nat)) w0 w0 := FE.rf
  have hl := lv_entry ([.int a0]) (n := 1) (Nat.le_of_ble_eq_true rfl)
  rw [lg_entry_eq]
  generalize (lg_sl ([.int a0]) ++ List.replicate (1 - (lg_sl ([.int a0])).length) Slot.unset).toArray = ls at hl ⊢
  have hl : lv_has ls 1 [(0, .int a0)] := hl
  generalize hloc : ([] : List Loc) = locs at hw ⊢
  have J15 : ∀ (H : Heap) (locs : List Loc) (ls : Array Slot) (w1 : va_W), Wd dC dI A s.heap H locs w1 → TW ksC ad cy B qr s1 w1 → FE ksC ([] : List (Nat × Nat × Nat)) w0 w1 → lv_has ls 1 [(0, .int a0)] → W p l e ({ frames := 1, cells := 0, slots := 0, locals := 12 }) s m (List.toArray [.int a0]) below meth c H locs 0 0 (MQ below (va_Qi (P_X11_isAskedHour_1 ad cy B qr s1 a0 w0) (fun u : va_W => wpost dC dI cy A u) A) (List.toArray [.int a0]) s 0 0 A) (F0 m 15 ls []) := by
    intro H locs ls w1 hw hT hF hl
    refine lv_iconst (v := 0) hx hb dX11_isAskedHour_15 (by decide) ?_
    exact tk_zret hC hr rfl hlocks hK ⟨hT, hF, (Or.inl rfl)⟩ hw dX11_isAskedHour_16
  refine lv_iload_n hx hb dX11_isAskedHour_0 rfl (lv_at hl 0 rfl) ?_
  refine lv_if_lt (tgt := 15) hx hb dX11_isAskedHour_1 (by decide) (fun c2 => ?_) (fun c2 => ?_)
  · have c2 : a0.toInt < (0 : Int) := wk_lt.mp c2
    exact J15  s.heap locs ls w0   hw hT hF  (lv_sub hl [0] rfl)
  · have c2 : (0 : Int) ≤ a0.toInt := wk_ltF c2
    refine lv_iload_n hx hb dX11_isAskedHour_4 rfl (lv_at hl 0 rfl) ?_
    refine lv_ldcw (v := 99999) hx hb hC.2.2.2.1 (hC.2.2.2.2 _ (List.mem_cons_of_mem _ uw_49_13)) dX11_isAskedHour_5 ?_
    refine lv_icmp_gt (tgt := 15) hx hb dX11_isAskedHour_8 (by decide) (fun c3 => ?_) (fun c3 => ?_)
    · have c3 : (99999 : Int) < a0.toInt := wk_lt.mp c3
      exact J15  s.heap locs ls w0   hw hT hF  (lv_sub hl [0] rfl)
    · have c3 : a0.toInt ≤ (99999 : Int) := wk_ltF c3
      refine lv_iconst (v := 1) hx hb dX11_isAskedHour_11 (by decide) ?_
      refine lv_goto (tgt := 16) hx hb dX11_isAskedHour_12 (by decide) ?_
      exact tk_zret hC hr rfl hlocks hK ⟨hT, hF, (Or.inr ⟨rfl, (show 0 ≤ a0.toInt from c2), (show a0.toInt ≤ 99999 from c3)⟩)⟩ hw dX11_isAskedHour_16
abbrev P_X7_openHours_7 (ad : Nat → Nat) (cy : Nat → ClassId) (B : Int) (qr : Nat) (s1 : Int) (a1 : Int32) (a3 : Int64) (w0 : va_W) : Int32 → va_W → Prop := fun r u => TW ksC ad cy B qr s1 u ∧ FE ksC ([] : List (Nat × Nat × Nat)) w0 u ∧ ((0 ≤ r.toInt ∧ r.toInt ≤ 16777215))
set_option maxHeartbeats 4000000 in
set_option maxRecDepth 100000 in
theorem k_X7_openHours_7 (l : Launch) (adK adV : Nat → Nat) (dC : Nat → ClassId) (dI : Nat → Nat → Nat) (cy : Nat → ClassId) (ad : Nat → Nat) (B : Int) (hB0 : 2147483648 ≤ B) (hB1 : B ≤ 1152921504606846976) (qr : Nat) (s1 : Int)  (a1 : Int32) (ra1 : 0 ≤ a1.toInt) (ta1 : a1.toInt ≤ 11) (a3 : Int64) (ra3 : 0 ≤ a3.toInt) (ta3 : a3.toInt ≤ 4249) (w0 : va_W) (sz : Nat) (hT : TW ksC ad cy B qr s1 w0)  : Met l yX7_openHours (wu yX7_openHours cX7_openHours 8 (some .int)) ({ frames := 1, cells := 0, slots := 0, locals := 12 }) (va_Pc [.ref (ad 39), .int a1, .int 0, .long a3, .int 1] (wpreS adK adV dC dI cy sz w0)) (va_Qi (P_X7_openHours_7 ad cy B qr s1 a1 a3 w0) (fun u : va_W => wpost dC dI cy (va_A w0 sz) u) (va_A w0 sz)) 0 0 (va_A w0 sz) := by
  refine Met.ofW (cc := cX7_openHours) (maxL := 8) (ret := (some .int)) (by decide) rfl ?_
  intro p e s m args below meth c s₁ Bk hml hv
  obtain ⟨rfl, ⟨hsz, hP, hK, hD0⟩, hE, hSR⟩ := hv
  have hx := Bk.exec
  have hb := Bk.bytes
  have hr := Bk.returns
  have hlocks := Bk.notSynchronized
  have hC : CallFix p m c cX7_openHours 8 s _ (wu yX7_openHours cX7_openHours 8 (some .int)) RX7 := ⟨hx, hb, hml, findClass_of_methodNamed Bk.named, atoms_spec (ws := (wu yX7_openHours cX7_openHours 8 (some .int))) Bk.pre⟩
  subst hsz
  have hD := hD0.self (sz := s.heap.size)
  generalize hAe : va_A w0 s.heap.size = A at hD hE ⊢
  have hA : ∀ q : Nat, s.heap.size ≤ q → A q := fun q h => by rw [← hAe]; exact Or.inr h
  have hw : Wd dC dI A s.heap s.heap [] w0 := ⟨hP, hD, va_S.rf⟩
  have hF : FE ksC ([] : List (Nat × Nat × Nat)) w0 w0 := FE.rf
  have hl := lv_entry ([.ref (ad 39), .int a1, .int 0, .long a3, .int 1]) (n := 8) (Nat.le_of_ble_eq_true rfl)
  rw [lg_entry_eq]
  generalize (lg_sl ([.ref (ad 39), .int a1, .int 0, .long a3, .int 1]) ++ List.replicate (8 - (lg_sl ([.ref (ad 39), .int a1, .int 0, .long a3, .int 1])).length) Slot.unset).toArray = ls at hl ⊢
  have hl : lv_has ls 8 [(0, .ref (ad 39)), (1, .int a1), (2, .int 0), (3, .long a3), (5, .int 1)] := hl
  generalize hloc : ([] : List Loc) = locs at hw ⊢
  have hinX7 : ∀ w ∈ u_ws RX7 TX7 12, w ∈ (wu yX7_openHours cX7_openHours 8 (some .int)) := fun _ h => List.mem_cons_of_mem _ (up_73 h)
  have J93 : ∀ (v93_6 : Int32) (v93_7 : Int32) (H : Heap) (locs : List Loc) (ls : Array Slot) (w1 : va_W), 0 ≤ a1.toInt → a1.toInt ≤ 11 → 0 ≤ a3.toInt → a3.toInt ≤ 4249 → 0 ≤ v93_7.toInt → v93_7.toInt ≤ 8 → Wd dC dI A s.heap H locs w1 → TW ksC ad cy B qr s1 w1 → FE ksC ([] : List (Nat × Nat × Nat)) w0 w1 → lv_has ls 8 [(0, .ref (ad 39)), (1, .int a1), (2, .int 0), (3, .long a3), (5, .int 1), (6, .int v93_6), (7, .int v93_7)] → W p l e ({ frames := 1, cells := 0, slots := 0, locals := 12 }) s m (List.toArray [.ref (ad 39), .int a1, .int 0, .long a3, .int 1]) below meth c H locs 0 0 (MQ below (va_Qi (P_X7_openHours_7 ad cy B qr s1 a1 a3 w0) (fun u : va_W => wpost dC dI cy A u) A) (List.toArray [.ref (ad 39), .int a1, .int 0, .long a3, .int 1]) s 0 0 A) (F0 m 93 ls []) := by
    intro v93_6 v93_7 H locs ls w1 r2 t3 r4 t5 r6 t7 hw hT hF hl
    refine lv_ldc (v := 16777215) hx hb hC.2.2.2.1 (hC.2.2.2.2 _ (List.mem_cons_of_mem _ uw_31_17)) dX7_openHours_93 ?_
    refine lv_aload_n hx hb dX7_openHours_95 rfl (lv_at hl 0 rfl) ?_
    refine tk_getO hC hK hw hT hinX7 kC_at39 (by decide) rfl 3 (by decide) (List.mem_cons_of_mem _ uw_2_20) rfl rfl dX7_openHours_96 ?_
    refine lv_iload_n hx hb dX7_openHours_99 rfl (lv_at hl 1 rfl) ?_
    refine tk_iald hC hK hw hT kC_at43 rfl rfl (show 0 ≤ a1.toInt from r2) (show a1.toInt < 13 from Int.lt_of_le_of_lt t3 (by decide)) dX7_openHours_100 (fun x8 c9 rx8 tx8 => ?_)
    refine lv_iconst (v := (-1)) hx hb dX7_openHours_101 (by decide) ?_
    refine lv_ixor hx hb dX7_openHours_102 ?_
    refine lv_topi (fun x10 ex10 => ?_)
    refine lv_iand hx hb dX7_openHours_103 ?_
    refine lv_topi (fun x11 ex11 => ?_)
    have bx11 : 0 ≤ x11.toInt ∧ x11.toInt ≤ (16777215 : Int) := by rw [ex11]; exact wk_andC (by decide)
    exact tk_iret hC hr hlocks hK ⟨hT, hF, ⟨(show 0 ≤ x11.toInt by first | with_reducible assumption | omega), (show x11.toInt ≤ 16777215 by first | with_reducible assumption | omega)⟩⟩ hw dX7_openHours_104
  have L44 : ∀ (n44 : Nat) (v44_6 : Int32) (v44_7 : Int32) (H : Heap) (locs : List Loc) (ls : Array Slot) (w12 : va_W), 0 ≤ a1.toInt → a1.toInt ≤ 11 → 0 ≤ a3.toInt → a3.toInt ≤ 4249 → 0 ≤ v44_7.toInt → v44_7.toInt ≤ 8 → (8 - v44_7.toInt).toNat < n44 → Wd dC dI A s.heap H locs w12 → TW ksC ad cy B qr s1 w12 → FE ksC ([] : List (Nat × Nat × Nat)) w0 w12 → lv_has ls 8 [(0, .ref (ad 39)), (1, .int a1), (2, .int 0), (3, .long a3), (5, .int 1), (6, .int v44_6), (7, .int v44_7)] → W p l e ({ frames := 1, cells := 0, slots := 0, locals := 12 }) s m (List.toArray [.ref (ad 39), .int a1, .int 0, .long a3, .int 1]) below meth c H locs 0 0 (MQ below (va_Qi (P_X7_openHours_7 ad cy B qr s1 a1 a3 w0) (fun u : va_W => wpost dC dI cy A u) A) (List.toArray [.ref (ad 39), .int a1, .int 0, .long a3, .int 1]) s 0 0 A) (F0 m 44 ls []) := by
    intro n44
    induction n44 with
    | zero => intro v44_6 v44_7 H locs ls w12 r13 t14 r15 t16 r17 t18 hm44 hw hT hF hl; omega
    | succ n44 ih44 =>
      intro v44_6 v44_7 H locs ls w12 r13 t14 r15 t16 r17 t18 hm44 hw hT hF hl
      have J81 : ∀ (H : Heap) (locs : List Loc) (ls : Array Slot) (w19 : va_W), 0 ≤ a1.toInt → a1.toInt ≤ 11 → 0 ≤ a3.toInt → a3.toInt ≤ 4249 → 0 ≤ v44_7.toInt → v44_7.toInt ≤ 7 → Wd dC dI A s.heap H locs w19 → TW ksC ad cy B qr s1 w19 → FE ksC ([] : List (Nat × Nat × Nat)) w0 w19 → lv_has ls 8 [(0, .ref (ad 39)), (1, .int a1), (2, .int 0), (3, .long a3), (5, .int 1), (6, .int v44_6), (7, .int v44_7)] → W p l e ({ frames := 1, cells := 0, slots := 0, locals := 12 }) s m (List.toArray [.ref (ad 39), .int a1, .int 0, .long a3, .int 1]) below meth c H locs 0 0 (MQ below (va_Qi (P_X7_openHours_7 ad cy B qr s1 a1 a3 w0) (fun u : va_W => wpost dC dI cy A u) A) (List.toArray [.ref (ad 39), .int a1, .int 0, .long a3, .int 1]) s 0 0 A) (F0 m 81 ls []) := by
        intro H locs ls w19 r20 t21 r22 t23 r24 t25 hw hT hF hl
        refine lv_iload hx hb dX7_openHours_81 (lv_at hl 5 rfl) ?_
        refine lv_iconst (v := 1) hx hb dX7_openHours_83 (by decide) ?_
        refine lv_ishr hx hb dX7_openHours_84 ?_
        refine lv_topi (fun x26 ex26 => ?_)
        refine lv_istore (lv' := [(6, .int x26), (0, .ref (ad 39)), (1, .int a1), (2, .int 0), (3, .long a3), (5, .int 1), (7, .int v44_7)]) hx hb dX7_openHours_85 hl (by decide) rfl (fun ls hl => ?_)
        obtain ⟨x27, ex27⟩ : ∃ y : Int32, y = v44_7 + Int32.ofInt 1 := ⟨_, rfl⟩
        refine lv_iinc (v := x27) (lv' := [(7, .int x27), (6, .int x26), (0, .ref (ad 39)), (1, .int a1), (2, .int 0), (3, .long a3), (5, .int 1)]) hx hb dX7_openHours_87 hl (k := 6) rfl ex27.symm (by decide) rfl (fun ls hl => ?_)
        have ex27 : x27.toInt = v44_7.toInt + 1 := by rw [ex27]; exact wk_add (y := 1) (show -2147483648 ≤ v44_7.toInt + 1 by omega) (show v44_7.toInt + 1 ≤ 2147483647 by omega)
        refine lv_goto (tgt := 44) hx hb dX7_openHours_90 (by decide) ?_
        exact ih44 x26 x27 H locs ls w19 (show 0 ≤ a1.toInt from r20) (show a1.toInt ≤ 11 from t21) (show 0 ≤ a3.toInt from r22) (show a3.toInt ≤ 4249 from t23) (show 0 ≤ x27.toInt by first | with_reducible assumption | omega) (show x27.toInt ≤ 8 by first | with_reducible assumption | omega) (show (8 - x27.toInt).toNat < n44 by first | exact tn_lt hm44 (by omega) (by omega) | omega) hw hT hF  (lv_sub hl [2, 3, 4, 5, 6, 1, 0] rfl)
      refine lv_iload hx hb dX7_openHours_44 (lv_at hl 5 rfl) ?_
      refine lv_if_eq (tgt := 93) hx hb dX7_openHours_46 (by decide) (fun c28 => ?_) (fun c28 => ?_)
      · have c28 : v44_6.toInt = (0 : Int) := wk_eq.mp c28
        exact J93 v44_6 v44_7 H locs ls w12 (show 0 ≤ a1.toInt from r13) (show a1.toInt ≤ 11 from t14) (show 0 ≤ a3.toInt from r15) (show a3.toInt ≤ 4249 from t16) (show 0 ≤ v44_7.toInt from r17) (show v44_7.toInt ≤ 8 from t18)  hw hT hF  (lv_sub hl [0, 1, 2, 3, 4, 5, 6] rfl)
      · have c28 : ¬ v44_6.toInt = (0 : Int) := wk_eqF c28
        refine lv_iload hx hb dX7_openHours_49 (lv_at hl 6 rfl) ?_
        refine lv_bipush (v := 8) hx hb dX7_openHours_51 (by decide) ?_
        refine lv_icmp_ge (tgt := 93) hx hb dX7_openHours_53 (by decide) (fun c29 => ?_) (fun c29 => ?_)
        · have c29 : (8 : Int) ≤ v44_7.toInt := wk_le.mp c29
          exact J93 v44_6 v44_7 H locs ls w12 (show 0 ≤ a1.toInt from r13) (show a1.toInt ≤ 11 from t14) (show 0 ≤ a3.toInt from r15) (show a3.toInt ≤ 4249 from t16) (show 0 ≤ v44_7.toInt from r17) (show v44_7.toInt ≤ 8 from t18)  hw hT hF  (lv_sub hl [0, 1, 2, 3, 4, 5, 6] rfl)
        · have c29 : v44_7.toInt < (8 : Int) := wk_leF c29
          refine lv_iload hx hb dX7_openHours_56 (lv_at hl 5 rfl) ?_
          refine lv_iconst (v := 1) hx hb dX7_openHours_58 (by decide) ?_
          refine lv_iand hx hb dX7_openHours_59 ?_
          refine lv_topi (fun x30 ex30 => ?_)
          have bx30 : 0 ≤ x30.toInt ∧ x30.toInt ≤ (1 : Int) := by rw [ex30]; exact wk_and (by decide)
          refine lv_if_eq (tgt := 81) hx hb dX7_openHours_60 (by decide) (fun c31 => ?_) (fun c31 => ?_)
          · have c31 : x30.toInt = (0 : Int) := wk_eq.mp c31
            exact J81  H locs ls w12 (show 0 ≤ a1.toInt from r13) (show a1.toInt ≤ 11 from t14) (show 0 ≤ a3.toInt from r15) (show a3.toInt ≤ 4249 from t16) (show 0 ≤ v44_7.toInt from r17) (show v44_7.toInt ≤ 7 by first | with_reducible assumption | omega)  hw hT hF  (lv_sub hl [0, 1, 2, 3, 4, 5, 6] rfl)
          · have c31 : ¬ x30.toInt = (0 : Int) := wk_eqF c31
            refine lv_aload_n hx hb dX7_openHours_63 rfl (lv_at hl 0 rfl) ?_
            refine tk_getO hC hK hw hT hinX7 kC_at39 (by decide) rfl 6 (by decide) (List.mem_cons_of_mem _ uw_2_23) rfl rfl dX7_openHours_64 ?_
            refine lv_iload hx hb dX7_openHours_67 (lv_at hl 6 rfl) ?_
            refine tk_iald hC hK hw hT kC_at46 rfl rfl (show 0 ≤ v44_7.toInt from r17) (show v44_7.toInt < 8 from c29) dX7_openHours_69 (fun x32 c33 rx32 tx32 => ?_)
            refine lv_lload_n hx hb dX7_openHours_70 rfl (lv_at hl 3 rfl) ?_
            refine lv_ldc2 (v := 360) hx hb hC.2.2.2.1 (hC.2.2.2.2 _ (List.mem_cons_of_mem _ uw_31_16)) dX7_openHours_71 ?_
            refine lv_lrem hx hb dX7_openHours_74 (by decide) ?_
            refine lv_topl (fun x34 ex34 => ?_)
            have ex34 : x34.toInt = a3.toInt % (360 : Int) := by rw [ex34]; exact wk_reml (show 0 ≤ a3.toInt from r15) (show 0 < (360 : Int) by decide)
            refine lv_l2i hx hb dX7_openHours_75 rfl ?_
            refine lv_topi (fun x35 ex35 => ?_)
            have ex35 : x35.toInt = x34.toInt := by rw [ex35]; exact wk_l2i (by omega) (by omega)
            refine lv_icmp_ne (tgt := 81) hx hb dX7_openHours_76 (by decide) (fun c36 => ?_) (fun c36 => ?_)
            · have c36 : ¬ x32.toInt = x35.toInt := wk_eqF c36
              exact J81  H locs ls w12 (show 0 ≤ a1.toInt from r13) (show a1.toInt ≤ 11 from t14) (show 0 ≤ a3.toInt from r15) (show a3.toInt ≤ 4249 from t16) (show 0 ≤ v44_7.toInt from r17) (show v44_7.toInt ≤ 7 by first | with_reducible assumption | omega)  hw hT hF  (lv_sub hl [0, 1, 2, 3, 4, 5, 6] rfl)
            · have c36 : x32.toInt = x35.toInt := wk_eq.mp c36
              refine lv_iconst (v := 0) hx hb dX7_openHours_79 (by decide) ?_
              exact tk_iret hC hr hlocks hK ⟨hT, hF, ⟨(by decide), (by decide)⟩⟩ hw dX7_openHours_80
  refine lv_aload_n hx hb dX7_openHours_0 rfl (lv_at hl 0 rfl) ?_
  refine tk_getO hC hK hw hT hinX7 kC_at39 (by decide) rfl 4 (by decide) (List.mem_cons_of_mem _ uw_2_21) rfl rfl dX7_openHours_1 ?_
  refine lv_iconst (v := 2) hx hb dX7_openHours_4 (by decide) ?_
  refine lv_iload_n hx hb dX7_openHours_5 rfl (lv_at hl 1 rfl) ?_
  refine lv_imul hx hb dX7_openHours_6 ?_
  refine lv_topi (fun x37 ex37 => ?_)
  have ex37 : x37.toInt = (2 : Int) * a1.toInt := by rw [ex37]; exact wk_mul (show (-2147483648) ≤ (2 : Int) * a1.toInt by omega) (show (2 : Int) * a1.toInt ≤ 2147483647 by omega)
  refine lv_iload_n hx hb dX7_openHours_7 rfl (lv_at hl 2 rfl) ?_
  refine lv_iadd hx hb dX7_openHours_8 ?_
  refine lv_topi (fun x38 ex38 => ?_)
  have ex38 : x38.toInt = x37.toInt + (0 : Int) := by rw [ex38]; exact wk_add (show (-2147483648) ≤ x37.toInt + (0 : Int) by omega) (show x37.toInt + (0 : Int) ≤ 2147483647 by omega)
  refine tk_iald hC hK hw hT kC_at44 rfl rfl (show 0 ≤ x38.toInt by first | with_reducible assumption | omega) (show x38.toInt < 26 by first | with_reducible assumption | omega) dX7_openHours_9 (fun x39 c40 rx39 tx39 => ?_)
  refine lv_lload_n hx hb dX7_openHours_10 rfl (lv_at hl 3 rfl) ?_
  refine lv_ldc2 (v := 7) hx hb hC.2.2.2.1 (hC.2.2.2.2 _ (List.mem_cons_of_mem _ uw_31_15)) dX7_openHours_11 ?_
  refine lv_lrem hx hb dX7_openHours_14 (by decide) ?_
  refine lv_topl (fun x41 ex41 => ?_)
  have ex41 : x41.toInt = a3.toInt % (7 : Int) := by rw [ex41]; exact wk_reml (show 0 ≤ a3.toInt from ra3) (show 0 < (7 : Int) by decide)
  refine lv_l2i hx hb dX7_openHours_15 rfl ?_
  refine lv_topi (fun x42 ex42 => ?_)
  have ex42 : x42.toInt = x41.toInt := by rw [ex42]; exact wk_l2i (by omega) (by omega)
  refine lv_ishr hx hb dX7_openHours_16 ?_
  refine lv_topi (fun x43 ex43 => ?_)
  refine lv_iconst (v := 1) hx hb dX7_openHours_17 (by decide) ?_
  refine lv_iand hx hb dX7_openHours_18 ?_
  refine lv_topi (fun x44 ex44 => ?_)
  have bx44 : 0 ≤ x44.toInt ∧ x44.toInt ≤ (1 : Int) := by rw [ex44]; exact wk_and (by decide)
  refine lv_if_ne (tgt := 24) hx hb dX7_openHours_19 (by decide) (fun c45 => ?_) (fun c45 => ?_)
  · have c45 : ¬ x44.toInt = (0 : Int) := wk_eqF c45
    refine lv_iload hx hb dX7_openHours_24 (lv_at hl 4 rfl) ?_
    refine lv_if_eq (tgt := 38) hx hb dX7_openHours_26 (by decide) (fun c => absurd c (by decide)) (fun _ => ?_)
    refine lv_aload_n hx hb dX7_openHours_29 rfl (lv_at hl 0 rfl) ?_
    refine tk_getO hC hK hw hT hinX7 kC_at39 (by decide) rfl 7 (by decide) (List.mem_cons_of_mem _ uw_3_0) rfl rfl dX7_openHours_30 ?_
    refine lv_iload_n hx hb dX7_openHours_33 rfl (lv_at hl 1 rfl) ?_
    refine tk_iald hC hK hw hT kC_at47 rfl rfl (show 0 ≤ a1.toInt from ra1) (show a1.toInt < 13 from Int.lt_of_le_of_lt ta1 (by decide)) dX7_openHours_34 (fun x46 c47 rx46 tx46 => ?_)
    refine lv_goto (tgt := 39) hx hb dX7_openHours_35 (by decide) ?_
    refine lv_istore (lv' := [(6, .int x46), (0, .ref (ad 39)), (1, .int a1), (2, .int 0), (3, .long a3), (5, .int 1)]) hx hb dX7_openHours_39 hl (by decide) rfl (fun ls hl => ?_)
    refine lv_iconst (v := 0) hx hb dX7_openHours_41 (by decide) ?_
    refine lv_istore (lv' := [(7, .int 0), (6, .int x46), (0, .ref (ad 39)), (1, .int a1), (2, .int 0), (3, .long a3), (5, .int 1)]) hx hb dX7_openHours_42 hl (by decide) rfl (fun ls hl => ?_)
    exact L44 ((8 - (0 : Int)).toNat + 1) x46 0 s.heap locs ls w0 (show 0 ≤ a1.toInt from ra1) (show a1.toInt ≤ 11 from ta1) (show 0 ≤ a3.toInt from ra3) (show a3.toInt ≤ 4249 from ta3) (by decide) (by decide) (Nat.lt_succ_self _) hw hT hF  (lv_sub hl [2, 3, 4, 5, 6, 1, 0] rfl)
  · have c45 : x44.toInt = (0 : Int) := wk_eq.mp c45
    refine lv_iconst (v := 0) hx hb dX7_openHours_22 (by decide) ?_
    exact tk_iret hC hr hlocks hK ⟨hT, hF, ⟨(by decide), (by decide)⟩⟩ hw dX7_openHours_23
abbrev P_X7_isNeverOpen_1 (ad : Nat → Nat) (cy : Nat → ClassId) (B : Int) (qr : Nat) (s1 : Int) (a1 : Int32) (w0 : va_W) : Int32 → va_W → Prop := fun r u => TW ksC ad cy B qr s1 u ∧ FE ksC ([] : List (Nat × Nat × Nat)) w0 u ∧ ((r = 0) ∨ (r = 1))
set_option maxHeartbeats 4000000 in
set_option maxRecDepth 100000 in
theorem k_X7_isNeverOpen_1 (l : Launch) (adK adV : Nat → Nat) (dC : Nat → ClassId) (dI : Nat → Nat → Nat) (cy : Nat → ClassId) (ad : Nat → Nat) (B : Int) (hB0 : 2147483648 ≤ B) (hB1 : B ≤ 1152921504606846976) (qr : Nat) (s1 : Int)  (a1 : Int32) (ra1 : 0 ≤ a1.toInt) (ta1 : a1.toInt ≤ 11) (w0 : va_W) (sz : Nat) (hT : TW ksC ad cy B qr s1 w0)  : Met l yX7_isNeverOpen (wu yX7_isNeverOpen cX7_isNeverOpen 3 (some .boolean)) ({ frames := 1, cells := 0, slots := 0, locals := 12 }) (va_Pc [.ref (ad 39), .int a1, .int 0] (wpreS adK adV dC dI cy sz w0)) (va_Qi (P_X7_isNeverOpen_1 ad cy B qr s1 a1 w0) (fun u : va_W => wpost dC dI cy (va_A w0 sz) u) (va_A w0 sz)) 0 0 (va_A w0 sz) := by
  refine Met.ofW (cc := cX7_isNeverOpen) (maxL := 3) (ret := (some .boolean)) (by decide) rfl ?_
  intro p e s m args below meth c s₁ Bk hml hv
  obtain ⟨rfl, ⟨hsz, hP, hK, hD0⟩, hE, hSR⟩ := hv
  have hx := Bk.exec
  have hb := Bk.bytes
  have hr := Bk.returns
  have hlocks := Bk.notSynchronized
  have hC : CallFix p m c cX7_isNeverOpen 3 s _ (wu yX7_isNeverOpen cX7_isNeverOpen 3 (some .boolean)) RX7 := ⟨hx, hb, hml, findClass_of_methodNamed Bk.named, atoms_spec (ws := (wu yX7_isNeverOpen cX7_isNeverOpen 3 (some .boolean))) Bk.pre⟩
  subst hsz
  have hD := hD0.self (sz := s.heap.size)
  generalize hAe : va_A w0 s.heap.size = A at hD hE ⊢
  have hA : ∀ q : Nat, s.heap.size ≤ q → A q := fun q h => by rw [← hAe]; exact Or.inr h
  have hw : Wd dC dI A s.heap s.heap [] w0 := ⟨hP, hD, va_S.rf⟩
  have hF : FE ksC ([] : List (Nat × Nat × Nat)) w0 w0 := FE.rf
  have hl := lv_entry ([.ref (ad 39), .int a1, .int 0]) (n := 3) (Nat.le_of_ble_eq_true rfl)
  rw [lg_entry_eq]
  generalize (lg_sl ([.ref (ad 39), .int a1, .int 0]) ++ List.replicate (3 - (lg_sl ([.ref (ad 39), .int a1, .int 0])).length) Slot.unset).toArray = ls at hl ⊢
  have hl : lv_has ls 3 [(0, .ref (ad 39)), (1, .int a1), (2, .int 0)] := hl
  generalize hloc : ([] : List Loc) = locs at hw ⊢
  have hinX7 : ∀ w ∈ u_ws RX7 TX7 12, w ∈ (wu yX7_isNeverOpen cX7_isNeverOpen 3 (some .boolean)) := fun _ h => List.mem_cons_of_mem _ (up_73 h)
  have J24 : ∀ (H : Heap) (locs : List Loc) (ls : Array Slot) (w1 : va_W), 0 ≤ a1.toInt → a1.toInt ≤ 11 → Wd dC dI A s.heap H locs w1 → TW ksC ad cy B qr s1 w1 → FE ksC ([] : List (Nat × Nat × Nat)) w0 w1 → lv_has ls 3 [(0, .ref (ad 39)), (1, .int a1), (2, .int 0)] → W p l e ({ frames := 1, cells := 0, slots := 0, locals := 12 }) s m (List.toArray [.ref (ad 39), .int a1, .int 0]) below meth c H locs 0 0 (MQ below (va_Qi (P_X7_isNeverOpen_1 ad cy B qr s1 a1 w0) (fun u : va_W => wpost dC dI cy A u) A) (List.toArray [.ref (ad 39), .int a1, .int 0]) s 0 0 A) (F0 m 24 ls []) := by
    intro H locs ls w1 r2 t3 hw hT hF hl
    refine lv_iconst (v := 1) hx hb dX7_isNeverOpen_24 (by decide) ?_
    refine lv_goto (tgt := 29) hx hb dX7_isNeverOpen_25 (by decide) ?_
    exact tk_zret hC hr rfl hlocks hK ⟨hT, hF, (Or.inr rfl)⟩ hw dX7_isNeverOpen_29
  refine lv_aload_n hx hb dX7_isNeverOpen_0 rfl (lv_at hl 0 rfl) ?_
  refine tk_getO hC hK hw hT hinX7 kC_at39 (by decide) rfl 4 (by decide) (List.mem_cons_of_mem _ uw_2_21) rfl rfl dX7_isNeverOpen_1 ?_
  refine lv_iconst (v := 2) hx hb dX7_isNeverOpen_4 (by decide) ?_
  refine lv_iload_n hx hb dX7_isNeverOpen_5 rfl (lv_at hl 1 rfl) ?_
  refine lv_imul hx hb dX7_isNeverOpen_6 ?_
  refine lv_topi (fun x4 ex4 => ?_)
  have ex4 : x4.toInt = (2 : Int) * a1.toInt := by rw [ex4]; exact wk_mul (show (-2147483648) ≤ (2 : Int) * a1.toInt by omega) (show (2 : Int) * a1.toInt ≤ 2147483647 by omega)
  refine lv_iload_n hx hb dX7_isNeverOpen_7 rfl (lv_at hl 2 rfl) ?_
  refine lv_iadd hx hb dX7_isNeverOpen_8 ?_
  refine lv_topi (fun x5 ex5 => ?_)
  have ex5 : x5.toInt = x4.toInt + (0 : Int) := by rw [ex5]; exact wk_add (show (-2147483648) ≤ x4.toInt + (0 : Int) by omega) (show x4.toInt + (0 : Int) ≤ 2147483647 by omega)
  refine tk_iald hC hK hw hT kC_at44 rfl rfl (show 0 ≤ x5.toInt by first | with_reducible assumption | omega) (show x5.toInt < 26 by first | with_reducible assumption | omega) dX7_isNeverOpen_9 (fun x6 c7 rx6 tx6 => ?_)
  refine lv_if_eq (tgt := 24) hx hb dX7_isNeverOpen_10 (by decide) (fun c8 => ?_) (fun c8 => ?_)
  · have c8 : x6.toInt = (0 : Int) := wk_eq.mp c8
    exact J24  s.heap locs ls w0 (show 0 ≤ a1.toInt from ra1) (show a1.toInt ≤ 11 from ta1)  hw hT hF  (lv_sub hl [0, 1, 2] rfl)
  · have c8 : ¬ x6.toInt = (0 : Int) := wk_eqF c8
    refine lv_aload_n hx hb dX7_isNeverOpen_13 rfl (lv_at hl 0 rfl) ?_
    refine tk_getO hC hK hw hT hinX7 kC_at39 (by decide) rfl 3 (by decide) (List.mem_cons_of_mem _ uw_2_20) rfl rfl dX7_isNeverOpen_14 ?_
    refine lv_iload_n hx hb dX7_isNeverOpen_17 rfl (lv_at hl 1 rfl) ?_
    refine tk_iald hC hK hw hT kC_at43 rfl rfl (show 0 ≤ a1.toInt from ra1) (show a1.toInt < 13 from Int.lt_of_le_of_lt ta1 (by decide)) dX7_isNeverOpen_18 (fun x9 c10 rx9 tx9 => ?_)
    refine lv_ldc (v := 16777215) hx hb hC.2.2.2.1 (hC.2.2.2.2 _ (List.mem_cons_of_mem _ uw_31_17)) dX7_isNeverOpen_19 ?_
    refine lv_icmp_ne (tgt := 28) hx hb dX7_isNeverOpen_21 (by decide) (fun c11 => ?_) (fun c11 => ?_)
    · have c11 : ¬ x9.toInt = (16777215 : Int) := wk_eqF c11
      refine lv_iconst (v := 0) hx hb dX7_isNeverOpen_28 (by decide) ?_
      exact tk_zret hC hr rfl hlocks hK ⟨hT, hF, (Or.inl rfl)⟩ hw dX7_isNeverOpen_29
    · have c11 : x9.toInt = (16777215 : Int) := wk_eq.mp c11
      exact J24  s.heap locs ls w0 (show 0 ≤ a1.toInt from ra1) (show a1.toInt ≤ 11 from ta1)  hw hT hF  (lv_sub hl [0, 1, 2] rfl)
abbrev P_X7_firstOpen_1 (ad : Nat → Nat) (cy : Nat → ClassId) (B : Int) (qr : Nat) (s1 : Int) (a1 : Int32) (a3 : Int32) (a4 : Int32) (w0 : va_W) : Int32 → va_W → Prop := fun r u => TW ksC ad cy B qr s1 u ∧ FE ksC ([] : List (Nat × Nat × Nat)) w0 u ∧ ((0 ≤ r.toInt ∧ r.toInt ≤ 101999) ∨ (r = (-1)))
set_option maxHeartbeats 4000000 in
set_option maxRecDepth 100000 in
theorem k_X7_firstOpen_1 (l : Launch) (adK adV : Nat → Nat) (dC : Nat → ClassId) (dI : Nat → Nat → Nat) (cy : Nat → ClassId) (ad : Nat → Nat) (B : Int) (hB0 : 2147483648 ≤ B) (hB1 : B ≤ 1152921504606846976) (qr : Nat) (s1 : Int)  (a1 : Int32) (ra1 : 0 ≤ a1.toInt) (ta1 : a1.toInt ≤ 11) (a3 : Int32) (ra3 : (-1) ≤ a3.toInt) (ta3 : a3.toInt ≤ 102119) (a4 : Int32) (ra4 : 1991 ≤ a4.toInt) (ta4 : a4.toInt ≤ 101999) (w0 : va_W) (sz : Nat) (hT : TW ksC ad cy B qr s1 w0)  : Met l yX7_firstOpen (wu yX7_firstOpen cX7_firstOpen 10 (some .int)) ({ frames := 2, cells := 0, slots := 0, locals := 39 }) (va_Pc [.ref (ad 39), .int a1, .int 0, .int a3, .int a4] (wpreS adK adV dC dI cy sz w0)) (va_Qi (P_X7_firstOpen_1 ad cy B qr s1 a1 a3 a4 w0) (fun u : va_W => wpost dC dI cy (va_A w0 sz) u) (va_A w0 sz)) 0 0 (va_A w0 sz) := by
  refine Met.ofW (cc := cX7_firstOpen) (maxL := 10) (ret := (some .int)) (by decide) rfl ?_
  intro p e s m args below meth c s₁ Bk hml hv
  obtain ⟨rfl, ⟨hsz, hP, hK, hD0⟩, hE, hSR⟩ := hv
  have hx := Bk.exec
  have hb := Bk.bytes
  have hr := Bk.returns
  have hlocks := Bk.notSynchronized
  have hC : CallFix p m c cX7_firstOpen 10 s _ (wu yX7_firstOpen cX7_firstOpen 10 (some .int)) RX7 := ⟨hx, hb, hml, findClass_of_methodNamed Bk.named, atoms_spec (ws := (wu yX7_firstOpen cX7_firstOpen 10 (some .int))) Bk.pre⟩
  subst hsz
  have hD := hD0.self (sz := s.heap.size)
  generalize hAe : va_A w0 s.heap.size = A at hD hE ⊢
  have hA : ∀ q : Nat, s.heap.size ≤ q → A q := fun q h => by rw [← hAe]; exact Or.inr h
  have hw : Wd dC dI A s.heap s.heap [] w0 := ⟨hP, hD, va_S.rf⟩
  have hF : FE ksC ([] : List (Nat × Nat × Nat)) w0 w0 := FE.rf
  have hl := lv_entry ([.ref (ad 39), .int a1, .int 0, .int a3, .int a4]) (n := 10) (Nat.le_of_ble_eq_true rfl)
  rw [lg_entry_eq]
  generalize (lg_sl ([.ref (ad 39), .int a1, .int 0, .int a3, .int a4]) ++ List.replicate (10 - (lg_sl ([.ref (ad 39), .int a1, .int 0, .int a3, .int a4])).length) Slot.unset).toArray = ls at hl ⊢
  have hl : lv_has ls 10 [(0, .ref (ad 39)), (1, .int a1), (2, .int 0), (3, .int a3), (4, .int a4)] := hl
  generalize hloc : ([] : List Loc) = locs at hw ⊢
  have L25 : ∀ (n25 : Nat) (v25_5 : Int32) (v25_6 : Int32) (H : Heap) (locs : List Loc) (ls : Array Slot) (w1 : va_W), 0 ≤ a1.toInt → a1.toInt ≤ 11 → (-1) ≤ a3.toInt → a3.toInt ≤ 102119 → 1991 ≤ a4.toInt → a4.toInt ≤ 101999 → 0 ≤ v25_6.toInt → v25_6.toInt ≤ 4254 → (4254 - v25_6.toInt).toNat < n25 → Wd dC dI A s.heap H locs w1 → TW ksC ad cy B qr s1 w1 → FE ksC ([] : List (Nat × Nat × Nat)) w0 w1 → lv_has ls 10 [(0, .ref (ad 39)), (1, .int a1), (2, .int 0), (3, .int a3), (4, .int a4), (5, .int v25_5), (6, .int v25_6)] → W p l e ({ frames := 2, cells := 0, slots := 0, locals := 39 }) s m (List.toArray [.ref (ad 39), .int a1, .int 0, .int a3, .int a4]) below meth c H locs 0 0 (MQ below (va_Qi (P_X7_firstOpen_1 ad cy B qr s1 a1 a3 a4 w0) (fun u : va_W => wpost dC dI cy A u) A) (List.toArray [.ref (ad 39), .int a1, .int 0, .int a3, .int a4]) s 0 0 A) (F0 m 25 ls []) := by
    intro n25
    induction n25 with
    | zero => intro v25_5 v25_6 H locs ls w1 r2 t3 r4 t5 r6 t7 r8 t9 hm25 hw hT hF hl; omega
    | succ n25 ih25 =>
      intro v25_5 v25_6 H locs ls w1 r2 t3 r4 t5 r6 t7 r8 t9 hm25 hw hT hF hl
      have J108 : ∀ (v108_7 : Int32) (v108_8 : Int32) (H : Heap) (locs : List Loc) (ls : Array Slot) (w10 : va_W), 0 ≤ a1.toInt → a1.toInt ≤ 11 → (-1) ≤ a3.toInt → a3.toInt ≤ 102119 → 1991 ≤ a4.toInt → a4.toInt ≤ 101999 → 0 ≤ v25_6.toInt → v25_6.toInt ≤ 4249 → 0 ≤ v108_7.toInt → v108_7.toInt ≤ 16777215 → 0 ≤ v108_8.toInt → v108_8.toInt ≤ 24 → Wd dC dI A s.heap H locs w10 → TW ksC ad cy B qr s1 w10 → FE ksC ([] : List (Nat × Nat × Nat)) w0 w10 → lv_has ls 10 [(0, .ref (ad 39)), (1, .int a1), (2, .int 0), (3, .int a3), (4, .int a4), (5, .int (-1)), (6, .int v25_6), (7, .int v108_7), (8, .int v108_8)] → W p l e ({ frames := 2, cells := 0, slots := 0, locals := 39 }) s m (List.toArray [.ref (ad 39), .int a1, .int 0, .int a3, .int a4]) below meth c H locs 0 0 (MQ below (va_Qi (P_X7_firstOpen_1 ad cy B qr s1 a1 a3 a4 w0) (fun u : va_W => wpost dC dI cy A u) A) (List.toArray [.ref (ad 39), .int a1, .int 0, .int a3, .int a4]) s 0 0 A) (F0 m 108 ls []) := by
        intro v108_7 v108_8 H locs ls w10 r11 t12 r13 t14 r15 t16 r17 t18 r19 t20 r21 t22 hw hT hF hl
        obtain ⟨x23, ex23⟩ : ∃ y : Int32, y = v25_6 + Int32.ofInt 1 := ⟨_, rfl⟩
        refine lv_iinc (v := x23) (lv' := [(6, .int x23), (0, .ref (ad 39)), (1, .int a1), (2, .int 0), (3, .int a3), (4, .int a4), (5, .int (-1)), (7, .int v108_7), (8, .int v108_8)]) hx hb dX7_firstOpen_108 hl (k := 6) rfl ex23.symm (by decide) rfl (fun ls hl => ?_)
        have ex23 : x23.toInt = v25_6.toInt + 1 := by rw [ex23]; exact wk_add (y := 1) (show -2147483648 ≤ v25_6.toInt + 1 by omega) (show v25_6.toInt + 1 ≤ 2147483647 by omega)
        refine lv_goto (tgt := 25) hx hb dX7_firstOpen_111 (by decide) ?_
        exact ih25 (-1) x23 H locs ls w10 (show 0 ≤ a1.toInt from r11) (show a1.toInt ≤ 11 from t12) (show (-1) ≤ a3.toInt from r13) (show a3.toInt ≤ 102119 from t14) (show 1991 ≤ a4.toInt from r15) (show a4.toInt ≤ 101999 from t16) (show 0 ≤ x23.toInt by first | with_reducible assumption | omega) (show x23.toInt ≤ 4254 by first | with_reducible assumption | omega) (show (4254 - x23.toInt).toNat < n25 by first | exact tn_lt hm25 (by omega) (by omega) | omega) hw hT hF  (lv_sub hl [1, 2, 3, 4, 5, 6, 0] rfl)
      have L56 : ∀ (n56 : Nat) (v56_7 : Int32) (v56_8 : Int32) (H : Heap) (locs : List Loc) (ls : Array Slot) (w24 : va_W), 0 ≤ a1.toInt → a1.toInt ≤ 11 → (-1) ≤ a3.toInt → a3.toInt ≤ 102119 → 1991 ≤ a4.toInt → a4.toInt ≤ 101999 → 0 ≤ v25_6.toInt → v25_6.toInt ≤ 4249 → 0 ≤ v56_7.toInt → v56_7.toInt ≤ 16777215 → 0 ≤ v56_8.toInt → v56_8.toInt ≤ 24 → (24 - v56_8.toInt).toNat < n56 → Wd dC dI A s.heap H locs w24 → TW ksC ad cy B qr s1 w24 → FE ksC ([] : List (Nat × Nat × Nat)) w0 w24 → lv_has ls 10 [(0, .ref (ad 39)), (1, .int a1), (2, .int 0), (3, .int a3), (4, .int a4), (5, .int (-1)), (6, .int v25_6), (7, .int v56_7), (8, .int v56_8)] → W p l e ({ frames := 2, cells := 0, slots := 0, locals := 39 }) s m (List.toArray [.ref (ad 39), .int a1, .int 0, .int a3, .int a4]) below meth c H locs 0 0 (MQ below (va_Qi (P_X7_firstOpen_1 ad cy B qr s1 a1 a3 a4 w0) (fun u : va_W => wpost dC dI cy A u) A) (List.toArray [.ref (ad 39), .int a1, .int 0, .int a3, .int a4]) s 0 0 A) (F0 m 56 ls []) := by
        intro n56
        induction n56 with
        | zero => intro v56_7 v56_8 H locs ls w24 r25 t26 r27 t28 r29 t30 r31 t32 r33 t34 r35 t36 hm56 hw hT hF hl; omega
        | succ n56 ih56 =>
          intro v56_7 v56_8 H locs ls w24 r25 t26 r27 t28 r29 t30 r31 t32 r33 t34 r35 t36 hm56 hw hT hF hl
          refine lv_iload hx hb dX7_firstOpen_56 (lv_at hl 7 rfl) ?_
          refine lv_if_eq (tgt := 108) hx hb dX7_firstOpen_58 (by decide) (fun c37 => ?_) (fun c37 => ?_)
          · have c37 : v56_7.toInt = (0 : Int) := wk_eq.mp c37
            exact J108 v56_7 v56_8 H locs ls w24 (show 0 ≤ a1.toInt from r25) (show a1.toInt ≤ 11 from t26) (show (-1) ≤ a3.toInt from r27) (show a3.toInt ≤ 102119 from t28) (show 1991 ≤ a4.toInt from r29) (show a4.toInt ≤ 101999 from t30) (show 0 ≤ v25_6.toInt from r31) (show v25_6.toInt ≤ 4249 from t32) (show 0 ≤ v56_7.toInt from r33) (show v56_7.toInt ≤ 16777215 from t34) (show 0 ≤ v56_8.toInt from r35) (show v56_8.toInt ≤ 24 from t36)  hw hT hF  (lv_sub hl [0, 1, 2, 3, 4, 5, 6, 7, 8] rfl)
          · have c37 : ¬ v56_7.toInt = (0 : Int) := wk_eqF c37
            refine lv_iload hx hb dX7_firstOpen_61 (lv_at hl 8 rfl) ?_
            refine lv_bipush (v := 24) hx hb dX7_firstOpen_63 (by decide) ?_
            refine lv_icmp_ge (tgt := 108) hx hb dX7_firstOpen_65 (by decide) (fun c38 => ?_) (fun c38 => ?_)
            · have c38 : (24 : Int) ≤ v56_8.toInt := wk_le.mp c38
              exact J108 v56_7 v56_8 H locs ls w24 (show 0 ≤ a1.toInt from r25) (show a1.toInt ≤ 11 from t26) (show (-1) ≤ a3.toInt from r27) (show a3.toInt ≤ 102119 from t28) (show 1991 ≤ a4.toInt from r29) (show a4.toInt ≤ 101999 from t30) (show 0 ≤ v25_6.toInt from r31) (show v25_6.toInt ≤ 4249 from t32) (show 0 ≤ v56_7.toInt from r33) (show v56_7.toInt ≤ 16777215 from t34) (show 0 ≤ v56_8.toInt from r35) (show v56_8.toInt ≤ 24 from t36)  hw hT hF  (lv_sub hl [0, 1, 2, 3, 4, 5, 6, 7, 8] rfl)
            · have c38 : v56_8.toInt < (24 : Int) := wk_leF c38
              refine lv_iload hx hb dX7_firstOpen_68 (lv_at hl 7 rfl) ?_
              refine lv_iload hx hb dX7_firstOpen_70 (lv_at hl 8 rfl) ?_
              refine lv_ishr hx hb dX7_firstOpen_72 ?_
              refine lv_topi (fun x39 ex39 => ?_)
              have bx39 : 0 ≤ x39.toInt ∧ x39.toInt ≤ v56_7.toInt := by rw [ex39]; exact wk_shr (by omega)
              refine lv_iconst (v := 1) hx hb dX7_firstOpen_73 (by decide) ?_
              refine lv_iand hx hb dX7_firstOpen_74 ?_
              refine lv_topi (fun x40 ex40 => ?_)
              have bx40 : 0 ≤ x40.toInt ∧ x40.toInt ≤ (1 : Int) := by rw [ex40]; exact wk_and (by decide)
              refine lv_if_eq (tgt := 102) hx hb dX7_firstOpen_75 (by decide) (fun c41 => ?_) (fun c41 => ?_)
              · have c41 : x40.toInt = (0 : Int) := wk_eq.mp c41
                obtain ⟨x42, ex42⟩ : ∃ y : Int32, y = v56_8 + Int32.ofInt 1 := ⟨_, rfl⟩
                refine lv_iinc (v := x42) (lv' := [(8, .int x42), (0, .ref (ad 39)), (1, .int a1), (2, .int 0), (3, .int a3), (4, .int a4), (5, .int (-1)), (6, .int v25_6), (7, .int v56_7)]) hx hb dX7_firstOpen_102 hl (k := 8) rfl ex42.symm (by decide) rfl (fun ls hl => ?_)
                have ex42 : x42.toInt = v56_8.toInt + 1 := by rw [ex42]; exact wk_add (y := 1) (show -2147483648 ≤ v56_8.toInt + 1 by omega) (show v56_8.toInt + 1 ≤ 2147483647 by omega)
                refine lv_goto (tgt := 56) hx hb dX7_firstOpen_105 (by decide) ?_
                exact ih56 v56_7 x42 H locs ls w24 (show 0 ≤ a1.toInt from r25) (show a1.toInt ≤ 11 from t26) (show (-1) ≤ a3.toInt from r27) (show a3.toInt ≤ 102119 from t28) (show 1991 ≤ a4.toInt from r29) (show a4.toInt ≤ 101999 from t30) (show 0 ≤ v25_6.toInt from r31) (show v25_6.toInt ≤ 4249 from t32) (show 0 ≤ v56_7.toInt from r33) (show v56_7.toInt ≤ 16777215 from t34) (show 0 ≤ x42.toInt by first | with_reducible assumption | omega) (show x42.toInt ≤ 24 by first | with_reducible assumption | omega) (show (24 - x42.toInt).toNat < n56 by first | exact tn_lt hm56 (by omega) (by omega) | omega) hw hT hF  (lv_sub hl [1, 2, 3, 4, 5, 6, 7, 8, 0] rfl)
              · have c41 : ¬ x40.toInt = (0 : Int) := wk_eqF c41
                refine lv_iload hx hb dX7_firstOpen_78 (lv_at hl 6 rfl) ?_
                refine lv_bipush (v := 24) hx hb dX7_firstOpen_80 (by decide) ?_
                refine lv_imul hx hb dX7_firstOpen_82 ?_
                refine lv_topi (fun x43 ex43 => ?_)
                have ex43 : x43.toInt = v25_6.toInt * (24 : Int) := by rw [ex43]; exact wk_mul (show (-2147483648) ≤ v25_6.toInt * (24 : Int) by omega) (show v25_6.toInt * (24 : Int) ≤ 2147483647 by omega)
                refine lv_iload hx hb dX7_firstOpen_83 (lv_at hl 8 rfl) ?_
                refine lv_iadd hx hb dX7_firstOpen_85 ?_
                refine lv_topi (fun x44 ex44 => ?_)
                have ex44 : x44.toInt = x43.toInt + v56_8.toInt := by rw [ex44]; exact wk_add (show (-2147483648) ≤ x43.toInt + v56_8.toInt by omega) (show x43.toInt + v56_8.toInt ≤ 2147483647 by omega)
                refine lv_istore (lv' := [(9, .int x44), (0, .ref (ad 39)), (1, .int a1), (2, .int 0), (3, .int a3), (4, .int a4), (5, .int (-1)), (6, .int v25_6), (7, .int v56_7), (8, .int v56_8)]) hx hb dX7_firstOpen_86 hl (by decide) rfl (fun ls hl => ?_)
                refine lv_iload hx hb dX7_firstOpen_88 (lv_at hl 0 rfl) ?_
                refine lv_iload hx hb dX7_firstOpen_90 (lv_at hl 5 rfl) ?_
                refine lv_icmp_gt (tgt := 100) hx hb dX7_firstOpen_92 (by decide) (fun c45 => ?_) (fun c45 => ?_)
                · have c45 : a4.toInt < x44.toInt := wk_lt.mp c45
                  refine lv_iconst (v := (-1)) hx hb dX7_firstOpen_100 (by decide) ?_
                  exact tk_iret hC hr hlocks hK ⟨hT, hF, (Or.inr rfl)⟩ hw dX7_firstOpen_101
                · have c45 : x44.toInt ≤ a4.toInt := wk_ltF c45
                  refine lv_iload hx hb dX7_firstOpen_95 (lv_at hl 0 rfl) ?_
                  refine lv_goto (tgt := 101) hx hb dX7_firstOpen_97 (by decide) ?_
                  exact tk_iret hC hr hlocks hK ⟨hT, hF, (Or.inl ⟨(show 0 ≤ x44.toInt by first | with_reducible assumption | omega), (show x44.toInt ≤ 101999 by first | with_reducible assumption | omega)⟩)⟩ hw dX7_firstOpen_101
      refine lv_iload hx hb dX7_firstOpen_25 (lv_at hl 6 rfl) ?_
      refine lv_bipush (v := 24) hx hb dX7_firstOpen_27 (by decide) ?_
      refine lv_imul hx hb dX7_firstOpen_29 ?_
      refine lv_topi (fun x46 ex46 => ?_)
      have ex46 : x46.toInt = v25_6.toInt * (24 : Int) := by rw [ex46]; exact wk_mul (show (-2147483648) ≤ v25_6.toInt * (24 : Int) by omega) (show v25_6.toInt * (24 : Int) ≤ 2147483647 by omega)
      refine lv_iload hx hb dX7_firstOpen_30 (lv_at hl 4 rfl) ?_
      refine lv_icmp_gt (tgt := 114) hx hb dX7_firstOpen_32 (by decide) (fun c47 => ?_) (fun c47 => ?_)
      · have c47 : a4.toInt < x46.toInt := wk_lt.mp c47
        refine lv_iconst (v := (-1)) hx hb dX7_firstOpen_114 (by decide) ?_
        exact tk_iret hC hr hlocks hK ⟨hT, hF, (Or.inr rfl)⟩ hw dX7_firstOpen_115
      · have c47 : x46.toInt ≤ a4.toInt := wk_ltF c47
        refine lv_aload_n hx hb dX7_firstOpen_35 rfl (lv_at hl 0 rfl) ?_
        refine lv_iload_n hx hb dX7_firstOpen_36 rfl (lv_at hl 1 rfl) ?_
        refine lv_iload_n hx hb dX7_firstOpen_37 rfl (lv_at hl 2 rfl) ?_
        refine lv_iload hx hb dX7_firstOpen_38 (lv_at hl 6 rfl) ?_
        refine lv_i2l hx hb dX7_firstOpen_40 rfl ?_
        refine lv_topl (fun x48 ex48 => ?_)
        have ex48 : x48.toInt = v25_6.toInt := by rw [ex48]; exact wk_i2l _
        have bx48 := wk_i32 v25_6
        refine lv_iconst (v := 1) hx hb dX7_firstOpen_41 (by decide) ?_
        refine tk_Vi hC hK hw hT hA hE hSR kC_at39 (by decide) rfl (k_X7_openHours_7 l adK adV dC dI cy ad B hB0 (Int.le_trans hB1 (by decide)) qr s1   a1 (show 0 ≤ a1.toInt from r2) (show a1.toInt ≤ 11 from t3) x48 (show 0 ≤ x48.toInt by first | with_reducible assumption | omega) (show x48.toInt ≤ 4249 by first | with_reducible assumption | omega) w1 H.size hT ) (cwV 4 hC.2.2.2.2 uV_RX7_148 rfl rfl rfl (by decide +kernel) ⟨Nat.le_of_ble_eq_true rfl, Nat.le_of_ble_eq_true rfl⟩) rfl hl.1 rfl (Nat.le_of_ble_eq_true rfl) dX7_firstOpen_42 (fun r49 w51 H locs hp50 hw => ?_)
        obtain ⟨hT, k52, hg55⟩ := hp50
        have hF := hF.tr k52 (by decide)
        obtain ⟨g53, g54⟩ := hg55
        refine lv_iload hx hb dX7_firstOpen_45 (lv_at hl 5 rfl) ?_
        refine lv_iand hx hb dX7_firstOpen_47 ?_
        refine lv_topi (fun x56 ex56 => ?_)
        have bx56 : 0 ≤ x56.toInt ∧ x56.toInt ≤ r49.toInt := by rw [ex56]; exact wk_andC (by omega)
        refine lv_istore (lv' := [(7, .int x56), (0, .ref (ad 39)), (1, .int a1), (2, .int 0), (3, .int a3), (4, .int a4), (5, .int v25_5), (6, .int v25_6)]) hx hb dX7_firstOpen_48 hl (by decide) rfl (fun ls hl => ?_)
        refine lv_iconst (v := (-1)) hx hb dX7_firstOpen_50 (by decide) ?_
        refine lv_istore (lv' := [(5, .int (-1)), (7, .int x56), (0, .ref (ad 39)), (1, .int a1), (2, .int 0), (3, .int a3), (4, .int a4), (6, .int v25_6)]) hx hb dX7_firstOpen_51 hl (by decide) rfl (fun ls hl => ?_)
        refine lv_iconst (v := 0) hx hb dX7_firstOpen_53 (by decide) ?_
        refine lv_istore (lv' := [(8, .int 0), (5, .int (-1)), (7, .int x56), (0, .ref (ad 39)), (1, .int a1), (2, .int 0), (3, .int a3), (4, .int a4), (6, .int v25_6)]) hx hb dX7_firstOpen_54 hl (by decide) rfl (fun ls hl => ?_)
        exact L56 ((24 - (0 : Int)).toNat + 1) x56 0 H locs ls w51 (show 0 ≤ a1.toInt from r2) (show a1.toInt ≤ 11 from t3) (show (-1) ≤ a3.toInt from r4) (show a3.toInt ≤ 102119 from t5) (show 1991 ≤ a4.toInt from r6) (show a4.toInt ≤ 101999 from t7) (show 0 ≤ v25_6.toInt from r8) (show v25_6.toInt ≤ 4249 by first | with_reducible assumption | omega) (show 0 ≤ x56.toInt by first | with_reducible assumption | omega) (show x56.toInt ≤ 16777215 by first | with_reducible assumption | omega) (by decide) (by decide) (Nat.lt_succ_self _) hw hT hF  (lv_sub hl [3, 4, 5, 6, 7, 1, 8, 2, 0] rfl)
  refine lv_aload_n hx hb dX7_firstOpen_0 rfl (lv_at hl 0 rfl) ?_
  refine lv_iload_n hx hb dX7_firstOpen_1 rfl (lv_at hl 1 rfl) ?_
  refine lv_iload_n hx hb dX7_firstOpen_2 rfl (lv_at hl 2 rfl) ?_
  refine tk_Vi hC hK hw hT hA hE hSR kC_at39 (by decide) rfl (k_X7_isNeverOpen_1 l adK adV dC dI cy ad B hB0 (Int.le_trans hB1 (by decide)) qr s1   a1 (show 0 ≤ a1.toInt from ra1) (show a1.toInt ≤ 11 from ta1) w0 s.heap.size hT ) (cwV 2 hC.2.2.2.2 uV_RX7_152 rfl rfl rfl (by decide +kernel) ⟨Nat.le_of_ble_eq_true rfl, Nat.le_of_ble_eq_true rfl⟩) rfl hl.1 rfl (Nat.le_of_ble_eq_true rfl) dX7_firstOpen_3 (fun r57 w59 H locs hp58 hw => ?_)
  obtain ⟨hT, k60, hg61⟩ := hp58
  have hF := hF.tr k60 (by decide)
  rcases hg61 with rfl | rfl
  · refine lv_if_eq (tgt := 11) hx hb dX7_firstOpen_6 (by decide) (fun _ => ?_) (fun c => absurd (by decide) c)
    refine lv_iconst (v := (-1)) hx hb dX7_firstOpen_11 (by decide) ?_
    refine lv_iload_n hx hb dX7_firstOpen_12 rfl (lv_at hl 3 rfl) ?_
    refine lv_bipush (v := 24) hx hb dX7_firstOpen_13 (by decide) ?_
    refine lv_irem hx hb dX7_firstOpen_15 (by decide) ?_
    refine lv_topi (fun x62 ex62 => ?_)
    refine lv_ishl hx hb dX7_firstOpen_16 ?_
    refine lv_topi (fun x63 ex63 => ?_)
    refine lv_istore (lv' := [(5, .int x63), (0, .ref (ad 39)), (1, .int a1), (2, .int 0), (3, .int a3), (4, .int a4)]) hx hb dX7_firstOpen_17 hl (by decide) rfl (fun ls hl => ?_)
    refine lv_iload_n hx hb dX7_firstOpen_19 rfl (lv_at hl 4 rfl) ?_
    refine lv_bipush (v := 24) hx hb dX7_firstOpen_20 (by decide) ?_
    refine lv_idiv hx hb dX7_firstOpen_22 (by decide) ?_
    refine lv_topi (fun x64 ex64 => ?_)
    have bx64 : -(1 / (24 : Int)) ≤ x64.toInt ∧ x64.toInt ≤ 102119 / (24 : Int) := by rw [ex64]; exact wk_divB (m := 1) (n := 102119) (show 0 < (24 : Int) by decide) (by decide) (by decide) (by omega) (by omega)
    refine lv_istore (lv' := [(6, .int x64), (5, .int x63), (0, .ref (ad 39)), (1, .int a1), (2, .int 0), (3, .int a3), (4, .int a4)]) hx hb dX7_firstOpen_23 hl (by decide) rfl (fun ls hl => ?_)
    exact L25 ((4254 - x64.toInt).toNat + 1) x63 x64 H locs ls w59 (show 0 ≤ a1.toInt from ra1) (show a1.toInt ≤ 11 from ta1) (show (-1) ≤ a3.toInt from ra3) (show a3.toInt ≤ 102119 from ta3) (show 1991 ≤ a4.toInt from ra4) (show a4.toInt ≤ 101999 from ta4) (show 0 ≤ x64.toInt by first | with_reducible assumption | omega) (show x64.toInt ≤ 4254 by first | with_reducible assumption | omega) (Nat.lt_succ_self _) hw hT hF  (lv_sub hl [2, 3, 4, 5, 6, 1, 0] rfl)
  · refine lv_if_eq (tgt := 11) hx hb dX7_firstOpen_6 (by decide) (fun c => absurd c (by decide)) (fun _ => ?_)
    refine lv_iconst (v := (-1)) hx hb dX7_firstOpen_9 (by decide) ?_
    exact tk_iret hC hr hlocks hK ⟨hT, hF, (Or.inr rfl)⟩ hw dX7_firstOpen_10
abbrev P_X7_openHours_8 (ad : Nat → Nat) (cy : Nat → ClassId) (B : Int) (qr : Nat) (s1 : Int) (a1 : Int32) (a3 : Int64) (w0 : va_W) : Int32 → va_W → Prop := fun r u => TW ksC ad cy B qr s1 u ∧ FE ksC ([] : List (Nat × Nat × Nat)) w0 u ∧ ((0 ≤ r.toInt ∧ r.toInt ≤ 16777215))
set_option maxHeartbeats 4000000 in
set_option maxRecDepth 100000 in
theorem k_X7_openHours_8 (l : Launch) (adK adV : Nat → Nat) (dC : Nat → ClassId) (dI : Nat → Nat → Nat) (cy : Nat → ClassId) (ad : Nat → Nat) (B : Int) (hB0 : 2147483648 ≤ B) (hB1 : B ≤ 1152921504606846976) (qr : Nat) (s1 : Int)  (a1 : Int32) (ra1 : 0 ≤ a1.toInt) (ta1 : a1.toInt ≤ 11) (a3 : Int64) (ra3 : 0 ≤ a3.toInt) (ta3 : a3.toInt ≤ 4249) (w0 : va_W) (sz : Nat) (hT : TW ksC ad cy B qr s1 w0)  : Met l yX7_openHours (wu yX7_openHours cX7_openHours 8 (some .int)) ({ frames := 1, cells := 0, slots := 0, locals := 12 }) (va_Pc [.ref (ad 39), .int a1, .int 1, .long a3, .int 1] (wpreS adK adV dC dI cy sz w0)) (va_Qi (P_X7_openHours_8 ad cy B qr s1 a1 a3 w0) (fun u : va_W => wpost dC dI cy (va_A w0 sz) u) (va_A w0 sz)) 0 0 (va_A w0 sz) := by
  refine Met.ofW (cc := cX7_openHours) (maxL := 8) (ret := (some .int)) (by decide) rfl ?_
  intro p e s m args below meth c s₁ Bk hml hv
  obtain ⟨rfl, ⟨hsz, hP, hK, hD0⟩, hE, hSR⟩ := hv
  have hx := Bk.exec
  have hb := Bk.bytes
  have hr := Bk.returns
  have hlocks := Bk.notSynchronized
  have hC : CallFix p m c cX7_openHours 8 s _ (wu yX7_openHours cX7_openHours 8 (some .int)) RX7 := ⟨hx, hb, hml, findClass_of_methodNamed Bk.named, atoms_spec (ws := (wu yX7_openHours cX7_openHours 8 (some .int))) Bk.pre⟩
  subst hsz
  have hD := hD0.self (sz := s.heap.size)
  generalize hAe : va_A w0 s.heap.size = A at hD hE ⊢
  have hA : ∀ q : Nat, s.heap.size ≤ q → A q := fun q h => by rw [← hAe]; exact Or.inr h
  have hw : Wd dC dI A s.heap s.heap [] w0 := ⟨hP, hD, va_S.rf⟩
  have hF : FE ksC ([] : List (Nat × Nat × Nat)) w0 w0 := FE.rf
  have hl := lv_entry ([.ref (ad 39), .int a1, .int 1, .long a3, .int 1]) (n := 8) (Nat.le_of_ble_eq_true rfl)
  rw [lg_entry_eq]
  generalize (lg_sl ([.ref (ad 39), .int a1, .int 1, .long a3, .int 1]) ++ List.replicate (8 - (lg_sl ([.ref (ad 39), .int a1, .int 1, .long a3, .int 1])).length) Slot.unset).toArray = ls at hl ⊢
  have hl : lv_has ls 8 [(0, .ref (ad 39)), (1, .int a1), (2, .int 1), (3, .long a3), (5, .int 1)] := hl
  generalize hloc : ([] : List Loc) = locs at hw ⊢
  have hinX7 : ∀ w ∈ u_ws RX7 TX7 12, w ∈ (wu yX7_openHours cX7_openHours 8 (some .int)) := fun _ h => List.mem_cons_of_mem _ (up_73 h)
  have J93 : ∀ (v93_6 : Int32) (v93_7 : Int32) (H : Heap) (locs : List Loc) (ls : Array Slot) (w1 : va_W), 0 ≤ a1.toInt → a1.toInt ≤ 11 → 0 ≤ a3.toInt → a3.toInt ≤ 4249 → 0 ≤ v93_7.toInt → v93_7.toInt ≤ 8 → Wd dC dI A s.heap H locs w1 → TW ksC ad cy B qr s1 w1 → FE ksC ([] : List (Nat × Nat × Nat)) w0 w1 → lv_has ls 8 [(0, .ref (ad 39)), (1, .int a1), (2, .int 1), (3, .long a3), (5, .int 1), (6, .int v93_6), (7, .int v93_7)] → W p l e ({ frames := 1, cells := 0, slots := 0, locals := 12 }) s m (List.toArray [.ref (ad 39), .int a1, .int 1, .long a3, .int 1]) below meth c H locs 0 0 (MQ below (va_Qi (P_X7_openHours_8 ad cy B qr s1 a1 a3 w0) (fun u : va_W => wpost dC dI cy A u) A) (List.toArray [.ref (ad 39), .int a1, .int 1, .long a3, .int 1]) s 0 0 A) (F0 m 93 ls []) := by
    intro v93_6 v93_7 H locs ls w1 r2 t3 r4 t5 r6 t7 hw hT hF hl
    refine lv_ldc (v := 16777215) hx hb hC.2.2.2.1 (hC.2.2.2.2 _ (List.mem_cons_of_mem _ uw_31_17)) dX7_openHours_93 ?_
    refine lv_aload_n hx hb dX7_openHours_95 rfl (lv_at hl 0 rfl) ?_
    refine tk_getO hC hK hw hT hinX7 kC_at39 (by decide) rfl 3 (by decide) (List.mem_cons_of_mem _ uw_2_20) rfl rfl dX7_openHours_96 ?_
    refine lv_iload_n hx hb dX7_openHours_99 rfl (lv_at hl 1 rfl) ?_
    refine tk_iald hC hK hw hT kC_at43 rfl rfl (show 0 ≤ a1.toInt from r2) (show a1.toInt < 13 from Int.lt_of_le_of_lt t3 (by decide)) dX7_openHours_100 (fun x8 c9 rx8 tx8 => ?_)
    refine lv_iconst (v := (-1)) hx hb dX7_openHours_101 (by decide) ?_
    refine lv_ixor hx hb dX7_openHours_102 ?_
    refine lv_topi (fun x10 ex10 => ?_)
    refine lv_iand hx hb dX7_openHours_103 ?_
    refine lv_topi (fun x11 ex11 => ?_)
    have bx11 : 0 ≤ x11.toInt ∧ x11.toInt ≤ (16777215 : Int) := by rw [ex11]; exact wk_andC (by decide)
    exact tk_iret hC hr hlocks hK ⟨hT, hF, ⟨(show 0 ≤ x11.toInt by first | with_reducible assumption | omega), (show x11.toInt ≤ 16777215 by first | with_reducible assumption | omega)⟩⟩ hw dX7_openHours_104
  have L44 : ∀ (n44 : Nat) (v44_6 : Int32) (v44_7 : Int32) (H : Heap) (locs : List Loc) (ls : Array Slot) (w12 : va_W), 0 ≤ a1.toInt → a1.toInt ≤ 11 → 0 ≤ a3.toInt → a3.toInt ≤ 4249 → 0 ≤ v44_7.toInt → v44_7.toInt ≤ 8 → (8 - v44_7.toInt).toNat < n44 → Wd dC dI A s.heap H locs w12 → TW ksC ad cy B qr s1 w12 → FE ksC ([] : List (Nat × Nat × Nat)) w0 w12 → lv_has ls 8 [(0, .ref (ad 39)), (1, .int a1), (2, .int 1), (3, .long a3), (5, .int 1), (6, .int v44_6), (7, .int v44_7)] → W p l e ({ frames := 1, cells := 0, slots := 0, locals := 12 }) s m (List.toArray [.ref (ad 39), .int a1, .int 1, .long a3, .int 1]) below meth c H locs 0 0 (MQ below (va_Qi (P_X7_openHours_8 ad cy B qr s1 a1 a3 w0) (fun u : va_W => wpost dC dI cy A u) A) (List.toArray [.ref (ad 39), .int a1, .int 1, .long a3, .int 1]) s 0 0 A) (F0 m 44 ls []) := by
    intro n44
    induction n44 with
    | zero => intro v44_6 v44_7 H locs ls w12 r13 t14 r15 t16 r17 t18 hm44 hw hT hF hl; omega
    | succ n44 ih44 =>
      intro v44_6 v44_7 H locs ls w12 r13 t14 r15 t16 r17 t18 hm44 hw hT hF hl
      have J81 : ∀ (H : Heap) (locs : List Loc) (ls : Array Slot) (w19 : va_W), 0 ≤ a1.toInt → a1.toInt ≤ 11 → 0 ≤ a3.toInt → a3.toInt ≤ 4249 → 0 ≤ v44_7.toInt → v44_7.toInt ≤ 7 → Wd dC dI A s.heap H locs w19 → TW ksC ad cy B qr s1 w19 → FE ksC ([] : List (Nat × Nat × Nat)) w0 w19 → lv_has ls 8 [(0, .ref (ad 39)), (1, .int a1), (2, .int 1), (3, .long a3), (5, .int 1), (6, .int v44_6), (7, .int v44_7)] → W p l e ({ frames := 1, cells := 0, slots := 0, locals := 12 }) s m (List.toArray [.ref (ad 39), .int a1, .int 1, .long a3, .int 1]) below meth c H locs 0 0 (MQ below (va_Qi (P_X7_openHours_8 ad cy B qr s1 a1 a3 w0) (fun u : va_W => wpost dC dI cy A u) A) (List.toArray [.ref (ad 39), .int a1, .int 1, .long a3, .int 1]) s 0 0 A) (F0 m 81 ls []) := by
        intro H locs ls w19 r20 t21 r22 t23 r24 t25 hw hT hF hl
        refine lv_iload hx hb dX7_openHours_81 (lv_at hl 5 rfl) ?_
        refine lv_iconst (v := 1) hx hb dX7_openHours_83 (by decide) ?_
        refine lv_ishr hx hb dX7_openHours_84 ?_
        refine lv_topi (fun x26 ex26 => ?_)
        refine lv_istore (lv' := [(6, .int x26), (0, .ref (ad 39)), (1, .int a1), (2, .int 1), (3, .long a3), (5, .int 1), (7, .int v44_7)]) hx hb dX7_openHours_85 hl (by decide) rfl (fun ls hl => ?_)
        obtain ⟨x27, ex27⟩ : ∃ y : Int32, y = v44_7 + Int32.ofInt 1 := ⟨_, rfl⟩
        refine lv_iinc (v := x27) (lv' := [(7, .int x27), (6, .int x26), (0, .ref (ad 39)), (1, .int a1), (2, .int 1), (3, .long a3), (5, .int 1)]) hx hb dX7_openHours_87 hl (k := 6) rfl ex27.symm (by decide) rfl (fun ls hl => ?_)
        have ex27 : x27.toInt = v44_7.toInt + 1 := by rw [ex27]; exact wk_add (y := 1) (show -2147483648 ≤ v44_7.toInt + 1 by omega) (show v44_7.toInt + 1 ≤ 2147483647 by omega)
        refine lv_goto (tgt := 44) hx hb dX7_openHours_90 (by decide) ?_
        exact ih44 x26 x27 H locs ls w19 (show 0 ≤ a1.toInt from r20) (show a1.toInt ≤ 11 from t21) (show 0 ≤ a3.toInt from r22) (show a3.toInt ≤ 4249 from t23) (show 0 ≤ x27.toInt by first | with_reducible assumption | omega) (show x27.toInt ≤ 8 by first | with_reducible assumption | omega) (show (8 - x27.toInt).toNat < n44 by first | exact tn_lt hm44 (by omega) (by omega) | omega) hw hT hF  (lv_sub hl [2, 3, 4, 5, 6, 1, 0] rfl)
      refine lv_iload hx hb dX7_openHours_44 (lv_at hl 5 rfl) ?_
      refine lv_if_eq (tgt := 93) hx hb dX7_openHours_46 (by decide) (fun c28 => ?_) (fun c28 => ?_)
      · have c28 : v44_6.toInt = (0 : Int) := wk_eq.mp c28
        exact J93 v44_6 v44_7 H locs ls w12 (show 0 ≤ a1.toInt from r13) (show a1.toInt ≤ 11 from t14) (show 0 ≤ a3.toInt from r15) (show a3.toInt ≤ 4249 from t16) (show 0 ≤ v44_7.toInt from r17) (show v44_7.toInt ≤ 8 from t18)  hw hT hF  (lv_sub hl [0, 1, 2, 3, 4, 5, 6] rfl)
      · have c28 : ¬ v44_6.toInt = (0 : Int) := wk_eqF c28
        refine lv_iload hx hb dX7_openHours_49 (lv_at hl 6 rfl) ?_
        refine lv_bipush (v := 8) hx hb dX7_openHours_51 (by decide) ?_
        refine lv_icmp_ge (tgt := 93) hx hb dX7_openHours_53 (by decide) (fun c29 => ?_) (fun c29 => ?_)
        · have c29 : (8 : Int) ≤ v44_7.toInt := wk_le.mp c29
          exact J93 v44_6 v44_7 H locs ls w12 (show 0 ≤ a1.toInt from r13) (show a1.toInt ≤ 11 from t14) (show 0 ≤ a3.toInt from r15) (show a3.toInt ≤ 4249 from t16) (show 0 ≤ v44_7.toInt from r17) (show v44_7.toInt ≤ 8 from t18)  hw hT hF  (lv_sub hl [0, 1, 2, 3, 4, 5, 6] rfl)
        · have c29 : v44_7.toInt < (8 : Int) := wk_leF c29
          refine lv_iload hx hb dX7_openHours_56 (lv_at hl 5 rfl) ?_
          refine lv_iconst (v := 1) hx hb dX7_openHours_58 (by decide) ?_
          refine lv_iand hx hb dX7_openHours_59 ?_
          refine lv_topi (fun x30 ex30 => ?_)
          have bx30 : 0 ≤ x30.toInt ∧ x30.toInt ≤ (1 : Int) := by rw [ex30]; exact wk_and (by decide)
          refine lv_if_eq (tgt := 81) hx hb dX7_openHours_60 (by decide) (fun c31 => ?_) (fun c31 => ?_)
          · have c31 : x30.toInt = (0 : Int) := wk_eq.mp c31
            exact J81  H locs ls w12 (show 0 ≤ a1.toInt from r13) (show a1.toInt ≤ 11 from t14) (show 0 ≤ a3.toInt from r15) (show a3.toInt ≤ 4249 from t16) (show 0 ≤ v44_7.toInt from r17) (show v44_7.toInt ≤ 7 by first | with_reducible assumption | omega)  hw hT hF  (lv_sub hl [0, 1, 2, 3, 4, 5, 6] rfl)
          · have c31 : ¬ x30.toInt = (0 : Int) := wk_eqF c31
            refine lv_aload_n hx hb dX7_openHours_63 rfl (lv_at hl 0 rfl) ?_
            refine tk_getO hC hK hw hT hinX7 kC_at39 (by decide) rfl 6 (by decide) (List.mem_cons_of_mem _ uw_2_23) rfl rfl dX7_openHours_64 ?_
            refine lv_iload hx hb dX7_openHours_67 (lv_at hl 6 rfl) ?_
            refine tk_iald hC hK hw hT kC_at46 rfl rfl (show 0 ≤ v44_7.toInt from r17) (show v44_7.toInt < 8 from c29) dX7_openHours_69 (fun x32 c33 rx32 tx32 => ?_)
            refine lv_lload_n hx hb dX7_openHours_70 rfl (lv_at hl 3 rfl) ?_
            refine lv_ldc2 (v := 360) hx hb hC.2.2.2.1 (hC.2.2.2.2 _ (List.mem_cons_of_mem _ uw_31_16)) dX7_openHours_71 ?_
            refine lv_lrem hx hb dX7_openHours_74 (by decide) ?_
            refine lv_topl (fun x34 ex34 => ?_)
            have ex34 : x34.toInt = a3.toInt % (360 : Int) := by rw [ex34]; exact wk_reml (show 0 ≤ a3.toInt from r15) (show 0 < (360 : Int) by decide)
            refine lv_l2i hx hb dX7_openHours_75 rfl ?_
            refine lv_topi (fun x35 ex35 => ?_)
            have ex35 : x35.toInt = x34.toInt := by rw [ex35]; exact wk_l2i (by omega) (by omega)
            refine lv_icmp_ne (tgt := 81) hx hb dX7_openHours_76 (by decide) (fun c36 => ?_) (fun c36 => ?_)
            · have c36 : ¬ x32.toInt = x35.toInt := wk_eqF c36
              exact J81  H locs ls w12 (show 0 ≤ a1.toInt from r13) (show a1.toInt ≤ 11 from t14) (show 0 ≤ a3.toInt from r15) (show a3.toInt ≤ 4249 from t16) (show 0 ≤ v44_7.toInt from r17) (show v44_7.toInt ≤ 7 by first | with_reducible assumption | omega)  hw hT hF  (lv_sub hl [0, 1, 2, 3, 4, 5, 6] rfl)
            · have c36 : x32.toInt = x35.toInt := wk_eq.mp c36
              refine lv_iconst (v := 0) hx hb dX7_openHours_79 (by decide) ?_
              exact tk_iret hC hr hlocks hK ⟨hT, hF, ⟨(by decide), (by decide)⟩⟩ hw dX7_openHours_80
  refine lv_aload_n hx hb dX7_openHours_0 rfl (lv_at hl 0 rfl) ?_
  refine tk_getO hC hK hw hT hinX7 kC_at39 (by decide) rfl 4 (by decide) (List.mem_cons_of_mem _ uw_2_21) rfl rfl dX7_openHours_1 ?_
  refine lv_iconst (v := 2) hx hb dX7_openHours_4 (by decide) ?_
  refine lv_iload_n hx hb dX7_openHours_5 rfl (lv_at hl 1 rfl) ?_
  refine lv_imul hx hb dX7_openHours_6 ?_
  refine lv_topi (fun x37 ex37 => ?_)
  have ex37 : x37.toInt = (2 : Int) * a1.toInt := by rw [ex37]; exact wk_mul (show (-2147483648) ≤ (2 : Int) * a1.toInt by omega) (show (2 : Int) * a1.toInt ≤ 2147483647 by omega)
  refine lv_iload_n hx hb dX7_openHours_7 rfl (lv_at hl 2 rfl) ?_
  refine lv_iadd hx hb dX7_openHours_8 ?_
  refine lv_topi (fun x38 ex38 => ?_)
  have ex38 : x38.toInt = x37.toInt + (1 : Int) := by rw [ex38]; exact wk_add (show (-2147483648) ≤ x37.toInt + (1 : Int) by omega) (show x37.toInt + (1 : Int) ≤ 2147483647 by omega)
  refine tk_iald hC hK hw hT kC_at44 rfl rfl (show 0 ≤ x38.toInt by first | with_reducible assumption | omega) (show x38.toInt < 26 by first | with_reducible assumption | omega) dX7_openHours_9 (fun x39 c40 rx39 tx39 => ?_)
  refine lv_lload_n hx hb dX7_openHours_10 rfl (lv_at hl 3 rfl) ?_
  refine lv_ldc2 (v := 7) hx hb hC.2.2.2.1 (hC.2.2.2.2 _ (List.mem_cons_of_mem _ uw_31_15)) dX7_openHours_11 ?_
  refine lv_lrem hx hb dX7_openHours_14 (by decide) ?_
  refine lv_topl (fun x41 ex41 => ?_)
  have ex41 : x41.toInt = a3.toInt % (7 : Int) := by rw [ex41]; exact wk_reml (show 0 ≤ a3.toInt from ra3) (show 0 < (7 : Int) by decide)
  refine lv_l2i hx hb dX7_openHours_15 rfl ?_
  refine lv_topi (fun x42 ex42 => ?_)
  have ex42 : x42.toInt = x41.toInt := by rw [ex42]; exact wk_l2i (by omega) (by omega)
  refine lv_ishr hx hb dX7_openHours_16 ?_
  refine lv_topi (fun x43 ex43 => ?_)
  refine lv_iconst (v := 1) hx hb dX7_openHours_17 (by decide) ?_
  refine lv_iand hx hb dX7_openHours_18 ?_
  refine lv_topi (fun x44 ex44 => ?_)
  have bx44 : 0 ≤ x44.toInt ∧ x44.toInt ≤ (1 : Int) := by rw [ex44]; exact wk_and (by decide)
  refine lv_if_ne (tgt := 24) hx hb dX7_openHours_19 (by decide) (fun c45 => ?_) (fun c45 => ?_)
  · have c45 : ¬ x44.toInt = (0 : Int) := wk_eqF c45
    refine lv_iload hx hb dX7_openHours_24 (lv_at hl 4 rfl) ?_
    refine lv_if_eq (tgt := 38) hx hb dX7_openHours_26 (by decide) (fun c => absurd c (by decide)) (fun _ => ?_)
    refine lv_aload_n hx hb dX7_openHours_29 rfl (lv_at hl 0 rfl) ?_
    refine tk_getO hC hK hw hT hinX7 kC_at39 (by decide) rfl 7 (by decide) (List.mem_cons_of_mem _ uw_3_0) rfl rfl dX7_openHours_30 ?_
    refine lv_iload_n hx hb dX7_openHours_33 rfl (lv_at hl 1 rfl) ?_
    refine tk_iald hC hK hw hT kC_at47 rfl rfl (show 0 ≤ a1.toInt from ra1) (show a1.toInt < 13 from Int.lt_of_le_of_lt ta1 (by decide)) dX7_openHours_34 (fun x46 c47 rx46 tx46 => ?_)
    refine lv_goto (tgt := 39) hx hb dX7_openHours_35 (by decide) ?_
    refine lv_istore (lv' := [(6, .int x46), (0, .ref (ad 39)), (1, .int a1), (2, .int 1), (3, .long a3), (5, .int 1)]) hx hb dX7_openHours_39 hl (by decide) rfl (fun ls hl => ?_)
    refine lv_iconst (v := 0) hx hb dX7_openHours_41 (by decide) ?_
    refine lv_istore (lv' := [(7, .int 0), (6, .int x46), (0, .ref (ad 39)), (1, .int a1), (2, .int 1), (3, .long a3), (5, .int 1)]) hx hb dX7_openHours_42 hl (by decide) rfl (fun ls hl => ?_)
    exact L44 ((8 - (0 : Int)).toNat + 1) x46 0 s.heap locs ls w0 (show 0 ≤ a1.toInt from ra1) (show a1.toInt ≤ 11 from ta1) (show 0 ≤ a3.toInt from ra3) (show a3.toInt ≤ 4249 from ta3) (by decide) (by decide) (Nat.lt_succ_self _) hw hT hF  (lv_sub hl [2, 3, 4, 5, 6, 1, 0] rfl)
  · have c45 : x44.toInt = (0 : Int) := wk_eq.mp c45
    refine lv_iconst (v := 0) hx hb dX7_openHours_22 (by decide) ?_
    exact tk_iret hC hr hlocks hK ⟨hT, hF, ⟨(by decide), (by decide)⟩⟩ hw dX7_openHours_23
abbrev P_X7_isNeverOpen_2 (ad : Nat → Nat) (cy : Nat → ClassId) (B : Int) (qr : Nat) (s1 : Int) (a1 : Int32) (w0 : va_W) : Int32 → va_W → Prop := fun r u => TW ksC ad cy B qr s1 u ∧ FE ksC ([] : List (Nat × Nat × Nat)) w0 u ∧ ((r = 0) ∨ (r = 1))
set_option maxHeartbeats 4000000 in
set_option maxRecDepth 100000 in
theorem k_X7_isNeverOpen_2 (l : Launch) (adK adV : Nat → Nat) (dC : Nat → ClassId) (dI : Nat → Nat → Nat) (cy : Nat → ClassId) (ad : Nat → Nat) (B : Int) (hB0 : 2147483648 ≤ B) (hB1 : B ≤ 1152921504606846976) (qr : Nat) (s1 : Int)  (a1 : Int32) (ra1 : 0 ≤ a1.toInt) (ta1 : a1.toInt ≤ 11) (w0 : va_W) (sz : Nat) (hT : TW ksC ad cy B qr s1 w0)  : Met l yX7_isNeverOpen (wu yX7_isNeverOpen cX7_isNeverOpen 3 (some .boolean)) ({ frames := 1, cells := 0, slots := 0, locals := 12 }) (va_Pc [.ref (ad 39), .int a1, .int 1] (wpreS adK adV dC dI cy sz w0)) (va_Qi (P_X7_isNeverOpen_2 ad cy B qr s1 a1 w0) (fun u : va_W => wpost dC dI cy (va_A w0 sz) u) (va_A w0 sz)) 0 0 (va_A w0 sz) := by
  refine Met.ofW (cc := cX7_isNeverOpen) (maxL := 3) (ret := (some .boolean)) (by decide) rfl ?_
  intro p e s m args below meth c s₁ Bk hml hv
  obtain ⟨rfl, ⟨hsz, hP, hK, hD0⟩, hE, hSR⟩ := hv
  have hx := Bk.exec
  have hb := Bk.bytes
  have hr := Bk.returns
  have hlocks := Bk.notSynchronized
  have hC : CallFix p m c cX7_isNeverOpen 3 s _ (wu yX7_isNeverOpen cX7_isNeverOpen 3 (some .boolean)) RX7 := ⟨hx, hb, hml, findClass_of_methodNamed Bk.named, atoms_spec (ws := (wu yX7_isNeverOpen cX7_isNeverOpen 3 (some .boolean))) Bk.pre⟩
  subst hsz
  have hD := hD0.self (sz := s.heap.size)
  generalize hAe : va_A w0 s.heap.size = A at hD hE ⊢
  have hA : ∀ q : Nat, s.heap.size ≤ q → A q := fun q h => by rw [← hAe]; exact Or.inr h
  have hw : Wd dC dI A s.heap s.heap [] w0 := ⟨hP, hD, va_S.rf⟩
  have hF : FE ksC ([] : List (Nat × Nat × Nat)) w0 w0 := FE.rf
  have hl := lv_entry ([.ref (ad 39), .int a1, .int 1]) (n := 3) (Nat.le_of_ble_eq_true rfl)
  rw [lg_entry_eq]
  generalize (lg_sl ([.ref (ad 39), .int a1, .int 1]) ++ List.replicate (3 - (lg_sl ([.ref (ad 39), .int a1, .int 1])).length) Slot.unset).toArray = ls at hl ⊢
  have hl : lv_has ls 3 [(0, .ref (ad 39)), (1, .int a1), (2, .int 1)] := hl
  generalize hloc : ([] : List Loc) = locs at hw ⊢
  have hinX7 : ∀ w ∈ u_ws RX7 TX7 12, w ∈ (wu yX7_isNeverOpen cX7_isNeverOpen 3 (some .boolean)) := fun _ h => List.mem_cons_of_mem _ (up_73 h)
  have J24 : ∀ (H : Heap) (locs : List Loc) (ls : Array Slot) (w1 : va_W), 0 ≤ a1.toInt → a1.toInt ≤ 11 → Wd dC dI A s.heap H locs w1 → TW ksC ad cy B qr s1 w1 → FE ksC ([] : List (Nat × Nat × Nat)) w0 w1 → lv_has ls 3 [(0, .ref (ad 39)), (1, .int a1), (2, .int 1)] → W p l e ({ frames := 1, cells := 0, slots := 0, locals := 12 }) s m (List.toArray [.ref (ad 39), .int a1, .int 1]) below meth c H locs 0 0 (MQ below (va_Qi (P_X7_isNeverOpen_2 ad cy B qr s1 a1 w0) (fun u : va_W => wpost dC dI cy A u) A) (List.toArray [.ref (ad 39), .int a1, .int 1]) s 0 0 A) (F0 m 24 ls []) := by
    intro H locs ls w1 r2 t3 hw hT hF hl
    refine lv_iconst (v := 1) hx hb dX7_isNeverOpen_24 (by decide) ?_
    refine lv_goto (tgt := 29) hx hb dX7_isNeverOpen_25 (by decide) ?_
    exact tk_zret hC hr rfl hlocks hK ⟨hT, hF, (Or.inr rfl)⟩ hw dX7_isNeverOpen_29
  refine lv_aload_n hx hb dX7_isNeverOpen_0 rfl (lv_at hl 0 rfl) ?_
  refine tk_getO hC hK hw hT hinX7 kC_at39 (by decide) rfl 4 (by decide) (List.mem_cons_of_mem _ uw_2_21) rfl rfl dX7_isNeverOpen_1 ?_
  refine lv_iconst (v := 2) hx hb dX7_isNeverOpen_4 (by decide) ?_
  refine lv_iload_n hx hb dX7_isNeverOpen_5 rfl (lv_at hl 1 rfl) ?_
  refine lv_imul hx hb dX7_isNeverOpen_6 ?_
  refine lv_topi (fun x4 ex4 => ?_)
  have ex4 : x4.toInt = (2 : Int) * a1.toInt := by rw [ex4]; exact wk_mul (show (-2147483648) ≤ (2 : Int) * a1.toInt by omega) (show (2 : Int) * a1.toInt ≤ 2147483647 by omega)
  refine lv_iload_n hx hb dX7_isNeverOpen_7 rfl (lv_at hl 2 rfl) ?_
  refine lv_iadd hx hb dX7_isNeverOpen_8 ?_
  refine lv_topi (fun x5 ex5 => ?_)
  have ex5 : x5.toInt = x4.toInt + (1 : Int) := by rw [ex5]; exact wk_add (show (-2147483648) ≤ x4.toInt + (1 : Int) by omega) (show x4.toInt + (1 : Int) ≤ 2147483647 by omega)
  refine tk_iald hC hK hw hT kC_at44 rfl rfl (show 0 ≤ x5.toInt by first | with_reducible assumption | omega) (show x5.toInt < 26 by first | with_reducible assumption | omega) dX7_isNeverOpen_9 (fun x6 c7 rx6 tx6 => ?_)
  refine lv_if_eq (tgt := 24) hx hb dX7_isNeverOpen_10 (by decide) (fun c8 => ?_) (fun c8 => ?_)
  · have c8 : x6.toInt = (0 : Int) := wk_eq.mp c8
    exact J24  s.heap locs ls w0 (show 0 ≤ a1.toInt from ra1) (show a1.toInt ≤ 11 from ta1)  hw hT hF  (lv_sub hl [0, 1, 2] rfl)
  · have c8 : ¬ x6.toInt = (0 : Int) := wk_eqF c8
    refine lv_aload_n hx hb dX7_isNeverOpen_13 rfl (lv_at hl 0 rfl) ?_
    refine tk_getO hC hK hw hT hinX7 kC_at39 (by decide) rfl 3 (by decide) (List.mem_cons_of_mem _ uw_2_20) rfl rfl dX7_isNeverOpen_14 ?_
    refine lv_iload_n hx hb dX7_isNeverOpen_17 rfl (lv_at hl 1 rfl) ?_
    refine tk_iald hC hK hw hT kC_at43 rfl rfl (show 0 ≤ a1.toInt from ra1) (show a1.toInt < 13 from Int.lt_of_le_of_lt ta1 (by decide)) dX7_isNeverOpen_18 (fun x9 c10 rx9 tx9 => ?_)
    refine lv_ldc (v := 16777215) hx hb hC.2.2.2.1 (hC.2.2.2.2 _ (List.mem_cons_of_mem _ uw_31_17)) dX7_isNeverOpen_19 ?_
    refine lv_icmp_ne (tgt := 28) hx hb dX7_isNeverOpen_21 (by decide) (fun c11 => ?_) (fun c11 => ?_)
    · have c11 : ¬ x9.toInt = (16777215 : Int) := wk_eqF c11
      refine lv_iconst (v := 0) hx hb dX7_isNeverOpen_28 (by decide) ?_
      exact tk_zret hC hr rfl hlocks hK ⟨hT, hF, (Or.inl rfl)⟩ hw dX7_isNeverOpen_29
    · have c11 : x9.toInt = (16777215 : Int) := wk_eq.mp c11
      exact J24  s.heap locs ls w0 (show 0 ≤ a1.toInt from ra1) (show a1.toInt ≤ 11 from ta1)  hw hT hF  (lv_sub hl [0, 1, 2] rfl)
