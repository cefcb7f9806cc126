abbrev Pz_X6_readNumber_14 (ad : Nat → Nat) (cy : Nat → ClassId) (B : Int) (qr : Nat) (s1 : Int)  (w0 : va_W) : Int32 → va_W → Prop := fun r u => TW ksC ad cy B qr s1 u ∧ FE ksC [(6, 1, 1), (6, 3, 3), (6, 4, 4)] w0 u ∧ Ev (fun n => m_X6_readNumber n 1 0 99999 (sI w0)) (r.toInt, sI u) ∧ ((0 ≤ r.toInt ∧ r.toInt ≤ 99999 ∧ (∃ y : Int32, gi u 1 2 = y ∧ 1 ≤ y.toInt ∧ y.toInt ≤ 400) ∧ (∃ y : Int32, gi u 1 3 = y ∧ 0 ≤ y.toInt ∧ y.toInt ≤ 399) ∧ (∃ y : Int32, gi u 1 4 = y ∧ 0 ≤ y.toInt ∧ y.toInt ≤ 0)) ∨ (r = (-1) ∧ (∃ y : Int32, gi u 1 4 = y ∧ 1 ≤ y.toInt ∧ y.toInt ≤ 3205)))
set_option maxHeartbeats 4000000 in
set_option maxRecDepth 100000 in
theorem kz_X6_readNumber_14 (l : Launch) (adK adV : Nat → Nat) (dC : Nat → ClassId) (dI : Nat → Nat → Nat) (cy : Nat → ClassId) (ad : Nat → Nat) (B : Int) (hB0 : 2147483648 ≤ B) (hB1 : B ≤ 1152921504606846976) (qr : Nat) (s1 : Int)   (w0 : va_W) (sz : Nat) (hT : TW ksC ad cy B qr s1 w0) (cf0_ : gi w0 1 4 = 0) : Met l yX6_readNumber (wu yX6_readNumber cX6_readNumber 4 (some .int)) ({ frames := 2, cells := 0, slots := 0, locals := 34 }) (va_Pc [.ref (ad 1), .int 0, .int 99999] (wpreS adK adV dC dI cy sz w0)) (va_Qi (Pz_X6_readNumber_14 ad cy B qr s1  w0) (fun u : va_W => wpost dC dI cy (va_A w0 sz) u) (va_A w0 sz)) 0 0 (va_A w0 sz) := by
  refine Met.ofW (cc := cX6_readNumber) (maxL := 4) (ret := (some .int)) (by decide) rfl ?_
  intro p e s m args below meth c s₁ Bk hml hv
  obtain ⟨rfl, ⟨hsz, hP, hK, hD0⟩, hE, hSR⟩ := hv
  have hx := Bk.exec
  have hb := Bk.bytes
  have hr := Bk.returns
  have hlocks := Bk.notSynchronized
  have hC : CallFix p m c cX6_readNumber 4 s _ (wu yX6_readNumber cX6_readNumber 4 (some .int)) RX6 := ⟨hx, hb, hml, findClass_of_methodNamed Bk.named, atoms_spec (ws := (wu yX6_readNumber cX6_readNumber 4 (some .int))) Bk.pre⟩
  subst hsz
  have hD := hD0.self (sz := s.heap.size)
  generalize hAe : va_A w0 s.heap.size = A at hD hE ⊢
  have hA : ∀ q : Nat, s.heap.size ≤ q → A q := fun q h => by rw [← hAe]; exact Or.inr h
  have hw : Wd dC dI A s.heap s.heap [] w0 := ⟨hP, hD, va_S.rf⟩
  have hF : FE ksC [(6, 1, 1), (6, 3, 3), (6, 4, 4)] w0 w0 := FE.rf
  have hl := lv_entry ([.ref (ad 1), .int 0, .int 99999]) (n := 4) (Nat.le_of_ble_eq_true rfl)
  rw [lg_entry_eq]
  generalize (lg_sl ([.ref (ad 1), .int 0, .int 99999]) ++ List.replicate (4 - (lg_sl ([.ref (ad 1), .int 0, .int 99999])).length) Slot.unset).toArray = ls at hl ⊢
  have hl : lv_has ls 4 [(0, .ref (ad 1)), (1, .int 0), (2, .int 99999)] := hl
  generalize hloc : ([] : List Loc) = locs at hw ⊢
  have hinX6 : ∀ w ∈ u_ws RX6 TX6 5, w ∈ (wu yX6_readNumber cX6_readNumber 4 (some .int)) := fun _ h => List.mem_cons_of_mem _ (up_72 h)
  have J125 : ∀ (v125_3 : Int32) (f125_1_1 : Int32) (f125_1_2 : Int32) (f125_1_3 : Int32) (H : Heap) (locs : List Loc) (ls : Array Slot) (w1 : va_W), 0 ≤ f125_1_1.toInt → f125_1_1.toInt ≤ 400 → 1 ≤ f125_1_2.toInt → f125_1_2.toInt ≤ 400 → 0 ≤ f125_1_3.toInt → f125_1_3.toInt ≤ 399 → Wd dC dI A s.heap H locs w1 → TW ksC ad cy B qr s1 w1 → FE ksC [(6, 1, 1), (6, 3, 3), (6, 4, 4)] w0 w1 → gi w1 1 1 = f125_1_1 → gi w1 1 2 = f125_1_2 → gi w1 1 3 = f125_1_3 → gi w1 1 4 = 0 → TT (fun n => m_X6_readNumber n 1 0 99999 (sI w0)) (fun n => b_X6_readNumber_125 (j_X6_readNumber 1 n) n 1 (sI w1)) → lv_has ls 4 [(0, .ref (ad 1)), (1, .int 0), (2, .int 99999), (3, .int v125_3)] → W p l e ({ frames := 2, cells := 0, slots := 0, locals := 34 }) s m (List.toArray [.ref (ad 1), .int 0, .int 99999]) below meth c H locs 0 0 (MQ below (va_Qi (Pz_X6_readNumber_14 ad cy B qr s1  w0) (fun u : va_W => wpost dC dI cy A u) A) (List.toArray [.ref (ad 1), .int 0, .int 99999]) s 0 0 A) (F0 m 125 ls []) := by
    intro v125_3 f125_1_1 f125_1_2 f125_1_3 H locs ls w1 r2 t3 r5 t6 r8 t9 hw hT hF c4 c7 c10 c11 hM hl
    refine lv_aload_n hx hb dX6_readNumber_125 rfl (lv_at hl 0 rfl) ?_
    refine lv_aload_n hx hb dX6_readNumber_126 rfl (lv_at hl 0 rfl) ?_
    refine tk_geti hC hK hw hT hinX6 kC_at1 (by decide) rfl 3 (by decide) (List.mem_cons_of_mem _ uw_9_17) rfl rfl dX6_readNumber_127 (fun x12 c13 rx12 tx12 => ?_)
    refine wk_top f125_1_3 (c13.symm.trans c10) ?_
    replace hM := hM.rd (sI_at c10)
    refine lv_iconst (v := 1) hx hb dX6_readNumber_130 (by decide) ?_
    refine tk_Vv hC hK hw hT hA hE hSR kC_at1 (by decide) rfl (kz_X6_blame_2 l adK adV dC dI cy ad B hB0 (Int.le_trans hB1 (by decide)) qr s1   f125_1_3 (show 0 ≤ f125_1_3.toInt from r8) (show f125_1_3.toInt ≤ 400 from Int.le_trans t9 (by decide)) 1 (by decide) (by decide) w1 H.size hT c11) (cwV 2 hC.2.2.2.2 uV_RX6_35 rfl rfl rfl (by decide +kernel) ⟨Nat.le_of_ble_eq_true rfl, Nat.le_of_ble_eq_true rfl⟩) rfl hl.1 rfl (Nat.le_of_ble_eq_true rfl) dX6_readNumber_131 (fun w16 H locs hp15 hw => ?_)
    obtain ⟨hT, k17, hv21, hg20⟩ := hp15
    try simp only [show (1 : Int32).toInt = 1 by decide] at hv21
    have hF := hF.tr k17 (by decide)
    have c22 := k17.gi kC_at1 (by decide) c4
    have c23 := k17.gi kC_at1 (by decide) c7
    have c24 := k17.gi kC_at1 (by decide) c10
    obtain ⟨x18, c19, rx18, tx18⟩ := hg20
    replace hM := hM.call hv21 rfl
    refine lv_iconst (v := (-1)) hx hb dX6_readNumber_134 (by decide) ?_
    exact tk_iret hC hr hlocks hK ⟨hT, hF, hM.ret (by decide), (Or.inr ⟨rfl, ⟨x18, c19, (show 1 ≤ x18.toInt by first | with_reducible assumption | omega), (show x18.toInt ≤ 3205 by first | with_reducible assumption | omega)⟩⟩)⟩ hw dX6_readNumber_135
  have J102 : ∀ (v102_3 : Int32) (f102_1_1 : Int32) (f102_1_2 : Int32) (f102_1_3 : Int32) (H : Heap) (locs : List Loc) (ls : Array Slot) (w25 : va_W), 0 ≤ f102_1_1.toInt → f102_1_1.toInt ≤ 400 → 1 ≤ f102_1_2.toInt → f102_1_2.toInt ≤ 400 → 0 ≤ f102_1_3.toInt → f102_1_3.toInt ≤ 399 → Wd dC dI A s.heap H locs w25 → TW ksC ad cy B qr s1 w25 → FE ksC [(6, 1, 1), (6, 3, 3), (6, 4, 4)] w0 w25 → gi w25 1 1 = f102_1_1 → gi w25 1 2 = f102_1_2 → gi w25 1 3 = f102_1_3 → gi w25 1 4 = 0 → TT (fun n => m_X6_readNumber n 1 0 99999 (sI w0)) (fun n => b_X6_readNumber_102 (j_X6_readNumber 1 n) n 1 (0 : Int) (99999 : Int) (v102_3.toInt) (sI w25)) → lv_has ls 4 [(0, .ref (ad 1)), (1, .int 0), (2, .int 99999), (3, .int v102_3)] → W p l e ({ frames := 2, cells := 0, slots := 0, locals := 34 }) s m (List.toArray [.ref (ad 1), .int 0, .int 99999]) below meth c H locs 0 0 (MQ below (va_Qi (Pz_X6_readNumber_14 ad cy B qr s1  w0) (fun u : va_W => wpost dC dI cy A u) A) (List.toArray [.ref (ad 1), .int 0, .int 99999]) s 0 0 A) (F0 m 102 ls []) := by
    intro v102_3 f102_1_1 f102_1_2 f102_1_3 H locs ls w25 r26 t27 r29 t30 r32 t33 hw hT hF c28 c31 c34 c35 hM hl
    refine lv_aload_n hx hb dX6_readNumber_102 rfl (lv_at hl 0 rfl) ?_
    refine tk_geti hC hK hw hT hinX6 kC_at1 (by decide) rfl 1 (by decide) (List.mem_cons_of_mem _ uw_9_16) rfl rfl dX6_readNumber_103 (fun x36 c37 rx36 tx36 => ?_)
    refine wk_top f102_1_1 (c37.symm.trans c28) ?_
    replace hM := hM.rd (sI_at c28)
    refine lv_aload_n hx hb dX6_readNumber_106 rfl (lv_at hl 0 rfl) ?_
    refine tk_geti hC hK hw hT hinX6 kC_at1 (by decide) rfl 3 (by decide) (List.mem_cons_of_mem _ uw_9_17) rfl rfl dX6_readNumber_107 (fun x38 c39 rx38 tx38 => ?_)
    refine wk_top f102_1_3 (c39.symm.trans c34) ?_
    replace hM := hM.rd (sI_at c34)
    refine lv_isub hx hb dX6_readNumber_110 ?_
    refine lv_topi (fun x40 ex40 => ?_)
    have ezx40 := ex40
    have ex40 : x40.toInt = f102_1_1.toInt - f102_1_3.toInt := by rw [ex40]; exact wk_sub (show (-2147483648) ≤ f102_1_1.toInt - f102_1_3.toInt by omega) (show f102_1_1.toInt - f102_1_3.toInt ≤ 2147483647 by omega)
    replace hM := hM.lt ex40.symm
    refine lv_iconst (v := 5) hx hb dX6_readNumber_111 (by decide) ?_
    refine lv_icmp_gt (tgt := 125) hx hb dX6_readNumber_112 (by decide) (fun c41 => ?_) (fun c41 => ?_)
    · have c41 : (5 : Int) < x40.toInt := wk_lt.mp c41
      replace hM := hM.pos c41
      exact J125 v102_3 f102_1_1 f102_1_2 f102_1_3 H locs ls w25 (show 0 ≤ f102_1_1.toInt from r26) (show f102_1_1.toInt ≤ 400 from t27) (show 1 ≤ f102_1_2.toInt from r29) (show f102_1_2.toInt ≤ 400 from t30) (show 0 ≤ f102_1_3.toInt from r32) (show f102_1_3.toInt ≤ 399 from t33)  hw hT hF c28 c31 c34 c35 hM (lv_sub hl [0, 1, 2, 3] rfl)
    · have c41 : x40.toInt ≤ (5 : Int) := wk_ltF c41
      replace hM := hM.neg (Int.not_lt.mpr c41)
      refine lv_iload_n hx hb dX6_readNumber_115 rfl (lv_at hl 3 rfl) ?_
      refine lv_iload_n hx hb dX6_readNumber_116 rfl (lv_at hl 1 rfl) ?_
      refine lv_icmp_lt (tgt := 125) hx hb dX6_readNumber_117 (by decide) (fun c42 => ?_) (fun c42 => ?_)
      · have c42 : v102_3.toInt < (0 : Int) := wk_lt.mp c42
        replace hM := hM.pos c42
        exact J125 v102_3 f102_1_1 f102_1_2 f102_1_3 H locs ls w25 (show 0 ≤ f102_1_1.toInt from r26) (show f102_1_1.toInt ≤ 400 from t27) (show 1 ≤ f102_1_2.toInt from r29) (show f102_1_2.toInt ≤ 400 from t30) (show 0 ≤ f102_1_3.toInt from r32) (show f102_1_3.toInt ≤ 399 from t33)  hw hT hF c28 c31 c34 c35 hM (lv_sub hl [0, 1, 2, 3] rfl)
      · have c42 : (0 : Int) ≤ v102_3.toInt := wk_ltF c42
        replace hM := hM.neg (Int.not_lt.mpr c42)
        refine lv_iload_n hx hb dX6_readNumber_120 rfl (lv_at hl 3 rfl) ?_
        refine lv_iload_n hx hb dX6_readNumber_121 rfl (lv_at hl 2 rfl) ?_
        refine lv_icmp_le (tgt := 136) hx hb dX6_readNumber_122 (by decide) (fun c43 => ?_) (fun c43 => ?_)
        · have c43 : v102_3.toInt ≤ (99999 : Int) := wk_le.mp c43
          replace hM := hM.pos c43
          refine lv_iload_n hx hb dX6_readNumber_136 rfl (lv_at hl 3 rfl) ?_
          exact tk_iret hC hr hlocks hK ⟨hT, hF, hM.ret rfl, (Or.inl ⟨(show 0 ≤ v102_3.toInt by first | with_reducible assumption | omega), (show v102_3.toInt ≤ 99999 by first | with_reducible assumption | omega), ⟨f102_1_2, c31, (show 1 ≤ f102_1_2.toInt from r29), (show f102_1_2.toInt ≤ 400 from t30)⟩, ⟨f102_1_3, c34, (show 0 ≤ f102_1_3.toInt from r32), (show f102_1_3.toInt ≤ 399 from t33)⟩, ⟨0, c35, (by decide), (by decide)⟩⟩)⟩ hw dX6_readNumber_137
        · have c43 : (99999 : Int) < v102_3.toInt := wk_leF c43
          replace hM := hM.neg (Int.not_le.mpr c43)
          exact J125 v102_3 f102_1_1 f102_1_2 f102_1_3 H locs ls w25 (show 0 ≤ f102_1_1.toInt from r26) (show f102_1_1.toInt ≤ 400 from t27) (show 1 ≤ f102_1_2.toInt from r29) (show f102_1_2.toInt ≤ 400 from t30) (show 0 ≤ f102_1_3.toInt from r32) (show f102_1_3.toInt ≤ 399 from t33)  hw hT hF c28 c31 c34 c35 hM (lv_sub hl [0, 1, 2, 3] rfl)
  have L32 : ∀ (n32 : Nat) (v32_3 : Int32) (f32_1_1 : Int32) (f32_1_2 : Int32) (f32_1_3 : Int32) (H : Heap) (locs : List Loc) (ls : Array Slot) (w44 : va_W), 0 ≤ f32_1_1.toInt → f32_1_1.toInt ≤ 400 → 1 ≤ f32_1_2.toInt → f32_1_2.toInt ≤ 400 → 0 ≤ f32_1_3.toInt → f32_1_3.toInt ≤ 399 → (400 - f32_1_1.toInt).toNat < n32 → Wd dC dI A s.heap H locs w44 → TW ksC ad cy B qr s1 w44 → FE ksC [(6, 1, 1), (6, 3, 3), (6, 4, 4)] w0 w44 → gi w44 1 1 = f32_1_1 → gi w44 1 2 = f32_1_2 → gi w44 1 3 = f32_1_3 → gi w44 1 4 = 0 → TT (fun n => m_X6_readNumber n 1 0 99999 (sI w0)) (fun n => j_X6_readNumber 1 n 32 [(0 : Int), (99999 : Int), v32_3.toInt] (sI w44)) → lv_has ls 4 [(0, .ref (ad 1)), (1, .int 0), (2, .int 99999), (3, .int v32_3)] → W p l e ({ frames := 2, cells := 0, slots := 0, locals := 34 }) s m (List.toArray [.ref (ad 1), .int 0, .int 99999]) below meth c H locs 0 0 (MQ below (va_Qi (Pz_X6_readNumber_14 ad cy B qr s1  w0) (fun u : va_W => wpost dC dI cy A u) A) (List.toArray [.ref (ad 1), .int 0, .int 99999]) s 0 0 A) (F0 m 32 ls []) := by
    intro n32
    induction n32 with
    | zero => intro v32_3 f32_1_1 f32_1_2 f32_1_3 H locs ls w44 r45 t46 r48 t49 r51 t52 hm32 hw hT hF c47 c50 c53 c54 hM hl; omega
    | succ n32 ih32 =>
      intro v32_3 f32_1_1 f32_1_2 f32_1_3 H locs ls w44 r45 t46 r48 t49 r51 t52 hm32 hw hT hF c47 c50 c53 c54 hM hl
      have J89 : ∀ (v89_3 : Int32) (H : Heap) (locs : List Loc) (ls : Array Slot) (w55 : va_W), 0 ≤ f32_1_1.toInt → f32_1_1.toInt ≤ 399 → 1 ≤ f32_1_2.toInt → f32_1_2.toInt ≤ 400 → 0 ≤ f32_1_3.toInt → f32_1_3.toInt ≤ 399 → Wd dC dI A s.heap H locs w55 → TW ksC ad cy B qr s1 w55 → FE ksC [(6, 1, 1), (6, 3, 3), (6, 4, 4)] w0 w55 → gi w55 1 1 = f32_1_1 → gi w55 1 2 = f32_1_2 → gi w55 1 3 = f32_1_3 → gi w55 1 4 = 0 → TT (fun n => m_X6_readNumber n 1 0 99999 (sI w0)) (fun n => b_X6_readNumber_89 (j_X6_readNumber 1 n) n 1 (0 : Int) (99999 : Int) (v89_3.toInt) (sI w55)) → lv_has ls 4 [(0, .ref (ad 1)), (1, .int 0), (2, .int 99999), (3, .int v89_3)] → W p l e ({ frames := 2, cells := 0, slots := 0, locals := 34 }) s m (List.toArray [.ref (ad 1), .int 0, .int 99999]) below meth c H locs 0 0 (MQ below (va_Qi (Pz_X6_readNumber_14 ad cy B qr s1  w0) (fun u : va_W => wpost dC dI cy A u) A) (List.toArray [.ref (ad 1), .int 0, .int 99999]) s 0 0 A) (F0 m 89 ls []) := by
        intro v89_3 H locs ls w55 r56 t57 r59 t60 r62 t63 hw hT hF c58 c61 c64 c65 hM hl
        refine lv_aload_n hx hb dX6_readNumber_89 rfl (lv_at hl 0 rfl) ?_
        refine lv_dup hx hb dX6_readNumber_90 rfl ?_
        refine tk_geti hC hK hw hT hinX6 kC_at1 (by decide) rfl 1 (by decide) (List.mem_cons_of_mem _ uw_9_16) rfl rfl dX6_readNumber_91 (fun x66 c67 rx66 tx66 => ?_)
        refine wk_top f32_1_1 (c67.symm.trans c58) ?_
        replace hM := hM.rd (sI_at c58)
        refine lv_iconst (v := 1) hx hb dX6_readNumber_94 (by decide) ?_
        refine lv_iadd hx hb dX6_readNumber_95 ?_
        refine lv_topi (fun x68 ex68 => ?_)
        have ezx68 := ex68
        have ex68 : x68.toInt = f32_1_1.toInt + (1 : Int) := by rw [ex68]; exact wk_add (show (-2147483648) ≤ f32_1_1.toInt + (1 : Int) by omega) (show f32_1_1.toInt + (1 : Int) ≤ 2147483647 by omega)
        replace hM := hM.lt ex68.symm
        refine tk_puti hC hK hw hT hinX6 tyX6_ok nmX6 kC_at1 (by decide) rfl rfl 1 (by decide) (List.mem_cons_of_mem _ uw_9_16) rfl rfl rfl rfl (show 0 ≤ x68.toInt by first | with_reducible assumption | omega) (show x68.toInt ≤ 400 by first | with_reducible assumption | omega) dX6_readNumber_96 (fun H locs w69 hw hT k71 c70 => ?_)
        replace hM := hM.wr (sI_up k71 c70)
        have hF := hF.put kC_at1 (k := 1) (by decide) k71
        have c72 := k71.gi (Or.inr (by decide)) c61
        have c73 := k71.gi (Or.inr (by decide)) c64
        have c74 := k71.gi (Or.inr (by decide)) c65
        refine lv_goto (tgt := 32) hx hb dX6_readNumber_99 (by decide) ?_
        exact ih32 v89_3 x68 f32_1_2 f32_1_3 H locs ls w69 (show 0 ≤ x68.toInt by first | with_reducible assumption | omega) (show x68.toInt ≤ 400 by first | with_reducible assumption | omega) (show 1 ≤ f32_1_2.toInt from r59) (show f32_1_2.toInt ≤ 400 from t60) (show 0 ≤ f32_1_3.toInt from r62) (show f32_1_3.toInt ≤ 399 from t63) (show (400 - x68.toInt).toNat < n32 by first | exact tn_lt hm32 (by omega) (by omega) | omega) hw hT hF c70 c72 c73 c74 hM (lv_sub hl [0, 1, 2, 3] rfl)
      replace hM := hM.suc (fun _ => e_X6_readNumber_32)
      refine lv_aload_n hx hb dX6_readNumber_32 rfl (lv_at hl 0 rfl) ?_
      refine tk_geti hC hK hw hT hinX6 kC_at1 (by decide) rfl 1 (by decide) (List.mem_cons_of_mem _ uw_9_16) rfl rfl dX6_readNumber_33 (fun x75 c76 rx75 tx75 => ?_)
      refine wk_top f32_1_1 (c76.symm.trans c47) ?_
      replace hM := hM.rd (sI_at c47)
      refine lv_aload_n hx hb dX6_readNumber_36 rfl (lv_at hl 0 rfl) ?_
      refine tk_geti hC hK hw hT hinX6 kC_at1 (by decide) rfl 2 (by decide) (List.mem_cons_of_mem _ uw_7_22) rfl rfl dX6_readNumber_37 (fun x77 c78 rx77 tx77 => ?_)
      refine wk_top f32_1_2 (c78.symm.trans c50) ?_
      replace hM := hM.rd (sI_at c50)
      refine lv_icmp_ge (tgt := 102) hx hb dX6_readNumber_40 (by decide) (fun c79 => ?_) (fun c79 => ?_)
      · have c79 : f32_1_2.toInt ≤ f32_1_1.toInt := wk_le.mp c79
        replace hM := hM.pos c79
        exact J102 v32_3 f32_1_1 f32_1_2 f32_1_3 H locs ls w44 (show 0 ≤ f32_1_1.toInt from r45) (show f32_1_1.toInt ≤ 400 from t46) (show 1 ≤ f32_1_2.toInt from r48) (show f32_1_2.toInt ≤ 400 from t49) (show 0 ≤ f32_1_3.toInt from r51) (show f32_1_3.toInt ≤ 399 from t52)  hw hT hF c47 c50 c53 c54 hM (lv_sub hl [0, 1, 2, 3] rfl)
      · have c79 : f32_1_1.toInt < f32_1_2.toInt := wk_leF c79
        replace hM := hM.neg (Int.not_le.mpr c79)
        refine lv_aload_n hx hb dX6_readNumber_43 rfl (lv_at hl 0 rfl) ?_
        refine tk_getA hC hK hw hT hinX6 kC_at1 (by decide) rfl 0 (by decide) (List.mem_cons_of_mem _ uw_2_12) rfl rfl dX6_readNumber_44 ?_
        refine lv_aload_n hx hb dX6_readNumber_47 rfl (lv_at hl 0 rfl) ?_
        refine tk_geti hC hK hw hT hinX6 kC_at1 (by decide) rfl 1 (by decide) (List.mem_cons_of_mem _ uw_9_16) rfl rfl dX6_readNumber_48 (fun x80 c81 rx80 tx80 => ?_)
        refine wk_top f32_1_1 (c81.symm.trans c47) ?_
        replace hM := hM.rd (sI_at c47)
        refine tk_iald hC hK hw hT kC_at2 rfl rfl (show 0 ≤ f32_1_1.toInt from r45) (show f32_1_1.toInt < 400 by first | with_reducible assumption | omega) dX6_readNumber_51 (fun x82 c83 rx82 tx82 => ?_)
        have hox82 := c83
        replace hM := hM.rd (sI_at hox82)
        refine tk_Si hC hK hw hT hA hE hSR (kz_X6_isDigit_1 l adK adV dC dI cy ad B hB0 (Int.le_trans hB1 (by decide)) qr s1   x82 (show 0 ≤ x82.toInt from rx82) (show x82.toInt ≤ 255 from tx82) w44 H.size hT ) (va_cwS 1 hC.2.2.2.2 uS_RX6_64 rfl rfl rfl (by decide +kernel) ⟨Nat.le_of_ble_eq_true rfl, Nat.le_of_ble_eq_true rfl⟩) rfl hl.1 rfl (Nat.le_of_ble_eq_true rfl) dX6_readNumber_52 (fun r84 w86 H locs hp85 hw => ?_)
        obtain ⟨hT, k87, hv91, hg90⟩ := hp85
        have hF := hF.tr k87 (by decide)
        have c92 := k87.gi kC_at1 (by decide) c47
        have c93 := k87.gi kC_at1 (by decide) c50
        have c94 := k87.gi kC_at1 (by decide) c53
        have c95 := k87.gi kC_at1 (by decide) c54
        rcases hg90 with rfl | ⟨rfl, g88, g89⟩
        · replace hM := hM.call (r' := 0) hv91 (by decide)
          refine lv_if_eq (tgt := 102) hx hb dX6_readNumber_55 (by decide) (fun _ => ?_) (fun c => absurd (by decide) c)
          replace hM := hM.pos (by decide)
          exact J102 v32_3 f32_1_1 f32_1_2 f32_1_3 H locs ls w86 (show 0 ≤ f32_1_1.toInt from r45) (show f32_1_1.toInt ≤ 400 from t46) (show 1 ≤ f32_1_2.toInt from r48) (show f32_1_2.toInt ≤ 400 from t49) (show 0 ≤ f32_1_3.toInt from r51) (show f32_1_3.toInt ≤ 399 from t52)  hw hT hF c92 c93 c94 c95 hM (lv_sub hl [0, 1, 2, 3] rfl)
        · replace hM := hM.call (r' := 1) hv91 (by decide)
          refine lv_if_eq (tgt := 102) hx hb dX6_readNumber_55 (by decide) (fun c => absurd c (by decide)) (fun _ => ?_)
          replace hM := hM.neg (by decide)
          refine lv_aload_n hx hb dX6_readNumber_58 rfl (lv_at hl 0 rfl) ?_
          refine tk_geti hC hK hw hT hinX6 kC_at1 (by decide) rfl 1 (by decide) (List.mem_cons_of_mem _ uw_9_16) rfl rfl dX6_readNumber_59 (fun x96 c97 rx96 tx96 => ?_)
          refine wk_top f32_1_1 (c97.symm.trans c92) ?_
          replace hM := hM.rd (sI_at c92)
          refine lv_aload_n hx hb dX6_readNumber_62 rfl (lv_at hl 0 rfl) ?_
          refine tk_geti hC hK hw hT hinX6 kC_at1 (by decide) rfl 3 (by decide) (List.mem_cons_of_mem _ uw_9_17) rfl rfl dX6_readNumber_63 (fun x98 c99 rx98 tx98 => ?_)
          refine wk_top f32_1_3 (c99.symm.trans c94) ?_
          replace hM := hM.rd (sI_at c94)
          refine lv_isub hx hb dX6_readNumber_66 ?_
          refine lv_topi (fun x100 ex100 => ?_)
          have ezx100 := ex100
          have ex100 : x100.toInt = f32_1_1.toInt - f32_1_3.toInt := by rw [ex100]; exact wk_sub (show (-2147483648) ≤ f32_1_1.toInt - f32_1_3.toInt by omega) (show f32_1_1.toInt - f32_1_3.toInt ≤ 2147483647 by omega)
          replace hM := hM.lt ex100.symm
          refine lv_iconst (v := 5) hx hb dX6_readNumber_67 (by decide) ?_
          refine lv_icmp_ge (tgt := 89) hx hb dX6_readNumber_68 (by decide) (fun c101 => ?_) (fun c101 => ?_)
          · have c101 : (5 : Int) ≤ x100.toInt := wk_le.mp c101
            replace hM := hM.pos c101
            exact J89 v32_3 H locs ls w86 (show 0 ≤ f32_1_1.toInt from r45) (show f32_1_1.toInt ≤ 399 by first | with_reducible assumption | omega) (show 1 ≤ f32_1_2.toInt from r48) (show f32_1_2.toInt ≤ 400 from t49) (show 0 ≤ f32_1_3.toInt from r51) (show f32_1_3.toInt ≤ 399 from t52)  hw hT hF c92 c93 c94 c95 hM (lv_sub hl [0, 1, 2, 3] rfl)
          · have c101 : x100.toInt < (5 : Int) := wk_leF c101
            replace hM := hM.neg (Int.not_le.mpr c101)
            refine lv_iload_n hx hb dX6_readNumber_71 rfl (lv_at hl 3 rfl) ?_
            refine lv_bipush (v := 10) hx hb dX6_readNumber_72 (by decide) ?_
            refine lv_imul hx hb dX6_readNumber_74 ?_
            have nx102 := wk_i32 v32_3
            refine lv_topi (fun x103 ex103 => ?_)
            have ezx103 := ex103
            replace hM := hM.lt (o32_e (f := fun x y => x * y) ezx103 rfl (by decide))
            refine lv_aload_n hx hb dX6_readNumber_75 rfl (lv_at hl 0 rfl) ?_
            refine tk_getA hC hK hw hT hinX6 kC_at1 (by decide) rfl 0 (by decide) (List.mem_cons_of_mem _ uw_2_12) rfl rfl dX6_readNumber_76 ?_
            refine lv_aload_n hx hb dX6_readNumber_79 rfl (lv_at hl 0 rfl) ?_
            refine tk_geti hC hK hw hT hinX6 kC_at1 (by decide) rfl 1 (by decide) (List.mem_cons_of_mem _ uw_9_16) rfl rfl dX6_readNumber_80 (fun x104 c105 rx104 tx104 => ?_)
            refine wk_top f32_1_1 (c105.symm.trans c92) ?_
            replace hM := hM.rd (sI_at c92)
            refine tk_iald hC hK hw hT kC_at2 rfl rfl (show 0 ≤ f32_1_1.toInt from r45) (show f32_1_1.toInt < 400 by first | with_reducible assumption | omega) dX6_readNumber_83 (fun x106 c107 rx106 tx106 => ?_)
            have hox106 := c107
            replace hM := hM.rd (sI_at hox106)
            refine lv_iadd hx hb dX6_readNumber_84 ?_
            have nx108 := wk_i32 x103
            refine lv_topi (fun x109 ex109 => ?_)
            have ezx109 := ex109
            replace hM := hM.lt (o32_e (f := fun x y => x + y) ezx109 rfl rfl)
            refine lv_bipush (v := 48) hx hb dX6_readNumber_85 (by decide) ?_
            refine lv_isub hx hb dX6_readNumber_87 ?_
            have nx110 := wk_i32 x109
            refine lv_topi (fun x111 ex111 => ?_)
            have ezx111 := ex111
            replace hM := hM.lt (o32_e (f := fun x y => x - y) ezx111 rfl (by decide))
            refine lv_istore_n (lv' := [(3, .int x111), (0, .ref (ad 1)), (1, .int 0), (2, .int 99999)]) hx hb dX6_readNumber_88 rfl hl (by decide) rfl (fun ls hl => ?_)
            exact J89 x111 H locs ls w86 (show 0 ≤ f32_1_1.toInt from r45) (show f32_1_1.toInt ≤ 399 by first | with_reducible assumption | omega) (show 1 ≤ f32_1_2.toInt from r48) (show f32_1_2.toInt ≤ 400 from t49) (show 0 ≤ f32_1_3.toInt from r51) (show f32_1_3.toInt ≤ 399 from t52)  hw hT hF c92 c93 c94 c95 hM (lv_sub hl [1, 2, 3, 0] rfl)
  have hM : TT (fun n => m_X6_readNumber n 1 0 99999 (sI w0)) (fun n => m_X6_readNumber n 1 0 99999 (sI w0)) := TT.rf
  refine lv_aload_n hx hb dX6_readNumber_0 rfl (lv_at hl 0 rfl) ?_
  refine tk_Vi hC hK hw hT hA hE hSR kC_at1 (by decide) rfl (kz_X6_isFaulty_2 l adK adV dC dI cy ad B hB0 (Int.le_trans hB1 (by decide)) qr s1    w0 s.heap.size hT cf0_) (cwV 0 hC.2.2.2.2 uV_RX6_39 rfl rfl rfl (by decide +kernel) ⟨Nat.le_of_ble_eq_true rfl, Nat.le_of_ble_eq_true rfl⟩) rfl hl.1 rfl (Nat.le_of_ble_eq_true rfl) dX6_readNumber_1 (fun r112 w114 H locs hp113 hw => ?_)
  obtain ⟨hT, k115, hv119, hg118⟩ := hp113
  have hF := hF.tr k115 (by decide)
  have c120 := k115.gi kC_at1 (by decide) cf0_
  obtain ⟨rfl, ⟨x116, c117, rx116, tx116⟩⟩ := hg118
  replace hM := hM.call (r' := 0) hv119 (by decide)
  have ex116 : x116.toInt = (0 : Int) := by rw [show x116 = 0 from c117.symm.trans c120]; decide
  refine lv_if_eq (tgt := 9) hx hb dX6_readNumber_4 (by decide) (fun _ => ?_) (fun c => absurd (by decide) c)
  replace hM := hM.pos (by decide)
  refine lv_aload_n hx hb dX6_readNumber_9 rfl (lv_at hl 0 rfl) ?_
  refine tk_Vi hC hK hw hT hA hE hSR kC_at1 (by decide) rfl (kz_X6_lookBehindBlanks_1 l adK adV dC dI cy ad B hB0 (Int.le_trans hB1 (by decide)) qr s1    w114 H.size hT ) (cwV 0 hC.2.2.2.2 uV_RX6_28 rfl rfl rfl (by decide +kernel) ⟨Nat.le_of_ble_eq_true rfl, Nat.le_of_ble_eq_true rfl⟩) rfl hl.1 rfl (Nat.le_of_ble_eq_true rfl) dX6_readNumber_10 (fun r121 w123 H locs hp122 hw => ?_)
  obtain ⟨hT, k124, hv134, hg133⟩ := hp122
  have hF := hF.tr k124 (by decide)
  have c135 := k124.gi kC_at1 (by decide) c120
  rcases hg133 with ⟨g125, g126, ⟨x127, c128, rx127, tx127⟩, ⟨x129, c130, rx129, tx129⟩, ⟨x131, c132, rx131, tx131⟩⟩ | rfl
  · replace hM := hM.call hv134 rfl
    refine tk_Si hC hK hw hT hA hE hSR (kz_X6_isDigit_1 l adK adV dC dI cy ad B hB0 (Int.le_trans hB1 (by decide)) qr s1   r121 (show 0 ≤ r121.toInt by first | with_reducible assumption | omega) (show r121.toInt ≤ 255 by first | with_reducible assumption | omega) w123 H.size hT ) (va_cwS 1 hC.2.2.2.2 uS_RX6_64 rfl rfl rfl (by decide +kernel) ⟨Nat.le_of_ble_eq_true rfl, Nat.le_of_ble_eq_true rfl⟩) rfl hl.1 rfl (Nat.le_of_ble_eq_true rfl) dX6_readNumber_13 (fun r136 w138 H locs hp137 hw => ?_)
    obtain ⟨hT, k139, hv143, hg142⟩ := hp137
    have hF := hF.tr k139 (by decide)
    have c144 := k139.gi kC_at1 (by decide) c135
    have c145 := k139.gi kC_at1 (by decide) c128
    have c146 := k139.gi kC_at1 (by decide) c130
    have c147 := k139.gi kC_at1 (by decide) c132
    rcases hg142 with rfl | ⟨rfl, g140, g141⟩
    · replace hM := hM.call (r' := 0) hv143 (by decide)
      refine lv_if_ne (tgt := 30) hx hb dX6_readNumber_16 (by decide) (fun c => absurd (by decide) c) (fun _ => ?_)
      replace hM := hM.neg (by decide)
      refine lv_aload_n hx hb dX6_readNumber_19 rfl (lv_at hl 0 rfl) ?_
      refine lv_aload_n hx hb dX6_readNumber_20 rfl (lv_at hl 0 rfl) ?_
      refine tk_geti hC hK hw hT hinX6 kC_at1 (by decide) rfl 3 (by decide) (List.mem_cons_of_mem _ uw_9_17) rfl rfl dX6_readNumber_21 (fun x148 c149 rx148 tx148 => ?_)
      refine wk_top x131 (c149.symm.trans c147) ?_
      replace hM := hM.rd (sI_at c147)
      refine lv_iconst (v := 0) hx hb dX6_readNumber_24 (by decide) ?_
      refine tk_Vv hC hK hw hT hA hE hSR kC_at1 (by decide) rfl (kz_X6_blame_2 l adK adV dC dI cy ad B hB0 (Int.le_trans hB1 (by decide)) qr s1   x131 (show 0 ≤ x131.toInt by first | with_reducible assumption | omega) (show x131.toInt ≤ 400 by first | with_reducible assumption | omega) 0 (by decide) (by decide) w138 H.size hT c144) (cwV 2 hC.2.2.2.2 uV_RX6_35 rfl rfl rfl (by decide +kernel) ⟨Nat.le_of_ble_eq_true rfl, Nat.le_of_ble_eq_true rfl⟩) rfl hl.1 rfl (Nat.le_of_ble_eq_true rfl) dX6_readNumber_25 (fun w152 H locs hp151 hw => ?_)
      obtain ⟨hT, k153, hv157, hg156⟩ := hp151
      try simp only [show (0 : Int32).toInt = 0 by decide] at hv157
      have hF := hF.tr k153 (by decide)
      have c158 := k153.gi kC_at1 (by decide) c145
      have c159 := k153.gi kC_at1 (by decide) c146
      have c160 := k153.gi kC_at1 (by decide) c147
      obtain ⟨x154, c155, rx154, tx154⟩ := hg156
      replace hM := hM.call hv157 rfl
      refine lv_iconst (v := (-1)) hx hb dX6_readNumber_28 (by decide) ?_
      exact tk_iret hC hr hlocks hK ⟨hT, hF, hM.ret (by decide), (Or.inr ⟨rfl, ⟨x154, c155, (show 1 ≤ x154.toInt by first | with_reducible assumption | omega), (show x154.toInt ≤ 3205 by first | with_reducible assumption | omega)⟩⟩)⟩ hw dX6_readNumber_29
    · replace hM := hM.call (r' := 1) hv143 (by decide)
      refine lv_if_ne (tgt := 30) hx hb dX6_readNumber_16 (by decide) (fun _ => ?_) (fun c => absurd c (by decide))
      replace hM := hM.pos (by decide)
      refine lv_iconst (v := 0) hx hb dX6_readNumber_30 (by decide) ?_
      refine lv_istore_n (lv' := [(3, .int 0), (0, .ref (ad 1)), (1, .int 0), (2, .int 99999)]) hx hb dX6_readNumber_31 rfl hl (by decide) rfl (fun ls hl => ?_)
      exact L32 ((400 - x127.toInt).toNat + 1) 0 x127 x129 x131 H locs ls w138 (show 0 ≤ x127.toInt by first | with_reducible assumption | omega) (show x127.toInt ≤ 400 by first | with_reducible assumption | omega) (show 1 ≤ x129.toInt by first | with_reducible assumption | omega) (show x129.toInt ≤ 400 by first | with_reducible assumption | omega) (show 0 ≤ x131.toInt by first | with_reducible assumption | omega) (show x131.toInt ≤ 399 by first | with_reducible assumption | omega) (Nat.lt_succ_self _) hw hT hF c145 c146 c147 c144 hM (lv_sub hl [1, 2, 3, 0] rfl)
  · replace hM := hM.call (r' := (-1)) hv134 (by decide)
    refine tk_Si hC hK hw hT hA hE hSR (kz_X6_isDigit_2 l adK adV dC dI cy ad B hB0 (Int.le_trans hB1 (by decide)) qr s1    w123 H.size hT ) (va_cwS 1 hC.2.2.2.2 uS_RX6_64 rfl rfl rfl (by decide +kernel) ⟨Nat.le_of_ble_eq_true rfl, Nat.le_of_ble_eq_true rfl⟩) rfl hl.1 rfl (Nat.le_of_ble_eq_true rfl) dX6_readNumber_13 (fun r161 w163 H locs hp162 hw => ?_)
    obtain ⟨hT, k164, hv166, hg165⟩ := hp162
    have hF := hF.tr k164 (by decide)
    have c167 := k164.gi kC_at1 (by decide) c135
    obtain rfl := hg165
    replace hM := hM.call (r' := 0) hv166 (by decide)
    refine lv_if_ne (tgt := 30) hx hb dX6_readNumber_16 (by decide) (fun c => absurd (by decide) c) (fun _ => ?_)
    replace hM := hM.neg (by decide)
    refine lv_aload_n hx hb dX6_readNumber_19 rfl (lv_at hl 0 rfl) ?_
    refine lv_aload_n hx hb dX6_readNumber_20 rfl (lv_at hl 0 rfl) ?_
    refine tk_geti hC hK hw hT hinX6 kC_at1 (by decide) rfl 3 (by decide) (List.mem_cons_of_mem _ uw_9_17) rfl rfl dX6_readNumber_21 (fun x168 c169 rx168 tx168 => ?_)
    replace hM := hM.rd (sI_at c169)
    refine lv_iconst (v := 0) hx hb dX6_readNumber_24 (by decide) ?_
    refine tk_Vv hC hK hw hT hA hE hSR kC_at1 (by decide) rfl (kz_X6_blame_2 l adK adV dC dI cy ad B hB0 (Int.le_trans hB1 (by decide)) qr s1   x168 (show 0 ≤ x168.toInt from rx168) (show x168.toInt ≤ 400 from tx168) 0 (by decide) (by decide) w163 H.size hT c167) (cwV 2 hC.2.2.2.2 uV_RX6_35 rfl rfl rfl (by decide +kernel) ⟨Nat.le_of_ble_eq_true rfl, Nat.le_of_ble_eq_true rfl⟩) rfl hl.1 rfl (Nat.le_of_ble_eq_true rfl) dX6_readNumber_25 (fun w172 H locs hp171 hw => ?_)
    obtain ⟨hT, k173, hv177, hg176⟩ := hp171
    try simp only [show (0 : Int32).toInt = 0 by decide] at hv177
    have hF := hF.tr k173 (by decide)
    have c178 := k173.gi kC_at1 (by decide) c169
    obtain ⟨x174, c175, rx174, tx174⟩ := hg176
    replace hM := hM.call hv177 rfl
    refine lv_iconst (v := (-1)) hx hb dX6_readNumber_28 (by decide) ?_
    exact tk_iret hC hr hlocks hK ⟨hT, hF, hM.ret (by decide), (Or.inr ⟨rfl, ⟨x174, c175, (show 1 ≤ x174.toInt by first | with_reducible assumption | omega), (show x174.toInt ≤ 3205 by first | with_reducible assumption | omega)⟩⟩)⟩ hw dX6_readNumber_29
abbrev Pz_X3_readValue_1 (ad : Nat → Nat) (cy : Nat → ClassId) (B : Int) (qr : Nat) (s1 : Int)  (w0 : va_W) : va_W → Prop := fun u => TW ksC ad cy B qr s1 u ∧ FE ksC [(2, 3, 3), (3, 2, 2), (6, 1, 1), (6, 3, 3), (6, 4, 4), (22, 0, 13), (23, 0, 400)] w0 u ∧ Ev (fun n => m_X3_readValue n qr 3 (sI w0)) (0, sI u) ∧ ((True))
set_option maxHeartbeats 4000000 in
set_option maxRecDepth 100000 in
theorem kz_X3_readValue_1 (l : Launch) (adK adV : Nat → Nat) (dC : Nat → ClassId) (dI : Nat → Nat → Nat) (cy : Nat → ClassId) (ad : Nat → Nat) (B : Int) (hB0 : 2147483648 ≤ B) (hB1 : B ≤ 1152921504606846976) (qr : Nat) (s1 : Int) (hqr : ksC[qr]? = some 2)  (w0 : va_W) (sz : Nat) (hT : TW ksC ad cy B qr s1 w0) (cf0_ : gi w0 1 4 = 0) : Met l yX3_readValue (wu yX3_readValue cX3_readValue 1 none) ({ frames := 6, cells := 0, slots := 0, locals := 168 }) (va_Pc [.ref (ad 3)] (wpreS adK adV dC dI cy sz w0)) (va_Qv (Pz_X3_readValue_1 ad cy B qr s1  w0) (fun u : va_W => wpost dC dI cy (va_A w0 sz) u) (va_A w0 sz)) 0 0 (va_A w0 sz) := by
  refine Met.ofW (cc := cX3_readValue) (maxL := 1) (ret := none) (by decide) rfl ?_
  intro p e s m args below meth c s₁ Bk hml hv
  obtain ⟨rfl, ⟨hsz, hP, hK, hD0⟩, hE, hSR⟩ := hv
  have hx := Bk.exec
  have hb := Bk.bytes
  have hr := Bk.returns
  have hlocks := Bk.notSynchronized
  have hC : CallFix p m c cX3_readValue 1 s _ (wu yX3_readValue cX3_readValue 1 none) RX3 := ⟨hx, hb, hml, findClass_of_methodNamed Bk.named, atoms_spec (ws := (wu yX3_readValue cX3_readValue 1 none)) Bk.pre⟩
  subst hsz
  have hD := hD0.self (sz := s.heap.size)
  generalize hAe : va_A w0 s.heap.size = A at hD hE ⊢
  have hA : ∀ q : Nat, s.heap.size ≤ q → A q := fun q h => by rw [← hAe]; exact Or.inr h
  have hw : Wd dC dI A s.heap s.heap [] w0 := ⟨hP, hD, va_S.rf⟩
  have hF : FE ksC [(2, 3, 3), (3, 2, 2), (6, 1, 1), (6, 3, 3), (6, 4, 4), (22, 0, 13), (23, 0, 400)] w0 w0 := FE.rf
  have hl := lv_entry ([.ref (ad 3)]) (n := 1) (Nat.le_of_ble_eq_true rfl)
  rw [lg_entry_eq]
  generalize (lg_sl ([.ref (ad 3)]) ++ List.replicate (1 - (lg_sl ([.ref (ad 3)])).length) Slot.unset).toArray = ls at hl ⊢
  have hl : lv_has ls 1 [(0, .ref (ad 3))] := hl
  generalize hloc : ([] : List Loc) = locs at hw ⊢
  have hinX3 : ∀ w ∈ u_ws RX3 TX3 3, w ∈ (wu yX3_readValue cX3_readValue 1 none) := fun _ h => List.mem_cons_of_mem _ (up_75 h)
  have J63 : ∀ (f63_1_4 : Int32) (H : Heap) (locs : List Loc) (ls : Array Slot) (w1 : va_W), 0 ≤ f63_1_4.toInt → f63_1_4.toInt ≤ 3205 → Wd dC dI A s.heap H locs w1 → TW ksC ad cy B qr s1 w1 → FE ksC [(2, 3, 3), (3, 2, 2), (6, 1, 1), (6, 3, 3), (6, 4, 4), (22, 0, 13), (23, 0, 400)] w0 w1 → gi w1 1 4 = f63_1_4 → TT (fun n => m_X3_readValue n qr 3 (sI w0)) (fun n => b_X3_readValue_63 n qr 3 (sI w1)) → lv_has ls 1 [(0, .ref (ad 3))] → W p l e ({ frames := 6, cells := 0, slots := 0, locals := 168 }) s m (List.toArray [.ref (ad 3)]) below meth c H locs 0 0 (MQ below (va_Qv (Pz_X3_readValue_1 ad cy B qr s1  w0) (fun u : va_W => wpost dC dI cy A u) A) (List.toArray [.ref (ad 3)]) s 0 0 A) (F0 m 63 ls []) := by
    intro f63_1_4 H locs ls w1 r2 t3 hw hT hF c4 hM hl
    refine lv_aload_n hx hb dX3_readValue_63 rfl (lv_at hl 0 rfl) ?_
    refine tk_Vv hC hK hw hT hA hE hSR kC_at3 (by decide) rfl (kz_X3_countItem_1 l adK adV dC dI cy ad B hB0 (Int.le_trans hB1 (by decide)) qr s1    w1 H.size hT ) (cwV 0 hC.2.2.2.2 uV_RX3_101 rfl rfl rfl (by decide +kernel) ⟨Nat.le_of_ble_eq_true rfl, Nat.le_of_ble_eq_true rfl⟩) rfl hl.1 rfl (Nat.le_of_ble_eq_true rfl) dX3_readValue_64 (fun w7 H locs hp6 hw => ?_)
    obtain ⟨hT, k8, hv10, hg9⟩ := hp6
    have hF := hF.tr k8 (by decide)
    clear hg9
    replace hM := hM.call hv10 rfl
    exact tk_vret hC hr hlocks hK ⟨hT, hF, hM.ret rfl, trivial⟩ hw dX3_readValue_67
  have hM : TT (fun n => m_X3_readValue n qr 3 (sI w0)) (fun n => m_X3_readValue n qr 3 (sI w0)) := TT.rf
  refine lv_aload_n hx hb dX3_readValue_0 rfl (lv_at hl 0 rfl) ?_
  refine tk_getA hC hK hw hT hinX3 kC_at3 (by decide) rfl 0 (by decide) (List.mem_cons_of_mem _ uw_3_12) rfl rfl dX3_readValue_1 ?_
  refine tk_Vi hC hK hw hT hA hE hSR kC_at1 (by decide) rfl (kz_X6_isFaulty_2 l adK adV dC dI cy ad B hB0 (Int.le_trans hB1 (by decide)) qr s1    w0 s.heap.size hT cf0_) (cwV 0 hC.2.2.2.2 uV_RX3_54 rfl rfl rfl (by decide +kernel) ⟨Nat.le_of_ble_eq_true rfl, Nat.le_of_ble_eq_true rfl⟩) rfl hl.1 rfl (Nat.le_of_ble_eq_true rfl) dX3_readValue_4 (fun r11 w13 H locs hp12 hw => ?_)
  obtain ⟨hT, k14, hv18, hg17⟩ := hp12
  have hF := hF.tr k14 (by decide)
  have c19 := k14.gi kC_at1 (by decide) cf0_
  obtain ⟨rfl, ⟨x15, c16, rx15, tx15⟩⟩ := hg17
  replace hM := hM.call (r' := 0) hv18 (by decide)
  have ex15 : x15.toInt = (0 : Int) := by rw [show x15 = 0 from c16.symm.trans c19]; decide
  refine lv_if_eq (tgt := 11) hx hb dX3_readValue_7 (by decide) (fun _ => ?_) (fun c => absurd (by decide) c)
  replace hM := hM.pos (by decide)
  refine lv_aload_n hx hb dX3_readValue_11 rfl (lv_at hl 0 rfl) ?_
  refine tk_getA hC hK hw hT hinX3 kC_at3 (by decide) rfl 0 (by decide) (List.mem_cons_of_mem _ uw_3_12) rfl rfl dX3_readValue_12 ?_
  refine tk_Vi hC hK hw hT hA hE hSR kC_at1 (by decide) rfl (kz_X6_lookBehindBlanks_1 l adK adV dC dI cy ad B hB0 (Int.le_trans hB1 (by decide)) qr s1    w13 H.size hT ) (cwV 0 hC.2.2.2.2 uV_RX3_98 rfl rfl rfl (by decide +kernel) ⟨Nat.le_of_ble_eq_true rfl, Nat.le_of_ble_eq_true rfl⟩) rfl hl.1 rfl (Nat.le_of_ble_eq_true rfl) dX3_readValue_15 (fun r20 w22 H locs hp21 hw => ?_)
  obtain ⟨hT, k23, hv33, hg32⟩ := hp21
  have hF := hF.tr k23 (by decide)
  have c34 := k23.gi kC_at1 (by decide) c19
  rcases hg32 with ⟨g24, g25, ⟨x26, c27, rx26, tx26⟩, ⟨x28, c29, rx28, tx28⟩, ⟨x30, c31, rx30, tx30⟩⟩ | rfl
  · replace hM := hM.call hv33 rfl
    refine tk_Si hC hK hw hT hA hE hSR (kz_X6_isDigit_1 l adK adV dC dI cy ad B hB0 (Int.le_trans hB1 (by decide)) qr s1   r20 (show 0 ≤ r20.toInt by first | with_reducible assumption | omega) (show r20.toInt ≤ 255 by first | with_reducible assumption | omega) w22 H.size hT ) (va_cwS 1 hC.2.2.2.2 uS_RX3_116 rfl rfl rfl (by decide +kernel) ⟨Nat.le_of_ble_eq_true rfl, Nat.le_of_ble_eq_true rfl⟩) rfl hl.1 rfl (Nat.le_of_ble_eq_true rfl) dX3_readValue_18 (fun r35 w37 H locs hp36 hw => ?_)
    obtain ⟨hT, k38, hv42, hg41⟩ := hp36
    have hF := hF.tr k38 (by decide)
    have c43 := k38.gi kC_at1 (by decide) c34
    have c44 := k38.gi kC_at1 (by decide) c27
    have c45 := k38.gi kC_at1 (by decide) c29
    have c46 := k38.gi kC_at1 (by decide) c31
    rcases hg41 with rfl | ⟨rfl, g39, g40⟩
    · replace hM := hM.call (r' := 0) hv42 (by decide)
      refine lv_if_eq (tgt := 47) hx hb dX3_readValue_21 (by decide) (fun _ => ?_) (fun c => absurd (by decide) c)
      replace hM := hM.pos (by decide)
      refine lv_aload_n hx hb dX3_readValue_47 rfl (lv_at hl 0 rfl) ?_
      refine tk_getQ hC hK hw hT hqr (by decide) hinX3 kC_at3 (by decide) rfl 1 (by decide) (List.mem_cons_of_mem _ uw_26_17) rfl rfl dX3_readValue_48 ?_
      refine lv_aload_n hx hb dX3_readValue_51 rfl (lv_at hl 0 rfl) ?_
      refine tk_getA hC hK hw hT hinX3 kC_at3 (by decide) rfl 0 (by decide) (List.mem_cons_of_mem _ uw_3_12) rfl rfl dX3_readValue_52 ?_
      refine va_ldcS hx hb hC.2.2.2.1 hSR.2.2.2.2.2.1 dX3_readValue_55 ?_
      refine tk_Vi hC hK hw hT hA hE hSR kC_at1 (by decide) rfl (kz_X6_readWord_2 l adK adV dC dI cy ad B hB0 (Int.le_trans hB1 (by decide)) qr s1    w37 H.size hT c43) (cwV 1 hC.2.2.2.2 uV_RX3_35 rfl rfl rfl (by decide +kernel) ⟨Nat.le_of_ble_eq_true rfl, Nat.le_of_ble_eq_true rfl⟩) rfl hl.1 rfl (Nat.le_of_ble_eq_true rfl) dX3_readValue_57 (fun r47 w49 H locs hp48 hw => ?_)
      obtain ⟨hT, k50, hv58, hg57⟩ := hp48
      have hF := hF.tr k50 (by decide)
      have c59 := k50.gi kC_at1 (by decide) c45
      rcases hg57 with ⟨g51, g52, ⟨x53, c54, rx53, tx53⟩⟩ | ⟨rfl, ⟨x55, c56, rx55, tx55⟩⟩
      · replace hM := hM.call hv58 rfl
        refine tk_Vv hC hK hw hT hA hE hSR hqr (by decide) rfl (kz_X2_addToken_1 l adK adV dC dI cy ad B hB0 (Int.le_trans hB1 (by decide)) qr s1   qr hqr r47 w49 H.size hT ) (cwV 1 hC.2.2.2.2 uV_RX3_74 rfl rfl rfl (by decide +kernel) ⟨Nat.le_of_ble_eq_true rfl, Nat.le_of_ble_eq_true rfl⟩) rfl hl.1 rfl (Nat.le_of_ble_eq_true rfl) dX3_readValue_60 (fun w62 H locs hp61 hw => ?_)
        obtain ⟨hT, k63, hv67, hg66⟩ := hp61
        have hF := hF.tr k63 (by decide)
        have c68 := k63.gi kC_at1 (by decide) c59
        have c69 := k63.gi kC_at1 (by decide) c54
        obtain ⟨x64, c65, rx64, tx64⟩ := hg66
        replace hM := hM.call hv67 rfl
        exact J63 x53 H locs ls w62 (show 0 ≤ x53.toInt by first | with_reducible assumption | omega) (show x53.toInt ≤ 3205 by first | with_reducible assumption | omega)  hw hT hF c69 hM (lv_sub hl [0] rfl)
      · replace hM := hM.call (r' := (-1)) hv58 (by decide)
        refine tk_Vv hC hK hw hT hA hE hSR hqr (by decide) rfl (kz_X2_addToken_1 l adK adV dC dI cy ad B hB0 (Int.le_trans hB1 (by decide)) qr s1   qr hqr ((-1)) w49 H.size hT ) (cwV 1 hC.2.2.2.2 uV_RX3_74 rfl rfl rfl (by decide +kernel) ⟨Nat.le_of_ble_eq_true rfl, Nat.le_of_ble_eq_true rfl⟩) rfl hl.1 rfl (Nat.le_of_ble_eq_true rfl) dX3_readValue_60 (fun w72 H locs hp71 hw => ?_)
        obtain ⟨hT, k73, hv77, hg76⟩ := hp71
        try simp only [show ((-1) : Int32).toInt = (-1) by decide] at hv77
        have hF := hF.tr k73 (by decide)
        have c78 := k73.gi kC_at1 (by decide) c59
        have c79 := k73.gi kC_at1 (by decide) c56
        obtain ⟨x74, c75, rx74, tx74⟩ := hg76
        replace hM := hM.call hv77 rfl
        exact J63 x55 H locs ls w72 (show 0 ≤ x55.toInt by first | with_reducible assumption | omega) (show x55.toInt ≤ 3205 by first | with_reducible assumption | omega)  hw hT hF c79 hM (lv_sub hl [0] rfl)
    · replace hM := hM.call (r' := 1) hv42 (by decide)
      refine lv_if_eq (tgt := 47) hx hb dX3_readValue_21 (by decide) (fun c => absurd c (by decide)) (fun _ => ?_)
      replace hM := hM.neg (by decide)
      refine lv_aload_n hx hb dX3_readValue_24 rfl (lv_at hl 0 rfl) ?_
      refine tk_getQ hC hK hw hT hqr (by decide) hinX3 kC_at3 (by decide) rfl 1 (by decide) (List.mem_cons_of_mem _ uw_26_17) rfl rfl dX3_readValue_25 ?_
      refine lv_bipush (v := 32) hx hb dX3_readValue_28 (by decide) ?_
      refine lv_aload_n hx hb dX3_readValue_30 rfl (lv_at hl 0 rfl) ?_
      refine tk_getA hC hK hw hT hinX3 kC_at3 (by decide) rfl 0 (by decide) (List.mem_cons_of_mem _ uw_3_12) rfl rfl dX3_readValue_31 ?_
      refine lv_iconst (v := 0) hx hb dX3_readValue_34 (by decide) ?_
      refine lv_ldc (v := 99999) hx hb hC.2.2.2.1 (hC.2.2.2.2 _ (List.mem_cons_of_mem _ uw_28_21)) dX3_readValue_35 ?_
      refine tk_Vi hC hK hw hT hA hE hSR kC_at1 (by decide) rfl (kz_X6_readNumber_14 l adK adV dC dI cy ad B hB0 (Int.le_trans hB1 (by decide)) qr s1    w37 H.size hT c43) (cwV 2 hC.2.2.2.2 uV_RX3_120 rfl rfl rfl (by decide +kernel) ⟨Nat.le_of_ble_eq_true rfl, Nat.le_of_ble_eq_true rfl⟩) rfl hl.1 rfl (Nat.le_of_ble_eq_true rfl) dX3_readValue_37 (fun r80 w82 H locs hp81 hw => ?_)
      obtain ⟨hT, k83, hv95, hg94⟩ := hp81
      have hF := hF.tr k83 (by decide)
      have c96 := k83.gi kC_at1 (by decide) c45
      rcases hg94 with ⟨g84, g85, ⟨x86, c87, rx86, tx86⟩, ⟨x88, c89, rx88, tx88⟩, ⟨x90, c91, rx90, tx90⟩⟩ | ⟨rfl, ⟨x92, c93, rx92, tx92⟩⟩
      · replace hM := hM.call hv95 rfl
        have ex86 : x86.toInt = x28.toInt := by rw [← c96.symm.trans c87]
        refine lv_iadd hx hb dX3_readValue_40 ?_
        refine lv_topi (fun x97 ex97 => ?_)
        have ezx97 := ex97
        have ex97 : x97.toInt = (32 : Int) + r80.toInt := by rw [ex97]; exact wk_add (show (-2147483648) ≤ (32 : Int) + r80.toInt by omega) (show (32 : Int) + r80.toInt ≤ 2147483647 by omega)
        replace hM := hM.lt ex97.symm
        refine tk_Vv hC hK hw hT hA hE hSR hqr (by decide) rfl (kz_X2_addToken_1 l adK adV dC dI cy ad B hB0 (Int.le_trans hB1 (by decide)) qr s1   qr hqr x97 w82 H.size hT ) (cwV 1 hC.2.2.2.2 uV_RX3_74 rfl rfl rfl (by decide +kernel) ⟨Nat.le_of_ble_eq_true rfl, Nat.le_of_ble_eq_true rfl⟩) rfl hl.1 rfl (Nat.le_of_ble_eq_true rfl) dX3_readValue_41 (fun w100 H locs hp99 hw => ?_)
        obtain ⟨hT, k101, hv105, hg104⟩ := hp99
        have hF := hF.tr k101 (by decide)
        have c106 := k101.gi kC_at1 (by decide) c96
        have c107 := k101.gi kC_at1 (by decide) c89
        have c108 := k101.gi kC_at1 (by decide) c91
        obtain ⟨x102, c103, rx102, tx102⟩ := hg104
        replace hM := hM.call hv105 rfl
        refine lv_goto (tgt := 63) hx hb dX3_readValue_44 (by decide) ?_
        exact J63 x90 H locs ls w100 (show 0 ≤ x90.toInt by first | with_reducible assumption | omega) (show x90.toInt ≤ 3205 by first | with_reducible assumption | omega)  hw hT hF c108 hM (lv_sub hl [0] rfl)
      · replace hM := hM.call (r' := (-1)) hv95 (by decide)
        refine lv_iadd hx hb dX3_readValue_40 ?_
        refine wk_top 31 (by decide) ?_
        replace hM := hM.lt (v := 31) (by decide)
        refine tk_Vv hC hK hw hT hA hE hSR hqr (by decide) rfl (kz_X2_addToken_1 l adK adV dC dI cy ad B hB0 (Int.le_trans hB1 (by decide)) qr s1   qr hqr 31 w82 H.size hT ) (cwV 1 hC.2.2.2.2 uV_RX3_74 rfl rfl rfl (by decide +kernel) ⟨Nat.le_of_ble_eq_true rfl, Nat.le_of_ble_eq_true rfl⟩) rfl hl.1 rfl (Nat.le_of_ble_eq_true rfl) dX3_readValue_41 (fun w111 H locs hp110 hw => ?_)
        obtain ⟨hT, k112, hv116, hg115⟩ := hp110
        try simp only [show (31 : Int32).toInt = 31 by decide] at hv116
        have hF := hF.tr k112 (by decide)
        have c117 := k112.gi kC_at1 (by decide) c96
        have c118 := k112.gi kC_at1 (by decide) c93
        obtain ⟨x113, c114, rx113, tx113⟩ := hg115
        replace hM := hM.call hv116 rfl
        refine lv_goto (tgt := 63) hx hb dX3_readValue_44 (by decide) ?_
        exact J63 x92 H locs ls w111 (show 0 ≤ x92.toInt by first | with_reducible assumption | omega) (show x92.toInt ≤ 3205 by first | with_reducible assumption | omega)  hw hT hF c118 hM (lv_sub hl [0] rfl)
  · replace hM := hM.call (r' := (-1)) hv33 (by decide)
    refine tk_Si hC hK hw hT hA hE hSR (kz_X6_isDigit_2 l adK adV dC dI cy ad B hB0 (Int.le_trans hB1 (by decide)) qr s1    w22 H.size hT ) (va_cwS 1 hC.2.2.2.2 uS_RX3_116 rfl rfl rfl (by decide +kernel) ⟨Nat.le_of_ble_eq_true rfl, Nat.le_of_ble_eq_true rfl⟩) rfl hl.1 rfl (Nat.le_of_ble_eq_true rfl) dX3_readValue_18 (fun r119 w121 H locs hp120 hw => ?_)
    obtain ⟨hT, k122, hv124, hg123⟩ := hp120
    have hF := hF.tr k122 (by decide)
    have c125 := k122.gi kC_at1 (by decide) c34
    obtain rfl := hg123
    replace hM := hM.call (r' := 0) hv124 (by decide)
    refine lv_if_eq (tgt := 47) hx hb dX3_readValue_21 (by decide) (fun _ => ?_) (fun c => absurd (by decide) c)
    replace hM := hM.pos (by decide)
    refine lv_aload_n hx hb dX3_readValue_47 rfl (lv_at hl 0 rfl) ?_
    refine tk_getQ hC hK hw hT hqr (by decide) hinX3 kC_at3 (by decide) rfl 1 (by decide) (List.mem_cons_of_mem _ uw_26_17) rfl rfl dX3_readValue_48 ?_
    refine lv_aload_n hx hb dX3_readValue_51 rfl (lv_at hl 0 rfl) ?_
    refine tk_getA hC hK hw hT hinX3 kC_at3 (by decide) rfl 0 (by decide) (List.mem_cons_of_mem _ uw_3_12) rfl rfl dX3_readValue_52 ?_
    refine va_ldcS hx hb hC.2.2.2.1 hSR.2.2.2.2.2.1 dX3_readValue_55 ?_
    refine tk_Vi hC hK hw hT hA hE hSR kC_at1 (by decide) rfl (kz_X6_readWord_2 l adK adV dC dI cy ad B hB0 (Int.le_trans hB1 (by decide)) qr s1    w121 H.size hT c125) (cwV 1 hC.2.2.2.2 uV_RX3_35 rfl rfl rfl (by decide +kernel) ⟨Nat.le_of_ble_eq_true rfl, Nat.le_of_ble_eq_true rfl⟩) rfl hl.1 rfl (Nat.le_of_ble_eq_true rfl) dX3_readValue_57 (fun r126 w128 H locs hp127 hw => ?_)
    obtain ⟨hT, k129, hv137, hg136⟩ := hp127
    have hF := hF.tr k129 (by decide)
    rcases hg136 with ⟨g130, g131, ⟨x132, c133, rx132, tx132⟩⟩ | ⟨rfl, ⟨x134, c135, rx134, tx134⟩⟩
    · replace hM := hM.call hv137 rfl
      refine tk_Vv hC hK hw hT hA hE hSR hqr (by decide) rfl (kz_X2_addToken_1 l adK adV dC dI cy ad B hB0 (Int.le_trans hB1 (by decide)) qr s1   qr hqr r126 w128 H.size hT ) (cwV 1 hC.2.2.2.2 uV_RX3_74 rfl rfl rfl (by decide +kernel) ⟨Nat.le_of_ble_eq_true rfl, Nat.le_of_ble_eq_true rfl⟩) rfl hl.1 rfl (Nat.le_of_ble_eq_true rfl) dX3_readValue_60 (fun w140 H locs hp139 hw => ?_)
      obtain ⟨hT, k141, hv145, hg144⟩ := hp139
      have hF := hF.tr k141 (by decide)
      have c146 := k141.gi kC_at1 (by decide) c133
      obtain ⟨x142, c143, rx142, tx142⟩ := hg144
      replace hM := hM.call hv145 rfl
      exact J63 x132 H locs ls w140 (show 0 ≤ x132.toInt by first | with_reducible assumption | omega) (show x132.toInt ≤ 3205 by first | with_reducible assumption | omega)  hw hT hF c146 hM (lv_sub hl [0] rfl)
    · replace hM := hM.call (r' := (-1)) hv137 (by decide)
      refine tk_Vv hC hK hw hT hA hE hSR hqr (by decide) rfl (kz_X2_addToken_1 l adK adV dC dI cy ad B hB0 (Int.le_trans hB1 (by decide)) qr s1   qr hqr ((-1)) w128 H.size hT ) (cwV 1 hC.2.2.2.2 uV_RX3_74 rfl rfl rfl (by decide +kernel) ⟨Nat.le_of_ble_eq_true rfl, Nat.le_of_ble_eq_true rfl⟩) rfl hl.1 rfl (Nat.le_of_ble_eq_true rfl) dX3_readValue_60 (fun w149 H locs hp148 hw => ?_)
      obtain ⟨hT, k150, hv154, hg153⟩ := hp148
      try simp only [show ((-1) : Int32).toInt = (-1) by decide] at hv154
      have hF := hF.tr k150 (by decide)
      have c155 := k150.gi kC_at1 (by decide) c135
      obtain ⟨x151, c152, rx151, tx151⟩ := hg153
      replace hM := hM.call hv154 rfl
      exact J63 x134 H locs ls w149 (show 0 ≤ x134.toInt by first | with_reducible assumption | omega) (show x134.toInt ≤ 3205 by first | with_reducible assumption | omega)  hw hT hF c155 hM (lv_sub hl [0] rfl)
abbrev Pz_X3_takeOperator_1 (ad : Nat → Nat) (cy : Nat → ClassId) (B : Int) (qr : Nat) (s1 : Int)  (w0 : va_W) : Int32 → va_W → Prop := fun r u => TW ksC ad cy B qr s1 u ∧ FE ksC [(6, 1, 1), (6, 3, 3)] w0 u ∧ Ev (fun n => m_X3_takeOperator n 3 (sI w0)) (r.toInt, sI u) ∧ ((10 ≤ r.toInt ∧ r.toInt ≤ 13 ∧ (∃ y : Int32, gi u 1 2 = y ∧ 1 ≤ y.toInt ∧ y.toInt ≤ 400) ∧ (∃ y : Int32, gi u 1 3 = y ∧ 0 ≤ y.toInt ∧ y.toInt ≤ 399)) ∨ (r = (-1)))
set_option maxHeartbeats 4000000 in
set_option maxRecDepth 100000 in
theorem kz_X3_takeOperator_1 (l : Launch) (adK adV : Nat → Nat) (dC : Nat → ClassId) (dI : Nat → Nat → Nat) (cy : Nat → ClassId) (ad : Nat → Nat) (B : Int) (hB0 : 2147483648 ≤ B) (hB1 : B ≤ 1152921504606846976) (qr : Nat) (s1 : Int)   (w0 : va_W) (sz : Nat) (hT : TW ksC ad cy B qr s1 w0)  : Met l yX3_takeOperator (wu yX3_takeOperator cX3_takeOperator 1 (some .int)) ({ frames := 2, cells := 0, slots := 0, locals := 32 }) (va_Pc [.ref (ad 3)] (wpreS adK adV dC dI cy sz w0)) (va_Qi (Pz_X3_takeOperator_1 ad cy B qr s1  w0) (fun u : va_W => wpost dC dI cy (va_A w0 sz) u) (va_A w0 sz)) 0 0 (va_A w0 sz) := by
  refine Met.ofW (cc := cX3_takeOperator) (maxL := 1) (ret := (some .int)) (by decide) rfl ?_
  intro p e s m args below meth c s₁ Bk hml hv
  obtain ⟨rfl, ⟨hsz, hP, hK, hD0⟩, hE, hSR⟩ := hv
  have hx := Bk.exec
  have hb := Bk.bytes
  have hr := Bk.returns
  have hlocks := Bk.notSynchronized
  have hC : CallFix p m c cX3_takeOperator 1 s _ (wu yX3_takeOperator cX3_takeOperator 1 (some .int)) RX3 := ⟨hx, hb, hml, findClass_of_methodNamed Bk.named, atoms_spec (ws := (wu yX3_takeOperator cX3_takeOperator 1 (some .int))) Bk.pre⟩
  subst hsz
  have hD := hD0.self (sz := s.heap.size)
  generalize hAe : va_A w0 s.heap.size = A at hD hE ⊢
  have hA : ∀ q : Nat, s.heap.size ≤ q → A q := fun q h => by rw [← hAe]; exact Or.inr h
  have hw : Wd dC dI A s.heap s.heap [] w0 := ⟨hP, hD, va_S.rf⟩
  have hF : FE ksC [(6, 1, 1), (6, 3, 3)] w0 w0 := FE.rf
  have hl := lv_entry ([.ref (ad 3)]) (n := 1) (Nat.le_of_ble_eq_true rfl)
  rw [lg_entry_eq]
  generalize (lg_sl ([.ref (ad 3)]) ++ List.replicate (1 - (lg_sl ([.ref (ad 3)])).length) Slot.unset).toArray = ls at hl ⊢
  have hl : lv_has ls 1 [(0, .ref (ad 3))] := hl
  generalize hloc : ([] : List Loc) = locs at hw ⊢
  have hinX3 : ∀ w ∈ u_ws RX3 TX3 3, w ∈ (wu yX3_takeOperator cX3_takeOperator 1 (some .int)) := fun _ h => List.mem_cons_of_mem _ (up_75 h)
  have hM : TT (fun n => m_X3_takeOperator n 3 (sI w0)) (fun n => m_X3_takeOperator n 3 (sI w0)) := TT.rf
  refine lv_aload_n hx hb dX3_takeOperator_0 rfl (lv_at hl 0 rfl) ?_
  refine tk_getA hC hK hw hT hinX3 kC_at3 (by decide) rfl 0 (by decide) (List.mem_cons_of_mem _ uw_3_12) rfl rfl dX3_takeOperator_1 ?_
  refine tk_Vi hC hK hw hT hA hE hSR kC_at1 (by decide) rfl (kz_X6_lookBehindBlanks_1 l adK adV dC dI cy ad B hB0 (Int.le_trans hB1 (by decide)) qr s1    w0 s.heap.size hT ) (cwV 0 hC.2.2.2.2 uV_RX3_98 rfl rfl rfl (by decide +kernel) ⟨Nat.le_of_ble_eq_true rfl, Nat.le_of_ble_eq_true rfl⟩) rfl hl.1 rfl (Nat.le_of_ble_eq_true rfl) dX3_takeOperator_4 (fun r1 w3 H locs hp2 hw => ?_)
  obtain ⟨hT, k4, hv14, hg13⟩ := hp2
  have hF := hF.tr k4 (by decide)
  rcases hg13 with ⟨g5, g6, ⟨x7, c8, rx7, tx7⟩, ⟨x9, c10, rx9, tx9⟩, ⟨x11, c12, rx11, tx11⟩⟩ | rfl
  · replace hM := hM.call hv14 rfl
    rcases (show r1.toInt = 42 ∨ r1.toInt = 43 ∨ r1.toInt = 44 ∨ r1.toInt = 45 ∨ r1.toInt = 46 ∨ r1.toInt = 47 ∨ (r1.toInt < 42 ∨ 47 < r1.toInt) by omega) with c15 | c15 | c15 | c15 | c15 | c15 | c15
    · refine lv_tableIn (off := 57) (tgt := 64) hx hb dX3_takeOperator_7 (by omega) (by omega) (by rw [c15]; rfl) (by decide) ?_
      replace hM := hM.pos (by omega)
      refine lv_aload_n hx hb dX3_takeOperator_64 rfl (lv_at hl 0 rfl) ?_
      refine tk_getA hC hK hw hT hinX3 kC_at3 (by decide) rfl 0 (by decide) (List.mem_cons_of_mem _ uw_3_12) rfl rfl dX3_takeOperator_65 ?_
      refine tk_Vv hC hK hw hT hA hE hSR kC_at1 (by decide) rfl (kz_X6_pass_1 l adK adV dC dI cy ad B hB0 (Int.le_trans hB1 (by decide)) qr s1    w3 H.size hT ) (cwV 0 hC.2.2.2.2 uV_RX3_104 rfl rfl rfl (by decide +kernel) ⟨Nat.le_of_ble_eq_true rfl, Nat.le_of_ble_eq_true rfl⟩) rfl hl.1 rfl (Nat.le_of_ble_eq_true rfl) dX3_takeOperator_68 (fun w18 H locs hp17 hw => ?_)
      obtain ⟨hT, k19, hv21, hg20⟩ := hp17
      have hF := hF.tr k19 (by decide)
      have c22 := k19.gi kC_at1 (by decide) c10
      have c23 := k19.gi kC_at1 (by decide) c12
      clear hg20
      replace hM := hM.call hv21 rfl
      refine lv_bipush (v := 12) hx hb dX3_takeOperator_71 (by decide) ?_
      exact tk_iret hC hr hlocks hK ⟨hT, hF, hM.ret (by decide), (Or.inl ⟨(by decide), (by decide), ⟨x9, c22, (show 1 ≤ x9.toInt by first | with_reducible assumption | omega), (show x9.toInt ≤ 400 by first | with_reducible assumption | omega)⟩, ⟨x11, c23, (show 0 ≤ x11.toInt by first | with_reducible assumption | omega), (show x11.toInt ≤ 399 by first | with_reducible assumption | omega)⟩⟩)⟩ hw dX3_takeOperator_73
    · refine lv_tableIn (off := 37) (tgt := 44) hx hb dX3_takeOperator_7 (by omega) (by omega) (by rw [c15]; rfl) (by decide) ?_
      replace hM := hM.neg (by omega)
      replace hM := hM.pos (by omega)
      refine lv_aload_n hx hb dX3_takeOperator_44 rfl (lv_at hl 0 rfl) ?_
      refine tk_getA hC hK hw hT hinX3 kC_at3 (by decide) rfl 0 (by decide) (List.mem_cons_of_mem _ uw_3_12) rfl rfl dX3_takeOperator_45 ?_
      refine tk_Vv hC hK hw hT hA hE hSR kC_at1 (by decide) rfl (kz_X6_pass_1 l adK adV dC dI cy ad B hB0 (Int.le_trans hB1 (by decide)) qr s1    w3 H.size hT ) (cwV 0 hC.2.2.2.2 uV_RX3_104 rfl rfl rfl (by decide +kernel) ⟨Nat.le_of_ble_eq_true rfl, Nat.le_of_ble_eq_true rfl⟩) rfl hl.1 rfl (Nat.le_of_ble_eq_true rfl) dX3_takeOperator_48 (fun w26 H locs hp25 hw => ?_)
      obtain ⟨hT, k27, hv29, hg28⟩ := hp25
      have hF := hF.tr k27 (by decide)
      have c30 := k27.gi kC_at1 (by decide) c10
      have c31 := k27.gi kC_at1 (by decide) c12
      clear hg28
      replace hM := hM.call hv29 rfl
      refine lv_bipush (v := 10) hx hb dX3_takeOperator_51 (by decide) ?_
      exact tk_iret hC hr hlocks hK ⟨hT, hF, hM.ret (by decide), (Or.inl ⟨(by decide), (by decide), ⟨x9, c30, (show 1 ≤ x9.toInt by first | with_reducible assumption | omega), (show x9.toInt ≤ 400 by first | with_reducible assumption | omega)⟩, ⟨x11, c31, (show 0 ≤ x11.toInt by first | with_reducible assumption | omega), (show x11.toInt ≤ 399 by first | with_reducible assumption | omega)⟩⟩)⟩ hw dX3_takeOperator_53
    · refine lv_tableIn (off := 77) (tgt := 84) hx hb dX3_takeOperator_7 (by omega) (by omega) (by rw [c15]; rfl) (by decide) ?_
      replace hM := hM.neg (by omega)
      replace hM := hM.neg (by omega)
      replace hM := hM.pos (by omega)
      refine lv_iconst (v := (-1)) hx hb dX3_takeOperator_84 (by decide) ?_
      exact tk_iret hC hr hlocks hK ⟨hT, hF, hM.ret (by decide), (Or.inr rfl)⟩ hw dX3_takeOperator_85
    · refine lv_tableIn (off := 47) (tgt := 54) hx hb dX3_takeOperator_7 (by omega) (by omega) (by rw [c15]; rfl) (by decide) ?_
      replace hM := hM.neg (by omega)
      replace hM := hM.neg (by omega)
      replace hM := hM.neg (by omega)
      replace hM := hM.pos (by omega)
      refine lv_aload_n hx hb dX3_takeOperator_54 rfl (lv_at hl 0 rfl) ?_
      refine tk_getA hC hK hw hT hinX3 kC_at3 (by decide) rfl 0 (by decide) (List.mem_cons_of_mem _ uw_3_12) rfl rfl dX3_takeOperator_55 ?_
      refine tk_Vv hC hK hw hT hA hE hSR kC_at1 (by decide) rfl (kz_X6_pass_1 l adK adV dC dI cy ad B hB0 (Int.le_trans hB1 (by decide)) qr s1    w3 H.size hT ) (cwV 0 hC.2.2.2.2 uV_RX3_104 rfl rfl rfl (by decide +kernel) ⟨Nat.le_of_ble_eq_true rfl, Nat.le_of_ble_eq_true rfl⟩) rfl hl.1 rfl (Nat.le_of_ble_eq_true rfl) dX3_takeOperator_58 (fun w34 H locs hp33 hw => ?_)
      obtain ⟨hT, k35, hv37, hg36⟩ := hp33
      have hF := hF.tr k35 (by decide)
      have c38 := k35.gi kC_at1 (by decide) c10
      have c39 := k35.gi kC_at1 (by decide) c12
      clear hg36
      replace hM := hM.call hv37 rfl
      refine lv_bipush (v := 11) hx hb dX3_takeOperator_61 (by decide) ?_
      exact tk_iret hC hr hlocks hK ⟨hT, hF, hM.ret (by decide), (Or.inl ⟨(by decide), (by decide), ⟨x9, c38, (show 1 ≤ x9.toInt by first | with_reducible assumption | omega), (show x9.toInt ≤ 400 by first | with_reducible assumption | omega)⟩, ⟨x11, c39, (show 0 ≤ x11.toInt by first | with_reducible assumption | omega), (show x11.toInt ≤ 399 by first | with_reducible assumption | omega)⟩⟩)⟩ hw dX3_takeOperator_63
    · refine lv_tableIn (off := 77) (tgt := 84) hx hb dX3_takeOperator_7 (by omega) (by omega) (by rw [c15]; rfl) (by decide) ?_
      replace hM := hM.neg (by omega)
      replace hM := hM.neg (by omega)
      replace hM := hM.neg (by omega)
      replace hM := hM.neg (by omega)
      replace hM := hM.pos (by omega)
      refine lv_iconst (v := (-1)) hx hb dX3_takeOperator_84 (by decide) ?_
      exact tk_iret hC hr hlocks hK ⟨hT, hF, hM.ret (by decide), (Or.inr rfl)⟩ hw dX3_takeOperator_85
    · refine lv_tableIn (off := 67) (tgt := 74) hx hb dX3_takeOperator_7 (by omega) (by omega) (by rw [c15]; rfl) (by decide) ?_
      replace hM := hM.neg (by omega)
      replace hM := hM.neg (by omega)
      replace hM := hM.neg (by omega)
      replace hM := hM.neg (by omega)
      replace hM := hM.neg (by omega)
      replace hM := hM.pos (by omega)
      refine lv_aload_n hx hb dX3_takeOperator_74 rfl (lv_at hl 0 rfl) ?_
      refine tk_getA hC hK hw hT hinX3 kC_at3 (by decide) rfl 0 (by decide) (List.mem_cons_of_mem _ uw_3_12) rfl rfl dX3_takeOperator_75 ?_
      refine tk_Vv hC hK hw hT hA hE hSR kC_at1 (by decide) rfl (kz_X6_pass_1 l adK adV dC dI cy ad B hB0 (Int.le_trans hB1 (by decide)) qr s1    w3 H.size hT ) (cwV 0 hC.2.2.2.2 uV_RX3_104 rfl rfl rfl (by decide +kernel) ⟨Nat.le_of_ble_eq_true rfl, Nat.le_of_ble_eq_true rfl⟩) rfl hl.1 rfl (Nat.le_of_ble_eq_true rfl) dX3_takeOperator_78 (fun w42 H locs hp41 hw => ?_)
      obtain ⟨hT, k43, hv45, hg44⟩ := hp41
      have hF := hF.tr k43 (by decide)
      have c46 := k43.gi kC_at1 (by decide) c10
      have c47 := k43.gi kC_at1 (by decide) c12
      clear hg44
      replace hM := hM.call hv45 rfl
      refine lv_bipush (v := 13) hx hb dX3_takeOperator_81 (by decide) ?_
      exact tk_iret hC hr hlocks hK ⟨hT, hF, hM.ret (by decide), (Or.inl ⟨(by decide), (by decide), ⟨x9, c46, (show 1 ≤ x9.toInt by first | with_reducible assumption | omega), (show x9.toInt ≤ 400 by first | with_reducible assumption | omega)⟩, ⟨x11, c47, (show 0 ≤ x11.toInt by first | with_reducible assumption | omega), (show x11.toInt ≤ 399 by first | with_reducible assumption | omega)⟩⟩)⟩ hw dX3_takeOperator_83
    · refine lv_tableOut (tgt := 84) hx hb dX3_takeOperator_7 c15 (by decide) ?_
      replace hM := hM.neg (by omega)
      replace hM := hM.neg (by omega)
      replace hM := hM.neg (by omega)
      replace hM := hM.neg (by omega)
      replace hM := hM.neg (by omega)
      replace hM := hM.neg (by omega)
      refine lv_iconst (v := (-1)) hx hb dX3_takeOperator_84 (by decide) ?_
      exact tk_iret hC hr hlocks hK ⟨hT, hF, hM.ret (by decide), (Or.inr rfl)⟩ hw dX3_takeOperator_85
  · replace hM := hM.call (r' := (-1)) hv14 (by decide)
    refine lv_tableOut (tgt := 84) hx hb dX3_takeOperator_7 (by decide) (by decide) ?_
    replace hM := hM.neg (by decide)
    replace hM := hM.neg (by decide)
    replace hM := hM.neg (by decide)
    replace hM := hM.neg (by decide)
    replace hM := hM.neg (by decide)
    replace hM := hM.neg (by decide)
    refine lv_iconst (v := (-1)) hx hb dX3_takeOperator_84 (by decide) ?_
    exact tk_iret hC hr hlocks hK ⟨hT, hF, hM.ret (by decide), (Or.inr rfl)⟩ hw dX3_takeOperator_85
abbrev Pz_X3_readSum_1 (ad : Nat → Nat) (cy : Nat → ClassId) (B : Int) (qr : Nat) (s1 : Int)  (w0 : va_W) : va_W → Prop := fun u => TW ksC ad cy B qr s1 u ∧ FE ksC [(2, 3, 3), (3, 2, 2), (6, 1, 1), (6, 3, 3), (6, 4, 4), (22, 0, 13), (23, 0, 400)] w0 u ∧ Ev (fun n => m_X3_readSum n qr 3 (sI w0)) (0, sI u) ∧ ((True))
set_option maxHeartbeats 4000000 in
set_option maxRecDepth 100000 in
theorem kz_X3_readSum_1 (l : Launch) (adK adV : Nat → Nat) (dC : Nat → ClassId) (dI : Nat → Nat → Nat) (cy : Nat → ClassId) (ad : Nat → Nat) (B : Int) (hB0 : 2147483648 ≤ B) (hB1 : B ≤ 1152921504606846976) (qr : Nat) (s1 : Int) (hqr : ksC[qr]? = some 2)  (w0 : va_W) (sz : Nat) (hT : TW ksC ad cy B qr s1 w0) (cf0_ : gi w0 1 4 = 0) : Met l yX3_readSum (wu yX3_readSum cX3_readSum 4 none) ({ frames := 7, cells := 0, slots := 0, locals := 188 }) (va_Pc [.ref (ad 3)] (wpreS adK adV dC dI cy sz w0)) (va_Qv (Pz_X3_readSum_1 ad cy B qr s1  w0) (fun u : va_W => wpost dC dI cy (va_A w0 sz) u) (va_A w0 sz)) 0 0 (va_A w0 sz) := by
  refine Met.ofW (cc := cX3_readSum) (maxL := 4) (ret := none) (by decide) rfl ?_
  intro p e s m args below meth c s₁ Bk hml hv
  obtain ⟨rfl, ⟨hsz, hP, hK, hD0⟩, hE, hSR⟩ := hv
  have hx := Bk.exec
  have hb := Bk.bytes
  have hr := Bk.returns
  have hlocks := Bk.notSynchronized
  have hC : CallFix p m c cX3_readSum 4 s _ (wu yX3_readSum cX3_readSum 4 none) RX3 := ⟨hx, hb, hml, findClass_of_methodNamed Bk.named, atoms_spec (ws := (wu yX3_readSum cX3_readSum 4 none)) Bk.pre⟩
  subst hsz
  have hD := hD0.self (sz := s.heap.size)
  generalize hAe : va_A w0 s.heap.size = A at hD hE ⊢
  have hA : ∀ q : Nat, s.heap.size ≤ q → A q := fun q h => by rw [← hAe]; exact Or.inr h
  have hw : Wd dC dI A s.heap s.heap [] w0 := ⟨hP, hD, va_S.rf⟩
  have hF : FE ksC [(2, 3, 3), (3, 2, 2), (6, 1, 1), (6, 3, 3), (6, 4, 4), (22, 0, 13), (23, 0, 400)] w0 w0 := FE.rf
  have hl := lv_entry ([.ref (ad 3)]) (n := 4) (Nat.le_of_ble_eq_true rfl)
  rw [lg_entry_eq]
  generalize (lg_sl ([.ref (ad 3)]) ++ List.replicate (4 - (lg_sl ([.ref (ad 3)])).length) Slot.unset).toArray = ls at hl ⊢
  have hl : lv_has ls 4 [(0, .ref (ad 3))] := hl
  generalize hloc : ([] : List Loc) = locs at hw ⊢
  have hinX3 : ∀ w ∈ u_ws RX3 TX3 3, w ∈ (wu yX3_readSum cX3_readSum 4 none) := fun _ h => List.mem_cons_of_mem _ (up_75 h)
  have J82 : ∀ (v82_1 : Int32) (v82_2 : Int32) (H : Heap) (locs : List Loc) (ls : Array Slot) (w1 : va_W), (-1) ≤ v82_1.toInt → v82_1.toInt ≤ 12 → 0 ≤ v82_2.toInt → v82_2.toInt ≤ 400 → Wd dC dI A s.heap H locs w1 → TW ksC ad cy B qr s1 w1 → FE ksC [(2, 3, 3), (3, 2, 2), (6, 1, 1), (6, 3, 3), (6, 4, 4), (22, 0, 13), (23, 0, 400)] w0 w1 → TT (fun n => m_X3_readSum n qr 3 (sI w0)) (fun n => b_X3_readSum_82 (j_X3_readSum qr 3 n) n qr 3 (v82_1.toInt) (sI w1)) → lv_has ls 4 [(0, .ref (ad 3)), (1, .int v82_1), (2, .int v82_2)] → W p l e ({ frames := 7, cells := 0, slots := 0, locals := 188 }) s m (List.toArray [.ref (ad 3)]) below meth c H locs 0 0 (MQ below (va_Qv (Pz_X3_readSum_1 ad cy B qr s1  w0) (fun u : va_W => wpost dC dI cy A u) A) (List.toArray [.ref (ad 3)]) s 0 0 A) (F0 m 82 ls []) := by
    intro v82_1 v82_2 H locs ls w1 r2 t3 r4 t5 hw hT hF hM hl
    refine lv_aload_n hx hb dX3_readSum_82 rfl (lv_at hl 0 rfl) ?_
    refine lv_iload_n hx hb dX3_readSum_83 rfl (lv_at hl 1 rfl) ?_
    refine tk_Vv hC hK hw hT hA hE hSR kC_at3 (by decide) rfl (kz_X3_addWaiting_1 l adK adV dC dI cy ad B hB0 (Int.le_trans hB1 (by decide)) qr s1 hqr  v82_1 w1 H.size hT ) (cwV 1 hC.2.2.2.2 uV_RX3_79 rfl rfl rfl (by decide +kernel) ⟨Nat.le_of_ble_eq_true rfl, Nat.le_of_ble_eq_true rfl⟩) rfl hl.1 rfl (Nat.le_of_ble_eq_true rfl) dX3_readSum_84 (fun w8 H locs hp7 hw => ?_)
    obtain ⟨hT, k9, hv11, hg10⟩ := hp7
    have hF := hF.tr k9 (by decide)
    clear hg10
    replace hM := hM.call hv11 rfl
    exact tk_vret hC hr hlocks hK ⟨hT, hF, hM.ret rfl, trivial⟩ hw dX3_readSum_87
  have L8 : ∀ (n8 : Nat) (v8_1 : Int32) (v8_2 : Int32) (H : Heap) (locs : List Loc) (ls : Array Slot) (w12 : va_W), (-1) ≤ v8_1.toInt → v8_1.toInt ≤ 12 → 0 ≤ v8_2.toInt → v8_2.toInt ≤ 400 → (400 - v8_2.toInt).toNat < n8 → Wd dC dI A s.heap H locs w12 → TW ksC ad cy B qr s1 w12 → FE ksC [(2, 3, 3), (3, 2, 2), (6, 1, 1), (6, 3, 3), (6, 4, 4), (22, 0, 13), (23, 0, 400)] w0 w12 → TT (fun n => m_X3_readSum n qr 3 (sI w0)) (fun n => j_X3_readSum qr 3 n 8 [v8_1.toInt, v8_2.toInt] (sI w12)) → lv_has ls 4 [(0, .ref (ad 3)), (1, .int v8_1), (2, .int v8_2)] → W p l e ({ frames := 7, cells := 0, slots := 0, locals := 188 }) s m (List.toArray [.ref (ad 3)]) below meth c H locs 0 0 (MQ below (va_Qv (Pz_X3_readSum_1 ad cy B qr s1  w0) (fun u : va_W => wpost dC dI cy A u) A) (List.toArray [.ref (ad 3)]) s 0 0 A) (F0 m 8 ls []) := by
    intro n8
    induction n8 with
    | zero => intro v8_1 v8_2 H locs ls w12 r13 t14 r15 t16 hm8 hw hT hF hM hl; omega
    | succ n8 ih8 =>
      intro v8_1 v8_2 H locs ls w12 r13 t14 r15 t16 hm8 hw hT hF hM hl
      have J76 : ∀ (v76_1 : Int32) (v76_3 : Int32) (f76_1_2 : Int32) (H : Heap) (locs : List Loc) (ls : Array Slot) (w17 : va_W), (-1) ≤ v76_1.toInt → v76_1.toInt ≤ 12 → 0 ≤ v8_2.toInt → v8_2.toInt ≤ 399 → 10 ≤ v76_3.toInt → v76_3.toInt ≤ 13 → 1 ≤ f76_1_2.toInt → f76_1_2.toInt ≤ 400 → Wd dC dI A s.heap H locs w17 → TW ksC ad cy B qr s1 w17 → FE ksC [(2, 3, 3), (3, 2, 2), (6, 1, 1), (6, 3, 3), (6, 4, 4), (22, 0, 13), (23, 0, 400)] w0 w17 → gi w17 1 2 = f76_1_2 → TT (fun n => m_X3_readSum n qr 3 (sI w0)) (fun n => b_X3_readSum_76 (j_X3_readSum qr 3 n) n qr 3 (v76_1.toInt) (v8_2.toInt) (sI w17)) → lv_has ls 4 [(0, .ref (ad 3)), (1, .int v76_1), (2, .int v8_2), (3, .int v76_3)] → W p l e ({ frames := 7, cells := 0, slots := 0, locals := 188 }) s m (List.toArray [.ref (ad 3)]) below meth c H locs 0 0 (MQ below (va_Qv (Pz_X3_readSum_1 ad cy B qr s1  w0) (fun u : va_W => wpost dC dI cy A u) A) (List.toArray [.ref (ad 3)]) s 0 0 A) (F0 m 76 ls []) := by
        intro v76_1 v76_3 f76_1_2 H locs ls w17 r18 t19 r20 t21 r22 t23 r24 t25 hw hT hF c26 hM hl
        obtain ⟨x27, ex27⟩ : ∃ y : Int32, y = v8_2 + Int32.ofInt 1 := ⟨_, rfl⟩
        have erx27 := ex27
        refine lv_iinc (v := x27) (lv' := [(2, .int x27), (0, .ref (ad 3)), (1, .int v76_1), (3, .int v76_3)]) hx hb dX3_readSum_76 hl (k := 2) rfl ex27.symm (by decide) rfl (fun ls hl => ?_)
        have ex27 : x27.toInt = v8_2.toInt + 1 := by rw [ex27]; exact wk_add (y := 1) (show -2147483648 ≤ v8_2.toInt + 1 by omega) (show v8_2.toInt + 1 ≤ 2147483647 by omega)
        replace hM := hM.lt ex27.symm
        refine lv_goto (tgt := 8) hx hb dX3_readSum_79 (by decide) ?_
        exact ih8 v76_1 x27 H locs ls w17 (show (-1) ≤ v76_1.toInt from r18) (show v76_1.toInt ≤ 12 from t19) (show 0 ≤ x27.toInt by first | with_reducible assumption | omega) (show x27.toInt ≤ 400 by first | with_reducible assumption | omega) (show (400 - x27.toInt).toNat < n8 by first | exact tn_lt hm8 (by omega) (by omega) | omega) hw hT hF hM (lv_sub hl [1, 2, 0] rfl)
      have J50 : ∀ (v50_3 : Int32) (f50_1_2 : Int32) (f50_1_3 : Int32) (H : Heap) (locs : List Loc) (ls : Array Slot) (w28 : va_W), (-1) ≤ v8_1.toInt → v8_1.toInt ≤ 12 → 0 ≤ v8_2.toInt → v8_2.toInt ≤ 399 → 12 ≤ v50_3.toInt → v50_3.toInt ≤ 13 → 1 ≤ f50_1_2.toInt → f50_1_2.toInt ≤ 400 → 0 ≤ f50_1_3.toInt → f50_1_3.toInt ≤ 399 → Wd dC dI A s.heap H locs w28 → TW ksC ad cy B qr s1 w28 → FE ksC [(2, 3, 3), (3, 2, 2), (6, 1, 1), (6, 3, 3), (6, 4, 4), (22, 0, 13), (23, 0, 400)] w0 w28 → gi w28 1 2 = f50_1_2 → gi w28 1 3 = f50_1_3 → gi w28 1 4 = 0 → TT (fun n => m_X3_readSum n qr 3 (sI w0)) (fun n => b_X3_readSum_50 (j_X3_readSum qr 3 n) n qr 3 (v8_1.toInt) (v8_2.toInt) (v50_3.toInt) (sI w28)) → lv_has ls 4 [(0, .ref (ad 3)), (1, .int v8_1), (2, .int v8_2), (3, .int v50_3)] → W p l e ({ frames := 7, cells := 0, slots := 0, locals := 188 }) s m (List.toArray [.ref (ad 3)]) below meth c H locs 0 0 (MQ below (va_Qv (Pz_X3_readSum_1 ad cy B qr s1  w0) (fun u : va_W => wpost dC dI cy A u) A) (List.toArray [.ref (ad 3)]) s 0 0 A) (F0 m 50 ls []) := by
        intro v50_3 f50_1_2 f50_1_3 H locs ls w28 r29 t30 r31 t32 r33 t34 r35 t36 r38 t39 hw hT hF c37 c40 c41 hM hl
        refine lv_aload_n hx hb dX3_readSum_50 rfl (lv_at hl 0 rfl) ?_
        refine tk_Vv hC hK hw hT hA hE hSR kC_at3 (by decide) rfl (kz_X3_readValue_1 l adK adV dC dI cy ad B hB0 (Int.le_trans hB1 (by decide)) qr s1 hqr   w28 H.size hT c41) (cwV 0 hC.2.2.2.2 uV_RX3_110 rfl rfl rfl (by decide +kernel) ⟨Nat.le_of_ble_eq_true rfl, Nat.le_of_ble_eq_true rfl⟩) rfl hl.1 rfl (Nat.le_of_ble_eq_true rfl) dX3_readSum_51 (fun w44 H locs hp43 hw => ?_)
        obtain ⟨hT, k45, hv47, hg46⟩ := hp43
        have hF := hF.tr k45 (by decide)
        have c48 := k45.gi kC_at1 (by decide) c37
        clear hg46
        replace hM := hM.call hv47 rfl
        refine lv_aload_n hx hb dX3_readSum_54 rfl (lv_at hl 0 rfl) ?_
        refine tk_getQ hC hK hw hT hqr (by decide) hinX3 kC_at3 (by decide) rfl 1 (by decide) (List.mem_cons_of_mem _ uw_26_17) rfl rfl dX3_readSum_55 ?_
        refine lv_iload_n hx hb dX3_readSum_58 rfl (lv_at hl 3 rfl) ?_
        refine tk_Vv hC hK hw hT hA hE hSR hqr (by decide) rfl (kz_X2_addToken_1 l adK adV dC dI cy ad B hB0 (Int.le_trans hB1 (by decide)) qr s1   qr hqr v50_3 w44 H.size hT ) (cwV 1 hC.2.2.2.2 uV_RX3_74 rfl rfl rfl (by decide +kernel) ⟨Nat.le_of_ble_eq_true rfl, Nat.le_of_ble_eq_true rfl⟩) rfl hl.1 rfl (Nat.le_of_ble_eq_true rfl) dX3_readSum_59 (fun w51 H locs hp50 hw => ?_)
        obtain ⟨hT, k52, hv56, hg55⟩ := hp50
        have hF := hF.tr k52 (by decide)
        have c57 := k52.gi kC_at1 (by decide) c48
        obtain ⟨x53, c54, rx53, tx53⟩ := hg55
        replace hM := hM.call hv56 rfl
        refine lv_goto (tgt := 76) hx hb dX3_readSum_62 (by decide) ?_
        exact J76 v8_1 v50_3 f50_1_2 H locs ls w51 (show (-1) ≤ v8_1.toInt from r29) (show v8_1.toInt ≤ 12 from t30) (show 0 ≤ v8_2.toInt from r31) (show v8_2.toInt ≤ 399 from t32) (show 10 ≤ v50_3.toInt from Int.le_trans (by decide) r33) (show v50_3.toInt ≤ 13 from t34) (show 1 ≤ f50_1_2.toInt from r35) (show f50_1_2.toInt ≤ 400 from t36)  hw hT hF c57 hM (lv_sub hl [0, 1, 2, 3] rfl)
      replace hM := hM.suc (fun _ => e_X3_readSum_8)
      refine lv_iload_n hx hb dX3_readSum_8 rfl (lv_at hl 2 rfl) ?_
      refine lv_sipush (v := 400) hx hb dX3_readSum_9 (by decide) ?_
      refine lv_icmp_ge (tgt := 82) hx hb dX3_readSum_12 (by decide) (fun c58 => ?_) (fun c58 => ?_)
      · have c58 : (400 : Int) ≤ v8_2.toInt := wk_le.mp c58
        replace hM := hM.pos c58
        exact J82 v8_1 v8_2 H locs ls w12 (show (-1) ≤ v8_1.toInt from r13) (show v8_1.toInt ≤ 12 from t14) (show 0 ≤ v8_2.toInt from r15) (show v8_2.toInt ≤ 400 from t16)  hw hT hF hM (lv_sub hl [0, 1, 2] rfl)
      · have c58 : v8_2.toInt < (400 : Int) := wk_leF c58
        replace hM := hM.neg (Int.not_le.mpr c58)
        refine lv_aload_n hx hb dX3_readSum_15 rfl (lv_at hl 0 rfl) ?_
        refine tk_getA hC hK hw hT hinX3 kC_at3 (by decide) rfl 0 (by decide) (List.mem_cons_of_mem _ uw_3_12) rfl rfl dX3_readSum_16 ?_
        refine tk_Vi hC hK hw hT hA hE hSR kC_at1 (by decide) rfl (kz_X6_isFaulty_1 l adK adV dC dI cy ad B hB0 (Int.le_trans hB1 (by decide)) qr s1    w12 H.size hT ) (cwV 0 hC.2.2.2.2 uV_RX3_54 rfl rfl rfl (by decide +kernel) ⟨Nat.le_of_ble_eq_true rfl, Nat.le_of_ble_eq_true rfl⟩) rfl hl.1 rfl (Nat.le_of_ble_eq_true rfl) dX3_readSum_19 (fun r59 w61 H locs hp60 hw => ?_)
        obtain ⟨hT, k62, hv68, hg67⟩ := hp60
        have hF := hF.tr k62 (by decide)
        rcases hg67 with ⟨rfl, ⟨x63, c64, rx63, tx63⟩⟩ | ⟨rfl, ⟨x65, c66, rx65, tx65⟩⟩
        · replace hM := hM.call (r' := 0) hv68 (by decide)
          refine lv_if_ne (tgt := 82) hx hb dX3_readSum_22 (by decide) (fun c => absurd (by decide) c) (fun _ => ?_)
          replace hM := hM.neg (by decide)
          refine lv_aload_n hx hb dX3_readSum_25 rfl (lv_at hl 0 rfl) ?_
          refine tk_Vi hC hK hw hT hA hE hSR kC_at3 (by decide) rfl (kz_X3_takeOperator_1 l adK adV dC dI cy ad B hB0 (Int.le_trans hB1 (by decide)) qr s1    w61 H.size hT ) (cwV 0 hC.2.2.2.2 uV_RX3_113 rfl rfl rfl (by decide +kernel) ⟨Nat.le_of_ble_eq_true rfl, Nat.le_of_ble_eq_true rfl⟩) rfl hl.1 rfl (Nat.le_of_ble_eq_true rfl) dX3_readSum_26 (fun r69 w71 H locs hp70 hw => ?_)
          obtain ⟨hT, k72, hv80, hg79⟩ := hp70
          have hF := hF.tr k72 (by decide)
          have c81 := k72.gi kC_at1 (by decide) c64
          rcases hg79 with ⟨g73, g74, ⟨x75, c76, rx75, tx75⟩, ⟨x77, c78, rx77, tx77⟩⟩ | rfl
          · replace hM := hM.call hv80 rfl
            refine lv_istore_n (lv' := [(3, .int r69), (0, .ref (ad 3)), (1, .int v8_1), (2, .int v8_2)]) hx hb dX3_readSum_29 rfl hl (by decide) rfl (fun ls hl => ?_)
            refine lv_iload_n hx hb dX3_readSum_30 rfl (lv_at hl 0 rfl) ?_
            refine lv_iconst (v := (-1)) hx hb dX3_readSum_31 (by decide) ?_
            refine lv_icmp_ne (tgt := 38) hx hb dX3_readSum_32 (by decide) (fun _ => ?_) (fun c => absurd (show r69.toInt = (-1 : Int) from wk_eq.mp c) (by omega))
            replace hM := hM.pos (by omega)
            refine lv_iload_n hx hb dX3_readSum_38 rfl (lv_at hl 0 rfl) ?_
            refine lv_bipush (v := 12) hx hb dX3_readSum_39 (by decide) ?_
            refine lv_icmp_eq (tgt := 50) hx hb dX3_readSum_41 (by decide) (fun c82 => ?_) (fun c82 => ?_)
            · have c82 : r69.toInt = (12 : Int) := wk_eq.mp c82
              replace hM := hM.pos c82
              obtain rfl : x63 = 0 := wk_eq.mpr (show x63.toInt = 0 by first | exact Int.le_antisymm (by omega) (by omega) | omega)
              try simp only [show (0 : Int32).toInt = 0 by decide] at hM
              exact J50 r69 x75 x77 H locs ls w71 (show (-1) ≤ v8_1.toInt from r13) (show v8_1.toInt ≤ 12 from t14) (show 0 ≤ v8_2.toInt from r15) (show v8_2.toInt ≤ 399 by first | with_reducible assumption | omega) (show 12 ≤ r69.toInt by first | with_reducible assumption | omega) (show r69.toInt ≤ 13 by first | with_reducible assumption | omega) (show 1 ≤ x75.toInt by first | with_reducible assumption | omega) (show x75.toInt ≤ 400 by first | with_reducible assumption | omega) (show 0 ≤ x77.toInt by first | with_reducible assumption | omega) (show x77.toInt ≤ 399 by first | with_reducible assumption | omega)  hw hT hF c76 c78 c81 hM (lv_sub hl [1, 2, 3, 0] rfl)
            · have c82 : ¬ r69.toInt = (12 : Int) := wk_eqF c82
              replace hM := hM.neg c82
              refine lv_iload_n hx hb dX3_readSum_44 rfl (lv_at hl 0 rfl) ?_
              refine lv_bipush (v := 13) hx hb dX3_readSum_45 (by decide) ?_
              refine lv_icmp_ne (tgt := 65) hx hb dX3_readSum_47 (by decide) (fun c83 => ?_) (fun c83 => ?_)
              · have c83 : ¬ r69.toInt = (13 : Int) := wk_eqF c83
                replace hM := hM.pos c83
                refine lv_aload_n hx hb dX3_readSum_65 rfl (lv_at hl 1 rfl) ?_
                refine lv_iload_n hx hb dX3_readSum_66 rfl (lv_at hl 2 rfl) ?_
                refine tk_Vv hC hK hw hT hA hE hSR kC_at3 (by decide) rfl (kz_X3_addWaiting_1 l adK adV dC dI cy ad B hB0 (Int.le_trans hB1 (by decide)) qr s1 hqr  v8_1 w71 H.size hT ) (cwV 1 hC.2.2.2.2 uV_RX3_79 rfl rfl rfl (by decide +kernel) ⟨Nat.le_of_ble_eq_true rfl, Nat.le_of_ble_eq_true rfl⟩) rfl hl.1 rfl (Nat.le_of_ble_eq_true rfl) dX3_readSum_67 (fun w86 H locs hp85 hw => ?_)
                obtain ⟨hT, k87, hv89, hg88⟩ := hp85
                have hF := hF.tr k87 (by decide)
                have c90 := k87.gi kC_at1 (by decide) c81
                have c91 := k87.gi kC_at1 (by decide) c76
                have c92 := k87.gi kC_at1 (by decide) c78
                clear hg88
                replace hM := hM.call hv89 rfl
                refine lv_iload_n hx hb dX3_readSum_70 rfl (lv_at hl 0 rfl) ?_
                refine lv_istore_n (lv' := [(1, .int r69), (3, .int r69), (0, .ref (ad 3)), (2, .int v8_2)]) hx hb dX3_readSum_71 rfl hl (by decide) rfl (fun ls hl => ?_)
                refine lv_aload_n hx hb dX3_readSum_72 rfl (lv_at hl 2 rfl) ?_
                refine tk_Vv hC hK hw hT hA hE hSR kC_at3 (by decide) rfl (kz_X3_readValue_1 l adK adV dC dI cy ad B hB0 (Int.le_trans hB1 (by decide)) qr s1 hqr   w86 H.size hT (c90.trans (wk_eq.mpr (show x63.toInt = 0 by first | exact Int.le_antisymm (by omega) (by omega) | omega)))) (cwV 0 hC.2.2.2.2 uV_RX3_110 rfl rfl rfl (by decide +kernel) ⟨Nat.le_of_ble_eq_true rfl, Nat.le_of_ble_eq_true rfl⟩) rfl hl.1 rfl (Nat.le_of_ble_eq_true rfl) dX3_readSum_73 (fun w95 H locs hp94 hw => ?_)
                obtain ⟨hT, k96, hv98, hg97⟩ := hp94
                have hF := hF.tr k96 (by decide)
                have c99 := k96.gi kC_at1 (by decide) c91
                clear hg97
                replace hM := hM.call hv98 rfl
                exact J76 r69 r69 x75 H locs ls w95 (show (-1) ≤ r69.toInt by first | with_reducible assumption | omega) (show r69.toInt ≤ 12 by first | with_reducible assumption | omega) (show 0 ≤ v8_2.toInt from r15) (show v8_2.toInt ≤ 399 by first | with_reducible assumption | omega) (show 10 ≤ r69.toInt by first | with_reducible assumption | omega) (show r69.toInt ≤ 13 by first | with_reducible assumption | omega) (show 1 ≤ x75.toInt by first | with_reducible assumption | omega) (show x75.toInt ≤ 400 by first | with_reducible assumption | omega)  hw hT hF c99 hM (lv_sub hl [2, 0, 3, 1] rfl)
              · have c83 : r69.toInt = (13 : Int) := wk_eq.mp c83
                replace hM := hM.neg (fun q => q c83)
                obtain rfl : x63 = 0 := wk_eq.mpr (show x63.toInt = 0 by first | exact Int.le_antisymm (by omega) (by omega) | omega)
                try simp only [show (0 : Int32).toInt = 0 by decide] at hM
                exact J50 r69 x75 x77 H locs ls w71 (show (-1) ≤ v8_1.toInt from r13) (show v8_1.toInt ≤ 12 from t14) (show 0 ≤ v8_2.toInt from r15) (show v8_2.toInt ≤ 399 by first | with_reducible assumption | omega) (show 12 ≤ r69.toInt by first | with_reducible assumption | omega) (show r69.toInt ≤ 13 by first | with_reducible assumption | omega) (show 1 ≤ x75.toInt by first | with_reducible assumption | omega) (show x75.toInt ≤ 400 by first | with_reducible assumption | omega) (show 0 ≤ x77.toInt by first | with_reducible assumption | omega) (show x77.toInt ≤ 399 by first | with_reducible assumption | omega)  hw hT hF c76 c78 c81 hM (lv_sub hl [1, 2, 3, 0] rfl)
          · replace hM := hM.call (r' := (-1)) hv80 (by decide)
            refine lv_istore_n (lv' := [(3, .int (-1)), (0, .ref (ad 3)), (1, .int v8_1), (2, .int v8_2)]) hx hb dX3_readSum_29 rfl hl (by decide) rfl (fun ls hl => ?_)
            refine lv_iload_n hx hb dX3_readSum_30 rfl (lv_at hl 0 rfl) ?_
            refine lv_iconst (v := (-1)) hx hb dX3_readSum_31 (by decide) ?_
            refine lv_icmp_ne (tgt := 38) hx hb dX3_readSum_32 (by decide) (fun c => absurd (by decide) c) (fun _ => ?_)
            replace hM := hM.neg (by decide)
            refine lv_goto (tgt := 82) hx hb dX3_readSum_35 (by decide) ?_
            exact J82 v8_1 v8_2 H locs ls w71 (show (-1) ≤ v8_1.toInt from r13) (show v8_1.toInt ≤ 12 from t14) (show 0 ≤ v8_2.toInt from r15) (show v8_2.toInt ≤ 400 from t16)  hw hT hF hM (lv_sub hl [1, 2, 3] rfl)
        · replace hM := hM.call (r' := 1) hv68 (by decide)
          refine lv_if_ne (tgt := 82) hx hb dX3_readSum_22 (by decide) (fun _ => ?_) (fun c => absurd c (by decide))
          replace hM := hM.pos (by decide)
          exact J82 v8_1 v8_2 H locs ls w61 (show (-1) ≤ v8_1.toInt from r13) (show v8_1.toInt ≤ 12 from t14) (show 0 ≤ v8_2.toInt from r15) (show v8_2.toInt ≤ 400 from t16)  hw hT hF hM (lv_sub hl [0, 1, 2] rfl)
  have hM : TT (fun n => m_X3_readSum n qr 3 (sI w0)) (fun n => m_X3_readSum n qr 3 (sI w0)) := TT.rf
  refine lv_aload_n hx hb dX3_readSum_0 rfl (lv_at hl 0 rfl) ?_
  refine tk_Vv hC hK hw hT hA hE hSR kC_at3 (by decide) rfl (kz_X3_readValue_1 l adK adV dC dI cy ad B hB0 (Int.le_trans hB1 (by decide)) qr s1 hqr   w0 s.heap.size hT cf0_) (cwV 0 hC.2.2.2.2 uV_RX3_110 rfl rfl rfl (by decide +kernel) ⟨Nat.le_of_ble_eq_true rfl, Nat.le_of_ble_eq_true rfl⟩) rfl hl.1 rfl (Nat.le_of_ble_eq_true rfl) dX3_readSum_1 (fun w102 H locs hp101 hw => ?_)
  obtain ⟨hT, k103, hv105, hg104⟩ := hp101
  have hF := hF.tr k103 (by decide)
  clear hg104
  replace hM := hM.call hv105 rfl
  refine lv_iconst (v := (-1)) hx hb dX3_readSum_4 (by decide) ?_
  refine lv_istore_n (lv' := [(1, .int (-1)), (0, .ref (ad 3))]) hx hb dX3_readSum_5 rfl hl (by decide) rfl (fun ls hl => ?_)
  refine lv_iconst (v := 0) hx hb dX3_readSum_6 (by decide) ?_
  refine lv_istore_n (lv' := [(2, .int 0), (1, .int (-1)), (0, .ref (ad 3))]) hx hb dX3_readSum_7 rfl hl (by decide) rfl (fun ls hl => ?_)
  exact L8 ((400 - (0 : Int)).toNat + 1) (-1) 0 H locs ls w102 (by decide) (by decide) (by decide) (by decide) (Nat.lt_succ_self _) hw hT hF hM (lv_sub hl [2, 1, 0] rfl)
abbrev Pz_X3_countItem_2 (ad : Nat → Nat) (cy : Nat → ClassId) (B : Int) (qr : Nat) (s1 : Int)  (w0 : va_W) : va_W → Prop := fun u => TW ksC ad cy B qr s1 u ∧ FE ksC [(3, 2, 2), (6, 4, 4)] w0 u ∧ Ev (fun n => m_X3_countItem n 3 (sI w0)) (0, sI u) ∧ (((∃ y : Int32, gi u 1 4 = y ∧ 0 ≤ y.toInt ∧ y.toInt ≤ 3205)))
set_option maxHeartbeats 4000000 in
set_option maxRecDepth 100000 in
theorem kz_X3_countItem_2 (l : Launch) (adK adV : Nat → Nat) (dC : Nat → ClassId) (dI : Nat → Nat → Nat) (cy : Nat → ClassId) (ad : Nat → Nat) (B : Int) (hB0 : 2147483648 ≤ B) (hB1 : B ≤ 1152921504606846976) (qr : Nat) (s1 : Int)   (w0 : va_W) (sz : Nat) (hT : TW ksC ad cy B qr s1 w0) (cf0_ : gi w0 1 4 = 0) : Met l yX3_countItem (wu yX3_countItem cX3_countItem 1 none) ({ frames := 2, cells := 0, slots := 0, locals := 34 }) (va_Pc [.ref (ad 3)] (wpreS adK adV dC dI cy sz w0)) (va_Qv (Pz_X3_countItem_2 ad cy B qr s1  w0) (fun u : va_W => wpost dC dI cy (va_A w0 sz) u) (va_A w0 sz)) 0 0 (va_A w0 sz) := by
  refine Met.ofW (cc := cX3_countItem) (maxL := 1) (ret := none) (by decide) rfl ?_
  intro p e s m args below meth c s₁ Bk hml hv
  obtain ⟨rfl, ⟨hsz, hP, hK, hD0⟩, hE, hSR⟩ := hv
  have hx := Bk.exec
  have hb := Bk.bytes
  have hr := Bk.returns
  have hlocks := Bk.notSynchronized
  have hC : CallFix p m c cX3_countItem 1 s _ (wu yX3_countItem cX3_countItem 1 none) RX3 := ⟨hx, hb, hml, findClass_of_methodNamed Bk.named, atoms_spec (ws := (wu yX3_countItem cX3_countItem 1 none)) Bk.pre⟩
  subst hsz
  have hD := hD0.self (sz := s.heap.size)
  generalize hAe : va_A w0 s.heap.size = A at hD hE ⊢
  have hA : ∀ q : Nat, s.heap.size ≤ q → A q := fun q h => by rw [← hAe]; exact Or.inr h
  have hw : Wd dC dI A s.heap s.heap [] w0 := ⟨hP, hD, va_S.rf⟩
  have hF : FE ksC [(3, 2, 2), (6, 4, 4)] w0 w0 := FE.rf
  have hl := lv_entry ([.ref (ad 3)]) (n := 1) (Nat.le_of_ble_eq_true rfl)
  rw [lg_entry_eq]
  generalize (lg_sl ([.ref (ad 3)]) ++ List.replicate (1 - (lg_sl ([.ref (ad 3)])).length) Slot.unset).toArray = ls at hl ⊢
  have hl : lv_has ls 1 [(0, .ref (ad 3))] := hl
  generalize hloc : ([] : List Loc) = locs at hw ⊢
  have hinX3 : ∀ w ∈ u_ws RX3 TX3 3, w ∈ (wu yX3_countItem cX3_countItem 1 none) := fun _ h => List.mem_cons_of_mem _ (up_75 h)
  have hinX6 : ∀ w ∈ u_ws RX6 TX6 5, w ∈ (wu yX3_countItem cX3_countItem 1 none) := fun _ h => List.mem_cons_of_mem _ (up_72 h)
  have J34 : ∀ (f34_1_4 : Int32) (f34_3_2 : Int32) (H : Heap) (locs : List Loc) (ls : Array Slot) (w1 : va_W), 0 ≤ f34_1_4.toInt → f34_1_4.toInt ≤ 3205 → Wd dC dI A s.heap H locs w1 → TW ksC ad cy B qr s1 w1 → FE ksC [(3, 2, 2), (6, 4, 4)] w0 w1 → gi w1 1 4 = f34_1_4 → gi w1 3 2 = f34_3_2 → TT (fun n => m_X3_countItem n 3 (sI w0)) (fun n => b_X3_countItem_34 n 3 (sI w1)) → lv_has ls 1 [(0, .ref (ad 3))] → W p l e ({ frames := 2, cells := 0, slots := 0, locals := 34 }) s m (List.toArray [.ref (ad 3)]) below meth c H locs 0 0 (MQ below (va_Qv (Pz_X3_countItem_2 ad cy B qr s1  w0) (fun u : va_W => wpost dC dI cy A u) A) (List.toArray [.ref (ad 3)]) s 0 0 A) (F0 m 34 ls []) := by
    intro f34_1_4 f34_3_2 H locs ls w1 r2 t3 hw hT hF c4 c5 hM hl
    exact tk_vret hC hr hlocks hK ⟨hT, hF, hM.ret rfl, ⟨f34_1_4, c4, (show 0 ≤ f34_1_4.toInt from r2), (show f34_1_4.toInt ≤ 3205 from t3)⟩⟩ hw dX3_countItem_34
  have hM : TT (fun n => m_X3_countItem n 3 (sI w0)) (fun n => m_X3_countItem n 3 (sI w0)) := TT.rf
  refine lv_aload_n hx hb dX3_countItem_0 rfl (lv_at hl 0 rfl) ?_
  refine lv_dup hx hb dX3_countItem_1 rfl ?_
  refine tk_geti hC hK hw hT hinX3 kC_at3 (by decide) rfl 2 (by decide) (List.mem_cons_of_mem _ uw_26_18) rfl rfl dX3_countItem_2 (fun x6 c7 rx6 tx6 => ?_)
  replace hM := hM.rd (sI_at c7)
  refine lv_iconst (v := 1) hx hb dX3_countItem_5 (by decide) ?_
  refine lv_iadd hx hb dX3_countItem_6 ?_
  have nx8 := wk_i32 x6
  refine lv_topi (fun x9 ex9 => ?_)
  have ezx9 := ex9
  replace hM := hM.lt (o32_e (f := fun x y => x + y) ezx9 rfl (by decide))
  refine tk_puti hC hK hw hT hinX3 tyX3_ok nmX3 kC_at3 (by decide) rfl rfl 2 (by decide) (List.mem_cons_of_mem _ uw_26_18) rfl rfl rfl rfl (wk_i32 x9).1 (wk_i32 x9).2 dX3_countItem_7 (fun H locs w10 hw hT k12 c11 => ?_)
  replace hM := hM.wr (sI_up k12 c11)
  have hF := hF.put kC_at3 (k := 2) (by decide) k12
  have c13 := k12.gi (Or.inr (by decide)) cf0_
  refine lv_aload_n hx hb dX3_countItem_10 rfl (lv_at hl 0 rfl) ?_
  refine tk_geti hC hK hw hT hinX3 kC_at3 (by decide) rfl 2 (by decide) (List.mem_cons_of_mem _ uw_26_18) rfl rfl dX3_countItem_11 (fun x14 c15 rx14 tx14 => ?_)
  refine wk_top x9 (c15.symm.trans c11) ?_
  replace hM := hM.rd (sI_at c11)
  refine lv_bipush (v := 60) hx hb dX3_countItem_14 (by decide) ?_
  refine lv_icmp_le (tgt := 34) hx hb dX3_countItem_16 (by decide) (fun c16 => ?_) (fun c16 => ?_)
  · have c16 : x9.toInt ≤ (60 : Int) := wk_le.mp c16
    replace hM := hM.pos c16
    exact J34 0 x9 H locs ls w10 (by decide) (by decide)  hw hT hF c13 c11 hM (lv_sub hl [0] rfl)
  · have c16 : (60 : Int) < x9.toInt := wk_leF c16
    replace hM := hM.neg (Int.not_le.mpr c16)
    refine lv_aload_n hx hb dX3_countItem_19 rfl (lv_at hl 0 rfl) ?_
    refine tk_getA hC hK hw hT hinX3 kC_at3 (by decide) rfl 0 (by decide) (List.mem_cons_of_mem _ uw_3_12) rfl rfl dX3_countItem_20 ?_
    refine lv_aload_n hx hb dX3_countItem_23 rfl (lv_at hl 0 rfl) ?_
    refine tk_getA hC hK hw hT hinX3 kC_at3 (by decide) rfl 0 (by decide) (List.mem_cons_of_mem _ uw_3_12) rfl rfl dX3_countItem_24 ?_
    refine tk_geti hC hK hw hT hinX6 kC_at1 (by decide) rfl 3 (by decide) (List.mem_cons_of_mem _ uw_26_19) rfl rfl dX3_countItem_27 (fun x17 c18 rx17 tx17 => ?_)
    replace hM := hM.rd (sI_at c18)
    refine lv_iconst (v := 3) hx hb dX3_countItem_30 (by decide) ?_
    refine tk_Vv hC hK hw hT hA hE hSR kC_at1 (by decide) rfl (kz_X6_blame_2 l adK adV dC dI cy ad B hB0 (Int.le_trans hB1 (by decide)) qr s1   x17 (show 0 ≤ x17.toInt from rx17) (show x17.toInt ≤ 400 from tx17) 3 (by decide) (by decide) w10 H.size hT c13) (cwV 2 hC.2.2.2.2 uV_RX3_46 rfl rfl rfl (by decide +kernel) ⟨Nat.le_of_ble_eq_true rfl, Nat.le_of_ble_eq_true rfl⟩) rfl hl.1 rfl (Nat.le_of_ble_eq_true rfl) dX3_countItem_31 (fun w21 H locs hp20 hw => ?_)
    obtain ⟨hT, k22, hv26, hg25⟩ := hp20
    try simp only [show (3 : Int32).toInt = 3 by decide] at hv26
    have hF := hF.tr k22 (by decide)
    have c27 := k22.gi kC_at3 (by decide) c11
    have c28 := k22.gi kC_at1 (by decide) c18
    obtain ⟨x23, c24, rx23, tx23⟩ := hg25
    replace hM := hM.call hv26 rfl
    exact J34 x23 x9 H locs ls w21 (show 0 ≤ x23.toInt by first | with_reducible assumption | omega) (show x23.toInt ≤ 3205 by first | with_reducible assumption | omega)  hw hT hF c24 c27 hM (lv_sub hl [0] rfl)
abbrev Pz_X3_readSign_1 (ad : Nat → Nat) (cy : Nat → ClassId) (B : Int) (qr : Nat) (s1 : Int)  (w0 : va_W) : Int32 → va_W → Prop := fun r u => TW ksC ad cy B qr s1 u ∧ FE ksC [(3, 2, 2), (6, 1, 1), (6, 3, 3), (6, 4, 4)] w0 u ∧ Ev (fun n => m_X3_readSign n 3 (sI w0)) (r.toInt, sI u) ∧ ((r = 16 ∧ (∃ y : Int32, gi u 1 4 = y ∧ 1 ≤ y.toInt ∧ y.toInt ≤ 3205)) ∨ (14 ≤ r.toInt ∧ r.toInt ≤ 18 ∧ (∃ y : Int32, gi u 1 2 = y ∧ 1 ≤ y.toInt ∧ y.toInt ≤ 400) ∧ (∃ y : Int32, gi u 1 3 = y ∧ 0 ≤ y.toInt ∧ y.toInt ≤ 399) ∧ (∃ y : Int32, gi u 1 4 = y ∧ 0 ≤ y.toInt ∧ y.toInt ≤ 3205)))
set_option maxHeartbeats 4000000 in
set_option maxRecDepth 100000 in
theorem kz_X3_readSign_1 (l : Launch) (adK adV : Nat → Nat) (dC : Nat → ClassId) (dI : Nat → Nat → Nat) (cy : Nat → ClassId) (ad : Nat → Nat) (B : Int) (hB0 : 2147483648 ≤ B) (hB1 : B ≤ 1152921504606846976) (qr : Nat) (s1 : Int)   (w0 : va_W) (sz : Nat) (hT : TW ksC ad cy B qr s1 w0)  : Met l yX3_readSign (wu yX3_readSign cX3_readSign 3 (some .int)) ({ frames := 3, cells := 0, slots := 0, locals := 54 }) (va_Pc [.ref (ad 3)] (wpreS adK adV dC dI cy sz w0)) (va_Qi (Pz_X3_readSign_1 ad cy B qr s1  w0) (fun u : va_W => wpost dC dI cy (va_A w0 sz) u) (va_A w0 sz)) 0 0 (va_A w0 sz) := by
  refine Met.ofW (cc := cX3_readSign) (maxL := 3) (ret := (some .int)) (by decide) rfl ?_
  intro p e s m args below meth c s₁ Bk hml hv
  obtain ⟨rfl, ⟨hsz, hP, hK, hD0⟩, hE, hSR⟩ := hv
  have hx := Bk.exec
  have hb := Bk.bytes
  have hr := Bk.returns
  have hlocks := Bk.notSynchronized
  have hC : CallFix p m c cX3_readSign 3 s _ (wu yX3_readSign cX3_readSign 3 (some .int)) RX3 := ⟨hx, hb, hml, findClass_of_methodNamed Bk.named, atoms_spec (ws := (wu yX3_readSign cX3_readSign 3 (some .int))) Bk.pre⟩
  subst hsz
  have hD := hD0.self (sz := s.heap.size)
  generalize hAe : va_A w0 s.heap.size = A at hD hE ⊢
  have hA : ∀ q : Nat, s.heap.size ≤ q → A q := fun q h => by rw [← hAe]; exact Or.inr h
  have hw : Wd dC dI A s.heap s.heap [] w0 := ⟨hP, hD, va_S.rf⟩
  have hF : FE ksC [(3, 2, 2), (6, 1, 1), (6, 3, 3), (6, 4, 4)] w0 w0 := FE.rf
  have hl := lv_entry ([.ref (ad 3)]) (n := 3) (Nat.le_of_ble_eq_true rfl)
  rw [lg_entry_eq]
  generalize (lg_sl ([.ref (ad 3)]) ++ List.replicate (3 - (lg_sl ([.ref (ad 3)])).length) Slot.unset).toArray = ls at hl ⊢
  have hl : lv_has ls 3 [(0, .ref (ad 3))] := hl
  generalize hloc : ([] : List Loc) = locs at hw ⊢
  have hinX3 : ∀ w ∈ u_ws RX3 TX3 3, w ∈ (wu yX3_readSign cX3_readSign 3 (some .int)) := fun _ h => List.mem_cons_of_mem _ (up_75 h)
  have J98 : ∀ (v98_1 : Int32) (v98_2 : Int32) (f98_1_2 : Int32) (f98_1_3 : Int32) (f98_1_4 : Int32) (H : Heap) (locs : List Loc) (ls : Array Slot) (w1 : va_W), 60 ≤ v98_1.toInt → v98_1.toInt ≤ 62 → 0 ≤ v98_2.toInt → v98_2.toInt ≤ 1 → 1 ≤ f98_1_2.toInt → f98_1_2.toInt ≤ 400 → 0 ≤ f98_1_3.toInt → f98_1_3.toInt ≤ 399 → 0 ≤ f98_1_4.toInt → f98_1_4.toInt ≤ 3205 → Wd dC dI A s.heap H locs w1 → TW ksC ad cy B qr s1 w1 → FE ksC [(3, 2, 2), (6, 1, 1), (6, 3, 3), (6, 4, 4)] w0 w1 → gi w1 1 2 = f98_1_2 → gi w1 1 3 = f98_1_3 → gi w1 1 4 = f98_1_4 → TT (fun n => m_X3_readSign n 3 (sI w0)) (fun n => b_X3_readSign_98 n 3 (v98_1.toInt) (v98_2.toInt) (sI w1)) → lv_has ls 3 [(0, .ref (ad 3)), (1, .int v98_1), (2, .int v98_2)] → W p l e ({ frames := 3, cells := 0, slots := 0, locals := 54 }) s m (List.toArray [.ref (ad 3)]) below meth c H locs 0 0 (MQ below (va_Qi (Pz_X3_readSign_1 ad cy B qr s1  w0) (fun u : va_W => wpost dC dI cy A u) A) (List.toArray [.ref (ad 3)]) s 0 0 A) (F0 m 98 ls []) := by
    intro v98_1 v98_2 f98_1_2 f98_1_3 f98_1_4 H locs ls w1 r2 t3 r4 t5 r6 t7 r9 t10 r12 t13 hw hT hF c8 c11 c14 hM hl
    refine lv_iload_n hx hb dX3_readSign_98 rfl (lv_at hl 1 rfl) ?_
    refine lv_bipush (v := 60) hx hb dX3_readSign_99 (by decide) ?_
    refine lv_icmp_ne (tgt := 116) hx hb dX3_readSign_101 (by decide) (fun c15 => ?_) (fun c15 => ?_)
    · have c15 : ¬ v98_1.toInt = (60 : Int) := wk_eqF c15
      replace hM := hM.pos c15
      refine lv_iload_n hx hb dX3_readSign_116 rfl (lv_at hl 2 rfl) ?_
      refine lv_if_eq (tgt := 125) hx hb dX3_readSign_117 (by decide) (fun c16 => ?_) (fun c16 => ?_)
      · have c16 : v98_2.toInt = (0 : Int) := wk_eq.mp c16
        replace hM := hM.pos c16
        refine lv_bipush (v := 18) hx hb dX3_readSign_125 (by decide) ?_
        exact tk_iret hC hr hlocks hK ⟨hT, hF, hM.ret (by decide), (Or.inr ⟨(by decide), (by decide), ⟨f98_1_2, c8, (show 1 ≤ f98_1_2.toInt from r6), (show f98_1_2.toInt ≤ 400 from t7)⟩, ⟨f98_1_3, c11, (show 0 ≤ f98_1_3.toInt from r9), (show f98_1_3.toInt ≤ 399 from t10)⟩, ⟨f98_1_4, c14, (show 0 ≤ f98_1_4.toInt from r12), (show f98_1_4.toInt ≤ 3205 from t13)⟩⟩)⟩ hw dX3_readSign_127
      · have c16 : ¬ v98_2.toInt = (0 : Int) := wk_eqF c16
        replace hM := hM.neg c16
        refine lv_bipush (v := 17) hx hb dX3_readSign_120 (by decide) ?_
        refine lv_goto (tgt := 127) hx hb dX3_readSign_122 (by decide) ?_
        exact tk_iret hC hr hlocks hK ⟨hT, hF, hM.ret (by decide), (Or.inr ⟨(by decide), (by decide), ⟨f98_1_2, c8, (show 1 ≤ f98_1_2.toInt from r6), (show f98_1_2.toInt ≤ 400 from t7)⟩, ⟨f98_1_3, c11, (show 0 ≤ f98_1_3.toInt from r9), (show f98_1_3.toInt ≤ 399 from t10)⟩, ⟨f98_1_4, c14, (show 0 ≤ f98_1_4.toInt from r12), (show f98_1_4.toInt ≤ 3205 from t13)⟩⟩)⟩ hw dX3_readSign_127
    · have c15 : v98_1.toInt = (60 : Int) := wk_eq.mp c15
      replace hM := hM.neg (fun q => q c15)
      refine lv_iload_n hx hb dX3_readSign_104 rfl (lv_at hl 2 rfl) ?_
      refine lv_if_eq (tgt := 113) hx hb dX3_readSign_105 (by decide) (fun c17 => ?_) (fun c17 => ?_)
      · have c17 : v98_2.toInt = (0 : Int) := wk_eq.mp c17
        replace hM := hM.pos c17
        refine lv_bipush (v := 14) hx hb dX3_readSign_113 (by decide) ?_
        exact tk_iret hC hr hlocks hK ⟨hT, hF, hM.ret (by decide), (Or.inr ⟨(by decide), (by decide), ⟨f98_1_2, c8, (show 1 ≤ f98_1_2.toInt from r6), (show f98_1_2.toInt ≤ 400 from t7)⟩, ⟨f98_1_3, c11, (show 0 ≤ f98_1_3.toInt from r9), (show f98_1_3.toInt ≤ 399 from t10)⟩, ⟨f98_1_4, c14, (show 0 ≤ f98_1_4.toInt from r12), (show f98_1_4.toInt ≤ 3205 from t13)⟩⟩)⟩ hw dX3_readSign_115
      · have c17 : ¬ v98_2.toInt = (0 : Int) := wk_eqF c17
        replace hM := hM.neg c17
        refine lv_bipush (v := 15) hx hb dX3_readSign_108 (by decide) ?_
        refine lv_goto (tgt := 115) hx hb dX3_readSign_110 (by decide) ?_
        exact tk_iret hC hr hlocks hK ⟨hT, hF, hM.ret (by decide), (Or.inr ⟨(by decide), (by decide), ⟨f98_1_2, c8, (show 1 ≤ f98_1_2.toInt from r6), (show f98_1_2.toInt ≤ 400 from t7)⟩, ⟨f98_1_3, c11, (show 0 ≤ f98_1_3.toInt from r9), (show f98_1_3.toInt ≤ 399 from t10)⟩, ⟨f98_1_4, c14, (show 0 ≤ f98_1_4.toInt from r12), (show f98_1_4.toInt ≤ 3205 from t13)⟩⟩)⟩ hw dX3_readSign_115
  have J49 : ∀ (v49_1 : Int32) (f49_1_1 : Int32) (f49_1_2 : Int32) (f49_1_3 : Int32) (H : Heap) (locs : List Loc) (ls : Array Slot) (w18 : va_W), 60 ≤ v49_1.toInt → v49_1.toInt ≤ 62 → 0 ≤ f49_1_1.toInt → f49_1_1.toInt ≤ 399 → 1 ≤ f49_1_2.toInt → f49_1_2.toInt ≤ 400 → 0 ≤ f49_1_3.toInt → f49_1_3.toInt ≤ 399 → Wd dC dI A s.heap H locs w18 → TW ksC ad cy B qr s1 w18 → FE ksC [(3, 2, 2), (6, 1, 1), (6, 3, 3), (6, 4, 4)] w0 w18 → gi w18 1 1 = f49_1_1 → gi w18 1 2 = f49_1_2 → gi w18 1 3 = f49_1_3 → gi w18 1 4 = 0 → TT (fun n => m_X3_readSign n 3 (sI w0)) (fun n => b_X3_readSign_49 n 3 (v49_1.toInt) (sI w18)) → lv_has ls 3 [(0, .ref (ad 3)), (1, .int v49_1)] → W p l e ({ frames := 3, cells := 0, slots := 0, locals := 54 }) s m (List.toArray [.ref (ad 3)]) below meth c H locs 0 0 (MQ below (va_Qi (Pz_X3_readSign_1 ad cy B qr s1  w0) (fun u : va_W => wpost dC dI cy A u) A) (List.toArray [.ref (ad 3)]) s 0 0 A) (F0 m 49 ls []) := by
    intro v49_1 f49_1_1 f49_1_2 f49_1_3 H locs ls w18 r19 t20 r21 t22 r24 t25 r27 t28 hw hT hF c23 c26 c29 c30 hM hl
    refine lv_aload_n hx hb dX3_readSign_49 rfl (lv_at hl 0 rfl) ?_
    refine tk_Vv hC hK hw hT hA hE hSR kC_at3 (by decide) rfl (kz_X3_countItem_2 l adK adV dC dI cy ad B hB0 (Int.le_trans hB1 (by decide)) qr s1    w18 H.size hT c30) (cwV 0 hC.2.2.2.2 uV_RX3_101 rfl rfl rfl (by decide +kernel) ⟨Nat.le_of_ble_eq_true rfl, Nat.le_of_ble_eq_true rfl⟩) rfl hl.1 rfl (Nat.le_of_ble_eq_true rfl) dX3_readSign_50 (fun w33 H locs hp32 hw => ?_)
    obtain ⟨hT, k34, hv38, hg37⟩ := hp32
    have hF := hF.tr k34 (by decide)
    have c39 := k34.gi kC_at1 (by decide) c23
    have c40 := k34.gi kC_at1 (by decide) c26
    have c41 := k34.gi kC_at1 (by decide) c29
    obtain ⟨x35, c36, rx35, tx35⟩ := hg37
    replace hM := hM.call hv38 rfl
    refine lv_aload_n hx hb dX3_readSign_53 rfl (lv_at hl 0 rfl) ?_
    refine tk_getA hC hK hw hT hinX3 kC_at3 (by decide) rfl 0 (by decide) (List.mem_cons_of_mem _ uw_3_12) rfl rfl dX3_readSign_54 ?_
    refine tk_Vv hC hK hw hT hA hE hSR kC_at1 (by decide) rfl (kz_X6_pass_1 l adK adV dC dI cy ad B hB0 (Int.le_trans hB1 (by decide)) qr s1    w33 H.size hT ) (cwV 0 hC.2.2.2.2 uV_RX3_104 rfl rfl rfl (by decide +kernel) ⟨Nat.le_of_ble_eq_true rfl, Nat.le_of_ble_eq_true rfl⟩) rfl hl.1 rfl (Nat.le_of_ble_eq_true rfl) dX3_readSign_57 (fun w44 H locs hp43 hw => ?_)
    obtain ⟨hT, k45, hv47, hg46⟩ := hp43
    have hF := hF.tr k45 (by decide)
    have c48 := k45.gi kC_at1 (by decide) c40
    have c49 := k45.gi kC_at1 (by decide) c41
    have c50 := k45.gi kC_at1 (by decide) c36
    clear hg46
    replace hM := hM.call hv47 rfl
    refine lv_iload_n hx hb dX3_readSign_60 rfl (lv_at hl 1 rfl) ?_
    refine lv_bipush (v := 61) hx hb dX3_readSign_61 (by decide) ?_
    refine lv_icmp_ne (tgt := 69) hx hb dX3_readSign_63 (by decide) (fun c51 => ?_) (fun c51 => ?_)
    · have c51 : ¬ v49_1.toInt = (61 : Int) := wk_eqF c51
      replace hM := hM.pos c51
      refine lv_aload_n hx hb dX3_readSign_69 rfl (lv_at hl 0 rfl) ?_
      refine tk_getA hC hK hw hT hinX3 kC_at3 (by decide) rfl 0 (by decide) (List.mem_cons_of_mem _ uw_3_12) rfl rfl dX3_readSign_70 ?_
      refine tk_Vi hC hK hw hT hA hE hSR kC_at1 (by decide) rfl (kz_X6_look_1 l adK adV dC dI cy ad B hB0 (Int.le_trans hB1 (by decide)) qr s1    w44 H.size hT ) (cwV 0 hC.2.2.2.2 uV_RX3_107 rfl rfl rfl (by decide +kernel) ⟨Nat.le_of_ble_eq_true rfl, Nat.le_of_ble_eq_true rfl⟩) rfl hl.1 rfl (Nat.le_of_ble_eq_true rfl) dX3_readSign_73 (fun r52 w54 H locs hp53 hw => ?_)
      obtain ⟨hT, k55, hv63, hg62⟩ := hp53
      have hF := hF.tr k55 (by decide)
      have c64 := k55.gi kC_at1 (by decide) c48
      have c65 := k55.gi kC_at1 (by decide) c49
      have c66 := k55.gi kC_at1 (by decide) c50
      rcases hg62 with ⟨g56, g57, ⟨x58, c59, rx58, tx58⟩, ⟨x60, c61, rx60, tx60⟩⟩ | rfl
      · replace hM := hM.call hv63 rfl
        have ex60 : x60.toInt = f49_1_2.toInt := by rw [← c64.symm.trans c61]
        refine lv_bipush (v := 61) hx hb dX3_readSign_76 (by decide) ?_
        refine lv_icmp_ne (tgt := 85) hx hb dX3_readSign_78 (by decide) (fun c67 => ?_) (fun c67 => ?_)
        · have c67 : ¬ r52.toInt = (61 : Int) := wk_eqF c67
          replace hM := hM.pos c67
          refine lv_iconst (v := 0) hx hb dX3_readSign_85 (by decide) ?_
          refine lv_istore_n (lv' := [(2, .int 0), (0, .ref (ad 3)), (1, .int v49_1)]) hx hb dX3_readSign_86 rfl hl (by decide) rfl (fun ls hl => ?_)
          refine lv_iload_n hx hb dX3_readSign_87 rfl (lv_at hl 0 rfl) ?_
          refine lv_if_eq (tgt := 98) hx hb dX3_readSign_88 (by decide) (fun _ => ?_) (fun c => absurd (by decide) c)
          replace hM := hM.pos (by decide)
          exact J98 v49_1 0 f49_1_2 f49_1_3 x35 H locs ls w54 (show 60 ≤ v49_1.toInt from r19) (show v49_1.toInt ≤ 62 from t20) (by decide) (by decide) (show 1 ≤ f49_1_2.toInt from r24) (show f49_1_2.toInt ≤ 400 from t25) (show 0 ≤ f49_1_3.toInt from r27) (show f49_1_3.toInt ≤ 399 from t28) (show 0 ≤ x35.toInt by first | with_reducible assumption | omega) (show x35.toInt ≤ 3205 by first | with_reducible assumption | omega)  hw hT hF c64 c65 c66 hM (lv_sub hl [1, 2, 0] rfl)
        · have c67 : r52.toInt = (61 : Int) := wk_eq.mp c67
          replace hM := hM.neg (fun q => q c67)
          refine lv_iconst (v := 1) hx hb dX3_readSign_81 (by decide) ?_
          refine lv_goto (tgt := 86) hx hb dX3_readSign_82 (by decide) ?_
          refine lv_istore_n (lv' := [(2, .int 1), (0, .ref (ad 3)), (1, .int v49_1)]) hx hb dX3_readSign_86 rfl hl (by decide) rfl (fun ls hl => ?_)
          refine lv_iload_n hx hb dX3_readSign_87 rfl (lv_at hl 0 rfl) ?_
          refine lv_if_eq (tgt := 98) hx hb dX3_readSign_88 (by decide) (fun c => absurd c (by decide)) (fun _ => ?_)
          replace hM := hM.neg (by decide)
          refine lv_aload_n hx hb dX3_readSign_91 rfl (lv_at hl 1 rfl) ?_
          refine tk_getA hC hK hw hT hinX3 kC_at3 (by decide) rfl 0 (by decide) (List.mem_cons_of_mem _ uw_3_12) rfl rfl dX3_readSign_92 ?_
          refine tk_Vv hC hK hw hT hA hE hSR kC_at1 (by decide) rfl (kz_X6_pass_1 l adK adV dC dI cy ad B hB0 (Int.le_trans hB1 (by decide)) qr s1    w54 H.size hT ) (cwV 0 hC.2.2.2.2 uV_RX3_104 rfl rfl rfl (by decide +kernel) ⟨Nat.le_of_ble_eq_true rfl, Nat.le_of_ble_eq_true rfl⟩) rfl hl.1 rfl (Nat.le_of_ble_eq_true rfl) dX3_readSign_95 (fun w70 H locs hp69 hw => ?_)
          obtain ⟨hT, k71, hv73, hg72⟩ := hp69
          have hF := hF.tr k71 (by decide)
          have c74 := k71.gi kC_at1 (by decide) c64
          have c75 := k71.gi kC_at1 (by decide) c65
          have c76 := k71.gi kC_at1 (by decide) c66
          clear hg72
          replace hM := hM.call hv73 rfl
          exact J98 v49_1 1 f49_1_2 f49_1_3 x35 H locs ls w70 (show 60 ≤ v49_1.toInt from r19) (show v49_1.toInt ≤ 62 from t20) (by decide) (by decide) (show 1 ≤ f49_1_2.toInt from r24) (show f49_1_2.toInt ≤ 400 from t25) (show 0 ≤ f49_1_3.toInt from r27) (show f49_1_3.toInt ≤ 399 from t28) (show 0 ≤ x35.toInt by first | with_reducible assumption | omega) (show x35.toInt ≤ 3205 by first | with_reducible assumption | omega)  hw hT hF c74 c75 c76 hM (lv_sub hl [1, 2, 0] rfl)
      · replace hM := hM.call (r' := (-1)) hv63 (by decide)
        refine lv_bipush (v := 61) hx hb dX3_readSign_76 (by decide) ?_
        refine lv_icmp_ne (tgt := 85) hx hb dX3_readSign_78 (by decide) (fun _ => ?_) (fun c => absurd c (by decide))
        replace hM := hM.pos (by decide)
        refine lv_iconst (v := 0) hx hb dX3_readSign_85 (by decide) ?_
        refine lv_istore_n (lv' := [(2, .int 0), (0, .ref (ad 3)), (1, .int v49_1)]) hx hb dX3_readSign_86 rfl hl (by decide) rfl (fun ls hl => ?_)
        refine lv_iload_n hx hb dX3_readSign_87 rfl (lv_at hl 0 rfl) ?_
        refine lv_if_eq (tgt := 98) hx hb dX3_readSign_88 (by decide) (fun _ => ?_) (fun c => absurd (by decide) c)
        replace hM := hM.pos (by decide)
        exact J98 v49_1 0 f49_1_2 f49_1_3 x35 H locs ls w54 (show 60 ≤ v49_1.toInt from r19) (show v49_1.toInt ≤ 62 from t20) (by decide) (by decide) (show 1 ≤ f49_1_2.toInt from r24) (show f49_1_2.toInt ≤ 400 from t25) (show 0 ≤ f49_1_3.toInt from r27) (show f49_1_3.toInt ≤ 399 from t28) (show 0 ≤ x35.toInt by first | with_reducible assumption | omega) (show x35.toInt ≤ 3205 by first | with_reducible assumption | omega)  hw hT hF c64 c65 c66 hM (lv_sub hl [1, 2, 0] rfl)
    · have c51 : v49_1.toInt = (61 : Int) := wk_eq.mp c51
      replace hM := hM.neg (fun q => q c51)
      refine lv_bipush (v := 16) hx hb dX3_readSign_66 (by decide) ?_
      exact tk_iret hC hr hlocks hK ⟨hT, hF, hM.ret (by decide), (Or.inr ⟨(by decide), (by decide), ⟨f49_1_2, c48, (show 1 ≤ f49_1_2.toInt from r24), (show f49_1_2.toInt ≤ 400 from t25)⟩, ⟨f49_1_3, c49, (show 0 ≤ f49_1_3.toInt from r27), (show f49_1_3.toInt ≤ 399 from t28)⟩, ⟨x35, c50, (show 0 ≤ x35.toInt by first | with_reducible assumption | omega), (show x35.toInt ≤ 3205 by first | with_reducible assumption | omega)⟩⟩)⟩ hw dX3_readSign_68
  have hM : TT (fun n => m_X3_readSign n 3 (sI w0)) (fun n => m_X3_readSign n 3 (sI w0)) := TT.rf
  refine lv_aload_n hx hb dX3_readSign_0 rfl (lv_at hl 0 rfl) ?_
  refine tk_getA hC hK hw hT hinX3 kC_at3 (by decide) rfl 0 (by decide) (List.mem_cons_of_mem _ uw_3_12) rfl rfl dX3_readSign_1 ?_
  refine tk_Vi hC hK hw hT hA hE hSR kC_at1 (by decide) rfl (kz_X6_isFaulty_1 l adK adV dC dI cy ad B hB0 (Int.le_trans hB1 (by decide)) qr s1    w0 s.heap.size hT ) (cwV 0 hC.2.2.2.2 uV_RX3_54 rfl rfl rfl (by decide +kernel) ⟨Nat.le_of_ble_eq_true rfl, Nat.le_of_ble_eq_true rfl⟩) rfl hl.1 rfl (Nat.le_of_ble_eq_true rfl) dX3_readSign_4 (fun r77 w79 H locs hp78 hw => ?_)
  obtain ⟨hT, k80, hv86, hg85⟩ := hp78
  have hF := hF.tr k80 (by decide)
  rcases hg85 with ⟨rfl, ⟨x81, c82, rx81, tx81⟩⟩ | ⟨rfl, ⟨x83, c84, rx83, tx83⟩⟩
  · replace hM := hM.call (r' := 0) hv86 (by decide)
    refine lv_if_eq (tgt := 13) hx hb dX3_readSign_7 (by decide) (fun _ => ?_) (fun c => absurd (by decide) c)
    replace hM := hM.pos (by decide)
    refine lv_aload_n hx hb dX3_readSign_13 rfl (lv_at hl 0 rfl) ?_
    refine tk_getA hC hK hw hT hinX3 kC_at3 (by decide) rfl 0 (by decide) (List.mem_cons_of_mem _ uw_3_12) rfl rfl dX3_readSign_14 ?_
    refine tk_Vi hC hK hw hT hA hE hSR kC_at1 (by decide) rfl (kz_X6_lookBehindBlanks_1 l adK adV dC dI cy ad B hB0 (Int.le_trans hB1 (by decide)) qr s1    w79 H.size hT ) (cwV 0 hC.2.2.2.2 uV_RX3_98 rfl rfl rfl (by decide +kernel) ⟨Nat.le_of_ble_eq_true rfl, Nat.le_of_ble_eq_true rfl⟩) rfl hl.1 rfl (Nat.le_of_ble_eq_true rfl) dX3_readSign_17 (fun r87 w89 H locs hp88 hw => ?_)
    obtain ⟨hT, k90, hv100, hg99⟩ := hp88
    have hF := hF.tr k90 (by decide)
    have c101 := k90.gi kC_at1 (by decide) c82
    rcases hg99 with ⟨g91, g92, ⟨x93, c94, rx93, tx93⟩, ⟨x95, c96, rx95, tx95⟩, ⟨x97, c98, rx97, tx97⟩⟩ | rfl
    · replace hM := hM.call hv100 rfl
      refine lv_istore_n (lv' := [(1, .int r87), (0, .ref (ad 3))]) hx hb dX3_readSign_20 rfl hl (by decide) rfl (fun ls hl => ?_)
      refine lv_iload_n hx hb dX3_readSign_21 rfl (lv_at hl 0 rfl) ?_
      refine lv_bipush (v := 60) hx hb dX3_readSign_22 (by decide) ?_
      refine lv_icmp_eq (tgt := 49) hx hb dX3_readSign_24 (by decide) (fun c102 => ?_) (fun c102 => ?_)
      · have c102 : r87.toInt = (60 : Int) := wk_eq.mp c102
        replace hM := hM.pos c102
        obtain rfl : x81 = 0 := wk_eq.mpr (show x81.toInt = 0 by first | exact Int.le_antisymm (by omega) (by omega) | omega)
        try simp only [show (0 : Int32).toInt = 0 by decide] at hM
        exact J49 r87 x93 x95 x97 H locs ls w89 (show 60 ≤ r87.toInt by first | with_reducible assumption | omega) (show r87.toInt ≤ 62 by first | with_reducible assumption | omega) (show 0 ≤ x93.toInt by first | with_reducible assumption | omega) (show x93.toInt ≤ 399 by first | with_reducible assumption | omega) (show 1 ≤ x95.toInt by first | with_reducible assumption | omega) (show x95.toInt ≤ 400 by first | with_reducible assumption | omega) (show 0 ≤ x97.toInt by first | with_reducible assumption | omega) (show x97.toInt ≤ 399 by first | with_reducible assumption | omega)  hw hT hF c94 c96 c98 c101 hM (lv_sub hl [1, 0] rfl)
      · have c102 : ¬ r87.toInt = (60 : Int) := wk_eqF c102
        replace hM := hM.neg c102
        refine lv_iload_n hx hb dX3_readSign_27 rfl (lv_at hl 0 rfl) ?_
        refine lv_bipush (v := 61) hx hb dX3_readSign_28 (by decide) ?_
        refine lv_icmp_eq (tgt := 49) hx hb dX3_readSign_30 (by decide) (fun c103 => ?_) (fun c103 => ?_)
        · have c103 : r87.toInt = (61 : Int) := wk_eq.mp c103
          replace hM := hM.pos c103
          obtain rfl : x81 = 0 := wk_eq.mpr (show x81.toInt = 0 by first | exact Int.le_antisymm (by omega) (by omega) | omega)
          try simp only [show (0 : Int32).toInt = 0 by decide] at hM
          exact J49 r87 x93 x95 x97 H locs ls w89 (show 60 ≤ r87.toInt by first | with_reducible assumption | omega) (show r87.toInt ≤ 62 by first | with_reducible assumption | omega) (show 0 ≤ x93.toInt by first | with_reducible assumption | omega) (show x93.toInt ≤ 399 by first | with_reducible assumption | omega) (show 1 ≤ x95.toInt by first | with_reducible assumption | omega) (show x95.toInt ≤ 400 by first | with_reducible assumption | omega) (show 0 ≤ x97.toInt by first | with_reducible assumption | omega) (show x97.toInt ≤ 399 by first | with_reducible assumption | omega)  hw hT hF c94 c96 c98 c101 hM (lv_sub hl [1, 0] rfl)
        · have c103 : ¬ r87.toInt = (61 : Int) := wk_eqF c103
          replace hM := hM.neg c103
          refine lv_iload_n hx hb dX3_readSign_33 rfl (lv_at hl 0 rfl) ?_
          refine lv_bipush (v := 62) hx hb dX3_readSign_34 (by decide) ?_
          refine lv_icmp_eq (tgt := 49) hx hb dX3_readSign_36 (by decide) (fun c104 => ?_) (fun c104 => ?_)
          · have c104 : r87.toInt = (62 : Int) := wk_eq.mp c104
            replace hM := hM.pos c104
            obtain rfl : x81 = 0 := wk_eq.mpr (show x81.toInt = 0 by first | exact Int.le_antisymm (by omega) (by omega) | omega)
            try simp only [show (0 : Int32).toInt = 0 by decide] at hM
            exact J49 r87 x93 x95 x97 H locs ls w89 (show 60 ≤ r87.toInt by first | with_reducible assumption | omega) (show r87.toInt ≤ 62 by first | with_reducible assumption | omega) (show 0 ≤ x93.toInt by first | with_reducible assumption | omega) (show x93.toInt ≤ 399 by first | with_reducible assumption | omega) (show 1 ≤ x95.toInt by first | with_reducible assumption | omega) (show x95.toInt ≤ 400 by first | with_reducible assumption | omega) (show 0 ≤ x97.toInt by first | with_reducible assumption | omega) (show x97.toInt ≤ 399 by first | with_reducible assumption | omega)  hw hT hF c94 c96 c98 c101 hM (lv_sub hl [1, 0] rfl)
          · have c104 : ¬ r87.toInt = (62 : Int) := wk_eqF c104
            replace hM := hM.neg c104
            refine lv_aload_n hx hb dX3_readSign_39 rfl (lv_at hl 1 rfl) ?_
            refine tk_getA hC hK hw hT hinX3 kC_at3 (by decide) rfl 0 (by decide) (List.mem_cons_of_mem _ uw_3_12) rfl rfl dX3_readSign_40 ?_
            refine tk_Vv hC hK hw hT hA hE hSR kC_at1 (by decide) rfl (kz_X6_blameHere_1 l adK adV dC dI cy ad B hB0 (Int.le_trans hB1 (by decide)) qr s1    w89 H.size hT (c101.trans (wk_eq.mpr (show x81.toInt = 0 by first | exact Int.le_antisymm (by omega) (by omega) | omega)))) (cwV 0 hC.2.2.2.2 uV_RX3_95 rfl rfl rfl (by decide +kernel) ⟨Nat.le_of_ble_eq_true rfl, Nat.le_of_ble_eq_true rfl⟩) rfl hl.1 rfl (Nat.le_of_ble_eq_true rfl) dX3_readSign_43 (fun w107 H locs hp106 hw => ?_)
            obtain ⟨hT, k108, hv112, hg111⟩ := hp106
            have hF := hF.tr k108 (by decide)
            have c113 := k108.gi kC_at1 (by decide) c94
            have c114 := k108.gi kC_at1 (by decide) c96
            have c115 := k108.gi kC_at1 (by decide) c98
            obtain ⟨x109, c110, rx109, tx109⟩ := hg111
            replace hM := hM.call hv112 rfl
            refine lv_bipush (v := 16) hx hb dX3_readSign_46 (by decide) ?_
            exact tk_iret hC hr hlocks hK ⟨hT, hF, hM.ret (by decide), (Or.inl ⟨rfl, ⟨x109, c110, (show 1 ≤ x109.toInt by first | with_reducible assumption | omega), (show x109.toInt ≤ 3205 by first | with_reducible assumption | omega)⟩⟩)⟩ hw dX3_readSign_48
    · replace hM := hM.call (r' := (-1)) hv100 (by decide)
      refine lv_istore_n (lv' := [(1, .int (-1)), (0, .ref (ad 3))]) hx hb dX3_readSign_20 rfl hl (by decide) rfl (fun ls hl => ?_)
      refine lv_iload_n hx hb dX3_readSign_21 rfl (lv_at hl 0 rfl) ?_
      refine lv_bipush (v := 60) hx hb dX3_readSign_22 (by decide) ?_
      refine lv_icmp_eq (tgt := 49) hx hb dX3_readSign_24 (by decide) (fun c => absurd c (by decide)) (fun _ => ?_)
      replace hM := hM.neg (by decide)
      refine lv_iload_n hx hb dX3_readSign_27 rfl (lv_at hl 0 rfl) ?_
      refine lv_bipush (v := 61) hx hb dX3_readSign_28 (by decide) ?_
      refine lv_icmp_eq (tgt := 49) hx hb dX3_readSign_30 (by decide) (fun c => absurd c (by decide)) (fun _ => ?_)
      replace hM := hM.neg (by decide)
      refine lv_iload_n hx hb dX3_readSign_33 rfl (lv_at hl 0 rfl) ?_
      refine lv_bipush (v := 62) hx hb dX3_readSign_34 (by decide) ?_
      refine lv_icmp_eq (tgt := 49) hx hb dX3_readSign_36 (by decide) (fun c => absurd c (by decide)) (fun _ => ?_)
      replace hM := hM.neg (by decide)
      refine lv_aload_n hx hb dX3_readSign_39 rfl (lv_at hl 1 rfl) ?_
      refine tk_getA hC hK hw hT hinX3 kC_at3 (by decide) rfl 0 (by decide) (List.mem_cons_of_mem _ uw_3_12) rfl rfl dX3_readSign_40 ?_
      refine tk_Vv hC hK hw hT hA hE hSR kC_at1 (by decide) rfl (kz_X6_blameHere_1 l adK adV dC dI cy ad B hB0 (Int.le_trans hB1 (by decide)) qr s1    w89 H.size hT (c101.trans (wk_eq.mpr (show x81.toInt = 0 by first | exact Int.le_antisymm (by omega) (by omega) | omega)))) (cwV 0 hC.2.2.2.2 uV_RX3_95 rfl rfl rfl (by decide +kernel) ⟨Nat.le_of_ble_eq_true rfl, Nat.le_of_ble_eq_true rfl⟩) rfl hl.1 rfl (Nat.le_of_ble_eq_true rfl) dX3_readSign_43 (fun w118 H locs hp117 hw => ?_)
      obtain ⟨hT, k119, hv123, hg122⟩ := hp117
      have hF := hF.tr k119 (by decide)
      obtain ⟨x120, c121, rx120, tx120⟩ := hg122
      replace hM := hM.call hv123 rfl
      refine lv_bipush (v := 16) hx hb dX3_readSign_46 (by decide) ?_
      exact tk_iret hC hr hlocks hK ⟨hT, hF, hM.ret (by decide), (Or.inl ⟨rfl, ⟨x120, c121, (show 1 ≤ x120.toInt by first | with_reducible assumption | omega), (show x120.toInt ≤ 3205 by first | with_reducible assumption | omega)⟩⟩)⟩ hw dX3_readSign_48
  · replace hM := hM.call (r' := 1) hv86 (by decide)
    refine lv_if_eq (tgt := 13) hx hb dX3_readSign_7 (by decide) (fun c => absurd c (by decide)) (fun _ => ?_)
    replace hM := hM.neg (by decide)
    refine lv_bipush (v := 16) hx hb dX3_readSign_10 (by decide) ?_
    exact tk_iret hC hr hlocks hK ⟨hT, hF, hM.ret (by decide), (Or.inl ⟨rfl, ⟨x83, c84, (show 1 ≤ x83.toInt by first | with_reducible assumption | omega), (show x83.toInt ≤ 3205 by first | with_reducible assumption | omega)⟩⟩)⟩ hw dX3_readSign_12
abbrev Pz_X3_readValue_2 (ad : Nat → Nat) (cy : Nat → ClassId) (B : Int) (qr : Nat) (s1 : Int)  (w0 : va_W) : va_W → Prop := fun u => TW ksC ad cy B qr s1 u ∧ FE ksC ([] : List (Nat × Nat × Nat)) w0 u ∧ Ev (fun n => m_X3_readValue n qr 3 (sI w0)) (0, sI u) ∧ (((∃ y : Int32, gi u 1 4 = y ∧ 1 ≤ y.toInt ∧ y.toInt ≤ 3205)))
set_option maxHeartbeats 4000000 in
set_option maxRecDepth 100000 in
theorem kz_X3_readValue_2 (l : Launch) (adK adV : Nat → Nat) (dC : Nat → ClassId) (dI : Nat → Nat → Nat) (cy : Nat → ClassId) (ad : Nat → Nat) (B : Int) (hB0 : 2147483648 ≤ B) (hB1 : B ≤ 1152921504606846976) (qr : Nat) (s1 : Int) (hqr : ksC[qr]? = some 2)  (w0 : va_W) (sz : Nat) (hT : TW ksC ad cy B qr s1 w0) (f0_ : Int32) (cf0_ : gi w0 1 4 = f0_) (rf0_ : 1 ≤ f0_.toInt) (tf0_ : f0_.toInt ≤ 3205) : Met l yX3_readValue (wu yX3_readValue cX3_readValue 1 none) ({ frames := 2, cells := 0, slots := 0, locals := 32 }) (va_Pc [.ref (ad 3)] (wpreS adK adV dC dI cy sz w0)) (va_Qv (Pz_X3_readValue_2 ad cy B qr s1  w0) (fun u : va_W => wpost dC dI cy (va_A w0 sz) u) (va_A w0 sz)) 0 0 (va_A w0 sz) := by
  refine Met.ofW (cc := cX3_readValue) (maxL := 1) (ret := none) (by decide) rfl ?_
  intro p e s m args below meth c s₁ Bk hml hv
  obtain ⟨rfl, ⟨hsz, hP, hK, hD0⟩, hE, hSR⟩ := hv
  have hx := Bk.exec
  have hb := Bk.bytes
  have hr := Bk.returns
  have hlocks := Bk.notSynchronized
  have hC : CallFix p m c cX3_readValue 1 s _ (wu yX3_readValue cX3_readValue 1 none) RX3 := ⟨hx, hb, hml, findClass_of_methodNamed Bk.named, atoms_spec (ws := (wu yX3_readValue cX3_readValue 1 none)) Bk.pre⟩
  subst hsz
  have hD := hD0.self (sz := s.heap.size)
  generalize hAe : va_A w0 s.heap.size = A at hD hE ⊢
  have hA : ∀ q : Nat, s.heap.size ≤ q → A q := fun q h => by rw [← hAe]; exact Or.inr h
  have hw : Wd dC dI A s.heap s.heap [] w0 := ⟨hP, hD, va_S.rf⟩
  have hF : FE ksC ([] : List (Nat × Nat × Nat)) w0 w0 := FE.rf
  have hl := lv_entry ([.ref (ad 3)]) (n := 1) (Nat.le_of_ble_eq_true rfl)
  rw [lg_entry_eq]
  generalize (lg_sl ([.ref (ad 3)]) ++ List.replicate (1 - (lg_sl ([.ref (ad 3)])).length) Slot.unset).toArray = ls at hl ⊢
  have hl : lv_has ls 1 [(0, .ref (ad 3))] := hl
  generalize hloc : ([] : List Loc) = locs at hw ⊢
  have hinX3 : ∀ w ∈ u_ws RX3 TX3 3, w ∈ (wu yX3_readValue cX3_readValue 1 none) := fun _ h => List.mem_cons_of_mem _ (up_75 h)
  have hM : TT (fun n => m_X3_readValue n qr 3 (sI w0)) (fun n => m_X3_readValue n qr 3 (sI w0)) := TT.rf
  refine lv_aload_n hx hb dX3_readValue_0 rfl (lv_at hl 0 rfl) ?_
  refine tk_getA hC hK hw hT hinX3 kC_at3 (by decide) rfl 0 (by decide) (List.mem_cons_of_mem _ uw_3_12) rfl rfl dX3_readValue_1 ?_
  refine tk_Vi hC hK hw hT hA hE hSR kC_at1 (by decide) rfl (kz_X6_isFaulty_3 l adK adV dC dI cy ad B hB0 (Int.le_trans hB1 (by decide)) qr s1    w0 s.heap.size hT f0_ cf0_ (show 1 ≤ f0_.toInt from rf0_) (show f0_.toInt ≤ 3205 from tf0_)) (cwV 0 hC.2.2.2.2 uV_RX3_54 rfl rfl rfl (by decide +kernel) ⟨Nat.le_of_ble_eq_true rfl, Nat.le_of_ble_eq_true rfl⟩) rfl hl.1 rfl (Nat.le_of_ble_eq_true rfl) dX3_readValue_4 (fun r1 w3 H locs hp2 hw => ?_)
  obtain ⟨hT, k4, hv8, hg7⟩ := hp2
  have hF := hF.tr k4 (by decide)
  have c9 := k4.gi kC_at1 (by decide) cf0_
  obtain ⟨rfl, ⟨x5, c6, rx5, tx5⟩⟩ := hg7
  replace hM := hM.call (r' := 1) hv8 (by decide)
  have ex5 : x5.toInt = f0_.toInt := by rw [← c9.symm.trans c6]
  refine lv_if_eq (tgt := 11) hx hb dX3_readValue_7 (by decide) (fun c => absurd c (by decide)) (fun _ => ?_)
  replace hM := hM.neg (by decide)
  exact tk_vret hC hr hlocks hK ⟨hT, hF, hM.ret rfl, ⟨f0_, c9, (show 1 ≤ f0_.toInt from rf0_), (show f0_.toInt ≤ 3205 from tf0_)⟩⟩ hw dX3_readValue_10
abbrev Pz_X3_readSum_2 (ad : Nat → Nat) (cy : Nat → ClassId) (B : Int) (qr : Nat) (s1 : Int)  (w0 : va_W) : va_W → Prop := fun u => TW ksC ad cy B qr s1 u ∧ FE ksC [(2, 3, 3), (22, 0, 13), (23, 0, 400)] w0 u ∧ Ev (fun n => m_X3_readSum n qr 3 (sI w0)) (0, sI u) ∧ (((∃ y : Int32, gi u 1 4 = y ∧ 1 ≤ y.toInt ∧ y.toInt ≤ 3205)))
set_option maxHeartbeats 4000000 in
set_option maxRecDepth 100000 in
theorem kz_X3_readSum_2 (l : Launch) (adK adV : Nat → Nat) (dC : Nat → ClassId) (dI : Nat → Nat → Nat) (cy : Nat → ClassId) (ad : Nat → Nat) (B : Int) (hB0 : 2147483648 ≤ B) (hB1 : B ≤ 1152921504606846976) (qr : Nat) (s1 : Int) (hqr : ksC[qr]? = some 2)  (w0 : va_W) (sz : Nat) (hT : TW ksC ad cy B qr s1 w0) (f0_ : Int32) (cf0_ : gi w0 1 4 = f0_) (rf0_ : 1 ≤ f0_.toInt) (tf0_ : f0_.toInt ≤ 3205) : Met l yX3_readSum (wu yX3_readSum cX3_readSum 4 none) ({ frames := 3, cells := 0, slots := 0, locals := 54 }) (va_Pc [.ref (ad 3)] (wpreS adK adV dC dI cy sz w0)) (va_Qv (Pz_X3_readSum_2 ad cy B qr s1  w0) (fun u : va_W => wpost dC dI cy (va_A w0 sz) u) (va_A w0 sz)) 0 0 (va_A w0 sz) := by
  refine Met.ofW (cc := cX3_readSum) (maxL := 4) (ret := none) (by decide) rfl ?_
  intro p e s m args below meth c s₁ Bk hml hv
  obtain ⟨rfl, ⟨hsz, hP, hK, hD0⟩, hE, hSR⟩ := hv
  have hx := Bk.exec
  have hb := Bk.bytes
  have hr := Bk.returns
  have hlocks := Bk.notSynchronized
  have hC : CallFix p m c cX3_readSum 4 s _ (wu yX3_readSum cX3_readSum 4 none) RX3 := ⟨hx, hb, hml, findClass_of_methodNamed Bk.named, atoms_spec (ws := (wu yX3_readSum cX3_readSum 4 none)) Bk.pre⟩
  subst hsz
  have hD := hD0.self (sz := s.heap.size)
  generalize hAe : va_A w0 s.heap.size = A at hD hE ⊢
  have hA : ∀ q : Nat, s.heap.size ≤ q → A q := fun q h => by rw [← hAe]; exact Or.inr h
  have hw : Wd dC dI A s.heap s.heap [] w0 := ⟨hP, hD, va_S.rf⟩
  have hF : FE ksC [(2, 3, 3), (22, 0, 13), (23, 0, 400)] w0 w0 := FE.rf
  have hl := lv_entry ([.ref (ad 3)]) (n := 4) (Nat.le_of_ble_eq_true rfl)
  rw [lg_entry_eq]
  generalize (lg_sl ([.ref (ad 3)]) ++ List.replicate (4 - (lg_sl ([.ref (ad 3)])).length) Slot.unset).toArray = ls at hl ⊢
  have hl : lv_has ls 4 [(0, .ref (ad 3))] := hl
  generalize hloc : ([] : List Loc) = locs at hw ⊢
  have hinX3 : ∀ w ∈ u_ws RX3 TX3 3, w ∈ (wu yX3_readSum cX3_readSum 4 none) := fun _ h => List.mem_cons_of_mem _ (up_75 h)
  have J82 : ∀ (H : Heap) (locs : List Loc) (ls : Array Slot) (w1 : va_W), 1 ≤ f0_.toInt → f0_.toInt ≤ 3205 → Wd dC dI A s.heap H locs w1 → TW ksC ad cy B qr s1 w1 → FE ksC [(2, 3, 3), (22, 0, 13), (23, 0, 400)] w0 w1 → gi w1 1 4 = f0_ → TT (fun n => m_X3_readSum n qr 3 (sI w0)) (fun n => b_X3_readSum_82 (j_X3_readSum qr 3 n) n qr 3 (-1 : Int) (sI w1)) → lv_has ls 4 [(0, .ref (ad 3)), (1, .int (-1)), (2, .int 0)] → W p l e ({ frames := 3, cells := 0, slots := 0, locals := 54 }) s m (List.toArray [.ref (ad 3)]) below meth c H locs 0 0 (MQ below (va_Qv (Pz_X3_readSum_2 ad cy B qr s1  w0) (fun u : va_W => wpost dC dI cy A u) A) (List.toArray [.ref (ad 3)]) s 0 0 A) (F0 m 82 ls []) := by
    intro H locs ls w1 r2 t3 hw hT hF c4 hM hl
    refine lv_aload_n hx hb dX3_readSum_82 rfl (lv_at hl 0 rfl) ?_
    refine lv_iload_n hx hb dX3_readSum_83 rfl (lv_at hl 1 rfl) ?_
    refine tk_Vv hC hK hw hT hA hE hSR kC_at3 (by decide) rfl (kz_X3_addWaiting_1 l adK adV dC dI cy ad B hB0 (Int.le_trans hB1 (by decide)) qr s1 hqr  ((-1)) w1 H.size hT ) (cwV 1 hC.2.2.2.2 uV_RX3_79 rfl rfl rfl (by decide +kernel) ⟨Nat.le_of_ble_eq_true rfl, Nat.le_of_ble_eq_true rfl⟩) rfl hl.1 rfl (Nat.le_of_ble_eq_true rfl) dX3_readSum_84 (fun w7 H locs hp6 hw => ?_)
    obtain ⟨hT, k8, hv10, hg9⟩ := hp6
    try simp only [show ((-1) : Int32).toInt = (-1) by decide] at hv10
    have hF := hF.tr k8 (by decide)
    have c11 := k8.gi kC_at1 (by decide) c4
    clear hg9
    replace hM := hM.call hv10 rfl
    exact tk_vret hC hr hlocks hK ⟨hT, hF, hM.ret rfl, ⟨f0_, c11, (show 1 ≤ f0_.toInt from r2), (show f0_.toInt ≤ 3205 from t3)⟩⟩ hw dX3_readSum_87
  have L8 : ∀ (H : Heap) (locs : List Loc) (ls : Array Slot) (w12 : va_W), 1 ≤ f0_.toInt → f0_.toInt ≤ 3205 → Wd dC dI A s.heap H locs w12 → TW ksC ad cy B qr s1 w12 → FE ksC [(2, 3, 3), (22, 0, 13), (23, 0, 400)] w0 w12 → gi w12 1 4 = f0_ → TT (fun n => m_X3_readSum n qr 3 (sI w0)) (fun n => j_X3_readSum qr 3 n 8 [(-1 : Int), (0 : Int)] (sI w12)) → lv_has ls 4 [(0, .ref (ad 3)), (1, .int (-1)), (2, .int 0)] → W p l e ({ frames := 3, cells := 0, slots := 0, locals := 54 }) s m (List.toArray [.ref (ad 3)]) below meth c H locs 0 0 (MQ below (va_Qv (Pz_X3_readSum_2 ad cy B qr s1  w0) (fun u : va_W => wpost dC dI cy A u) A) (List.toArray [.ref (ad 3)]) s 0 0 A) (F0 m 8 ls []) := by
    intro H locs ls w12 r13 t14 hw hT hF c15 hM hl
    replace hM := hM.suc (fun _ => e_X3_readSum_8)
    refine lv_iload_n hx hb dX3_readSum_8 rfl (lv_at hl 2 rfl) ?_
    refine lv_sipush (v := 400) hx hb dX3_readSum_9 (by decide) ?_
    refine lv_icmp_ge (tgt := 82) hx hb dX3_readSum_12 (by decide) (fun c => absurd c (by decide)) (fun _ => ?_)
    replace hM := hM.neg (by decide)
    refine lv_aload_n hx hb dX3_readSum_15 rfl (lv_at hl 0 rfl) ?_
    refine tk_getA hC hK hw hT hinX3 kC_at3 (by decide) rfl 0 (by decide) (List.mem_cons_of_mem _ uw_3_12) rfl rfl dX3_readSum_16 ?_
    refine tk_Vi hC hK hw hT hA hE hSR kC_at1 (by decide) rfl (kz_X6_isFaulty_3 l adK adV dC dI cy ad B hB0 (Int.le_trans hB1 (by decide)) qr s1    w12 H.size hT f0_ c15 (show 1 ≤ f0_.toInt from r13) (show f0_.toInt ≤ 3205 from t14)) (cwV 0 hC.2.2.2.2 uV_RX3_54 rfl rfl rfl (by decide +kernel) ⟨Nat.le_of_ble_eq_true rfl, Nat.le_of_ble_eq_true rfl⟩) rfl hl.1 rfl (Nat.le_of_ble_eq_true rfl) dX3_readSum_19 (fun r16 w18 H locs hp17 hw => ?_)
    obtain ⟨hT, k19, hv23, hg22⟩ := hp17
    have hF := hF.tr k19 (by decide)
    have c24 := k19.gi kC_at1 (by decide) c15
    obtain ⟨rfl, ⟨x20, c21, rx20, tx20⟩⟩ := hg22
    replace hM := hM.call (r' := 1) hv23 (by decide)
    have ex20 : x20.toInt = f0_.toInt := by rw [← c24.symm.trans c21]
    refine lv_if_ne (tgt := 82) hx hb dX3_readSum_22 (by decide) (fun _ => ?_) (fun c => absurd c (by decide))
    replace hM := hM.pos (by decide)
    exact J82  H locs ls w18 (show 1 ≤ f0_.toInt from r13) (show f0_.toInt ≤ 3205 from t14)  hw hT hF c24 hM (lv_sub hl [0, 1, 2] rfl)
  have hM : TT (fun n => m_X3_readSum n qr 3 (sI w0)) (fun n => m_X3_readSum n qr 3 (sI w0)) := TT.rf
  refine lv_aload_n hx hb dX3_readSum_0 rfl (lv_at hl 0 rfl) ?_
  refine tk_Vv hC hK hw hT hA hE hSR kC_at3 (by decide) rfl (kz_X3_readValue_2 l adK adV dC dI cy ad B hB0 (Int.le_trans hB1 (by decide)) qr s1 hqr   w0 s.heap.size hT f0_ cf0_ (show 1 ≤ f0_.toInt from rf0_) (show f0_.toInt ≤ 3205 from tf0_)) (cwV 0 hC.2.2.2.2 uV_RX3_110 rfl rfl rfl (by decide +kernel) ⟨Nat.le_of_ble_eq_true rfl, Nat.le_of_ble_eq_true rfl⟩) rfl hl.1 rfl (Nat.le_of_ble_eq_true rfl) dX3_readSum_1 (fun w27 H locs hp26 hw => ?_)
  obtain ⟨hT, k28, hv32, hg31⟩ := hp26
  have hF := hF.tr k28 (by decide)
  have c33 := k28.gi kC_at1 (by decide) cf0_
  obtain ⟨x29, c30, rx29, tx29⟩ := hg31
  replace hM := hM.call hv32 rfl
  have ex29 : x29.toInt = f0_.toInt := by rw [← c33.symm.trans c30]
  refine lv_iconst (v := (-1)) hx hb dX3_readSum_4 (by decide) ?_
  refine lv_istore_n (lv' := [(1, .int (-1)), (0, .ref (ad 3))]) hx hb dX3_readSum_5 rfl hl (by decide) rfl (fun ls hl => ?_)
  refine lv_iconst (v := 0) hx hb dX3_readSum_6 (by decide) ?_
  refine lv_istore_n (lv' := [(2, .int 0), (1, .int (-1)), (0, .ref (ad 3))]) hx hb dX3_readSum_7 rfl hl (by decide) rfl (fun ls hl => ?_)
  exact L8  H locs ls w27 (show 1 ≤ f0_.toInt from rf0_) (show f0_.toInt ≤ 3205 from tf0_)  hw hT hF c33 hM (lv_sub hl [2, 1, 0] rfl)
abbrev Pz_X3_readValue_3 (ad : Nat → Nat) (cy : Nat → ClassId) (B : Int) (qr : Nat) (s1 : Int)  (w0 : va_W) : va_W → Prop := fun u => TW ksC ad cy B qr s1 u ∧ FE ksC [(2, 3, 3), (3, 2, 2), (6, 1, 1), (6, 3, 3), (6, 4, 4), (22, 0, 13), (23, 0, 400)] w0 u ∧ Ev (fun n => m_X3_readValue n qr 3 (sI w0)) (0, sI u) ∧ ((True) ∨ ((∃ y : Int32, gi u 1 4 = y ∧ 1 ≤ y.toInt ∧ y.toInt ≤ 3205)))
set_option maxHeartbeats 4000000 in
set_option maxRecDepth 100000 in
theorem kz_X3_readValue_3 (l : Launch) (adK adV : Nat → Nat) (dC : Nat → ClassId) (dI : Nat → Nat → Nat) (cy : Nat → ClassId) (ad : Nat → Nat) (B : Int) (hB0 : 2147483648 ≤ B) (hB1 : B ≤ 1152921504606846976) (qr : Nat) (s1 : Int) (hqr : ksC[qr]? = some 2)  (w0 : va_W) (sz : Nat) (hT : TW ksC ad cy B qr s1 w0)  : Met l yX3_readValue (wu yX3_readValue cX3_readValue 1 none) ({ frames := 6, cells := 0, slots := 0, locals := 168 }) (va_Pc [.ref (ad 3)] (wpreS adK adV dC dI cy sz w0)) (va_Qv (Pz_X3_readValue_3 ad cy B qr s1  w0) (fun u : va_W => wpost dC dI cy (va_A w0 sz) u) (va_A w0 sz)) 0 0 (va_A w0 sz) := by
  refine Met.ofW (cc := cX3_readValue) (maxL := 1) (ret := none) (by decide) rfl ?_
  intro p e s m args below meth c s₁ Bk hml hv
  obtain ⟨rfl, ⟨hsz, hP, hK, hD0⟩, hE, hSR⟩ := hv
  have hx := Bk.exec
  have hb := Bk.bytes
  have hr := Bk.returns
  have hlocks := Bk.notSynchronized
  have hC : CallFix p m c cX3_readValue 1 s _ (wu yX3_readValue cX3_readValue 1 none) RX3 := ⟨hx, hb, hml, findClass_of_methodNamed Bk.named, atoms_spec (ws := (wu yX3_readValue cX3_readValue 1 none)) Bk.pre⟩
  subst hsz
  have hD := hD0.self (sz := s.heap.size)
  generalize hAe : va_A w0 s.heap.size = A at hD hE ⊢
  have hA : ∀ q : Nat, s.heap.size ≤ q → A q := fun q h => by rw [← hAe]; exact Or.inr h
  have hw : Wd dC dI A s.heap s.heap [] w0 := ⟨hP, hD, va_S.rf⟩
  have hF : FE ksC [(2, 3, 3), (3, 2, 2), (6, 1, 1), (6, 3, 3), (6, 4, 4), (22, 0, 13), (23, 0, 400)] w0 w0 := FE.rf
  have hl := lv_entry ([.ref (ad 3)]) (n := 1) (Nat.le_of_ble_eq_true rfl)
  rw [lg_entry_eq]
  generalize (lg_sl ([.ref (ad 3)]) ++ List.replicate (1 - (lg_sl ([.ref (ad 3)])).length) Slot.unset).toArray = ls at hl ⊢
  have hl : lv_has ls 1 [(0, .ref (ad 3))] := hl
  generalize hloc : ([] : List Loc) = locs at hw ⊢
  have hinX3 : ∀ w ∈ u_ws RX3 TX3 3, w ∈ (wu yX3_readValue cX3_readValue 1 none) := fun _ h => List.mem_cons_of_mem _ (up_75 h)
  have J63 : ∀ (f63_1_4 : Int32) (H : Heap) (locs : List Loc) (ls : Array Slot) (w1 : va_W), 0 ≤ f63_1_4.toInt → f63_1_4.toInt ≤ 3205 → Wd dC dI A s.heap H locs w1 → TW ksC ad cy B qr s1 w1 → FE ksC [(2, 3, 3), (3, 2, 2), (6, 1, 1), (6, 3, 3), (6, 4, 4), (22, 0, 13), (23, 0, 400)] w0 w1 → gi w1 1 4 = f63_1_4 → TT (fun n => m_X3_readValue n qr 3 (sI w0)) (fun n => b_X3_readValue_63 n qr 3 (sI w1)) → lv_has ls 1 [(0, .ref (ad 3))] → W p l e ({ frames := 6, cells := 0, slots := 0, locals := 168 }) s m (List.toArray [.ref (ad 3)]) below meth c H locs 0 0 (MQ below (va_Qv (Pz_X3_readValue_3 ad cy B qr s1  w0) (fun u : va_W => wpost dC dI cy A u) A) (List.toArray [.ref (ad 3)]) s 0 0 A) (F0 m 63 ls []) := by
    intro f63_1_4 H locs ls w1 r2 t3 hw hT hF c4 hM hl
    refine lv_aload_n hx hb dX3_readValue_63 rfl (lv_at hl 0 rfl) ?_
    refine tk_Vv hC hK hw hT hA hE hSR kC_at3 (by decide) rfl (kz_X3_countItem_1 l adK adV dC dI cy ad B hB0 (Int.le_trans hB1 (by decide)) qr s1    w1 H.size hT ) (cwV 0 hC.2.2.2.2 uV_RX3_101 rfl rfl rfl (by decide +kernel) ⟨Nat.le_of_ble_eq_true rfl, Nat.le_of_ble_eq_true rfl⟩) rfl hl.1 rfl (Nat.le_of_ble_eq_true rfl) dX3_readValue_64 (fun w7 H locs hp6 hw => ?_)
    obtain ⟨hT, k8, hv10, hg9⟩ := hp6
    have hF := hF.tr k8 (by decide)
    clear hg9
    replace hM := hM.call hv10 rfl
    exact tk_vret hC hr hlocks hK ⟨hT, hF, hM.ret rfl, (Or.inl trivial)⟩ hw dX3_readValue_67
  have hM : TT (fun n => m_X3_readValue n qr 3 (sI w0)) (fun n => m_X3_readValue n qr 3 (sI w0)) := TT.rf
  refine lv_aload_n hx hb dX3_readValue_0 rfl (lv_at hl 0 rfl) ?_
  refine tk_getA hC hK hw hT hinX3 kC_at3 (by decide) rfl 0 (by decide) (List.mem_cons_of_mem _ uw_3_12) rfl rfl dX3_readValue_1 ?_
  refine tk_Vi hC hK hw hT hA hE hSR kC_at1 (by decide) rfl (kz_X6_isFaulty_1 l adK adV dC dI cy ad B hB0 (Int.le_trans hB1 (by decide)) qr s1    w0 s.heap.size hT ) (cwV 0 hC.2.2.2.2 uV_RX3_54 rfl rfl rfl (by decide +kernel) ⟨Nat.le_of_ble_eq_true rfl, Nat.le_of_ble_eq_true rfl⟩) rfl hl.1 rfl (Nat.le_of_ble_eq_true rfl) dX3_readValue_4 (fun r11 w13 H locs hp12 hw => ?_)
  obtain ⟨hT, k14, hv20, hg19⟩ := hp12
  have hF := hF.tr k14 (by decide)
  rcases hg19 with ⟨rfl, ⟨x15, c16, rx15, tx15⟩⟩ | ⟨rfl, ⟨x17, c18, rx17, tx17⟩⟩
  · replace hM := hM.call (r' := 0) hv20 (by decide)
    refine lv_if_eq (tgt := 11) hx hb dX3_readValue_7 (by decide) (fun _ => ?_) (fun c => absurd (by decide) c)
    replace hM := hM.pos (by decide)
    refine lv_aload_n hx hb dX3_readValue_11 rfl (lv_at hl 0 rfl) ?_
    refine tk_getA hC hK hw hT hinX3 kC_at3 (by decide) rfl 0 (by decide) (List.mem_cons_of_mem _ uw_3_12) rfl rfl dX3_readValue_12 ?_
    refine tk_Vi hC hK hw hT hA hE hSR kC_at1 (by decide) rfl (kz_X6_lookBehindBlanks_1 l adK adV dC dI cy ad B hB0 (Int.le_trans hB1 (by decide)) qr s1    w13 H.size hT ) (cwV 0 hC.2.2.2.2 uV_RX3_98 rfl rfl rfl (by decide +kernel) ⟨Nat.le_of_ble_eq_true rfl, Nat.le_of_ble_eq_true rfl⟩) rfl hl.1 rfl (Nat.le_of_ble_eq_true rfl) dX3_readValue_15 (fun r21 w23 H locs hp22 hw => ?_)
    obtain ⟨hT, k24, hv34, hg33⟩ := hp22
    have hF := hF.tr k24 (by decide)
    have c35 := k24.gi kC_at1 (by decide) c16
    rcases hg33 with ⟨g25, g26, ⟨x27, c28, rx27, tx27⟩, ⟨x29, c30, rx29, tx29⟩, ⟨x31, c32, rx31, tx31⟩⟩ | rfl
    · replace hM := hM.call hv34 rfl
      refine tk_Si hC hK hw hT hA hE hSR (kz_X6_isDigit_1 l adK adV dC dI cy ad B hB0 (Int.le_trans hB1 (by decide)) qr s1   r21 (show 0 ≤ r21.toInt by first | with_reducible assumption | omega) (show r21.toInt ≤ 255 by first | with_reducible assumption | omega) w23 H.size hT ) (va_cwS 1 hC.2.2.2.2 uS_RX3_116 rfl rfl rfl (by decide +kernel) ⟨Nat.le_of_ble_eq_true rfl, Nat.le_of_ble_eq_true rfl⟩) rfl hl.1 rfl (Nat.le_of_ble_eq_true rfl) dX3_readValue_18 (fun r36 w38 H locs hp37 hw => ?_)
      obtain ⟨hT, k39, hv43, hg42⟩ := hp37
      have hF := hF.tr k39 (by decide)
      have c44 := k39.gi kC_at1 (by decide) c35
      have c45 := k39.gi kC_at1 (by decide) c28
      have c46 := k39.gi kC_at1 (by decide) c30
      have c47 := k39.gi kC_at1 (by decide) c32
      rcases hg42 with rfl | ⟨rfl, g40, g41⟩
      · replace hM := hM.call (r' := 0) hv43 (by decide)
        refine lv_if_eq (tgt := 47) hx hb dX3_readValue_21 (by decide) (fun _ => ?_) (fun c => absurd (by decide) c)
        replace hM := hM.pos (by decide)
        refine lv_aload_n hx hb dX3_readValue_47 rfl (lv_at hl 0 rfl) ?_
        refine tk_getQ hC hK hw hT hqr (by decide) hinX3 kC_at3 (by decide) rfl 1 (by decide) (List.mem_cons_of_mem _ uw_26_17) rfl rfl dX3_readValue_48 ?_
        refine lv_aload_n hx hb dX3_readValue_51 rfl (lv_at hl 0 rfl) ?_
        refine tk_getA hC hK hw hT hinX3 kC_at3 (by decide) rfl 0 (by decide) (List.mem_cons_of_mem _ uw_3_12) rfl rfl dX3_readValue_52 ?_
        refine va_ldcS hx hb hC.2.2.2.1 hSR.2.2.2.2.2.1 dX3_readValue_55 ?_
        refine tk_Vi hC hK hw hT hA hE hSR kC_at1 (by decide) rfl (kz_X6_readWord_2 l adK adV dC dI cy ad B hB0 (Int.le_trans hB1 (by decide)) qr s1    w38 H.size hT (c44.trans (wk_eq.mpr (show x15.toInt = 0 by first | exact Int.le_antisymm (by omega) (by omega) | omega)))) (cwV 1 hC.2.2.2.2 uV_RX3_35 rfl rfl rfl (by decide +kernel) ⟨Nat.le_of_ble_eq_true rfl, Nat.le_of_ble_eq_true rfl⟩) rfl hl.1 rfl (Nat.le_of_ble_eq_true rfl) dX3_readValue_57 (fun r48 w50 H locs hp49 hw => ?_)
        obtain ⟨hT, k51, hv59, hg58⟩ := hp49
        have hF := hF.tr k51 (by decide)
        have c60 := k51.gi kC_at1 (by decide) c46
        rcases hg58 with ⟨g52, g53, ⟨x54, c55, rx54, tx54⟩⟩ | ⟨rfl, ⟨x56, c57, rx56, tx56⟩⟩
        · replace hM := hM.call hv59 rfl
          refine tk_Vv hC hK hw hT hA hE hSR hqr (by decide) rfl (kz_X2_addToken_1 l adK adV dC dI cy ad B hB0 (Int.le_trans hB1 (by decide)) qr s1   qr hqr r48 w50 H.size hT ) (cwV 1 hC.2.2.2.2 uV_RX3_74 rfl rfl rfl (by decide +kernel) ⟨Nat.le_of_ble_eq_true rfl, Nat.le_of_ble_eq_true rfl⟩) rfl hl.1 rfl (Nat.le_of_ble_eq_true rfl) dX3_readValue_60 (fun w63 H locs hp62 hw => ?_)
          obtain ⟨hT, k64, hv68, hg67⟩ := hp62
          have hF := hF.tr k64 (by decide)
          have c69 := k64.gi kC_at1 (by decide) c60
          have c70 := k64.gi kC_at1 (by decide) c55
          obtain ⟨x65, c66, rx65, tx65⟩ := hg67
          replace hM := hM.call hv68 rfl
          exact J63 x54 H locs ls w63 (show 0 ≤ x54.toInt by first | with_reducible assumption | omega) (show x54.toInt ≤ 3205 by first | with_reducible assumption | omega)  hw hT hF c70 hM (lv_sub hl [0] rfl)
        · replace hM := hM.call (r' := (-1)) hv59 (by decide)
          refine tk_Vv hC hK hw hT hA hE hSR hqr (by decide) rfl (kz_X2_addToken_1 l adK adV dC dI cy ad B hB0 (Int.le_trans hB1 (by decide)) qr s1   qr hqr ((-1)) w50 H.size hT ) (cwV 1 hC.2.2.2.2 uV_RX3_74 rfl rfl rfl (by decide +kernel) ⟨Nat.le_of_ble_eq_true rfl, Nat.le_of_ble_eq_true rfl⟩) rfl hl.1 rfl (Nat.le_of_ble_eq_true rfl) dX3_readValue_60 (fun w73 H locs hp72 hw => ?_)
          obtain ⟨hT, k74, hv78, hg77⟩ := hp72
          try simp only [show ((-1) : Int32).toInt = (-1) by decide] at hv78
          have hF := hF.tr k74 (by decide)
          have c79 := k74.gi kC_at1 (by decide) c60
          have c80 := k74.gi kC_at1 (by decide) c57
          obtain ⟨x75, c76, rx75, tx75⟩ := hg77
          replace hM := hM.call hv78 rfl
          exact J63 x56 H locs ls w73 (show 0 ≤ x56.toInt by first | with_reducible assumption | omega) (show x56.toInt ≤ 3205 by first | with_reducible assumption | omega)  hw hT hF c80 hM (lv_sub hl [0] rfl)
      · replace hM := hM.call (r' := 1) hv43 (by decide)
        refine lv_if_eq (tgt := 47) hx hb dX3_readValue_21 (by decide) (fun c => absurd c (by decide)) (fun _ => ?_)
        replace hM := hM.neg (by decide)
        refine lv_aload_n hx hb dX3_readValue_24 rfl (lv_at hl 0 rfl) ?_
        refine tk_getQ hC hK hw hT hqr (by decide) hinX3 kC_at3 (by decide) rfl 1 (by decide) (List.mem_cons_of_mem _ uw_26_17) rfl rfl dX3_readValue_25 ?_
        refine lv_bipush (v := 32) hx hb dX3_readValue_28 (by decide) ?_
        refine lv_aload_n hx hb dX3_readValue_30 rfl (lv_at hl 0 rfl) ?_
        refine tk_getA hC hK hw hT hinX3 kC_at3 (by decide) rfl 0 (by decide) (List.mem_cons_of_mem _ uw_3_12) rfl rfl dX3_readValue_31 ?_
        refine lv_iconst (v := 0) hx hb dX3_readValue_34 (by decide) ?_
        refine lv_ldc (v := 99999) hx hb hC.2.2.2.1 (hC.2.2.2.2 _ (List.mem_cons_of_mem _ uw_28_21)) dX3_readValue_35 ?_
        refine tk_Vi hC hK hw hT hA hE hSR kC_at1 (by decide) rfl (kz_X6_readNumber_14 l adK adV dC dI cy ad B hB0 (Int.le_trans hB1 (by decide)) qr s1    w38 H.size hT (c44.trans (wk_eq.mpr (show x15.toInt = 0 by first | exact Int.le_antisymm (by omega) (by omega) | omega)))) (cwV 2 hC.2.2.2.2 uV_RX3_120 rfl rfl rfl (by decide +kernel) ⟨Nat.le_of_ble_eq_true rfl, Nat.le_of_ble_eq_true rfl⟩) rfl hl.1 rfl (Nat.le_of_ble_eq_true rfl) dX3_readValue_37 (fun r81 w83 H locs hp82 hw => ?_)
        obtain ⟨hT, k84, hv96, hg95⟩ := hp82
        have hF := hF.tr k84 (by decide)
        have c97 := k84.gi kC_at1 (by decide) c46
        rcases hg95 with ⟨g85, g86, ⟨x87, c88, rx87, tx87⟩, ⟨x89, c90, rx89, tx89⟩, ⟨x91, c92, rx91, tx91⟩⟩ | ⟨rfl, ⟨x93, c94, rx93, tx93⟩⟩
        · replace hM := hM.call hv96 rfl
          have ex87 : x87.toInt = x29.toInt := by rw [← c97.symm.trans c88]
          refine lv_iadd hx hb dX3_readValue_40 ?_
          refine lv_topi (fun x98 ex98 => ?_)
          have ezx98 := ex98
          have ex98 : x98.toInt = (32 : Int) + r81.toInt := by rw [ex98]; exact wk_add (show (-2147483648) ≤ (32 : Int) + r81.toInt by omega) (show (32 : Int) + r81.toInt ≤ 2147483647 by omega)
          replace hM := hM.lt ex98.symm
          refine tk_Vv hC hK hw hT hA hE hSR hqr (by decide) rfl (kz_X2_addToken_1 l adK adV dC dI cy ad B hB0 (Int.le_trans hB1 (by decide)) qr s1   qr hqr x98 w83 H.size hT ) (cwV 1 hC.2.2.2.2 uV_RX3_74 rfl rfl rfl (by decide +kernel) ⟨Nat.le_of_ble_eq_true rfl, Nat.le_of_ble_eq_true rfl⟩) rfl hl.1 rfl (Nat.le_of_ble_eq_true rfl) dX3_readValue_41 (fun w101 H locs hp100 hw => ?_)
          obtain ⟨hT, k102, hv106, hg105⟩ := hp100
          have hF := hF.tr k102 (by decide)
          have c107 := k102.gi kC_at1 (by decide) c97
          have c108 := k102.gi kC_at1 (by decide) c90
          have c109 := k102.gi kC_at1 (by decide) c92
          obtain ⟨x103, c104, rx103, tx103⟩ := hg105
          replace hM := hM.call hv106 rfl
          refine lv_goto (tgt := 63) hx hb dX3_readValue_44 (by decide) ?_
          exact J63 x91 H locs ls w101 (show 0 ≤ x91.toInt by first | with_reducible assumption | omega) (show x91.toInt ≤ 3205 by first | with_reducible assumption | omega)  hw hT hF c109 hM (lv_sub hl [0] rfl)
        · replace hM := hM.call (r' := (-1)) hv96 (by decide)
          refine lv_iadd hx hb dX3_readValue_40 ?_
          refine wk_top 31 (by decide) ?_
          replace hM := hM.lt (v := 31) (by decide)
          refine tk_Vv hC hK hw hT hA hE hSR hqr (by decide) rfl (kz_X2_addToken_1 l adK adV dC dI cy ad B hB0 (Int.le_trans hB1 (by decide)) qr s1   qr hqr 31 w83 H.size hT ) (cwV 1 hC.2.2.2.2 uV_RX3_74 rfl rfl rfl (by decide +kernel) ⟨Nat.le_of_ble_eq_true rfl, Nat.le_of_ble_eq_true rfl⟩) rfl hl.1 rfl (Nat.le_of_ble_eq_true rfl) dX3_readValue_41 (fun w112 H locs hp111 hw => ?_)
          obtain ⟨hT, k113, hv117, hg116⟩ := hp111
          try simp only [show (31 : Int32).toInt = 31 by decide] at hv117
          have hF := hF.tr k113 (by decide)
          have c118 := k113.gi kC_at1 (by decide) c97
          have c119 := k113.gi kC_at1 (by decide) c94
          obtain ⟨x114, c115, rx114, tx114⟩ := hg116
          replace hM := hM.call hv117 rfl
          refine lv_goto (tgt := 63) hx hb dX3_readValue_44 (by decide) ?_
          exact J63 x93 H locs ls w112 (show 0 ≤ x93.toInt by first | with_reducible assumption | omega) (show x93.toInt ≤ 3205 by first | with_reducible assumption | omega)  hw hT hF c119 hM (lv_sub hl [0] rfl)
    · replace hM := hM.call (r' := (-1)) hv34 (by decide)
      refine tk_Si hC hK hw hT hA hE hSR (kz_X6_isDigit_2 l adK adV dC dI cy ad B hB0 (Int.le_trans hB1 (by decide)) qr s1    w23 H.size hT ) (va_cwS 1 hC.2.2.2.2 uS_RX3_116 rfl rfl rfl (by decide +kernel) ⟨Nat.le_of_ble_eq_true rfl, Nat.le_of_ble_eq_true rfl⟩) rfl hl.1 rfl (Nat.le_of_ble_eq_true rfl) dX3_readValue_18 (fun r120 w122 H locs hp121 hw => ?_)
      obtain ⟨hT, k123, hv125, hg124⟩ := hp121
      have hF := hF.tr k123 (by decide)
      have c126 := k123.gi kC_at1 (by decide) c35
      obtain rfl := hg124
      replace hM := hM.call (r' := 0) hv125 (by decide)
      refine lv_if_eq (tgt := 47) hx hb dX3_readValue_21 (by decide) (fun _ => ?_) (fun c => absurd (by decide) c)
      replace hM := hM.pos (by decide)
      refine lv_aload_n hx hb dX3_readValue_47 rfl (lv_at hl 0 rfl) ?_
      refine tk_getQ hC hK hw hT hqr (by decide) hinX3 kC_at3 (by decide) rfl 1 (by decide) (List.mem_cons_of_mem _ uw_26_17) rfl rfl dX3_readValue_48 ?_
      refine lv_aload_n hx hb dX3_readValue_51 rfl (lv_at hl 0 rfl) ?_
      refine tk_getA hC hK hw hT hinX3 kC_at3 (by decide) rfl 0 (by decide) (List.mem_cons_of_mem _ uw_3_12) rfl rfl dX3_readValue_52 ?_
      refine va_ldcS hx hb hC.2.2.2.1 hSR.2.2.2.2.2.1 dX3_readValue_55 ?_
      refine tk_Vi hC hK hw hT hA hE hSR kC_at1 (by decide) rfl (kz_X6_readWord_2 l adK adV dC dI cy ad B hB0 (Int.le_trans hB1 (by decide)) qr s1    w122 H.size hT (c126.trans (wk_eq.mpr (show x15.toInt = 0 by first | exact Int.le_antisymm (by omega) (by omega) | omega)))) (cwV 1 hC.2.2.2.2 uV_RX3_35 rfl rfl rfl (by decide +kernel) ⟨Nat.le_of_ble_eq_true rfl, Nat.le_of_ble_eq_true rfl⟩) rfl hl.1 rfl (Nat.le_of_ble_eq_true rfl) dX3_readValue_57 (fun r127 w129 H locs hp128 hw => ?_)
      obtain ⟨hT, k130, hv138, hg137⟩ := hp128
      have hF := hF.tr k130 (by decide)
      rcases hg137 with ⟨g131, g132, ⟨x133, c134, rx133, tx133⟩⟩ | ⟨rfl, ⟨x135, c136, rx135, tx135⟩⟩
      · replace hM := hM.call hv138 rfl
        refine tk_Vv hC hK hw hT hA hE hSR hqr (by decide) rfl (kz_X2_addToken_1 l adK adV dC dI cy ad B hB0 (Int.le_trans hB1 (by decide)) qr s1   qr hqr r127 w129 H.size hT ) (cwV 1 hC.2.2.2.2 uV_RX3_74 rfl rfl rfl (by decide +kernel) ⟨Nat.le_of_ble_eq_true rfl, Nat.le_of_ble_eq_true rfl⟩) rfl hl.1 rfl (Nat.le_of_ble_eq_true rfl) dX3_readValue_60 (fun w141 H locs hp140 hw => ?_)
        obtain ⟨hT, k142, hv146, hg145⟩ := hp140
        have hF := hF.tr k142 (by decide)
        have c147 := k142.gi kC_at1 (by decide) c134
        obtain ⟨x143, c144, rx143, tx143⟩ := hg145
        replace hM := hM.call hv146 rfl
        exact J63 x133 H locs ls w141 (show 0 ≤ x133.toInt by first | with_reducible assumption | omega) (show x133.toInt ≤ 3205 by first | with_reducible assumption | omega)  hw hT hF c147 hM (lv_sub hl [0] rfl)
      · replace hM := hM.call (r' := (-1)) hv138 (by decide)
        refine tk_Vv hC hK hw hT hA hE hSR hqr (by decide) rfl (kz_X2_addToken_1 l adK adV dC dI cy ad B hB0 (Int.le_trans hB1 (by decide)) qr s1   qr hqr ((-1)) w129 H.size hT ) (cwV 1 hC.2.2.2.2 uV_RX3_74 rfl rfl rfl (by decide +kernel) ⟨Nat.le_of_ble_eq_true rfl, Nat.le_of_ble_eq_true rfl⟩) rfl hl.1 rfl (Nat.le_of_ble_eq_true rfl) dX3_readValue_60 (fun w150 H locs hp149 hw => ?_)
        obtain ⟨hT, k151, hv155, hg154⟩ := hp149
        try simp only [show ((-1) : Int32).toInt = (-1) by decide] at hv155
        have hF := hF.tr k151 (by decide)
        have c156 := k151.gi kC_at1 (by decide) c136
        obtain ⟨x152, c153, rx152, tx152⟩ := hg154
        replace hM := hM.call hv155 rfl
        exact J63 x135 H locs ls w150 (show 0 ≤ x135.toInt by first | with_reducible assumption | omega) (show x135.toInt ≤ 3205 by first | with_reducible assumption | omega)  hw hT hF c156 hM (lv_sub hl [0] rfl)
  · replace hM := hM.call (r' := 1) hv20 (by decide)
    refine lv_if_eq (tgt := 11) hx hb dX3_readValue_7 (by decide) (fun c => absurd c (by decide)) (fun _ => ?_)
    replace hM := hM.neg (by decide)
    exact tk_vret hC hr hlocks hK ⟨hT, hF, hM.ret rfl, (Or.inr ⟨x17, c18, (show 1 ≤ x17.toInt by first | with_reducible assumption | omega), (show x17.toInt ≤ 3205 by first | with_reducible assumption | omega)⟩)⟩ hw dX3_readValue_10
