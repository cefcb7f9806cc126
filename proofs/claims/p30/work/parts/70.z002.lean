abbrev Pz_X6_readNumber_4 (ad : Nat → Nat) (cy : Nat → ClassId) (B : Int) (qr : Nat) (s1 : Int)  (w0 : va_W) : Int32 → va_W → Prop := fun r u => TW ksC ad cy B qr s1 u ∧ FE ksC [(6, 1, 1), (6, 3, 3), (6, 4, 4)] w0 u ∧ Ev (fun n => m_X6_readNumber n 1 1 9 (sI w0)) (r.toInt, sI u) ∧ ((1 ≤ r.toInt ∧ r.toInt ≤ 9 ∧ (∃ y : Int32, gi u 1 2 = y ∧ 1 ≤ y.toInt ∧ y.toInt ≤ 400) ∧ (∃ y : Int32, gi u 1 3 = y ∧ 0 ≤ y.toInt ∧ y.toInt ≤ 399) ∧ (∃ y : Int32, gi u 1 4 = y ∧ 0 ≤ y.toInt ∧ y.toInt ≤ 0)) ∨ (r = (-1) ∧ (∃ y : Int32, gi u 1 4 = y ∧ 1 ≤ y.toInt ∧ y.toInt ≤ 3205)))
set_option maxHeartbeats 4000000 in
set_option maxRecDepth 100000 in
theorem kz_X6_readNumber_4 (l : Launch) (adK adV : Nat → Nat) (dC : Nat → ClassId) (dI : Nat → Nat → Nat) (cy : Nat → ClassId) (ad : Nat → Nat) (B : Int) (hB0 : 2147483648 ≤ B) (hB1 : B ≤ 1152921504606846976) (qr : Nat) (s1 : Int)   (w0 : va_W) (sz : Nat) (hT : TW ksC ad cy B qr s1 w0) (cf0_ : gi w0 1 4 = 0) : Met l yX6_readNumber (wu yX6_readNumber cX6_readNumber 4 (some .int)) ({ frames := 2, cells := 0, slots := 0, locals := 34 }) (va_Pc [.ref (ad 1), .int 1, .int 9] (wpreS adK adV dC dI cy sz w0)) (va_Qi (Pz_X6_readNumber_4 ad cy B qr s1  w0) (fun u : va_W => wpost dC dI cy (va_A w0 sz) u) (va_A w0 sz)) 0 0 (va_A w0 sz) := by
  refine Met.ofW (cc := cX6_readNumber) (maxL := 4) (ret := (some .int)) (by decide) rfl ?_
  intro p e s m args below meth c s₁ Bk hml hv
  obtain ⟨rfl, ⟨hsz, hP, hK, hD0⟩, hE, hSR⟩ := hv
  have hx := Bk.exec
  have hb := Bk.bytes
  have hr := Bk.returns
  have hlocks := Bk.notSynchronized
  have hC : CallFix p m c cX6_readNumber 4 s _ (wu yX6_readNumber cX6_readNumber 4 (some .int)) RX6 := ⟨hx, hb, hml, findClass_of_methodNamed Bk.named, atoms_spec (ws := (wu yX6_readNumber cX6_readNumber 4 (some .int))) Bk.pre⟩
  subst hsz
  have hD := hD0.self (sz := s.heap.size)
  generalize hAe : va_A w0 s.heap.size = A at hD hE ⊢
  have hA : ∀ q : Nat, s.heap.size ≤ q → A q := fun q h => by rw [← hAe]; exact Or.inr h
  have hw : Wd dC dI A s.heap s.heap [] w0 := ⟨hP, hD, va_S.rf⟩
  have hF : FE ksC [(6, 1, 1), (6, 3, 3), (6, 4, 4)] w0 w0 := FE.rf
  have hl := lv_entry ([.ref (ad 1), .int 1, .int 9]) (n := 4) (Nat.le_of_ble_eq_true rfl)
  rw [lg_entry_eq]
  generalize (lg_sl ([.ref (ad 1), .int 1, .int 9]) ++ List.replicate (4 - (lg_sl ([.ref (ad 1), .int 1, .int 9])).length) Slot.unset).toArray = ls at hl ⊢
  have hl : lv_has ls 4 [(0, .ref (ad 1)), (1, .int 1), (2, .int 9)] := hl
  generalize hloc : ([] : List Loc) = locs at hw ⊢
  have hinX6 : ∀ w ∈ u_ws RX6 TX6 5, w ∈ (wu yX6_readNumber cX6_readNumber 4 (some .int)) := fun _ h => List.mem_cons_of_mem _ (up_72 h)
  have J125 : ∀ (v125_3 : Int32) (f125_1_1 : Int32) (f125_1_2 : Int32) (f125_1_3 : Int32) (H : Heap) (locs : List Loc) (ls : Array Slot) (w1 : va_W), 0 ≤ f125_1_1.toInt → f125_1_1.toInt ≤ 400 → 1 ≤ f125_1_2.toInt → f125_1_2.toInt ≤ 400 → 0 ≤ f125_1_3.toInt → f125_1_3.toInt ≤ 399 → Wd dC dI A s.heap H locs w1 → TW ksC ad cy B qr s1 w1 → FE ksC [(6, 1, 1), (6, 3, 3), (6, 4, 4)] w0 w1 → gi w1 1 1 = f125_1_1 → gi w1 1 2 = f125_1_2 → gi w1 1 3 = f125_1_3 → gi w1 1 4 = 0 → TT (fun n => m_X6_readNumber n 1 1 9 (sI w0)) (fun n => b_X6_readNumber_125 (j_X6_readNumber 1 n) n 1 (sI w1)) → lv_has ls 4 [(0, .ref (ad 1)), (1, .int 1), (2, .int 9), (3, .int v125_3)] → W p l e ({ frames := 2, cells := 0, slots := 0, locals := 34 }) s m (List.toArray [.ref (ad 1), .int 1, .int 9]) below meth c H locs 0 0 (MQ below (va_Qi (Pz_X6_readNumber_4 ad cy B qr s1  w0) (fun u : va_W => wpost dC dI cy A u) A) (List.toArray [.ref (ad 1), .int 1, .int 9]) s 0 0 A) (F0 m 125 ls []) := by
    intro v125_3 f125_1_1 f125_1_2 f125_1_3 H locs ls w1 r2 t3 r5 t6 r8 t9 hw hT hF c4 c7 c10 c11 hM hl
    refine lv_aload_n hx hb dX6_readNumber_125 rfl (lv_at hl 0 rfl) ?_
    refine lv_aload_n hx hb dX6_readNumber_126 rfl (lv_at hl 0 rfl) ?_
    refine tk_geti hC hK hw hT hinX6 kC_at1 (by decide) rfl 3 (by decide) (List.mem_cons_of_mem _ uw_9_17) rfl rfl dX6_readNumber_127 (fun x12 c13 rx12 tx12 => ?_)
    refine wk_top f125_1_3 (c13.symm.trans c10) ?_
    replace hM := hM.rd (sI_at c10)
    refine lv_iconst (v := 1) hx hb dX6_readNumber_130 (by decide) ?_
    refine tk_Vv hC hK hw hT hA hE hSR kC_at1 (by decide) rfl (kz_X6_blame_2 l adK adV dC dI cy ad B hB0 (Int.le_trans hB1 (by decide)) qr s1   f125_1_3 (show 0 ≤ f125_1_3.toInt from r8) (show f125_1_3.toInt ≤ 400 from Int.le_trans t9 (by decide)) 1 (by decide) (by decide) w1 H.size hT c11) (cwV 2 hC.2.2.2.2 uV_RX6_35 rfl rfl rfl (by decide +kernel) ⟨Nat.le_of_ble_eq_true rfl, Nat.le_of_ble_eq_true rfl⟩) rfl hl.1 rfl (Nat.le_of_ble_eq_true rfl) dX6_readNumber_131 (fun w16 H locs hp15 hw => ?_)
    obtain ⟨hT, k17, hv21, hg20⟩ := hp15
    try simp only [show (1 : Int32).toInt = 1 by decide] at hv21
    have hF := hF.tr k17 (by decide)
    have c22 := k17.gi kC_at1 (by decide) c4
    have c23 := k17.gi kC_at1 (by decide) c7
    have c24 := k17.gi kC_at1 (by decide) c10
    obtain ⟨x18, c19, rx18, tx18⟩ := hg20
    replace hM := hM.call hv21 rfl
    refine lv_iconst (v := (-1)) hx hb dX6_readNumber_134 (by decide) ?_
    exact tk_iret hC hr hlocks hK ⟨hT, hF, hM.ret (by decide), (Or.inr ⟨rfl, ⟨x18, c19, (show 1 ≤ x18.toInt by first | with_reducible assumption | omega), (show x18.toInt ≤ 3205 by first | with_reducible assumption | omega)⟩⟩)⟩ hw dX6_readNumber_135
  have J102 : ∀ (v102_3 : Int32) (f102_1_1 : Int32) (f102_1_2 : Int32) (f102_1_3 : Int32) (H : Heap) (locs : List Loc) (ls : Array Slot) (w25 : va_W), 0 ≤ f102_1_1.toInt → f102_1_1.toInt ≤ 400 → 1 ≤ f102_1_2.toInt → f102_1_2.toInt ≤ 400 → 0 ≤ f102_1_3.toInt → f102_1_3.toInt ≤ 399 → Wd dC dI A s.heap H locs w25 → TW ksC ad cy B qr s1 w25 → FE ksC [(6, 1, 1), (6, 3, 3), (6, 4, 4)] w0 w25 → gi w25 1 1 = f102_1_1 → gi w25 1 2 = f102_1_2 → gi w25 1 3 = f102_1_3 → gi w25 1 4 = 0 → TT (fun n => m_X6_readNumber n 1 1 9 (sI w0)) (fun n => b_X6_readNumber_102 (j_X6_readNumber 1 n) n 1 (1 : Int) (9 : Int) (v102_3.toInt) (sI w25)) → lv_has ls 4 [(0, .ref (ad 1)), (1, .int 1), (2, .int 9), (3, .int v102_3)] → W p l e ({ frames := 2, cells := 0, slots := 0, locals := 34 }) s m (List.toArray [.ref (ad 1), .int 1, .int 9]) below meth c H locs 0 0 (MQ below (va_Qi (Pz_X6_readNumber_4 ad cy B qr s1  w0) (fun u : va_W => wpost dC dI cy A u) A) (List.toArray [.ref (ad 1), .int 1, .int 9]) s 0 0 A) (F0 m 102 ls []) := by
    intro v102_3 f102_1_1 f102_1_2 f102_1_3 H locs ls w25 r26 t27 r29 t30 r32 t33 hw hT hF c28 c31 c34 c35 hM hl
    refine lv_aload_n hx hb dX6_readNumber_102 rfl (lv_at hl 0 rfl) ?_
    refine tk_geti hC hK hw hT hinX6 kC_at1 (by decide) rfl 1 (by decide) (List.mem_cons_of_mem _ uw_9_16) rfl rfl dX6_readNumber_103 (fun x36 c37 rx36 tx36 => ?_)
    refine wk_top f102_1_1 (c37.symm.trans c28) ?_
    replace hM := hM.rd (sI_at c28)
    refine lv_aload_n hx hb dX6_readNumber_106 rfl (lv_at hl 0 rfl) ?_
    refine tk_geti hC hK hw hT hinX6 kC_at1 (by decide) rfl 3 (by decide) (List.mem_cons_of_mem _ uw_9_17) rfl rfl dX6_readNumber_107 (fun x38 c39 rx38 tx38 => ?_)
    refine wk_top f102_1_3 (c39.symm.trans c34) ?_
    replace hM := hM.rd (sI_at c34)
    refine lv_isub hx hb dX6_readNumber_110 ?_
    refine lv_topi (fun x40 ex40 => ?_)
    have ezx40 := ex40
    have ex40 : x40.toInt = f102_1_1.toInt - f102_1_3.toInt := by rw [ex40]; exact wk_sub (show (-2147483648) ≤ f102_1_1.toInt - f102_1_3.toInt by omega) (show f102_1_1.toInt - f102_1_3.toInt ≤ 2147483647 by omega)
    replace hM := hM.lt ex40.symm
    refine lv_iconst (v := 5) hx hb dX6_readNumber_111 (by decide) ?_
    refine lv_icmp_gt (tgt := 125) hx hb dX6_readNumber_112 (by decide) (fun c41 => ?_) (fun c41 => ?_)
    · have c41 : (5 : Int) < x40.toInt := wk_lt.mp c41
      replace hM := hM.pos c41
      exact J125 v102_3 f102_1_1 f102_1_2 f102_1_3 H locs ls w25 (show 0 ≤ f102_1_1.toInt from r26) (show f102_1_1.toInt ≤ 400 from t27) (show 1 ≤ f102_1_2.toInt from r29) (show f102_1_2.toInt ≤ 400 from t30) (show 0 ≤ f102_1_3.toInt from r32) (show f102_1_3.toInt ≤ 399 from t33)  hw hT hF c28 c31 c34 c35 hM (lv_sub hl [0, 1, 2, 3] rfl)
    · have c41 : x40.toInt ≤ (5 : Int) := wk_ltF c41
      replace hM := hM.neg (Int.not_lt.mpr c41)
      refine lv_iload_n hx hb dX6_readNumber_115 rfl (lv_at hl 3 rfl) ?_
      refine lv_iload_n hx hb dX6_readNumber_116 rfl (lv_at hl 1 rfl) ?_
      refine lv_icmp_lt (tgt := 125) hx hb dX6_readNumber_117 (by decide) (fun c42 => ?_) (fun c42 => ?_)
      · have c42 : v102_3.toInt < (1 : Int) := wk_lt.mp c42
        replace hM := hM.pos c42
        exact J125 v102_3 f102_1_1 f102_1_2 f102_1_3 H locs ls w25 (show 0 ≤ f102_1_1.toInt from r26) (show f102_1_1.toInt ≤ 400 from t27) (show 1 ≤ f102_1_2.toInt from r29) (show f102_1_2.toInt ≤ 400 from t30) (show 0 ≤ f102_1_3.toInt from r32) (show f102_1_3.toInt ≤ 399 from t33)  hw hT hF c28 c31 c34 c35 hM (lv_sub hl [0, 1, 2, 3] rfl)
      · have c42 : (1 : Int) ≤ v102_3.toInt := wk_ltF c42
        replace hM := hM.neg (Int.not_lt.mpr c42)
        refine lv_iload_n hx hb dX6_readNumber_120 rfl (lv_at hl 3 rfl) ?_
        refine lv_iload_n hx hb dX6_readNumber_121 rfl (lv_at hl 2 rfl) ?_
        refine lv_icmp_le (tgt := 136) hx hb dX6_readNumber_122 (by decide) (fun c43 => ?_) (fun c43 => ?_)
        · have c43 : v102_3.toInt ≤ (9 : Int) := wk_le.mp c43
          replace hM := hM.pos c43
          refine lv_iload_n hx hb dX6_readNumber_136 rfl (lv_at hl 3 rfl) ?_
          exact tk_iret hC hr hlocks hK ⟨hT, hF, hM.ret rfl, (Or.inl ⟨(show 1 ≤ v102_3.toInt by first | with_reducible assumption | omega), (show v102_3.toInt ≤ 9 by first | with_reducible assumption | omega), ⟨f102_1_2, c31, (show 1 ≤ f102_1_2.toInt from r29), (show f102_1_2.toInt ≤ 400 from t30)⟩, ⟨f102_1_3, c34, (show 0 ≤ f102_1_3.toInt from r32), (show f102_1_3.toInt ≤ 399 from t33)⟩, ⟨0, c35, (by decide), (by decide)⟩⟩)⟩ hw dX6_readNumber_137
        · have c43 : (9 : Int) < v102_3.toInt := wk_leF c43
          replace hM := hM.neg (Int.not_le.mpr c43)
          exact J125 v102_3 f102_1_1 f102_1_2 f102_1_3 H locs ls w25 (show 0 ≤ f102_1_1.toInt from r26) (show f102_1_1.toInt ≤ 400 from t27) (show 1 ≤ f102_1_2.toInt from r29) (show f102_1_2.toInt ≤ 400 from t30) (show 0 ≤ f102_1_3.toInt from r32) (show f102_1_3.toInt ≤ 399 from t33)  hw hT hF c28 c31 c34 c35 hM (lv_sub hl [0, 1, 2, 3] rfl)
  have L32 : ∀ (n32 : Nat) (v32_3 : Int32) (f32_1_1 : Int32) (f32_1_2 : Int32) (f32_1_3 : Int32) (H : Heap) (locs : List Loc) (ls : Array Slot) (w44 : va_W), 0 ≤ f32_1_1.toInt → f32_1_1.toInt ≤ 400 → 1 ≤ f32_1_2.toInt → f32_1_2.toInt ≤ 400 → 0 ≤ f32_1_3.toInt → f32_1_3.toInt ≤ 399 → (400 - f32_1_1.toInt).toNat < n32 → Wd dC dI A s.heap H locs w44 → TW ksC ad cy B qr s1 w44 → FE ksC [(6, 1, 1), (6, 3, 3), (6, 4, 4)] w0 w44 → gi w44 1 1 = f32_1_1 → gi w44 1 2 = f32_1_2 → gi w44 1 3 = f32_1_3 → gi w44 1 4 = 0 → TT (fun n => m_X6_readNumber n 1 1 9 (sI w0)) (fun n => j_X6_readNumber 1 n 32 [(1 : Int), (9 : Int), v32_3.toInt] (sI w44)) → lv_has ls 4 [(0, .ref (ad 1)), (1, .int 1), (2, .int 9), (3, .int v32_3)] → W p l e ({ frames := 2, cells := 0, slots := 0, locals := 34 }) s m (List.toArray [.ref (ad 1), .int 1, .int 9]) below meth c H locs 0 0 (MQ below (va_Qi (Pz_X6_readNumber_4 ad cy B qr s1  w0) (fun u : va_W => wpost dC dI cy A u) A) (List.toArray [.ref (ad 1), .int 1, .int 9]) s 0 0 A) (F0 m 32 ls []) := by
    intro n32
    induction n32 with
    | zero => intro v32_3 f32_1_1 f32_1_2 f32_1_3 H locs ls w44 r45 t46 r48 t49 r51 t52 hm32 hw hT hF c47 c50 c53 c54 hM hl; omega
    | succ n32 ih32 =>
      intro v32_3 f32_1_1 f32_1_2 f32_1_3 H locs ls w44 r45 t46 r48 t49 r51 t52 hm32 hw hT hF c47 c50 c53 c54 hM hl
      have J89 : ∀ (v89_3 : Int32) (H : Heap) (locs : List Loc) (ls : Array Slot) (w55 : va_W), 0 ≤ f32_1_1.toInt → f32_1_1.toInt ≤ 399 → 1 ≤ f32_1_2.toInt → f32_1_2.toInt ≤ 400 → 0 ≤ f32_1_3.toInt → f32_1_3.toInt ≤ 399 → Wd dC dI A s.heap H locs w55 → TW ksC ad cy B qr s1 w55 → FE ksC [(6, 1, 1), (6, 3, 3), (6, 4, 4)] w0 w55 → gi w55 1 1 = f32_1_1 → gi w55 1 2 = f32_1_2 → gi w55 1 3 = f32_1_3 → gi w55 1 4 = 0 → TT (fun n => m_X6_readNumber n 1 1 9 (sI w0)) (fun n => b_X6_readNumber_89 (j_X6_readNumber 1 n) n 1 (1 : Int) (9 : Int) (v89_3.toInt) (sI w55)) → lv_has ls 4 [(0, .ref (ad 1)), (1, .int 1), (2, .int 9), (3, .int v89_3)] → W p l e ({ frames := 2, cells := 0, slots := 0, locals := 34 }) s m (List.toArray [.ref (ad 1), .int 1, .int 9]) below meth c H locs 0 0 (MQ below (va_Qi (Pz_X6_readNumber_4 ad cy B qr s1  w0) (fun u : va_W => wpost dC dI cy A u) A) (List.toArray [.ref (ad 1), .int 1, .int 9]) s 0 0 A) (F0 m 89 ls []) := by
        intro v89_3 H locs ls w55 r56 t57 r59 t60 r62 t63 hw hT hF c58 c61 c64 c65 hM hl
        refine lv_aload_n hx hb dX6_readNumber_89 rfl (lv_at hl 0 rfl) ?_
        refine lv_dup hx hb dX6_readNumber_90 rfl ?_
        refine tk_geti hC hK hw hT hinX6 kC_at1 (by decide) rfl 1 (by decide) (List.mem_cons_of_mem _ uw_9_16) rfl rfl dX6_readNumber_91 (fun x66 c67 rx66 tx66 => ?_)
        refine wk_top f32_1_1 (c67.symm.trans c58) ?_
        replace hM := hM.rd (sI_at c58)
        refine lv_iconst (v := 1) hx hb dX6_readNumber_94 (by decide) ?_
        refine lv_iadd hx hb dX6_readNumber_95 ?_
        refine lv_topi (fun x68 ex68 => ?_)
        have ezx68 := ex68
        have ex68 : x68.toInt = f32_1_1.toInt + (1 : Int) := by rw [ex68]; exact wk_add (show (-2147483648) ≤ f32_1_1.toInt + (1 : Int) by omega) (show f32_1_1.toInt + (1 : Int) ≤ 2147483647 by omega)
        replace hM := hM.lt ex68.symm
        refine tk_puti hC hK hw hT hinX6 tyX6_ok nmX6 kC_at1 (by decide) rfl rfl 1 (by decide) (List.mem_cons_of_mem _ uw_9_16) rfl rfl rfl rfl (show 0 ≤ x68.toInt by first | with_reducible assumption | omega) (show x68.toInt ≤ 400 by first | with_reducible assumption | omega) dX6_readNumber_96 (fun H locs w69 hw hT k71 c70 => ?_)
        replace hM := hM.wr (sI_up k71 c70)
        have hF := hF.put kC_at1 (k := 1) (by decide) k71
        have c72 := k71.gi (Or.inr (by decide)) c61
        have c73 := k71.gi (Or.inr (by decide)) c64
        have c74 := k71.gi (Or.inr (by decide)) c65
        refine lv_goto (tgt := 32) hx hb dX6_readNumber_99 (by decide) ?_
        exact ih32 v89_3 x68 f32_1_2 f32_1_3 H locs ls w69 (show 0 ≤ x68.toInt by first | with_reducible assumption | omega) (show x68.toInt ≤ 400 by first | with_reducible assumption | omega) (show 1 ≤ f32_1_2.toInt from r59) (show f32_1_2.toInt ≤ 400 from t60) (show 0 ≤ f32_1_3.toInt from r62) (show f32_1_3.toInt ≤ 399 from t63) (show (400 - x68.toInt).toNat < n32 by first | exact tn_lt hm32 (by omega) (by omega) | omega) hw hT hF c70 c72 c73 c74 hM (lv_sub hl [0, 1, 2, 3] rfl)
      replace hM := hM.suc (fun _ => e_X6_readNumber_32)
      refine lv_aload_n hx hb dX6_readNumber_32 rfl (lv_at hl 0 rfl) ?_
      refine tk_geti hC hK hw hT hinX6 kC_at1 (by decide) rfl 1 (by decide) (List.mem_cons_of_mem _ uw_9_16) rfl rfl dX6_readNumber_33 (fun x75 c76 rx75 tx75 => ?_)
      refine wk_top f32_1_1 (c76.symm.trans c47) ?_
      replace hM := hM.rd (sI_at c47)
      refine lv_aload_n hx hb dX6_readNumber_36 rfl (lv_at hl 0 rfl) ?_
      refine tk_geti hC hK hw hT hinX6 kC_at1 (by decide) rfl 2 (by decide) (List.mem_cons_of_mem _ uw_7_22) rfl rfl dX6_readNumber_37 (fun x77 c78 rx77 tx77 => ?_)
      refine wk_top f32_1_2 (c78.symm.trans c50) ?_
      replace hM := hM.rd (sI_at c50)
      refine lv_icmp_ge (tgt := 102) hx hb dX6_readNumber_40 (by decide) (fun c79 => ?_) (fun c79 => ?_)
      · have c79 : f32_1_2.toInt ≤ f32_1_1.toInt := wk_le.mp c79
        replace hM := hM.pos c79
        exact J102 v32_3 f32_1_1 f32_1_2 f32_1_3 H locs ls w44 (show 0 ≤ f32_1_1.toInt from r45) (show f32_1_1.toInt ≤ 400 from t46) (show 1 ≤ f32_1_2.toInt from r48) (show f32_1_2.toInt ≤ 400 from t49) (show 0 ≤ f32_1_3.toInt from r51) (show f32_1_3.toInt ≤ 399 from t52)  hw hT hF c47 c50 c53 c54 hM (lv_sub hl [0, 1, 2, 3] rfl)
      · have c79 : f32_1_1.toInt < f32_1_2.toInt := wk_leF c79
        replace hM := hM.neg (Int.not_le.mpr c79)
        refine lv_aload_n hx hb dX6_readNumber_43 rfl (lv_at hl 0 rfl) ?_
        refine tk_getA hC hK hw hT hinX6 kC_at1 (by decide) rfl 0 (by decide) (List.mem_cons_of_mem _ uw_2_12) rfl rfl dX6_readNumber_44 ?_
        refine lv_aload_n hx hb dX6_readNumber_47 rfl (lv_at hl 0 rfl) ?_
        refine tk_geti hC hK hw hT hinX6 kC_at1 (by decide) rfl 1 (by decide) (List.mem_cons_of_mem _ uw_9_16) rfl rfl dX6_readNumber_48 (fun x80 c81 rx80 tx80 => ?_)
        refine wk_top f32_1_1 (c81.symm.trans c47) ?_
        replace hM := hM.rd (sI_at c47)
        refine tk_iald hC hK hw hT kC_at2 rfl rfl (show 0 ≤ f32_1_1.toInt from r45) (show f32_1_1.toInt < 400 by first | with_reducible assumption | omega) dX6_readNumber_51 (fun x82 c83 rx82 tx82 => ?_)
        have hox82 := c83
        replace hM := hM.rd (sI_at hox82)
        refine tk_Si hC hK hw hT hA hE hSR (kz_X6_isDigit_1 l adK adV dC dI cy ad B hB0 (Int.le_trans hB1 (by decide)) qr s1   x82 (show 0 ≤ x82.toInt from rx82) (show x82.toInt ≤ 255 from tx82) w44 H.size hT ) (va_cwS 1 hC.2.2.2.2 uS_RX6_64 rfl rfl rfl (by decide +kernel) ⟨Nat.le_of_ble_eq_true rfl, Nat.le_of_ble_eq_true rfl⟩) rfl hl.1 rfl (Nat.le_of_ble_eq_true rfl) dX6_readNumber_52 (fun r84 w86 H locs hp85 hw => ?_)
        obtain ⟨hT, k87, hv91, hg90⟩ := hp85
        have hF := hF.tr k87 (by decide)
        have c92 := k87.gi kC_at1 (by decide) c47
        have c93 := k87.gi kC_at1 (by decide) c50
        have c94 := k87.gi kC_at1 (by decide) c53
        have c95 := k87.gi kC_at1 (by decide) c54
        rcases hg90 with rfl | ⟨rfl, g88, g89⟩
        · replace hM := hM.call (r' := 0) hv91 (by decide)
          refine lv_if_eq (tgt := 102) hx hb dX6_readNumber_55 (by decide) (fun _ => ?_) (fun c => absurd (by decide) c)
          replace hM := hM.pos (by decide)
          exact J102 v32_3 f32_1_1 f32_1_2 f32_1_3 H locs ls w86 (show 0 ≤ f32_1_1.toInt from r45) (show f32_1_1.toInt ≤ 400 from t46) (show 1 ≤ f32_1_2.toInt from r48) (show f32_1_2.toInt ≤ 400 from t49) (show 0 ≤ f32_1_3.toInt from r51) (show f32_1_3.toInt ≤ 399 from t52)  hw hT hF c92 c93 c94 c95 hM (lv_sub hl [0, 1, 2, 3] rfl)
        · replace hM := hM.call (r' := 1) hv91 (by decide)
          refine lv_if_eq (tgt := 102) hx hb dX6_readNumber_55 (by decide) (fun c => absurd c (by decide)) (fun _ => ?_)
          replace hM := hM.neg (by decide)
          refine lv_aload_n hx hb dX6_readNumber_58 rfl (lv_at hl 0 rfl) ?_
          refine tk_geti hC hK hw hT hinX6 kC_at1 (by decide) rfl 1 (by decide) (List.mem_cons_of_mem _ uw_9_16) rfl rfl dX6_readNumber_59 (fun x96 c97 rx96 tx96 => ?_)
          refine wk_top f32_1_1 (c97.symm.trans c92) ?_
          replace hM := hM.rd (sI_at c92)
          refine lv_aload_n hx hb dX6_readNumber_62 rfl (lv_at hl 0 rfl) ?_
          refine tk_geti hC hK hw hT hinX6 kC_at1 (by decide) rfl 3 (by decide) (List.mem_cons_of_mem _ uw_9_17) rfl rfl dX6_readNumber_63 (fun x98 c99 rx98 tx98 => ?_)
          refine wk_top f32_1_3 (c99.symm.trans c94) ?_
          replace hM := hM.rd (sI_at c94)
          refine lv_isub hx hb dX6_readNumber_66 ?_
          refine lv_topi (fun x100 ex100 => ?_)
          have ezx100 := ex100
          have ex100 : x100.toInt = f32_1_1.toInt - f32_1_3.toInt := by rw [ex100]; exact wk_sub (show (-2147483648) ≤ f32_1_1.toInt - f32_1_3.toInt by omega) (show f32_1_1.toInt - f32_1_3.toInt ≤ 2147483647 by omega)
          replace hM := hM.lt ex100.symm
          refine lv_iconst (v := 5) hx hb dX6_readNumber_67 (by decide) ?_
          refine lv_icmp_ge (tgt := 89) hx hb dX6_readNumber_68 (by decide) (fun c101 => ?_) (fun c101 => ?_)
          · have c101 : (5 : Int) ≤ x100.toInt := wk_le.mp c101
            replace hM := hM.pos c101
            exact J89 v32_3 H locs ls w86 (show 0 ≤ f32_1_1.toInt from r45) (show f32_1_1.toInt ≤ 399 by first | with_reducible assumption | omega) (show 1 ≤ f32_1_2.toInt from r48) (show f32_1_2.toInt ≤ 400 from t49) (show 0 ≤ f32_1_3.toInt from r51) (show f32_1_3.toInt ≤ 399 from t52)  hw hT hF c92 c93 c94 c95 hM (lv_sub hl [0, 1, 2, 3] rfl)
          · have c101 : x100.toInt < (5 : Int) := wk_leF c101
            replace hM := hM.neg (Int.not_le.mpr c101)
            refine lv_iload_n hx hb dX6_readNumber_71 rfl (lv_at hl 3 rfl) ?_
            refine lv_bipush (v := 10) hx hb dX6_readNumber_72 (by decide) ?_
            refine lv_imul hx hb dX6_readNumber_74 ?_
            have nx102 := wk_i32 v32_3
            refine lv_topi (fun x103 ex103 => ?_)
            have ezx103 := ex103
            replace hM := hM.lt (o32_e (f := fun x y => x * y) ezx103 rfl (by decide))
            refine lv_aload_n hx hb dX6_readNumber_75 rfl (lv_at hl 0 rfl) ?_
            refine tk_getA hC hK hw hT hinX6 kC_at1 (by decide) rfl 0 (by decide) (List.mem_cons_of_mem _ uw_2_12) rfl rfl dX6_readNumber_76 ?_
            refine lv_aload_n hx hb dX6_readNumber_79 rfl (lv_at hl 0 rfl) ?_
            refine tk_geti hC hK hw hT hinX6 kC_at1 (by decide) rfl 1 (by decide) (List.mem_cons_of_mem _ uw_9_16) rfl rfl dX6_readNumber_80 (fun x104 c105 rx104 tx104 => ?_)
            refine wk_top f32_1_1 (c105.symm.trans c92) ?_
            replace hM := hM.rd (sI_at c92)
            refine tk_iald hC hK hw hT kC_at2 rfl rfl (show 0 ≤ f32_1_1.toInt from r45) (show f32_1_1.toInt < 400 by first | with_reducible assumption | omega) dX6_readNumber_83 (fun x106 c107 rx106 tx106 => ?_)
            have hox106 := c107
            replace hM := hM.rd (sI_at hox106)
            refine lv_iadd hx hb dX6_readNumber_84 ?_
            have nx108 := wk_i32 x103
            refine lv_topi (fun x109 ex109 => ?_)
            have ezx109 := ex109
            replace hM := hM.lt (o32_e (f := fun x y => x + y) ezx109 rfl rfl)
            refine lv_bipush (v := 48) hx hb dX6_readNumber_85 (by decide) ?_
            refine lv_isub hx hb dX6_readNumber_87 ?_
            have nx110 := wk_i32 x109
            refine lv_topi (fun x111 ex111 => ?_)
            have ezx111 := ex111
            replace hM := hM.lt (o32_e (f := fun x y => x - y) ezx111 rfl (by decide))
            refine lv_istore_n (lv' := [(3, .int x111), (0, .ref (ad 1)), (1, .int 1), (2, .int 9)]) hx hb dX6_readNumber_88 rfl hl (by decide) rfl (fun ls hl => ?_)
            exact J89 x111 H locs ls w86 (show 0 ≤ f32_1_1.toInt from r45) (show f32_1_1.toInt ≤ 399 by first | with_reducible assumption | omega) (show 1 ≤ f32_1_2.toInt from r48) (show f32_1_2.toInt ≤ 400 from t49) (show 0 ≤ f32_1_3.toInt from r51) (show f32_1_3.toInt ≤ 399 from t52)  hw hT hF c92 c93 c94 c95 hM (lv_sub hl [1, 2, 3, 0] rfl)
  have hM : TT (fun n => m_X6_readNumber n 1 1 9 (sI w0)) (fun n => m_X6_readNumber n 1 1 9 (sI w0)) := TT.rf
  refine lv_aload_n hx hb dX6_readNumber_0 rfl (lv_at hl 0 rfl) ?_
  refine tk_Vi hC hK hw hT hA hE hSR kC_at1 (by decide) rfl (kz_X6_isFaulty_2 l adK adV dC dI cy ad B hB0 (Int.le_trans hB1 (by decide)) qr s1    w0 s.heap.size hT cf0_) (cwV 0 hC.2.2.2.2 uV_RX6_39 rfl rfl rfl (by decide +kernel) ⟨Nat.le_of_ble_eq_true rfl, Nat.le_of_ble_eq_true rfl⟩) rfl hl.1 rfl (Nat.le_of_ble_eq_true rfl) dX6_readNumber_1 (fun r112 w114 H locs hp113 hw => ?_)
  obtain ⟨hT, k115, hv119, hg118⟩ := hp113
  have hF := hF.tr k115 (by decide)
  have c120 := k115.gi kC_at1 (by decide) cf0_
  obtain ⟨rfl, ⟨x116, c117, rx116, tx116⟩⟩ := hg118
  replace hM := hM.call (r' := 0) hv119 (by decide)
  have ex116 : x116.toInt = (0 : Int) := by rw [show x116 = 0 from c117.symm.trans c120]; decide
  refine lv_if_eq (tgt := 9) hx hb dX6_readNumber_4 (by decide) (fun _ => ?_) (fun c => absurd (by decide) c)
  replace hM := hM.pos (by decide)
  refine lv_aload_n hx hb dX6_readNumber_9 rfl (lv_at hl 0 rfl) ?_
  refine tk_Vi hC hK hw hT hA hE hSR kC_at1 (by decide) rfl (kz_X6_lookBehindBlanks_1 l adK adV dC dI cy ad B hB0 (Int.le_trans hB1 (by decide)) qr s1    w114 H.size hT ) (cwV 0 hC.2.2.2.2 uV_RX6_28 rfl rfl rfl (by decide +kernel) ⟨Nat.le_of_ble_eq_true rfl, Nat.le_of_ble_eq_true rfl⟩) rfl hl.1 rfl (Nat.le_of_ble_eq_true rfl) dX6_readNumber_10 (fun r121 w123 H locs hp122 hw => ?_)
  obtain ⟨hT, k124, hv134, hg133⟩ := hp122
  have hF := hF.tr k124 (by decide)
  have c135 := k124.gi kC_at1 (by decide) c120
  rcases hg133 with ⟨g125, g126, ⟨x127, c128, rx127, tx127⟩, ⟨x129, c130, rx129, tx129⟩, ⟨x131, c132, rx131, tx131⟩⟩ | rfl
  · replace hM := hM.call hv134 rfl
    refine tk_Si hC hK hw hT hA hE hSR (kz_X6_isDigit_1 l adK adV dC dI cy ad B hB0 (Int.le_trans hB1 (by decide)) qr s1   r121 (show 0 ≤ r121.toInt by first | with_reducible assumption | omega) (show r121.toInt ≤ 255 by first | with_reducible assumption | omega) w123 H.size hT ) (va_cwS 1 hC.2.2.2.2 uS_RX6_64 rfl rfl rfl (by decide +kernel) ⟨Nat.le_of_ble_eq_true rfl, Nat.le_of_ble_eq_true rfl⟩) rfl hl.1 rfl (Nat.le_of_ble_eq_true rfl) dX6_readNumber_13 (fun r136 w138 H locs hp137 hw => ?_)
    obtain ⟨hT, k139, hv143, hg142⟩ := hp137
    have hF := hF.tr k139 (by decide)
    have c144 := k139.gi kC_at1 (by decide) c135
    have c145 := k139.gi kC_at1 (by decide) c128
    have c146 := k139.gi kC_at1 (by decide) c130
    have c147 := k139.gi kC_at1 (by decide) c132
    rcases hg142 with rfl | ⟨rfl, g140, g141⟩
    · replace hM := hM.call (r' := 0) hv143 (by decide)
      refine lv_if_ne (tgt := 30) hx hb dX6_readNumber_16 (by decide) (fun c => absurd (by decide) c) (fun _ => ?_)
      replace hM := hM.neg (by decide)
      refine lv_aload_n hx hb dX6_readNumber_19 rfl (lv_at hl 0 rfl) ?_
      refine lv_aload_n hx hb dX6_readNumber_20 rfl (lv_at hl 0 rfl) ?_
      refine tk_geti hC hK hw hT hinX6 kC_at1 (by decide) rfl 3 (by decide) (List.mem_cons_of_mem _ uw_9_17) rfl rfl dX6_readNumber_21 (fun x148 c149 rx148 tx148 => ?_)
      refine wk_top x131 (c149.symm.trans c147) ?_
      replace hM := hM.rd (sI_at c147)
      refine lv_iconst (v := 0) hx hb dX6_readNumber_24 (by decide) ?_
      refine tk_Vv hC hK hw hT hA hE hSR kC_at1 (by decide) rfl (kz_X6_blame_2 l adK adV dC dI cy ad B hB0 (Int.le_trans hB1 (by decide)) qr s1   x131 (show 0 ≤ x131.toInt by first | with_reducible assumption | omega) (show x131.toInt ≤ 400 by first | with_reducible assumption | omega) 0 (by decide) (by decide) w138 H.size hT c144) (cwV 2 hC.2.2.2.2 uV_RX6_35 rfl rfl rfl (by decide +kernel) ⟨Nat.le_of_ble_eq_true rfl, Nat.le_of_ble_eq_true rfl⟩) rfl hl.1 rfl (Nat.le_of_ble_eq_true rfl) dX6_readNumber_25 (fun w152 H locs hp151 hw => ?_)
      obtain ⟨hT, k153, hv157, hg156⟩ := hp151
      try simp only [show (0 : Int32).toInt = 0 by decide] at hv157
      have hF := hF.tr k153 (by decide)
      have c158 := k153.gi kC_at1 (by decide) c145
      have c159 := k153.gi kC_at1 (by decide) c146
      have c160 := k153.gi kC_at1 (by decide) c147
      obtain ⟨x154, c155, rx154, tx154⟩ := hg156
      replace hM := hM.call hv157 rfl
      refine lv_iconst (v := (-1)) hx hb dX6_readNumber_28 (by decide) ?_
      exact tk_iret hC hr hlocks hK ⟨hT, hF, hM.ret (by decide), (Or.inr ⟨rfl, ⟨x154, c155, (show 1 ≤ x154.toInt by first | with_reducible assumption | omega), (show x154.toInt ≤ 3205 by first | with_reducible assumption | omega)⟩⟩)⟩ hw dX6_readNumber_29
    · replace hM := hM.call (r' := 1) hv143 (by decide)
      refine lv_if_ne (tgt := 30) hx hb dX6_readNumber_16 (by decide) (fun _ => ?_) (fun c => absurd c (by decide))
      replace hM := hM.pos (by decide)
      refine lv_iconst (v := 0) hx hb dX6_readNumber_30 (by decide) ?_
      refine lv_istore_n (lv' := [(3, .int 0), (0, .ref (ad 1)), (1, .int 1), (2, .int 9)]) hx hb dX6_readNumber_31 rfl hl (by decide) rfl (fun ls hl => ?_)
      exact L32 ((400 - x127.toInt).toNat + 1) 0 x127 x129 x131 H locs ls w138 (show 0 ≤ x127.toInt by first | with_reducible assumption | omega) (show x127.toInt ≤ 400 by first | with_reducible assumption | omega) (show 1 ≤ x129.toInt by first | with_reducible assumption | omega) (show x129.toInt ≤ 400 by first | with_reducible assumption | omega) (show 0 ≤ x131.toInt by first | with_reducible assumption | omega) (show x131.toInt ≤ 399 by first | with_reducible assumption | omega) (Nat.lt_succ_self _) hw hT hF c145 c146 c147 c144 hM (lv_sub hl [1, 2, 3, 0] rfl)
  · replace hM := hM.call (r' := (-1)) hv134 (by decide)
    refine tk_Si hC hK hw hT hA hE hSR (kz_X6_isDigit_2 l adK adV dC dI cy ad B hB0 (Int.le_trans hB1 (by decide)) qr s1    w123 H.size hT ) (va_cwS 1 hC.2.2.2.2 uS_RX6_64 rfl rfl rfl (by decide +kernel) ⟨Nat.le_of_ble_eq_true rfl, Nat.le_of_ble_eq_true rfl⟩) rfl hl.1 rfl (Nat.le_of_ble_eq_true rfl) dX6_readNumber_13 (fun r161 w163 H locs hp162 hw => ?_)
    obtain ⟨hT, k164, hv166, hg165⟩ := hp162
    have hF := hF.tr k164 (by decide)
    have c167 := k164.gi kC_at1 (by decide) c135
    obtain rfl := hg165
    replace hM := hM.call (r' := 0) hv166 (by decide)
    refine lv_if_ne (tgt := 30) hx hb dX6_readNumber_16 (by decide) (fun c => absurd (by decide) c) (fun _ => ?_)
    replace hM := hM.neg (by decide)
    refine lv_aload_n hx hb dX6_readNumber_19 rfl (lv_at hl 0 rfl) ?_
    refine lv_aload_n hx hb dX6_readNumber_20 rfl (lv_at hl 0 rfl) ?_
    refine tk_geti hC hK hw hT hinX6 kC_at1 (by decide) rfl 3 (by decide) (List.mem_cons_of_mem _ uw_9_17) rfl rfl dX6_readNumber_21 (fun x168 c169 rx168 tx168 => ?_)
    replace hM := hM.rd (sI_at c169)
    refine lv_iconst (v := 0) hx hb dX6_readNumber_24 (by decide) ?_
    refine tk_Vv hC hK hw hT hA hE hSR kC_at1 (by decide) rfl (kz_X6_blame_2 l adK adV dC dI cy ad B hB0 (Int.le_trans hB1 (by decide)) qr s1   x168 (show 0 ≤ x168.toInt from rx168) (show x168.toInt ≤ 400 from tx168) 0 (by decide) (by decide) w163 H.size hT c167) (cwV 2 hC.2.2.2.2 uV_RX6_35 rfl rfl rfl (by decide +kernel) ⟨Nat.le_of_ble_eq_true rfl, Nat.le_of_ble_eq_true rfl⟩) rfl hl.1 rfl (Nat.le_of_ble_eq_true rfl) dX6_readNumber_25 (fun w172 H locs hp171 hw => ?_)
    obtain ⟨hT, k173, hv177, hg176⟩ := hp171
    try simp only [show (0 : Int32).toInt = 0 by decide] at hv177
    have hF := hF.tr k173 (by decide)
    have c178 := k173.gi kC_at1 (by decide) c169
    obtain ⟨x174, c175, rx174, tx174⟩ := hg176
    replace hM := hM.call hv177 rfl
    refine lv_iconst (v := (-1)) hx hb dX6_readNumber_28 (by decide) ?_
    exact tk_iret hC hr hlocks hK ⟨hT, hF, hM.ret (by decide), (Or.inr ⟨rfl, ⟨x174, c175, (show 1 ≤ x174.toInt by first | with_reducible assumption | omega), (show x174.toInt ≤ 3205 by first | with_reducible assumption | omega)⟩⟩)⟩ hw dX6_readNumber_29
abbrev Pz_X7_placeStreet_1 (ad : Nat → Nat) (cy : Nat → ClassId) (B : Int) (qr : Nat) (s1 : Int) (a1 : Int32) (a2 : Int32) (a3 : Int32) (a4 : Int32) (w0 : va_W) : va_W → Prop := fun u => TW ksC ad cy B qr s1 u ∧ FE ksC [(24, 0, 26), (25, 0, 13), (27, 0, 13), (28, 0, 26)] w0 u ∧ Ev (fun n => m_X7_placeStreet n 29 a1.toInt a2.toInt a3.toInt a4.toInt (sI w0)) (0, sI u) ∧ ((True))
set_option maxHeartbeats 4000000 in
set_option maxRecDepth 100000 in
theorem kz_X7_placeStreet_1 (l : Launch) (adK adV : Nat → Nat) (dC : Nat → ClassId) (dI : Nat → Nat → Nat) (cy : Nat → ClassId) (ad : Nat → Nat) (B : Int) (hB0 : 2147483648 ≤ B) (hB1 : B ≤ 1152921504606846976) (qr : Nat) (s1 : Int)  (a1 : Int32) (ra1 : 0 ≤ a1.toInt) (ta1 : a1.toInt ≤ 11) (a2 : Int32) (ra2 : 0 ≤ a2.toInt) (ta2 : a2.toInt ≤ 9) (a3 : Int32) (ra3 : 0 ≤ a3.toInt) (ta3 : a3.toInt ≤ 9) (a4 : Int32) (ra4 : 1 ≤ a4.toInt) (ta4 : a4.toInt ≤ 9) (w0 : va_W) (sz : Nat) (hT : TW ksC ad cy B qr s1 w0)  : Met l yX7_placeStreet (wu yX7_placeStreet cX7_placeStreet 5 none) ({ frames := 1, cells := 0, slots := 0, locals := 12 }) (va_Pc [.ref (ad 29), .int a1, .int a2, .int a3, .int a4] (wpreS adK adV dC dI cy sz w0)) (va_Qv (Pz_X7_placeStreet_1 ad cy B qr s1 a1 a2 a3 a4 w0) (fun u : va_W => wpost dC dI cy (va_A w0 sz) u) (va_A w0 sz)) 0 0 (va_A w0 sz) := by
  refine Met.ofW (cc := cX7_placeStreet) (maxL := 5) (ret := none) (by decide) rfl ?_
  intro p e s m args below meth c s₁ Bk hml hv
  obtain ⟨rfl, ⟨hsz, hP, hK, hD0⟩, hE, hSR⟩ := hv
  have hx := Bk.exec
  have hb := Bk.bytes
  have hr := Bk.returns
  have hlocks := Bk.notSynchronized
  have hC : CallFix p m c cX7_placeStreet 5 s _ (wu yX7_placeStreet cX7_placeStreet 5 none) RX7 := ⟨hx, hb, hml, findClass_of_methodNamed Bk.named, atoms_spec (ws := (wu yX7_placeStreet cX7_placeStreet 5 none)) Bk.pre⟩
  subst hsz
  have hD := hD0.self (sz := s.heap.size)
  generalize hAe : va_A w0 s.heap.size = A at hD hE ⊢
  have hA : ∀ q : Nat, s.heap.size ≤ q → A q := fun q h => by rw [← hAe]; exact Or.inr h
  have hw : Wd dC dI A s.heap s.heap [] w0 := ⟨hP, hD, va_S.rf⟩
  have hF : FE ksC [(24, 0, 26), (25, 0, 13), (27, 0, 13), (28, 0, 26)] w0 w0 := FE.rf
  have hl := lv_entry ([.ref (ad 29), .int a1, .int a2, .int a3, .int a4]) (n := 5) (Nat.le_of_ble_eq_true rfl)
  rw [lg_entry_eq]
  generalize (lg_sl ([.ref (ad 29), .int a1, .int a2, .int a3, .int a4]) ++ List.replicate (5 - (lg_sl ([.ref (ad 29), .int a1, .int a2, .int a3, .int a4])).length) Slot.unset).toArray = ls at hl ⊢
  have hl : lv_has ls 5 [(0, .ref (ad 29)), (1, .int a1), (2, .int a2), (3, .int a3), (4, .int a4)] := hl
  generalize hloc : ([] : List Loc) = locs at hw ⊢
  have hinX7 : ∀ w ∈ u_ws RX7 TX7 12, w ∈ (wu yX7_placeStreet cX7_placeStreet 5 none) := fun _ h => List.mem_cons_of_mem _ (up_73 h)
  have hM : TT (fun n => m_X7_placeStreet n 29 a1.toInt a2.toInt a3.toInt a4.toInt (sI w0)) (fun n => m_X7_placeStreet n 29 a1.toInt a2.toInt a3.toInt a4.toInt (sI w0)) := TT.rf
  refine lv_aload_n hx hb dX7_placeStreet_0 rfl (lv_at hl 0 rfl) ?_
  refine tk_getO hC hK hw hT hinX7 kC_at29 (by decide) rfl 0 (by decide) (List.mem_cons_of_mem _ uw_2_17) rfl rfl dX7_placeStreet_1 ?_
  refine lv_iconst (v := 2) hx hb dX7_placeStreet_4 (by decide) ?_
  refine lv_iload_n hx hb dX7_placeStreet_5 rfl (lv_at hl 1 rfl) ?_
  refine lv_imul hx hb dX7_placeStreet_6 ?_
  refine lv_topi (fun x1 ex1 => ?_)
  have ezx1 := ex1
  have ex1 : x1.toInt = (2 : Int) * a1.toInt := by rw [ex1]; exact wk_mul (show (-2147483648) ≤ (2 : Int) * a1.toInt by omega) (show (2 : Int) * a1.toInt ≤ 2147483647 by omega)
  replace hM := hM.lt ex1.symm
  refine lv_iload_n hx hb dX7_placeStreet_7 rfl (lv_at hl 2 rfl) ?_
  refine tk_iast hC hK hw hT kC_at30 (by decide) rfl rfl (show 0 ≤ x1.toInt by first | with_reducible assumption | omega) (show x1.toInt < 26 by first | with_reducible assumption | omega) (show 0 ≤ a2.toInt from ra2) (show a2.toInt ≤ 9 from ta2) dX7_placeStreet_8 (fun H locs w2 hw hT k4 c3 => ?_)
  replace hM := hM.wr (sI_up k4 c3)
  have hF := hF.put kC_at30 (inE_of (a := 0) (b := 26) (by decide) (show 0 ≤ x1.toInt.toNat by omega) (show x1.toInt.toNat ≤ 26 by omega)) k4
  refine lv_aload_n hx hb dX7_placeStreet_9 rfl (lv_at hl 0 rfl) ?_
  refine tk_getO hC hK hw hT hinX7 kC_at29 (by decide) rfl 0 (by decide) (List.mem_cons_of_mem _ uw_2_17) rfl rfl dX7_placeStreet_10 ?_
  refine lv_iconst (v := 2) hx hb dX7_placeStreet_13 (by decide) ?_
  refine lv_iload_n hx hb dX7_placeStreet_14 rfl (lv_at hl 1 rfl) ?_
  refine lv_imul hx hb dX7_placeStreet_15 ?_
  refine lv_topi (fun x5 ex5 => ?_)
  have ezx5 := ex5
  have ex5 : x5.toInt = (2 : Int) * a1.toInt := by rw [ex5]; exact wk_mul (show (-2147483648) ≤ (2 : Int) * a1.toInt by omega) (show (2 : Int) * a1.toInt ≤ 2147483647 by omega)
  replace hM := hM.lt ex5.symm
  refine lv_iconst (v := 1) hx hb dX7_placeStreet_16 (by decide) ?_
  refine lv_iadd hx hb dX7_placeStreet_17 ?_
  refine lv_topi (fun x6 ex6 => ?_)
  have ezx6 := ex6
  have ex6 : x6.toInt = x5.toInt + (1 : Int) := by rw [ex6]; exact wk_add (show (-2147483648) ≤ x5.toInt + (1 : Int) by omega) (show x5.toInt + (1 : Int) ≤ 2147483647 by omega)
  replace hM := hM.lt ex6.symm
  refine lv_iload_n hx hb dX7_placeStreet_18 rfl (lv_at hl 3 rfl) ?_
  refine tk_iast hC hK hw hT kC_at30 (by decide) rfl rfl (show 0 ≤ x6.toInt by first | with_reducible assumption | omega) (show x6.toInt < 26 by first | with_reducible assumption | omega) (show 0 ≤ a3.toInt from ra3) (show a3.toInt ≤ 9 from ta3) dX7_placeStreet_19 (fun H locs w7 hw hT k9 c8 => ?_)
  replace hM := hM.wr (sI_up k9 c8)
  have hF := hF.put kC_at30 (inE_of (a := 0) (b := 26) (by decide) (show 0 ≤ x6.toInt.toNat by omega) (show x6.toInt.toNat ≤ 26 by omega)) k9
  refine lv_aload_n hx hb dX7_placeStreet_20 rfl (lv_at hl 0 rfl) ?_
  refine tk_getO hC hK hw hT hinX7 kC_at29 (by decide) rfl 1 (by decide) (List.mem_cons_of_mem _ uw_2_18) rfl rfl dX7_placeStreet_21 ?_
  refine lv_iload_n hx hb dX7_placeStreet_24 rfl (lv_at hl 1 rfl) ?_
  refine lv_iload hx hb dX7_placeStreet_25 (lv_at hl 4 rfl) ?_
  refine tk_iast hC hK hw hT kC_at31 (by decide) rfl rfl (show 0 ≤ a1.toInt from ra1) (show a1.toInt < 13 from Int.lt_of_le_of_lt ta1 (by decide)) (show 0 ≤ a4.toInt from Int.le_trans (by decide) ra4) (show a4.toInt ≤ 9 from ta4) dX7_placeStreet_27 (fun H locs w10 hw hT k12 c11 => ?_)
  replace hM := hM.wr (sI_up k12 c11)
  have hF := hF.put kC_at31 (inE_of (a := 0) (b := 13) (by decide) (show 0 ≤ a1.toInt.toNat by omega) (show a1.toInt.toNat ≤ 13 by omega)) k12
  refine lv_aload_n hx hb dX7_placeStreet_28 rfl (lv_at hl 0 rfl) ?_
  refine tk_getO hC hK hw hT hinX7 kC_at29 (by decide) rfl 3 (by decide) (List.mem_cons_of_mem _ uw_2_20) rfl rfl dX7_placeStreet_29 ?_
  refine lv_iload_n hx hb dX7_placeStreet_32 rfl (lv_at hl 1 rfl) ?_
  refine lv_iconst (v := 0) hx hb dX7_placeStreet_33 (by decide) ?_
  refine tk_iast hC hK hw hT kC_at33 (by decide) rfl rfl (show 0 ≤ a1.toInt from ra1) (show a1.toInt < 13 from Int.lt_of_le_of_lt ta1 (by decide)) (by decide) (by decide) dX7_placeStreet_34 (fun H locs w13 hw hT k15 c14 => ?_)
  replace hM := hM.wr (sI_upc k15 c14 (by decide))
  have hF := hF.put kC_at33 (inE_of (a := 0) (b := 13) (by decide) (show 0 ≤ a1.toInt.toNat by omega) (show a1.toInt.toNat ≤ 13 by omega)) k15
  refine lv_aload_n hx hb dX7_placeStreet_35 rfl (lv_at hl 0 rfl) ?_
  refine tk_getO hC hK hw hT hinX7 kC_at29 (by decide) rfl 4 (by decide) (List.mem_cons_of_mem _ uw_2_21) rfl rfl dX7_placeStreet_36 ?_
  refine lv_iconst (v := 2) hx hb dX7_placeStreet_39 (by decide) ?_
  refine lv_iload_n hx hb dX7_placeStreet_40 rfl (lv_at hl 1 rfl) ?_
  refine lv_imul hx hb dX7_placeStreet_41 ?_
  refine lv_topi (fun x16 ex16 => ?_)
  have ezx16 := ex16
  have ex16 : x16.toInt = (2 : Int) * a1.toInt := by rw [ex16]; exact wk_mul (show (-2147483648) ≤ (2 : Int) * a1.toInt by omega) (show (2 : Int) * a1.toInt ≤ 2147483647 by omega)
  replace hM := hM.lt ex16.symm
  refine lv_iconst (v := 0) hx hb dX7_placeStreet_42 (by decide) ?_
  refine tk_iast hC hK hw hT kC_at34 (by decide) rfl rfl (show 0 ≤ x16.toInt by first | with_reducible assumption | omega) (show x16.toInt < 26 by first | with_reducible assumption | omega) (by decide) (by decide) dX7_placeStreet_43 (fun H locs w17 hw hT k19 c18 => ?_)
  replace hM := hM.wr (sI_upc k19 c18 (by decide))
  have hF := hF.put kC_at34 (inE_of (a := 0) (b := 26) (by decide) (show 0 ≤ x16.toInt.toNat by omega) (show x16.toInt.toNat ≤ 26 by omega)) k19
  refine lv_aload_n hx hb dX7_placeStreet_44 rfl (lv_at hl 0 rfl) ?_
  refine tk_getO hC hK hw hT hinX7 kC_at29 (by decide) rfl 4 (by decide) (List.mem_cons_of_mem _ uw_2_21) rfl rfl dX7_placeStreet_45 ?_
  refine lv_iconst (v := 2) hx hb dX7_placeStreet_48 (by decide) ?_
  refine lv_iload_n hx hb dX7_placeStreet_49 rfl (lv_at hl 1 rfl) ?_
  refine lv_imul hx hb dX7_placeStreet_50 ?_
  refine lv_topi (fun x20 ex20 => ?_)
  have ezx20 := ex20
  have ex20 : x20.toInt = (2 : Int) * a1.toInt := by rw [ex20]; exact wk_mul (show (-2147483648) ≤ (2 : Int) * a1.toInt by omega) (show (2 : Int) * a1.toInt ≤ 2147483647 by omega)
  replace hM := hM.lt ex20.symm
  refine lv_iconst (v := 1) hx hb dX7_placeStreet_51 (by decide) ?_
  refine lv_iadd hx hb dX7_placeStreet_52 ?_
  refine lv_topi (fun x21 ex21 => ?_)
  have ezx21 := ex21
  have ex21 : x21.toInt = x20.toInt + (1 : Int) := by rw [ex21]; exact wk_add (show (-2147483648) ≤ x20.toInt + (1 : Int) by omega) (show x20.toInt + (1 : Int) ≤ 2147483647 by omega)
  replace hM := hM.lt ex21.symm
  refine lv_iconst (v := 0) hx hb dX7_placeStreet_53 (by decide) ?_
  refine tk_iast hC hK hw hT kC_at34 (by decide) rfl rfl (show 0 ≤ x21.toInt by first | with_reducible assumption | omega) (show x21.toInt < 26 by first | with_reducible assumption | omega) (by decide) (by decide) dX7_placeStreet_54 (fun H locs w22 hw hT k24 c23 => ?_)
  replace hM := hM.wr (sI_upc k24 c23 (by decide))
  have hF := hF.put kC_at34 (inE_of (a := 0) (b := 26) (by decide) (show 0 ≤ x21.toInt.toNat by omega) (show x21.toInt.toNat ≤ 26 by omega)) k24
  exact tk_vret hC hr hlocks hK ⟨hT, hF, hM.ret rfl, trivial⟩ hw dX7_placeStreet_55
abbrev Pz_X7_placeSign_1 (ad : Nat → Nat) (cy : Nat → ClassId) (B : Int) (qr : Nat) (s1 : Int) (a1 : Int32) (a2 : Int32) (a3 : Int32) (w0 : va_W) : va_W → Prop := fun u => TW ksC ad cy B qr s1 u ∧ FE ksC [(26, 0, 91), (28, 0, 26)] w0 u ∧ Ev (fun n => m_X7_placeSign n 29 a1.toInt a2.toInt a3.toInt (sI w0)) (0, sI u) ∧ ((True))
set_option maxHeartbeats 4000000 in
set_option maxRecDepth 100000 in
theorem kz_X7_placeSign_1 (l : Launch) (adK adV : Nat → Nat) (dC : Nat → ClassId) (dI : Nat → Nat → Nat) (cy : Nat → ClassId) (ad : Nat → Nat) (B : Int) (hB0 : 2147483648 ≤ B) (hB1 : B ≤ 1152921504606846976) (qr : Nat) (s1 : Int)  (a1 : Int32) (ra1 : 0 ≤ a1.toInt) (ta1 : a1.toInt ≤ 11) (a2 : Int32) (ra2 : 0 ≤ a2.toInt) (ta2 : a2.toInt ≤ 6) (a3 : Int32) (ra3 : 0 ≤ a3.toInt) (ta3 : a3.toInt ≤ 3) (w0 : va_W) (sz : Nat) (hT : TW ksC ad cy B qr s1 w0)  : Met l yX7_placeSign (wu yX7_placeSign cX7_placeSign 4 none) ({ frames := 1, cells := 0, slots := 0, locals := 12 }) (va_Pc [.ref (ad 29), .int a1, .int a2, .int a3] (wpreS adK adV dC dI cy sz w0)) (va_Qv (Pz_X7_placeSign_1 ad cy B qr s1 a1 a2 a3 w0) (fun u : va_W => wpost dC dI cy (va_A w0 sz) u) (va_A w0 sz)) 0 0 (va_A w0 sz) := by
  refine Met.ofW (cc := cX7_placeSign) (maxL := 4) (ret := none) (by decide) rfl ?_
  intro p e s m args below meth c s₁ Bk hml hv
  obtain ⟨rfl, ⟨hsz, hP, hK, hD0⟩, hE, hSR⟩ := hv
  have hx := Bk.exec
  have hb := Bk.bytes
  have hr := Bk.returns
  have hlocks := Bk.notSynchronized
  have hC : CallFix p m c cX7_placeSign 4 s _ (wu yX7_placeSign cX7_placeSign 4 none) RX7 := ⟨hx, hb, hml, findClass_of_methodNamed Bk.named, atoms_spec (ws := (wu yX7_placeSign cX7_placeSign 4 none)) Bk.pre⟩
  subst hsz
  have hD := hD0.self (sz := s.heap.size)
  generalize hAe : va_A w0 s.heap.size = A at hD hE ⊢
  have hA : ∀ q : Nat, s.heap.size ≤ q → A q := fun q h => by rw [← hAe]; exact Or.inr h
  have hw : Wd dC dI A s.heap s.heap [] w0 := ⟨hP, hD, va_S.rf⟩
  have hF : FE ksC [(26, 0, 91), (28, 0, 26)] w0 w0 := FE.rf
  have hl := lv_entry ([.ref (ad 29), .int a1, .int a2, .int a3]) (n := 4) (Nat.le_of_ble_eq_true rfl)
  rw [lg_entry_eq]
  generalize (lg_sl ([.ref (ad 29), .int a1, .int a2, .int a3]) ++ List.replicate (4 - (lg_sl ([.ref (ad 29), .int a1, .int a2, .int a3])).length) Slot.unset).toArray = ls at hl ⊢
  have hl : lv_has ls 4 [(0, .ref (ad 29)), (1, .int a1), (2, .int a2), (3, .int a3)] := hl
  generalize hloc : ([] : List Loc) = locs at hw ⊢
  have hinX7 : ∀ w ∈ u_ws RX7 TX7 12, w ∈ (wu yX7_placeSign cX7_placeSign 4 none) := fun _ h => List.mem_cons_of_mem _ (up_73 h)
  have hM : TT (fun n => m_X7_placeSign n 29 a1.toInt a2.toInt a3.toInt (sI w0)) (fun n => m_X7_placeSign n 29 a1.toInt a2.toInt a3.toInt (sI w0)) := TT.rf
  refine lv_aload_n hx hb dX7_placeSign_0 rfl (lv_at hl 0 rfl) ?_
  refine tk_getO hC hK hw hT hinX7 kC_at29 (by decide) rfl 2 (by decide) (List.mem_cons_of_mem _ uw_2_19) rfl rfl dX7_placeSign_1 ?_
  refine lv_bipush (v := 7) hx hb dX7_placeSign_4 (by decide) ?_
  refine lv_iload_n hx hb dX7_placeSign_6 rfl (lv_at hl 1 rfl) ?_
  refine lv_imul hx hb dX7_placeSign_7 ?_
  refine lv_topi (fun x1 ex1 => ?_)
  have ezx1 := ex1
  have ex1 : x1.toInt = (7 : Int) * a1.toInt := by rw [ex1]; exact wk_mul (show (-2147483648) ≤ (7 : Int) * a1.toInt by omega) (show (7 : Int) * a1.toInt ≤ 2147483647 by omega)
  replace hM := hM.lt ex1.symm
  refine lv_iload_n hx hb dX7_placeSign_8 rfl (lv_at hl 2 rfl) ?_
  refine lv_iadd hx hb dX7_placeSign_9 ?_
  refine lv_topi (fun x2 ex2 => ?_)
  have ezx2 := ex2
  have ex2 : x2.toInt = x1.toInt + a2.toInt := by rw [ex2]; exact wk_add (show (-2147483648) ≤ x1.toInt + a2.toInt by omega) (show x1.toInt + a2.toInt ≤ 2147483647 by omega)
  replace hM := hM.lt ex2.symm
  refine lv_iload_n hx hb dX7_placeSign_10 rfl (lv_at hl 3 rfl) ?_
  refine tk_iast hC hK hw hT kC_at32 (by decide) rfl rfl (show 0 ≤ x2.toInt by first | with_reducible assumption | omega) (show x2.toInt < 91 by first | with_reducible assumption | omega) (show 0 ≤ a3.toInt from ra3) (show a3.toInt ≤ 3 from ta3) dX7_placeSign_11 (fun H locs w3 hw hT k5 c4 => ?_)
  replace hM := hM.wr (sI_up k5 c4)
  have hF := hF.put kC_at32 (inE_of (a := 0) (b := 91) (by decide) (show 0 ≤ x2.toInt.toNat by omega) (show x2.toInt.toNat ≤ 91 by omega)) k5
  refine lv_aload_n hx hb dX7_placeSign_12 rfl (lv_at hl 0 rfl) ?_
  refine tk_getO hC hK hw hT hinX7 kC_at29 (by decide) rfl 4 (by decide) (List.mem_cons_of_mem _ uw_2_21) rfl rfl dX7_placeSign_13 ?_
  refine lv_iconst (v := 2) hx hb dX7_placeSign_16 (by decide) ?_
  refine lv_iload_n hx hb dX7_placeSign_17 rfl (lv_at hl 1 rfl) ?_
  refine lv_imul hx hb dX7_placeSign_18 ?_
  refine lv_topi (fun x6 ex6 => ?_)
  have ezx6 := ex6
  have ex6 : x6.toInt = (2 : Int) * a1.toInt := by rw [ex6]; exact wk_mul (show (-2147483648) ≤ (2 : Int) * a1.toInt by omega) (show (2 : Int) * a1.toInt ≤ 2147483647 by omega)
  replace hM := hM.lt ex6.symm
  refine lv_dup2_11 hx hb dX7_placeSign_19 rfl rfl ?_
  refine tk_iald hC hK hw hT kC_at34 rfl rfl (show 0 ≤ x6.toInt by first | with_reducible assumption | omega) (show x6.toInt < 26 by first | with_reducible assumption | omega) dX7_placeSign_20 (fun x7 c8 rx7 tx7 => ?_)
  have hox7 := c8
  replace hM := hM.rd (sI_at hox7)
  refine lv_iload_n hx hb dX7_placeSign_21 rfl (lv_at hl 3 rfl) ?_
  refine lv_iconst (v := 1) hx hb dX7_placeSign_22 (by decide) ?_
  refine lv_iand hx hb dX7_placeSign_23 ?_
  refine lv_topi (fun x9 ex9 => ?_)
  have ezx9 := ex9
  have bx9 : 0 ≤ x9.toInt ∧ x9.toInt ≤ (1 : Int) := by rw [ex9]; exact wk_and (by decide)
  replace hM := hM.lt (o32_e (f := fun x y => x &&& y) ezx9 rfl (by decide))
  refine lv_iload_n hx hb dX7_placeSign_24 rfl (lv_at hl 2 rfl) ?_
  refine lv_ishl hx hb dX7_placeSign_25 ?_
  refine lv_topi (fun x10 ex10 => ?_)
  have ezx10 := ex10
  replace hM := hM.lt (o32_e (f := fun x y => x <<< (y &&& 31)) ezx10 rfl rfl)
  refine lv_ior hx hb dX7_placeSign_26 ?_
  refine lv_topi (fun x11 ex11 => ?_)
  have ezx11 := ex11
  replace hM := hM.lt (o32_e (f := fun x y => x ||| y) ezx11 rfl rfl)
  refine tk_iast hC hK hw hT kC_at34 (by decide) rfl rfl (show 0 ≤ x6.toInt by first | with_reducible assumption | omega) (show x6.toInt < 26 by first | with_reducible assumption | omega) (wk_i32 x11).1 (wk_i32 x11).2 dX7_placeSign_27 (fun H locs w12 hw hT k14 c13 => ?_)
  replace hM := hM.wr (sI_up k14 c13)
  have hF := hF.put kC_at34 (inE_of (a := 0) (b := 26) (by decide) (show 0 ≤ x6.toInt.toNat by omega) (show x6.toInt.toNat ≤ 26 by omega)) k14
  refine lv_aload_n hx hb dX7_placeSign_28 rfl (lv_at hl 0 rfl) ?_
  refine tk_getO hC hK hw hT hinX7 kC_at29 (by decide) rfl 4 (by decide) (List.mem_cons_of_mem _ uw_2_21) rfl rfl dX7_placeSign_29 ?_
  refine lv_iconst (v := 2) hx hb dX7_placeSign_32 (by decide) ?_
  refine lv_iload_n hx hb dX7_placeSign_33 rfl (lv_at hl 1 rfl) ?_
  refine lv_imul hx hb dX7_placeSign_34 ?_
  refine lv_topi (fun x15 ex15 => ?_)
  have ezx15 := ex15
  have ex15 : x15.toInt = (2 : Int) * a1.toInt := by rw [ex15]; exact wk_mul (show (-2147483648) ≤ (2 : Int) * a1.toInt by omega) (show (2 : Int) * a1.toInt ≤ 2147483647 by omega)
  replace hM := hM.lt ex15.symm
  refine lv_iconst (v := 1) hx hb dX7_placeSign_35 (by decide) ?_
  refine lv_iadd hx hb dX7_placeSign_36 ?_
  refine lv_topi (fun x16 ex16 => ?_)
  have ezx16 := ex16
  have ex16 : x16.toInt = x15.toInt + (1 : Int) := by rw [ex16]; exact wk_add (show (-2147483648) ≤ x15.toInt + (1 : Int) by omega) (show x15.toInt + (1 : Int) ≤ 2147483647 by omega)
  replace hM := hM.lt ex16.symm
  refine lv_dup2_11 hx hb dX7_placeSign_37 rfl rfl ?_
  refine tk_iald hC hK hw hT kC_at34 rfl rfl (show 0 ≤ x16.toInt by first | with_reducible assumption | omega) (show x16.toInt < 26 by first | with_reducible assumption | omega) dX7_placeSign_38 (fun x17 c18 rx17 tx17 => ?_)
  have hox17 := c18
  replace hM := hM.rd (sI_at hox17)
  refine lv_iload_n hx hb dX7_placeSign_39 rfl (lv_at hl 3 rfl) ?_
  refine lv_iconst (v := 1) hx hb dX7_placeSign_40 (by decide) ?_
  refine lv_ishr hx hb dX7_placeSign_41 ?_
  refine lv_topi (fun x19 ex19 => ?_)
  have ezx19 := ex19
  have bx19 : 0 ≤ x19.toInt ∧ x19.toInt ≤ a3.toInt := by rw [ex19]; exact wk_shr (by omega)
  replace hM := hM.lt (o32_e (f := fun x y => x >>> (y &&& 31)) ezx19 rfl (by decide))
  refine lv_iload_n hx hb dX7_placeSign_42 rfl (lv_at hl 2 rfl) ?_
  refine lv_ishl hx hb dX7_placeSign_43 ?_
  refine lv_topi (fun x20 ex20 => ?_)
  have ezx20 := ex20
  replace hM := hM.lt (o32_e (f := fun x y => x <<< (y &&& 31)) ezx20 rfl rfl)
  refine lv_ior hx hb dX7_placeSign_44 ?_
  refine lv_topi (fun x21 ex21 => ?_)
  have ezx21 := ex21
  replace hM := hM.lt (o32_e (f := fun x y => x ||| y) ezx21 rfl rfl)
  refine tk_iast hC hK hw hT kC_at34 (by decide) rfl rfl (show 0 ≤ x16.toInt by first | with_reducible assumption | omega) (show x16.toInt < 26 by first | with_reducible assumption | omega) (wk_i32 x21).1 (wk_i32 x21).2 dX7_placeSign_45 (fun H locs w22 hw hT k24 c23 => ?_)
  replace hM := hM.wr (sI_up k24 c23)
  have hF := hF.put kC_at34 (inE_of (a := 0) (b := 26) (by decide) (show 0 ≤ x16.toInt.toNat by omega) (show x16.toInt.toNat ≤ 26 by omega)) k24
  exact tk_vret hC hr hlocks hK ⟨hT, hF, hM.ret rfl, trivial⟩ hw dX7_placeSign_46
abbrev Pz_X7_readSigns_1 (ad : Nat → Nat) (cy : Nat → ClassId) (B : Int) (qr : Nat) (s1 : Int)  (w0 : va_W) : va_W → Prop := fun u => TW ksC ad cy B qr s1 u ∧ FE ksC [(6, 1, 1), (6, 3, 3), (6, 4, 4), (26, 0, 91), (28, 0, 26)] w0 u ∧ Ev (fun n => m_X7_readSigns n 29 1 (sI w0)) (0, sI u) ∧ (((∃ y : Int32, gi u 1 4 = y ∧ 1 ≤ y.toInt ∧ y.toInt ≤ 3205) ∧ (∃ y : Int32, gi u 29 9 = y ∧ 0 ≤ y.toInt ∧ y.toInt ≤ 11)) ∨ ((∃ y : Int32, gi u 1 4 = y ∧ 0 ≤ y.toInt ∧ y.toInt ≤ 0) ∧ (∃ y : Int32, gi u 29 9 = y ∧ 0 ≤ y.toInt ∧ y.toInt ≤ 11)))
set_option maxHeartbeats 4000000 in
set_option maxRecDepth 100000 in
theorem kz_X7_readSigns_1 (l : Launch) (adK adV : Nat → Nat) (dC : Nat → ClassId) (dI : Nat → Nat → Nat) (cy : Nat → ClassId) (ad : Nat → Nat) (B : Int) (hB0 : 2147483648 ≤ B) (hB1 : B ≤ 1152921504606846976) (qr : Nat) (s1 : Int)   (w0 : va_W) (sz : Nat) (hT : TW ksC ad cy B qr s1 w0) (cf0_ : gi w0 1 4 = 0) (f1_ : Int32) (cf1_ : gi w0 29 9 = f1_) (rf1_ : 0 ≤ f1_.toInt) (tf1_ : f1_.toInt ≤ 11) : Met l yX7_readSigns (wu yX7_readSigns cX7_readSigns 5 none) ({ frames := 5, cells := 0, slots := 0, locals := 161 }) (va_Pc [.ref (ad 29), .ref (ad 1)] (wpreS adK adV dC dI cy sz w0)) (va_Qv (Pz_X7_readSigns_1 ad cy B qr s1  w0) (fun u : va_W => wpost dC dI cy (va_A w0 sz) u) (va_A w0 sz)) 0 0 (va_A w0 sz) := by
  refine Met.ofW (cc := cX7_readSigns) (maxL := 5) (ret := none) (by decide) rfl ?_
  intro p e s m args below meth c s₁ Bk hml hv
  obtain ⟨rfl, ⟨hsz, hP, hK, hD0⟩, hE, hSR⟩ := hv
  have hx := Bk.exec
  have hb := Bk.bytes
  have hr := Bk.returns
  have hlocks := Bk.notSynchronized
  have hC : CallFix p m c cX7_readSigns 5 s _ (wu yX7_readSigns cX7_readSigns 5 none) RX7 := ⟨hx, hb, hml, findClass_of_methodNamed Bk.named, atoms_spec (ws := (wu yX7_readSigns cX7_readSigns 5 none)) Bk.pre⟩
  subst hsz
  have hD := hD0.self (sz := s.heap.size)
  generalize hAe : va_A w0 s.heap.size = A at hD hE ⊢
  have hA : ∀ q : Nat, s.heap.size ≤ q → A q := fun q h => by rw [← hAe]; exact Or.inr h
  have hw : Wd dC dI A s.heap s.heap [] w0 := ⟨hP, hD, va_S.rf⟩
  have hF : FE ksC [(6, 1, 1), (6, 3, 3), (6, 4, 4), (26, 0, 91), (28, 0, 26)] w0 w0 := FE.rf
  have hl := lv_entry ([.ref (ad 29), .ref (ad 1)]) (n := 5) (Nat.le_of_ble_eq_true rfl)
  rw [lg_entry_eq]
  generalize (lg_sl ([.ref (ad 29), .ref (ad 1)]) ++ List.replicate (5 - (lg_sl ([.ref (ad 29), .ref (ad 1)])).length) Slot.unset).toArray = ls at hl ⊢
  have hl : lv_has ls 5 [(0, .ref (ad 29)), (1, .ref (ad 1))] := hl
  generalize hloc : ([] : List Loc) = locs at hw ⊢
  have hinX7 : ∀ w ∈ u_ws RX7 TX7 12, w ∈ (wu yX7_readSigns cX7_readSigns 5 none) := fun _ h => List.mem_cons_of_mem _ (up_73 h)
  have L7 : ∀ (n7 : Nat) (v7_2 : Int32) (H : Heap) (locs : List Loc) (ls : Array Slot) (w1 : va_W), 0 ≤ v7_2.toInt → v7_2.toInt ≤ 7 → 0 ≤ f1_.toInt → f1_.toInt ≤ 11 → (7 - v7_2.toInt).toNat < n7 → Wd dC dI A s.heap H locs w1 → TW ksC ad cy B qr s1 w1 → FE ksC [(6, 1, 1), (6, 3, 3), (6, 4, 4), (26, 0, 91), (28, 0, 26)] w0 w1 → gi w1 1 4 = 0 → gi w1 29 9 = f1_ → TT (fun n => m_X7_readSigns n 29 1 (sI w0)) (fun n => j_X7_readSigns 29 1 n 7 [v7_2.toInt] (sI w1)) → lv_has ls 5 [(0, .ref (ad 29)), (1, .ref (ad 1)), (2, .int v7_2)] → W p l e ({ frames := 5, cells := 0, slots := 0, locals := 161 }) s m (List.toArray [.ref (ad 29), .ref (ad 1)]) below meth c H locs 0 0 (MQ below (va_Qv (Pz_X7_readSigns_1 ad cy B qr s1  w0) (fun u : va_W => wpost dC dI cy A u) A) (List.toArray [.ref (ad 29), .ref (ad 1)]) s 0 0 A) (F0 m 7 ls []) := by
    intro n7
    induction n7 with
    | zero => intro v7_2 H locs ls w1 r2 t3 r5 t6 hm7 hw hT hF c4 c7 hM hl; omega
    | succ n7 ih7 =>
      intro v7_2 H locs ls w1 r2 t3 r5 t6 hm7 hw hT hF c4 c7 hM hl
      replace hM := hM.suc (fun _ => e_X7_readSigns_7)
      refine lv_iload_n hx hb dX7_readSigns_7 rfl (lv_at hl 2 rfl) ?_
      refine lv_bipush (v := 7) hx hb dX7_readSigns_8 (by decide) ?_
      refine lv_icmp_ge (tgt := 67) hx hb dX7_readSigns_10 (by decide) (fun c8 => ?_) (fun c8 => ?_)
      · have c8 : (7 : Int) ≤ v7_2.toInt := wk_le.mp c8
        replace hM := hM.pos c8
        exact tk_vret hC hr hlocks hK ⟨hT, hF, hM.ret rfl, (Or.inr ⟨⟨0, c4, (by decide), (by decide)⟩, ⟨f1_, c7, (show 0 ≤ f1_.toInt from r5), (show f1_.toInt ≤ 11 from t6)⟩⟩)⟩ hw dX7_readSigns_67
      · have c8 : v7_2.toInt < (7 : Int) := wk_leF c8
        replace hM := hM.neg (Int.not_le.mpr c8)
        refine lv_aload_n hx hb dX7_readSigns_13 rfl (lv_at hl 1 rfl) ?_
        refine tk_Vi hC hK hw hT hA hE hSR kC_at1 (by decide) rfl (kz_X6_look_1 l adK adV dC dI cy ad B hB0 (Int.le_trans hB1 (by decide)) qr s1    w1 H.size hT ) (cwV 0 hC.2.2.2.2 uV_RX7_117 rfl rfl rfl (by decide +kernel) ⟨Nat.le_of_ble_eq_true rfl, Nat.le_of_ble_eq_true rfl⟩) rfl hl.1 rfl (Nat.le_of_ble_eq_true rfl) dX7_readSigns_14 (fun r9 w11 H locs hp10 hw => ?_)
        obtain ⟨hT, k12, hv20, hg19⟩ := hp10
        have hF := hF.tr k12 (by decide)
        have c21 := k12.gi kC_at1 (by decide) c4
        have c22 := k12.gi kC_at29 (by decide) c7
        rcases hg19 with ⟨g13, g14, ⟨x15, c16, rx15, tx15⟩, ⟨x17, c18, rx17, tx17⟩⟩ | rfl
        · replace hM := hM.call hv20 rfl
          refine lv_istore_n (lv' := [(3, .int r9), (0, .ref (ad 29)), (1, .ref (ad 1)), (2, .int v7_2)]) hx hb dX7_readSigns_17 rfl hl (by decide) rfl (fun ls hl => ?_)
          refine lv_iload_n hx hb dX7_readSigns_18 rfl (lv_at hl 0 rfl) ?_
          refine lv_iconst (v := (-1)) hx hb dX7_readSigns_19 (by decide) ?_
          refine lv_icmp_ne (tgt := 27) hx hb dX7_readSigns_20 (by decide) (fun _ => ?_) (fun c => absurd (show r9.toInt = (-1 : Int) from wk_eq.mp c) (by omega))
          replace hM := hM.pos (by omega)
          refine va_ldcS hx hb hC.2.2.2.1 hSR.2.1 dX7_readSigns_27 ?_
          refine lv_iload_n hx hb dX7_readSigns_29 rfl (lv_at hl 0 rfl) ?_
          refine lv_i2c hx hb dX7_readSigns_30 rfl ?_
          refine lv_topi (fun x23 ex23 => ?_)
          have eix23 : x23.toInt = r9.toInt := i2c_id ex23 (by omega) (by omega)
          replace hM := hM.lt eix23.symm
          refine tk_ViT hC hK hw hA hE hSR (x_io l adK adV dC dI cy x23 H.size) (cwV 1 hC.2.2.2.2 uV_RX7_122 rfl rfl rfl (by decide +kernel) ⟨Nat.le_of_ble_eq_true rfl, Nat.le_of_ble_eq_true rfl⟩) 1 (by decide) rfl rfl rfl hl.1 rfl (Nat.le_of_ble_eq_true rfl) dX7_readSigns_31 (fun r24 H locs hp25 hw => ?_)
          obtain ⟨-, uhp25, vhp25, whp25⟩ := hp25
          replace hM := hM.lt (whp25 (by omega) (by omega))
          refine lv_istore (lv' := [(4, .int r24), (3, .int r9), (0, .ref (ad 29)), (1, .ref (ad 1)), (2, .int v7_2)]) hx hb dX7_readSigns_34 hl (by decide) rfl (fun ls hl => ?_)
          refine lv_iload hx hb dX7_readSigns_36 (lv_at hl 0 rfl) ?_
          refine lv_if_ge (tgt := 46) hx hb dX7_readSigns_38 (by decide) (fun c26 => ?_) (fun c26 => ?_)
          · have c26 : (0 : Int) ≤ r24.toInt := wk_le.mp c26
            replace hM := hM.pos c26
            refine lv_aload_n hx hb dX7_readSigns_46 rfl (lv_at hl 3 rfl) ?_
            refine tk_Vv hC hK hw hT hA hE hSR kC_at1 (by decide) rfl (kz_X6_pass_1 l adK adV dC dI cy ad B hB0 (Int.le_trans hB1 (by decide)) qr s1    w11 H.size hT ) (cwV 0 hC.2.2.2.2 uV_RX7_131 rfl rfl rfl (by decide +kernel) ⟨Nat.le_of_ble_eq_true rfl, Nat.le_of_ble_eq_true rfl⟩) rfl hl.1 rfl (Nat.le_of_ble_eq_true rfl) dX7_readSigns_47 (fun w29 H locs hp28 hw => ?_)
            obtain ⟨hT, k30, hv32, hg31⟩ := hp28
            have hF := hF.tr k30 (by decide)
            have c33 := k30.gi kC_at1 (by decide) c21
            have c34 := k30.gi kC_at29 (by decide) c22
            have c35 := k30.gi kC_at1 (by decide) c18
            clear hg31
            replace hM := hM.call hv32 rfl
            refine lv_aload_n hx hb dX7_readSigns_50 rfl (lv_at hl 2 rfl) ?_
            refine lv_aload_n hx hb dX7_readSigns_51 rfl (lv_at hl 2 rfl) ?_
            refine tk_geti hC hK hw hT hinX7 kC_at29 (by decide) rfl 9 (by decide) (List.mem_cons_of_mem _ uw_9_8) rfl rfl dX7_readSigns_52 (fun x36 c37 rx36 tx36 => ?_)
            refine wk_top f1_ (c37.symm.trans c34) ?_
            replace hM := hM.rd (sI_at c34)
            refine lv_iload_n hx hb dX7_readSigns_55 rfl (lv_at hl 4 rfl) ?_
            refine lv_iload hx hb dX7_readSigns_56 (lv_at hl 0 rfl) ?_
            refine tk_Vv hC hK hw hT hA hE hSR kC_at29 (by decide) rfl (kz_X7_placeSign_1 l adK adV dC dI cy ad B hB0 (Int.le_trans hB1 (by decide)) qr s1   f1_ (show 0 ≤ f1_.toInt from r5) (show f1_.toInt ≤ 11 from t6) v7_2 (show 0 ≤ v7_2.toInt from r2) (show v7_2.toInt ≤ 6 by first | with_reducible assumption | omega) r24 (show 0 ≤ r24.toInt by first | with_reducible assumption | omega) (show r24.toInt ≤ 3 by first | with_reducible assumption | omega) w29 H.size hT ) (cwV 3 hC.2.2.2.2 uV_RX7_134 rfl rfl rfl (by decide +kernel) ⟨Nat.le_of_ble_eq_true rfl, Nat.le_of_ble_eq_true rfl⟩) rfl hl.1 rfl (Nat.le_of_ble_eq_true rfl) dX7_readSigns_58 (fun w40 H locs hp39 hw => ?_)
            obtain ⟨hT, k41, hv43, hg42⟩ := hp39
            have hF := hF.tr k41 (by decide)
            have c44 := k41.gi kC_at1 (by decide) c33
            have c45 := k41.gi kC_at29 (by decide) c34
            have c46 := k41.gi kC_at1 (by decide) c35
            clear hg42
            replace hM := hM.call hv43 rfl
            obtain ⟨x47, ex47⟩ : ∃ y : Int32, y = v7_2 + Int32.ofInt 1 := ⟨_, rfl⟩
            have erx47 := ex47
            refine lv_iinc (v := x47) (lv' := [(2, .int x47), (4, .int r24), (3, .int r9), (0, .ref (ad 29)), (1, .ref (ad 1))]) hx hb dX7_readSigns_61 hl (k := 4) rfl ex47.symm (by decide) rfl (fun ls hl => ?_)
            have ex47 : x47.toInt = v7_2.toInt + 1 := by rw [ex47]; exact wk_add (y := 1) (show -2147483648 ≤ v7_2.toInt + 1 by omega) (show v7_2.toInt + 1 ≤ 2147483647 by omega)
            replace hM := hM.lt ex47.symm
            refine lv_goto (tgt := 7) hx hb dX7_readSigns_64 (by decide) ?_
            exact ih7 x47 H locs ls w40 (show 0 ≤ x47.toInt by first | with_reducible assumption | omega) (show x47.toInt ≤ 7 by first | with_reducible assumption | omega) (show 0 ≤ f1_.toInt from r5) (show f1_.toInt ≤ 11 from t6) (show (7 - x47.toInt).toNat < n7 by first | exact tn_lt hm7 (by omega) (by omega) | omega) hw hT hF c44 c45 hM (lv_sub hl [3, 4, 0] rfl)
          · have c26 : r24.toInt < (0 : Int) := wk_leF c26
            replace hM := hM.neg (Int.not_le.mpr c26)
            refine lv_aload_n hx hb dX7_readSigns_41 rfl (lv_at hl 3 rfl) ?_
            refine tk_Vv hC hK hw hT hA hE hSR kC_at1 (by decide) rfl (kz_X6_blameHere_1 l adK adV dC dI cy ad B hB0 (Int.le_trans hB1 (by decide)) qr s1    w11 H.size hT c21) (cwV 0 hC.2.2.2.2 uV_RX7_128 rfl rfl rfl (by decide +kernel) ⟨Nat.le_of_ble_eq_true rfl, Nat.le_of_ble_eq_true rfl⟩) rfl hl.1 rfl (Nat.le_of_ble_eq_true rfl) dX7_readSigns_42 (fun w50 H locs hp49 hw => ?_)
            obtain ⟨hT, k51, hv55, hg54⟩ := hp49
            have hF := hF.tr k51 (by decide)
            have c56 := k51.gi kC_at29 (by decide) c22
            have c57 := k51.gi kC_at1 (by decide) c16
            have c58 := k51.gi kC_at1 (by decide) c18
            obtain ⟨x52, c53, rx52, tx52⟩ := hg54
            replace hM := hM.call hv55 rfl
            exact tk_vret hC hr hlocks hK ⟨hT, hF, hM.ret rfl, (Or.inl ⟨⟨x52, c53, (show 1 ≤ x52.toInt by first | with_reducible assumption | omega), (show x52.toInt ≤ 3205 by first | with_reducible assumption | omega)⟩, ⟨f1_, c56, (show 0 ≤ f1_.toInt from r5), (show f1_.toInt ≤ 11 from t6)⟩⟩)⟩ hw dX7_readSigns_45
        · replace hM := hM.call (r' := (-1)) hv20 (by decide)
          refine lv_istore_n (lv' := [(3, .int (-1)), (0, .ref (ad 29)), (1, .ref (ad 1)), (2, .int v7_2)]) hx hb dX7_readSigns_17 rfl hl (by decide) rfl (fun ls hl => ?_)
          refine lv_iload_n hx hb dX7_readSigns_18 rfl (lv_at hl 0 rfl) ?_
          refine lv_iconst (v := (-1)) hx hb dX7_readSigns_19 (by decide) ?_
          refine lv_icmp_ne (tgt := 27) hx hb dX7_readSigns_20 (by decide) (fun c => absurd (by decide) c) (fun _ => ?_)
          replace hM := hM.neg (by decide)
          refine lv_iconst (v := (-1)) hx hb dX7_readSigns_23 (by decide) ?_
          refine lv_goto (tgt := 34) hx hb dX7_readSigns_24 (by decide) ?_
          refine lv_istore (lv' := [(4, .int (-1)), (3, .int (-1)), (0, .ref (ad 29)), (1, .ref (ad 1)), (2, .int v7_2)]) hx hb dX7_readSigns_34 hl (by decide) rfl (fun ls hl => ?_)
          refine lv_iload hx hb dX7_readSigns_36 (lv_at hl 0 rfl) ?_
          refine lv_if_ge (tgt := 46) hx hb dX7_readSigns_38 (by decide) (fun c => absurd c (by decide)) (fun _ => ?_)
          replace hM := hM.neg (by decide)
          refine lv_aload_n hx hb dX7_readSigns_41 rfl (lv_at hl 3 rfl) ?_
          refine tk_Vv hC hK hw hT hA hE hSR kC_at1 (by decide) rfl (kz_X6_blameHere_1 l adK adV dC dI cy ad B hB0 (Int.le_trans hB1 (by decide)) qr s1    w11 H.size hT c21) (cwV 0 hC.2.2.2.2 uV_RX7_128 rfl rfl rfl (by decide +kernel) ⟨Nat.le_of_ble_eq_true rfl, Nat.le_of_ble_eq_true rfl⟩) rfl hl.1 rfl (Nat.le_of_ble_eq_true rfl) dX7_readSigns_42 (fun w61 H locs hp60 hw => ?_)
          obtain ⟨hT, k62, hv66, hg65⟩ := hp60
          have hF := hF.tr k62 (by decide)
          have c67 := k62.gi kC_at29 (by decide) c22
          obtain ⟨x63, c64, rx63, tx63⟩ := hg65
          replace hM := hM.call hv66 rfl
          exact tk_vret hC hr hlocks hK ⟨hT, hF, hM.ret rfl, (Or.inl ⟨⟨x63, c64, (show 1 ≤ x63.toInt by first | with_reducible assumption | omega), (show x63.toInt ≤ 3205 by first | with_reducible assumption | omega)⟩, ⟨f1_, c67, (show 0 ≤ f1_.toInt from r5), (show f1_.toInt ≤ 11 from t6)⟩⟩)⟩ hw dX7_readSigns_45
  have hM : TT (fun n => m_X7_readSigns n 29 1 (sI w0)) (fun n => m_X7_readSigns n 29 1 (sI w0)) := TT.rf
  refine lv_aload_n hx hb dX7_readSigns_0 rfl (lv_at hl 1 rfl) ?_
  refine tk_Vi hC hK hw hT hA hE hSR kC_at1 (by decide) rfl (kz_X6_lookBehindBlanks_1 l adK adV dC dI cy ad B hB0 (Int.le_trans hB1 (by decide)) qr s1    w0 s.heap.size hT ) (cwV 0 hC.2.2.2.2 uV_RX7_113 rfl rfl rfl (by decide +kernel) ⟨Nat.le_of_ble_eq_true rfl, Nat.le_of_ble_eq_true rfl⟩) rfl hl.1 rfl (Nat.le_of_ble_eq_true rfl) dX7_readSigns_1 (fun r68 w70 H locs hp69 hw => ?_)
  obtain ⟨hT, k71, hv81, hg80⟩ := hp69
  have hF := hF.tr k71 (by decide)
  have c82 := k71.gi kC_at1 (by decide) cf0_
  have c83 := k71.gi kC_at29 (by decide) cf1_
  rcases hg80 with ⟨g72, g73, ⟨x74, c75, rx74, tx74⟩, ⟨x76, c77, rx76, tx76⟩, ⟨x78, c79, rx78, tx78⟩⟩ | rfl
  · replace hM := hM.call hv81 rfl
    refine lv_pop hx hb dX7_readSigns_4 rfl ?_
    refine lv_iconst (v := 0) hx hb dX7_readSigns_5 (by decide) ?_
    refine lv_istore_n (lv' := [(2, .int 0), (0, .ref (ad 29)), (1, .ref (ad 1))]) hx hb dX7_readSigns_6 rfl hl (by decide) rfl (fun ls hl => ?_)
    exact L7 ((7 - (0 : Int)).toNat + 1) 0 H locs ls w70 (by decide) (by decide) (show 0 ≤ f1_.toInt from rf1_) (show f1_.toInt ≤ 11 from tf1_) (Nat.lt_succ_self _) hw hT hF c82 c83 hM (lv_sub hl [1, 2, 0] rfl)
  · replace hM := hM.call (r' := (-1)) hv81 (by decide)
    refine lv_pop hx hb dX7_readSigns_4 rfl ?_
    refine lv_iconst (v := 0) hx hb dX7_readSigns_5 (by decide) ?_
    refine lv_istore_n (lv' := [(2, .int 0), (0, .ref (ad 29)), (1, .ref (ad 1))]) hx hb dX7_readSigns_6 rfl hl (by decide) rfl (fun ls hl => ?_)
    exact L7 ((7 - (0 : Int)).toNat + 1) 0 H locs ls w70 (by decide) (by decide) (show 0 ≤ f1_.toInt from rf1_) (show f1_.toInt ≤ 11 from tf1_) (Nat.lt_succ_self _) hw hT hF c82 c83 hM (lv_sub hl [1, 2, 0] rfl)
abbrev Pz_X6_readNumber_5 (ad : Nat → Nat) (cy : Nat → ClassId) (B : Int) (qr : Nat) (s1 : Int)  (w0 : va_W) : Int32 → va_W → Prop := fun r u => TW ksC ad cy B qr s1 u ∧ FE ksC ([] : List (Nat × Nat × Nat)) w0 u ∧ Ev (fun n => m_X6_readNumber n 1 1 9 (sI w0)) (r.toInt, sI u) ∧ ((r = (-1) ∧ (∃ y : Int32, gi u 1 4 = y ∧ 1 ≤ y.toInt ∧ y.toInt ≤ 3205)))
set_option maxHeartbeats 4000000 in
set_option maxRecDepth 100000 in
theorem kz_X6_readNumber_5 (l : Launch) (adK adV : Nat → Nat) (dC : Nat → ClassId) (dI : Nat → Nat → Nat) (cy : Nat → ClassId) (ad : Nat → Nat) (B : Int) (hB0 : 2147483648 ≤ B) (hB1 : B ≤ 1152921504606846976) (qr : Nat) (s1 : Int)   (w0 : va_W) (sz : Nat) (hT : TW ksC ad cy B qr s1 w0) (f0_ : Int32) (cf0_ : gi w0 1 4 = f0_) (rf0_ : 1 ≤ f0_.toInt) (tf0_ : f0_.toInt ≤ 3205) : Met l yX6_readNumber (wu yX6_readNumber cX6_readNumber 4 (some .int)) ({ frames := 2, cells := 0, slots := 0, locals := 32 }) (va_Pc [.ref (ad 1), .int 1, .int 9] (wpreS adK adV dC dI cy sz w0)) (va_Qi (Pz_X6_readNumber_5 ad cy B qr s1  w0) (fun u : va_W => wpost dC dI cy (va_A w0 sz) u) (va_A w0 sz)) 0 0 (va_A w0 sz) := by
  refine Met.ofW (cc := cX6_readNumber) (maxL := 4) (ret := (some .int)) (by decide) rfl ?_
  intro p e s m args below meth c s₁ Bk hml hv
  obtain ⟨rfl, ⟨hsz, hP, hK, hD0⟩, hE, hSR⟩ := hv
  have hx := Bk.exec
  have hb := Bk.bytes
  have hr := Bk.returns
  have hlocks := Bk.notSynchronized
  have hC : CallFix p m c cX6_readNumber 4 s _ (wu yX6_readNumber cX6_readNumber 4 (some .int)) RX6 := ⟨hx, hb, hml, findClass_of_methodNamed Bk.named, atoms_spec (ws := (wu yX6_readNumber cX6_readNumber 4 (some .int))) Bk.pre⟩
  subst hsz
  have hD := hD0.self (sz := s.heap.size)
  generalize hAe : va_A w0 s.heap.size = A at hD hE ⊢
  have hA : ∀ q : Nat, s.heap.size ≤ q → A q := fun q h => by rw [← hAe]; exact Or.inr h
  have hw : Wd dC dI A s.heap s.heap [] w0 := ⟨hP, hD, va_S.rf⟩
  have hF : FE ksC ([] : List (Nat × Nat × Nat)) w0 w0 := FE.rf
  have hl := lv_entry ([.ref (ad 1), .int 1, .int 9]) (n := 4) (Nat.le_of_ble_eq_true rfl)
  rw [lg_entry_eq]
  generalize (lg_sl ([.ref (ad 1), .int 1, .int 9]) ++ List.replicate (4 - (lg_sl ([.ref (ad 1), .int 1, .int 9])).length) Slot.unset).toArray = ls at hl ⊢
  have hl : lv_has ls 4 [(0, .ref (ad 1)), (1, .int 1), (2, .int 9)] := hl
  generalize hloc : ([] : List Loc) = locs at hw ⊢
  have hM : TT (fun n => m_X6_readNumber n 1 1 9 (sI w0)) (fun n => m_X6_readNumber n 1 1 9 (sI w0)) := TT.rf
  refine lv_aload_n hx hb dX6_readNumber_0 rfl (lv_at hl 0 rfl) ?_
  refine tk_Vi hC hK hw hT hA hE hSR kC_at1 (by decide) rfl (kz_X6_isFaulty_3 l adK adV dC dI cy ad B hB0 (Int.le_trans hB1 (by decide)) qr s1    w0 s.heap.size hT f0_ cf0_ (show 1 ≤ f0_.toInt from rf0_) (show f0_.toInt ≤ 3205 from tf0_)) (cwV 0 hC.2.2.2.2 uV_RX6_39 rfl rfl rfl (by decide +kernel) ⟨Nat.le_of_ble_eq_true rfl, Nat.le_of_ble_eq_true rfl⟩) rfl hl.1 rfl (Nat.le_of_ble_eq_true rfl) dX6_readNumber_1 (fun r1 w3 H locs hp2 hw => ?_)
  obtain ⟨hT, k4, hv8, hg7⟩ := hp2
  have hF := hF.tr k4 (by decide)
  have c9 := k4.gi kC_at1 (by decide) cf0_
  obtain ⟨rfl, ⟨x5, c6, rx5, tx5⟩⟩ := hg7
  replace hM := hM.call (r' := 1) hv8 (by decide)
  have ex5 : x5.toInt = f0_.toInt := by rw [← c9.symm.trans c6]
  refine lv_if_eq (tgt := 9) hx hb dX6_readNumber_4 (by decide) (fun c => absurd c (by decide)) (fun _ => ?_)
  replace hM := hM.neg (by decide)
  refine lv_iconst (v := (-1)) hx hb dX6_readNumber_7 (by decide) ?_
  exact tk_iret hC hr hlocks hK ⟨hT, hF, hM.ret (by decide), ⟨rfl, ⟨f0_, c9, (show 1 ≤ f0_.toInt from rf0_), (show f0_.toInt ≤ 3205 from tf0_)⟩⟩⟩ hw dX6_readNumber_8
abbrev Pz_X6_readNumber_6 (ad : Nat → Nat) (cy : Nat → ClassId) (B : Int) (qr : Nat) (s1 : Int) (a2 : Int32) (w0 : va_W) : Int32 → va_W → Prop := fun r u => TW ksC ad cy B qr s1 u ∧ FE ksC ([] : List (Nat × Nat × Nat)) w0 u ∧ Ev (fun n => m_X6_readNumber n 1 0 a2.toInt (sI w0)) (r.toInt, sI u) ∧ ((r = (-1) ∧ (∃ y : Int32, gi u 1 4 = y ∧ 1 ≤ y.toInt ∧ y.toInt ≤ 3205)))
set_option maxHeartbeats 4000000 in
set_option maxRecDepth 100000 in
theorem kz_X6_readNumber_6 (l : Launch) (adK adV : Nat → Nat) (dC : Nat → ClassId) (dI : Nat → Nat → Nat) (cy : Nat → ClassId) (ad : Nat → Nat) (B : Int) (hB0 : 2147483648 ≤ B) (hB1 : B ≤ 1152921504606846976) (qr : Nat) (s1 : Int)  (a2 : Int32) (ra2 : (-2) ≤ a2.toInt) (ta2 : a2.toInt ≤ 9) (w0 : va_W) (sz : Nat) (hT : TW ksC ad cy B qr s1 w0) (f0_ : Int32) (cf0_ : gi w0 1 4 = f0_) (rf0_ : 1 ≤ f0_.toInt) (tf0_ : f0_.toInt ≤ 3205) : Met l yX6_readNumber (wu yX6_readNumber cX6_readNumber 4 (some .int)) ({ frames := 2, cells := 0, slots := 0, locals := 32 }) (va_Pc [.ref (ad 1), .int 0, .int a2] (wpreS adK adV dC dI cy sz w0)) (va_Qi (Pz_X6_readNumber_6 ad cy B qr s1 a2 w0) (fun u : va_W => wpost dC dI cy (va_A w0 sz) u) (va_A w0 sz)) 0 0 (va_A w0 sz) := by
  refine Met.ofW (cc := cX6_readNumber) (maxL := 4) (ret := (some .int)) (by decide) rfl ?_
  intro p e s m args below meth c s₁ Bk hml hv
  obtain ⟨rfl, ⟨hsz, hP, hK, hD0⟩, hE, hSR⟩ := hv
  have hx := Bk.exec
  have hb := Bk.bytes
  have hr := Bk.returns
  have hlocks := Bk.notSynchronized
  have hC : CallFix p m c cX6_readNumber 4 s _ (wu yX6_readNumber cX6_readNumber 4 (some .int)) RX6 := ⟨hx, hb, hml, findClass_of_methodNamed Bk.named, atoms_spec (ws := (wu yX6_readNumber cX6_readNumber 4 (some .int))) Bk.pre⟩
  subst hsz
  have hD := hD0.self (sz := s.heap.size)
  generalize hAe : va_A w0 s.heap.size = A at hD hE ⊢
  have hA : ∀ q : Nat, s.heap.size ≤ q → A q := fun q h => by rw [← hAe]; exact Or.inr h
  have hw : Wd dC dI A s.heap s.heap [] w0 := ⟨hP, hD, va_S.rf⟩
  have hF : FE ksC ([] : List (Nat × Nat × Nat)) w0 w0 := FE.rf
  have hl := lv_entry ([.ref (ad 1), .int 0, .int a2]) (n := 4) (Nat.le_of_ble_eq_true rfl)
  rw [lg_entry_eq]
  generalize (lg_sl ([.ref (ad 1), .int 0, .int a2]) ++ List.replicate (4 - (lg_sl ([.ref (ad 1), .int 0, .int a2])).length) Slot.unset).toArray = ls at hl ⊢
  have hl : lv_has ls 4 [(0, .ref (ad 1)), (1, .int 0), (2, .int a2)] := hl
  generalize hloc : ([] : List Loc) = locs at hw ⊢
  have hM : TT (fun n => m_X6_readNumber n 1 0 a2.toInt (sI w0)) (fun n => m_X6_readNumber n 1 0 a2.toInt (sI w0)) := TT.rf
  refine lv_aload_n hx hb dX6_readNumber_0 rfl (lv_at hl 0 rfl) ?_
  refine tk_Vi hC hK hw hT hA hE hSR kC_at1 (by decide) rfl (kz_X6_isFaulty_3 l adK adV dC dI cy ad B hB0 (Int.le_trans hB1 (by decide)) qr s1    w0 s.heap.size hT f0_ cf0_ (show 1 ≤ f0_.toInt from rf0_) (show f0_.toInt ≤ 3205 from tf0_)) (cwV 0 hC.2.2.2.2 uV_RX6_39 rfl rfl rfl (by decide +kernel) ⟨Nat.le_of_ble_eq_true rfl, Nat.le_of_ble_eq_true rfl⟩) rfl hl.1 rfl (Nat.le_of_ble_eq_true rfl) dX6_readNumber_1 (fun r1 w3 H locs hp2 hw => ?_)
  obtain ⟨hT, k4, hv8, hg7⟩ := hp2
  have hF := hF.tr k4 (by decide)
  have c9 := k4.gi kC_at1 (by decide) cf0_
  obtain ⟨rfl, ⟨x5, c6, rx5, tx5⟩⟩ := hg7
  replace hM := hM.call (r' := 1) hv8 (by decide)
  have ex5 : x5.toInt = f0_.toInt := by rw [← c9.symm.trans c6]
  refine lv_if_eq (tgt := 9) hx hb dX6_readNumber_4 (by decide) (fun c => absurd c (by decide)) (fun _ => ?_)
  replace hM := hM.neg (by decide)
  refine lv_iconst (v := (-1)) hx hb dX6_readNumber_7 (by decide) ?_
  exact tk_iret hC hr hlocks hK ⟨hT, hF, hM.ret (by decide), ⟨rfl, ⟨f0_, c9, (show 1 ≤ f0_.toInt from rf0_), (show f0_.toInt ≤ 3205 from tf0_)⟩⟩⟩ hw dX6_readNumber_8
abbrev Pz_X6_blame_3 (ad : Nat → Nat) (cy : Nat → ClassId) (B : Int) (qr : Nat) (s1 : Int) (a1 : Int32) (a2 : Int32) (w0 : va_W) : va_W → Prop := fun u => TW ksC ad cy B qr s1 u ∧ FE ksC ([] : List (Nat × Nat × Nat)) w0 u ∧ Ev (fun n => m_X6_blame n 1 a1.toInt a2.toInt (sI w0)) (0, sI u) ∧ (((∃ y : Int32, gi u 1 4 = y ∧ 1 ≤ y.toInt ∧ y.toInt ≤ 3205)))
set_option maxHeartbeats 4000000 in
set_option maxRecDepth 100000 in
theorem kz_X6_blame_3 (l : Launch) (adK adV : Nat → Nat) (dC : Nat → ClassId) (dI : Nat → Nat → Nat) (cy : Nat → ClassId) (ad : Nat → Nat) (B : Int) (hB0 : 2147483648 ≤ B) (hB1 : B ≤ 1152921504606846976) (qr : Nat) (s1 : Int)  (a1 : Int32) (ra1 : 0 ≤ a1.toInt) (ta1 : a1.toInt ≤ 400) (a2 : Int32) (ra2 : 0 ≤ a2.toInt) (ta2 : a2.toInt ≤ 4) (w0 : va_W) (sz : Nat) (hT : TW ksC ad cy B qr s1 w0) (f0_ : Int32) (cf0_ : gi w0 1 4 = f0_) (rf0_ : 1 ≤ f0_.toInt) (tf0_ : f0_.toInt ≤ 3205) : Met l yX6_blame (wu yX6_blame cX6_blame 3 none) ({ frames := 1, cells := 0, slots := 0, locals := 12 }) (va_Pc [.ref (ad 1), .int a1, .int a2] (wpreS adK adV dC dI cy sz w0)) (va_Qv (Pz_X6_blame_3 ad cy B qr s1 a1 a2 w0) (fun u : va_W => wpost dC dI cy (va_A w0 sz) u) (va_A w0 sz)) 0 0 (va_A w0 sz) := by
  refine Met.ofW (cc := cX6_blame) (maxL := 3) (ret := none) (by decide) rfl ?_
  intro p e s m args below meth c s₁ Bk hml hv
  obtain ⟨rfl, ⟨hsz, hP, hK, hD0⟩, hE, hSR⟩ := hv
  have hx := Bk.exec
  have hb := Bk.bytes
  have hr := Bk.returns
  have hlocks := Bk.notSynchronized
  have hC : CallFix p m c cX6_blame 3 s _ (wu yX6_blame cX6_blame 3 none) RX6 := ⟨hx, hb, hml, findClass_of_methodNamed Bk.named, atoms_spec (ws := (wu yX6_blame cX6_blame 3 none)) Bk.pre⟩
  subst hsz
  have hD := hD0.self (sz := s.heap.size)
  generalize hAe : va_A w0 s.heap.size = A at hD hE ⊢
  have hA : ∀ q : Nat, s.heap.size ≤ q → A q := fun q h => by rw [← hAe]; exact Or.inr h
  have hw : Wd dC dI A s.heap s.heap [] w0 := ⟨hP, hD, va_S.rf⟩
  have hF : FE ksC ([] : List (Nat × Nat × Nat)) w0 w0 := FE.rf
  have hl := lv_entry ([.ref (ad 1), .int a1, .int a2]) (n := 3) (Nat.le_of_ble_eq_true rfl)
  rw [lg_entry_eq]
  generalize (lg_sl ([.ref (ad 1), .int a1, .int a2]) ++ List.replicate (3 - (lg_sl ([.ref (ad 1), .int a1, .int a2])).length) Slot.unset).toArray = ls at hl ⊢
  have hl : lv_has ls 3 [(0, .ref (ad 1)), (1, .int a1), (2, .int a2)] := hl
  generalize hloc : ([] : List Loc) = locs at hw ⊢
  have hinX6 : ∀ w ∈ u_ws RX6 TX6 5, w ∈ (wu yX6_blame cX6_blame 3 none) := fun _ h => List.mem_cons_of_mem _ (up_72 h)
  have J19 : ∀ (H : Heap) (locs : List Loc) (ls : Array Slot) (w1 : va_W), 0 ≤ a1.toInt → a1.toInt ≤ 400 → 0 ≤ a2.toInt → a2.toInt ≤ 4 → 1 ≤ f0_.toInt → f0_.toInt ≤ 3205 → Wd dC dI A s.heap H locs w1 → TW ksC ad cy B qr s1 w1 → FE ksC ([] : List (Nat × Nat × Nat)) w0 w1 → gi w1 1 4 = f0_ → TT (fun n => m_X6_blame n 1 a1.toInt a2.toInt (sI w0)) (fun n => b_X6_blame_19 n 1 (sI w1)) → lv_has ls 3 [(0, .ref (ad 1)), (1, .int a1), (2, .int a2)] → W p l e ({ frames := 1, cells := 0, slots := 0, locals := 12 }) s m (List.toArray [.ref (ad 1), .int a1, .int a2]) below meth c H locs 0 0 (MQ below (va_Qv (Pz_X6_blame_3 ad cy B qr s1 a1 a2 w0) (fun u : va_W => wpost dC dI cy A u) A) (List.toArray [.ref (ad 1), .int a1, .int a2]) s 0 0 A) (F0 m 19 ls []) := by
    intro H locs ls w1 r2 t3 r4 t5 r6 t7 hw hT hF c8 hM hl
    exact tk_vret hC hr hlocks hK ⟨hT, hF, hM.ret rfl, ⟨f0_, c8, (show 1 ≤ f0_.toInt from r6), (show f0_.toInt ≤ 3205 from t7)⟩⟩ hw dX6_blame_19
  have hM : TT (fun n => m_X6_blame n 1 a1.toInt a2.toInt (sI w0)) (fun n => m_X6_blame n 1 a1.toInt a2.toInt (sI w0)) := TT.rf
  refine lv_aload_n hx hb dX6_blame_0 rfl (lv_at hl 0 rfl) ?_
  refine tk_geti hC hK hw hT hinX6 kC_at1 (by decide) rfl 4 (by decide) (List.mem_cons_of_mem _ uw_9_18) rfl rfl dX6_blame_1 (fun x9 c10 rx9 tx9 => ?_)
  refine wk_top f0_ (c10.symm.trans cf0_) ?_
  replace hM := hM.rd (sI_at cf0_)
  refine lv_if_ne (tgt := 19) hx hb dX6_blame_4 (by decide) (fun _ => ?_) (fun c => absurd (show f0_.toInt = (0 : Int) from wk_eq.mp c) (by omega))
  replace hM := hM.pos (by omega)
  exact J19  s.heap locs ls w0 (show 0 ≤ a1.toInt from ra1) (show a1.toInt ≤ 400 from ta1) (show 0 ≤ a2.toInt from ra2) (show a2.toInt ≤ 4 from ta2) (show 1 ≤ f0_.toInt from rf0_) (show f0_.toInt ≤ 3205 from tf0_)  hw hT hF cf0_ hM (lv_sub hl [0, 1, 2] rfl)
abbrev Pz_X7_readStreet_1 (ad : Nat → Nat) (cy : Nat → ClassId) (B : Int) (qr : Nat) (s1 : Int)  (w0 : va_W) : va_W → Prop := fun u => TW ksC ad cy B qr s1 u ∧ FE ksC [(6, 1, 1), (6, 3, 3), (6, 4, 4), (7, 9, 9), (24, 0, 26), (25, 0, 13), (26, 0, 91), (27, 0, 13), (28, 0, 26)] w0 u ∧ Ev (fun n => m_X7_readStreet n 29 1 (sI w0)) (0, sI u) ∧ (((∃ y : Int32, gi u 1 4 = y ∧ 1 ≤ y.toInt ∧ y.toInt ≤ 3205) ∧ (∃ y : Int32, gi u 29 9 = y ∧ 0 ≤ y.toInt ∧ y.toInt ≤ 12)) ∨ ((∃ y : Int32, gi u 1 2 = y ∧ 1 ≤ y.toInt ∧ y.toInt ≤ 400) ∧ (∃ y : Int32, gi u 1 4 = y ∧ 0 ≤ y.toInt ∧ y.toInt ≤ 0) ∧ (∃ y : Int32, gi u 29 8 = y ∧ 1 ≤ y.toInt ∧ y.toInt ≤ 10) ∧ (∃ y : Int32, gi u 29 9 = y ∧ 1 ≤ y.toInt ∧ y.toInt ≤ 12)))
set_option maxHeartbeats 4000000 in
set_option maxRecDepth 100000 in
theorem kz_X7_readStreet_1 (l : Launch) (adK adV : Nat → Nat) (dC : Nat → ClassId) (dI : Nat → Nat → Nat) (cy : Nat → ClassId) (ad : Nat → Nat) (B : Int) (hB0 : 2147483648 ≤ B) (hB1 : B ≤ 1152921504606846976) (qr : Nat) (s1 : Int)   (w0 : va_W) (sz : Nat) (hT : TW ksC ad cy B qr s1 w0) (cf0_ : gi w0 1 4 = 0) (f1_ : Int32) (cf1_ : gi w0 29 9 = f1_) (rf1_ : 0 ≤ f1_.toInt) (tf1_ : f1_.toInt ≤ 11) : Met l yX7_readStreet (wu yX7_readStreet cX7_readStreet 5 none) ({ frames := 6, cells := 0, slots := 0, locals := 185 }) (va_Pc [.ref (ad 29), .ref (ad 1)] (wpreS adK adV dC dI cy sz w0)) (va_Qv (Pz_X7_readStreet_1 ad cy B qr s1  w0) (fun u : va_W => wpost dC dI cy (va_A w0 sz) u) (va_A w0 sz)) 0 0 (va_A w0 sz) := by
  refine Met.ofW (cc := cX7_readStreet) (maxL := 5) (ret := none) (by decide) rfl ?_
  intro p e s m args below meth c s₁ Bk hml hv
  obtain ⟨rfl, ⟨hsz, hP, hK, hD0⟩, hE, hSR⟩ := hv
  have hx := Bk.exec
  have hb := Bk.bytes
  have hr := Bk.returns
  have hlocks := Bk.notSynchronized
  have hC : CallFix p m c cX7_readStreet 5 s _ (wu yX7_readStreet cX7_readStreet 5 none) RX7 := ⟨hx, hb, hml, findClass_of_methodNamed Bk.named, atoms_spec (ws := (wu yX7_readStreet cX7_readStreet 5 none)) Bk.pre⟩
  subst hsz
  have hD := hD0.self (sz := s.heap.size)
  generalize hAe : va_A w0 s.heap.size = A at hD hE ⊢
  have hA : ∀ q : Nat, s.heap.size ≤ q → A q := fun q h => by rw [← hAe]; exact Or.inr h
  have hw : Wd dC dI A s.heap s.heap [] w0 := ⟨hP, hD, va_S.rf⟩
  have hF : FE ksC [(6, 1, 1), (6, 3, 3), (6, 4, 4), (7, 9, 9), (24, 0, 26), (25, 0, 13), (26, 0, 91), (27, 0, 13), (28, 0, 26)] w0 w0 := FE.rf
  have hl := lv_entry ([.ref (ad 29), .ref (ad 1)]) (n := 5) (Nat.le_of_ble_eq_true rfl)
  rw [lg_entry_eq]
  generalize (lg_sl ([.ref (ad 29), .ref (ad 1)]) ++ List.replicate (5 - (lg_sl ([.ref (ad 29), .ref (ad 1)])).length) Slot.unset).toArray = ls at hl ⊢
  have hl : lv_has ls 5 [(0, .ref (ad 29)), (1, .ref (ad 1))] := hl
  generalize hloc : ([] : List Loc) = locs at hw ⊢
  have hinX7 : ∀ w ∈ u_ws RX7 TX7 12, w ∈ (wu yX7_readStreet cX7_readStreet 5 none) := fun _ h => List.mem_cons_of_mem _ (up_73 h)
  have hinX6 : ∀ w ∈ u_ws RX6 TX6 5, w ∈ (wu yX7_readStreet cX7_readStreet 5 none) := fun _ h => List.mem_cons_of_mem _ (up_72 h)
  have hM : TT (fun n => m_X7_readStreet n 29 1 (sI w0)) (fun n => m_X7_readStreet n 29 1 (sI w0)) := TT.rf
  refine lv_aload_n hx hb dX7_readStreet_0 rfl (lv_at hl 1 rfl) ?_
  refine lv_iconst (v := 0) hx hb dX7_readStreet_1 (by decide) ?_
  refine lv_aload_n hx hb dX7_readStreet_2 rfl (lv_at hl 0 rfl) ?_
  refine tk_geti hC hK hw hT hinX7 kC_at29 (by decide) rfl 8 (by decide) (List.mem_cons_of_mem _ uw_9_7) rfl rfl dX7_readStreet_3 (fun x1 c2 rx1 tx1 => ?_)
  replace hM := hM.rd (sI_at c2)
  refine lv_iconst (v := 1) hx hb dX7_readStreet_6 (by decide) ?_
  refine lv_isub hx hb dX7_readStreet_7 ?_
  refine lv_topi (fun x3 ex3 => ?_)
  have ezx3 := ex3
  have ex3 : x3.toInt = x1.toInt - (1 : Int) := by rw [ex3]; exact wk_sub (show (-2147483648) ≤ x1.toInt - (1 : Int) by omega) (show x1.toInt - (1 : Int) ≤ 2147483647 by omega)
  replace hM := hM.lt ex3.symm
  refine tk_Vi hC hK hw hT hA hE hSR kC_at1 (by decide) rfl (kz_X6_readNumber_2 l adK adV dC dI cy ad B hB0 (Int.le_trans hB1 (by decide)) qr s1   x3 (show (-2) ≤ x3.toInt by first | with_reducible assumption | omega) (show x3.toInt ≤ 9 by first | with_reducible assumption | omega) w0 s.heap.size hT cf0_) (cwV 2 hC.2.2.2.2 uV_RX7_92 rfl rfl rfl (by decide +kernel) ⟨Nat.le_of_ble_eq_true rfl, Nat.le_of_ble_eq_true rfl⟩) rfl hl.1 rfl (Nat.le_of_ble_eq_true rfl) dX7_readStreet_8 (fun r4 w6 H locs hp5 hw => ?_)
  obtain ⟨hT, k7, hv20, hg19⟩ := hp5
  have hF := hF.tr k7 (by decide)
  have c21 := k7.gi kC_at29 (by decide) cf1_
  have c22 := k7.gi kC_at29 (by decide) c2
  rcases hg19 with ⟨g8, g9, g10, ⟨x11, c12, rx11, tx11⟩, ⟨x13, c14, rx13, tx13⟩, ⟨x15, c16, rx15, tx15⟩⟩ | ⟨rfl, ⟨x17, c18, rx17, tx17⟩⟩
  · replace hM := hM.call hv20 rfl
    refine lv_istore_n (lv' := [(2, .int r4), (0, .ref (ad 29)), (1, .ref (ad 1))]) hx hb dX7_readStreet_11 rfl hl (by decide) rfl (fun ls hl => ?_)
    refine lv_aload_n hx hb dX7_readStreet_12 rfl (lv_at hl 2 rfl) ?_
    refine lv_iconst (v := 0) hx hb dX7_readStreet_13 (by decide) ?_
    refine lv_aload_n hx hb dX7_readStreet_14 rfl (lv_at hl 1 rfl) ?_
    refine tk_geti hC hK hw hT hinX7 kC_at29 (by decide) rfl 8 (by decide) (List.mem_cons_of_mem _ uw_9_7) rfl rfl dX7_readStreet_15 (fun x23 c24 rx23 tx23 => ?_)
    refine wk_top x1 (c24.symm.trans c22) ?_
    replace hM := hM.rd (sI_at c22)
    refine lv_iconst (v := 1) hx hb dX7_readStreet_18 (by decide) ?_
    refine lv_isub hx hb dX7_readStreet_19 ?_
    refine lv_topi (fun x25 ex25 => ?_)
    have ezx25 := ex25
    have ex25 : x25.toInt = x1.toInt - (1 : Int) := by rw [ex25]; exact wk_sub (show (-2147483648) ≤ x1.toInt - (1 : Int) by omega) (show x1.toInt - (1 : Int) ≤ 2147483647 by omega)
    replace hM := hM.lt ex25.symm
    refine tk_Vi hC hK hw hT hA hE hSR kC_at1 (by decide) rfl (kz_X6_readNumber_3 l adK adV dC dI cy ad B hB0 (Int.le_trans hB1 (by decide)) qr s1   x25 (show 0 ≤ x25.toInt by first | with_reducible assumption | omega) (show x25.toInt ≤ 9 by first | with_reducible assumption | omega) w6 H.size hT (c16.trans (wk_eq.mpr (show x15.toInt = 0 by first | exact Int.le_antisymm (by omega) (by omega) | omega)))) (cwV 2 hC.2.2.2.2 uV_RX7_92 rfl rfl rfl (by decide +kernel) ⟨Nat.le_of_ble_eq_true rfl, Nat.le_of_ble_eq_true rfl⟩) rfl hl.1 rfl (Nat.le_of_ble_eq_true rfl) dX7_readStreet_20 (fun r26 w28 H locs hp27 hw => ?_)
    obtain ⟨hT, k29, hv41, hg40⟩ := hp27
    have hF := hF.tr k29 (by decide)
    have c42 := k29.gi kC_at29 (by decide) c21
    have c43 := k29.gi kC_at29 (by decide) c22
    have c44 := k29.gi kC_at1 (by decide) c12
    rcases hg40 with ⟨g30, g31, ⟨x32, c33, rx32, tx32⟩, ⟨x34, c35, rx34, tx34⟩, ⟨x36, c37, rx36, tx36⟩⟩ | ⟨rfl, ⟨x38, c39, rx38, tx38⟩⟩
    · replace hM := hM.call hv41 rfl
      have ex32 : x32.toInt = x11.toInt := by rw [← c44.symm.trans c33]
      refine lv_istore_n (lv' := [(3, .int r26), (2, .int r4), (0, .ref (ad 29)), (1, .ref (ad 1))]) hx hb dX7_readStreet_23 rfl hl (by decide) rfl (fun ls hl => ?_)
      refine lv_iload_n hx hb dX7_readStreet_24 rfl (lv_at hl 0 rfl) ?_
      refine lv_iload_n hx hb dX7_readStreet_25 rfl (lv_at hl 1 rfl) ?_
      refine lv_icmp_ne (tgt := 38) hx hb dX7_readStreet_26 (by decide) (fun c45 => ?_) (fun c45 => ?_)
      · have c45 : ¬ r26.toInt = r4.toInt := wk_eqF c45
        replace hM := hM.pos c45
        refine lv_aload_n hx hb dX7_readStreet_38 rfl (lv_at hl 3 rfl) ?_
        refine lv_iconst (v := 1) hx hb dX7_readStreet_39 (by decide) ?_
        refine lv_bipush (v := 9) hx hb dX7_readStreet_40 (by decide) ?_
        refine tk_Vi hC hK hw hT hA hE hSR kC_at1 (by decide) rfl (kz_X6_readNumber_4 l adK adV dC dI cy ad B hB0 (Int.le_trans hB1 (by decide)) qr s1    w28 H.size hT (c37.trans (wk_eq.mpr (show x36.toInt = 0 by first | exact Int.le_antisymm (by omega) (by omega) | omega)))) (cwV 2 hC.2.2.2.2 uV_RX7_92 rfl rfl rfl (by decide +kernel) ⟨Nat.le_of_ble_eq_true rfl, Nat.le_of_ble_eq_true rfl⟩) rfl hl.1 rfl (Nat.le_of_ble_eq_true rfl) dX7_readStreet_42 (fun r46 w48 H locs hp47 hw => ?_)
        obtain ⟨hT, k49, hv61, hg60⟩ := hp47
        have hF := hF.tr k49 (by decide)
        have c62 := k49.gi kC_at29 (by decide) c42
        have c63 := k49.gi kC_at29 (by decide) c43
        have c64 := k49.gi kC_at1 (by decide) c44
        rcases hg60 with ⟨g50, g51, ⟨x52, c53, rx52, tx52⟩, ⟨x54, c55, rx54, tx54⟩, ⟨x56, c57, rx56, tx56⟩⟩ | ⟨rfl, ⟨x58, c59, rx58, tx58⟩⟩
        · replace hM := hM.call hv61 rfl
          have ex52 : x52.toInt = x11.toInt := by rw [← c64.symm.trans c53]
          refine lv_istore (lv' := [(4, .int r46), (3, .int r26), (2, .int r4), (0, .ref (ad 29)), (1, .ref (ad 1))]) hx hb dX7_readStreet_45 hl (by decide) rfl (fun ls hl => ?_)
          refine lv_aload_n hx hb dX7_readStreet_47 rfl (lv_at hl 4 rfl) ?_
          refine tk_Vi hC hK hw hT hA hE hSR kC_at1 (by decide) rfl (kz_X6_isFaulty_2 l adK adV dC dI cy ad B hB0 (Int.le_trans hB1 (by decide)) qr s1    w48 H.size hT (c57.trans (wk_eq.mpr (show x56.toInt = 0 by first | exact Int.le_antisymm (by omega) (by omega) | omega)))) (cwV 0 hC.2.2.2.2 uV_RX7_89 rfl rfl rfl (by decide +kernel) ⟨Nat.le_of_ble_eq_true rfl, Nat.le_of_ble_eq_true rfl⟩) rfl hl.1 rfl (Nat.le_of_ble_eq_true rfl) dX7_readStreet_48 (fun r65 w67 H locs hp66 hw => ?_)
          obtain ⟨hT, k68, hv72, hg71⟩ := hp66
          have hF := hF.tr k68 (by decide)
          have c73 := k68.gi kC_at29 (by decide) c62
          have c74 := k68.gi kC_at29 (by decide) c63
          have c75 := k68.gi kC_at1 (by decide) c64
          have c76 := k68.gi kC_at1 (by decide) c55
          have c77 := k68.gi kC_at1 (by decide) c57
          obtain ⟨rfl, ⟨x69, c70, rx69, tx69⟩⟩ := hg71
          replace hM := hM.call (r' := 0) hv72 (by decide)
          have ex69 : x69.toInt = x56.toInt := by rw [← c77.symm.trans c70]
          refine lv_if_eq (tgt := 55) hx hb dX7_readStreet_51 (by decide) (fun _ => ?_) (fun c => absurd (by decide) c)
          replace hM := hM.pos (by decide)
          refine lv_aload_n hx hb dX7_readStreet_55 rfl (lv_at hl 3 rfl) ?_
          refine lv_aload_n hx hb dX7_readStreet_56 rfl (lv_at hl 3 rfl) ?_
          refine tk_geti hC hK hw hT hinX7 kC_at29 (by decide) rfl 9 (by decide) (List.mem_cons_of_mem _ uw_9_8) rfl rfl dX7_readStreet_57 (fun x78 c79 rx78 tx78 => ?_)
          refine wk_top f1_ (c79.symm.trans c73) ?_
          replace hM := hM.rd (sI_at c73)
          refine lv_iload_n hx hb dX7_readStreet_60 rfl (lv_at hl 2 rfl) ?_
          refine lv_iload_n hx hb dX7_readStreet_61 rfl (lv_at hl 1 rfl) ?_
          refine lv_iload hx hb dX7_readStreet_62 (lv_at hl 0 rfl) ?_
          refine tk_Vv hC hK hw hT hA hE hSR kC_at29 (by decide) rfl (kz_X7_placeStreet_1 l adK adV dC dI cy ad B hB0 (Int.le_trans hB1 (by decide)) qr s1   f1_ (show 0 ≤ f1_.toInt from rf1_) (show f1_.toInt ≤ 11 from tf1_) r4 (show 0 ≤ r4.toInt by first | with_reducible assumption | omega) (show r4.toInt ≤ 9 by first | with_reducible assumption | omega) r26 (show 0 ≤ r26.toInt by first | with_reducible assumption | omega) (show r26.toInt ≤ 9 by first | with_reducible assumption | omega) r46 (show 1 ≤ r46.toInt by first | with_reducible assumption | omega) (show r46.toInt ≤ 9 by first | with_reducible assumption | omega) w67 H.size hT ) (cwV 4 hC.2.2.2.2 uV_RX7_106 rfl rfl rfl (by decide +kernel) ⟨Nat.le_of_ble_eq_true rfl, Nat.le_of_ble_eq_true rfl⟩) rfl hl.1 rfl (Nat.le_of_ble_eq_true rfl) dX7_readStreet_64 (fun w82 H locs hp81 hw => ?_)
          obtain ⟨hT, k83, hv85, hg84⟩ := hp81
          have hF := hF.tr k83 (by decide)
          have c86 := k83.gi kC_at29 (by decide) c73
          have c87 := k83.gi kC_at29 (by decide) c74
          have c88 := k83.gi kC_at1 (by decide) c75
          have c89 := k83.gi kC_at1 (by decide) c76
          have c90 := k83.gi kC_at1 (by decide) c77
          clear hg84
          replace hM := hM.call hv85 rfl
          refine lv_aload_n hx hb dX7_readStreet_67 rfl (lv_at hl 3 rfl) ?_
          refine lv_aload_n hx hb dX7_readStreet_68 rfl (lv_at hl 4 rfl) ?_
          refine tk_Vv hC hK hw hT hA hE hSR kC_at29 (by decide) rfl (kz_X7_readSigns_1 l adK adV dC dI cy ad B hB0 (Int.le_trans hB1 (by decide)) qr s1    w82 H.size hT (c90.trans (wk_eq.mpr (show x56.toInt = 0 by first | exact Int.le_antisymm (by omega) (by omega) | omega))) f1_ c86 (show 0 ≤ f1_.toInt from rf1_) (show f1_.toInt ≤ 11 from tf1_)) (cwV 1 hC.2.2.2.2 uV_RX7_110 rfl rfl rfl (by decide +kernel) ⟨Nat.le_of_ble_eq_true rfl, Nat.le_of_ble_eq_true rfl⟩) rfl hl.1 rfl (Nat.le_of_ble_eq_true rfl) dX7_readStreet_69 (fun w93 H locs hp92 hw => ?_)
          obtain ⟨hT, k94, hv104, hg103⟩ := hp92
          have hF := hF.tr k94 (by decide)
          have c105 := k94.gi kC_at29 (by decide) c86
          have c106 := k94.gi kC_at29 (by decide) c87
          have c107 := k94.gi kC_at1 (by decide) c88
          rcases hg103 with ⟨⟨x95, c96, rx95, tx95⟩, ⟨x97, c98, rx97, tx97⟩⟩ | ⟨⟨x99, c100, rx99, tx99⟩, ⟨x101, c102, rx101, tx101⟩⟩
          · replace hM := hM.call hv104 rfl
            have ex97 : x97.toInt = f1_.toInt := by rw [← c105.symm.trans c98]
            refine lv_aload_n hx hb dX7_readStreet_72 rfl (lv_at hl 3 rfl) ?_
            refine lv_dup hx hb dX7_readStreet_73 rfl ?_
            refine tk_geti hC hK hw hT hinX7 kC_at29 (by decide) rfl 9 (by decide) (List.mem_cons_of_mem _ uw_9_8) rfl rfl dX7_readStreet_74 (fun x108 c109 rx108 tx108 => ?_)
            refine wk_top f1_ (c109.symm.trans c105) ?_
            replace hM := hM.rd (sI_at c105)
            refine lv_iconst (v := 1) hx hb dX7_readStreet_77 (by decide) ?_
            refine lv_iadd hx hb dX7_readStreet_78 ?_
            refine lv_topi (fun x110 ex110 => ?_)
            have ezx110 := ex110
            have ex110 : x110.toInt = f1_.toInt + (1 : Int) := by rw [ex110]; exact wk_add (show (-2147483648) ≤ f1_.toInt + (1 : Int) by omega) (show f1_.toInt + (1 : Int) ≤ 2147483647 by omega)
            replace hM := hM.lt ex110.symm
            refine tk_puti hC hK hw hT hinX7 tyX7_ok nmX7 kC_at29 (by decide) rfl rfl 9 (by decide) (List.mem_cons_of_mem _ uw_9_8) rfl rfl rfl rfl (show 0 ≤ x110.toInt by first | with_reducible assumption | omega) (show x110.toInt ≤ 12 by first | with_reducible assumption | omega) dX7_readStreet_79 (fun H locs w111 hw hT k113 c112 => ?_)
            replace hM := hM.wr (sI_up k113 c112)
            have hF := hF.put kC_at29 (k := 9) (by decide) k113
            have c114 := k113.gi (Or.inr (by decide)) c106
            have c115 := k113.gi (Or.inr (by decide)) c107
            have c116 := k113.gi (Or.inr (by decide)) c96
            exact tk_vret hC hr hlocks hK ⟨hT, hF, hM.ret rfl, (Or.inl ⟨⟨x95, c116, (show 1 ≤ x95.toInt by first | with_reducible assumption | omega), (show x95.toInt ≤ 3205 by first | with_reducible assumption | omega)⟩, ⟨x110, c112, (show 0 ≤ x110.toInt by first | with_reducible assumption | omega), (show x110.toInt ≤ 12 by first | with_reducible assumption | omega)⟩⟩)⟩ hw dX7_readStreet_82
          · replace hM := hM.call hv104 rfl
            have ex101 : x101.toInt = f1_.toInt := by rw [← c105.symm.trans c102]
            refine lv_aload_n hx hb dX7_readStreet_72 rfl (lv_at hl 3 rfl) ?_
            refine lv_dup hx hb dX7_readStreet_73 rfl ?_
            refine tk_geti hC hK hw hT hinX7 kC_at29 (by decide) rfl 9 (by decide) (List.mem_cons_of_mem _ uw_9_8) rfl rfl dX7_readStreet_74 (fun x117 c118 rx117 tx117 => ?_)
            refine wk_top f1_ (c118.symm.trans c105) ?_
            replace hM := hM.rd (sI_at c105)
            refine lv_iconst (v := 1) hx hb dX7_readStreet_77 (by decide) ?_
            refine lv_iadd hx hb dX7_readStreet_78 ?_
            refine lv_topi (fun x119 ex119 => ?_)
            have ezx119 := ex119
            have ex119 : x119.toInt = f1_.toInt + (1 : Int) := by rw [ex119]; exact wk_add (show (-2147483648) ≤ f1_.toInt + (1 : Int) by omega) (show f1_.toInt + (1 : Int) ≤ 2147483647 by omega)
            replace hM := hM.lt ex119.symm
            refine tk_puti hC hK hw hT hinX7 tyX7_ok nmX7 kC_at29 (by decide) rfl rfl 9 (by decide) (List.mem_cons_of_mem _ uw_9_8) rfl rfl rfl rfl (show 0 ≤ x119.toInt by first | with_reducible assumption | omega) (show x119.toInt ≤ 12 by first | with_reducible assumption | omega) dX7_readStreet_79 (fun H locs w120 hw hT k122 c121 => ?_)
            replace hM := hM.wr (sI_up k122 c121)
            have hF := hF.put kC_at29 (k := 9) (by decide) k122
            have c123 := k122.gi (Or.inr (by decide)) c106
            have c124 := k122.gi (Or.inr (by decide)) c107
            have c125 := k122.gi (Or.inr (by decide)) c100
            exact tk_vret hC hr hlocks hK ⟨hT, hF, hM.ret rfl, (Or.inr ⟨⟨x11, c124, (show 1 ≤ x11.toInt by first | with_reducible assumption | omega), (show x11.toInt ≤ 400 by first | with_reducible assumption | omega)⟩, ⟨x99, c125, (show 0 ≤ x99.toInt by first | with_reducible assumption | omega), (show x99.toInt ≤ 0 by first | with_reducible assumption | omega)⟩, ⟨x1, c123, (show 1 ≤ x1.toInt by first | with_reducible assumption | omega), (show x1.toInt ≤ 10 from tx1)⟩, ⟨x119, c121, (show 1 ≤ x119.toInt by first | with_reducible assumption | omega), (show x119.toInt ≤ 12 by first | with_reducible assumption | omega)⟩⟩)⟩ hw dX7_readStreet_82
        · replace hM := hM.call (r' := (-1)) hv61 (by decide)
          refine lv_istore (lv' := [(4, .int (-1)), (3, .int r26), (2, .int r4), (0, .ref (ad 29)), (1, .ref (ad 1))]) hx hb dX7_readStreet_45 hl (by decide) rfl (fun ls hl => ?_)
          refine lv_aload_n hx hb dX7_readStreet_47 rfl (lv_at hl 4 rfl) ?_
          refine tk_Vi hC hK hw hT hA hE hSR kC_at1 (by decide) rfl (kz_X6_isFaulty_3 l adK adV dC dI cy ad B hB0 (Int.le_trans hB1 (by decide)) qr s1    w48 H.size hT x58 c59 (show 1 ≤ x58.toInt by first | with_reducible assumption | omega) (show x58.toInt ≤ 3205 by first | with_reducible assumption | omega)) (cwV 0 hC.2.2.2.2 uV_RX7_89 rfl rfl rfl (by decide +kernel) ⟨Nat.le_of_ble_eq_true rfl, Nat.le_of_ble_eq_true rfl⟩) rfl hl.1 rfl (Nat.le_of_ble_eq_true rfl) dX7_readStreet_48 (fun r126 w128 H locs hp127 hw => ?_)
          obtain ⟨hT, k129, hv133, hg132⟩ := hp127
          have hF := hF.tr k129 (by decide)
          have c134 := k129.gi kC_at29 (by decide) c62
          have c135 := k129.gi kC_at29 (by decide) c63
          have c136 := k129.gi kC_at1 (by decide) c64
          have c137 := k129.gi kC_at1 (by decide) c59
          obtain ⟨rfl, ⟨x130, c131, rx130, tx130⟩⟩ := hg132
          replace hM := hM.call (r' := 1) hv133 (by decide)
          have ex130 : x130.toInt = x58.toInt := by rw [← c137.symm.trans c131]
          refine lv_if_eq (tgt := 55) hx hb dX7_readStreet_51 (by decide) (fun c => absurd c (by decide)) (fun _ => ?_)
          replace hM := hM.neg (by decide)
          exact tk_vret hC hr hlocks hK ⟨hT, hF, hM.ret rfl, (Or.inl ⟨⟨x58, c137, (show 1 ≤ x58.toInt by first | with_reducible assumption | omega), (show x58.toInt ≤ 3205 by first | with_reducible assumption | omega)⟩, ⟨f1_, c134, (show 0 ≤ f1_.toInt from rf1_), (show f1_.toInt ≤ 12 from Int.le_trans tf1_ (by decide))⟩⟩)⟩ hw dX7_readStreet_54
      · have c45 : r26.toInt = r4.toInt := wk_eq.mp c45
        replace hM := hM.neg (fun q => q c45)
        refine lv_aload_n hx hb dX7_readStreet_29 rfl (lv_at hl 3 rfl) ?_
        refine lv_aload_n hx hb dX7_readStreet_30 rfl (lv_at hl 3 rfl) ?_
        refine tk_geti hC hK hw hT hinX6 kC_at1 (by decide) rfl 3 (by decide) (List.mem_cons_of_mem _ uw_9_11) rfl rfl dX7_readStreet_31 (fun x138 c139 rx138 tx138 => ?_)
        refine wk_top x34 (c139.symm.trans c35) ?_
        replace hM := hM.rd (sI_at c35)
        refine lv_iconst (v := 1) hx hb dX7_readStreet_34 (by decide) ?_
        refine tk_Vv hC hK hw hT hA hE hSR kC_at1 (by decide) rfl (kz_X6_blame_2 l adK adV dC dI cy ad B hB0 (Int.le_trans hB1 (by decide)) qr s1   x34 (show 0 ≤ x34.toInt by first | with_reducible assumption | omega) (show x34.toInt ≤ 400 by first | with_reducible assumption | omega) 1 (by decide) (by decide) w28 H.size hT (c37.trans (wk_eq.mpr (show x36.toInt = 0 by first | exact Int.le_antisymm (by omega) (by omega) | omega)))) (cwV 2 hC.2.2.2.2 uV_RX7_73 rfl rfl rfl (by decide +kernel) ⟨Nat.le_of_ble_eq_true rfl, Nat.le_of_ble_eq_true rfl⟩) rfl hl.1 rfl (Nat.le_of_ble_eq_true rfl) dX7_readStreet_35 (fun w142 H locs hp141 hw => ?_)
        obtain ⟨hT, k143, hv147, hg146⟩ := hp141
        try simp only [show (1 : Int32).toInt = 1 by decide] at hv147
        have hF := hF.tr k143 (by decide)
        have c148 := k143.gi kC_at29 (by decide) c42
        have c149 := k143.gi kC_at29 (by decide) c43
        have c150 := k143.gi kC_at1 (by decide) c44
        have c151 := k143.gi kC_at1 (by decide) c35
        obtain ⟨x144, c145, rx144, tx144⟩ := hg146
        replace hM := hM.call hv147 rfl
        refine lv_aload_n hx hb dX7_readStreet_38 rfl (lv_at hl 3 rfl) ?_
        refine lv_iconst (v := 1) hx hb dX7_readStreet_39 (by decide) ?_
        refine lv_bipush (v := 9) hx hb dX7_readStreet_40 (by decide) ?_
        refine tk_Vi hC hK hw hT hA hE hSR kC_at1 (by decide) rfl (kz_X6_readNumber_5 l adK adV dC dI cy ad B hB0 (Int.le_trans hB1 (by decide)) qr s1    w142 H.size hT x144 c145 (show 1 ≤ x144.toInt by first | with_reducible assumption | omega) (show x144.toInt ≤ 3205 by first | with_reducible assumption | omega)) (cwV 2 hC.2.2.2.2 uV_RX7_92 rfl rfl rfl (by decide +kernel) ⟨Nat.le_of_ble_eq_true rfl, Nat.le_of_ble_eq_true rfl⟩) rfl hl.1 rfl (Nat.le_of_ble_eq_true rfl) dX7_readStreet_42 (fun r152 w154 H locs hp153 hw => ?_)
        obtain ⟨hT, k155, hv159, hg158⟩ := hp153
        have hF := hF.tr k155 (by decide)
        have c160 := k155.gi kC_at29 (by decide) c148
        have c161 := k155.gi kC_at29 (by decide) c149
        have c162 := k155.gi kC_at1 (by decide) c150
        have c163 := k155.gi kC_at1 (by decide) c151
        have c164 := k155.gi kC_at1 (by decide) c145
        obtain ⟨rfl, ⟨x156, c157, rx156, tx156⟩⟩ := hg158
        replace hM := hM.call (r' := (-1)) hv159 (by decide)
        have ex156 : x156.toInt = x144.toInt := by rw [← c164.symm.trans c157]
        refine lv_istore (lv' := [(4, .int (-1)), (3, .int r26), (2, .int r4), (0, .ref (ad 29)), (1, .ref (ad 1))]) hx hb dX7_readStreet_45 hl (by decide) rfl (fun ls hl => ?_)
        refine lv_aload_n hx hb dX7_readStreet_47 rfl (lv_at hl 4 rfl) ?_
        refine tk_Vi hC hK hw hT hA hE hSR kC_at1 (by decide) rfl (kz_X6_isFaulty_3 l adK adV dC dI cy ad B hB0 (Int.le_trans hB1 (by decide)) qr s1    w154 H.size hT x144 c164 (show 1 ≤ x144.toInt by first | with_reducible assumption | omega) (show x144.toInt ≤ 3205 by first | with_reducible assumption | omega)) (cwV 0 hC.2.2.2.2 uV_RX7_89 rfl rfl rfl (by decide +kernel) ⟨Nat.le_of_ble_eq_true rfl, Nat.le_of_ble_eq_true rfl⟩) rfl hl.1 rfl (Nat.le_of_ble_eq_true rfl) dX7_readStreet_48 (fun r165 w167 H locs hp166 hw => ?_)
        obtain ⟨hT, k168, hv172, hg171⟩ := hp166
        have hF := hF.tr k168 (by decide)
        have c173 := k168.gi kC_at29 (by decide) c160
        have c174 := k168.gi kC_at29 (by decide) c161
        have c175 := k168.gi kC_at1 (by decide) c162
        have c176 := k168.gi kC_at1 (by decide) c163
        have c177 := k168.gi kC_at1 (by decide) c164
        obtain ⟨rfl, ⟨x169, c170, rx169, tx169⟩⟩ := hg171
        replace hM := hM.call (r' := 1) hv172 (by decide)
        have ex169 : x169.toInt = x144.toInt := by rw [← c177.symm.trans c170]
        refine lv_if_eq (tgt := 55) hx hb dX7_readStreet_51 (by decide) (fun c => absurd c (by decide)) (fun _ => ?_)
        replace hM := hM.neg (by decide)
        exact tk_vret hC hr hlocks hK ⟨hT, hF, hM.ret rfl, (Or.inl ⟨⟨x144, c177, (show 1 ≤ x144.toInt by first | with_reducible assumption | omega), (show x144.toInt ≤ 3205 by first | with_reducible assumption | omega)⟩, ⟨f1_, c173, (show 0 ≤ f1_.toInt from rf1_), (show f1_.toInt ≤ 12 from Int.le_trans tf1_ (by decide))⟩⟩)⟩ hw dX7_readStreet_54
    · replace hM := hM.call (r' := (-1)) hv41 (by decide)
      refine lv_istore_n (lv' := [(3, .int (-1)), (2, .int r4), (0, .ref (ad 29)), (1, .ref (ad 1))]) hx hb dX7_readStreet_23 rfl hl (by decide) rfl (fun ls hl => ?_)
      refine lv_iload_n hx hb dX7_readStreet_24 rfl (lv_at hl 0 rfl) ?_
      refine lv_iload_n hx hb dX7_readStreet_25 rfl (lv_at hl 1 rfl) ?_
      refine lv_icmp_ne (tgt := 38) hx hb dX7_readStreet_26 (by decide) (fun _ => ?_) (fun c => absurd (show (-1 : Int) = r4.toInt from wk_eq.mp c) (by omega))
      replace hM := hM.pos (by omega)
      refine lv_aload_n hx hb dX7_readStreet_38 rfl (lv_at hl 3 rfl) ?_
      refine lv_iconst (v := 1) hx hb dX7_readStreet_39 (by decide) ?_
      refine lv_bipush (v := 9) hx hb dX7_readStreet_40 (by decide) ?_
      refine tk_Vi hC hK hw hT hA hE hSR kC_at1 (by decide) rfl (kz_X6_readNumber_5 l adK adV dC dI cy ad B hB0 (Int.le_trans hB1 (by decide)) qr s1    w28 H.size hT x38 c39 (show 1 ≤ x38.toInt by first | with_reducible assumption | omega) (show x38.toInt ≤ 3205 by first | with_reducible assumption | omega)) (cwV 2 hC.2.2.2.2 uV_RX7_92 rfl rfl rfl (by decide +kernel) ⟨Nat.le_of_ble_eq_true rfl, Nat.le_of_ble_eq_true rfl⟩) rfl hl.1 rfl (Nat.le_of_ble_eq_true rfl) dX7_readStreet_42 (fun r178 w180 H locs hp179 hw => ?_)
      obtain ⟨hT, k181, hv185, hg184⟩ := hp179
      have hF := hF.tr k181 (by decide)
      have c186 := k181.gi kC_at29 (by decide) c42
      have c187 := k181.gi kC_at29 (by decide) c43
      have c188 := k181.gi kC_at1 (by decide) c44
      have c189 := k181.gi kC_at1 (by decide) c39
      obtain ⟨rfl, ⟨x182, c183, rx182, tx182⟩⟩ := hg184
      replace hM := hM.call (r' := (-1)) hv185 (by decide)
      have ex182 : x182.toInt = x38.toInt := by rw [← c189.symm.trans c183]
      refine lv_istore (lv' := [(4, .int (-1)), (3, .int (-1)), (2, .int r4), (0, .ref (ad 29)), (1, .ref (ad 1))]) hx hb dX7_readStreet_45 hl (by decide) rfl (fun ls hl => ?_)
      refine lv_aload_n hx hb dX7_readStreet_47 rfl (lv_at hl 4 rfl) ?_
      refine tk_Vi hC hK hw hT hA hE hSR kC_at1 (by decide) rfl (kz_X6_isFaulty_3 l adK adV dC dI cy ad B hB0 (Int.le_trans hB1 (by decide)) qr s1    w180 H.size hT x38 c189 (show 1 ≤ x38.toInt by first | with_reducible assumption | omega) (show x38.toInt ≤ 3205 by first | with_reducible assumption | omega)) (cwV 0 hC.2.2.2.2 uV_RX7_89 rfl rfl rfl (by decide +kernel) ⟨Nat.le_of_ble_eq_true rfl, Nat.le_of_ble_eq_true rfl⟩) rfl hl.1 rfl (Nat.le_of_ble_eq_true rfl) dX7_readStreet_48 (fun r190 w192 H locs hp191 hw => ?_)
      obtain ⟨hT, k193, hv197, hg196⟩ := hp191
      have hF := hF.tr k193 (by decide)
      have c198 := k193.gi kC_at29 (by decide) c186
      have c199 := k193.gi kC_at29 (by decide) c187
      have c200 := k193.gi kC_at1 (by decide) c188
      have c201 := k193.gi kC_at1 (by decide) c189
      obtain ⟨rfl, ⟨x194, c195, rx194, tx194⟩⟩ := hg196
      replace hM := hM.call (r' := 1) hv197 (by decide)
      have ex194 : x194.toInt = x38.toInt := by rw [← c201.symm.trans c195]
      refine lv_if_eq (tgt := 55) hx hb dX7_readStreet_51 (by decide) (fun c => absurd c (by decide)) (fun _ => ?_)
      replace hM := hM.neg (by decide)
      exact tk_vret hC hr hlocks hK ⟨hT, hF, hM.ret rfl, (Or.inl ⟨⟨x38, c201, (show 1 ≤ x38.toInt by first | with_reducible assumption | omega), (show x38.toInt ≤ 3205 by first | with_reducible assumption | omega)⟩, ⟨f1_, c198, (show 0 ≤ f1_.toInt from rf1_), (show f1_.toInt ≤ 12 from Int.le_trans tf1_ (by decide))⟩⟩)⟩ hw dX7_readStreet_54
  · replace hM := hM.call (r' := (-1)) hv20 (by decide)
    refine lv_istore_n (lv' := [(2, .int (-1)), (0, .ref (ad 29)), (1, .ref (ad 1))]) hx hb dX7_readStreet_11 rfl hl (by decide) rfl (fun ls hl => ?_)
    refine lv_aload_n hx hb dX7_readStreet_12 rfl (lv_at hl 2 rfl) ?_
    refine lv_iconst (v := 0) hx hb dX7_readStreet_13 (by decide) ?_
    refine lv_aload_n hx hb dX7_readStreet_14 rfl (lv_at hl 1 rfl) ?_
    refine tk_geti hC hK hw hT hinX7 kC_at29 (by decide) rfl 8 (by decide) (List.mem_cons_of_mem _ uw_9_7) rfl rfl dX7_readStreet_15 (fun x202 c203 rx202 tx202 => ?_)
    refine wk_top x1 (c203.symm.trans c22) ?_
    replace hM := hM.rd (sI_at c22)
    refine lv_iconst (v := 1) hx hb dX7_readStreet_18 (by decide) ?_
    refine lv_isub hx hb dX7_readStreet_19 ?_
    refine lv_topi (fun x204 ex204 => ?_)
    have ezx204 := ex204
    have ex204 : x204.toInt = x1.toInt - (1 : Int) := by rw [ex204]; exact wk_sub (show (-2147483648) ≤ x1.toInt - (1 : Int) by omega) (show x1.toInt - (1 : Int) ≤ 2147483647 by omega)
    replace hM := hM.lt ex204.symm
    refine tk_Vi hC hK hw hT hA hE hSR kC_at1 (by decide) rfl (kz_X6_readNumber_6 l adK adV dC dI cy ad B hB0 (Int.le_trans hB1 (by decide)) qr s1   x204 (show (-2) ≤ x204.toInt by first | with_reducible assumption | omega) (show x204.toInt ≤ 9 by first | with_reducible assumption | omega) w6 H.size hT x17 c18 (show 1 ≤ x17.toInt by first | with_reducible assumption | omega) (show x17.toInt ≤ 3205 by first | with_reducible assumption | omega)) (cwV 2 hC.2.2.2.2 uV_RX7_92 rfl rfl rfl (by decide +kernel) ⟨Nat.le_of_ble_eq_true rfl, Nat.le_of_ble_eq_true rfl⟩) rfl hl.1 rfl (Nat.le_of_ble_eq_true rfl) dX7_readStreet_20 (fun r205 w207 H locs hp206 hw => ?_)
    obtain ⟨hT, k208, hv212, hg211⟩ := hp206
    have hF := hF.tr k208 (by decide)
    have c213 := k208.gi kC_at29 (by decide) c21
    have c214 := k208.gi kC_at29 (by decide) c22
    have c215 := k208.gi kC_at1 (by decide) c18
    obtain ⟨rfl, ⟨x209, c210, rx209, tx209⟩⟩ := hg211
    replace hM := hM.call (r' := (-1)) hv212 (by decide)
    have ex209 : x209.toInt = x17.toInt := by rw [← c215.symm.trans c210]
    refine lv_istore_n (lv' := [(3, .int (-1)), (2, .int (-1)), (0, .ref (ad 29)), (1, .ref (ad 1))]) hx hb dX7_readStreet_23 rfl hl (by decide) rfl (fun ls hl => ?_)
    refine lv_iload_n hx hb dX7_readStreet_24 rfl (lv_at hl 0 rfl) ?_
    refine lv_iload_n hx hb dX7_readStreet_25 rfl (lv_at hl 1 rfl) ?_
    refine lv_icmp_ne (tgt := 38) hx hb dX7_readStreet_26 (by decide) (fun c => absurd (by decide) c) (fun _ => ?_)
    replace hM := hM.neg (by decide)
    refine lv_aload_n hx hb dX7_readStreet_29 rfl (lv_at hl 3 rfl) ?_
    refine lv_aload_n hx hb dX7_readStreet_30 rfl (lv_at hl 3 rfl) ?_
    refine tk_geti hC hK hw hT hinX6 kC_at1 (by decide) rfl 3 (by decide) (List.mem_cons_of_mem _ uw_9_11) rfl rfl dX7_readStreet_31 (fun x216 c217 rx216 tx216 => ?_)
    replace hM := hM.rd (sI_at c217)
    refine lv_iconst (v := 1) hx hb dX7_readStreet_34 (by decide) ?_
    refine tk_Vv hC hK hw hT hA hE hSR kC_at1 (by decide) rfl (kz_X6_blame_3 l adK adV dC dI cy ad B hB0 (Int.le_trans hB1 (by decide)) qr s1   x216 (show 0 ≤ x216.toInt from rx216) (show x216.toInt ≤ 400 from tx216) 1 (by decide) (by decide) w207 H.size hT x17 c215 (show 1 ≤ x17.toInt by first | with_reducible assumption | omega) (show x17.toInt ≤ 3205 by first | with_reducible assumption | omega)) (cwV 2 hC.2.2.2.2 uV_RX7_73 rfl rfl rfl (by decide +kernel) ⟨Nat.le_of_ble_eq_true rfl, Nat.le_of_ble_eq_true rfl⟩) rfl hl.1 rfl (Nat.le_of_ble_eq_true rfl) dX7_readStreet_35 (fun w220 H locs hp219 hw => ?_)
    obtain ⟨hT, k221, hv225, hg224⟩ := hp219
    try simp only [show (1 : Int32).toInt = 1 by decide] at hv225
    have hF := hF.tr k221 (by decide)
    have c226 := k221.gi kC_at29 (by decide) c213
    have c227 := k221.gi kC_at29 (by decide) c214
    have c228 := k221.gi kC_at1 (by decide) c215
    have c229 := k221.gi kC_at1 (by decide) c217
    obtain ⟨x222, c223, rx222, tx222⟩ := hg224
    replace hM := hM.call hv225 rfl
    have ex222 : x222.toInt = x17.toInt := by rw [← c228.symm.trans c223]
    refine lv_aload_n hx hb dX7_readStreet_38 rfl (lv_at hl 3 rfl) ?_
    refine lv_iconst (v := 1) hx hb dX7_readStreet_39 (by decide) ?_
    refine lv_bipush (v := 9) hx hb dX7_readStreet_40 (by decide) ?_
    refine tk_Vi hC hK hw hT hA hE hSR kC_at1 (by decide) rfl (kz_X6_readNumber_5 l adK adV dC dI cy ad B hB0 (Int.le_trans hB1 (by decide)) qr s1    w220 H.size hT x17 c228 (show 1 ≤ x17.toInt by first | with_reducible assumption | omega) (show x17.toInt ≤ 3205 by first | with_reducible assumption | omega)) (cwV 2 hC.2.2.2.2 uV_RX7_92 rfl rfl rfl (by decide +kernel) ⟨Nat.le_of_ble_eq_true rfl, Nat.le_of_ble_eq_true rfl⟩) rfl hl.1 rfl (Nat.le_of_ble_eq_true rfl) dX7_readStreet_42 (fun r230 w232 H locs hp231 hw => ?_)
    obtain ⟨hT, k233, hv237, hg236⟩ := hp231
    have hF := hF.tr k233 (by decide)
    have c238 := k233.gi kC_at29 (by decide) c226
    have c239 := k233.gi kC_at29 (by decide) c227
    have c240 := k233.gi kC_at1 (by decide) c228
    have c241 := k233.gi kC_at1 (by decide) c229
    obtain ⟨rfl, ⟨x234, c235, rx234, tx234⟩⟩ := hg236
    replace hM := hM.call (r' := (-1)) hv237 (by decide)
    have ex234 : x234.toInt = x17.toInt := by rw [← c240.symm.trans c235]
    refine lv_istore (lv' := [(4, .int (-1)), (3, .int (-1)), (2, .int (-1)), (0, .ref (ad 29)), (1, .ref (ad 1))]) hx hb dX7_readStreet_45 hl (by decide) rfl (fun ls hl => ?_)
    refine lv_aload_n hx hb dX7_readStreet_47 rfl (lv_at hl 4 rfl) ?_
    refine tk_Vi hC hK hw hT hA hE hSR kC_at1 (by decide) rfl (kz_X6_isFaulty_3 l adK adV dC dI cy ad B hB0 (Int.le_trans hB1 (by decide)) qr s1    w232 H.size hT x17 c240 (show 1 ≤ x17.toInt by first | with_reducible assumption | omega) (show x17.toInt ≤ 3205 by first | with_reducible assumption | omega)) (cwV 0 hC.2.2.2.2 uV_RX7_89 rfl rfl rfl (by decide +kernel) ⟨Nat.le_of_ble_eq_true rfl, Nat.le_of_ble_eq_true rfl⟩) rfl hl.1 rfl (Nat.le_of_ble_eq_true rfl) dX7_readStreet_48 (fun r242 w244 H locs hp243 hw => ?_)
    obtain ⟨hT, k245, hv249, hg248⟩ := hp243
    have hF := hF.tr k245 (by decide)
    have c250 := k245.gi kC_at29 (by decide) c238
    have c251 := k245.gi kC_at29 (by decide) c239
    have c252 := k245.gi kC_at1 (by decide) c240
    have c253 := k245.gi kC_at1 (by decide) c241
    obtain ⟨rfl, ⟨x246, c247, rx246, tx246⟩⟩ := hg248
    replace hM := hM.call (r' := 1) hv249 (by decide)
    have ex246 : x246.toInt = x17.toInt := by rw [← c252.symm.trans c247]
    refine lv_if_eq (tgt := 55) hx hb dX7_readStreet_51 (by decide) (fun c => absurd c (by decide)) (fun _ => ?_)
    replace hM := hM.neg (by decide)
    exact tk_vret hC hr hlocks hK ⟨hT, hF, hM.ret rfl, (Or.inl ⟨⟨x17, c252, (show 1 ≤ x17.toInt by first | with_reducible assumption | omega), (show x17.toInt ≤ 3205 by first | with_reducible assumption | omega)⟩, ⟨f1_, c250, (show 0 ≤ f1_.toInt from rf1_), (show f1_.toInt ≤ 12 from Int.le_trans tf1_ (by decide))⟩⟩)⟩ hw dX7_readStreet_54
abbrev Pz_X7_readClause_2 (ad : Nat → Nat) (cy : Nat → ClassId) (B : Int) (qr : Nat) (s1 : Int)  (w0 : va_W) : va_W → Prop := fun u => TW ksC ad cy B qr s1 u ∧ FE ksC [(6, 1, 1), (6, 3, 3), (6, 4, 4), (7, 9, 9), (24, 0, 26), (25, 0, 13), (26, 0, 91), (27, 0, 13), (28, 0, 26)] w0 u ∧ Ev (fun n => m_X7_readClause n 29 1 1 (sI w0)) (0, sI u) ∧ (((∃ y : Int32, gi u 1 4 = y ∧ 1 ≤ y.toInt ∧ y.toInt ≤ 3205) ∧ (∃ y : Int32, gi u 29 9 = y ∧ 0 ≤ y.toInt ∧ y.toInt ≤ 11)) ∨ ((∃ y : Int32, gi u 1 4 = y ∧ 0 ≤ y.toInt ∧ y.toInt ≤ 3205) ∧ (∃ y : Int32, gi u 29 9 = y ∧ 0 ≤ y.toInt ∧ y.toInt ≤ 12)))
set_option maxHeartbeats 4000000 in
set_option maxRecDepth 100000 in
theorem kz_X7_readClause_2 (l : Launch) (adK adV : Nat → Nat) (dC : Nat → ClassId) (dI : Nat → Nat → Nat) (cy : Nat → ClassId) (ad : Nat → Nat) (B : Int) (hB0 : 2147483648 ≤ B) (hB1 : B ≤ 1152921504606846976) (qr : Nat) (s1 : Int)   (w0 : va_W) (sz : Nat) (hT : TW ksC ad cy B qr s1 w0) (f0_ : Int32) (cf0_ : gi w0 29 9 = f0_) (rf0_ : 0 ≤ f0_.toInt) (tf0_ : f0_.toInt ≤ 11) : Met l yX7_readClause (wu yX7_readClause cX7_readClause 3 none) ({ frames := 7, cells := 0, slots := 0, locals := 209 }) (va_Pc [.ref (ad 29), .ref (ad 1), .int 1] (wpreS adK adV dC dI cy sz w0)) (va_Qv (Pz_X7_readClause_2 ad cy B qr s1  w0) (fun u : va_W => wpost dC dI cy (va_A w0 sz) u) (va_A w0 sz)) 0 0 (va_A w0 sz) := by
  refine Met.ofW (cc := cX7_readClause) (maxL := 3) (ret := none) (by decide) rfl ?_
  intro p e s m args below meth c s₁ Bk hml hv
  obtain ⟨rfl, ⟨hsz, hP, hK, hD0⟩, hE, hSR⟩ := hv
  have hx := Bk.exec
  have hb := Bk.bytes
  have hr := Bk.returns
  have hlocks := Bk.notSynchronized
  have hC : CallFix p m c cX7_readClause 3 s _ (wu yX7_readClause cX7_readClause 3 none) RX7 := ⟨hx, hb, hml, findClass_of_methodNamed Bk.named, atoms_spec (ws := (wu yX7_readClause cX7_readClause 3 none)) Bk.pre⟩
  subst hsz
  have hD := hD0.self (sz := s.heap.size)
  generalize hAe : va_A w0 s.heap.size = A at hD hE ⊢
  have hA : ∀ q : Nat, s.heap.size ≤ q → A q := fun q h => by rw [← hAe]; exact Or.inr h
  have hw : Wd dC dI A s.heap s.heap [] w0 := ⟨hP, hD, va_S.rf⟩
  have hF : FE ksC [(6, 1, 1), (6, 3, 3), (6, 4, 4), (7, 9, 9), (24, 0, 26), (25, 0, 13), (26, 0, 91), (27, 0, 13), (28, 0, 26)] w0 w0 := FE.rf
  have hl := lv_entry ([.ref (ad 29), .ref (ad 1), .int 1]) (n := 3) (Nat.le_of_ble_eq_true rfl)
  rw [lg_entry_eq]
  generalize (lg_sl ([.ref (ad 29), .ref (ad 1), .int 1]) ++ List.replicate (3 - (lg_sl ([.ref (ad 29), .ref (ad 1), .int 1])).length) Slot.unset).toArray = ls at hl ⊢
  have hl : lv_has ls 3 [(0, .ref (ad 29)), (1, .ref (ad 1)), (2, .int 1)] := hl
  generalize hloc : ([] : List Loc) = locs at hw ⊢
  have J57 : ∀ (f57_1_4 : Int32) (f57_29_9 : Int32) (H : Heap) (locs : List Loc) (ls : Array Slot) (w1 : va_W), 0 ≤ f57_1_4.toInt → f57_1_4.toInt ≤ 3205 → 0 ≤ f57_29_9.toInt → f57_29_9.toInt ≤ 12 → Wd dC dI A s.heap H locs w1 → TW ksC ad cy B qr s1 w1 → FE ksC [(6, 1, 1), (6, 3, 3), (6, 4, 4), (7, 9, 9), (24, 0, 26), (25, 0, 13), (26, 0, 91), (27, 0, 13), (28, 0, 26)] w0 w1 → gi w1 1 4 = f57_1_4 → gi w1 29 9 = f57_29_9 → TT (fun n => m_X7_readClause n 29 1 1 (sI w0)) (fun n => b_X7_readClause_57 n 29 1 (sI w1)) → lv_has ls 3 [(0, .ref (ad 29)), (1, .ref (ad 1)), (2, .int 1)] → W p l e ({ frames := 7, cells := 0, slots := 0, locals := 209 }) s m (List.toArray [.ref (ad 29), .ref (ad 1), .int 1]) below meth c H locs 0 0 (MQ below (va_Qv (Pz_X7_readClause_2 ad cy B qr s1  w0) (fun u : va_W => wpost dC dI cy A u) A) (List.toArray [.ref (ad 29), .ref (ad 1), .int 1]) s 0 0 A) (F0 m 57 ls []) := by
    intro f57_1_4 f57_29_9 H locs ls w1 r2 t3 r5 t6 hw hT hF c4 c7 hM hl
    exact tk_vret hC hr hlocks hK ⟨hT, hF, hM.ret rfl, (Or.inr ⟨⟨f57_1_4, c4, (show 0 ≤ f57_1_4.toInt from r2), (show f57_1_4.toInt ≤ 3205 from t3)⟩, ⟨f57_29_9, c7, (show 0 ≤ f57_29_9.toInt from r5), (show f57_29_9.toInt ≤ 12 from t6)⟩⟩)⟩ hw dX7_readClause_57
  have hM : TT (fun n => m_X7_readClause n 29 1 1 (sI w0)) (fun n => m_X7_readClause n 29 1 1 (sI w0)) := TT.rf
  refine lv_aload_n hx hb dX7_readClause_0 rfl (lv_at hl 1 rfl) ?_
  refine tk_Vi hC hK hw hT hA hE hSR kC_at1 (by decide) rfl (kz_X6_isFaulty_1 l adK adV dC dI cy ad B hB0 (Int.le_trans hB1 (by decide)) qr s1    w0 s.heap.size hT ) (cwV 0 hC.2.2.2.2 uV_RX7_89 rfl rfl rfl (by decide +kernel) ⟨Nat.le_of_ble_eq_true rfl, Nat.le_of_ble_eq_true rfl⟩) rfl hl.1 rfl (Nat.le_of_ble_eq_true rfl) dX7_readClause_1 (fun r8 w10 H locs hp9 hw => ?_)
  obtain ⟨hT, k11, hv17, hg16⟩ := hp9
  have hF := hF.tr k11 (by decide)
  have c18 := k11.gi kC_at29 (by decide) cf0_
  rcases hg16 with ⟨rfl, ⟨x12, c13, rx12, tx12⟩⟩ | ⟨rfl, ⟨x14, c15, rx14, tx14⟩⟩
  · replace hM := hM.call (r' := 0) hv17 (by decide)
    refine lv_if_eq (tgt := 8) hx hb dX7_readClause_4 (by decide) (fun _ => ?_) (fun c => absurd (by decide) c)
    replace hM := hM.pos (by decide)
    refine lv_iload_n hx hb dX7_readClause_8 rfl (lv_at hl 2 rfl) ?_
    refine lv_if_ne (tgt := 26) hx hb dX7_readClause_9 (by decide) (fun _ => ?_) (fun c => absurd c (by decide))
    replace hM := hM.pos (by decide)
    refine lv_iload_n hx hb dX7_readClause_26 rfl (lv_at hl 2 rfl) ?_
    refine lv_iconst (v := 1) hx hb dX7_readClause_27 (by decide) ?_
    refine lv_icmp_ne (tgt := 39) hx hb dX7_readClause_28 (by decide) (fun c => absurd (by decide) c) (fun _ => ?_)
    replace hM := hM.neg (by decide)
    refine lv_aload_n hx hb dX7_readClause_31 rfl (lv_at hl 0 rfl) ?_
    refine lv_aload_n hx hb dX7_readClause_32 rfl (lv_at hl 1 rfl) ?_
    refine tk_Vv hC hK hw hT hA hE hSR kC_at29 (by decide) rfl (kz_X7_readStreet_1 l adK adV dC dI cy ad B hB0 (Int.le_trans hB1 (by decide)) qr s1    w10 H.size hT (c13.trans (wk_eq.mpr (show x12.toInt = 0 by first | exact Int.le_antisymm (by omega) (by omega) | omega))) f0_ c18 (show 0 ≤ f0_.toInt from rf0_) (show f0_.toInt ≤ 11 from tf0_)) (cwV 1 hC.2.2.2.2 uV_RX7_96 rfl rfl rfl (by decide +kernel) ⟨Nat.le_of_ble_eq_true rfl, Nat.le_of_ble_eq_true rfl⟩) rfl hl.1 rfl (Nat.le_of_ble_eq_true rfl) dX7_readClause_33 (fun w21 H locs hp20 hw => ?_)
    obtain ⟨hT, k22, hv36, hg35⟩ := hp20
    have hF := hF.tr k22 (by decide)
    rcases hg35 with ⟨⟨x23, c24, rx23, tx23⟩, ⟨x25, c26, rx25, tx25⟩⟩ | ⟨⟨x27, c28, rx27, tx27⟩, ⟨x29, c30, rx29, tx29⟩, ⟨x31, c32, rx31, tx31⟩, ⟨x33, c34, rx33, tx33⟩⟩
    · replace hM := hM.call hv36 rfl
      refine lv_goto (tgt := 57) hx hb dX7_readClause_36 (by decide) ?_
      exact J57 x23 x25 H locs ls w21 (show 0 ≤ x23.toInt by first | with_reducible assumption | omega) (show x23.toInt ≤ 3205 by first | with_reducible assumption | omega) (show 0 ≤ x25.toInt by first | with_reducible assumption | omega) (show x25.toInt ≤ 12 by first | with_reducible assumption | omega)  hw hT hF c24 c26 hM (lv_sub hl [0, 1, 2] rfl)
    · replace hM := hM.call hv36 rfl
      refine lv_goto (tgt := 57) hx hb dX7_readClause_36 (by decide) ?_
      exact J57 x29 x33 H locs ls w21 (show 0 ≤ x29.toInt by first | with_reducible assumption | omega) (show x29.toInt ≤ 3205 by first | with_reducible assumption | omega) (show 0 ≤ x33.toInt by first | with_reducible assumption | omega) (show x33.toInt ≤ 12 by first | with_reducible assumption | omega)  hw hT hF c30 c34 hM (lv_sub hl [0, 1, 2] rfl)
  · replace hM := hM.call (r' := 1) hv17 (by decide)
    refine lv_if_eq (tgt := 8) hx hb dX7_readClause_4 (by decide) (fun c => absurd c (by decide)) (fun _ => ?_)
    replace hM := hM.neg (by decide)
    exact tk_vret hC hr hlocks hK ⟨hT, hF, hM.ret rfl, (Or.inl ⟨⟨x14, c15, (show 1 ≤ x14.toInt by first | with_reducible assumption | omega), (show x14.toInt ≤ 3205 by first | with_reducible assumption | omega)⟩, ⟨f0_, c18, (show 0 ≤ f0_.toInt from rf0_), (show f0_.toInt ≤ 11 from tf0_)⟩⟩)⟩ hw dX7_readClause_7
abbrev Pz_X6_readNumber_7 (ad : Nat → Nat) (cy : Nat → ClassId) (B : Int) (qr : Nat) (s1 : Int)  (w0 : va_W) : Int32 → va_W → Prop := fun r u => TW ksC ad cy B qr s1 u ∧ FE ksC [(6, 1, 1), (6, 3, 3), (6, 4, 4)] w0 u ∧ Ev (fun n => m_X6_readNumber n 1 0 359 (sI w0)) (r.toInt, sI u) ∧ ((0 ≤ r.toInt ∧ r.toInt ≤ 359 ∧ (∃ y : Int32, gi u 1 2 = y ∧ 1 ≤ y.toInt ∧ y.toInt ≤ 400) ∧ (∃ y : Int32, gi u 1 3 = y ∧ 0 ≤ y.toInt ∧ y.toInt ≤ 399) ∧ (∃ y : Int32, gi u 1 4 = y ∧ 0 ≤ y.toInt ∧ y.toInt ≤ 0)) ∨ (r = (-1) ∧ (∃ y : Int32, gi u 1 4 = y ∧ 1 ≤ y.toInt ∧ y.toInt ≤ 3205)))
set_option maxHeartbeats 4000000 in
set_option maxRecDepth 100000 in
theorem kz_X6_readNumber_7 (l : Launch) (adK adV : Nat → Nat) (dC : Nat → ClassId) (dI : Nat → Nat → Nat) (cy : Nat → ClassId) (ad : Nat → Nat) (B : Int) (hB0 : 2147483648 ≤ B) (hB1 : B ≤ 1152921504606846976) (qr : Nat) (s1 : Int)   (w0 : va_W) (sz : Nat) (hT : TW ksC ad cy B qr s1 w0) (cf0_ : gi w0 1 4 = 0) : Met l yX6_readNumber (wu yX6_readNumber cX6_readNumber 4 (some .int)) ({ frames := 2, cells := 0, slots := 0, locals := 34 }) (va_Pc [.ref (ad 1), .int 0, .int 359] (wpreS adK adV dC dI cy sz w0)) (va_Qi (Pz_X6_readNumber_7 ad cy B qr s1  w0) (fun u : va_W => wpost dC dI cy (va_A w0 sz) u) (va_A w0 sz)) 0 0 (va_A w0 sz) := by
  refine Met.ofW (cc := cX6_readNumber) (maxL := 4) (ret := (some .int)) (by decide) rfl ?_
  intro p e s m args below meth c s₁ Bk hml hv
  obtain ⟨rfl, ⟨hsz, hP, hK, hD0⟩, hE, hSR⟩ := hv
  have hx := Bk.exec
  have hb := Bk.bytes
  have hr := Bk.returns
  have hlocks := Bk.notSynchronized
  have hC : CallFix p m c cX6_readNumber 4 s _ (wu yX6_readNumber cX6_readNumber 4 (some .int)) RX6 := ⟨hx, hb, hml, findClass_of_methodNamed Bk.named, atoms_spec (ws := (wu yX6_readNumber cX6_readNumber 4 (some .int))) Bk.pre⟩
  subst hsz
  have hD := hD0.self (sz := s.heap.size)
  generalize hAe : va_A w0 s.heap.size = A at hD hE ⊢
  have hA : ∀ q : Nat, s.heap.size ≤ q → A q := fun q h => by rw [← hAe]; exact Or.inr h
  have hw : Wd dC dI A s.heap s.heap [] w0 := ⟨hP, hD, va_S.rf⟩
  have hF : FE ksC [(6, 1, 1), (6, 3, 3), (6, 4, 4)] w0 w0 := FE.rf
  have hl := lv_entry ([.ref (ad 1), .int 0, .int 359]) (n := 4) (Nat.le_of_ble_eq_true rfl)
  rw [lg_entry_eq]
  generalize (lg_sl ([.ref (ad 1), .int 0, .int 359]) ++ List.replicate (4 - (lg_sl ([.ref (ad 1), .int 0, .int 359])).length) Slot.unset).toArray = ls at hl ⊢
  have hl : lv_has ls 4 [(0, .ref (ad 1)), (1, .int 0), (2, .int 359)] := hl
  generalize hloc : ([] : List Loc) = locs at hw ⊢
  have hinX6 : ∀ w ∈ u_ws RX6 TX6 5, w ∈ (wu yX6_readNumber cX6_readNumber 4 (some .int)) := fun _ h => List.mem_cons_of_mem _ (up_72 h)
  have J125 : ∀ (v125_3 : Int32) (f125_1_1 : Int32) (f125_1_2 : Int32) (f125_1_3 : Int32) (H : Heap) (locs : List Loc) (ls : Array Slot) (w1 : va_W), 0 ≤ f125_1_1.toInt → f125_1_1.toInt ≤ 400 → 1 ≤ f125_1_2.toInt → f125_1_2.toInt ≤ 400 → 0 ≤ f125_1_3.toInt → f125_1_3.toInt ≤ 399 → Wd dC dI A s.heap H locs w1 → TW ksC ad cy B qr s1 w1 → FE ksC [(6, 1, 1), (6, 3, 3), (6, 4, 4)] w0 w1 → gi w1 1 1 = f125_1_1 → gi w1 1 2 = f125_1_2 → gi w1 1 3 = f125_1_3 → gi w1 1 4 = 0 → TT (fun n => m_X6_readNumber n 1 0 359 (sI w0)) (fun n => b_X6_readNumber_125 (j_X6_readNumber 1 n) n 1 (sI w1)) → lv_has ls 4 [(0, .ref (ad 1)), (1, .int 0), (2, .int 359), (3, .int v125_3)] → W p l e ({ frames := 2, cells := 0, slots := 0, locals := 34 }) s m (List.toArray [.ref (ad 1), .int 0, .int 359]) below meth c H locs 0 0 (MQ below (va_Qi (Pz_X6_readNumber_7 ad cy B qr s1  w0) (fun u : va_W => wpost dC dI cy A u) A) (List.toArray [.ref (ad 1), .int 0, .int 359]) s 0 0 A) (F0 m 125 ls []) := by
    intro v125_3 f125_1_1 f125_1_2 f125_1_3 H locs ls w1 r2 t3 r5 t6 r8 t9 hw hT hF c4 c7 c10 c11 hM hl
    refine lv_aload_n hx hb dX6_readNumber_125 rfl (lv_at hl 0 rfl) ?_
    refine lv_aload_n hx hb dX6_readNumber_126 rfl (lv_at hl 0 rfl) ?_
    refine tk_geti hC hK hw hT hinX6 kC_at1 (by decide) rfl 3 (by decide) (List.mem_cons_of_mem _ uw_9_17) rfl rfl dX6_readNumber_127 (fun x12 c13 rx12 tx12 => ?_)
    refine wk_top f125_1_3 (c13.symm.trans c10) ?_
    replace hM := hM.rd (sI_at c10)
    refine lv_iconst (v := 1) hx hb dX6_readNumber_130 (by decide) ?_
    refine tk_Vv hC hK hw hT hA hE hSR kC_at1 (by decide) rfl (kz_X6_blame_2 l adK adV dC dI cy ad B hB0 (Int.le_trans hB1 (by decide)) qr s1   f125_1_3 (show 0 ≤ f125_1_3.toInt from r8) (show f125_1_3.toInt ≤ 400 from Int.le_trans t9 (by decide)) 1 (by decide) (by decide) w1 H.size hT c11) (cwV 2 hC.2.2.2.2 uV_RX6_35 rfl rfl rfl (by decide +kernel) ⟨Nat.le_of_ble_eq_true rfl, Nat.le_of_ble_eq_true rfl⟩) rfl hl.1 rfl (Nat.le_of_ble_eq_true rfl) dX6_readNumber_131 (fun w16 H locs hp15 hw => ?_)
    obtain ⟨hT, k17, hv21, hg20⟩ := hp15
    try simp only [show (1 : Int32).toInt = 1 by decide] at hv21
    have hF := hF.tr k17 (by decide)
    have c22 := k17.gi kC_at1 (by decide) c4
    have c23 := k17.gi kC_at1 (by decide) c7
    have c24 := k17.gi kC_at1 (by decide) c10
    obtain ⟨x18, c19, rx18, tx18⟩ := hg20
    replace hM := hM.call hv21 rfl
    refine lv_iconst (v := (-1)) hx hb dX6_readNumber_134 (by decide) ?_
    exact tk_iret hC hr hlocks hK ⟨hT, hF, hM.ret (by decide), (Or.inr ⟨rfl, ⟨x18, c19, (show 1 ≤ x18.toInt by first | with_reducible assumption | omega), (show x18.toInt ≤ 3205 by first | with_reducible assumption | omega)⟩⟩)⟩ hw dX6_readNumber_135
  have J102 : ∀ (v102_3 : Int32) (f102_1_1 : Int32) (f102_1_2 : Int32) (f102_1_3 : Int32) (H : Heap) (locs : List Loc) (ls : Array Slot) (w25 : va_W), 0 ≤ f102_1_1.toInt → f102_1_1.toInt ≤ 400 → 1 ≤ f102_1_2.toInt → f102_1_2.toInt ≤ 400 → 0 ≤ f102_1_3.toInt → f102_1_3.toInt ≤ 399 → Wd dC dI A s.heap H locs w25 → TW ksC ad cy B qr s1 w25 → FE ksC [(6, 1, 1), (6, 3, 3), (6, 4, 4)] w0 w25 → gi w25 1 1 = f102_1_1 → gi w25 1 2 = f102_1_2 → gi w25 1 3 = f102_1_3 → gi w25 1 4 = 0 → TT (fun n => m_X6_readNumber n 1 0 359 (sI w0)) (fun n => b_X6_readNumber_102 (j_X6_readNumber 1 n) n 1 (0 : Int) (359 : Int) (v102_3.toInt) (sI w25)) → lv_has ls 4 [(0, .ref (ad 1)), (1, .int 0), (2, .int 359), (3, .int v102_3)] → W p l e ({ frames := 2, cells := 0, slots := 0, locals := 34 }) s m (List.toArray [.ref (ad 1), .int 0, .int 359]) below meth c H locs 0 0 (MQ below (va_Qi (Pz_X6_readNumber_7 ad cy B qr s1  w0) (fun u : va_W => wpost dC dI cy A u) A) (List.toArray [.ref (ad 1), .int 0, .int 359]) s 0 0 A) (F0 m 102 ls []) := by
    intro v102_3 f102_1_1 f102_1_2 f102_1_3 H locs ls w25 r26 t27 r29 t30 r32 t33 hw hT hF c28 c31 c34 c35 hM hl
    refine lv_aload_n hx hb dX6_readNumber_102 rfl (lv_at hl 0 rfl) ?_
    refine tk_geti hC hK hw hT hinX6 kC_at1 (by decide) rfl 1 (by decide) (List.mem_cons_of_mem _ uw_9_16) rfl rfl dX6_readNumber_103 (fun x36 c37 rx36 tx36 => ?_)
    refine wk_top f102_1_1 (c37.symm.trans c28) ?_
    replace hM := hM.rd (sI_at c28)
    refine lv_aload_n hx hb dX6_readNumber_106 rfl (lv_at hl 0 rfl) ?_
    refine tk_geti hC hK hw hT hinX6 kC_at1 (by decide) rfl 3 (by decide) (List.mem_cons_of_mem _ uw_9_17) rfl rfl dX6_readNumber_107 (fun x38 c39 rx38 tx38 => ?_)
    refine wk_top f102_1_3 (c39.symm.trans c34) ?_
    replace hM := hM.rd (sI_at c34)
    refine lv_isub hx hb dX6_readNumber_110 ?_
    refine lv_topi (fun x40 ex40 => ?_)
    have ezx40 := ex40
    have ex40 : x40.toInt = f102_1_1.toInt - f102_1_3.toInt := by rw [ex40]; exact wk_sub (show (-2147483648) ≤ f102_1_1.toInt - f102_1_3.toInt by omega) (show f102_1_1.toInt - f102_1_3.toInt ≤ 2147483647 by omega)
    replace hM := hM.lt ex40.symm
    refine lv_iconst (v := 5) hx hb dX6_readNumber_111 (by decide) ?_
    refine lv_icmp_gt (tgt := 125) hx hb dX6_readNumber_112 (by decide) (fun c41 => ?_) (fun c41 => ?_)
    · have c41 : (5 : Int) < x40.toInt := wk_lt.mp c41
      replace hM := hM.pos c41
      exact J125 v102_3 f102_1_1 f102_1_2 f102_1_3 H locs ls w25 (show 0 ≤ f102_1_1.toInt from r26) (show f102_1_1.toInt ≤ 400 from t27) (show 1 ≤ f102_1_2.toInt from r29) (show f102_1_2.toInt ≤ 400 from t30) (show 0 ≤ f102_1_3.toInt from r32) (show f102_1_3.toInt ≤ 399 from t33)  hw hT hF c28 c31 c34 c35 hM (lv_sub hl [0, 1, 2, 3] rfl)
    · have c41 : x40.toInt ≤ (5 : Int) := wk_ltF c41
      replace hM := hM.neg (Int.not_lt.mpr c41)
      refine lv_iload_n hx hb dX6_readNumber_115 rfl (lv_at hl 3 rfl) ?_
      refine lv_iload_n hx hb dX6_readNumber_116 rfl (lv_at hl 1 rfl) ?_
      refine lv_icmp_lt (tgt := 125) hx hb dX6_readNumber_117 (by decide) (fun c42 => ?_) (fun c42 => ?_)
      · have c42 : v102_3.toInt < (0 : Int) := wk_lt.mp c42
        replace hM := hM.pos c42
        exact J125 v102_3 f102_1_1 f102_1_2 f102_1_3 H locs ls w25 (show 0 ≤ f102_1_1.toInt from r26) (show f102_1_1.toInt ≤ 400 from t27) (show 1 ≤ f102_1_2.toInt from r29) (show f102_1_2.toInt ≤ 400 from t30) (show 0 ≤ f102_1_3.toInt from r32) (show f102_1_3.toInt ≤ 399 from t33)  hw hT hF c28 c31 c34 c35 hM (lv_sub hl [0, 1, 2, 3] rfl)
      · have c42 : (0 : Int) ≤ v102_3.toInt := wk_ltF c42
        replace hM := hM.neg (Int.not_lt.mpr c42)
        refine lv_iload_n hx hb dX6_readNumber_120 rfl (lv_at hl 3 rfl) ?_
        refine lv_iload_n hx hb dX6_readNumber_121 rfl (lv_at hl 2 rfl) ?_
        refine lv_icmp_le (tgt := 136) hx hb dX6_readNumber_122 (by decide) (fun c43 => ?_) (fun c43 => ?_)
        · have c43 : v102_3.toInt ≤ (359 : Int) := wk_le.mp c43
          replace hM := hM.pos c43
          refine lv_iload_n hx hb dX6_readNumber_136 rfl (lv_at hl 3 rfl) ?_
          exact tk_iret hC hr hlocks hK ⟨hT, hF, hM.ret rfl, (Or.inl ⟨(show 0 ≤ v102_3.toInt by first | with_reducible assumption | omega), (show v102_3.toInt ≤ 359 by first | with_reducible assumption | omega), ⟨f102_1_2, c31, (show 1 ≤ f102_1_2.toInt from r29), (show f102_1_2.toInt ≤ 400 from t30)⟩, ⟨f102_1_3, c34, (show 0 ≤ f102_1_3.toInt from r32), (show f102_1_3.toInt ≤ 399 from t33)⟩, ⟨0, c35, (by decide), (by decide)⟩⟩)⟩ hw dX6_readNumber_137
        · have c43 : (359 : Int) < v102_3.toInt := wk_leF c43
          replace hM := hM.neg (Int.not_le.mpr c43)
          exact J125 v102_3 f102_1_1 f102_1_2 f102_1_3 H locs ls w25 (show 0 ≤ f102_1_1.toInt from r26) (show f102_1_1.toInt ≤ 400 from t27) (show 1 ≤ f102_1_2.toInt from r29) (show f102_1_2.toInt ≤ 400 from t30) (show 0 ≤ f102_1_3.toInt from r32) (show f102_1_3.toInt ≤ 399 from t33)  hw hT hF c28 c31 c34 c35 hM (lv_sub hl [0, 1, 2, 3] rfl)
  have L32 : ∀ (n32 : Nat) (v32_3 : Int32) (f32_1_1 : Int32) (f32_1_2 : Int32) (f32_1_3 : Int32) (H : Heap) (locs : List Loc) (ls : Array Slot) (w44 : va_W), 0 ≤ f32_1_1.toInt → f32_1_1.toInt ≤ 400 → 1 ≤ f32_1_2.toInt → f32_1_2.toInt ≤ 400 → 0 ≤ f32_1_3.toInt → f32_1_3.toInt ≤ 399 → (400 - f32_1_1.toInt).toNat < n32 → Wd dC dI A s.heap H locs w44 → TW ksC ad cy B qr s1 w44 → FE ksC [(6, 1, 1), (6, 3, 3), (6, 4, 4)] w0 w44 → gi w44 1 1 = f32_1_1 → gi w44 1 2 = f32_1_2 → gi w44 1 3 = f32_1_3 → gi w44 1 4 = 0 → TT (fun n => m_X6_readNumber n 1 0 359 (sI w0)) (fun n => j_X6_readNumber 1 n 32 [(0 : Int), (359 : Int), v32_3.toInt] (sI w44)) → lv_has ls 4 [(0, .ref (ad 1)), (1, .int 0), (2, .int 359), (3, .int v32_3)] → W p l e ({ frames := 2, cells := 0, slots := 0, locals := 34 }) s m (List.toArray [.ref (ad 1), .int 0, .int 359]) below meth c H locs 0 0 (MQ below (va_Qi (Pz_X6_readNumber_7 ad cy B qr s1  w0) (fun u : va_W => wpost dC dI cy A u) A) (List.toArray [.ref (ad 1), .int 0, .int 359]) s 0 0 A) (F0 m 32 ls []) := by
    intro n32
    induction n32 with
    | zero => intro v32_3 f32_1_1 f32_1_2 f32_1_3 H locs ls w44 r45 t46 r48 t49 r51 t52 hm32 hw hT hF c47 c50 c53 c54 hM hl; omega
    | succ n32 ih32 =>
      intro v32_3 f32_1_1 f32_1_2 f32_1_3 H locs ls w44 r45 t46 r48 t49 r51 t52 hm32 hw hT hF c47 c50 c53 c54 hM hl
      have J89 : ∀ (v89_3 : Int32) (H : Heap) (locs : List Loc) (ls : Array Slot) (w55 : va_W), 0 ≤ f32_1_1.toInt → f32_1_1.toInt ≤ 399 → 1 ≤ f32_1_2.toInt → f32_1_2.toInt ≤ 400 → 0 ≤ f32_1_3.toInt → f32_1_3.toInt ≤ 399 → Wd dC dI A s.heap H locs w55 → TW ksC ad cy B qr s1 w55 → FE ksC [(6, 1, 1), (6, 3, 3), (6, 4, 4)] w0 w55 → gi w55 1 1 = f32_1_1 → gi w55 1 2 = f32_1_2 → gi w55 1 3 = f32_1_3 → gi w55 1 4 = 0 → TT (fun n => m_X6_readNumber n 1 0 359 (sI w0)) (fun n => b_X6_readNumber_89 (j_X6_readNumber 1 n) n 1 (0 : Int) (359 : Int) (v89_3.toInt) (sI w55)) → lv_has ls 4 [(0, .ref (ad 1)), (1, .int 0), (2, .int 359), (3, .int v89_3)] → W p l e ({ frames := 2, cells := 0, slots := 0, locals := 34 }) s m (List.toArray [.ref (ad 1), .int 0, .int 359]) below meth c H locs 0 0 (MQ below (va_Qi (Pz_X6_readNumber_7 ad cy B qr s1  w0) (fun u : va_W => wpost dC dI cy A u) A) (List.toArray [.ref (ad 1), .int 0, .int 359]) s 0 0 A) (F0 m 89 ls []) := by
        intro v89_3 H locs ls w55 r56 t57 r59 t60 r62 t63 hw hT hF c58 c61 c64 c65 hM hl
        refine lv_aload_n hx hb dX6_readNumber_89 rfl (lv_at hl 0 rfl) ?_
        refine lv_dup hx hb dX6_readNumber_90 rfl ?_
        refine tk_geti hC hK hw hT hinX6 kC_at1 (by decide) rfl 1 (by decide) (List.mem_cons_of_mem _ uw_9_16) rfl rfl dX6_readNumber_91 (fun x66 c67 rx66 tx66 => ?_)
        refine wk_top f32_1_1 (c67.symm.trans c58) ?_
        replace hM := hM.rd (sI_at c58)
        refine lv_iconst (v := 1) hx hb dX6_readNumber_94 (by decide) ?_
        refine lv_iadd hx hb dX6_readNumber_95 ?_
        refine lv_topi (fun x68 ex68 => ?_)
        have ezx68 := ex68
        have ex68 : x68.toInt = f32_1_1.toInt + (1 : Int) := by rw [ex68]; exact wk_add (show (-2147483648) ≤ f32_1_1.toInt + (1 : Int) by omega) (show f32_1_1.toInt + (1 : Int) ≤ 2147483647 by omega)
        replace hM := hM.lt ex68.symm
        refine tk_puti hC hK hw hT hinX6 tyX6_ok nmX6 kC_at1 (by decide) rfl rfl 1 (by decide) (List.mem_cons_of_mem _ uw_9_16) rfl rfl rfl rfl (show 0 ≤ x68.toInt by first | with_reducible assumption | omega) (show x68.toInt ≤ 400 by first | with_reducible assumption | omega) dX6_readNumber_96 (fun H locs w69 hw hT k71 c70 => ?_)
        replace hM := hM.wr (sI_up k71 c70)
        have hF := hF.put kC_at1 (k := 1) (by decide) k71
        have c72 := k71.gi (Or.inr (by decide)) c61
        have c73 := k71.gi (Or.inr (by decide)) c64
        have c74 := k71.gi (Or.inr (by decide)) c65
        refine lv_goto (tgt := 32) hx hb dX6_readNumber_99 (by decide) ?_
        exact ih32 v89_3 x68 f32_1_2 f32_1_3 H locs ls w69 (show 0 ≤ x68.toInt by first | with_reducible assumption | omega) (show x68.toInt ≤ 400 by first | with_reducible assumption | omega) (show 1 ≤ f32_1_2.toInt from r59) (show f32_1_2.toInt ≤ 400 from t60) (show 0 ≤ f32_1_3.toInt from r62) (show f32_1_3.toInt ≤ 399 from t63) (show (400 - x68.toInt).toNat < n32 by first | exact tn_lt hm32 (by omega) (by omega) | omega) hw hT hF c70 c72 c73 c74 hM (lv_sub hl [0, 1, 2, 3] rfl)
      replace hM := hM.suc (fun _ => e_X6_readNumber_32)
      refine lv_aload_n hx hb dX6_readNumber_32 rfl (lv_at hl 0 rfl) ?_
      refine tk_geti hC hK hw hT hinX6 kC_at1 (by decide) rfl 1 (by decide) (List.mem_cons_of_mem _ uw_9_16) rfl rfl dX6_readNumber_33 (fun x75 c76 rx75 tx75 => ?_)
      refine wk_top f32_1_1 (c76.symm.trans c47) ?_
      replace hM := hM.rd (sI_at c47)
      refine lv_aload_n hx hb dX6_readNumber_36 rfl (lv_at hl 0 rfl) ?_
      refine tk_geti hC hK hw hT hinX6 kC_at1 (by decide) rfl 2 (by decide) (List.mem_cons_of_mem _ uw_7_22) rfl rfl dX6_readNumber_37 (fun x77 c78 rx77 tx77 => ?_)
      refine wk_top f32_1_2 (c78.symm.trans c50) ?_
      replace hM := hM.rd (sI_at c50)
      refine lv_icmp_ge (tgt := 102) hx hb dX6_readNumber_40 (by decide) (fun c79 => ?_) (fun c79 => ?_)
      · have c79 : f32_1_2.toInt ≤ f32_1_1.toInt := wk_le.mp c79
        replace hM := hM.pos c79
        exact J102 v32_3 f32_1_1 f32_1_2 f32_1_3 H locs ls w44 (show 0 ≤ f32_1_1.toInt from r45) (show f32_1_1.toInt ≤ 400 from t46) (show 1 ≤ f32_1_2.toInt from r48) (show f32_1_2.toInt ≤ 400 from t49) (show 0 ≤ f32_1_3.toInt from r51) (show f32_1_3.toInt ≤ 399 from t52)  hw hT hF c47 c50 c53 c54 hM (lv_sub hl [0, 1, 2, 3] rfl)
      · have c79 : f32_1_1.toInt < f32_1_2.toInt := wk_leF c79
        replace hM := hM.neg (Int.not_le.mpr c79)
        refine lv_aload_n hx hb dX6_readNumber_43 rfl (lv_at hl 0 rfl) ?_
        refine tk_getA hC hK hw hT hinX6 kC_at1 (by decide) rfl 0 (by decide) (List.mem_cons_of_mem _ uw_2_12) rfl rfl dX6_readNumber_44 ?_
        refine lv_aload_n hx hb dX6_readNumber_47 rfl (lv_at hl 0 rfl) ?_
        refine tk_geti hC hK hw hT hinX6 kC_at1 (by decide) rfl 1 (by decide) (List.mem_cons_of_mem _ uw_9_16) rfl rfl dX6_readNumber_48 (fun x80 c81 rx80 tx80 => ?_)
        refine wk_top f32_1_1 (c81.symm.trans c47) ?_
        replace hM := hM.rd (sI_at c47)
        refine tk_iald hC hK hw hT kC_at2 rfl rfl (show 0 ≤ f32_1_1.toInt from r45) (show f32_1_1.toInt < 400 by first | with_reducible assumption | omega) dX6_readNumber_51 (fun x82 c83 rx82 tx82 => ?_)
        have hox82 := c83
        replace hM := hM.rd (sI_at hox82)
        refine tk_Si hC hK hw hT hA hE hSR (kz_X6_isDigit_1 l adK adV dC dI cy ad B hB0 (Int.le_trans hB1 (by decide)) qr s1   x82 (show 0 ≤ x82.toInt from rx82) (show x82.toInt ≤ 255 from tx82) w44 H.size hT ) (va_cwS 1 hC.2.2.2.2 uS_RX6_64 rfl rfl rfl (by decide +kernel) ⟨Nat.le_of_ble_eq_true rfl, Nat.le_of_ble_eq_true rfl⟩) rfl hl.1 rfl (Nat.le_of_ble_eq_true rfl) dX6_readNumber_52 (fun r84 w86 H locs hp85 hw => ?_)
        obtain ⟨hT, k87, hv91, hg90⟩ := hp85
        have hF := hF.tr k87 (by decide)
        have c92 := k87.gi kC_at1 (by decide) c47
        have c93 := k87.gi kC_at1 (by decide) c50
        have c94 := k87.gi kC_at1 (by decide) c53
        have c95 := k87.gi kC_at1 (by decide) c54
        rcases hg90 with rfl | ⟨rfl, g88, g89⟩
        · replace hM := hM.call (r' := 0) hv91 (by decide)
          refine lv_if_eq (tgt := 102) hx hb dX6_readNumber_55 (by decide) (fun _ => ?_) (fun c => absurd (by decide) c)
          replace hM := hM.pos (by decide)
          exact J102 v32_3 f32_1_1 f32_1_2 f32_1_3 H locs ls w86 (show 0 ≤ f32_1_1.toInt from r45) (show f32_1_1.toInt ≤ 400 from t46) (show 1 ≤ f32_1_2.toInt from r48) (show f32_1_2.toInt ≤ 400 from t49) (show 0 ≤ f32_1_3.toInt from r51) (show f32_1_3.toInt ≤ 399 from t52)  hw hT hF c92 c93 c94 c95 hM (lv_sub hl [0, 1, 2, 3] rfl)
        · replace hM := hM.call (r' := 1) hv91 (by decide)
          refine lv_if_eq (tgt := 102) hx hb dX6_readNumber_55 (by decide) (fun c => absurd c (by decide)) (fun _ => ?_)
          replace hM := hM.neg (by decide)
          refine lv_aload_n hx hb dX6_readNumber_58 rfl (lv_at hl 0 rfl) ?_
          refine tk_geti hC hK hw hT hinX6 kC_at1 (by decide) rfl 1 (by decide) (List.mem_cons_of_mem _ uw_9_16) rfl rfl dX6_readNumber_59 (fun x96 c97 rx96 tx96 => ?_)
          refine wk_top f32_1_1 (c97.symm.trans c92) ?_
          replace hM := hM.rd (sI_at c92)
          refine lv_aload_n hx hb dX6_readNumber_62 rfl (lv_at hl 0 rfl) ?_
          refine tk_geti hC hK hw hT hinX6 kC_at1 (by decide) rfl 3 (by decide) (List.mem_cons_of_mem _ uw_9_17) rfl rfl dX6_readNumber_63 (fun x98 c99 rx98 tx98 => ?_)
          refine wk_top f32_1_3 (c99.symm.trans c94) ?_
          replace hM := hM.rd (sI_at c94)
          refine lv_isub hx hb dX6_readNumber_66 ?_
          refine lv_topi (fun x100 ex100 => ?_)
          have ezx100 := ex100
          have ex100 : x100.toInt = f32_1_1.toInt - f32_1_3.toInt := by rw [ex100]; exact wk_sub (show (-2147483648) ≤ f32_1_1.toInt - f32_1_3.toInt by omega) (show f32_1_1.toInt - f32_1_3.toInt ≤ 2147483647 by omega)
          replace hM := hM.lt ex100.symm
          refine lv_iconst (v := 5) hx hb dX6_readNumber_67 (by decide) ?_
          refine lv_icmp_ge (tgt := 89) hx hb dX6_readNumber_68 (by decide) (fun c101 => ?_) (fun c101 => ?_)
          · have c101 : (5 : Int) ≤ x100.toInt := wk_le.mp c101
            replace hM := hM.pos c101
            exact J89 v32_3 H locs ls w86 (show 0 ≤ f32_1_1.toInt from r45) (show f32_1_1.toInt ≤ 399 by first | with_reducible assumption | omega) (show 1 ≤ f32_1_2.toInt from r48) (show f32_1_2.toInt ≤ 400 from t49) (show 0 ≤ f32_1_3.toInt from r51) (show f32_1_3.toInt ≤ 399 from t52)  hw hT hF c92 c93 c94 c95 hM (lv_sub hl [0, 1, 2, 3] rfl)
          · have c101 : x100.toInt < (5 : Int) := wk_leF c101
            replace hM := hM.neg (Int.not_le.mpr c101)
            refine lv_iload_n hx hb dX6_readNumber_71 rfl (lv_at hl 3 rfl) ?_
            refine lv_bipush (v := 10) hx hb dX6_readNumber_72 (by decide) ?_
            refine lv_imul hx hb dX6_readNumber_74 ?_
            have nx102 := wk_i32 v32_3
            refine lv_topi (fun x103 ex103 => ?_)
            have ezx103 := ex103
            replace hM := hM.lt (o32_e (f := fun x y => x * y) ezx103 rfl (by decide))
            refine lv_aload_n hx hb dX6_readNumber_75 rfl (lv_at hl 0 rfl) ?_
            refine tk_getA hC hK hw hT hinX6 kC_at1 (by decide) rfl 0 (by decide) (List.mem_cons_of_mem _ uw_2_12) rfl rfl dX6_readNumber_76 ?_
            refine lv_aload_n hx hb dX6_readNumber_79 rfl (lv_at hl 0 rfl) ?_
            refine tk_geti hC hK hw hT hinX6 kC_at1 (by decide) rfl 1 (by decide) (List.mem_cons_of_mem _ uw_9_16) rfl rfl dX6_readNumber_80 (fun x104 c105 rx104 tx104 => ?_)
            refine wk_top f32_1_1 (c105.symm.trans c92) ?_
            replace hM := hM.rd (sI_at c92)
            refine tk_iald hC hK hw hT kC_at2 rfl rfl (show 0 ≤ f32_1_1.toInt from r45) (show f32_1_1.toInt < 400 by first | with_reducible assumption | omega) dX6_readNumber_83 (fun x106 c107 rx106 tx106 => ?_)
            have hox106 := c107
            replace hM := hM.rd (sI_at hox106)
            refine lv_iadd hx hb dX6_readNumber_84 ?_
            have nx108 := wk_i32 x103
            refine lv_topi (fun x109 ex109 => ?_)
            have ezx109 := ex109
            replace hM := hM.lt (o32_e (f := fun x y => x + y) ezx109 rfl rfl)
            refine lv_bipush (v := 48) hx hb dX6_readNumber_85 (by decide) ?_
            refine lv_isub hx hb dX6_readNumber_87 ?_
            have nx110 := wk_i32 x109
            refine lv_topi (fun x111 ex111 => ?_)
            have ezx111 := ex111
            replace hM := hM.lt (o32_e (f := fun x y => x - y) ezx111 rfl (by decide))
            refine lv_istore_n (lv' := [(3, .int x111), (0, .ref (ad 1)), (1, .int 0), (2, .int 359)]) hx hb dX6_readNumber_88 rfl hl (by decide) rfl (fun ls hl => ?_)
            exact J89 x111 H locs ls w86 (show 0 ≤ f32_1_1.toInt from r45) (show f32_1_1.toInt ≤ 399 by first | with_reducible assumption | omega) (show 1 ≤ f32_1_2.toInt from r48) (show f32_1_2.toInt ≤ 400 from t49) (show 0 ≤ f32_1_3.toInt from r51) (show f32_1_3.toInt ≤ 399 from t52)  hw hT hF c92 c93 c94 c95 hM (lv_sub hl [1, 2, 3, 0] rfl)
  have hM : TT (fun n => m_X6_readNumber n 1 0 359 (sI w0)) (fun n => m_X6_readNumber n 1 0 359 (sI w0)) := TT.rf
  refine lv_aload_n hx hb dX6_readNumber_0 rfl (lv_at hl 0 rfl) ?_
  refine tk_Vi hC hK hw hT hA hE hSR kC_at1 (by decide) rfl (kz_X6_isFaulty_2 l adK adV dC dI cy ad B hB0 (Int.le_trans hB1 (by decide)) qr s1    w0 s.heap.size hT cf0_) (cwV 0 hC.2.2.2.2 uV_RX6_39 rfl rfl rfl (by decide +kernel) ⟨Nat.le_of_ble_eq_true rfl, Nat.le_of_ble_eq_true rfl⟩) rfl hl.1 rfl (Nat.le_of_ble_eq_true rfl) dX6_readNumber_1 (fun r112 w114 H locs hp113 hw => ?_)
  obtain ⟨hT, k115, hv119, hg118⟩ := hp113
  have hF := hF.tr k115 (by decide)
  have c120 := k115.gi kC_at1 (by decide) cf0_
  obtain ⟨rfl, ⟨x116, c117, rx116, tx116⟩⟩ := hg118
  replace hM := hM.call (r' := 0) hv119 (by decide)
  have ex116 : x116.toInt = (0 : Int) := by rw [show x116 = 0 from c117.symm.trans c120]; decide
  refine lv_if_eq (tgt := 9) hx hb dX6_readNumber_4 (by decide) (fun _ => ?_) (fun c => absurd (by decide) c)
  replace hM := hM.pos (by decide)
  refine lv_aload_n hx hb dX6_readNumber_9 rfl (lv_at hl 0 rfl) ?_
  refine tk_Vi hC hK hw hT hA hE hSR kC_at1 (by decide) rfl (kz_X6_lookBehindBlanks_1 l adK adV dC dI cy ad B hB0 (Int.le_trans hB1 (by decide)) qr s1    w114 H.size hT ) (cwV 0 hC.2.2.2.2 uV_RX6_28 rfl rfl rfl (by decide +kernel) ⟨Nat.le_of_ble_eq_true rfl, Nat.le_of_ble_eq_true rfl⟩) rfl hl.1 rfl (Nat.le_of_ble_eq_true rfl) dX6_readNumber_10 (fun r121 w123 H locs hp122 hw => ?_)
  obtain ⟨hT, k124, hv134, hg133⟩ := hp122
  have hF := hF.tr k124 (by decide)
  have c135 := k124.gi kC_at1 (by decide) c120
  rcases hg133 with ⟨g125, g126, ⟨x127, c128, rx127, tx127⟩, ⟨x129, c130, rx129, tx129⟩, ⟨x131, c132, rx131, tx131⟩⟩ | rfl
  · replace hM := hM.call hv134 rfl
    refine tk_Si hC hK hw hT hA hE hSR (kz_X6_isDigit_1 l adK adV dC dI cy ad B hB0 (Int.le_trans hB1 (by decide)) qr s1   r121 (show 0 ≤ r121.toInt by first | with_reducible assumption | omega) (show r121.toInt ≤ 255 by first | with_reducible assumption | omega) w123 H.size hT ) (va_cwS 1 hC.2.2.2.2 uS_RX6_64 rfl rfl rfl (by decide +kernel) ⟨Nat.le_of_ble_eq_true rfl, Nat.le_of_ble_eq_true rfl⟩) rfl hl.1 rfl (Nat.le_of_ble_eq_true rfl) dX6_readNumber_13 (fun r136 w138 H locs hp137 hw => ?_)
    obtain ⟨hT, k139, hv143, hg142⟩ := hp137
    have hF := hF.tr k139 (by decide)
    have c144 := k139.gi kC_at1 (by decide) c135
    have c145 := k139.gi kC_at1 (by decide) c128
    have c146 := k139.gi kC_at1 (by decide) c130
    have c147 := k139.gi kC_at1 (by decide) c132
    rcases hg142 with rfl | ⟨rfl, g140, g141⟩
    · replace hM := hM.call (r' := 0) hv143 (by decide)
      refine lv_if_ne (tgt := 30) hx hb dX6_readNumber_16 (by decide) (fun c => absurd (by decide) c) (fun _ => ?_)
      replace hM := hM.neg (by decide)
      refine lv_aload_n hx hb dX6_readNumber_19 rfl (lv_at hl 0 rfl) ?_
      refine lv_aload_n hx hb dX6_readNumber_20 rfl (lv_at hl 0 rfl) ?_
      refine tk_geti hC hK hw hT hinX6 kC_at1 (by decide) rfl 3 (by decide) (List.mem_cons_of_mem _ uw_9_17) rfl rfl dX6_readNumber_21 (fun x148 c149 rx148 tx148 => ?_)
      refine wk_top x131 (c149.symm.trans c147) ?_
      replace hM := hM.rd (sI_at c147)
      refine lv_iconst (v := 0) hx hb dX6_readNumber_24 (by decide) ?_
      refine tk_Vv hC hK hw hT hA hE hSR kC_at1 (by decide) rfl (kz_X6_blame_2 l adK adV dC dI cy ad B hB0 (Int.le_trans hB1 (by decide)) qr s1   x131 (show 0 ≤ x131.toInt by first | with_reducible assumption | omega) (show x131.toInt ≤ 400 by first | with_reducible assumption | omega) 0 (by decide) (by decide) w138 H.size hT c144) (cwV 2 hC.2.2.2.2 uV_RX6_35 rfl rfl rfl (by decide +kernel) ⟨Nat.le_of_ble_eq_true rfl, Nat.le_of_ble_eq_true rfl⟩) rfl hl.1 rfl (Nat.le_of_ble_eq_true rfl) dX6_readNumber_25 (fun w152 H locs hp151 hw => ?_)
      obtain ⟨hT, k153, hv157, hg156⟩ := hp151
      try simp only [show (0 : Int32).toInt = 0 by decide] at hv157
      have hF := hF.tr k153 (by decide)
      have c158 := k153.gi kC_at1 (by decide) c145
      have c159 := k153.gi kC_at1 (by decide) c146
      have c160 := k153.gi kC_at1 (by decide) c147
      obtain ⟨x154, c155, rx154, tx154⟩ := hg156
      replace hM := hM.call hv157 rfl
      refine lv_iconst (v := (-1)) hx hb dX6_readNumber_28 (by decide) ?_
      exact tk_iret hC hr hlocks hK ⟨hT, hF, hM.ret (by decide), (Or.inr ⟨rfl, ⟨x154, c155, (show 1 ≤ x154.toInt by first | with_reducible assumption | omega), (show x154.toInt ≤ 3205 by first | with_reducible assumption | omega)⟩⟩)⟩ hw dX6_readNumber_29
    · replace hM := hM.call (r' := 1) hv143 (by decide)
      refine lv_if_ne (tgt := 30) hx hb dX6_readNumber_16 (by decide) (fun _ => ?_) (fun c => absurd c (by decide))
      replace hM := hM.pos (by decide)
      refine lv_iconst (v := 0) hx hb dX6_readNumber_30 (by decide) ?_
      refine lv_istore_n (lv' := [(3, .int 0), (0, .ref (ad 1)), (1, .int 0), (2, .int 359)]) hx hb dX6_readNumber_31 rfl hl (by decide) rfl (fun ls hl => ?_)
      exact L32 ((400 - x127.toInt).toNat + 1) 0 x127 x129 x131 H locs ls w138 (show 0 ≤ x127.toInt by first | with_reducible assumption | omega) (show x127.toInt ≤ 400 by first | with_reducible assumption | omega) (show 1 ≤ x129.toInt by first | with_reducible assumption | omega) (show x129.toInt ≤ 400 by first | with_reducible assumption | omega) (show 0 ≤ x131.toInt by first | with_reducible assumption | omega) (show x131.toInt ≤ 399 by first | with_reducible assumption | omega) (Nat.lt_succ_self _) hw hT hF c145 c146 c147 c144 hM (lv_sub hl [1, 2, 3, 0] rfl)
  · replace hM := hM.call (r' := (-1)) hv134 (by decide)
    refine tk_Si hC hK hw hT hA hE hSR (kz_X6_isDigit_2 l adK adV dC dI cy ad B hB0 (Int.le_trans hB1 (by decide)) qr s1    w123 H.size hT ) (va_cwS 1 hC.2.2.2.2 uS_RX6_64 rfl rfl rfl (by decide +kernel) ⟨Nat.le_of_ble_eq_true rfl, Nat.le_of_ble_eq_true rfl⟩) rfl hl.1 rfl (Nat.le_of_ble_eq_true rfl) dX6_readNumber_13 (fun r161 w163 H locs hp162 hw => ?_)
    obtain ⟨hT, k164, hv166, hg165⟩ := hp162
    have hF := hF.tr k164 (by decide)
    have c167 := k164.gi kC_at1 (by decide) c135
    obtain rfl := hg165
    replace hM := hM.call (r' := 0) hv166 (by decide)
    refine lv_if_ne (tgt := 30) hx hb dX6_readNumber_16 (by decide) (fun c => absurd (by decide) c) (fun _ => ?_)
    replace hM := hM.neg (by decide)
    refine lv_aload_n hx hb dX6_readNumber_19 rfl (lv_at hl 0 rfl) ?_
    refine lv_aload_n hx hb dX6_readNumber_20 rfl (lv_at hl 0 rfl) ?_
    refine tk_geti hC hK hw hT hinX6 kC_at1 (by decide) rfl 3 (by decide) (List.mem_cons_of_mem _ uw_9_17) rfl rfl dX6_readNumber_21 (fun x168 c169 rx168 tx168 => ?_)
    replace hM := hM.rd (sI_at c169)
    refine lv_iconst (v := 0) hx hb dX6_readNumber_24 (by decide) ?_
    refine tk_Vv hC hK hw hT hA hE hSR kC_at1 (by decide) rfl (kz_X6_blame_2 l adK adV dC dI cy ad B hB0 (Int.le_trans hB1 (by decide)) qr s1   x168 (show 0 ≤ x168.toInt from rx168) (show x168.toInt ≤ 400 from tx168) 0 (by decide) (by decide) w163 H.size hT c167) (cwV 2 hC.2.2.2.2 uV_RX6_35 rfl rfl rfl (by decide +kernel) ⟨Nat.le_of_ble_eq_true rfl, Nat.le_of_ble_eq_true rfl⟩) rfl hl.1 rfl (Nat.le_of_ble_eq_true rfl) dX6_readNumber_25 (fun w172 H locs hp171 hw => ?_)
    obtain ⟨hT, k173, hv177, hg176⟩ := hp171
    try simp only [show (0 : Int32).toInt = 0 by decide] at hv177
    have hF := hF.tr k173 (by decide)
    have c178 := k173.gi kC_at1 (by decide) c169
    obtain ⟨x174, c175, rx174, tx174⟩ := hg176
    replace hM := hM.call hv177 rfl
    refine lv_iconst (v := (-1)) hx hb dX6_readNumber_28 (by decide) ?_
    exact tk_iret hC hr hlocks hK ⟨hT, hF, hM.ret (by decide), (Or.inr ⟨rfl, ⟨x174, c175, (show 1 ≤ x174.toInt by first | with_reducible assumption | omega), (show x174.toInt ≤ 3205 by first | with_reducible assumption | omega)⟩⟩)⟩ hw dX6_readNumber_29
