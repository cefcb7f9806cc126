abbrev P_X7_sideOf_7 (ad : Nat → Nat) (cy : Nat → ClassId) (B : Int) (qr : Nat) (s1 : Int) (a1 : Int32) (a2 : Int32) (w0 : va_W) : Int32 → va_W → Prop := fun r u => TW ksC ad cy B qr s1 u ∧ FE ksC ([] : List (Nat × Nat × Nat)) w0 u ∧ ((r = 0 ∧ gi u 40 (2 * a1.toInt + 0).toNat = a2 ∧ gi u 40 (2 * a1.toInt + 1).toNat = a2) ∨ (r = 1 ∧ gi u 40 (2 * a1.toInt + 1).toNat = a2))
set_option maxHeartbeats 4000000 in
set_option maxRecDepth 100000 in
theorem k_X7_sideOf_7 (l : Launch) (adK adV : Nat → Nat) (dC : Nat → ClassId) (dI : Nat → Nat → Nat) (cy : Nat → ClassId) (ad : Nat → Nat) (B : Int) (hB0 : 2147483648 ≤ B) (hB1 : B ≤ 1152921504606846976) (qr : Nat) (s1 : Int)  (a1 : Int32) (ra1 : 0 ≤ a1.toInt) (ta1 : a1.toInt ≤ 11) (a2 : Int32) (ra2 : 0 ≤ a2.toInt) (ta2 : a2.toInt ≤ 9) (w0 : va_W) (sz : Nat) (hT : TW ksC ad cy B qr s1 w0) (cf0_ : gi w0 40 (2 * a1.toInt + 1).toNat = a2) : Met l yX7_sideOf (wu yX7_sideOf cX7_sideOf 3 (some .int)) ({ frames := 1, cells := 0, slots := 0, locals := 12 }) (va_Pc [.ref (ad 39), .int a1, .int a2] (wpreS adK adV dC dI cy sz w0)) (va_Qi (P_X7_sideOf_7 ad cy B qr s1 a1 a2 w0) (fun u : va_W => wpost dC dI cy (va_A w0 sz) u) (va_A w0 sz)) 0 0 (va_A w0 sz) := by
  refine Met.ofW (cc := cX7_sideOf) (maxL := 3) (ret := (some .int)) (by decide) rfl ?_
  intro p e s m args below meth c s₁ Bk hml hv
  obtain ⟨rfl, ⟨hsz, hP, hK, hD0⟩, hE, hSR⟩ := hv
  have hx := Bk.exec
  have hb := Bk.bytes
  have hr := Bk.returns
  have hlocks := Bk.notSynchronized
  have hC : CallFix p m c cX7_sideOf 3 s _ (wu yX7_sideOf cX7_sideOf 3 (some .int)) RX7 := ⟨hx, hb, hml, findClass_of_methodNamed Bk.named, atoms_spec (ws := (wu yX7_sideOf cX7_sideOf 3 (some .int))) Bk.pre⟩
  subst hsz
  have hD := hD0.self (sz := s.heap.size)
  generalize hAe : va_A w0 s.heap.size = A at hD hE ⊢
  have hA : ∀ q : Nat, s.heap.size ≤ q → A q := fun q h => by rw [← hAe]; exact Or.inr h
  have hw : Wd dC dI A s.heap s.heap [] w0 := ⟨hP, hD, va_S.rf⟩
  have hF : FE ksC ([] : List (Nat × Nat × Nat)) w0 w0 := FE.rf
  have hl := lv_entry ([.ref (ad 39), .int a1, .int a2]) (n := 3) (Nat.le_of_ble_eq_true rfl)
  rw [lg_entry_eq]
  generalize (lg_sl ([.ref (ad 39), .int a1, .int a2]) ++ List.replicate (3 - (lg_sl ([.ref (ad 39), .int a1, .int a2])).length) Slot.unset).toArray = ls at hl ⊢
  have hl : lv_has ls 3 [(0, .ref (ad 39)), (1, .int a1), (2, .int a2)] := hl
  generalize hloc : ([] : List Loc) = locs at hw ⊢
  have hinX7 : ∀ w ∈ u_ws RX7 TX7 12, w ∈ (wu yX7_sideOf cX7_sideOf 3 (some .int)) := fun _ h => List.mem_cons_of_mem _ (up_73 h)
  refine lv_aload_n hx hb dX7_sideOf_0 rfl (lv_at hl 0 rfl) ?_
  refine tk_getO hC hK hw hT hinX7 kC_at39 (by decide) rfl 0 (by decide) (List.mem_cons_of_mem _ uw_2_17) rfl rfl dX7_sideOf_1 ?_
  refine lv_iconst (v := 2) hx hb dX7_sideOf_4 (by decide) ?_
  refine lv_iload_n hx hb dX7_sideOf_5 rfl (lv_at hl 1 rfl) ?_
  refine lv_imul hx hb dX7_sideOf_6 ?_
  refine lv_topi (fun x1 ex1 => ?_)
  have ex1 : x1.toInt = (2 : Int) * a1.toInt := by rw [ex1]; exact wk_mul (show (-2147483648) ≤ (2 : Int) * a1.toInt by omega) (show (2 : Int) * a1.toInt ≤ 2147483647 by omega)
  refine tk_iald hC hK hw hT kC_at40 rfl rfl (show 0 ≤ x1.toInt by first | with_reducible assumption | omega) (show x1.toInt < 26 by first | with_reducible assumption | omega) dX7_sideOf_7 (fun x2 c3 rx2 tx2 => ?_)
  have c3 : gi w0 40 (2 * a1.toInt + 0).toNat = x2 := (congrArg (gi w0 40) (congrArg Int.toNat (show 2 * a1.toInt + 0 = x1.toInt by first | exact Int.le_antisymm (by omega) (by omega) | omega))).trans c3
  refine lv_iload_n hx hb dX7_sideOf_8 rfl (lv_at hl 2 rfl) ?_
  refine lv_icmp_ne (tgt := 14) hx hb dX7_sideOf_9 (by decide) (fun c4 => ?_) (fun c4 => ?_)
  · have c4 : ¬ x2.toInt = a2.toInt := wk_eqF c4
    refine lv_aload_n hx hb dX7_sideOf_14 rfl (lv_at hl 0 rfl) ?_
    refine tk_getO hC hK hw hT hinX7 kC_at39 (by decide) rfl 0 (by decide) (List.mem_cons_of_mem _ uw_2_17) rfl rfl dX7_sideOf_15 ?_
    refine lv_iconst (v := 2) hx hb dX7_sideOf_18 (by decide) ?_
    refine lv_iload_n hx hb dX7_sideOf_19 rfl (lv_at hl 1 rfl) ?_
    refine lv_imul hx hb dX7_sideOf_20 ?_
    refine lv_topi (fun x5 ex5 => ?_)
    have ex5 : x5.toInt = (2 : Int) * a1.toInt := by rw [ex5]; exact wk_mul (show (-2147483648) ≤ (2 : Int) * a1.toInt by omega) (show (2 : Int) * a1.toInt ≤ 2147483647 by omega)
    refine lv_iconst (v := 1) hx hb dX7_sideOf_21 (by decide) ?_
    refine lv_iadd hx hb dX7_sideOf_22 ?_
    refine lv_topi (fun x6 ex6 => ?_)
    have ex6 : x6.toInt = x5.toInt + (1 : Int) := by rw [ex6]; exact wk_add (show (-2147483648) ≤ x5.toInt + (1 : Int) by omega) (show x5.toInt + (1 : Int) ≤ 2147483647 by omega)
    refine tk_iald hC hK hw hT kC_at40 rfl rfl (show 0 ≤ x6.toInt by first | with_reducible assumption | omega) (show x6.toInt < 26 by first | with_reducible assumption | omega) dX7_sideOf_23 (fun x7 c8 rx7 tx7 => ?_)
    have c8 : gi w0 40 (2 * a1.toInt + 1).toNat = x7 := (congrArg (gi w0 40) (congrArg Int.toNat (show 2 * a1.toInt + 1 = x6.toInt by first | exact Int.le_antisymm (by omega) (by omega) | omega))).trans c8
    refine wk_top a2 (c8.symm.trans cf0_) ?_
    refine lv_iload_n hx hb dX7_sideOf_24 rfl (lv_at hl 2 rfl) ?_
    refine lv_icmp_ne (tgt := 32) hx hb dX7_sideOf_25 (by decide) (fun c => (c (wk_eq.mpr (show a2.toInt = a2.toInt from rfl))).elim) (fun _ => ?_)
    refine lv_iconst (v := 1) hx hb dX7_sideOf_28 (by decide) ?_
    refine lv_goto (tgt := 33) hx hb dX7_sideOf_29 (by decide) ?_
    exact tk_iret hC hr hlocks hK ⟨hT, hF, (Or.inr ⟨rfl, cf0_⟩)⟩ hw dX7_sideOf_33
  · have c4 : x2.toInt = a2.toInt := wk_eq.mp c4
    refine lv_iconst (v := 0) hx hb dX7_sideOf_12 (by decide) ?_
    exact tk_iret hC hr hlocks hK ⟨hT, hF, (Or.inl ⟨rfl, (c3.trans (wk_eq.mpr (show x2.toInt = a2.toInt by first | exact Int.le_antisymm (by omega) (by omega) | omega))), cf0_⟩)⟩ hw dX7_sideOf_13
abbrev P_X7_firstOpen_8 (ad : Nat → Nat) (cy : Nat → ClassId) (B : Int) (qr : Nat) (s1 : Int) (a1 : Int32) (a3 : Int32) (a4 : Int32) (w0 : va_W) : Int32 → va_W → Prop := fun r u => TW ksC ad cy B qr s1 u ∧ FE ksC ([] : List (Nat × Nat × Nat)) w0 u ∧ ((0 ≤ r.toInt ∧ r.toInt ≤ 102119) ∨ (r = (-1)))
set_option maxHeartbeats 4000000 in
set_option maxRecDepth 100000 in
theorem k_X7_firstOpen_8 (l : Launch) (adK adV : Nat → Nat) (dC : Nat → ClassId) (dI : Nat → Nat → Nat) (cy : Nat → ClassId) (ad : Nat → Nat) (B : Int) (hB0 : 2147483648 ≤ B) (hB1 : B ≤ 1152921504606846976) (qr : Nat) (s1 : Int)  (a1 : Int32) (ra1 : 0 ≤ a1.toInt) (ta1 : a1.toInt ≤ 11) (a3 : Int32) (ra3 : (-1) ≤ a3.toInt) (ta3 : a3.toInt ≤ 102119) (a4 : Int32) (ra4 : 0 ≤ a4.toInt) (ta4 : a4.toInt ≤ 102119) (w0 : va_W) (sz : Nat) (hT : TW ksC ad cy B qr s1 w0)  : Met l yX7_firstOpen (wu yX7_firstOpen cX7_firstOpen 10 (some .int)) ({ frames := 2, cells := 0, slots := 0, locals := 39 }) (va_Pc [.ref (ad 39), .int a1, .int 1, .int a3, .int a4] (wpreS adK adV dC dI cy sz w0)) (va_Qi (P_X7_firstOpen_8 ad cy B qr s1 a1 a3 a4 w0) (fun u : va_W => wpost dC dI cy (va_A w0 sz) u) (va_A w0 sz)) 0 0 (va_A w0 sz) := by
  refine Met.ofW (cc := cX7_firstOpen) (maxL := 10) (ret := (some .int)) (by decide) rfl ?_
  intro p e s m args below meth c s₁ Bk hml hv
  obtain ⟨rfl, ⟨hsz, hP, hK, hD0⟩, hE, hSR⟩ := hv
  have hx := Bk.exec
  have hb := Bk.bytes
  have hr := Bk.returns
  have hlocks := Bk.notSynchronized
  have hC : CallFix p m c cX7_firstOpen 10 s _ (wu yX7_firstOpen cX7_firstOpen 10 (some .int)) RX7 := ⟨hx, hb, hml, findClass_of_methodNamed Bk.named, atoms_spec (ws := (wu yX7_firstOpen cX7_firstOpen 10 (some .int))) Bk.pre⟩
  subst hsz
  have hD := hD0.self (sz := s.heap.size)
  generalize hAe : va_A w0 s.heap.size = A at hD hE ⊢
  have hA : ∀ q : Nat, s.heap.size ≤ q → A q := fun q h => by rw [← hAe]; exact Or.inr h
  have hw : Wd dC dI A s.heap s.heap [] w0 := ⟨hP, hD, va_S.rf⟩
  have hF : FE ksC ([] : List (Nat × Nat × Nat)) w0 w0 := FE.rf
  have hl := lv_entry ([.ref (ad 39), .int a1, .int 1, .int a3, .int a4]) (n := 10) (Nat.le_of_ble_eq_true rfl)
  rw [lg_entry_eq]
  generalize (lg_sl ([.ref (ad 39), .int a1, .int 1, .int a3, .int a4]) ++ List.replicate (10 - (lg_sl ([.ref (ad 39), .int a1, .int 1, .int a3, .int a4])).length) Slot.unset).toArray = ls at hl ⊢
  have hl : lv_has ls 10 [(0, .ref (ad 39)), (1, .int a1), (2, .int 1), (3, .int a3), (4, .int a4)] := hl
  generalize hloc : ([] : List Loc) = locs at hw ⊢
  have L25 : ∀ (n25 : Nat) (v25_5 : Int32) (v25_6 : Int32) (H : Heap) (locs : List Loc) (ls : Array Slot) (w1 : va_W), 0 ≤ a1.toInt → a1.toInt ≤ 11 → (-1) ≤ a3.toInt → a3.toInt ≤ 102119 → 0 ≤ a4.toInt → a4.toInt ≤ 102119 → 0 ≤ v25_6.toInt → v25_6.toInt ≤ 4255 → (4255 - v25_6.toInt).toNat < n25 → Wd dC dI A s.heap H locs w1 → TW ksC ad cy B qr s1 w1 → FE ksC ([] : List (Nat × Nat × Nat)) w0 w1 → lv_has ls 10 [(0, .ref (ad 39)), (1, .int a1), (2, .int 1), (3, .int a3), (4, .int a4), (5, .int v25_5), (6, .int v25_6)] → W p l e ({ frames := 2, cells := 0, slots := 0, locals := 39 }) s m (List.toArray [.ref (ad 39), .int a1, .int 1, .int a3, .int a4]) below meth c H locs 0 0 (MQ below (va_Qi (P_X7_firstOpen_8 ad cy B qr s1 a1 a3 a4 w0) (fun u : va_W => wpost dC dI cy A u) A) (List.toArray [.ref (ad 39), .int a1, .int 1, .int a3, .int a4]) s 0 0 A) (F0 m 25 ls []) := by
    intro n25
    induction n25 with
    | zero => intro v25_5 v25_6 H locs ls w1 r2 t3 r4 t5 r6 t7 r8 t9 hm25 hw hT hF hl; omega
    | succ n25 ih25 =>
      intro v25_5 v25_6 H locs ls w1 r2 t3 r4 t5 r6 t7 r8 t9 hm25 hw hT hF hl
      have J108 : ∀ (v108_7 : Int32) (v108_8 : Int32) (H : Heap) (locs : List Loc) (ls : Array Slot) (w10 : va_W), 0 ≤ a1.toInt → a1.toInt ≤ 11 → (-1) ≤ a3.toInt → a3.toInt ≤ 102119 → 0 ≤ a4.toInt → a4.toInt ≤ 102119 → 0 ≤ v25_6.toInt → v25_6.toInt ≤ 4254 → 0 ≤ v108_7.toInt → v108_7.toInt ≤ 16777215 → 0 ≤ v108_8.toInt → v108_8.toInt ≤ 24 → Wd dC dI A s.heap H locs w10 → TW ksC ad cy B qr s1 w10 → FE ksC ([] : List (Nat × Nat × Nat)) w0 w10 → lv_has ls 10 [(0, .ref (ad 39)), (1, .int a1), (2, .int 1), (3, .int a3), (4, .int a4), (5, .int (-1)), (6, .int v25_6), (7, .int v108_7), (8, .int v108_8)] → W p l e ({ frames := 2, cells := 0, slots := 0, locals := 39 }) s m (List.toArray [.ref (ad 39), .int a1, .int 1, .int a3, .int a4]) below meth c H locs 0 0 (MQ below (va_Qi (P_X7_firstOpen_8 ad cy B qr s1 a1 a3 a4 w0) (fun u : va_W => wpost dC dI cy A u) A) (List.toArray [.ref (ad 39), .int a1, .int 1, .int a3, .int a4]) s 0 0 A) (F0 m 108 ls []) := by
        intro v108_7 v108_8 H locs ls w10 r11 t12 r13 t14 r15 t16 r17 t18 r19 t20 r21 t22 hw hT hF hl
        obtain ⟨x23, ex23⟩ : ∃ y : Int32, y = v25_6 + Int32.ofInt 1 := ⟨_, rfl⟩
        refine lv_iinc (v := x23) (lv' := [(6, .int x23), (0, .ref (ad 39)), (1, .int a1), (2, .int 1), (3, .int a3), (4, .int a4), (5, .int (-1)), (7, .int v108_7), (8, .int v108_8)]) hx hb dX7_firstOpen_108 hl (k := 6) rfl ex23.symm (by decide) rfl (fun ls hl => ?_)
        have ex23 : x23.toInt = v25_6.toInt + 1 := by rw [ex23]; exact wk_add (y := 1) (show -2147483648 ≤ v25_6.toInt + 1 by omega) (show v25_6.toInt + 1 ≤ 2147483647 by omega)
        refine lv_goto (tgt := 25) hx hb dX7_firstOpen_111 (by decide) ?_
        exact ih25 (-1) x23 H locs ls w10 (show 0 ≤ a1.toInt from r11) (show a1.toInt ≤ 11 from t12) (show (-1) ≤ a3.toInt from r13) (show a3.toInt ≤ 102119 from t14) (show 0 ≤ a4.toInt from r15) (show a4.toInt ≤ 102119 from t16) (show 0 ≤ x23.toInt by first | with_reducible assumption | omega) (show x23.toInt ≤ 4255 by first | with_reducible assumption | omega) (show (4255 - x23.toInt).toNat < n25 by first | exact tn_lt hm25 (by omega) (by omega) | omega) hw hT hF  (lv_sub hl [1, 2, 3, 4, 5, 6, 0] rfl)
      have L56 : ∀ (n56 : Nat) (v56_7 : Int32) (v56_8 : Int32) (H : Heap) (locs : List Loc) (ls : Array Slot) (w24 : va_W), 0 ≤ a1.toInt → a1.toInt ≤ 11 → (-1) ≤ a3.toInt → a3.toInt ≤ 102119 → 0 ≤ a4.toInt → a4.toInt ≤ 102119 → 0 ≤ v25_6.toInt → v25_6.toInt ≤ 4254 → 0 ≤ v56_7.toInt → v56_7.toInt ≤ 16777215 → 0 ≤ v56_8.toInt → v56_8.toInt ≤ 24 → (24 - v56_8.toInt).toNat < n56 → Wd dC dI A s.heap H locs w24 → TW ksC ad cy B qr s1 w24 → FE ksC ([] : List (Nat × Nat × Nat)) w0 w24 → lv_has ls 10 [(0, .ref (ad 39)), (1, .int a1), (2, .int 1), (3, .int a3), (4, .int a4), (5, .int (-1)), (6, .int v25_6), (7, .int v56_7), (8, .int v56_8)] → W p l e ({ frames := 2, cells := 0, slots := 0, locals := 39 }) s m (List.toArray [.ref (ad 39), .int a1, .int 1, .int a3, .int a4]) below meth c H locs 0 0 (MQ below (va_Qi (P_X7_firstOpen_8 ad cy B qr s1 a1 a3 a4 w0) (fun u : va_W => wpost dC dI cy A u) A) (List.toArray [.ref (ad 39), .int a1, .int 1, .int a3, .int a4]) s 0 0 A) (F0 m 56 ls []) := by
        intro n56
        induction n56 with
        | zero => intro v56_7 v56_8 H locs ls w24 r25 t26 r27 t28 r29 t30 r31 t32 r33 t34 r35 t36 hm56 hw hT hF hl; omega
        | succ n56 ih56 =>
          intro v56_7 v56_8 H locs ls w24 r25 t26 r27 t28 r29 t30 r31 t32 r33 t34 r35 t36 hm56 hw hT hF hl
          refine lv_iload hx hb dX7_firstOpen_56 (lv_at hl 7 rfl) ?_
          refine lv_if_eq (tgt := 108) hx hb dX7_firstOpen_58 (by decide) (fun c37 => ?_) (fun c37 => ?_)
          · have c37 : v56_7.toInt = (0 : Int) := wk_eq.mp c37
            exact J108 v56_7 v56_8 H locs ls w24 (show 0 ≤ a1.toInt from r25) (show a1.toInt ≤ 11 from t26) (show (-1) ≤ a3.toInt from r27) (show a3.toInt ≤ 102119 from t28) (show 0 ≤ a4.toInt from r29) (show a4.toInt ≤ 102119 from t30) (show 0 ≤ v25_6.toInt from r31) (show v25_6.toInt ≤ 4254 from t32) (show 0 ≤ v56_7.toInt from r33) (show v56_7.toInt ≤ 16777215 from t34) (show 0 ≤ v56_8.toInt from r35) (show v56_8.toInt ≤ 24 from t36)  hw hT hF  (lv_sub hl [0, 1, 2, 3, 4, 5, 6, 7, 8] rfl)
          · have c37 : ¬ v56_7.toInt = (0 : Int) := wk_eqF c37
            refine lv_iload hx hb dX7_firstOpen_61 (lv_at hl 8 rfl) ?_
            refine lv_bipush (v := 24) hx hb dX7_firstOpen_63 (by decide) ?_
            refine lv_icmp_ge (tgt := 108) hx hb dX7_firstOpen_65 (by decide) (fun c38 => ?_) (fun c38 => ?_)
            · have c38 : (24 : Int) ≤ v56_8.toInt := wk_le.mp c38
              exact J108 v56_7 v56_8 H locs ls w24 (show 0 ≤ a1.toInt from r25) (show a1.toInt ≤ 11 from t26) (show (-1) ≤ a3.toInt from r27) (show a3.toInt ≤ 102119 from t28) (show 0 ≤ a4.toInt from r29) (show a4.toInt ≤ 102119 from t30) (show 0 ≤ v25_6.toInt from r31) (show v25_6.toInt ≤ 4254 from t32) (show 0 ≤ v56_7.toInt from r33) (show v56_7.toInt ≤ 16777215 from t34) (show 0 ≤ v56_8.toInt from r35) (show v56_8.toInt ≤ 24 from t36)  hw hT hF  (lv_sub hl [0, 1, 2, 3, 4, 5, 6, 7, 8] rfl)
            · have c38 : v56_8.toInt < (24 : Int) := wk_leF c38
              refine lv_iload hx hb dX7_firstOpen_68 (lv_at hl 7 rfl) ?_
              refine lv_iload hx hb dX7_firstOpen_70 (lv_at hl 8 rfl) ?_
              refine lv_ishr hx hb dX7_firstOpen_72 ?_
              refine lv_topi (fun x39 ex39 => ?_)
              have bx39 : 0 ≤ x39.toInt ∧ x39.toInt ≤ v56_7.toInt := by rw [ex39]; exact wk_shr (by omega)
              refine lv_iconst (v := 1) hx hb dX7_firstOpen_73 (by decide) ?_
              refine lv_iand hx hb dX7_firstOpen_74 ?_
              refine lv_topi (fun x40 ex40 => ?_)
              have bx40 : 0 ≤ x40.toInt ∧ x40.toInt ≤ (1 : Int) := by rw [ex40]; exact wk_and (by decide)
              refine lv_if_eq (tgt := 102) hx hb dX7_firstOpen_75 (by decide) (fun c41 => ?_) (fun c41 => ?_)
              · have c41 : x40.toInt = (0 : Int) := wk_eq.mp c41
                obtain ⟨x42, ex42⟩ : ∃ y : Int32, y = v56_8 + Int32.ofInt 1 := ⟨_, rfl⟩
                refine lv_iinc (v := x42) (lv' := [(8, .int x42), (0, .ref (ad 39)), (1, .int a1), (2, .int 1), (3, .int a3), (4, .int a4), (5, .int (-1)), (6, .int v25_6), (7, .int v56_7)]) hx hb dX7_firstOpen_102 hl (k := 8) rfl ex42.symm (by decide) rfl (fun ls hl => ?_)
                have ex42 : x42.toInt = v56_8.toInt + 1 := by rw [ex42]; exact wk_add (y := 1) (show -2147483648 ≤ v56_8.toInt + 1 by omega) (show v56_8.toInt + 1 ≤ 2147483647 by omega)
                refine lv_goto (tgt := 56) hx hb dX7_firstOpen_105 (by decide) ?_
                exact ih56 v56_7 x42 H locs ls w24 (show 0 ≤ a1.toInt from r25) (show a1.toInt ≤ 11 from t26) (show (-1) ≤ a3.toInt from r27) (show a3.toInt ≤ 102119 from t28) (show 0 ≤ a4.toInt from r29) (show a4.toInt ≤ 102119 from t30) (show 0 ≤ v25_6.toInt from r31) (show v25_6.toInt ≤ 4254 from t32) (show 0 ≤ v56_7.toInt from r33) (show v56_7.toInt ≤ 16777215 from t34) (show 0 ≤ x42.toInt by first | with_reducible assumption | omega) (show x42.toInt ≤ 24 by first | with_reducible assumption | omega) (show (24 - x42.toInt).toNat < n56 by first | exact tn_lt hm56 (by omega) (by omega) | omega) hw hT hF  (lv_sub hl [1, 2, 3, 4, 5, 6, 7, 8, 0] rfl)
              · have c41 : ¬ x40.toInt = (0 : Int) := wk_eqF c41
                refine lv_iload hx hb dX7_firstOpen_78 (lv_at hl 6 rfl) ?_
                refine lv_bipush (v := 24) hx hb dX7_firstOpen_80 (by decide) ?_
                refine lv_imul hx hb dX7_firstOpen_82 ?_
                refine lv_topi (fun x43 ex43 => ?_)
                have ex43 : x43.toInt = v25_6.toInt * (24 : Int) := by rw [ex43]; exact wk_mul (show (-2147483648) ≤ v25_6.toInt * (24 : Int) by omega) (show v25_6.toInt * (24 : Int) ≤ 2147483647 by omega)
                refine lv_iload hx hb dX7_firstOpen_83 (lv_at hl 8 rfl) ?_
                refine lv_iadd hx hb dX7_firstOpen_85 ?_
                refine lv_topi (fun x44 ex44 => ?_)
                have ex44 : x44.toInt = x43.toInt + v56_8.toInt := by rw [ex44]; exact wk_add (show (-2147483648) ≤ x43.toInt + v56_8.toInt by omega) (show x43.toInt + v56_8.toInt ≤ 2147483647 by omega)
                refine lv_istore (lv' := [(9, .int x44), (0, .ref (ad 39)), (1, .int a1), (2, .int 1), (3, .int a3), (4, .int a4), (5, .int (-1)), (6, .int v25_6), (7, .int v56_7), (8, .int v56_8)]) hx hb dX7_firstOpen_86 hl (by decide) rfl (fun ls hl => ?_)
                refine lv_iload hx hb dX7_firstOpen_88 (lv_at hl 0 rfl) ?_
                refine lv_iload hx hb dX7_firstOpen_90 (lv_at hl 5 rfl) ?_
                refine lv_icmp_gt (tgt := 100) hx hb dX7_firstOpen_92 (by decide) (fun c45 => ?_) (fun c45 => ?_)
                · have c45 : a4.toInt < x44.toInt := wk_lt.mp c45
                  refine lv_iconst (v := (-1)) hx hb dX7_firstOpen_100 (by decide) ?_
                  exact tk_iret hC hr hlocks hK ⟨hT, hF, (Or.inr rfl)⟩ hw dX7_firstOpen_101
                · have c45 : x44.toInt ≤ a4.toInt := wk_ltF c45
                  refine lv_iload hx hb dX7_firstOpen_95 (lv_at hl 0 rfl) ?_
                  refine lv_goto (tgt := 101) hx hb dX7_firstOpen_97 (by decide) ?_
                  exact tk_iret hC hr hlocks hK ⟨hT, hF, (Or.inl ⟨(show 0 ≤ x44.toInt by first | with_reducible assumption | omega), (show x44.toInt ≤ 102119 by first | with_reducible assumption | omega)⟩)⟩ hw dX7_firstOpen_101
      refine lv_iload hx hb dX7_firstOpen_25 (lv_at hl 6 rfl) ?_
      refine lv_bipush (v := 24) hx hb dX7_firstOpen_27 (by decide) ?_
      refine lv_imul hx hb dX7_firstOpen_29 ?_
      refine lv_topi (fun x46 ex46 => ?_)
      have ex46 : x46.toInt = v25_6.toInt * (24 : Int) := by rw [ex46]; exact wk_mul (show (-2147483648) ≤ v25_6.toInt * (24 : Int) by omega) (show v25_6.toInt * (24 : Int) ≤ 2147483647 by omega)
      refine lv_iload hx hb dX7_firstOpen_30 (lv_at hl 4 rfl) ?_
      refine lv_icmp_gt (tgt := 114) hx hb dX7_firstOpen_32 (by decide) (fun c47 => ?_) (fun c47 => ?_)
      · have c47 : a4.toInt < x46.toInt := wk_lt.mp c47
        refine lv_iconst (v := (-1)) hx hb dX7_firstOpen_114 (by decide) ?_
        exact tk_iret hC hr hlocks hK ⟨hT, hF, (Or.inr rfl)⟩ hw dX7_firstOpen_115
      · have c47 : x46.toInt ≤ a4.toInt := wk_ltF c47
        refine lv_aload_n hx hb dX7_firstOpen_35 rfl (lv_at hl 0 rfl) ?_
        refine lv_iload_n hx hb dX7_firstOpen_36 rfl (lv_at hl 1 rfl) ?_
        refine lv_iload_n hx hb dX7_firstOpen_37 rfl (lv_at hl 2 rfl) ?_
        refine lv_iload hx hb dX7_firstOpen_38 (lv_at hl 6 rfl) ?_
        refine lv_i2l hx hb dX7_firstOpen_40 rfl ?_
        refine lv_topl (fun x48 ex48 => ?_)
        have ex48 : x48.toInt = v25_6.toInt := by rw [ex48]; exact wk_i2l _
        have bx48 := wk_i32 v25_6
        refine lv_iconst (v := 1) hx hb dX7_firstOpen_41 (by decide) ?_
        refine tk_Vi hC hK hw hT hA hE hSR kC_at39 (by decide) rfl (k_X7_openHours_12 l adK adV dC dI cy ad B hB0 (Int.le_trans hB1 (by decide)) qr s1   a1 (show 0 ≤ a1.toInt from r2) (show a1.toInt ≤ 11 from t3) x48 (show 0 ≤ x48.toInt by first | with_reducible assumption | omega) (show x48.toInt ≤ 4254 by first | with_reducible assumption | omega) w1 H.size hT ) (cwV 4 hC.2.2.2.2 uV_RX7_148 rfl rfl rfl (by decide +kernel) ⟨Nat.le_of_ble_eq_true rfl, Nat.le_of_ble_eq_true rfl⟩) rfl hl.1 rfl (Nat.le_of_ble_eq_true rfl) dX7_firstOpen_42 (fun r49 w51 H locs hp50 hw => ?_)
        obtain ⟨hT, k52, hg55⟩ := hp50
        have hF := hF.tr k52 (by decide)
        obtain ⟨g53, g54⟩ := hg55
        refine lv_iload hx hb dX7_firstOpen_45 (lv_at hl 5 rfl) ?_
        refine lv_iand hx hb dX7_firstOpen_47 ?_
        refine lv_topi (fun x56 ex56 => ?_)
        have bx56 : 0 ≤ x56.toInt ∧ x56.toInt ≤ r49.toInt := by rw [ex56]; exact wk_andC (by omega)
        refine lv_istore (lv' := [(7, .int x56), (0, .ref (ad 39)), (1, .int a1), (2, .int 1), (3, .int a3), (4, .int a4), (5, .int v25_5), (6, .int v25_6)]) hx hb dX7_firstOpen_48 hl (by decide) rfl (fun ls hl => ?_)
        refine lv_iconst (v := (-1)) hx hb dX7_firstOpen_50 (by decide) ?_
        refine lv_istore (lv' := [(5, .int (-1)), (7, .int x56), (0, .ref (ad 39)), (1, .int a1), (2, .int 1), (3, .int a3), (4, .int a4), (6, .int v25_6)]) hx hb dX7_firstOpen_51 hl (by decide) rfl (fun ls hl => ?_)
        refine lv_iconst (v := 0) hx hb dX7_firstOpen_53 (by decide) ?_
        refine lv_istore (lv' := [(8, .int 0), (5, .int (-1)), (7, .int x56), (0, .ref (ad 39)), (1, .int a1), (2, .int 1), (3, .int a3), (4, .int a4), (6, .int v25_6)]) hx hb dX7_firstOpen_54 hl (by decide) rfl (fun ls hl => ?_)
        exact L56 ((24 - (0 : Int)).toNat + 1) x56 0 H locs ls w51 (show 0 ≤ a1.toInt from r2) (show a1.toInt ≤ 11 from t3) (show (-1) ≤ a3.toInt from r4) (show a3.toInt ≤ 102119 from t5) (show 0 ≤ a4.toInt from r6) (show a4.toInt ≤ 102119 from t7) (show 0 ≤ v25_6.toInt from r8) (show v25_6.toInt ≤ 4254 by first | with_reducible assumption | omega) (show 0 ≤ x56.toInt by first | with_reducible assumption | omega) (show x56.toInt ≤ 16777215 by first | with_reducible assumption | omega) (by decide) (by decide) (Nat.lt_succ_self _) hw hT hF  (lv_sub hl [3, 4, 5, 6, 7, 1, 8, 2, 0] rfl)
  refine lv_aload_n hx hb dX7_firstOpen_0 rfl (lv_at hl 0 rfl) ?_
  refine lv_iload_n hx hb dX7_firstOpen_1 rfl (lv_at hl 1 rfl) ?_
  refine lv_iload_n hx hb dX7_firstOpen_2 rfl (lv_at hl 2 rfl) ?_
  refine tk_Vi hC hK hw hT hA hE hSR kC_at39 (by decide) rfl (k_X7_isNeverOpen_2 l adK adV dC dI cy ad B hB0 (Int.le_trans hB1 (by decide)) qr s1   a1 (show 0 ≤ a1.toInt from ra1) (show a1.toInt ≤ 11 from ta1) w0 s.heap.size hT ) (cwV 2 hC.2.2.2.2 uV_RX7_152 rfl rfl rfl (by decide +kernel) ⟨Nat.le_of_ble_eq_true rfl, Nat.le_of_ble_eq_true rfl⟩) rfl hl.1 rfl (Nat.le_of_ble_eq_true rfl) dX7_firstOpen_3 (fun r57 w59 H locs hp58 hw => ?_)
  obtain ⟨hT, k60, hg61⟩ := hp58
  have hF := hF.tr k60 (by decide)
  rcases hg61 with rfl | rfl
  · refine lv_if_eq (tgt := 11) hx hb dX7_firstOpen_6 (by decide) (fun _ => ?_) (fun c => absurd (by decide) c)
    refine lv_iconst (v := (-1)) hx hb dX7_firstOpen_11 (by decide) ?_
    refine lv_iload_n hx hb dX7_firstOpen_12 rfl (lv_at hl 3 rfl) ?_
    refine lv_bipush (v := 24) hx hb dX7_firstOpen_13 (by decide) ?_
    refine lv_irem hx hb dX7_firstOpen_15 (by decide) ?_
    refine lv_topi (fun x62 ex62 => ?_)
    refine lv_ishl hx hb dX7_firstOpen_16 ?_
    refine lv_topi (fun x63 ex63 => ?_)
    refine lv_istore (lv' := [(5, .int x63), (0, .ref (ad 39)), (1, .int a1), (2, .int 1), (3, .int a3), (4, .int a4)]) hx hb dX7_firstOpen_17 hl (by decide) rfl (fun ls hl => ?_)
    refine lv_iload_n hx hb dX7_firstOpen_19 rfl (lv_at hl 4 rfl) ?_
    refine lv_bipush (v := 24) hx hb dX7_firstOpen_20 (by decide) ?_
    refine lv_idiv hx hb dX7_firstOpen_22 (by decide) ?_
    refine lv_topi (fun x64 ex64 => ?_)
    have bx64 : -(1 / (24 : Int)) ≤ x64.toInt ∧ x64.toInt ≤ 102119 / (24 : Int) := by rw [ex64]; exact wk_divB (m := 1) (n := 102119) (show 0 < (24 : Int) by decide) (by decide) (by decide) (by omega) (by omega)
    refine lv_istore (lv' := [(6, .int x64), (5, .int x63), (0, .ref (ad 39)), (1, .int a1), (2, .int 1), (3, .int a3), (4, .int a4)]) hx hb dX7_firstOpen_23 hl (by decide) rfl (fun ls hl => ?_)
    exact L25 ((4255 - x64.toInt).toNat + 1) x63 x64 H locs ls w59 (show 0 ≤ a1.toInt from ra1) (show a1.toInt ≤ 11 from ta1) (show (-1) ≤ a3.toInt from ra3) (show a3.toInt ≤ 102119 from ta3) (show 0 ≤ a4.toInt from ra4) (show a4.toInt ≤ 102119 from ta4) (show 0 ≤ x64.toInt by first | with_reducible assumption | omega) (show x64.toInt ≤ 4255 by first | with_reducible assumption | omega) (Nat.lt_succ_self _) hw hT hF  (lv_sub hl [2, 3, 4, 5, 6, 1, 0] rfl)
  · refine lv_if_eq (tgt := 11) hx hb dX7_firstOpen_6 (by decide) (fun c => absurd c (by decide)) (fun _ => ?_)
    refine lv_iconst (v := (-1)) hx hb dX7_firstOpen_9 (by decide) ?_
    exact tk_iret hC hr hlocks hK ⟨hT, hF, (Or.inr rfl)⟩ hw dX7_firstOpen_10
abbrev P_X7_lastOpen_1 (ad : Nat → Nat) (cy : Nat → ClassId) (B : Int) (qr : Nat) (s1 : Int) (a1 : Int32) (a3 : Int32) (a4 : Int32) (w0 : va_W) : Int32 → va_W → Prop := fun r u => TW ksC ad cy B qr s1 u ∧ FE ksC ([] : List (Nat × Nat × Nat)) w0 u ∧ ((0 ≤ r.toInt ∧ r.toInt ≤ 102119 ∧ 0 ≤ a4.toInt) ∨ (r = (-1)))
set_option maxHeartbeats 4000000 in
set_option maxRecDepth 100000 in
theorem k_X7_lastOpen_1 (l : Launch) (adK adV : Nat → Nat) (dC : Nat → ClassId) (dI : Nat → Nat → Nat) (cy : Nat → ClassId) (ad : Nat → Nat) (B : Int) (hB0 : 2147483648 ≤ B) (hB1 : B ≤ 1152921504606846976) (qr : Nat) (s1 : Int)  (a1 : Int32) (ra1 : 0 ≤ a1.toInt) (ta1 : a1.toInt ≤ 11) (a3 : Int32) (ra3 : 0 ≤ a3.toInt) (ta3 : a3.toInt ≤ 99999) (a4 : Int32) (ra4 : (-10) ≤ a4.toInt) (ta4 : a4.toInt ≤ 102119) (w0 : va_W) (sz : Nat) (hT : TW ksC ad cy B qr s1 w0)  : Met l yX7_lastOpen (wu yX7_lastOpen cX7_lastOpen 10 (some .int)) ({ frames := 2, cells := 0, slots := 0, locals := 39 }) (va_Pc [.ref (ad 39), .int a1, .int 1, .int a3, .int a4] (wpreS adK adV dC dI cy sz w0)) (va_Qi (P_X7_lastOpen_1 ad cy B qr s1 a1 a3 a4 w0) (fun u : va_W => wpost dC dI cy (va_A w0 sz) u) (va_A w0 sz)) 0 0 (va_A w0 sz) := by
  refine Met.ofW (cc := cX7_lastOpen) (maxL := 10) (ret := (some .int)) (by decide) rfl ?_
  intro p e s m args below meth c s₁ Bk hml hv
  obtain ⟨rfl, ⟨hsz, hP, hK, hD0⟩, hE, hSR⟩ := hv
  have hx := Bk.exec
  have hb := Bk.bytes
  have hr := Bk.returns
  have hlocks := Bk.notSynchronized
  have hC : CallFix p m c cX7_lastOpen 10 s _ (wu yX7_lastOpen cX7_lastOpen 10 (some .int)) RX7 := ⟨hx, hb, hml, findClass_of_methodNamed Bk.named, atoms_spec (ws := (wu yX7_lastOpen cX7_lastOpen 10 (some .int))) Bk.pre⟩
  subst hsz
  have hD := hD0.self (sz := s.heap.size)
  generalize hAe : va_A w0 s.heap.size = A at hD hE ⊢
  have hA : ∀ q : Nat, s.heap.size ≤ q → A q := fun q h => by rw [← hAe]; exact Or.inr h
  have hw : Wd dC dI A s.heap s.heap [] w0 := ⟨hP, hD, va_S.rf⟩
  have hF : FE ksC ([] : List (Nat × Nat × Nat)) w0 w0 := FE.rf
  have hl := lv_entry ([.ref (ad 39), .int a1, .int 1, .int a3, .int a4]) (n := 10) (Nat.le_of_ble_eq_true rfl)
  rw [lg_entry_eq]
  generalize (lg_sl ([.ref (ad 39), .int a1, .int 1, .int a3, .int a4]) ++ List.replicate (10 - (lg_sl ([.ref (ad 39), .int a1, .int 1, .int a3, .int a4])).length) Slot.unset).toArray = ls at hl ⊢
  have hl : lv_has ls 10 [(0, .ref (ad 39)), (1, .int a1), (2, .int 1), (3, .int a3), (4, .int a4)] := hl
  generalize hloc : ([] : List Loc) = locs at hw ⊢
  have J15 : ∀ (H : Heap) (locs : List Loc) (ls : Array Slot) (w1 : va_W), 0 ≤ a1.toInt → a1.toInt ≤ 11 → 0 ≤ a3.toInt → a3.toInt ≤ 99999 → (-10) ≤ a4.toInt → a4.toInt ≤ 102119 → Wd dC dI A s.heap H locs w1 → TW ksC ad cy B qr s1 w1 → FE ksC ([] : List (Nat × Nat × Nat)) w0 w1 → lv_has ls 10 [(0, .ref (ad 39)), (1, .int a1), (2, .int 1), (3, .int a3), (4, .int a4)] → W p l e ({ frames := 2, cells := 0, slots := 0, locals := 39 }) s m (List.toArray [.ref (ad 39), .int a1, .int 1, .int a3, .int a4]) below meth c H locs 0 0 (MQ below (va_Qi (P_X7_lastOpen_1 ad cy B qr s1 a1 a3 a4 w0) (fun u : va_W => wpost dC dI cy A u) A) (List.toArray [.ref (ad 39), .int a1, .int 1, .int a3, .int a4]) s 0 0 A) (F0 m 15 ls []) := by
    intro H locs ls w1 r2 t3 r4 t5 r6 t7 hw hT hF hl
    refine lv_iconst (v := (-1)) hx hb dX7_lastOpen_15 (by decide) ?_
    exact tk_iret hC hr hlocks hK ⟨hT, hF, (Or.inr rfl)⟩ hw dX7_lastOpen_16
  have L35 : ∀ (n35 : Nat) (v35_5 : Int32) (v35_6 : Int32) (H : Heap) (locs : List Loc) (ls : Array Slot) (w8 : va_W), 0 ≤ a1.toInt → a1.toInt ≤ 11 → 0 ≤ a3.toInt → a3.toInt ≤ 99999 → 0 ≤ a4.toInt → a4.toInt ≤ 102119 → (-1) ≤ v35_6.toInt → v35_6.toInt ≤ 4254 → (v35_6.toInt - (-1)).toNat < n35 → Wd dC dI A s.heap H locs w8 → TW ksC ad cy B qr s1 w8 → FE ksC ([] : List (Nat × Nat × Nat)) w0 w8 → lv_has ls 10 [(0, .ref (ad 39)), (1, .int a1), (2, .int 1), (3, .int a3), (4, .int a4), (5, .int v35_5), (6, .int v35_6)] → W p l e ({ frames := 2, cells := 0, slots := 0, locals := 39 }) s m (List.toArray [.ref (ad 39), .int a1, .int 1, .int a3, .int a4]) below meth c H locs 0 0 (MQ below (va_Qi (P_X7_lastOpen_1 ad cy B qr s1 a1 a3 a4 w0) (fun u : va_W => wpost dC dI cy A u) A) (List.toArray [.ref (ad 39), .int a1, .int 1, .int a3, .int a4]) s 0 0 A) (F0 m 35 ls []) := by
    intro n35
    induction n35 with
    | zero => intro v35_5 v35_6 H locs ls w8 r9 t10 r11 t12 r13 t14 r15 t16 hm35 hw hT hF hl; omega
    | succ n35 ih35 =>
      intro v35_5 v35_6 H locs ls w8 r9 t10 r11 t12 r13 t14 r15 t16 hm35 hw hT hF hl
      have J115 : ∀ (v115_7 : Int32) (v115_8 : Int32) (H : Heap) (locs : List Loc) (ls : Array Slot) (w17 : va_W), 0 ≤ a1.toInt → a1.toInt ≤ 11 → 0 ≤ a3.toInt → a3.toInt ≤ 99999 → 0 ≤ a4.toInt → a4.toInt ≤ 102119 → 0 ≤ v35_6.toInt → v35_6.toInt ≤ 4254 → 0 ≤ v115_7.toInt → v115_7.toInt ≤ 16777215 → (-1) ≤ v115_8.toInt → v115_8.toInt ≤ 23 → Wd dC dI A s.heap H locs w17 → TW ksC ad cy B qr s1 w17 → FE ksC ([] : List (Nat × Nat × Nat)) w0 w17 → lv_has ls 10 [(0, .ref (ad 39)), (1, .int a1), (2, .int 1), (3, .int a3), (4, .int a4), (5, .int (-1)), (6, .int v35_6), (7, .int v115_7), (8, .int v115_8)] → W p l e ({ frames := 2, cells := 0, slots := 0, locals := 39 }) s m (List.toArray [.ref (ad 39), .int a1, .int 1, .int a3, .int a4]) below meth c H locs 0 0 (MQ below (va_Qi (P_X7_lastOpen_1 ad cy B qr s1 a1 a3 a4 w0) (fun u : va_W => wpost dC dI cy A u) A) (List.toArray [.ref (ad 39), .int a1, .int 1, .int a3, .int a4]) s 0 0 A) (F0 m 115 ls []) := by
        intro v115_7 v115_8 H locs ls w17 r18 t19 r20 t21 r22 t23 r24 t25 r26 t27 r28 t29 hw hT hF hl
        obtain ⟨x30, ex30⟩ : ∃ y : Int32, y = v35_6 + Int32.ofInt (-1) := ⟨_, rfl⟩
        refine lv_iinc (v := x30) (lv' := [(6, .int x30), (0, .ref (ad 39)), (1, .int a1), (2, .int 1), (3, .int a3), (4, .int a4), (5, .int (-1)), (7, .int v115_7), (8, .int v115_8)]) hx hb dX7_lastOpen_115 hl (k := 6) rfl ex30.symm (by decide) rfl (fun ls hl => ?_)
        have ex30 : x30.toInt = v35_6.toInt + (-1) := by rw [ex30]; exact wk_add (y := (-1)) (show -2147483648 ≤ v35_6.toInt + (-1) by omega) (show v35_6.toInt + (-1) ≤ 2147483647 by omega)
        refine lv_goto (tgt := 35) hx hb dX7_lastOpen_118 (by decide) ?_
        exact ih35 (-1) x30 H locs ls w17 (show 0 ≤ a1.toInt from r18) (show a1.toInt ≤ 11 from t19) (show 0 ≤ a3.toInt from r20) (show a3.toInt ≤ 99999 from t21) (show 0 ≤ a4.toInt from r22) (show a4.toInt ≤ 102119 from t23) (show (-1) ≤ x30.toInt by first | with_reducible assumption | omega) (show x30.toInt ≤ 4254 by first | with_reducible assumption | omega) (show (x30.toInt - (-1)).toNat < n35 by first | exact tn_lt hm35 (by omega) (by omega) | omega) hw hT hF  (lv_sub hl [1, 2, 3, 4, 5, 6, 0] rfl)
      have L66 : ∀ (n66 : Nat) (v66_7 : Int32) (v66_8 : Int32) (H : Heap) (locs : List Loc) (ls : Array Slot) (w31 : va_W), 0 ≤ a1.toInt → a1.toInt ≤ 11 → 0 ≤ a3.toInt → a3.toInt ≤ 99999 → 0 ≤ a4.toInt → a4.toInt ≤ 102119 → 0 ≤ v35_6.toInt → v35_6.toInt ≤ 4254 → 0 ≤ v66_7.toInt → v66_7.toInt ≤ 16777215 → (-1) ≤ v66_8.toInt → v66_8.toInt ≤ 23 → (v66_8.toInt - (-1)).toNat < n66 → Wd dC dI A s.heap H locs w31 → TW ksC ad cy B qr s1 w31 → FE ksC ([] : List (Nat × Nat × Nat)) w0 w31 → lv_has ls 10 [(0, .ref (ad 39)), (1, .int a1), (2, .int 1), (3, .int a3), (4, .int a4), (5, .int (-1)), (6, .int v35_6), (7, .int v66_7), (8, .int v66_8)] → W p l e ({ frames := 2, cells := 0, slots := 0, locals := 39 }) s m (List.toArray [.ref (ad 39), .int a1, .int 1, .int a3, .int a4]) below meth c H locs 0 0 (MQ below (va_Qi (P_X7_lastOpen_1 ad cy B qr s1 a1 a3 a4 w0) (fun u : va_W => wpost dC dI cy A u) A) (List.toArray [.ref (ad 39), .int a1, .int 1, .int a3, .int a4]) s 0 0 A) (F0 m 66 ls []) := by
        intro n66
        induction n66 with
        | zero => intro v66_7 v66_8 H locs ls w31 r32 t33 r34 t35 r36 t37 r38 t39 r40 t41 r42 t43 hm66 hw hT hF hl; omega
        | succ n66 ih66 =>
          intro v66_7 v66_8 H locs ls w31 r32 t33 r34 t35 r36 t37 r38 t39 r40 t41 r42 t43 hm66 hw hT hF hl
          refine lv_iload hx hb dX7_lastOpen_66 (lv_at hl 7 rfl) ?_
          refine lv_if_eq (tgt := 115) hx hb dX7_lastOpen_68 (by decide) (fun c44 => ?_) (fun c44 => ?_)
          · have c44 : v66_7.toInt = (0 : Int) := wk_eq.mp c44
            exact J115 v66_7 v66_8 H locs ls w31 (show 0 ≤ a1.toInt from r32) (show a1.toInt ≤ 11 from t33) (show 0 ≤ a3.toInt from r34) (show a3.toInt ≤ 99999 from t35) (show 0 ≤ a4.toInt from r36) (show a4.toInt ≤ 102119 from t37) (show 0 ≤ v35_6.toInt from r38) (show v35_6.toInt ≤ 4254 from t39) (show 0 ≤ v66_7.toInt from r40) (show v66_7.toInt ≤ 16777215 from t41) (show (-1) ≤ v66_8.toInt from r42) (show v66_8.toInt ≤ 23 from t43)  hw hT hF  (lv_sub hl [0, 1, 2, 3, 4, 5, 6, 7, 8] rfl)
          · have c44 : ¬ v66_7.toInt = (0 : Int) := wk_eqF c44
            refine lv_iload hx hb dX7_lastOpen_71 (lv_at hl 8 rfl) ?_
            refine lv_if_lt (tgt := 115) hx hb dX7_lastOpen_73 (by decide) (fun c45 => ?_) (fun c45 => ?_)
            · have c45 : v66_8.toInt < (0 : Int) := wk_lt.mp c45
              exact J115 v66_7 v66_8 H locs ls w31 (show 0 ≤ a1.toInt from r32) (show a1.toInt ≤ 11 from t33) (show 0 ≤ a3.toInt from r34) (show a3.toInt ≤ 99999 from t35) (show 0 ≤ a4.toInt from r36) (show a4.toInt ≤ 102119 from t37) (show 0 ≤ v35_6.toInt from r38) (show v35_6.toInt ≤ 4254 from t39) (show 0 ≤ v66_7.toInt from r40) (show v66_7.toInt ≤ 16777215 from t41) (show (-1) ≤ v66_8.toInt from r42) (show v66_8.toInt ≤ 23 from t43)  hw hT hF  (lv_sub hl [0, 1, 2, 3, 4, 5, 6, 7, 8] rfl)
            · have c45 : (0 : Int) ≤ v66_8.toInt := wk_ltF c45
              refine lv_iload hx hb dX7_lastOpen_76 (lv_at hl 7 rfl) ?_
              refine lv_iload hx hb dX7_lastOpen_78 (lv_at hl 8 rfl) ?_
              refine lv_ishr hx hb dX7_lastOpen_80 ?_
              refine lv_topi (fun x46 ex46 => ?_)
              have bx46 : 0 ≤ x46.toInt ∧ x46.toInt ≤ v66_7.toInt := by rw [ex46]; exact wk_shr (by omega)
              refine lv_iconst (v := 1) hx hb dX7_lastOpen_81 (by decide) ?_
              refine lv_iand hx hb dX7_lastOpen_82 ?_
              refine lv_topi (fun x47 ex47 => ?_)
              have bx47 : 0 ≤ x47.toInt ∧ x47.toInt ≤ (1 : Int) := by rw [ex47]; exact wk_and (by decide)
              refine lv_if_eq (tgt := 109) hx hb dX7_lastOpen_83 (by decide) (fun c48 => ?_) (fun c48 => ?_)
              · have c48 : x47.toInt = (0 : Int) := wk_eq.mp c48
                obtain ⟨x49, ex49⟩ : ∃ y : Int32, y = v66_8 + Int32.ofInt (-1) := ⟨_, rfl⟩
                refine lv_iinc (v := x49) (lv' := [(8, .int x49), (0, .ref (ad 39)), (1, .int a1), (2, .int 1), (3, .int a3), (4, .int a4), (5, .int (-1)), (6, .int v35_6), (7, .int v66_7)]) hx hb dX7_lastOpen_109 hl (k := 8) rfl ex49.symm (by decide) rfl (fun ls hl => ?_)
                have ex49 : x49.toInt = v66_8.toInt + (-1) := by rw [ex49]; exact wk_add (y := (-1)) (show -2147483648 ≤ v66_8.toInt + (-1) by omega) (show v66_8.toInt + (-1) ≤ 2147483647 by omega)
                refine lv_goto (tgt := 66) hx hb dX7_lastOpen_112 (by decide) ?_
                exact ih66 v66_7 x49 H locs ls w31 (show 0 ≤ a1.toInt from r32) (show a1.toInt ≤ 11 from t33) (show 0 ≤ a3.toInt from r34) (show a3.toInt ≤ 99999 from t35) (show 0 ≤ a4.toInt from r36) (show a4.toInt ≤ 102119 from t37) (show 0 ≤ v35_6.toInt from r38) (show v35_6.toInt ≤ 4254 from t39) (show 0 ≤ v66_7.toInt from r40) (show v66_7.toInt ≤ 16777215 from t41) (show (-1) ≤ x49.toInt by first | with_reducible assumption | omega) (show x49.toInt ≤ 23 by first | with_reducible assumption | omega) (show (x49.toInt - (-1)).toNat < n66 by first | exact tn_lt hm66 (by omega) (by omega) | omega) hw hT hF  (lv_sub hl [1, 2, 3, 4, 5, 6, 7, 8, 0] rfl)
              · have c48 : ¬ x47.toInt = (0 : Int) := wk_eqF c48
                refine lv_iload hx hb dX7_lastOpen_86 (lv_at hl 6 rfl) ?_
                refine lv_bipush (v := 24) hx hb dX7_lastOpen_88 (by decide) ?_
                refine lv_imul hx hb dX7_lastOpen_90 ?_
                refine lv_topi (fun x50 ex50 => ?_)
                have ex50 : x50.toInt = v35_6.toInt * (24 : Int) := by rw [ex50]; exact wk_mul (show (-2147483648) ≤ v35_6.toInt * (24 : Int) by omega) (show v35_6.toInt * (24 : Int) ≤ 2147483647 by omega)
                refine lv_iload hx hb dX7_lastOpen_91 (lv_at hl 8 rfl) ?_
                refine lv_iadd hx hb dX7_lastOpen_93 ?_
                refine lv_topi (fun x51 ex51 => ?_)
                have ex51 : x51.toInt = x50.toInt + v66_8.toInt := by rw [ex51]; exact wk_add (show (-2147483648) ≤ x50.toInt + v66_8.toInt by omega) (show x50.toInt + v66_8.toInt ≤ 2147483647 by omega)
                refine lv_istore (lv' := [(9, .int x51), (0, .ref (ad 39)), (1, .int a1), (2, .int 1), (3, .int a3), (4, .int a4), (5, .int (-1)), (6, .int v35_6), (7, .int v66_7), (8, .int v66_8)]) hx hb dX7_lastOpen_94 hl (by decide) rfl (fun ls hl => ?_)
                refine lv_iload hx hb dX7_lastOpen_96 (lv_at hl 0 rfl) ?_
                refine lv_iload_n hx hb dX7_lastOpen_98 rfl (lv_at hl 4 rfl) ?_
                refine lv_icmp_lt (tgt := 107) hx hb dX7_lastOpen_99 (by decide) (fun c52 => ?_) (fun c52 => ?_)
                · have c52 : x51.toInt < a3.toInt := wk_lt.mp c52
                  refine lv_iconst (v := (-1)) hx hb dX7_lastOpen_107 (by decide) ?_
                  exact tk_iret hC hr hlocks hK ⟨hT, hF, (Or.inr rfl)⟩ hw dX7_lastOpen_108
                · have c52 : a3.toInt ≤ x51.toInt := wk_ltF c52
                  refine lv_iload hx hb dX7_lastOpen_102 (lv_at hl 0 rfl) ?_
                  refine lv_goto (tgt := 108) hx hb dX7_lastOpen_104 (by decide) ?_
                  exact tk_iret hC hr hlocks hK ⟨hT, hF, (Or.inl ⟨(show 0 ≤ x51.toInt by first | with_reducible assumption | omega), (show x51.toInt ≤ 102119 by first | with_reducible assumption | omega), (show 0 ≤ a4.toInt from r36)⟩)⟩ hw dX7_lastOpen_108
      refine lv_iload hx hb dX7_lastOpen_35 (lv_at hl 6 rfl) ?_
      refine lv_iload_n hx hb dX7_lastOpen_37 rfl (lv_at hl 3 rfl) ?_
      refine lv_bipush (v := 24) hx hb dX7_lastOpen_38 (by decide) ?_
      refine lv_idiv hx hb dX7_lastOpen_40 (by decide) ?_
      refine lv_topi (fun x53 ex53 => ?_)
      have ex53 : x53.toInt = a3.toInt / (24 : Int) := by rw [ex53]; exact wk_div (show 0 ≤ a3.toInt from r11) (show 0 < (24 : Int) by decide)
      refine lv_icmp_lt (tgt := 121) hx hb dX7_lastOpen_41 (by decide) (fun c54 => ?_) (fun c54 => ?_)
      · have c54 : v35_6.toInt < x53.toInt := wk_lt.mp c54
        refine lv_iconst (v := (-1)) hx hb dX7_lastOpen_121 (by decide) ?_
        exact tk_iret hC hr hlocks hK ⟨hT, hF, (Or.inr rfl)⟩ hw dX7_lastOpen_122
      · have c54 : x53.toInt ≤ v35_6.toInt := wk_ltF c54
        refine lv_aload_n hx hb dX7_lastOpen_44 rfl (lv_at hl 0 rfl) ?_
        refine lv_iload_n hx hb dX7_lastOpen_45 rfl (lv_at hl 1 rfl) ?_
        refine lv_iload_n hx hb dX7_lastOpen_46 rfl (lv_at hl 2 rfl) ?_
        refine lv_iload hx hb dX7_lastOpen_47 (lv_at hl 6 rfl) ?_
        refine lv_i2l hx hb dX7_lastOpen_49 rfl ?_
        refine lv_topl (fun x55 ex55 => ?_)
        have ex55 : x55.toInt = v35_6.toInt := by rw [ex55]; exact wk_i2l _
        have bx55 := wk_i32 v35_6
        refine lv_iconst (v := 1) hx hb dX7_lastOpen_50 (by decide) ?_
        refine tk_Vi hC hK hw hT hA hE hSR kC_at39 (by decide) rfl (k_X7_openHours_12 l adK adV dC dI cy ad B hB0 (Int.le_trans hB1 (by decide)) qr s1   a1 (show 0 ≤ a1.toInt from r9) (show a1.toInt ≤ 11 from t10) x55 (show 0 ≤ x55.toInt by first | with_reducible assumption | omega) (show x55.toInt ≤ 4254 by first | with_reducible assumption | omega) w8 H.size hT ) (cwV 4 hC.2.2.2.2 uV_RX7_148 rfl rfl rfl (by decide +kernel) ⟨Nat.le_of_ble_eq_true rfl, Nat.le_of_ble_eq_true rfl⟩) rfl hl.1 rfl (Nat.le_of_ble_eq_true rfl) dX7_lastOpen_51 (fun r56 w58 H locs hp57 hw => ?_)
        obtain ⟨hT, k59, hg62⟩ := hp57
        have hF := hF.tr k59 (by decide)
        obtain ⟨g60, g61⟩ := hg62
        refine lv_iload hx hb dX7_lastOpen_54 (lv_at hl 5 rfl) ?_
        refine lv_iand hx hb dX7_lastOpen_56 ?_
        refine lv_topi (fun x63 ex63 => ?_)
        have bx63 : 0 ≤ x63.toInt ∧ x63.toInt ≤ r56.toInt := by rw [ex63]; exact wk_andC (by omega)
        refine lv_istore (lv' := [(7, .int x63), (0, .ref (ad 39)), (1, .int a1), (2, .int 1), (3, .int a3), (4, .int a4), (5, .int v35_5), (6, .int v35_6)]) hx hb dX7_lastOpen_57 hl (by decide) rfl (fun ls hl => ?_)
        refine lv_iconst (v := (-1)) hx hb dX7_lastOpen_59 (by decide) ?_
        refine lv_istore (lv' := [(5, .int (-1)), (7, .int x63), (0, .ref (ad 39)), (1, .int a1), (2, .int 1), (3, .int a3), (4, .int a4), (6, .int v35_6)]) hx hb dX7_lastOpen_60 hl (by decide) rfl (fun ls hl => ?_)
        refine lv_bipush (v := 23) hx hb dX7_lastOpen_62 (by decide) ?_
        refine lv_istore (lv' := [(8, .int 23), (5, .int (-1)), (7, .int x63), (0, .ref (ad 39)), (1, .int a1), (2, .int 1), (3, .int a3), (4, .int a4), (6, .int v35_6)]) hx hb dX7_lastOpen_64 hl (by decide) rfl (fun ls hl => ?_)
        exact L66 (((23 : Int) - (-1)).toNat + 1) x63 23 H locs ls w58 (show 0 ≤ a1.toInt from r9) (show a1.toInt ≤ 11 from t10) (show 0 ≤ a3.toInt from r11) (show a3.toInt ≤ 99999 from t12) (show 0 ≤ a4.toInt from r13) (show a4.toInt ≤ 102119 from t14) (show 0 ≤ v35_6.toInt by first | with_reducible assumption | omega) (show v35_6.toInt ≤ 4254 from t16) (show 0 ≤ x63.toInt by first | with_reducible assumption | omega) (show x63.toInt ≤ 16777215 by first | with_reducible assumption | omega) (by decide) (by decide) (Nat.lt_succ_self _) hw hT hF  (lv_sub hl [3, 4, 5, 6, 7, 1, 8, 2, 0] rfl)
  refine lv_iload hx hb dX7_lastOpen_0 (lv_at hl 4 rfl) ?_
  refine lv_iload_n hx hb dX7_lastOpen_2 rfl (lv_at hl 3 rfl) ?_
  refine lv_icmp_lt (tgt := 15) hx hb dX7_lastOpen_3 (by decide) (fun c64 => ?_) (fun c64 => ?_)
  · have c64 : a4.toInt < a3.toInt := wk_lt.mp c64
    exact J15  s.heap locs ls w0 (show 0 ≤ a1.toInt from ra1) (show a1.toInt ≤ 11 from ta1) (show 0 ≤ a3.toInt from ra3) (show a3.toInt ≤ 99999 from ta3) (show (-10) ≤ a4.toInt from ra4) (show a4.toInt ≤ 102119 from ta4)  hw hT hF  (lv_sub hl [0, 1, 2, 3, 4] rfl)
  · have c64 : a3.toInt ≤ a4.toInt := wk_ltF c64
    refine lv_aload_n hx hb dX7_lastOpen_6 rfl (lv_at hl 0 rfl) ?_
    refine lv_iload_n hx hb dX7_lastOpen_7 rfl (lv_at hl 1 rfl) ?_
    refine lv_iload_n hx hb dX7_lastOpen_8 rfl (lv_at hl 2 rfl) ?_
    refine tk_Vi hC hK hw hT hA hE hSR kC_at39 (by decide) rfl (k_X7_isNeverOpen_2 l adK adV dC dI cy ad B hB0 (Int.le_trans hB1 (by decide)) qr s1   a1 (show 0 ≤ a1.toInt from ra1) (show a1.toInt ≤ 11 from ta1) w0 s.heap.size hT ) (cwV 2 hC.2.2.2.2 uV_RX7_152 rfl rfl rfl (by decide +kernel) ⟨Nat.le_of_ble_eq_true rfl, Nat.le_of_ble_eq_true rfl⟩) rfl hl.1 rfl (Nat.le_of_ble_eq_true rfl) dX7_lastOpen_9 (fun r65 w67 H locs hp66 hw => ?_)
    obtain ⟨hT, k68, hg69⟩ := hp66
    have hF := hF.tr k68 (by decide)
    rcases hg69 with rfl | rfl
    · refine lv_if_eq (tgt := 17) hx hb dX7_lastOpen_12 (by decide) (fun _ => ?_) (fun c => absurd (by decide) c)
      refine lv_iconst (v := 2) hx hb dX7_lastOpen_17 (by decide) ?_
      refine lv_iload hx hb dX7_lastOpen_18 (lv_at hl 4 rfl) ?_
      refine lv_bipush (v := 24) hx hb dX7_lastOpen_20 (by decide) ?_
      refine lv_irem hx hb dX7_lastOpen_22 (by decide) ?_
      refine lv_topi (fun x70 ex70 => ?_)
      have ex70 : x70.toInt = a4.toInt % (24 : Int) := by rw [ex70]; exact wk_rem (show 0 ≤ a4.toInt by first | with_reducible assumption | omega) (show 0 < (24 : Int) by decide)
      refine lv_ishl hx hb dX7_lastOpen_23 ?_
      refine lv_topi (fun x71 ex71 => ?_)
      refine lv_iconst (v := 1) hx hb dX7_lastOpen_24 (by decide) ?_
      refine lv_isub hx hb dX7_lastOpen_25 ?_
      have nx72 := wk_i32 x71
      refine lv_topi (fun x73 ex73 => ?_)
      refine lv_istore (lv' := [(5, .int x73), (0, .ref (ad 39)), (1, .int a1), (2, .int 1), (3, .int a3), (4, .int a4)]) hx hb dX7_lastOpen_26 hl (by decide) rfl (fun ls hl => ?_)
      refine lv_iload hx hb dX7_lastOpen_28 (lv_at hl 5 rfl) ?_
      refine lv_bipush (v := 24) hx hb dX7_lastOpen_30 (by decide) ?_
      refine lv_idiv hx hb dX7_lastOpen_32 (by decide) ?_
      refine lv_topi (fun x74 ex74 => ?_)
      have ex74 : x74.toInt = a4.toInt / (24 : Int) := by rw [ex74]; exact wk_div (show 0 ≤ a4.toInt by first | with_reducible assumption | omega) (show 0 < (24 : Int) by decide)
      refine lv_istore (lv' := [(6, .int x74), (5, .int x73), (0, .ref (ad 39)), (1, .int a1), (2, .int 1), (3, .int a3), (4, .int a4)]) hx hb dX7_lastOpen_33 hl (by decide) rfl (fun ls hl => ?_)
      exact L35 ((x74.toInt - (-1)).toNat + 1) x73 x74 H locs ls w67 (show 0 ≤ a1.toInt from ra1) (show a1.toInt ≤ 11 from ta1) (show 0 ≤ a3.toInt from ra3) (show a3.toInt ≤ 99999 from ta3) (show 0 ≤ a4.toInt by first | with_reducible assumption | omega) (show a4.toInt ≤ 102119 from ta4) (show (-1) ≤ x74.toInt by first | with_reducible assumption | omega) (show x74.toInt ≤ 4254 by first | with_reducible assumption | omega) (Nat.lt_succ_self _) hw hT hF  (lv_sub hl [2, 3, 4, 5, 6, 1, 0] rfl)
    · refine lv_if_eq (tgt := 17) hx hb dX7_lastOpen_12 (by decide) (fun c => absurd c (by decide)) (fun _ => ?_)
      exact J15  H locs ls w67 (show 0 ≤ a1.toInt from ra1) (show a1.toInt ≤ 11 from ta1) (show 0 ≤ a3.toInt from ra3) (show a3.toInt ≤ 99999 from ta3) (show (-10) ≤ a4.toInt from ra4) (show a4.toInt ≤ 102119 from ta4)  hw hT hF  (lv_sub hl [0, 1, 2, 3, 4] rfl)
abbrev P_X7_lastOpen_2 (ad : Nat → Nat) (cy : Nat → ClassId) (B : Int) (qr : Nat) (s1 : Int) (a1 : Int32) (a3 : Int32) (a4 : Int32) (w0 : va_W) : Int32 → va_W → Prop := fun r u => TW ksC ad cy B qr s1 u ∧ FE ksC ([] : List (Nat × Nat × Nat)) w0 u ∧ ((0 ≤ r.toInt ∧ r.toInt ≤ 102119 ∧ 0 ≤ a4.toInt) ∨ (r = (-1)))
set_option maxHeartbeats 4000000 in
set_option maxRecDepth 100000 in
theorem k_X7_lastOpen_2 (l : Launch) (adK adV : Nat → Nat) (dC : Nat → ClassId) (dI : Nat → Nat → Nat) (cy : Nat → ClassId) (ad : Nat → Nat) (B : Int) (hB0 : 2147483648 ≤ B) (hB1 : B ≤ 1152921504606846976) (qr : Nat) (s1 : Int)  (a1 : Int32) (ra1 : 0 ≤ a1.toInt) (ta1 : a1.toInt ≤ 11) (a3 : Int32) (ra3 : 0 ≤ a3.toInt) (ta3 : a3.toInt ≤ 99999) (a4 : Int32) (ra4 : (-10) ≤ a4.toInt) (ta4 : a4.toInt ≤ 102119) (w0 : va_W) (sz : Nat) (hT : TW ksC ad cy B qr s1 w0)  : Met l yX7_lastOpen (wu yX7_lastOpen cX7_lastOpen 10 (some .int)) ({ frames := 2, cells := 0, slots := 0, locals := 39 }) (va_Pc [.ref (ad 39), .int a1, .int 0, .int a3, .int a4] (wpreS adK adV dC dI cy sz w0)) (va_Qi (P_X7_lastOpen_2 ad cy B qr s1 a1 a3 a4 w0) (fun u : va_W => wpost dC dI cy (va_A w0 sz) u) (va_A w0 sz)) 0 0 (va_A w0 sz) := by
  refine Met.ofW (cc := cX7_lastOpen) (maxL := 10) (ret := (some .int)) (by decide) rfl ?_
  intro p e s m args below meth c s₁ Bk hml hv
  obtain ⟨rfl, ⟨hsz, hP, hK, hD0⟩, hE, hSR⟩ := hv
  have hx := Bk.exec
  have hb := Bk.bytes
  have hr := Bk.returns
  have hlocks := Bk.notSynchronized
  have hC : CallFix p m c cX7_lastOpen 10 s _ (wu yX7_lastOpen cX7_lastOpen 10 (some .int)) RX7 := ⟨hx, hb, hml, findClass_of_methodNamed Bk.named, atoms_spec (ws := (wu yX7_lastOpen cX7_lastOpen 10 (some .int))) Bk.pre⟩
  subst hsz
  have hD := hD0.self (sz := s.heap.size)
  generalize hAe : va_A w0 s.heap.size = A at hD hE ⊢
  have hA : ∀ q : Nat, s.heap.size ≤ q → A q := fun q h => by rw [← hAe]; exact Or.inr h
  have hw : Wd dC dI A s.heap s.heap [] w0 := ⟨hP, hD, va_S.rf⟩
  have hF : FE ksC ([] : List (Nat × Nat × Nat)) w0 w0 := FE.rf
  have hl := lv_entry ([.ref (ad 39), .int a1, .int 0, .int a3, .int a4]) (n := 10) (Nat.le_of_ble_eq_true rfl)
  rw [lg_entry_eq]
  generalize (lg_sl ([.ref (ad 39), .int a1, .int 0, .int a3, .int a4]) ++ List.replicate (10 - (lg_sl ([.ref (ad 39), .int a1, .int 0, .int a3, .int a4])).length) Slot.unset).toArray = ls at hl ⊢
  have hl : lv_has ls 10 [(0, .ref (ad 39)), (1, .int a1), (2, .int 0), (3, .int a3), (4, .int a4)] := hl
  generalize hloc : ([] : List Loc) = locs at hw ⊢
  have J15 : ∀ (H : Heap) (locs : List Loc) (ls : Array Slot) (w1 : va_W), 0 ≤ a1.toInt → a1.toInt ≤ 11 → 0 ≤ a3.toInt → a3.toInt ≤ 99999 → (-10) ≤ a4.toInt → a4.toInt ≤ 102119 → Wd dC dI A s.heap H locs w1 → TW ksC ad cy B qr s1 w1 → FE ksC ([] : List (Nat × Nat × Nat)) w0 w1 → lv_has ls 10 [(0, .ref (ad 39)), (1, .int a1), (2, .int 0), (3, .int a3), (4, .int a4)] → W p l e ({ frames := 2, cells := 0, slots := 0, locals := 39 }) s m (List.toArray [.ref (ad 39), .int a1, .int 0, .int a3, .int a4]) below meth c H locs 0 0 (MQ below (va_Qi (P_X7_lastOpen_2 ad cy B qr s1 a1 a3 a4 w0) (fun u : va_W => wpost dC dI cy A u) A) (List.toArray [.ref (ad 39), .int a1, .int 0, .int a3, .int a4]) s 0 0 A) (F0 m 15 ls []) := by
    intro H locs ls w1 r2 t3 r4 t5 r6 t7 hw hT hF hl
    refine lv_iconst (v := (-1)) hx hb dX7_lastOpen_15 (by decide) ?_
    exact tk_iret hC hr hlocks hK ⟨hT, hF, (Or.inr rfl)⟩ hw dX7_lastOpen_16
  have L35 : ∀ (n35 : Nat) (v35_5 : Int32) (v35_6 : Int32) (H : Heap) (locs : List Loc) (ls : Array Slot) (w8 : va_W), 0 ≤ a1.toInt → a1.toInt ≤ 11 → 0 ≤ a3.toInt → a3.toInt ≤ 99999 → 0 ≤ a4.toInt → a4.toInt ≤ 102119 → (-1) ≤ v35_6.toInt → v35_6.toInt ≤ 4254 → (v35_6.toInt - (-1)).toNat < n35 → Wd dC dI A s.heap H locs w8 → TW ksC ad cy B qr s1 w8 → FE ksC ([] : List (Nat × Nat × Nat)) w0 w8 → lv_has ls 10 [(0, .ref (ad 39)), (1, .int a1), (2, .int 0), (3, .int a3), (4, .int a4), (5, .int v35_5), (6, .int v35_6)] → W p l e ({ frames := 2, cells := 0, slots := 0, locals := 39 }) s m (List.toArray [.ref (ad 39), .int a1, .int 0, .int a3, .int a4]) below meth c H locs 0 0 (MQ below (va_Qi (P_X7_lastOpen_2 ad cy B qr s1 a1 a3 a4 w0) (fun u : va_W => wpost dC dI cy A u) A) (List.toArray [.ref (ad 39), .int a1, .int 0, .int a3, .int a4]) s 0 0 A) (F0 m 35 ls []) := by
    intro n35
    induction n35 with
    | zero => intro v35_5 v35_6 H locs ls w8 r9 t10 r11 t12 r13 t14 r15 t16 hm35 hw hT hF hl; omega
    | succ n35 ih35 =>
      intro v35_5 v35_6 H locs ls w8 r9 t10 r11 t12 r13 t14 r15 t16 hm35 hw hT hF hl
      have J115 : ∀ (v115_7 : Int32) (v115_8 : Int32) (H : Heap) (locs : List Loc) (ls : Array Slot) (w17 : va_W), 0 ≤ a1.toInt → a1.toInt ≤ 11 → 0 ≤ a3.toInt → a3.toInt ≤ 99999 → 0 ≤ a4.toInt → a4.toInt ≤ 102119 → 0 ≤ v35_6.toInt → v35_6.toInt ≤ 4254 → 0 ≤ v115_7.toInt → v115_7.toInt ≤ 16777215 → (-1) ≤ v115_8.toInt → v115_8.toInt ≤ 23 → Wd dC dI A s.heap H locs w17 → TW ksC ad cy B qr s1 w17 → FE ksC ([] : List (Nat × Nat × Nat)) w0 w17 → lv_has ls 10 [(0, .ref (ad 39)), (1, .int a1), (2, .int 0), (3, .int a3), (4, .int a4), (5, .int (-1)), (6, .int v35_6), (7, .int v115_7), (8, .int v115_8)] → W p l e ({ frames := 2, cells := 0, slots := 0, locals := 39 }) s m (List.toArray [.ref (ad 39), .int a1, .int 0, .int a3, .int a4]) below meth c H locs 0 0 (MQ below (va_Qi (P_X7_lastOpen_2 ad cy B qr s1 a1 a3 a4 w0) (fun u : va_W => wpost dC dI cy A u) A) (List.toArray [.ref (ad 39), .int a1, .int 0, .int a3, .int a4]) s 0 0 A) (F0 m 115 ls []) := by
        intro v115_7 v115_8 H locs ls w17 r18 t19 r20 t21 r22 t23 r24 t25 r26 t27 r28 t29 hw hT hF hl
        obtain ⟨x30, ex30⟩ : ∃ y : Int32, y = v35_6 + Int32.ofInt (-1) := ⟨_, rfl⟩
        refine lv_iinc (v := x30) (lv' := [(6, .int x30), (0, .ref (ad 39)), (1, .int a1), (2, .int 0), (3, .int a3), (4, .int a4), (5, .int (-1)), (7, .int v115_7), (8, .int v115_8)]) hx hb dX7_lastOpen_115 hl (k := 6) rfl ex30.symm (by decide) rfl (fun ls hl => ?_)
        have ex30 : x30.toInt = v35_6.toInt + (-1) := by rw [ex30]; exact wk_add (y := (-1)) (show -2147483648 ≤ v35_6.toInt + (-1) by omega) (show v35_6.toInt + (-1) ≤ 2147483647 by omega)
        refine lv_goto (tgt := 35) hx hb dX7_lastOpen_118 (by decide) ?_
        exact ih35 (-1) x30 H locs ls w17 (show 0 ≤ a1.toInt from r18) (show a1.toInt ≤ 11 from t19) (show 0 ≤ a3.toInt from r20) (show a3.toInt ≤ 99999 from t21) (show 0 ≤ a4.toInt from r22) (show a4.toInt ≤ 102119 from t23) (show (-1) ≤ x30.toInt by first | with_reducible assumption | omega) (show x30.toInt ≤ 4254 by first | with_reducible assumption | omega) (show (x30.toInt - (-1)).toNat < n35 by first | exact tn_lt hm35 (by omega) (by omega) | omega) hw hT hF  (lv_sub hl [1, 2, 3, 4, 5, 6, 0] rfl)
      have L66 : ∀ (n66 : Nat) (v66_7 : Int32) (v66_8 : Int32) (H : Heap) (locs : List Loc) (ls : Array Slot) (w31 : va_W), 0 ≤ a1.toInt → a1.toInt ≤ 11 → 0 ≤ a3.toInt → a3.toInt ≤ 99999 → 0 ≤ a4.toInt → a4.toInt ≤ 102119 → 0 ≤ v35_6.toInt → v35_6.toInt ≤ 4254 → 0 ≤ v66_7.toInt → v66_7.toInt ≤ 16777215 → (-1) ≤ v66_8.toInt → v66_8.toInt ≤ 23 → (v66_8.toInt - (-1)).toNat < n66 → Wd dC dI A s.heap H locs w31 → TW ksC ad cy B qr s1 w31 → FE ksC ([] : List (Nat × Nat × Nat)) w0 w31 → lv_has ls 10 [(0, .ref (ad 39)), (1, .int a1), (2, .int 0), (3, .int a3), (4, .int a4), (5, .int (-1)), (6, .int v35_6), (7, .int v66_7), (8, .int v66_8)] → W p l e ({ frames := 2, cells := 0, slots := 0, locals := 39 }) s m (List.toArray [.ref (ad 39), .int a1, .int 0, .int a3, .int a4]) below meth c H locs 0 0 (MQ below (va_Qi (P_X7_lastOpen_2 ad cy B qr s1 a1 a3 a4 w0) (fun u : va_W => wpost dC dI cy A u) A) (List.toArray [.ref (ad 39), .int a1, .int 0, .int a3, .int a4]) s 0 0 A) (F0 m 66 ls []) := by
        intro n66
        induction n66 with
        | zero => intro v66_7 v66_8 H locs ls w31 r32 t33 r34 t35 r36 t37 r38 t39 r40 t41 r42 t43 hm66 hw hT hF hl; omega
        | succ n66 ih66 =>
          intro v66_7 v66_8 H locs ls w31 r32 t33 r34 t35 r36 t37 r38 t39 r40 t41 r42 t43 hm66 hw hT hF hl
          refine lv_iload hx hb dX7_lastOpen_66 (lv_at hl 7 rfl) ?_
          refine lv_if_eq (tgt := 115) hx hb dX7_lastOpen_68 (by decide) (fun c44 => ?_) (fun c44 => ?_)
          · have c44 : v66_7.toInt = (0 : Int) := wk_eq.mp c44
            exact J115 v66_7 v66_8 H locs ls w31 (show 0 ≤ a1.toInt from r32) (show a1.toInt ≤ 11 from t33) (show 0 ≤ a3.toInt from r34) (show a3.toInt ≤ 99999 from t35) (show 0 ≤ a4.toInt from r36) (show a4.toInt ≤ 102119 from t37) (show 0 ≤ v35_6.toInt from r38) (show v35_6.toInt ≤ 4254 from t39) (show 0 ≤ v66_7.toInt from r40) (show v66_7.toInt ≤ 16777215 from t41) (show (-1) ≤ v66_8.toInt from r42) (show v66_8.toInt ≤ 23 from t43)  hw hT hF  (lv_sub hl [0, 1, 2, 3, 4, 5, 6, 7, 8] rfl)
          · have c44 : ¬ v66_7.toInt = (0 : Int) := wk_eqF c44
            refine lv_iload hx hb dX7_lastOpen_71 (lv_at hl 8 rfl) ?_
            refine lv_if_lt (tgt := 115) hx hb dX7_lastOpen_73 (by decide) (fun c45 => ?_) (fun c45 => ?_)
            · have c45 : v66_8.toInt < (0 : Int) := wk_lt.mp c45
              exact J115 v66_7 v66_8 H locs ls w31 (show 0 ≤ a1.toInt from r32) (show a1.toInt ≤ 11 from t33) (show 0 ≤ a3.toInt from r34) (show a3.toInt ≤ 99999 from t35) (show 0 ≤ a4.toInt from r36) (show a4.toInt ≤ 102119 from t37) (show 0 ≤ v35_6.toInt from r38) (show v35_6.toInt ≤ 4254 from t39) (show 0 ≤ v66_7.toInt from r40) (show v66_7.toInt ≤ 16777215 from t41) (show (-1) ≤ v66_8.toInt from r42) (show v66_8.toInt ≤ 23 from t43)  hw hT hF  (lv_sub hl [0, 1, 2, 3, 4, 5, 6, 7, 8] rfl)
            · have c45 : (0 : Int) ≤ v66_8.toInt := wk_ltF c45
              refine lv_iload hx hb dX7_lastOpen_76 (lv_at hl 7 rfl) ?_
              refine lv_iload hx hb dX7_lastOpen_78 (lv_at hl 8 rfl) ?_
              refine lv_ishr hx hb dX7_lastOpen_80 ?_
              refine lv_topi (fun x46 ex46 => ?_)
              have bx46 : 0 ≤ x46.toInt ∧ x46.toInt ≤ v66_7.toInt := by rw [ex46]; exact wk_shr (by omega)
              refine lv_iconst (v := 1) hx hb dX7_lastOpen_81 (by decide) ?_
              refine lv_iand hx hb dX7_lastOpen_82 ?_
              refine lv_topi (fun x47 ex47 => ?_)
              have bx47 : 0 ≤ x47.toInt ∧ x47.toInt ≤ (1 : Int) := by rw [ex47]; exact wk_and (by decide)
              refine lv_if_eq (tgt := 109) hx hb dX7_lastOpen_83 (by decide) (fun c48 => ?_) (fun c48 => ?_)
              · have c48 : x47.toInt = (0 : Int) := wk_eq.mp c48
                obtain ⟨x49, ex49⟩ : ∃ y : Int32, y = v66_8 + Int32.ofInt (-1) := ⟨_, rfl⟩
                refine lv_iinc (v := x49) (lv' := [(8, .int x49), (0, .ref (ad 39)), (1, .int a1), (2, .int 0), (3, .int a3), (4, .int a4), (5, .int (-1)), (6, .int v35_6), (7, .int v66_7)]) hx hb dX7_lastOpen_109 hl (k := 8) rfl ex49.symm (by decide) rfl (fun ls hl => ?_)
                have ex49 : x49.toInt = v66_8.toInt + (-1) := by rw [ex49]; exact wk_add (y := (-1)) (show -2147483648 ≤ v66_8.toInt + (-1) by omega) (show v66_8.toInt + (-1) ≤ 2147483647 by omega)
                refine lv_goto (tgt := 66) hx hb dX7_lastOpen_112 (by decide) ?_
                exact ih66 v66_7 x49 H locs ls w31 (show 0 ≤ a1.toInt from r32) (show a1.toInt ≤ 11 from t33) (show 0 ≤ a3.toInt from r34) (show a3.toInt ≤ 99999 from t35) (show 0 ≤ a4.toInt from r36) (show a4.toInt ≤ 102119 from t37) (show 0 ≤ v35_6.toInt from r38) (show v35_6.toInt ≤ 4254 from t39) (show 0 ≤ v66_7.toInt from r40) (show v66_7.toInt ≤ 16777215 from t41) (show (-1) ≤ x49.toInt by first | with_reducible assumption | omega) (show x49.toInt ≤ 23 by first | with_reducible assumption | omega) (show (x49.toInt - (-1)).toNat < n66 by first | exact tn_lt hm66 (by omega) (by omega) | omega) hw hT hF  (lv_sub hl [1, 2, 3, 4, 5, 6, 7, 8, 0] rfl)
              · have c48 : ¬ x47.toInt = (0 : Int) := wk_eqF c48
                refine lv_iload hx hb dX7_lastOpen_86 (lv_at hl 6 rfl) ?_
                refine lv_bipush (v := 24) hx hb dX7_lastOpen_88 (by decide) ?_
                refine lv_imul hx hb dX7_lastOpen_90 ?_
                refine lv_topi (fun x50 ex50 => ?_)
                have ex50 : x50.toInt = v35_6.toInt * (24 : Int) := by rw [ex50]; exact wk_mul (show (-2147483648) ≤ v35_6.toInt * (24 : Int) by omega) (show v35_6.toInt * (24 : Int) ≤ 2147483647 by omega)
                refine lv_iload hx hb dX7_lastOpen_91 (lv_at hl 8 rfl) ?_
                refine lv_iadd hx hb dX7_lastOpen_93 ?_
                refine lv_topi (fun x51 ex51 => ?_)
                have ex51 : x51.toInt = x50.toInt + v66_8.toInt := by rw [ex51]; exact wk_add (show (-2147483648) ≤ x50.toInt + v66_8.toInt by omega) (show x50.toInt + v66_8.toInt ≤ 2147483647 by omega)
                refine lv_istore (lv' := [(9, .int x51), (0, .ref (ad 39)), (1, .int a1), (2, .int 0), (3, .int a3), (4, .int a4), (5, .int (-1)), (6, .int v35_6), (7, .int v66_7), (8, .int v66_8)]) hx hb dX7_lastOpen_94 hl (by decide) rfl (fun ls hl => ?_)
                refine lv_iload hx hb dX7_lastOpen_96 (lv_at hl 0 rfl) ?_
                refine lv_iload_n hx hb dX7_lastOpen_98 rfl (lv_at hl 4 rfl) ?_
                refine lv_icmp_lt (tgt := 107) hx hb dX7_lastOpen_99 (by decide) (fun c52 => ?_) (fun c52 => ?_)
                · have c52 : x51.toInt < a3.toInt := wk_lt.mp c52
                  refine lv_iconst (v := (-1)) hx hb dX7_lastOpen_107 (by decide) ?_
                  exact tk_iret hC hr hlocks hK ⟨hT, hF, (Or.inr rfl)⟩ hw dX7_lastOpen_108
                · have c52 : a3.toInt ≤ x51.toInt := wk_ltF c52
                  refine lv_iload hx hb dX7_lastOpen_102 (lv_at hl 0 rfl) ?_
                  refine lv_goto (tgt := 108) hx hb dX7_lastOpen_104 (by decide) ?_
                  exact tk_iret hC hr hlocks hK ⟨hT, hF, (Or.inl ⟨(show 0 ≤ x51.toInt by first | with_reducible assumption | omega), (show x51.toInt ≤ 102119 by first | with_reducible assumption | omega), (show 0 ≤ a4.toInt from r36)⟩)⟩ hw dX7_lastOpen_108
      refine lv_iload hx hb dX7_lastOpen_35 (lv_at hl 6 rfl) ?_
      refine lv_iload_n hx hb dX7_lastOpen_37 rfl (lv_at hl 3 rfl) ?_
      refine lv_bipush (v := 24) hx hb dX7_lastOpen_38 (by decide) ?_
      refine lv_idiv hx hb dX7_lastOpen_40 (by decide) ?_
      refine lv_topi (fun x53 ex53 => ?_)
      have ex53 : x53.toInt = a3.toInt / (24 : Int) := by rw [ex53]; exact wk_div (show 0 ≤ a3.toInt from r11) (show 0 < (24 : Int) by decide)
      refine lv_icmp_lt (tgt := 121) hx hb dX7_lastOpen_41 (by decide) (fun c54 => ?_) (fun c54 => ?_)
      · have c54 : v35_6.toInt < x53.toInt := wk_lt.mp c54
        refine lv_iconst (v := (-1)) hx hb dX7_lastOpen_121 (by decide) ?_
        exact tk_iret hC hr hlocks hK ⟨hT, hF, (Or.inr rfl)⟩ hw dX7_lastOpen_122
      · have c54 : x53.toInt ≤ v35_6.toInt := wk_ltF c54
        refine lv_aload_n hx hb dX7_lastOpen_44 rfl (lv_at hl 0 rfl) ?_
        refine lv_iload_n hx hb dX7_lastOpen_45 rfl (lv_at hl 1 rfl) ?_
        refine lv_iload_n hx hb dX7_lastOpen_46 rfl (lv_at hl 2 rfl) ?_
        refine lv_iload hx hb dX7_lastOpen_47 (lv_at hl 6 rfl) ?_
        refine lv_i2l hx hb dX7_lastOpen_49 rfl ?_
        refine lv_topl (fun x55 ex55 => ?_)
        have ex55 : x55.toInt = v35_6.toInt := by rw [ex55]; exact wk_i2l _
        have bx55 := wk_i32 v35_6
        refine lv_iconst (v := 1) hx hb dX7_lastOpen_50 (by decide) ?_
        refine tk_Vi hC hK hw hT hA hE hSR kC_at39 (by decide) rfl (k_X7_openHours_11 l adK adV dC dI cy ad B hB0 (Int.le_trans hB1 (by decide)) qr s1   a1 (show 0 ≤ a1.toInt from r9) (show a1.toInt ≤ 11 from t10) x55 (show 0 ≤ x55.toInt by first | with_reducible assumption | omega) (show x55.toInt ≤ 4254 by first | with_reducible assumption | omega) w8 H.size hT ) (cwV 4 hC.2.2.2.2 uV_RX7_148 rfl rfl rfl (by decide +kernel) ⟨Nat.le_of_ble_eq_true rfl, Nat.le_of_ble_eq_true rfl⟩) rfl hl.1 rfl (Nat.le_of_ble_eq_true rfl) dX7_lastOpen_51 (fun r56 w58 H locs hp57 hw => ?_)
        obtain ⟨hT, k59, hg62⟩ := hp57
        have hF := hF.tr k59 (by decide)
        obtain ⟨g60, g61⟩ := hg62
        refine lv_iload hx hb dX7_lastOpen_54 (lv_at hl 5 rfl) ?_
        refine lv_iand hx hb dX7_lastOpen_56 ?_
        refine lv_topi (fun x63 ex63 => ?_)
        have bx63 : 0 ≤ x63.toInt ∧ x63.toInt ≤ r56.toInt := by rw [ex63]; exact wk_andC (by omega)
        refine lv_istore (lv' := [(7, .int x63), (0, .ref (ad 39)), (1, .int a1), (2, .int 0), (3, .int a3), (4, .int a4), (5, .int v35_5), (6, .int v35_6)]) hx hb dX7_lastOpen_57 hl (by decide) rfl (fun ls hl => ?_)
        refine lv_iconst (v := (-1)) hx hb dX7_lastOpen_59 (by decide) ?_
        refine lv_istore (lv' := [(5, .int (-1)), (7, .int x63), (0, .ref (ad 39)), (1, .int a1), (2, .int 0), (3, .int a3), (4, .int a4), (6, .int v35_6)]) hx hb dX7_lastOpen_60 hl (by decide) rfl (fun ls hl => ?_)
        refine lv_bipush (v := 23) hx hb dX7_lastOpen_62 (by decide) ?_
        refine lv_istore (lv' := [(8, .int 23), (5, .int (-1)), (7, .int x63), (0, .ref (ad 39)), (1, .int a1), (2, .int 0), (3, .int a3), (4, .int a4), (6, .int v35_6)]) hx hb dX7_lastOpen_64 hl (by decide) rfl (fun ls hl => ?_)
        exact L66 (((23 : Int) - (-1)).toNat + 1) x63 23 H locs ls w58 (show 0 ≤ a1.toInt from r9) (show a1.toInt ≤ 11 from t10) (show 0 ≤ a3.toInt from r11) (show a3.toInt ≤ 99999 from t12) (show 0 ≤ a4.toInt from r13) (show a4.toInt ≤ 102119 from t14) (show 0 ≤ v35_6.toInt by first | with_reducible assumption | omega) (show v35_6.toInt ≤ 4254 from t16) (show 0 ≤ x63.toInt by first | with_reducible assumption | omega) (show x63.toInt ≤ 16777215 by first | with_reducible assumption | omega) (by decide) (by decide) (Nat.lt_succ_self _) hw hT hF  (lv_sub hl [3, 4, 5, 6, 7, 1, 8, 2, 0] rfl)
  refine lv_iload hx hb dX7_lastOpen_0 (lv_at hl 4 rfl) ?_
  refine lv_iload_n hx hb dX7_lastOpen_2 rfl (lv_at hl 3 rfl) ?_
  refine lv_icmp_lt (tgt := 15) hx hb dX7_lastOpen_3 (by decide) (fun c64 => ?_) (fun c64 => ?_)
  · have c64 : a4.toInt < a3.toInt := wk_lt.mp c64
    exact J15  s.heap locs ls w0 (show 0 ≤ a1.toInt from ra1) (show a1.toInt ≤ 11 from ta1) (show 0 ≤ a3.toInt from ra3) (show a3.toInt ≤ 99999 from ta3) (show (-10) ≤ a4.toInt from ra4) (show a4.toInt ≤ 102119 from ta4)  hw hT hF  (lv_sub hl [0, 1, 2, 3, 4] rfl)
  · have c64 : a3.toInt ≤ a4.toInt := wk_ltF c64
    refine lv_aload_n hx hb dX7_lastOpen_6 rfl (lv_at hl 0 rfl) ?_
    refine lv_iload_n hx hb dX7_lastOpen_7 rfl (lv_at hl 1 rfl) ?_
    refine lv_iload_n hx hb dX7_lastOpen_8 rfl (lv_at hl 2 rfl) ?_
    refine tk_Vi hC hK hw hT hA hE hSR kC_at39 (by decide) rfl (k_X7_isNeverOpen_1 l adK adV dC dI cy ad B hB0 (Int.le_trans hB1 (by decide)) qr s1   a1 (show 0 ≤ a1.toInt from ra1) (show a1.toInt ≤ 11 from ta1) w0 s.heap.size hT ) (cwV 2 hC.2.2.2.2 uV_RX7_152 rfl rfl rfl (by decide +kernel) ⟨Nat.le_of_ble_eq_true rfl, Nat.le_of_ble_eq_true rfl⟩) rfl hl.1 rfl (Nat.le_of_ble_eq_true rfl) dX7_lastOpen_9 (fun r65 w67 H locs hp66 hw => ?_)
    obtain ⟨hT, k68, hg69⟩ := hp66
    have hF := hF.tr k68 (by decide)
    rcases hg69 with rfl | rfl
    · refine lv_if_eq (tgt := 17) hx hb dX7_lastOpen_12 (by decide) (fun _ => ?_) (fun c => absurd (by decide) c)
      refine lv_iconst (v := 2) hx hb dX7_lastOpen_17 (by decide) ?_
      refine lv_iload hx hb dX7_lastOpen_18 (lv_at hl 4 rfl) ?_
      refine lv_bipush (v := 24) hx hb dX7_lastOpen_20 (by decide) ?_
      refine lv_irem hx hb dX7_lastOpen_22 (by decide) ?_
      refine lv_topi (fun x70 ex70 => ?_)
      have ex70 : x70.toInt = a4.toInt % (24 : Int) := by rw [ex70]; exact wk_rem (show 0 ≤ a4.toInt by first | with_reducible assumption | omega) (show 0 < (24 : Int) by decide)
      refine lv_ishl hx hb dX7_lastOpen_23 ?_
      refine lv_topi (fun x71 ex71 => ?_)
      refine lv_iconst (v := 1) hx hb dX7_lastOpen_24 (by decide) ?_
      refine lv_isub hx hb dX7_lastOpen_25 ?_
      have nx72 := wk_i32 x71
      refine lv_topi (fun x73 ex73 => ?_)
      refine lv_istore (lv' := [(5, .int x73), (0, .ref (ad 39)), (1, .int a1), (2, .int 0), (3, .int a3), (4, .int a4)]) hx hb dX7_lastOpen_26 hl (by decide) rfl (fun ls hl => ?_)
      refine lv_iload hx hb dX7_lastOpen_28 (lv_at hl 5 rfl) ?_
      refine lv_bipush (v := 24) hx hb dX7_lastOpen_30 (by decide) ?_
      refine lv_idiv hx hb dX7_lastOpen_32 (by decide) ?_
      refine lv_topi (fun x74 ex74 => ?_)
      have ex74 : x74.toInt = a4.toInt / (24 : Int) := by rw [ex74]; exact wk_div (show 0 ≤ a4.toInt by first | with_reducible assumption | omega) (show 0 < (24 : Int) by decide)
      refine lv_istore (lv' := [(6, .int x74), (5, .int x73), (0, .ref (ad 39)), (1, .int a1), (2, .int 0), (3, .int a3), (4, .int a4)]) hx hb dX7_lastOpen_33 hl (by decide) rfl (fun ls hl => ?_)
      exact L35 ((x74.toInt - (-1)).toNat + 1) x73 x74 H locs ls w67 (show 0 ≤ a1.toInt from ra1) (show a1.toInt ≤ 11 from ta1) (show 0 ≤ a3.toInt from ra3) (show a3.toInt ≤ 99999 from ta3) (show 0 ≤ a4.toInt by first | with_reducible assumption | omega) (show a4.toInt ≤ 102119 from ta4) (show (-1) ≤ x74.toInt by first | with_reducible assumption | omega) (show x74.toInt ≤ 4254 by first | with_reducible assumption | omega) (Nat.lt_succ_self _) hw hT hF  (lv_sub hl [2, 3, 4, 5, 6, 1, 0] rfl)
    · refine lv_if_eq (tgt := 17) hx hb dX7_lastOpen_12 (by decide) (fun c => absurd c (by decide)) (fun _ => ?_)
      exact J15  H locs ls w67 (show 0 ≤ a1.toInt from ra1) (show a1.toInt ≤ 11 from ta1) (show 0 ≤ a3.toInt from ra3) (show a3.toInt ≤ 99999 from ta3) (show (-10) ≤ a4.toInt from ra4) (show a4.toInt ≤ 102119 from ta4)  hw hT hF  (lv_sub hl [0, 1, 2, 3, 4] rfl)
abbrev P_X4_leaveBy_1 (ad : Nat → Nat) (cy : Nat → ClassId) (B : Int) (qr : Nat) (s1 : Int) (a1 : Int32) (a2 : Int32) (a3 : Int32) (w0 : va_W) : va_W → Prop := fun u => TW ksC ad cy B qr s1 u ∧ FE ksC [(48, 0, 10)] w0 u ∧ ((gi u 40 (2 * a1.toInt + 0).toNat = a2) ∨ (gi u 40 (2 * a1.toInt + 1).toNat = a2) ∨ (True))
set_option maxHeartbeats 4000000 in
set_option maxRecDepth 100000 in
theorem k_X4_leaveBy_1 (l : Launch) (adK adV : Nat → Nat) (dC : Nat → ClassId) (dI : Nat → Nat → Nat) (cy : Nat → ClassId) (ad : Nat → Nat) (B : Int) (hB0 : 2147483648 ≤ B) (hB1 : B ≤ 1152921504606846976) (qr : Nat) (s1 : Int)  (a1 : Int32) (ra1 : 0 ≤ a1.toInt) (ta1 : a1.toInt ≤ 11) (a2 : Int32) (ra2 : 0 ≤ a2.toInt) (ta2 : a2.toInt ≤ 9) (a3 : Int32) (ra3 : 0 ≤ a3.toInt) (ta3 : a3.toInt ≤ 99999) (w0 : va_W) (sz : Nat) (hT : TW ksC ad cy B qr s1 w0)  : Met l yX4_leaveBy (wu yX4_leaveBy cX4_leaveBy 7 none) ({ frames := 3, cells := 0, slots := 0, locals := 68 }) (va_Pc [.ref (ad 155), .int a1, .int a2, .int a3] (wpreS adK adV dC dI cy sz w0)) (va_Qv (P_X4_leaveBy_1 ad cy B qr s1 a1 a2 a3 w0) (fun u : va_W => wpost dC dI cy (va_A w0 sz) u) (va_A w0 sz)) 0 0 (va_A w0 sz) := by
  refine Met.ofW (cc := cX4_leaveBy) (maxL := 7) (ret := none) (by decide) rfl ?_
  intro p e s m args below meth c s₁ Bk hml hv
  obtain ⟨rfl, ⟨hsz, hP, hK, hD0⟩, hE, hSR⟩ := hv
  have hx := Bk.exec
  have hb := Bk.bytes
  have hr := Bk.returns
  have hlocks := Bk.notSynchronized
  have hC : CallFix p m c cX4_leaveBy 7 s _ (wu yX4_leaveBy cX4_leaveBy 7 none) RX4 := ⟨hx, hb, hml, findClass_of_methodNamed Bk.named, atoms_spec (ws := (wu yX4_leaveBy cX4_leaveBy 7 none)) Bk.pre⟩
  subst hsz
  have hD := hD0.self (sz := s.heap.size)
  generalize hAe : va_A w0 s.heap.size = A at hD hE ⊢
  have hA : ∀ q : Nat, s.heap.size ≤ q → A q := fun q h => by rw [← hAe]; exact Or.inr h
  have hw : Wd dC dI A s.heap s.heap [] w0 := ⟨hP, hD, va_S.rf⟩
  have hF : FE ksC [(48, 0, 10)] w0 w0 := FE.rf
  have hl := lv_entry ([.ref (ad 155), .int a1, .int a2, .int a3]) (n := 7) (Nat.le_of_ble_eq_true rfl)
  rw [lg_entry_eq]
  generalize (lg_sl ([.ref (ad 155), .int a1, .int a2, .int a3]) ++ List.replicate (7 - (lg_sl ([.ref (ad 155), .int a1, .int a2, .int a3])).length) Slot.unset).toArray = ls at hl ⊢
  have hl : lv_has ls 7 [(0, .ref (ad 155)), (1, .int a1), (2, .int a2), (3, .int a3)] := hl
  generalize hloc : ([] : List Loc) = locs at hw ⊢
  have hinX4 : ∀ w ∈ u_ws RX4 TX4 4, w ∈ (wu yX4_leaveBy cX4_leaveBy 7 none) := fun _ h => List.mem_cons_of_mem _ (up_80 h)
  have hinX7 : ∀ w ∈ u_ws RX7 TX7 12, w ∈ (wu yX4_leaveBy cX4_leaveBy 7 none) := fun _ h => List.mem_cons_of_mem _ (up_73 h)
  refine lv_aload_n hx hb dX4_leaveBy_0 rfl (lv_at hl 0 rfl) ?_
  refine tk_getA hC hK hw hT hinX4 kC_at155 (by decide) rfl 1 (by decide) (List.mem_cons_of_mem _ uw_5_23) rfl rfl dX4_leaveBy_1 ?_
  refine lv_iload_n hx hb dX4_leaveBy_4 rfl (lv_at hl 1 rfl) ?_
  refine lv_iload_n hx hb dX4_leaveBy_5 rfl (lv_at hl 2 rfl) ?_
  refine tk_Vi hC hK hw hT hA hE hSR kC_at39 (by decide) rfl (k_X7_sideOf_2 l adK adV dC dI cy ad B hB0 (Int.le_trans hB1 (by decide)) qr s1   a1 (show 0 ≤ a1.toInt from ra1) (show a1.toInt ≤ 11 from ta1) a2 (show 0 ≤ a2.toInt from ra2) (show a2.toInt ≤ 9 from ta2) w0 s.heap.size hT ) (cwV 2 hC.2.2.2.2 uV_RX4_47 rfl rfl rfl (by decide +kernel) ⟨Nat.le_of_ble_eq_true rfl, Nat.le_of_ble_eq_true rfl⟩) rfl hl.1 rfl (Nat.le_of_ble_eq_true rfl) dX4_leaveBy_6 (fun r1 w3 H locs hp2 hw => ?_)
  obtain ⟨hT, k4, hg7⟩ := hp2
  have hF := hF.tr k4 (by decide)
  rcases hg7 with rfl | ⟨rfl, c5⟩ | ⟨rfl, c6⟩
  · refine lv_istore (lv' := [(4, .int (-1)), (0, .ref (ad 155)), (1, .int a1), (2, .int a2), (3, .int a3)]) hx hb dX4_leaveBy_9 hl (by decide) rfl (fun ls hl => ?_)
    refine lv_iload hx hb dX4_leaveBy_11 (lv_at hl 0 rfl) ?_
    refine lv_iconst (v := (-1)) hx hb dX4_leaveBy_13 (by decide) ?_
    refine lv_icmp_ne (tgt := 18) hx hb dX4_leaveBy_14 (by decide) (fun c => absurd (by decide) c) (fun _ => ?_)
    exact tk_vret hC hr hlocks hK ⟨hT, hF, (Or.inr (Or.inr trivial))⟩ hw dX4_leaveBy_17
  · refine lv_istore (lv' := [(4, .int 0), (0, .ref (ad 155)), (1, .int a1), (2, .int a2), (3, .int a3)]) hx hb dX4_leaveBy_9 hl (by decide) rfl (fun ls hl => ?_)
    refine lv_iload hx hb dX4_leaveBy_11 (lv_at hl 0 rfl) ?_
    refine lv_iconst (v := (-1)) hx hb dX4_leaveBy_13 (by decide) ?_
    refine lv_icmp_ne (tgt := 18) hx hb dX4_leaveBy_14 (by decide) (fun _ => ?_) (fun c => absurd c (by decide))
    refine lv_aload_n hx hb dX4_leaveBy_18 rfl (lv_at hl 1 rfl) ?_
    refine tk_getA hC hK hw hT hinX4 kC_at155 (by decide) rfl 1 (by decide) (List.mem_cons_of_mem _ uw_5_23) rfl rfl dX4_leaveBy_19 ?_
    refine lv_iload_n hx hb dX4_leaveBy_22 rfl (lv_at hl 2 rfl) ?_
    refine lv_iload hx hb dX4_leaveBy_23 (lv_at hl 0 rfl) ?_
    refine tk_Vi hC hK hw hT hA hE hSR kC_at39 (by decide) rfl (k_X7_cornerAcross_2 l adK adV dC dI cy ad B hB0 (Int.le_trans hB1 (by decide)) qr s1   a1 (show 0 ≤ a1.toInt from ra1) (show a1.toInt ≤ 11 from ta1) w3 H.size hT ) (cwV 2 hC.2.2.2.2 uV_RX4_51 rfl rfl rfl (by decide +kernel) ⟨Nat.le_of_ble_eq_true rfl, Nat.le_of_ble_eq_true rfl⟩) rfl hl.1 rfl (Nat.le_of_ble_eq_true rfl) dX4_leaveBy_25 (fun r8 w10 H locs hp9 hw => ?_)
    obtain ⟨hT, k11, hg14⟩ := hp9
    have hF := hF.tr k11 (by decide)
    have c15 := k11.gi kC_at40 rfl c5
    obtain ⟨g12, g13⟩ := hg14
    refine lv_istore (lv' := [(5, .int r8), (4, .int 0), (0, .ref (ad 155)), (1, .int a1), (2, .int a2), (3, .int a3)]) hx hb dX4_leaveBy_28 hl (by decide) rfl (fun ls hl => ?_)
    refine lv_aload_n hx hb dX4_leaveBy_30 rfl (lv_at hl 2 rfl) ?_
    refine tk_getA hC hK hw hT hinX4 kC_at155 (by decide) rfl 2 (by decide) (List.mem_cons_of_mem _ uw_5_19) rfl rfl dX4_leaveBy_31 ?_
    refine lv_iload_n hx hb dX4_leaveBy_34 rfl (lv_at hl 4 rfl) ?_
    refine tk_iald hC hK hw hT kC_at156 rfl rfl (show 0 ≤ a2.toInt from ra2) (show a2.toInt < 10 from Int.lt_of_le_of_lt ta2 (by decide)) dX4_leaveBy_35 (fun x16 c17 rx16 tx16 => ?_)
    refine lv_aload_n hx hb dX4_leaveBy_36 rfl (lv_at hl 2 rfl) ?_
    refine tk_getA hC hK hw hT hinX4 kC_at155 (by decide) rfl 1 (by decide) (List.mem_cons_of_mem _ uw_5_23) rfl rfl dX4_leaveBy_37 ?_
    refine tk_getO hC hK hw hT hinX7 kC_at39 (by decide) rfl 1 (by decide) (List.mem_cons_of_mem _ uw_50_7) rfl rfl dX4_leaveBy_40 ?_
    refine lv_iload_n hx hb dX4_leaveBy_43 rfl (lv_at hl 3 rfl) ?_
    refine tk_iald hC hK hw hT kC_at41 rfl rfl (show 0 ≤ a1.toInt from ra1) (show a1.toInt < 13 from Int.lt_of_le_of_lt ta1 (by decide)) dX4_leaveBy_44 (fun x18 c19 rx18 tx18 => ?_)
    refine lv_isub hx hb dX4_leaveBy_45 ?_
    refine lv_topi (fun x20 ex20 => ?_)
    have ex20 : x20.toInt = x16.toInt - x18.toInt := by rw [ex20]; exact wk_sub (show (-2147483648) ≤ x16.toInt - x18.toInt by omega) (show x16.toInt - x18.toInt ≤ 2147483647 by omega)
    refine lv_istore (lv' := [(6, .int x20), (5, .int r8), (4, .int 0), (0, .ref (ad 155)), (1, .int a1), (2, .int a2), (3, .int a3)]) hx hb dX4_leaveBy_46 hl (by decide) rfl (fun ls hl => ?_)
    refine lv_aload_n hx hb dX4_leaveBy_48 rfl (lv_at hl 3 rfl) ?_
    refine tk_getA hC hK hw hT hinX4 kC_at155 (by decide) rfl 2 (by decide) (List.mem_cons_of_mem _ uw_5_19) rfl rfl dX4_leaveBy_49 ?_
    refine lv_iload hx hb dX4_leaveBy_52 (lv_at hl 1 rfl) ?_
    refine lv_aload_n hx hb dX4_leaveBy_54 rfl (lv_at hl 3 rfl) ?_
    refine tk_getA hC hK hw hT hinX4 kC_at155 (by decide) rfl 2 (by decide) (List.mem_cons_of_mem _ uw_5_19) rfl rfl dX4_leaveBy_55 ?_
    refine lv_iload hx hb dX4_leaveBy_58 (lv_at hl 1 rfl) ?_
    refine tk_iald hC hK hw hT kC_at156 rfl rfl (show 0 ≤ r8.toInt by first | with_reducible assumption | omega) (show r8.toInt < 10 by first | with_reducible assumption | omega) dX4_leaveBy_60 (fun x21 c22 rx21 tx21 => ?_)
    refine lv_aload_n hx hb dX4_leaveBy_61 rfl (lv_at hl 3 rfl) ?_
    refine tk_getA hC hK hw hT hinX4 kC_at155 (by decide) rfl 1 (by decide) (List.mem_cons_of_mem _ uw_5_23) rfl rfl dX4_leaveBy_62 ?_
    refine lv_iload_n hx hb dX4_leaveBy_65 rfl (lv_at hl 4 rfl) ?_
    refine lv_iconst (v := 1) hx hb dX4_leaveBy_66 (by decide) ?_
    refine lv_iload hx hb dX4_leaveBy_67 (lv_at hl 2 rfl) ?_
    refine lv_isub hx hb dX4_leaveBy_69 ?_
    refine wk_top 1 (by decide) ?_
    refine lv_iload_n hx hb dX4_leaveBy_70 rfl (lv_at hl 6 rfl) ?_
    refine lv_iload hx hb dX4_leaveBy_71 (lv_at hl 0 rfl) ?_
    refine tk_Vi hC hK hw hT hA hE hSR kC_at39 (by decide) rfl (k_X7_lastOpen_1 l adK adV dC dI cy ad B hB0 (Int.le_trans hB1 (by decide)) qr s1   a1 (show 0 ≤ a1.toInt from ra1) (show a1.toInt ≤ 11 from ta1) a3 (show 0 ≤ a3.toInt from ra3) (show a3.toInt ≤ 99999 from ta3) x20 (show (-10) ≤ x20.toInt by first | with_reducible assumption | omega) (show x20.toInt ≤ 102119 by first | with_reducible assumption | omega) w10 H.size hT ) (cwV 4 hC.2.2.2.2 uV_RX4_79 rfl rfl rfl (by decide +kernel) ⟨Nat.le_of_ble_eq_true rfl, Nat.le_of_ble_eq_true rfl⟩) rfl hl.1 rfl (Nat.le_of_ble_eq_true rfl) dX4_leaveBy_73 (fun r23 w25 H locs hp24 hw => ?_)
    obtain ⟨hT, k26, hg30⟩ := hp24
    have hF := hF.tr k26 (by decide)
    have c31 := k26.gi kC_at40 rfl c15
    rcases hg30 with ⟨g27, g28, g29⟩ | rfl
    · refine va_mmax hx hb (hC.2.2.1.trans hl.1.symm) hC.2.2.2.1 (hC.2.2.2.2 _ (List.mem_cons_of_mem _ uw_52_8)) (hC.2.2.2.2 _ (List.mem_cons_of_mem _ uw_14_15)) (hC.2.2.2.2 _ (List.mem_cons_of_mem _ uw_14_16)) (hC.2.2.2.2 _ (List.mem_cons_of_mem _ uw_14_17)) (Nat.le_of_ble_eq_true rfl) (Nat.le_of_ble_eq_true rfl) (Nat.zero_le _) (Nat.zero_le _) dX4_leaveBy_76 ?_
      refine lv_topi (fun x32 ex32 => ?_)
      have bx32 : (x32.toInt = x21.toInt ∧ r23.toInt ≤ x21.toInt) ∨ (x32.toInt = r23.toInt ∧ x21.toInt < r23.toInt) := by rw [ex32]; exact wk_max
      refine tk_iast hC hK hw hT kC_at156 (by decide) rfl rfl (show 0 ≤ r8.toInt by first | with_reducible assumption | omega) (show r8.toInt < 10 by first | with_reducible assumption | omega) (show (-1) ≤ x32.toInt by first | with_reducible assumption | omega) (show x32.toInt ≤ 102119 by first | with_reducible assumption | omega) dX4_leaveBy_79 (fun H locs w33 hw hT k35 c34 => ?_)
      have hF := hF.put kC_at156 (inE_of (a := 0) (b := 10) (by decide) (show 0 ≤ r8.toInt.toNat by omega) (show r8.toInt.toNat ≤ 10 by omega)) k35
      have c36 := k35.gi (Or.inl (tk_ne kC_at40 kC_at156 (by decide))) c31
      exact tk_vret hC hr hlocks hK ⟨hT, hF, (Or.inl c36)⟩ hw dX4_leaveBy_80
    · refine va_mmax hx hb (hC.2.2.1.trans hl.1.symm) hC.2.2.2.1 (hC.2.2.2.2 _ (List.mem_cons_of_mem _ uw_52_8)) (hC.2.2.2.2 _ (List.mem_cons_of_mem _ uw_14_15)) (hC.2.2.2.2 _ (List.mem_cons_of_mem _ uw_14_16)) (hC.2.2.2.2 _ (List.mem_cons_of_mem _ uw_14_17)) (Nat.le_of_ble_eq_true rfl) (Nat.le_of_ble_eq_true rfl) (Nat.zero_le _) (Nat.zero_le _) dX4_leaveBy_76 ?_
      refine lv_topi (fun x37 ex37 => ?_)
      have bx37 : (x37.toInt = x21.toInt ∧ (-1 : Int) ≤ x21.toInt) ∨ (x37.toInt = (-1 : Int) ∧ x21.toInt < (-1 : Int)) := by rw [ex37]; exact wk_max
      refine tk_iast hC hK hw hT kC_at156 (by decide) rfl rfl (show 0 ≤ r8.toInt by first | with_reducible assumption | omega) (show r8.toInt < 10 by first | with_reducible assumption | omega) (show (-1) ≤ x37.toInt by first | with_reducible assumption | omega) (show x37.toInt ≤ 102119 by first | with_reducible assumption | omega) dX4_leaveBy_79 (fun H locs w38 hw hT k40 c39 => ?_)
      have hF := hF.put kC_at156 (inE_of (a := 0) (b := 10) (by decide) (show 0 ≤ r8.toInt.toNat by omega) (show r8.toInt.toNat ≤ 10 by omega)) k40
      have c41 := k40.gi (Or.inl (tk_ne kC_at40 kC_at156 (by decide))) c31
      exact tk_vret hC hr hlocks hK ⟨hT, hF, (Or.inl c41)⟩ hw dX4_leaveBy_80
  · refine lv_istore (lv' := [(4, .int 1), (0, .ref (ad 155)), (1, .int a1), (2, .int a2), (3, .int a3)]) hx hb dX4_leaveBy_9 hl (by decide) rfl (fun ls hl => ?_)
    refine lv_iload hx hb dX4_leaveBy_11 (lv_at hl 0 rfl) ?_
    refine lv_iconst (v := (-1)) hx hb dX4_leaveBy_13 (by decide) ?_
    refine lv_icmp_ne (tgt := 18) hx hb dX4_leaveBy_14 (by decide) (fun _ => ?_) (fun c => absurd c (by decide))
    refine lv_aload_n hx hb dX4_leaveBy_18 rfl (lv_at hl 1 rfl) ?_
    refine tk_getA hC hK hw hT hinX4 kC_at155 (by decide) rfl 1 (by decide) (List.mem_cons_of_mem _ uw_5_23) rfl rfl dX4_leaveBy_19 ?_
    refine lv_iload_n hx hb dX4_leaveBy_22 rfl (lv_at hl 2 rfl) ?_
    refine lv_iload hx hb dX4_leaveBy_23 (lv_at hl 0 rfl) ?_
    refine tk_Vi hC hK hw hT hA hE hSR kC_at39 (by decide) rfl (k_X7_cornerAcross_3 l adK adV dC dI cy ad B hB0 (Int.le_trans hB1 (by decide)) qr s1   a1 (show 0 ≤ a1.toInt from ra1) (show a1.toInt ≤ 11 from ta1) w3 H.size hT ) (cwV 2 hC.2.2.2.2 uV_RX4_51 rfl rfl rfl (by decide +kernel) ⟨Nat.le_of_ble_eq_true rfl, Nat.le_of_ble_eq_true rfl⟩) rfl hl.1 rfl (Nat.le_of_ble_eq_true rfl) dX4_leaveBy_25 (fun r42 w44 H locs hp43 hw => ?_)
    obtain ⟨hT, k45, hg48⟩ := hp43
    have hF := hF.tr k45 (by decide)
    have c49 := k45.gi kC_at40 rfl c6
    obtain ⟨g46, g47⟩ := hg48
    refine lv_istore (lv' := [(5, .int r42), (4, .int 1), (0, .ref (ad 155)), (1, .int a1), (2, .int a2), (3, .int a3)]) hx hb dX4_leaveBy_28 hl (by decide) rfl (fun ls hl => ?_)
    refine lv_aload_n hx hb dX4_leaveBy_30 rfl (lv_at hl 2 rfl) ?_
    refine tk_getA hC hK hw hT hinX4 kC_at155 (by decide) rfl 2 (by decide) (List.mem_cons_of_mem _ uw_5_19) rfl rfl dX4_leaveBy_31 ?_
    refine lv_iload_n hx hb dX4_leaveBy_34 rfl (lv_at hl 4 rfl) ?_
    refine tk_iald hC hK hw hT kC_at156 rfl rfl (show 0 ≤ a2.toInt from ra2) (show a2.toInt < 10 from Int.lt_of_le_of_lt ta2 (by decide)) dX4_leaveBy_35 (fun x50 c51 rx50 tx50 => ?_)
    refine lv_aload_n hx hb dX4_leaveBy_36 rfl (lv_at hl 2 rfl) ?_
    refine tk_getA hC hK hw hT hinX4 kC_at155 (by decide) rfl 1 (by decide) (List.mem_cons_of_mem _ uw_5_23) rfl rfl dX4_leaveBy_37 ?_
    refine tk_getO hC hK hw hT hinX7 kC_at39 (by decide) rfl 1 (by decide) (List.mem_cons_of_mem _ uw_50_7) rfl rfl dX4_leaveBy_40 ?_
    refine lv_iload_n hx hb dX4_leaveBy_43 rfl (lv_at hl 3 rfl) ?_
    refine tk_iald hC hK hw hT kC_at41 rfl rfl (show 0 ≤ a1.toInt from ra1) (show a1.toInt < 13 from Int.lt_of_le_of_lt ta1 (by decide)) dX4_leaveBy_44 (fun x52 c53 rx52 tx52 => ?_)
    refine lv_isub hx hb dX4_leaveBy_45 ?_
    refine lv_topi (fun x54 ex54 => ?_)
    have ex54 : x54.toInt = x50.toInt - x52.toInt := by rw [ex54]; exact wk_sub (show (-2147483648) ≤ x50.toInt - x52.toInt by omega) (show x50.toInt - x52.toInt ≤ 2147483647 by omega)
    refine lv_istore (lv' := [(6, .int x54), (5, .int r42), (4, .int 1), (0, .ref (ad 155)), (1, .int a1), (2, .int a2), (3, .int a3)]) hx hb dX4_leaveBy_46 hl (by decide) rfl (fun ls hl => ?_)
    refine lv_aload_n hx hb dX4_leaveBy_48 rfl (lv_at hl 3 rfl) ?_
    refine tk_getA hC hK hw hT hinX4 kC_at155 (by decide) rfl 2 (by decide) (List.mem_cons_of_mem _ uw_5_19) rfl rfl dX4_leaveBy_49 ?_
    refine lv_iload hx hb dX4_leaveBy_52 (lv_at hl 1 rfl) ?_
    refine lv_aload_n hx hb dX4_leaveBy_54 rfl (lv_at hl 3 rfl) ?_
    refine tk_getA hC hK hw hT hinX4 kC_at155 (by decide) rfl 2 (by decide) (List.mem_cons_of_mem _ uw_5_19) rfl rfl dX4_leaveBy_55 ?_
    refine lv_iload hx hb dX4_leaveBy_58 (lv_at hl 1 rfl) ?_
    refine tk_iald hC hK hw hT kC_at156 rfl rfl (show 0 ≤ r42.toInt by first | with_reducible assumption | omega) (show r42.toInt < 10 by first | with_reducible assumption | omega) dX4_leaveBy_60 (fun x55 c56 rx55 tx55 => ?_)
    refine lv_aload_n hx hb dX4_leaveBy_61 rfl (lv_at hl 3 rfl) ?_
    refine tk_getA hC hK hw hT hinX4 kC_at155 (by decide) rfl 1 (by decide) (List.mem_cons_of_mem _ uw_5_23) rfl rfl dX4_leaveBy_62 ?_
    refine lv_iload_n hx hb dX4_leaveBy_65 rfl (lv_at hl 4 rfl) ?_
    refine lv_iconst (v := 1) hx hb dX4_leaveBy_66 (by decide) ?_
    refine lv_iload hx hb dX4_leaveBy_67 (lv_at hl 2 rfl) ?_
    refine lv_isub hx hb dX4_leaveBy_69 ?_
    refine wk_top 0 (by decide) ?_
    refine lv_iload_n hx hb dX4_leaveBy_70 rfl (lv_at hl 6 rfl) ?_
    refine lv_iload hx hb dX4_leaveBy_71 (lv_at hl 0 rfl) ?_
    refine tk_Vi hC hK hw hT hA hE hSR kC_at39 (by decide) rfl (k_X7_lastOpen_2 l adK adV dC dI cy ad B hB0 (Int.le_trans hB1 (by decide)) qr s1   a1 (show 0 ≤ a1.toInt from ra1) (show a1.toInt ≤ 11 from ta1) a3 (show 0 ≤ a3.toInt from ra3) (show a3.toInt ≤ 99999 from ta3) x54 (show (-10) ≤ x54.toInt by first | with_reducible assumption | omega) (show x54.toInt ≤ 102119 by first | with_reducible assumption | omega) w44 H.size hT ) (cwV 4 hC.2.2.2.2 uV_RX4_79 rfl rfl rfl (by decide +kernel) ⟨Nat.le_of_ble_eq_true rfl, Nat.le_of_ble_eq_true rfl⟩) rfl hl.1 rfl (Nat.le_of_ble_eq_true rfl) dX4_leaveBy_73 (fun r57 w59 H locs hp58 hw => ?_)
    obtain ⟨hT, k60, hg64⟩ := hp58
    have hF := hF.tr k60 (by decide)
    have c65 := k60.gi kC_at40 rfl c49
    rcases hg64 with ⟨g61, g62, g63⟩ | rfl
    · refine va_mmax hx hb (hC.2.2.1.trans hl.1.symm) hC.2.2.2.1 (hC.2.2.2.2 _ (List.mem_cons_of_mem _ uw_52_8)) (hC.2.2.2.2 _ (List.mem_cons_of_mem _ uw_14_15)) (hC.2.2.2.2 _ (List.mem_cons_of_mem _ uw_14_16)) (hC.2.2.2.2 _ (List.mem_cons_of_mem _ uw_14_17)) (Nat.le_of_ble_eq_true rfl) (Nat.le_of_ble_eq_true rfl) (Nat.zero_le _) (Nat.zero_le _) dX4_leaveBy_76 ?_
      refine lv_topi (fun x66 ex66 => ?_)
      have bx66 : (x66.toInt = x55.toInt ∧ r57.toInt ≤ x55.toInt) ∨ (x66.toInt = r57.toInt ∧ x55.toInt < r57.toInt) := by rw [ex66]; exact wk_max
      refine tk_iast hC hK hw hT kC_at156 (by decide) rfl rfl (show 0 ≤ r42.toInt by first | with_reducible assumption | omega) (show r42.toInt < 10 by first | with_reducible assumption | omega) (show (-1) ≤ x66.toInt by first | with_reducible assumption | omega) (show x66.toInt ≤ 102119 by first | with_reducible assumption | omega) dX4_leaveBy_79 (fun H locs w67 hw hT k69 c68 => ?_)
      have hF := hF.put kC_at156 (inE_of (a := 0) (b := 10) (by decide) (show 0 ≤ r42.toInt.toNat by omega) (show r42.toInt.toNat ≤ 10 by omega)) k69
      have c70 := k69.gi (Or.inl (tk_ne kC_at40 kC_at156 (by decide))) c65
      exact tk_vret hC hr hlocks hK ⟨hT, hF, (Or.inr (Or.inl c70))⟩ hw dX4_leaveBy_80
    · refine va_mmax hx hb (hC.2.2.1.trans hl.1.symm) hC.2.2.2.1 (hC.2.2.2.2 _ (List.mem_cons_of_mem _ uw_52_8)) (hC.2.2.2.2 _ (List.mem_cons_of_mem _ uw_14_15)) (hC.2.2.2.2 _ (List.mem_cons_of_mem _ uw_14_16)) (hC.2.2.2.2 _ (List.mem_cons_of_mem _ uw_14_17)) (Nat.le_of_ble_eq_true rfl) (Nat.le_of_ble_eq_true rfl) (Nat.zero_le _) (Nat.zero_le _) dX4_leaveBy_76 ?_
      refine lv_topi (fun x71 ex71 => ?_)
      have bx71 : (x71.toInt = x55.toInt ∧ (-1 : Int) ≤ x55.toInt) ∨ (x71.toInt = (-1 : Int) ∧ x55.toInt < (-1 : Int)) := by rw [ex71]; exact wk_max
      refine tk_iast hC hK hw hT kC_at156 (by decide) rfl rfl (show 0 ≤ r42.toInt by first | with_reducible assumption | omega) (show r42.toInt < 10 by first | with_reducible assumption | omega) (show (-1) ≤ x71.toInt by first | with_reducible assumption | omega) (show x71.toInt ≤ 102119 by first | with_reducible assumption | omega) dX4_leaveBy_79 (fun H locs w72 hw hT k74 c73 => ?_)
      have hF := hF.put kC_at156 (inE_of (a := 0) (b := 10) (by decide) (show 0 ≤ r42.toInt.toNat by omega) (show r42.toInt.toNat ≤ 10 by omega)) k74
      have c75 := k74.gi (Or.inl (tk_ne kC_at40 kC_at156 (by decide))) c65
      exact tk_vret hC hr hlocks hK ⟨hT, hF, (Or.inr (Or.inl c75))⟩ hw dX4_leaveBy_80
abbrev P_X4_latestUnsettled_1 (ad : Nat → Nat) (cy : Nat → ClassId) (B : Int) (qr : Nat) (s1 : Int)  (w0 : va_W) : Int32 → va_W → Prop := fun r u => TW ksC ad cy B qr s1 u ∧ FE ksC ([] : List (Nat × Nat × Nat)) w0 u ∧ (((-1) ≤ r.toInt ∧ r.toInt ≤ 9))
set_option maxHeartbeats 4000000 in
set_option maxRecDepth 100000 in
theorem k_X4_latestUnsettled_1 (l : Launch) (adK adV : Nat → Nat) (dC : Nat → ClassId) (dI : Nat → Nat → Nat) (cy : Nat → ClassId) (ad : Nat → Nat) (B : Int) (hB0 : 2147483648 ≤ B) (hB1 : B ≤ 1152921504606846976) (qr : Nat) (s1 : Int)   (w0 : va_W) (sz : Nat) (hT : TW ksC ad cy B qr s1 w0)  : Met l yX4_latestUnsettled (wu yX4_latestUnsettled cX4_latestUnsettled 3 (some .int)) ({ frames := 1, cells := 0, slots := 0, locals := 12 }) (va_Pc [.ref (ad 155)] (wpreS adK adV dC dI cy sz w0)) (va_Qi (P_X4_latestUnsettled_1 ad cy B qr s1  w0) (fun u : va_W => wpost dC dI cy (va_A w0 sz) u) (va_A w0 sz)) 0 0 (va_A w0 sz) := by
  refine Met.ofW (cc := cX4_latestUnsettled) (maxL := 3) (ret := (some .int)) (by decide) rfl ?_
  intro p e s m args below meth c s₁ Bk hml hv
  obtain ⟨rfl, ⟨hsz, hP, hK, hD0⟩, hE, hSR⟩ := hv
  have hx := Bk.exec
  have hb := Bk.bytes
  have hr := Bk.returns
  have hlocks := Bk.notSynchronized
  have hC : CallFix p m c cX4_latestUnsettled 3 s _ (wu yX4_latestUnsettled cX4_latestUnsettled 3 (some .int)) RX4 := ⟨hx, hb, hml, findClass_of_methodNamed Bk.named, atoms_spec (ws := (wu yX4_latestUnsettled cX4_latestUnsettled 3 (some .int))) Bk.pre⟩
  subst hsz
  have hD := hD0.self (sz := s.heap.size)
  generalize hAe : va_A w0 s.heap.size = A at hD hE ⊢
  have hA : ∀ q : Nat, s.heap.size ≤ q → A q := fun q h => by rw [← hAe]; exact Or.inr h
  have hw : Wd dC dI A s.heap s.heap [] w0 := ⟨hP, hD, va_S.rf⟩
  have hF : FE ksC ([] : List (Nat × Nat × Nat)) w0 w0 := FE.rf
  have hl := lv_entry ([.ref (ad 155)]) (n := 3) (Nat.le_of_ble_eq_true rfl)
  rw [lg_entry_eq]
  generalize (lg_sl ([.ref (ad 155)]) ++ List.replicate (3 - (lg_sl ([.ref (ad 155)])).length) Slot.unset).toArray = ls at hl ⊢
  have hl : lv_has ls 3 [(0, .ref (ad 155))] := hl
  generalize hloc : ([] : List Loc) = locs at hw ⊢
  have hinX4 : ∀ w ∈ u_ws RX4 TX4 4, w ∈ (wu yX4_latestUnsettled cX4_latestUnsettled 3 (some .int)) := fun _ h => List.mem_cons_of_mem _ (up_80 h)
  have hinX7 : ∀ w ∈ u_ws RX7 TX7 12, w ∈ (wu yX4_latestUnsettled cX4_latestUnsettled 3 (some .int)) := fun _ h => List.mem_cons_of_mem _ (up_73 h)
  have L4 : ∀ (n4 : Nat) (v4_1 : Int32) (v4_2 : Int32) (H : Heap) (locs : List Loc) (ls : Array Slot) (w1 : va_W), (-1) ≤ v4_1.toInt → v4_1.toInt ≤ 9 → 0 ≤ v4_2.toInt → v4_2.toInt ≤ 10 → (10 - v4_2.toInt).toNat < n4 → Wd dC dI A s.heap H locs w1 → TW ksC ad cy B qr s1 w1 → FE ksC ([] : List (Nat × Nat × Nat)) w0 w1 → lv_has ls 3 [(0, .ref (ad 155)), (1, .int v4_1), (2, .int v4_2)] → W p l e ({ frames := 1, cells := 0, slots := 0, locals := 12 }) s m (List.toArray [.ref (ad 155)]) below meth c H locs 0 0 (MQ below (va_Qi (P_X4_latestUnsettled_1 ad cy B qr s1  w0) (fun u : va_W => wpost dC dI cy A u) A) (List.toArray [.ref (ad 155)]) s 0 0 A) (F0 m 4 ls []) := by
    intro n4
    induction n4 with
    | zero => intro v4_1 v4_2 H locs ls w1 r2 t3 r4 t5 hm4 hw hT hF hl; omega
    | succ n4 ih4 =>
      intro v4_1 v4_2 H locs ls w1 r2 t3 r4 t5 hm4 hw hT hF hl
      have J56 : ∀ (v56_1 : Int32) (f56_39_8 : Int32) (H : Heap) (locs : List Loc) (ls : Array Slot) (w6 : va_W), (-1) ≤ v56_1.toInt → v56_1.toInt ≤ 9 → 0 ≤ v4_2.toInt → v4_2.toInt ≤ 9 → 1 ≤ f56_39_8.toInt → f56_39_8.toInt ≤ 10 → Wd dC dI A s.heap H locs w6 → TW ksC ad cy B qr s1 w6 → FE ksC ([] : List (Nat × Nat × Nat)) w0 w6 → gi w6 39 8 = f56_39_8 → lv_has ls 3 [(0, .ref (ad 155)), (1, .int v56_1), (2, .int v4_2)] → W p l e ({ frames := 1, cells := 0, slots := 0, locals := 12 }) s m (List.toArray [.ref (ad 155)]) below meth c H locs 0 0 (MQ below (va_Qi (P_X4_latestUnsettled_1 ad cy B qr s1  w0) (fun u : va_W => wpost dC dI cy A u) A) (List.toArray [.ref (ad 155)]) s 0 0 A) (F0 m 56 ls []) := by
        intro v56_1 f56_39_8 H locs ls w6 r7 t8 r9 t10 r11 t12 hw hT hF c13 hl
        obtain ⟨x14, ex14⟩ : ∃ y : Int32, y = v4_2 + Int32.ofInt 1 := ⟨_, rfl⟩
        refine lv_iinc (v := x14) (lv' := [(2, .int x14), (0, .ref (ad 155)), (1, .int v56_1)]) hx hb dX4_latestUnsettled_56 hl (k := 2) rfl ex14.symm (by decide) rfl (fun ls hl => ?_)
        have ex14 : x14.toInt = v4_2.toInt + 1 := by rw [ex14]; exact wk_add (y := 1) (show -2147483648 ≤ v4_2.toInt + 1 by omega) (show v4_2.toInt + 1 ≤ 2147483647 by omega)
        refine lv_goto (tgt := 4) hx hb dX4_latestUnsettled_59 (by decide) ?_
        exact ih4 v56_1 x14 H locs ls w6 (show (-1) ≤ v56_1.toInt from r7) (show v56_1.toInt ≤ 9 from t8) (show 0 ≤ x14.toInt by first | with_reducible assumption | omega) (show x14.toInt ≤ 10 by first | with_reducible assumption | omega) (show (10 - x14.toInt).toNat < n4 by first | exact tn_lt hm4 (by omega) (by omega) | omega) hw hT hF  (lv_sub hl [1, 2, 0] rfl)
      have J54 : ∀ (f54_39_8 : Int32) (H : Heap) (locs : List Loc) (ls : Array Slot) (w15 : va_W), (-1) ≤ v4_1.toInt → v4_1.toInt ≤ 9 → 0 ≤ v4_2.toInt → v4_2.toInt ≤ 9 → 1 ≤ f54_39_8.toInt → f54_39_8.toInt ≤ 10 → Wd dC dI A s.heap H locs w15 → TW ksC ad cy B qr s1 w15 → FE ksC ([] : List (Nat × Nat × Nat)) w0 w15 → gi w15 39 8 = f54_39_8 → lv_has ls 3 [(0, .ref (ad 155)), (1, .int v4_1), (2, .int v4_2)] → W p l e ({ frames := 1, cells := 0, slots := 0, locals := 12 }) s m (List.toArray [.ref (ad 155)]) below meth c H locs 0 0 (MQ below (va_Qi (P_X4_latestUnsettled_1 ad cy B qr s1  w0) (fun u : va_W => wpost dC dI cy A u) A) (List.toArray [.ref (ad 155)]) s 0 0 A) (F0 m 54 ls []) := by
        intro f54_39_8 H locs ls w15 r16 t17 r18 t19 r20 t21 hw hT hF c22 hl
        refine lv_iload_n hx hb dX4_latestUnsettled_54 rfl (lv_at hl 2 rfl) ?_
        refine lv_istore_n (lv' := [(1, .int v4_2), (0, .ref (ad 155)), (2, .int v4_2)]) hx hb dX4_latestUnsettled_55 rfl hl (by decide) rfl (fun ls hl => ?_)
        exact J56 v4_2 f54_39_8 H locs ls w15 (show (-1) ≤ v4_2.toInt from Int.le_trans (by decide) r18) (show v4_2.toInt ≤ 9 from t19) (show 0 ≤ v4_2.toInt from r18) (show v4_2.toInt ≤ 9 from t19) (show 1 ≤ f54_39_8.toInt from r20) (show f54_39_8.toInt ≤ 10 from t21)  hw hT hF c22 (lv_sub hl [1, 0, 2] rfl)
      refine lv_iload_n hx hb dX4_latestUnsettled_4 rfl (lv_at hl 2 rfl) ?_
      refine lv_aload_n hx hb dX4_latestUnsettled_5 rfl (lv_at hl 0 rfl) ?_
      refine tk_getA hC hK hw hT hinX4 kC_at155 (by decide) rfl 1 (by decide) (List.mem_cons_of_mem _ uw_5_23) rfl rfl dX4_latestUnsettled_6 ?_
      refine tk_geti hC hK hw hT hinX7 kC_at39 (by decide) rfl 8 (by decide) (List.mem_cons_of_mem _ uw_49_18) rfl rfl dX4_latestUnsettled_9 (fun x23 c24 rx23 tx23 => ?_)
      refine lv_icmp_ge (tgt := 62) hx hb dX4_latestUnsettled_12 (by decide) (fun c25 => ?_) (fun c25 => ?_)
      · have c25 : x23.toInt ≤ v4_2.toInt := wk_le.mp c25
        refine lv_iload_n hx hb dX4_latestUnsettled_62 rfl (lv_at hl 1 rfl) ?_
        exact tk_iret hC hr hlocks hK ⟨hT, hF, ⟨(show (-1) ≤ v4_1.toInt from r2), (show v4_1.toInt ≤ 9 from t3)⟩⟩ hw dX4_latestUnsettled_63
      · have c25 : v4_2.toInt < x23.toInt := wk_leF c25
        refine lv_aload_n hx hb dX4_latestUnsettled_15 rfl (lv_at hl 0 rfl) ?_
        refine tk_getA hC hK hw hT hinX4 kC_at155 (by decide) rfl 3 (by decide) (List.mem_cons_of_mem _ uw_5_20) rfl rfl dX4_latestUnsettled_16 ?_
        refine lv_iload_n hx hb dX4_latestUnsettled_19 rfl (lv_at hl 2 rfl) ?_
        refine tk_zald hC hK hw hT kC_at157 rfl rfl (show 0 ≤ v4_2.toInt from r4) (show v4_2.toInt < 10 by first | with_reducible assumption | omega) dX4_latestUnsettled_20 (fun x26 c27 rx26 tx26 => ?_)
        refine lv_if_ne (tgt := 56) hx hb dX4_latestUnsettled_21 (by decide) (fun c28 => ?_) (fun c28 => ?_)
        · have c28 : ¬ x26.toInt = (0 : Int) := wk_eqF c28
          exact J56 v4_1 x23 H locs ls w1 (show (-1) ≤ v4_1.toInt from r2) (show v4_1.toInt ≤ 9 from t3) (show 0 ≤ v4_2.toInt from r4) (show v4_2.toInt ≤ 9 by first | with_reducible assumption | omega) (show 1 ≤ x23.toInt by first | with_reducible assumption | omega) (show x23.toInt ≤ 10 from tx23)  hw hT hF c24 (lv_sub hl [0, 1, 2] rfl)
        · have c28 : x26.toInt = (0 : Int) := wk_eq.mp c28
          refine lv_aload_n hx hb dX4_latestUnsettled_24 rfl (lv_at hl 0 rfl) ?_
          refine tk_getA hC hK hw hT hinX4 kC_at155 (by decide) rfl 2 (by decide) (List.mem_cons_of_mem _ uw_5_19) rfl rfl dX4_latestUnsettled_25 ?_
          refine lv_iload_n hx hb dX4_latestUnsettled_28 rfl (lv_at hl 2 rfl) ?_
          refine tk_iald hC hK hw hT kC_at156 rfl rfl (show 0 ≤ v4_2.toInt from r4) (show v4_2.toInt < 10 by first | with_reducible assumption | omega) dX4_latestUnsettled_29 (fun x29 c30 rx29 tx29 => ?_)
          refine lv_iconst (v := (-1)) hx hb dX4_latestUnsettled_30 (by decide) ?_
          refine lv_icmp_eq (tgt := 56) hx hb dX4_latestUnsettled_31 (by decide) (fun c31 => ?_) (fun c31 => ?_)
          · have c31 : x29.toInt = (-1 : Int) := wk_eq.mp c31
            exact J56 v4_1 x23 H locs ls w1 (show (-1) ≤ v4_1.toInt from r2) (show v4_1.toInt ≤ 9 from t3) (show 0 ≤ v4_2.toInt from r4) (show v4_2.toInt ≤ 9 by first | with_reducible assumption | omega) (show 1 ≤ x23.toInt by first | with_reducible assumption | omega) (show x23.toInt ≤ 10 from tx23)  hw hT hF c24 (lv_sub hl [0, 1, 2] rfl)
          · have c31 : ¬ x29.toInt = (-1 : Int) := wk_eqF c31
            refine lv_iload_n hx hb dX4_latestUnsettled_34 rfl (lv_at hl 1 rfl) ?_
            refine lv_iconst (v := (-1)) hx hb dX4_latestUnsettled_35 (by decide) ?_
            refine lv_icmp_eq (tgt := 54) hx hb dX4_latestUnsettled_36 (by decide) (fun c32 => ?_) (fun c32 => ?_)
            · have c32 : v4_1.toInt = (-1 : Int) := wk_eq.mp c32
              exact J54 x23 H locs ls w1 (show (-1) ≤ v4_1.toInt from r2) (show v4_1.toInt ≤ 9 from t3) (show 0 ≤ v4_2.toInt from r4) (show v4_2.toInt ≤ 9 by first | with_reducible assumption | omega) (show 1 ≤ x23.toInt by first | with_reducible assumption | omega) (show x23.toInt ≤ 10 from tx23)  hw hT hF c24 (lv_sub hl [0, 1, 2] rfl)
            · have c32 : ¬ v4_1.toInt = (-1 : Int) := wk_eqF c32
              refine lv_aload_n hx hb dX4_latestUnsettled_39 rfl (lv_at hl 0 rfl) ?_
              refine tk_getA hC hK hw hT hinX4 kC_at155 (by decide) rfl 2 (by decide) (List.mem_cons_of_mem _ uw_5_19) rfl rfl dX4_latestUnsettled_40 ?_
              refine lv_iload_n hx hb dX4_latestUnsettled_43 rfl (lv_at hl 2 rfl) ?_
              refine tk_iald hC hK hw hT kC_at156 rfl rfl (show 0 ≤ v4_2.toInt from r4) (show v4_2.toInt < 10 by first | with_reducible assumption | omega) dX4_latestUnsettled_44 (fun x33 c34 rx33 tx33 => ?_)
              refine lv_aload_n hx hb dX4_latestUnsettled_45 rfl (lv_at hl 0 rfl) ?_
              refine tk_getA hC hK hw hT hinX4 kC_at155 (by decide) rfl 2 (by decide) (List.mem_cons_of_mem _ uw_5_19) rfl rfl dX4_latestUnsettled_46 ?_
              refine lv_iload_n hx hb dX4_latestUnsettled_49 rfl (lv_at hl 1 rfl) ?_
              refine tk_iald hC hK hw hT kC_at156 rfl rfl (show 0 ≤ v4_1.toInt by first | with_reducible assumption | omega) (show v4_1.toInt < 10 from Int.lt_of_le_of_lt t3 (by decide)) dX4_latestUnsettled_50 (fun x35 c36 rx35 tx35 => ?_)
              refine lv_icmp_le (tgt := 56) hx hb dX4_latestUnsettled_51 (by decide) (fun c37 => ?_) (fun c37 => ?_)
              · have c37 : x33.toInt ≤ x35.toInt := wk_le.mp c37
                exact J56 v4_1 x23 H locs ls w1 (show (-1) ≤ v4_1.toInt from r2) (show v4_1.toInt ≤ 9 from t3) (show 0 ≤ v4_2.toInt from r4) (show v4_2.toInt ≤ 9 by first | with_reducible assumption | omega) (show 1 ≤ x23.toInt by first | with_reducible assumption | omega) (show x23.toInt ≤ 10 from tx23)  hw hT hF c24 (lv_sub hl [0, 1, 2] rfl)
              · have c37 : x35.toInt < x33.toInt := wk_leF c37
                exact J54 x23 H locs ls w1 (show (-1) ≤ v4_1.toInt from r2) (show v4_1.toInt ≤ 9 from t3) (show 0 ≤ v4_2.toInt from r4) (show v4_2.toInt ≤ 9 by first | with_reducible assumption | omega) (show 1 ≤ x23.toInt by first | with_reducible assumption | omega) (show x23.toInt ≤ 10 from tx23)  hw hT hF c24 (lv_sub hl [0, 1, 2] rfl)
  refine lv_iconst (v := (-1)) hx hb dX4_latestUnsettled_0 (by decide) ?_
  refine lv_istore_n (lv' := [(1, .int (-1)), (0, .ref (ad 155))]) hx hb dX4_latestUnsettled_1 rfl hl (by decide) rfl (fun ls hl => ?_)
  refine lv_iconst (v := 0) hx hb dX4_latestUnsettled_2 (by decide) ?_
  refine lv_istore_n (lv' := [(2, .int 0), (1, .int (-1)), (0, .ref (ad 155))]) hx hb dX4_latestUnsettled_3 rfl hl (by decide) rfl (fun ls hl => ?_)
  exact L4 ((10 - (0 : Int)).toNat + 1) (-1) 0 s.heap locs ls w0 (by decide) (by decide) (by decide) (by decide) (Nat.lt_succ_self _) hw hT hF  (lv_sub hl [2, 1, 0] rfl)
abbrev P_X4_findLatest_1 (ad : Nat → Nat) (cy : Nat → ClassId) (B : Int) (qr : Nat) (s1 : Int) (a1 : Int32) (a2 : Int32) (a3 : Int32) (w0 : va_W) : va_W → Prop := fun u => TW ksC ad cy B qr s1 u ∧ FE ksC [(48, 0, 10), (49, 0, 10)] w0 u ∧ ((True))
set_option maxHeartbeats 4000000 in
set_option maxRecDepth 100000 in
theorem k_X4_findLatest_1 (l : Launch) (adK adV : Nat → Nat) (dC : Nat → ClassId) (dI : Nat → Nat → Nat) (cy : Nat → ClassId) (ad : Nat → Nat) (B : Int) (hB0 : 2147483648 ≤ B) (hB1 : B ≤ 1152921504606846976) (qr : Nat) (s1 : Int)  (a1 : Int32) (ra1 : 0 ≤ a1.toInt) (ta1 : a1.toInt ≤ 9) (a2 : Int32) (ra2 : 0 ≤ a2.toInt) (ta2 : a2.toInt ≤ 99999) (a3 : Int32) (ra3 : 0 ≤ a3.toInt) (ta3 : a3.toInt ≤ 102119) (w0 : va_W) (sz : Nat) (hT : TW ksC ad cy B qr s1 w0)  : Met l yX4_findLatest (wu yX4_findLatest cX4_findLatest 7 none) ({ frames := 4, cells := 0, slots := 0, locals := 94 }) (va_Pc [.ref (ad 155), .int a1, .int a2, .int a3] (wpreS adK adV dC dI cy sz w0)) (va_Qv (P_X4_findLatest_1 ad cy B qr s1 a1 a2 a3 w0) (fun u : va_W => wpost dC dI cy (va_A w0 sz) u) (va_A w0 sz)) 0 0 (va_A w0 sz) := by
  refine Met.ofW (cc := cX4_findLatest) (maxL := 7) (ret := none) (by decide) rfl ?_
  intro p e s m args below meth c s₁ Bk hml hv
  obtain ⟨rfl, ⟨hsz, hP, hK, hD0⟩, hE, hSR⟩ := hv
  have hx := Bk.exec
  have hb := Bk.bytes
  have hr := Bk.returns
  have hlocks := Bk.notSynchronized
  have hC : CallFix p m c cX4_findLatest 7 s _ (wu yX4_findLatest cX4_findLatest 7 none) RX4 := ⟨hx, hb, hml, findClass_of_methodNamed Bk.named, atoms_spec (ws := (wu yX4_findLatest cX4_findLatest 7 none)) Bk.pre⟩
  subst hsz
  have hD := hD0.self (sz := s.heap.size)
  generalize hAe : va_A w0 s.heap.size = A at hD hE ⊢
  have hA : ∀ q : Nat, s.heap.size ≤ q → A q := fun q h => by rw [← hAe]; exact Or.inr h
  have hw : Wd dC dI A s.heap s.heap [] w0 := ⟨hP, hD, va_S.rf⟩
  have hF : FE ksC [(48, 0, 10), (49, 0, 10)] w0 w0 := FE.rf
  have hl := lv_entry ([.ref (ad 155), .int a1, .int a2, .int a3]) (n := 7) (Nat.le_of_ble_eq_true rfl)
  rw [lg_entry_eq]
  generalize (lg_sl ([.ref (ad 155), .int a1, .int a2, .int a3]) ++ List.replicate (7 - (lg_sl ([.ref (ad 155), .int a1, .int a2, .int a3])).length) Slot.unset).toArray = ls at hl ⊢
  have hl : lv_has ls 7 [(0, .ref (ad 155)), (1, .int a1), (2, .int a2), (3, .int a3)] := hl
  generalize hloc : ([] : List Loc) = locs at hw ⊢
  have hinX4 : ∀ w ∈ u_ws RX4 TX4 4, w ∈ (wu yX4_findLatest cX4_findLatest 7 none) := fun _ h => List.mem_cons_of_mem _ (up_80 h)
  have hinX7 : ∀ w ∈ u_ws RX7 TX7 12, w ∈ (wu yX4_findLatest cX4_findLatest 7 none) := fun _ h => List.mem_cons_of_mem _ (up_73 h)
  have L14 : ∀ (n14 : Nat) (v14_4 : Int32) (H : Heap) (locs : List Loc) (ls : Array Slot) (w1 : va_W), 0 ≤ a1.toInt → a1.toInt ≤ 9 → 0 ≤ a2.toInt → a2.toInt ≤ 99999 → 0 ≤ a3.toInt → a3.toInt ≤ 102119 → 0 ≤ v14_4.toInt → v14_4.toInt ≤ 10 → (10 - v14_4.toInt).toNat < n14 → Wd dC dI A s.heap H locs w1 → TW ksC ad cy B qr s1 w1 → FE ksC [(48, 0, 10), (49, 0, 10)] w0 w1 → lv_has ls 7 [(0, .ref (ad 155)), (1, .int a1), (2, .int a2), (3, .int a3), (4, .int v14_4)] → W p l e ({ frames := 4, cells := 0, slots := 0, locals := 94 }) s m (List.toArray [.ref (ad 155), .int a1, .int a2, .int a3]) below meth c H locs 0 0 (MQ below (va_Qv (P_X4_findLatest_1 ad cy B qr s1 a1 a2 a3 w0) (fun u : va_W => wpost dC dI cy A u) A) (List.toArray [.ref (ad 155), .int a1, .int a2, .int a3]) s 0 0 A) (F0 m 14 ls []) := by
    intro n14
    induction n14 with
    | zero => intro v14_4 H locs ls w1 r2 t3 r4 t5 r6 t7 r8 t9 hm14 hw hT hF hl; omega
    | succ n14 ih14 =>
      intro v14_4 H locs ls w1 r2 t3 r4 t5 r6 t7 r8 t9 hm14 hw hT hF hl
      have L50 : ∀ (n50 : Nat) (v50_5 : Int32) (v50_6 : Int32) (f50_39_8 : Int32) (H : Heap) (locs : List Loc) (ls : Array Slot) (w10 : va_W), 0 ≤ a1.toInt → a1.toInt ≤ 9 → 0 ≤ a2.toInt → a2.toInt ≤ 99999 → 0 ≤ a3.toInt → a3.toInt ≤ 102119 → 0 ≤ v14_4.toInt → v14_4.toInt ≤ 9 → 0 ≤ v50_5.toInt → v50_5.toInt ≤ 9 → 0 ≤ v50_6.toInt → v50_6.toInt ≤ 12 → 1 ≤ f50_39_8.toInt → f50_39_8.toInt ≤ 10 → (12 - v50_6.toInt).toNat < n50 → Wd dC dI A s.heap H locs w10 → TW ksC ad cy B qr s1 w10 → FE ksC [(48, 0, 10), (49, 0, 10)] w0 w10 → gi w10 39 8 = f50_39_8 → lv_has ls 7 [(0, .ref (ad 155)), (1, .int a1), (2, .int a2), (3, .int a3), (4, .int v14_4), (5, .int v50_5), (6, .int v50_6)] → W p l e ({ frames := 4, cells := 0, slots := 0, locals := 94 }) s m (List.toArray [.ref (ad 155), .int a1, .int a2, .int a3]) below meth c H locs 0 0 (MQ below (va_Qv (P_X4_findLatest_1 ad cy B qr s1 a1 a2 a3 w0) (fun u : va_W => wpost dC dI cy A u) A) (List.toArray [.ref (ad 155), .int a1, .int a2, .int a3]) s 0 0 A) (F0 m 50 ls []) := by
        intro n50
        induction n50 with
        | zero => intro v50_5 v50_6 f50_39_8 H locs ls w10 r11 t12 r13 t14 r15 t16 r17 t18 r19 t20 r21 t22 r23 t24 hm50 hw hT hF c25 hl; omega
        | succ n50 ih50 =>
          intro v50_5 v50_6 f50_39_8 H locs ls w10 r11 t12 r13 t14 r15 t16 r17 t18 r19 t20 r21 t22 r23 t24 hm50 hw hT hF c25 hl
          refine lv_iload hx hb dX4_findLatest_50 (lv_at hl 6 rfl) ?_
          refine lv_aload_n hx hb dX4_findLatest_52 rfl (lv_at hl 0 rfl) ?_
          refine tk_getA hC hK hw hT hinX4 kC_at155 (by decide) rfl 1 (by decide) (List.mem_cons_of_mem _ uw_5_23) rfl rfl dX4_findLatest_53 ?_
          refine tk_geti hC hK hw hT hinX7 kC_at39 (by decide) rfl 9 (by decide) (List.mem_cons_of_mem _ uw_51_18) rfl rfl dX4_findLatest_56 (fun x26 c27 rx26 tx26 => ?_)
          refine lv_icmp_ge (tgt := 77) hx hb dX4_findLatest_59 (by decide) (fun c28 => ?_) (fun c28 => ?_)
          · have c28 : x26.toInt ≤ v50_6.toInt := wk_le.mp c28
            obtain ⟨x29, ex29⟩ : ∃ y : Int32, y = v14_4 + Int32.ofInt 1 := ⟨_, rfl⟩
            refine lv_iinc (v := x29) (lv' := [(4, .int x29), (0, .ref (ad 155)), (1, .int a1), (2, .int a2), (3, .int a3), (5, .int v50_5), (6, .int v50_6)]) hx hb dX4_findLatest_77 hl (k := 4) rfl ex29.symm (by decide) rfl (fun ls hl => ?_)
            have ex29 : x29.toInt = v14_4.toInt + 1 := by rw [ex29]; exact wk_add (y := 1) (show -2147483648 ≤ v14_4.toInt + 1 by omega) (show v14_4.toInt + 1 ≤ 2147483647 by omega)
            refine lv_goto (tgt := 14) hx hb dX4_findLatest_80 (by decide) ?_
            exact ih14 x29 H locs ls w10 (show 0 ≤ a1.toInt from r11) (show a1.toInt ≤ 9 from t12) (show 0 ≤ a2.toInt from r13) (show a2.toInt ≤ 99999 from t14) (show 0 ≤ a3.toInt from r15) (show a3.toInt ≤ 102119 from t16) (show 0 ≤ x29.toInt by first | with_reducible assumption | omega) (show x29.toInt ≤ 10 by first | with_reducible assumption | omega) (show (10 - x29.toInt).toNat < n14 by first | exact tn_lt hm14 (by omega) (by omega) | omega) hw hT hF  (lv_sub hl [1, 2, 3, 4, 0] rfl)
          · have c28 : v50_6.toInt < x26.toInt := wk_leF c28
            refine lv_aload_n hx hb dX4_findLatest_62 rfl (lv_at hl 0 rfl) ?_
            refine lv_iload hx hb dX4_findLatest_63 (lv_at hl 6 rfl) ?_
            refine lv_iload hx hb dX4_findLatest_65 (lv_at hl 5 rfl) ?_
            refine lv_iload_n hx hb dX4_findLatest_67 rfl (lv_at hl 2 rfl) ?_
            refine tk_Vv hC hK hw hT hA hE hSR kC_at155 (by decide) rfl (k_X4_leaveBy_1 l adK adV dC dI cy ad B hB0 (Int.le_trans hB1 (by decide)) qr s1   v50_6 (show 0 ≤ v50_6.toInt from r21) (show v50_6.toInt ≤ 11 by first | with_reducible assumption | omega) v50_5 (show 0 ≤ v50_5.toInt from r19) (show v50_5.toInt ≤ 9 from t20) a2 (show 0 ≤ a2.toInt from r13) (show a2.toInt ≤ 99999 from t14) w10 H.size hT ) (cwV 3 hC.2.2.2.2 uV_RX4_76 rfl rfl rfl (by decide +kernel) ⟨Nat.le_of_ble_eq_true rfl, Nat.le_of_ble_eq_true rfl⟩) rfl hl.1 rfl (Nat.le_of_ble_eq_true rfl) dX4_findLatest_68 (fun w32 H locs hp31 hw => ?_)
            obtain ⟨hT, k33, hg36⟩ := hp31
            have hF := hF.tr k33 (by decide)
            have c37 := k33.gi kC_at39 (by decide) c25
            have c38 := k33.gi kC_at39 (by decide) c27
            rcases hg36 with c34 | c35 | -
            · obtain ⟨x39, ex39⟩ : ∃ y : Int32, y = v50_6 + Int32.ofInt 1 := ⟨_, rfl⟩
              refine lv_iinc (v := x39) (lv' := [(6, .int x39), (0, .ref (ad 155)), (1, .int a1), (2, .int a2), (3, .int a3), (4, .int v14_4), (5, .int v50_5)]) hx hb dX4_findLatest_71 hl (k := 6) rfl ex39.symm (by decide) rfl (fun ls hl => ?_)
              have ex39 : x39.toInt = v50_6.toInt + 1 := by rw [ex39]; exact wk_add (y := 1) (show -2147483648 ≤ v50_6.toInt + 1 by omega) (show v50_6.toInt + 1 ≤ 2147483647 by omega)
              refine lv_goto (tgt := 50) hx hb dX4_findLatest_74 (by decide) ?_
              exact ih50 v50_5 x39 f50_39_8 H locs ls w32 (show 0 ≤ a1.toInt from r11) (show a1.toInt ≤ 9 from t12) (show 0 ≤ a2.toInt from r13) (show a2.toInt ≤ 99999 from t14) (show 0 ≤ a3.toInt from r15) (show a3.toInt ≤ 102119 from t16) (show 0 ≤ v14_4.toInt from r17) (show v14_4.toInt ≤ 9 from t18) (show 0 ≤ v50_5.toInt from r19) (show v50_5.toInt ≤ 9 from t20) (show 0 ≤ x39.toInt by first | with_reducible assumption | omega) (show x39.toInt ≤ 12 by first | with_reducible assumption | omega) (show 1 ≤ f50_39_8.toInt from r23) (show f50_39_8.toInt ≤ 10 from t24) (show (12 - x39.toInt).toNat < n50 by first | exact tn_lt hm50 (by omega) (by omega) | omega) hw hT hF c37 (lv_sub hl [1, 2, 3, 4, 5, 6, 0] rfl)
            · obtain ⟨x40, ex40⟩ : ∃ y : Int32, y = v50_6 + Int32.ofInt 1 := ⟨_, rfl⟩
              refine lv_iinc (v := x40) (lv' := [(6, .int x40), (0, .ref (ad 155)), (1, .int a1), (2, .int a2), (3, .int a3), (4, .int v14_4), (5, .int v50_5)]) hx hb dX4_findLatest_71 hl (k := 6) rfl ex40.symm (by decide) rfl (fun ls hl => ?_)
              have ex40 : x40.toInt = v50_6.toInt + 1 := by rw [ex40]; exact wk_add (y := 1) (show -2147483648 ≤ v50_6.toInt + 1 by omega) (show v50_6.toInt + 1 ≤ 2147483647 by omega)
              refine lv_goto (tgt := 50) hx hb dX4_findLatest_74 (by decide) ?_
              exact ih50 v50_5 x40 f50_39_8 H locs ls w32 (show 0 ≤ a1.toInt from r11) (show a1.toInt ≤ 9 from t12) (show 0 ≤ a2.toInt from r13) (show a2.toInt ≤ 99999 from t14) (show 0 ≤ a3.toInt from r15) (show a3.toInt ≤ 102119 from t16) (show 0 ≤ v14_4.toInt from r17) (show v14_4.toInt ≤ 9 from t18) (show 0 ≤ v50_5.toInt from r19) (show v50_5.toInt ≤ 9 from t20) (show 0 ≤ x40.toInt by first | with_reducible assumption | omega) (show x40.toInt ≤ 12 by first | with_reducible assumption | omega) (show 1 ≤ f50_39_8.toInt from r23) (show f50_39_8.toInt ≤ 10 from t24) (show (12 - x40.toInt).toNat < n50 by first | exact tn_lt hm50 (by omega) (by omega) | omega) hw hT hF c37 (lv_sub hl [1, 2, 3, 4, 5, 6, 0] rfl)
            · obtain ⟨x41, ex41⟩ : ∃ y : Int32, y = v50_6 + Int32.ofInt 1 := ⟨_, rfl⟩
              refine lv_iinc (v := x41) (lv' := [(6, .int x41), (0, .ref (ad 155)), (1, .int a1), (2, .int a2), (3, .int a3), (4, .int v14_4), (5, .int v50_5)]) hx hb dX4_findLatest_71 hl (k := 6) rfl ex41.symm (by decide) rfl (fun ls hl => ?_)
              have ex41 : x41.toInt = v50_6.toInt + 1 := by rw [ex41]; exact wk_add (y := 1) (show -2147483648 ≤ v50_6.toInt + 1 by omega) (show v50_6.toInt + 1 ≤ 2147483647 by omega)
              refine lv_goto (tgt := 50) hx hb dX4_findLatest_74 (by decide) ?_
              exact ih50 v50_5 x41 f50_39_8 H locs ls w32 (show 0 ≤ a1.toInt from r11) (show a1.toInt ≤ 9 from t12) (show 0 ≤ a2.toInt from r13) (show a2.toInt ≤ 99999 from t14) (show 0 ≤ a3.toInt from r15) (show a3.toInt ≤ 102119 from t16) (show 0 ≤ v14_4.toInt from r17) (show v14_4.toInt ≤ 9 from t18) (show 0 ≤ v50_5.toInt from r19) (show v50_5.toInt ≤ 9 from t20) (show 0 ≤ x41.toInt by first | with_reducible assumption | omega) (show x41.toInt ≤ 12 by first | with_reducible assumption | omega) (show 1 ≤ f50_39_8.toInt from r23) (show f50_39_8.toInt ≤ 10 from t24) (show (12 - x41.toInt).toNat < n50 by first | exact tn_lt hm50 (by omega) (by omega) | omega) hw hT hF c37 (lv_sub hl [1, 2, 3, 4, 5, 6, 0] rfl)
      refine lv_iload hx hb dX4_findLatest_14 (lv_at hl 4 rfl) ?_
      refine lv_aload_n hx hb dX4_findLatest_16 rfl (lv_at hl 0 rfl) ?_
      refine tk_getA hC hK hw hT hinX4 kC_at155 (by decide) rfl 1 (by decide) (List.mem_cons_of_mem _ uw_5_23) rfl rfl dX4_findLatest_17 ?_
      refine tk_geti hC hK hw hT hinX7 kC_at39 (by decide) rfl 8 (by decide) (List.mem_cons_of_mem _ uw_49_18) rfl rfl dX4_findLatest_20 (fun x42 c43 rx42 tx42 => ?_)
      refine lv_icmp_ge (tgt := 83) hx hb dX4_findLatest_23 (by decide) (fun c44 => ?_) (fun c44 => ?_)
      · have c44 : x42.toInt ≤ v14_4.toInt := wk_le.mp c44
        exact tk_vret hC hr hlocks hK ⟨hT, hF, trivial⟩ hw dX4_findLatest_83
      · have c44 : v14_4.toInt < x42.toInt := wk_leF c44
        refine lv_aload_n hx hb dX4_findLatest_26 rfl (lv_at hl 0 rfl) ?_
        refine tk_Vi hC hK hw hT hA hE hSR kC_at155 (by decide) rfl (k_X4_latestUnsettled_1 l adK adV dC dI cy ad B hB0 (Int.le_trans hB1 (by decide)) qr s1    w1 H.size hT ) (cwV 0 hC.2.2.2.2 uV_RX4_73 rfl rfl rfl (by decide +kernel) ⟨Nat.le_of_ble_eq_true rfl, Nat.le_of_ble_eq_true rfl⟩) rfl hl.1 rfl (Nat.le_of_ble_eq_true rfl) dX4_findLatest_27 (fun r45 w47 H locs hp46 hw => ?_)
        obtain ⟨hT, k48, hg51⟩ := hp46
        have hF := hF.tr k48 (by decide)
        have c52 := k48.gi kC_at39 (by decide) c43
        obtain ⟨g49, g50⟩ := hg51
        refine lv_istore (lv' := [(5, .int r45), (0, .ref (ad 155)), (1, .int a1), (2, .int a2), (3, .int a3), (4, .int v14_4)]) hx hb dX4_findLatest_30 hl (by decide) rfl (fun ls hl => ?_)
        refine lv_iload hx hb dX4_findLatest_32 (lv_at hl 0 rfl) ?_
        refine lv_iconst (v := (-1)) hx hb dX4_findLatest_34 (by decide) ?_
        refine lv_icmp_ne (tgt := 39) hx hb dX4_findLatest_35 (by decide) (fun c53 => ?_) (fun c53 => ?_)
        · have c53 : ¬ r45.toInt = (-1 : Int) := wk_eqF c53
          refine lv_aload_n hx hb dX4_findLatest_39 rfl (lv_at hl 1 rfl) ?_
          refine tk_getA hC hK hw hT hinX4 kC_at155 (by decide) rfl 3 (by decide) (List.mem_cons_of_mem _ uw_5_20) rfl rfl dX4_findLatest_40 ?_
          refine lv_iload hx hb dX4_findLatest_43 (lv_at hl 0 rfl) ?_
          refine lv_iconst (v := 1) hx hb dX4_findLatest_45 (by decide) ?_
          refine tk_zast hC hK hw hT kC_at157 (by decide) rfl rfl (show 0 ≤ r45.toInt by first | with_reducible assumption | omega) (show r45.toInt < 10 by first | with_reducible assumption | omega) (by decide) (by decide) dX4_findLatest_46 (fun H locs w54 hw hT k56 c55 => ?_)
          have hF := hF.put kC_at157 (inE_of (a := 0) (b := 10) (by decide) (show 0 ≤ r45.toInt.toNat by omega) (show r45.toInt.toNat ≤ 10 by omega)) k56
          have c57 := k56.gi (Or.inl (tk_ne kC_at39 kC_at157 (by decide))) c52
          refine lv_iconst (v := 0) hx hb dX4_findLatest_47 (by decide) ?_
          refine lv_istore (lv' := [(6, .int 0), (5, .int r45), (0, .ref (ad 155)), (1, .int a1), (2, .int a2), (3, .int a3), (4, .int v14_4)]) hx hb dX4_findLatest_48 hl (by decide) rfl (fun ls hl => ?_)
          exact L50 ((12 - (0 : Int)).toNat + 1) r45 0 x42 H locs ls w54 (show 0 ≤ a1.toInt from r2) (show a1.toInt ≤ 9 from t3) (show 0 ≤ a2.toInt from r4) (show a2.toInt ≤ 99999 from t5) (show 0 ≤ a3.toInt from r6) (show a3.toInt ≤ 102119 from t7) (show 0 ≤ v14_4.toInt from r8) (show v14_4.toInt ≤ 9 by first | with_reducible assumption | omega) (show 0 ≤ r45.toInt by first | with_reducible assumption | omega) (show r45.toInt ≤ 9 by first | with_reducible assumption | omega) (by decide) (by decide) (show 1 ≤ x42.toInt by first | with_reducible assumption | omega) (show x42.toInt ≤ 10 from tx42) (Nat.lt_succ_self _) hw hT hF c57 (lv_sub hl [2, 3, 4, 5, 6, 1, 0] rfl)
        · have c53 : r45.toInt = (-1 : Int) := wk_eq.mp c53
          exact tk_vret hC hr hlocks hK ⟨hT, hF, trivial⟩ hw dX4_findLatest_38
  refine lv_aload_n hx hb dX4_findLatest_0 rfl (lv_at hl 0 rfl) ?_
  refine tk_Vv hC hK hw hT hA hE hSR kC_at155 (by decide) rfl (k_X4_clear_1 l adK adV dC dI cy ad B hB0 (Int.le_trans hB1 (by decide)) qr s1    w0 s.heap.size hT ) (cwV 0 hC.2.2.2.2 uV_RX4_30 rfl rfl rfl (by decide +kernel) ⟨Nat.le_of_ble_eq_true rfl, Nat.le_of_ble_eq_true rfl⟩) rfl hl.1 rfl (Nat.le_of_ble_eq_true rfl) dX4_findLatest_1 (fun w60 H locs hp59 hw => ?_)
  obtain ⟨hT, k61, hg62⟩ := hp59
  have hF := hF.tr k61 (by decide)
  clear hg62
  refine lv_aload_n hx hb dX4_findLatest_4 rfl (lv_at hl 0 rfl) ?_
  refine tk_getA hC hK hw hT hinX4 kC_at155 (by decide) rfl 2 (by decide) (List.mem_cons_of_mem _ uw_5_19) rfl rfl dX4_findLatest_5 ?_
  refine lv_iload_n hx hb dX4_findLatest_8 rfl (lv_at hl 1 rfl) ?_
  refine lv_iload_n hx hb dX4_findLatest_9 rfl (lv_at hl 3 rfl) ?_
  refine tk_iast hC hK hw hT kC_at156 (by decide) rfl rfl (show 0 ≤ a1.toInt from ra1) (show a1.toInt < 10 from Int.lt_of_le_of_lt ta1 (by decide)) (show (-1) ≤ a3.toInt from Int.le_trans (by decide) ra3) (show a3.toInt ≤ 102119 from ta3) dX4_findLatest_10 (fun H locs w63 hw hT k65 c64 => ?_)
  have hF := hF.put kC_at156 (inE_of (a := 0) (b := 10) (by decide) (show 0 ≤ a1.toInt.toNat by omega) (show a1.toInt.toNat ≤ 10 by omega)) k65
  refine lv_iconst (v := 0) hx hb dX4_findLatest_11 (by decide) ?_
  refine lv_istore (lv' := [(4, .int 0), (0, .ref (ad 155)), (1, .int a1), (2, .int a2), (3, .int a3)]) hx hb dX4_findLatest_12 hl (by decide) rfl (fun ls hl => ?_)
  exact L14 ((10 - (0 : Int)).toNat + 1) 0 H locs ls w63 (show 0 ≤ a1.toInt from ra1) (show a1.toInt ≤ 9 from ta1) (show 0 ≤ a2.toInt from ra2) (show a2.toInt ≤ 99999 from ta2) (show 0 ≤ a3.toInt from ra3) (show a3.toInt ≤ 102119 from ta3) (by decide) (by decide) (Nat.lt_succ_self _) hw hT hF  (lv_sub hl [1, 2, 3, 4, 0] rfl)
abbrev P_X4_streetOnWay_1 (ad : Nat → Nat) (cy : Nat → ClassId) (B : Int) (qr : Nat) (s1 : Int) (a1 : Int32) (a2 : Int32) (a3 : Int32) (a4 : Int32) (w0 : va_W) : Int32 → va_W → Prop := fun r u => TW ksC ad cy B qr s1 u ∧ FE ksC [(48, 0, 10), (49, 0, 10)] w0 u ∧ ((0 ≤ r.toInt ∧ r.toInt ≤ 11 ∧ a4.toInt ≤ 2000 ∧ (∃ y : Int32, gi u 39 8 = y ∧ 1 ≤ y.toInt ∧ y.toInt ≤ 10) ∧ (∃ y : Int32, gi u 39 9 = y ∧ 1 ≤ y.toInt ∧ y.toInt ≤ 12)) ∨ (r = (-1)))
set_option maxHeartbeats 4000000 in
set_option maxRecDepth 100000 in
theorem k_X4_streetOnWay_1 (l : Launch) (adK adV : Nat → Nat) (dC : Nat → ClassId) (dI : Nat → Nat → Nat) (cy : Nat → ClassId) (ad : Nat → Nat) (B : Int) (hB0 : 2147483648 ≤ B) (hB1 : B ≤ 1152921504606846976) (qr : Nat) (s1 : Int)  (a1 : Int32) (ra1 : 0 ≤ a1.toInt) (ta1 : a1.toInt ≤ 9) (a2 : Int32) (ra2 : 0 ≤ a2.toInt) (ta2 : a2.toInt ≤ 9) (a3 : Int32) (ra3 : 0 ≤ a3.toInt) (ta3 : a3.toInt ≤ 99999) (a4 : Int32) (ra4 : 0 ≤ a4.toInt) (w0 : va_W) (sz : Nat) (hT : TW ksC ad cy B qr s1 w0)  : Met l yX4_streetOnWay (wu yX4_streetOnWay cX4_streetOnWay 11 (some .int)) ({ frames := 5, cells := 0, slots := 0, locals := 122 }) (va_Pc [.ref (ad 155), .int a1, .int a2, .int a3, .int a4] (wpreS adK adV dC dI cy sz w0)) (va_Qi (P_X4_streetOnWay_1 ad cy B qr s1 a1 a2 a3 a4 w0) (fun u : va_W => wpost dC dI cy (va_A w0 sz) u) (va_A w0 sz)) 0 0 (va_A w0 sz) := by
  refine Met.ofW (cc := cX4_streetOnWay) (maxL := 11) (ret := (some .int)) (by decide) rfl ?_
  intro p e s m args below meth c s₁ Bk hml hv
  obtain ⟨rfl, ⟨hsz, hP, hK, hD0⟩, hE, hSR⟩ := hv
  have hx := Bk.exec
  have hb := Bk.bytes
  have hr := Bk.returns
  have hlocks := Bk.notSynchronized
  have hC : CallFix p m c cX4_streetOnWay 11 s _ (wu yX4_streetOnWay cX4_streetOnWay 11 (some .int)) RX4 := ⟨hx, hb, hml, findClass_of_methodNamed Bk.named, atoms_spec (ws := (wu yX4_streetOnWay cX4_streetOnWay 11 (some .int))) Bk.pre⟩
  subst hsz
  have hD := hD0.self (sz := s.heap.size)
  generalize hAe : va_A w0 s.heap.size = A at hD hE ⊢
  have hA : ∀ q : Nat, s.heap.size ≤ q → A q := fun q h => by rw [← hAe]; exact Or.inr h
  have hw : Wd dC dI A s.heap s.heap [] w0 := ⟨hP, hD, va_S.rf⟩
  have hF : FE ksC [(48, 0, 10), (49, 0, 10)] w0 w0 := FE.rf
  have hl := lv_entry ([.ref (ad 155), .int a1, .int a2, .int a3, .int a4]) (n := 11) (Nat.le_of_ble_eq_true rfl)
  rw [lg_entry_eq]
  generalize (lg_sl ([.ref (ad 155), .int a1, .int a2, .int a3, .int a4]) ++ List.replicate (11 - (lg_sl ([.ref (ad 155), .int a1, .int a2, .int a3, .int a4])).length) Slot.unset).toArray = ls at hl ⊢
  have hl : lv_has ls 11 [(0, .ref (ad 155)), (1, .int a1), (2, .int a2), (3, .int a3), (4, .int a4)] := hl
  generalize hloc : ([] : List Loc) = locs at hw ⊢
  have hinX4 : ∀ w ∈ u_ws RX4 TX4 4, w ∈ (wu yX4_streetOnWay cX4_streetOnWay 11 (some .int)) := fun _ h => List.mem_cons_of_mem _ (up_80 h)
  have hinX7 : ∀ w ∈ u_ws RX7 TX7 12, w ∈ (wu yX4_streetOnWay cX4_streetOnWay 11 (some .int)) := fun _ h => List.mem_cons_of_mem _ (up_73 h)
  have L41 : ∀ (n41 : Nat) (v41_5 : Int32) (v41_6 : Int32) (v41_7 : Int32) (v41_8 : Int32) (f41_39_8 : Int32) (f41_39_9 : Int32) (H : Heap) (locs : List Loc) (ls : Array Slot) (w1 : va_W), 0 ≤ a1.toInt → a1.toInt ≤ 9 → 0 ≤ a2.toInt → a2.toInt ≤ 9 → 0 ≤ a3.toInt → a3.toInt ≤ 99999 → 0 ≤ a4.toInt → 0 ≤ v41_5.toInt → v41_5.toInt ≤ 102119 → 0 ≤ v41_6.toInt → v41_6.toInt ≤ 9 → (-1) ≤ v41_7.toInt → v41_7.toInt ≤ 102128 → 0 ≤ v41_8.toInt → v41_8.toInt ≤ 2001 → 1 ≤ f41_39_8.toInt → f41_39_8.toInt ≤ 10 → 0 ≤ f41_39_9.toInt → f41_39_9.toInt ≤ 12 → (2001 - v41_8.toInt).toNat < n41 → Wd dC dI A s.heap H locs w1 → TW ksC ad cy B qr s1 w1 → FE ksC [(48, 0, 10), (49, 0, 10)] w0 w1 → gi w1 39 8 = f41_39_8 → gi w1 39 9 = f41_39_9 → lv_has ls 11 [(0, .ref (ad 155)), (1, .int a1), (2, .int a2), (3, .int a3), (4, .int a4), (5, .int v41_5), (6, .int v41_6), (7, .int v41_7), (8, .int v41_8)] → W p l e ({ frames := 5, cells := 0, slots := 0, locals := 122 }) s m (List.toArray [.ref (ad 155), .int a1, .int a2, .int a3, .int a4]) below meth c H locs 0 0 (MQ below (va_Qi (P_X4_streetOnWay_1 ad cy B qr s1 a1 a2 a3 a4 w0) (fun u : va_W => wpost dC dI cy A u) A) (List.toArray [.ref (ad 155), .int a1, .int a2, .int a3, .int a4]) s 0 0 A) (F0 m 41 ls []) := by
    intro n41
    induction n41 with
    | zero => intro v41_5 v41_6 v41_7 v41_8 f41_39_8 f41_39_9 H locs ls w1 r2 t3 r4 t5 r6 t7 r8 r9 t10 r11 t12 r13 t14 r15 t16 r17 t18 r20 t21 hm41 hw hT hF c19 c22 hl; omega
    | succ n41 ih41 =>
      intro v41_5 v41_6 v41_7 v41_8 f41_39_8 f41_39_9 H locs ls w1 r2 t3 r4 t5 r6 t7 r8 r9 t10 r11 t12 r13 t14 r15 t16 r17 t18 r20 t21 hm41 hw hT hF c19 c22 hl
      refine lv_iload hx hb dX4_streetOnWay_41 (lv_at hl 8 rfl) ?_
      refine lv_iload hx hb dX4_streetOnWay_43 (lv_at hl 4 rfl) ?_
      refine lv_icmp_gt (tgt := 148) hx hb dX4_streetOnWay_45 (by decide) (fun c23 => ?_) (fun c23 => ?_)
      · have c23 : a4.toInt < v41_8.toInt := wk_lt.mp c23
        refine lv_iconst (v := (-1)) hx hb dX4_streetOnWay_148 (by decide) ?_
        exact tk_iret hC hr hlocks hK ⟨hT, hF, (Or.inr rfl)⟩ hw dX4_streetOnWay_149
      · have c23 : v41_8.toInt ≤ a4.toInt := wk_ltF c23
        refine lv_iload hx hb dX4_streetOnWay_48 (lv_at hl 8 rfl) ?_
        refine lv_sipush (v := 2000) hx hb dX4_streetOnWay_50 (by decide) ?_
        refine lv_icmp_gt (tgt := 148) hx hb dX4_streetOnWay_53 (by decide) (fun c24 => ?_) (fun c24 => ?_)
        · have c24 : (2000 : Int) < v41_8.toInt := wk_lt.mp c24
          refine lv_iconst (v := (-1)) hx hb dX4_streetOnWay_148 (by decide) ?_
          exact tk_iret hC hr hlocks hK ⟨hT, hF, (Or.inr rfl)⟩ hw dX4_streetOnWay_149
        · have c24 : v41_8.toInt ≤ (2000 : Int) := wk_ltF c24
          refine lv_iload hx hb dX4_streetOnWay_56 (lv_at hl 6 rfl) ?_
          refine lv_iload_n hx hb dX4_streetOnWay_58 rfl (lv_at hl 2 rfl) ?_
          refine lv_icmp_eq (tgt := 148) hx hb dX4_streetOnWay_59 (by decide) (fun c25 => ?_) (fun c25 => ?_)
          · have c25 : v41_6.toInt = a2.toInt := wk_eq.mp c25
            refine lv_iconst (v := (-1)) hx hb dX4_streetOnWay_148 (by decide) ?_
            exact tk_iret hC hr hlocks hK ⟨hT, hF, (Or.inr rfl)⟩ hw dX4_streetOnWay_149
          · have c25 : ¬ v41_6.toInt = a2.toInt := wk_eqF c25
            refine lv_aload_n hx hb dX4_streetOnWay_62 rfl (lv_at hl 0 rfl) ?_
            refine lv_iload hx hb dX4_streetOnWay_63 (lv_at hl 6 rfl) ?_
            refine lv_iload hx hb dX4_streetOnWay_65 (lv_at hl 7 rfl) ?_
            refine tk_Vi hC hK hw hT hA hE hSR kC_at155 (by decide) rfl (k_X4_leastStreet_1 l adK adV dC dI cy ad B hB0 (Int.le_trans hB1 (by decide)) qr s1   v41_6 (show 0 ≤ v41_6.toInt from r11) (show v41_6.toInt ≤ 9 from t12) v41_7 (show (-1) ≤ v41_7.toInt from r13) (show v41_7.toInt ≤ 102128 from t14) w1 H.size hT ) (cwV 2 hC.2.2.2.2 uV_RX4_70 rfl rfl rfl (by decide +kernel) ⟨Nat.le_of_ble_eq_true rfl, Nat.le_of_ble_eq_true rfl⟩) rfl hl.1 rfl (Nat.le_of_ble_eq_true rfl) dX4_streetOnWay_67 (fun r26 w28 H locs hp27 hw => ?_)
            obtain ⟨hT, k29, hg42⟩ := hp27
            have hF := hF.tr k29 (by decide)
            have c43 := k29.gi kC_at39 (by decide) c19
            have c44 := k29.gi kC_at39 (by decide) c22
            rcases hg42 with ⟨g30, g31, g32, ⟨x33, c34, rx33, tx33⟩, c35⟩ | ⟨g36, g37, g38, ⟨x39, c40, rx39, tx39⟩, c41⟩ | rfl
            · have ex33 : x33.toInt = f41_39_9.toInt := by rw [← c44.symm.trans c34]
              refine lv_istore (lv' := [(9, .int r26), (0, .ref (ad 155)), (1, .int a1), (2, .int a2), (3, .int a3), (4, .int a4), (5, .int v41_5), (6, .int v41_6), (7, .int v41_7), (8, .int v41_8)]) hx hb dX4_streetOnWay_70 hl (by decide) rfl (fun ls hl => ?_)
              refine lv_iload hx hb dX4_streetOnWay_72 (lv_at hl 0 rfl) ?_
              refine lv_iconst (v := (-1)) hx hb dX4_streetOnWay_74 (by decide) ?_
              refine lv_icmp_eq (tgt := 85) hx hb dX4_streetOnWay_75 (by decide) (fun c => absurd c (fun h => absurd (show r26.toInt = (-1 : Int) from wk_eq.mp h) (by omega))) (fun _ => ?_)
              refine lv_iload hx hb dX4_streetOnWay_78 (lv_at hl 9 rfl) ?_
              refine lv_iload hx hb dX4_streetOnWay_80 (lv_at hl 5 rfl) ?_
              refine lv_icmp_ne (tgt := 88) hx hb dX4_streetOnWay_82 (by decide) (fun c45 => ?_) (fun c45 => ?_)
              · have c45 : ¬ v41_8.toInt = a4.toInt := wk_eqF c45
                refine lv_aload_n hx hb dX4_streetOnWay_88 rfl (lv_at hl 1 rfl) ?_
                refine tk_getA hC hK hw hT hinX4 kC_at155 (by decide) rfl 1 (by decide) (List.mem_cons_of_mem _ uw_5_23) rfl rfl dX4_streetOnWay_89 ?_
                refine lv_iload hx hb dX4_streetOnWay_92 (lv_at hl 0 rfl) ?_
                refine lv_iload hx hb dX4_streetOnWay_94 (lv_at hl 7 rfl) ?_
                refine tk_Vi hC hK hw hT hA hE hSR kC_at39 (by decide) rfl (k_X7_sideOf_6 l adK adV dC dI cy ad B hB0 (Int.le_trans hB1 (by decide)) qr s1   r26 (show 0 ≤ r26.toInt by first | with_reducible assumption | omega) (show r26.toInt ≤ 11 by first | with_reducible assumption | omega) v41_6 (show 0 ≤ v41_6.toInt from r11) (show v41_6.toInt ≤ 9 from t12) w28 H.size hT c35) (cwV 2 hC.2.2.2.2 uV_RX4_47 rfl rfl rfl (by decide +kernel) ⟨Nat.le_of_ble_eq_true rfl, Nat.le_of_ble_eq_true rfl⟩) rfl hl.1 rfl (Nat.le_of_ble_eq_true rfl) dX4_streetOnWay_96 (fun r46 w48 H locs hp47 hw => ?_)
                obtain ⟨hT, k49, hg51⟩ := hp47
                have hF := hF.tr k49 (by decide)
                have c52 := k49.gi kC_at39 (by decide) c43
                have c53 := k49.gi kC_at39 (by decide) c44
                have c54 := k49.gi kC_at40 rfl c35
                obtain ⟨rfl, c50⟩ := hg51
                refine lv_istore (lv' := [(10, .int 0), (9, .int r26), (0, .ref (ad 155)), (1, .int a1), (2, .int a2), (3, .int a3), (4, .int a4), (5, .int v41_5), (6, .int v41_6), (7, .int v41_7), (8, .int v41_8)]) hx hb dX4_streetOnWay_99 hl (by decide) rfl (fun ls hl => ?_)
                refine lv_aload_n hx hb dX4_streetOnWay_101 rfl (lv_at hl 2 rfl) ?_
                refine tk_getA hC hK hw hT hinX4 kC_at155 (by decide) rfl 1 (by decide) (List.mem_cons_of_mem _ uw_5_23) rfl rfl dX4_streetOnWay_102 ?_
                refine lv_iload hx hb dX4_streetOnWay_105 (lv_at hl 1 rfl) ?_
                refine lv_iload hx hb dX4_streetOnWay_107 (lv_at hl 0 rfl) ?_
                refine lv_iload hx hb dX4_streetOnWay_109 (lv_at hl 9 rfl) ?_
                refine lv_iload hx hb dX4_streetOnWay_111 (lv_at hl 7 rfl) ?_
                refine tk_Vi hC hK hw hT hA hE hSR kC_at39 (by decide) rfl (k_X7_firstOpen_7 l adK adV dC dI cy ad B hB0 (Int.le_trans hB1 (by decide)) qr s1   r26 (show 0 ≤ r26.toInt by first | with_reducible assumption | omega) (show r26.toInt ≤ 11 by first | with_reducible assumption | omega) v41_7 (show (-1) ≤ v41_7.toInt from r13) (show v41_7.toInt ≤ 102119 by first | with_reducible assumption | omega) v41_5 (show 0 ≤ v41_5.toInt from r9) (show v41_5.toInt ≤ 102119 from t10) w48 H.size hT ) (cwV 4 hC.2.2.2.2 uV_RX4_57 rfl rfl rfl (by decide +kernel) ⟨Nat.le_of_ble_eq_true rfl, Nat.le_of_ble_eq_true rfl⟩) rfl hl.1 rfl (Nat.le_of_ble_eq_true rfl) dX4_streetOnWay_113 (fun r55 w57 H locs hp56 hw => ?_)
                obtain ⟨hT, k58, hg61⟩ := hp56
                have hF := hF.tr k58 (by decide)
                have c62 := k58.gi kC_at39 (by decide) c52
                have c63 := k58.gi kC_at39 (by decide) c53
                have c64 := k58.gi kC_at40 rfl c54
                rcases hg61 with ⟨g59, g60⟩ | rfl
                · refine lv_aload_n hx hb dX4_streetOnWay_116 rfl (lv_at hl 2 rfl) ?_
                  refine tk_getA hC hK hw hT hinX4 kC_at155 (by decide) rfl 1 (by decide) (List.mem_cons_of_mem _ uw_5_23) rfl rfl dX4_streetOnWay_117 ?_
                  refine tk_getO hC hK hw hT hinX7 kC_at39 (by decide) rfl 1 (by decide) (List.mem_cons_of_mem _ uw_50_7) rfl rfl dX4_streetOnWay_120 ?_
                  refine lv_iload hx hb dX4_streetOnWay_123 (lv_at hl 1 rfl) ?_
                  refine tk_iald hC hK hw hT kC_at41 rfl rfl (show 0 ≤ r26.toInt by first | with_reducible assumption | omega) (show r26.toInt < 13 by first | with_reducible assumption | omega) dX4_streetOnWay_125 (fun x65 c66 rx65 tx65 => ?_)
                  refine lv_iadd hx hb dX4_streetOnWay_126 ?_
                  refine lv_topi (fun x67 ex67 => ?_)
                  have ex67 : x67.toInt = r55.toInt + x65.toInt := by rw [ex67]; exact wk_add (show (-2147483648) ≤ r55.toInt + x65.toInt by omega) (show r55.toInt + x65.toInt ≤ 2147483647 by omega)
                  refine lv_istore (lv' := [(7, .int x67), (10, .int 0), (9, .int r26), (0, .ref (ad 155)), (1, .int a1), (2, .int a2), (3, .int a3), (4, .int a4), (5, .int v41_5), (6, .int v41_6), (8, .int v41_8)]) hx hb dX4_streetOnWay_127 hl (by decide) rfl (fun ls hl => ?_)
                  refine lv_aload_n hx hb dX4_streetOnWay_129 rfl (lv_at hl 3 rfl) ?_
                  refine tk_getA hC hK hw hT hinX4 kC_at155 (by decide) rfl 1 (by decide) (List.mem_cons_of_mem _ uw_5_23) rfl rfl dX4_streetOnWay_130 ?_
                  refine lv_iload hx hb dX4_streetOnWay_133 (lv_at hl 2 rfl) ?_
                  refine lv_iload hx hb dX4_streetOnWay_135 (lv_at hl 1 rfl) ?_
                  refine tk_Vi hC hK hw hT hA hE hSR kC_at39 (by decide) rfl (k_X7_cornerAcross_2 l adK adV dC dI cy ad B hB0 (Int.le_trans hB1 (by decide)) qr s1   r26 (show 0 ≤ r26.toInt by first | with_reducible assumption | omega) (show r26.toInt ≤ 11 by first | with_reducible assumption | omega) w57 H.size hT ) (cwV 2 hC.2.2.2.2 uV_RX4_51 rfl rfl rfl (by decide +kernel) ⟨Nat.le_of_ble_eq_true rfl, Nat.le_of_ble_eq_true rfl⟩) rfl hl.1 rfl (Nat.le_of_ble_eq_true rfl) dX4_streetOnWay_137 (fun r68 w70 H locs hp69 hw => ?_)
                  obtain ⟨hT, k71, hg74⟩ := hp69
                  have hF := hF.tr k71 (by decide)
                  have c75 := k71.gi kC_at39 (by decide) c62
                  have c76 := k71.gi kC_at39 (by decide) c63
                  have c77 := k71.gi kC_at40 rfl c64
                  obtain ⟨g72, g73⟩ := hg74
                  refine lv_istore (lv' := [(6, .int r68), (7, .int x67), (10, .int 0), (9, .int r26), (0, .ref (ad 155)), (1, .int a1), (2, .int a2), (3, .int a3), (4, .int a4), (5, .int v41_5), (8, .int v41_8)]) hx hb dX4_streetOnWay_140 hl (by decide) rfl (fun ls hl => ?_)
                  obtain ⟨x78, ex78⟩ : ∃ y : Int32, y = v41_8 + Int32.ofInt 1 := ⟨_, rfl⟩
                  refine lv_iinc (v := x78) (lv' := [(8, .int x78), (6, .int r68), (7, .int x67), (10, .int 0), (9, .int r26), (0, .ref (ad 155)), (1, .int a1), (2, .int a2), (3, .int a3), (4, .int a4), (5, .int v41_5)]) hx hb dX4_streetOnWay_142 hl (k := 10) rfl ex78.symm (by decide) rfl (fun ls hl => ?_)
                  have ex78 : x78.toInt = v41_8.toInt + 1 := by rw [ex78]; exact wk_add (y := 1) (show -2147483648 ≤ v41_8.toInt + 1 by omega) (show v41_8.toInt + 1 ≤ 2147483647 by omega)
                  refine lv_goto (tgt := 41) hx hb dX4_streetOnWay_145 (by decide) ?_
                  exact ih41 v41_5 r68 x67 x78 f41_39_8 f41_39_9 H locs ls w70 (show 0 ≤ a1.toInt from r2) (show a1.toInt ≤ 9 from t3) (show 0 ≤ a2.toInt from r4) (show a2.toInt ≤ 9 from t5) (show 0 ≤ a3.toInt from r6) (show a3.toInt ≤ 99999 from t7) (show 0 ≤ a4.toInt from r8) (show 0 ≤ v41_5.toInt from r9) (show v41_5.toInt ≤ 102119 from t10) (show 0 ≤ r68.toInt by first | with_reducible assumption | omega) (show r68.toInt ≤ 9 by first | with_reducible assumption | omega) (show (-1) ≤ x67.toInt by first | with_reducible assumption | omega) (show x67.toInt ≤ 102128 by first | with_reducible assumption | omega) (show 0 ≤ x78.toInt by first | with_reducible assumption | omega) (show x78.toInt ≤ 2001 by first | with_reducible assumption | omega) (show 1 ≤ f41_39_8.toInt from r17) (show f41_39_8.toInt ≤ 10 from t18) (show 0 ≤ f41_39_9.toInt from r20) (show f41_39_9.toInt ≤ 12 from t21) (show (2001 - x78.toInt).toNat < n41 by first | exact tn_lt hm41 (by omega) (by omega) | omega) hw hT hF c75 c76 (lv_sub hl [5, 6, 7, 8, 9, 10, 1, 2, 0] rfl)
                · refine lv_aload_n hx hb dX4_streetOnWay_116 rfl (lv_at hl 2 rfl) ?_
                  refine tk_getA hC hK hw hT hinX4 kC_at155 (by decide) rfl 1 (by decide) (List.mem_cons_of_mem _ uw_5_23) rfl rfl dX4_streetOnWay_117 ?_
                  refine tk_getO hC hK hw hT hinX7 kC_at39 (by decide) rfl 1 (by decide) (List.mem_cons_of_mem _ uw_50_7) rfl rfl dX4_streetOnWay_120 ?_
                  refine lv_iload hx hb dX4_streetOnWay_123 (lv_at hl 1 rfl) ?_
                  refine tk_iald hC hK hw hT kC_at41 rfl rfl (show 0 ≤ r26.toInt by first | with_reducible assumption | omega) (show r26.toInt < 13 by first | with_reducible assumption | omega) dX4_streetOnWay_125 (fun x79 c80 rx79 tx79 => ?_)
                  refine lv_iadd hx hb dX4_streetOnWay_126 ?_
                  refine lv_topi (fun x81 ex81 => ?_)
                  have ex81 : x81.toInt = (-1 : Int) + x79.toInt := by rw [ex81]; exact wk_add (show (-2147483648) ≤ (-1 : Int) + x79.toInt by omega) (show (-1 : Int) + x79.toInt ≤ 2147483647 by omega)
                  refine lv_istore (lv' := [(7, .int x81), (10, .int 0), (9, .int r26), (0, .ref (ad 155)), (1, .int a1), (2, .int a2), (3, .int a3), (4, .int a4), (5, .int v41_5), (6, .int v41_6), (8, .int v41_8)]) hx hb dX4_streetOnWay_127 hl (by decide) rfl (fun ls hl => ?_)
                  refine lv_aload_n hx hb dX4_streetOnWay_129 rfl (lv_at hl 3 rfl) ?_
                  refine tk_getA hC hK hw hT hinX4 kC_at155 (by decide) rfl 1 (by decide) (List.mem_cons_of_mem _ uw_5_23) rfl rfl dX4_streetOnWay_130 ?_
                  refine lv_iload hx hb dX4_streetOnWay_133 (lv_at hl 2 rfl) ?_
                  refine lv_iload hx hb dX4_streetOnWay_135 (lv_at hl 1 rfl) ?_
                  refine tk_Vi hC hK hw hT hA hE hSR kC_at39 (by decide) rfl (k_X7_cornerAcross_2 l adK adV dC dI cy ad B hB0 (Int.le_trans hB1 (by decide)) qr s1   r26 (show 0 ≤ r26.toInt by first | with_reducible assumption | omega) (show r26.toInt ≤ 11 by first | with_reducible assumption | omega) w57 H.size hT ) (cwV 2 hC.2.2.2.2 uV_RX4_51 rfl rfl rfl (by decide +kernel) ⟨Nat.le_of_ble_eq_true rfl, Nat.le_of_ble_eq_true rfl⟩) rfl hl.1 rfl (Nat.le_of_ble_eq_true rfl) dX4_streetOnWay_137 (fun r82 w84 H locs hp83 hw => ?_)
                  obtain ⟨hT, k85, hg88⟩ := hp83
                  have hF := hF.tr k85 (by decide)
                  have c89 := k85.gi kC_at39 (by decide) c62
                  have c90 := k85.gi kC_at39 (by decide) c63
                  have c91 := k85.gi kC_at40 rfl c64
                  obtain ⟨g86, g87⟩ := hg88
                  refine lv_istore (lv' := [(6, .int r82), (7, .int x81), (10, .int 0), (9, .int r26), (0, .ref (ad 155)), (1, .int a1), (2, .int a2), (3, .int a3), (4, .int a4), (5, .int v41_5), (8, .int v41_8)]) hx hb dX4_streetOnWay_140 hl (by decide) rfl (fun ls hl => ?_)
                  obtain ⟨x92, ex92⟩ : ∃ y : Int32, y = v41_8 + Int32.ofInt 1 := ⟨_, rfl⟩
                  refine lv_iinc (v := x92) (lv' := [(8, .int x92), (6, .int r82), (7, .int x81), (10, .int 0), (9, .int r26), (0, .ref (ad 155)), (1, .int a1), (2, .int a2), (3, .int a3), (4, .int a4), (5, .int v41_5)]) hx hb dX4_streetOnWay_142 hl (k := 10) rfl ex92.symm (by decide) rfl (fun ls hl => ?_)
                  have ex92 : x92.toInt = v41_8.toInt + 1 := by rw [ex92]; exact wk_add (y := 1) (show -2147483648 ≤ v41_8.toInt + 1 by omega) (show v41_8.toInt + 1 ≤ 2147483647 by omega)
                  refine lv_goto (tgt := 41) hx hb dX4_streetOnWay_145 (by decide) ?_
                  exact ih41 v41_5 r82 x81 x92 f41_39_8 f41_39_9 H locs ls w84 (show 0 ≤ a1.toInt from r2) (show a1.toInt ≤ 9 from t3) (show 0 ≤ a2.toInt from r4) (show a2.toInt ≤ 9 from t5) (show 0 ≤ a3.toInt from r6) (show a3.toInt ≤ 99999 from t7) (show 0 ≤ a4.toInt from r8) (show 0 ≤ v41_5.toInt from r9) (show v41_5.toInt ≤ 102119 from t10) (show 0 ≤ r82.toInt by first | with_reducible assumption | omega) (show r82.toInt ≤ 9 by first | with_reducible assumption | omega) (show (-1) ≤ x81.toInt by first | with_reducible assumption | omega) (show x81.toInt ≤ 102128 by first | with_reducible assumption | omega) (show 0 ≤ x92.toInt by first | with_reducible assumption | omega) (show x92.toInt ≤ 2001 by first | with_reducible assumption | omega) (show 1 ≤ f41_39_8.toInt from r17) (show f41_39_8.toInt ≤ 10 from t18) (show 0 ≤ f41_39_9.toInt from r20) (show f41_39_9.toInt ≤ 12 from t21) (show (2001 - x92.toInt).toNat < n41 by first | exact tn_lt hm41 (by omega) (by omega) | omega) hw hT hF c89 c90 (lv_sub hl [5, 6, 7, 8, 9, 10, 1, 2, 0] rfl)
              · have c45 : v41_8.toInt = a4.toInt := wk_eq.mp c45
                refine lv_iload hx hb dX4_streetOnWay_85 (lv_at hl 0 rfl) ?_
                exact tk_iret hC hr hlocks hK ⟨hT, hF, (Or.inl ⟨(show 0 ≤ r26.toInt by first | with_reducible assumption | omega), (show r26.toInt ≤ 11 by first | with_reducible assumption | omega), (show a4.toInt ≤ 2000 by first | with_reducible assumption | omega), ⟨f41_39_8, c43, (show 1 ≤ f41_39_8.toInt from r17), (show f41_39_8.toInt ≤ 10 from t18)⟩, ⟨f41_39_9, c44, (show 1 ≤ f41_39_9.toInt by first | with_reducible assumption | omega), (show f41_39_9.toInt ≤ 12 from t21)⟩⟩)⟩ hw dX4_streetOnWay_87
            · have ex39 : x39.toInt = f41_39_9.toInt := by rw [← c44.symm.trans c40]
              refine lv_istore (lv' := [(9, .int r26), (0, .ref (ad 155)), (1, .int a1), (2, .int a2), (3, .int a3), (4, .int a4), (5, .int v41_5), (6, .int v41_6), (7, .int v41_7), (8, .int v41_8)]) hx hb dX4_streetOnWay_70 hl (by decide) rfl (fun ls hl => ?_)
              refine lv_iload hx hb dX4_streetOnWay_72 (lv_at hl 0 rfl) ?_
              refine lv_iconst (v := (-1)) hx hb dX4_streetOnWay_74 (by decide) ?_
              refine lv_icmp_eq (tgt := 85) hx hb dX4_streetOnWay_75 (by decide) (fun c => absurd c (fun h => absurd (show r26.toInt = (-1 : Int) from wk_eq.mp h) (by omega))) (fun _ => ?_)
              refine lv_iload hx hb dX4_streetOnWay_78 (lv_at hl 9 rfl) ?_
              refine lv_iload hx hb dX4_streetOnWay_80 (lv_at hl 5 rfl) ?_
              refine lv_icmp_ne (tgt := 88) hx hb dX4_streetOnWay_82 (by decide) (fun c93 => ?_) (fun c93 => ?_)
              · have c93 : ¬ v41_8.toInt = a4.toInt := wk_eqF c93
                refine lv_aload_n hx hb dX4_streetOnWay_88 rfl (lv_at hl 1 rfl) ?_
                refine tk_getA hC hK hw hT hinX4 kC_at155 (by decide) rfl 1 (by decide) (List.mem_cons_of_mem _ uw_5_23) rfl rfl dX4_streetOnWay_89 ?_
                refine lv_iload hx hb dX4_streetOnWay_92 (lv_at hl 0 rfl) ?_
                refine lv_iload hx hb dX4_streetOnWay_94 (lv_at hl 7 rfl) ?_
                refine tk_Vi hC hK hw hT hA hE hSR kC_at39 (by decide) rfl (k_X7_sideOf_7 l adK adV dC dI cy ad B hB0 (Int.le_trans hB1 (by decide)) qr s1   r26 (show 0 ≤ r26.toInt by first | with_reducible assumption | omega) (show r26.toInt ≤ 11 by first | with_reducible assumption | omega) v41_6 (show 0 ≤ v41_6.toInt from r11) (show v41_6.toInt ≤ 9 from t12) w28 H.size hT c41) (cwV 2 hC.2.2.2.2 uV_RX4_47 rfl rfl rfl (by decide +kernel) ⟨Nat.le_of_ble_eq_true rfl, Nat.le_of_ble_eq_true rfl⟩) rfl hl.1 rfl (Nat.le_of_ble_eq_true rfl) dX4_streetOnWay_96 (fun r94 w96 H locs hp95 hw => ?_)
                obtain ⟨hT, k97, hg101⟩ := hp95
                have hF := hF.tr k97 (by decide)
                have c102 := k97.gi kC_at39 (by decide) c43
                have c103 := k97.gi kC_at39 (by decide) c44
                have c104 := k97.gi kC_at40 rfl c41
                rcases hg101 with ⟨rfl, c98, c99⟩ | ⟨rfl, c100⟩
                · refine lv_istore (lv' := [(10, .int 0), (9, .int r26), (0, .ref (ad 155)), (1, .int a1), (2, .int a2), (3, .int a3), (4, .int a4), (5, .int v41_5), (6, .int v41_6), (7, .int v41_7), (8, .int v41_8)]) hx hb dX4_streetOnWay_99 hl (by decide) rfl (fun ls hl => ?_)
                  refine lv_aload_n hx hb dX4_streetOnWay_101 rfl (lv_at hl 2 rfl) ?_
                  refine tk_getA hC hK hw hT hinX4 kC_at155 (by decide) rfl 1 (by decide) (List.mem_cons_of_mem _ uw_5_23) rfl rfl dX4_streetOnWay_102 ?_
                  refine lv_iload hx hb dX4_streetOnWay_105 (lv_at hl 1 rfl) ?_
                  refine lv_iload hx hb dX4_streetOnWay_107 (lv_at hl 0 rfl) ?_
                  refine lv_iload hx hb dX4_streetOnWay_109 (lv_at hl 9 rfl) ?_
                  refine lv_iload hx hb dX4_streetOnWay_111 (lv_at hl 7 rfl) ?_
                  refine tk_Vi hC hK hw hT hA hE hSR kC_at39 (by decide) rfl (k_X7_firstOpen_7 l adK adV dC dI cy ad B hB0 (Int.le_trans hB1 (by decide)) qr s1   r26 (show 0 ≤ r26.toInt by first | with_reducible assumption | omega) (show r26.toInt ≤ 11 by first | with_reducible assumption | omega) v41_7 (show (-1) ≤ v41_7.toInt from r13) (show v41_7.toInt ≤ 102119 by first | with_reducible assumption | omega) v41_5 (show 0 ≤ v41_5.toInt from r9) (show v41_5.toInt ≤ 102119 from t10) w96 H.size hT ) (cwV 4 hC.2.2.2.2 uV_RX4_57 rfl rfl rfl (by decide +kernel) ⟨Nat.le_of_ble_eq_true rfl, Nat.le_of_ble_eq_true rfl⟩) rfl hl.1 rfl (Nat.le_of_ble_eq_true rfl) dX4_streetOnWay_113 (fun r105 w107 H locs hp106 hw => ?_)
                  obtain ⟨hT, k108, hg111⟩ := hp106
                  have hF := hF.tr k108 (by decide)
                  have c112 := k108.gi kC_at39 (by decide) c102
                  have c113 := k108.gi kC_at39 (by decide) c103
                  have c114 := k108.gi kC_at40 rfl c104
                  have c115 := k108.gi kC_at40 rfl c98
                  rcases hg111 with ⟨g109, g110⟩ | rfl
                  · refine lv_aload_n hx hb dX4_streetOnWay_116 rfl (lv_at hl 2 rfl) ?_
                    refine tk_getA hC hK hw hT hinX4 kC_at155 (by decide) rfl 1 (by decide) (List.mem_cons_of_mem _ uw_5_23) rfl rfl dX4_streetOnWay_117 ?_
                    refine tk_getO hC hK hw hT hinX7 kC_at39 (by decide) rfl 1 (by decide) (List.mem_cons_of_mem _ uw_50_7) rfl rfl dX4_streetOnWay_120 ?_
                    refine lv_iload hx hb dX4_streetOnWay_123 (lv_at hl 1 rfl) ?_
                    refine tk_iald hC hK hw hT kC_at41 rfl rfl (show 0 ≤ r26.toInt by first | with_reducible assumption | omega) (show r26.toInt < 13 by first | with_reducible assumption | omega) dX4_streetOnWay_125 (fun x116 c117 rx116 tx116 => ?_)
                    refine lv_iadd hx hb dX4_streetOnWay_126 ?_
                    refine lv_topi (fun x118 ex118 => ?_)
                    have ex118 : x118.toInt = r105.toInt + x116.toInt := by rw [ex118]; exact wk_add (show (-2147483648) ≤ r105.toInt + x116.toInt by omega) (show r105.toInt + x116.toInt ≤ 2147483647 by omega)
                    refine lv_istore (lv' := [(7, .int x118), (10, .int 0), (9, .int r26), (0, .ref (ad 155)), (1, .int a1), (2, .int a2), (3, .int a3), (4, .int a4), (5, .int v41_5), (6, .int v41_6), (8, .int v41_8)]) hx hb dX4_streetOnWay_127 hl (by decide) rfl (fun ls hl => ?_)
                    refine lv_aload_n hx hb dX4_streetOnWay_129 rfl (lv_at hl 3 rfl) ?_
                    refine tk_getA hC hK hw hT hinX4 kC_at155 (by decide) rfl 1 (by decide) (List.mem_cons_of_mem _ uw_5_23) rfl rfl dX4_streetOnWay_130 ?_
                    refine lv_iload hx hb dX4_streetOnWay_133 (lv_at hl 2 rfl) ?_
                    refine lv_iload hx hb dX4_streetOnWay_135 (lv_at hl 1 rfl) ?_
                    refine tk_Vi hC hK hw hT hA hE hSR kC_at39 (by decide) rfl (k_X7_cornerAcross_2 l adK adV dC dI cy ad B hB0 (Int.le_trans hB1 (by decide)) qr s1   r26 (show 0 ≤ r26.toInt by first | with_reducible assumption | omega) (show r26.toInt ≤ 11 by first | with_reducible assumption | omega) w107 H.size hT ) (cwV 2 hC.2.2.2.2 uV_RX4_51 rfl rfl rfl (by decide +kernel) ⟨Nat.le_of_ble_eq_true rfl, Nat.le_of_ble_eq_true rfl⟩) rfl hl.1 rfl (Nat.le_of_ble_eq_true rfl) dX4_streetOnWay_137 (fun r119 w121 H locs hp120 hw => ?_)
                    obtain ⟨hT, k122, hg125⟩ := hp120
                    have hF := hF.tr k122 (by decide)
                    have c126 := k122.gi kC_at39 (by decide) c112
                    have c127 := k122.gi kC_at39 (by decide) c113
                    have c128 := k122.gi kC_at40 rfl c114
                    have c129 := k122.gi kC_at40 rfl c115
                    obtain ⟨g123, g124⟩ := hg125
                    refine lv_istore (lv' := [(6, .int r119), (7, .int x118), (10, .int 0), (9, .int r26), (0, .ref (ad 155)), (1, .int a1), (2, .int a2), (3, .int a3), (4, .int a4), (5, .int v41_5), (8, .int v41_8)]) hx hb dX4_streetOnWay_140 hl (by decide) rfl (fun ls hl => ?_)
                    obtain ⟨x130, ex130⟩ : ∃ y : Int32, y = v41_8 + Int32.ofInt 1 := ⟨_, rfl⟩
                    refine lv_iinc (v := x130) (lv' := [(8, .int x130), (6, .int r119), (7, .int x118), (10, .int 0), (9, .int r26), (0, .ref (ad 155)), (1, .int a1), (2, .int a2), (3, .int a3), (4, .int a4), (5, .int v41_5)]) hx hb dX4_streetOnWay_142 hl (k := 10) rfl ex130.symm (by decide) rfl (fun ls hl => ?_)
                    have ex130 : x130.toInt = v41_8.toInt + 1 := by rw [ex130]; exact wk_add (y := 1) (show -2147483648 ≤ v41_8.toInt + 1 by omega) (show v41_8.toInt + 1 ≤ 2147483647 by omega)
                    refine lv_goto (tgt := 41) hx hb dX4_streetOnWay_145 (by decide) ?_
                    exact ih41 v41_5 r119 x118 x130 f41_39_8 f41_39_9 H locs ls w121 (show 0 ≤ a1.toInt from r2) (show a1.toInt ≤ 9 from t3) (show 0 ≤ a2.toInt from r4) (show a2.toInt ≤ 9 from t5) (show 0 ≤ a3.toInt from r6) (show a3.toInt ≤ 99999 from t7) (show 0 ≤ a4.toInt from r8) (show 0 ≤ v41_5.toInt from r9) (show v41_5.toInt ≤ 102119 from t10) (show 0 ≤ r119.toInt by first | with_reducible assumption | omega) (show r119.toInt ≤ 9 by first | with_reducible assumption | omega) (show (-1) ≤ x118.toInt by first | with_reducible assumption | omega) (show x118.toInt ≤ 102128 by first | with_reducible assumption | omega) (show 0 ≤ x130.toInt by first | with_reducible assumption | omega) (show x130.toInt ≤ 2001 by first | with_reducible assumption | omega) (show 1 ≤ f41_39_8.toInt from r17) (show f41_39_8.toInt ≤ 10 from t18) (show 0 ≤ f41_39_9.toInt from r20) (show f41_39_9.toInt ≤ 12 from t21) (show (2001 - x130.toInt).toNat < n41 by first | exact tn_lt hm41 (by omega) (by omega) | omega) hw hT hF c126 c127 (lv_sub hl [5, 6, 7, 8, 9, 10, 1, 2, 0] rfl)
                  · refine lv_aload_n hx hb dX4_streetOnWay_116 rfl (lv_at hl 2 rfl) ?_
                    refine tk_getA hC hK hw hT hinX4 kC_at155 (by decide) rfl 1 (by decide) (List.mem_cons_of_mem _ uw_5_23) rfl rfl dX4_streetOnWay_117 ?_
                    refine tk_getO hC hK hw hT hinX7 kC_at39 (by decide) rfl 1 (by decide) (List.mem_cons_of_mem _ uw_50_7) rfl rfl dX4_streetOnWay_120 ?_
                    refine lv_iload hx hb dX4_streetOnWay_123 (lv_at hl 1 rfl) ?_
                    refine tk_iald hC hK hw hT kC_at41 rfl rfl (show 0 ≤ r26.toInt by first | with_reducible assumption | omega) (show r26.toInt < 13 by first | with_reducible assumption | omega) dX4_streetOnWay_125 (fun x131 c132 rx131 tx131 => ?_)
                    refine lv_iadd hx hb dX4_streetOnWay_126 ?_
                    refine lv_topi (fun x133 ex133 => ?_)
                    have ex133 : x133.toInt = (-1 : Int) + x131.toInt := by rw [ex133]; exact wk_add (show (-2147483648) ≤ (-1 : Int) + x131.toInt by omega) (show (-1 : Int) + x131.toInt ≤ 2147483647 by omega)
                    refine lv_istore (lv' := [(7, .int x133), (10, .int 0), (9, .int r26), (0, .ref (ad 155)), (1, .int a1), (2, .int a2), (3, .int a3), (4, .int a4), (5, .int v41_5), (6, .int v41_6), (8, .int v41_8)]) hx hb dX4_streetOnWay_127 hl (by decide) rfl (fun ls hl => ?_)
                    refine lv_aload_n hx hb dX4_streetOnWay_129 rfl (lv_at hl 3 rfl) ?_
                    refine tk_getA hC hK hw hT hinX4 kC_at155 (by decide) rfl 1 (by decide) (List.mem_cons_of_mem _ uw_5_23) rfl rfl dX4_streetOnWay_130 ?_
                    refine lv_iload hx hb dX4_streetOnWay_133 (lv_at hl 2 rfl) ?_
                    refine lv_iload hx hb dX4_streetOnWay_135 (lv_at hl 1 rfl) ?_
                    refine tk_Vi hC hK hw hT hA hE hSR kC_at39 (by decide) rfl (k_X7_cornerAcross_2 l adK adV dC dI cy ad B hB0 (Int.le_trans hB1 (by decide)) qr s1   r26 (show 0 ≤ r26.toInt by first | with_reducible assumption | omega) (show r26.toInt ≤ 11 by first | with_reducible assumption | omega) w107 H.size hT ) (cwV 2 hC.2.2.2.2 uV_RX4_51 rfl rfl rfl (by decide +kernel) ⟨Nat.le_of_ble_eq_true rfl, Nat.le_of_ble_eq_true rfl⟩) rfl hl.1 rfl (Nat.le_of_ble_eq_true rfl) dX4_streetOnWay_137 (fun r134 w136 H locs hp135 hw => ?_)
                    obtain ⟨hT, k137, hg140⟩ := hp135
                    have hF := hF.tr k137 (by decide)
                    have c141 := k137.gi kC_at39 (by decide) c112
                    have c142 := k137.gi kC_at39 (by decide) c113
                    have c143 := k137.gi kC_at40 rfl c114
                    have c144 := k137.gi kC_at40 rfl c115
                    obtain ⟨g138, g139⟩ := hg140
                    refine lv_istore (lv' := [(6, .int r134), (7, .int x133), (10, .int 0), (9, .int r26), (0, .ref (ad 155)), (1, .int a1), (2, .int a2), (3, .int a3), (4, .int a4), (5, .int v41_5), (8, .int v41_8)]) hx hb dX4_streetOnWay_140 hl (by decide) rfl (fun ls hl => ?_)
                    obtain ⟨x145, ex145⟩ : ∃ y : Int32, y = v41_8 + Int32.ofInt 1 := ⟨_, rfl⟩
                    refine lv_iinc (v := x145) (lv' := [(8, .int x145), (6, .int r134), (7, .int x133), (10, .int 0), (9, .int r26), (0, .ref (ad 155)), (1, .int a1), (2, .int a2), (3, .int a3), (4, .int a4), (5, .int v41_5)]) hx hb dX4_streetOnWay_142 hl (k := 10) rfl ex145.symm (by decide) rfl (fun ls hl => ?_)
                    have ex145 : x145.toInt = v41_8.toInt + 1 := by rw [ex145]; exact wk_add (y := 1) (show -2147483648 ≤ v41_8.toInt + 1 by omega) (show v41_8.toInt + 1 ≤ 2147483647 by omega)
                    refine lv_goto (tgt := 41) hx hb dX4_streetOnWay_145 (by decide) ?_
                    exact ih41 v41_5 r134 x133 x145 f41_39_8 f41_39_9 H locs ls w136 (show 0 ≤ a1.toInt from r2) (show a1.toInt ≤ 9 from t3) (show 0 ≤ a2.toInt from r4) (show a2.toInt ≤ 9 from t5) (show 0 ≤ a3.toInt from r6) (show a3.toInt ≤ 99999 from t7) (show 0 ≤ a4.toInt from r8) (show 0 ≤ v41_5.toInt from r9) (show v41_5.toInt ≤ 102119 from t10) (show 0 ≤ r134.toInt by first | with_reducible assumption | omega) (show r134.toInt ≤ 9 by first | with_reducible assumption | omega) (show (-1) ≤ x133.toInt by first | with_reducible assumption | omega) (show x133.toInt ≤ 102128 by first | with_reducible assumption | omega) (show 0 ≤ x145.toInt by first | with_reducible assumption | omega) (show x145.toInt ≤ 2001 by first | with_reducible assumption | omega) (show 1 ≤ f41_39_8.toInt from r17) (show f41_39_8.toInt ≤ 10 from t18) (show 0 ≤ f41_39_9.toInt from r20) (show f41_39_9.toInt ≤ 12 from t21) (show (2001 - x145.toInt).toNat < n41 by first | exact tn_lt hm41 (by omega) (by omega) | omega) hw hT hF c141 c142 (lv_sub hl [5, 6, 7, 8, 9, 10, 1, 2, 0] rfl)
                · refine lv_istore (lv' := [(10, .int 1), (9, .int r26), (0, .ref (ad 155)), (1, .int a1), (2, .int a2), (3, .int a3), (4, .int a4), (5, .int v41_5), (6, .int v41_6), (7, .int v41_7), (8, .int v41_8)]) hx hb dX4_streetOnWay_99 hl (by decide) rfl (fun ls hl => ?_)
                  refine lv_aload_n hx hb dX4_streetOnWay_101 rfl (lv_at hl 2 rfl) ?_
                  refine tk_getA hC hK hw hT hinX4 kC_at155 (by decide) rfl 1 (by decide) (List.mem_cons_of_mem _ uw_5_23) rfl rfl dX4_streetOnWay_102 ?_
                  refine lv_iload hx hb dX4_streetOnWay_105 (lv_at hl 1 rfl) ?_
                  refine lv_iload hx hb dX4_streetOnWay_107 (lv_at hl 0 rfl) ?_
                  refine lv_iload hx hb dX4_streetOnWay_109 (lv_at hl 9 rfl) ?_
                  refine lv_iload hx hb dX4_streetOnWay_111 (lv_at hl 7 rfl) ?_
                  refine tk_Vi hC hK hw hT hA hE hSR kC_at39 (by decide) rfl (k_X7_firstOpen_8 l adK adV dC dI cy ad B hB0 (Int.le_trans hB1 (by decide)) qr s1   r26 (show 0 ≤ r26.toInt by first | with_reducible assumption | omega) (show r26.toInt ≤ 11 by first | with_reducible assumption | omega) v41_7 (show (-1) ≤ v41_7.toInt from r13) (show v41_7.toInt ≤ 102119 by first | with_reducible assumption | omega) v41_5 (show 0 ≤ v41_5.toInt from r9) (show v41_5.toInt ≤ 102119 from t10) w96 H.size hT ) (cwV 4 hC.2.2.2.2 uV_RX4_57 rfl rfl rfl (by decide +kernel) ⟨Nat.le_of_ble_eq_true rfl, Nat.le_of_ble_eq_true rfl⟩) rfl hl.1 rfl (Nat.le_of_ble_eq_true rfl) dX4_streetOnWay_113 (fun r146 w148 H locs hp147 hw => ?_)
                  obtain ⟨hT, k149, hg152⟩ := hp147
                  have hF := hF.tr k149 (by decide)
                  have c153 := k149.gi kC_at39 (by decide) c102
                  have c154 := k149.gi kC_at39 (by decide) c103
                  have c155 := k149.gi kC_at40 rfl c104
                  rcases hg152 with ⟨g150, g151⟩ | rfl
                  · refine lv_aload_n hx hb dX4_streetOnWay_116 rfl (lv_at hl 2 rfl) ?_
                    refine tk_getA hC hK hw hT hinX4 kC_at155 (by decide) rfl 1 (by decide) (List.mem_cons_of_mem _ uw_5_23) rfl rfl dX4_streetOnWay_117 ?_
                    refine tk_getO hC hK hw hT hinX7 kC_at39 (by decide) rfl 1 (by decide) (List.mem_cons_of_mem _ uw_50_7) rfl rfl dX4_streetOnWay_120 ?_
                    refine lv_iload hx hb dX4_streetOnWay_123 (lv_at hl 1 rfl) ?_
                    refine tk_iald hC hK hw hT kC_at41 rfl rfl (show 0 ≤ r26.toInt by first | with_reducible assumption | omega) (show r26.toInt < 13 by first | with_reducible assumption | omega) dX4_streetOnWay_125 (fun x156 c157 rx156 tx156 => ?_)
                    refine lv_iadd hx hb dX4_streetOnWay_126 ?_
                    refine lv_topi (fun x158 ex158 => ?_)
                    have ex158 : x158.toInt = r146.toInt + x156.toInt := by rw [ex158]; exact wk_add (show (-2147483648) ≤ r146.toInt + x156.toInt by omega) (show r146.toInt + x156.toInt ≤ 2147483647 by omega)
                    refine lv_istore (lv' := [(7, .int x158), (10, .int 1), (9, .int r26), (0, .ref (ad 155)), (1, .int a1), (2, .int a2), (3, .int a3), (4, .int a4), (5, .int v41_5), (6, .int v41_6), (8, .int v41_8)]) hx hb dX4_streetOnWay_127 hl (by decide) rfl (fun ls hl => ?_)
                    refine lv_aload_n hx hb dX4_streetOnWay_129 rfl (lv_at hl 3 rfl) ?_
                    refine tk_getA hC hK hw hT hinX4 kC_at155 (by decide) rfl 1 (by decide) (List.mem_cons_of_mem _ uw_5_23) rfl rfl dX4_streetOnWay_130 ?_
                    refine lv_iload hx hb dX4_streetOnWay_133 (lv_at hl 2 rfl) ?_
                    refine lv_iload hx hb dX4_streetOnWay_135 (lv_at hl 1 rfl) ?_
                    refine tk_Vi hC hK hw hT hA hE hSR kC_at39 (by decide) rfl (k_X7_cornerAcross_3 l adK adV dC dI cy ad B hB0 (Int.le_trans hB1 (by decide)) qr s1   r26 (show 0 ≤ r26.toInt by first | with_reducible assumption | omega) (show r26.toInt ≤ 11 by first | with_reducible assumption | omega) w148 H.size hT ) (cwV 2 hC.2.2.2.2 uV_RX4_51 rfl rfl rfl (by decide +kernel) ⟨Nat.le_of_ble_eq_true rfl, Nat.le_of_ble_eq_true rfl⟩) rfl hl.1 rfl (Nat.le_of_ble_eq_true rfl) dX4_streetOnWay_137 (fun r159 w161 H locs hp160 hw => ?_)
                    obtain ⟨hT, k162, hg165⟩ := hp160
                    have hF := hF.tr k162 (by decide)
                    have c166 := k162.gi kC_at39 (by decide) c153
                    have c167 := k162.gi kC_at39 (by decide) c154
                    have c168 := k162.gi kC_at40 rfl c155
                    obtain ⟨g163, g164⟩ := hg165
                    refine lv_istore (lv' := [(6, .int r159), (7, .int x158), (10, .int 1), (9, .int r26), (0, .ref (ad 155)), (1, .int a1), (2, .int a2), (3, .int a3), (4, .int a4), (5, .int v41_5), (8, .int v41_8)]) hx hb dX4_streetOnWay_140 hl (by decide) rfl (fun ls hl => ?_)
                    obtain ⟨x169, ex169⟩ : ∃ y : Int32, y = v41_8 + Int32.ofInt 1 := ⟨_, rfl⟩
                    refine lv_iinc (v := x169) (lv' := [(8, .int x169), (6, .int r159), (7, .int x158), (10, .int 1), (9, .int r26), (0, .ref (ad 155)), (1, .int a1), (2, .int a2), (3, .int a3), (4, .int a4), (5, .int v41_5)]) hx hb dX4_streetOnWay_142 hl (k := 10) rfl ex169.symm (by decide) rfl (fun ls hl => ?_)
                    have ex169 : x169.toInt = v41_8.toInt + 1 := by rw [ex169]; exact wk_add (y := 1) (show -2147483648 ≤ v41_8.toInt + 1 by omega) (show v41_8.toInt + 1 ≤ 2147483647 by omega)
                    refine lv_goto (tgt := 41) hx hb dX4_streetOnWay_145 (by decide) ?_
                    exact ih41 v41_5 r159 x158 x169 f41_39_8 f41_39_9 H locs ls w161 (show 0 ≤ a1.toInt from r2) (show a1.toInt ≤ 9 from t3) (show 0 ≤ a2.toInt from r4) (show a2.toInt ≤ 9 from t5) (show 0 ≤ a3.toInt from r6) (show a3.toInt ≤ 99999 from t7) (show 0 ≤ a4.toInt from r8) (show 0 ≤ v41_5.toInt from r9) (show v41_5.toInt ≤ 102119 from t10) (show 0 ≤ r159.toInt by first | with_reducible assumption | omega) (show r159.toInt ≤ 9 by first | with_reducible assumption | omega) (show (-1) ≤ x158.toInt by first | with_reducible assumption | omega) (show x158.toInt ≤ 102128 by first | with_reducible assumption | omega) (show 0 ≤ x169.toInt by first | with_reducible assumption | omega) (show x169.toInt ≤ 2001 by first | with_reducible assumption | omega) (show 1 ≤ f41_39_8.toInt from r17) (show f41_39_8.toInt ≤ 10 from t18) (show 0 ≤ f41_39_9.toInt from r20) (show f41_39_9.toInt ≤ 12 from t21) (show (2001 - x169.toInt).toNat < n41 by first | exact tn_lt hm41 (by omega) (by omega) | omega) hw hT hF c166 c167 (lv_sub hl [5, 6, 7, 8, 9, 10, 1, 2, 0] rfl)
                  · refine lv_aload_n hx hb dX4_streetOnWay_116 rfl (lv_at hl 2 rfl) ?_
                    refine tk_getA hC hK hw hT hinX4 kC_at155 (by decide) rfl 1 (by decide) (List.mem_cons_of_mem _ uw_5_23) rfl rfl dX4_streetOnWay_117 ?_
                    refine tk_getO hC hK hw hT hinX7 kC_at39 (by decide) rfl 1 (by decide) (List.mem_cons_of_mem _ uw_50_7) rfl rfl dX4_streetOnWay_120 ?_
                    refine lv_iload hx hb dX4_streetOnWay_123 (lv_at hl 1 rfl) ?_
                    refine tk_iald hC hK hw hT kC_at41 rfl rfl (show 0 ≤ r26.toInt by first | with_reducible assumption | omega) (show r26.toInt < 13 by first | with_reducible assumption | omega) dX4_streetOnWay_125 (fun x170 c171 rx170 tx170 => ?_)
                    refine lv_iadd hx hb dX4_streetOnWay_126 ?_
                    refine lv_topi (fun x172 ex172 => ?_)
                    have ex172 : x172.toInt = (-1 : Int) + x170.toInt := by rw [ex172]; exact wk_add (show (-2147483648) ≤ (-1 : Int) + x170.toInt by omega) (show (-1 : Int) + x170.toInt ≤ 2147483647 by omega)
                    refine lv_istore (lv' := [(7, .int x172), (10, .int 1), (9, .int r26), (0, .ref (ad 155)), (1, .int a1), (2, .int a2), (3, .int a3), (4, .int a4), (5, .int v41_5), (6, .int v41_6), (8, .int v41_8)]) hx hb dX4_streetOnWay_127 hl (by decide) rfl (fun ls hl => ?_)
                    refine lv_aload_n hx hb dX4_streetOnWay_129 rfl (lv_at hl 3 rfl) ?_
                    refine tk_getA hC hK hw hT hinX4 kC_at155 (by decide) rfl 1 (by decide) (List.mem_cons_of_mem _ uw_5_23) rfl rfl dX4_streetOnWay_130 ?_
                    refine lv_iload hx hb dX4_streetOnWay_133 (lv_at hl 2 rfl) ?_
                    refine lv_iload hx hb dX4_streetOnWay_135 (lv_at hl 1 rfl) ?_
                    refine tk_Vi hC hK hw hT hA hE hSR kC_at39 (by decide) rfl (k_X7_cornerAcross_3 l adK adV dC dI cy ad B hB0 (Int.le_trans hB1 (by decide)) qr s1   r26 (show 0 ≤ r26.toInt by first | with_reducible assumption | omega) (show r26.toInt ≤ 11 by first | with_reducible assumption | omega) w148 H.size hT ) (cwV 2 hC.2.2.2.2 uV_RX4_51 rfl rfl rfl (by decide +kernel) ⟨Nat.le_of_ble_eq_true rfl, Nat.le_of_ble_eq_true rfl⟩) rfl hl.1 rfl (Nat.le_of_ble_eq_true rfl) dX4_streetOnWay_137 (fun r173 w175 H locs hp174 hw => ?_)
                    obtain ⟨hT, k176, hg179⟩ := hp174
                    have hF := hF.tr k176 (by decide)
                    have c180 := k176.gi kC_at39 (by decide) c153
                    have c181 := k176.gi kC_at39 (by decide) c154
                    have c182 := k176.gi kC_at40 rfl c155
                    obtain ⟨g177, g178⟩ := hg179
                    refine lv_istore (lv' := [(6, .int r173), (7, .int x172), (10, .int 1), (9, .int r26), (0, .ref (ad 155)), (1, .int a1), (2, .int a2), (3, .int a3), (4, .int a4), (5, .int v41_5), (8, .int v41_8)]) hx hb dX4_streetOnWay_140 hl (by decide) rfl (fun ls hl => ?_)
                    obtain ⟨x183, ex183⟩ : ∃ y : Int32, y = v41_8 + Int32.ofInt 1 := ⟨_, rfl⟩
                    refine lv_iinc (v := x183) (lv' := [(8, .int x183), (6, .int r173), (7, .int x172), (10, .int 1), (9, .int r26), (0, .ref (ad 155)), (1, .int a1), (2, .int a2), (3, .int a3), (4, .int a4), (5, .int v41_5)]) hx hb dX4_streetOnWay_142 hl (k := 10) rfl ex183.symm (by decide) rfl (fun ls hl => ?_)
                    have ex183 : x183.toInt = v41_8.toInt + 1 := by rw [ex183]; exact wk_add (y := 1) (show -2147483648 ≤ v41_8.toInt + 1 by omega) (show v41_8.toInt + 1 ≤ 2147483647 by omega)
                    refine lv_goto (tgt := 41) hx hb dX4_streetOnWay_145 (by decide) ?_
                    exact ih41 v41_5 r173 x172 x183 f41_39_8 f41_39_9 H locs ls w175 (show 0 ≤ a1.toInt from r2) (show a1.toInt ≤ 9 from t3) (show 0 ≤ a2.toInt from r4) (show a2.toInt ≤ 9 from t5) (show 0 ≤ a3.toInt from r6) (show a3.toInt ≤ 99999 from t7) (show 0 ≤ a4.toInt from r8) (show 0 ≤ v41_5.toInt from r9) (show v41_5.toInt ≤ 102119 from t10) (show 0 ≤ r173.toInt by first | with_reducible assumption | omega) (show r173.toInt ≤ 9 by first | with_reducible assumption | omega) (show (-1) ≤ x172.toInt by first | with_reducible assumption | omega) (show x172.toInt ≤ 102128 by first | with_reducible assumption | omega) (show 0 ≤ x183.toInt by first | with_reducible assumption | omega) (show x183.toInt ≤ 2001 by first | with_reducible assumption | omega) (show 1 ≤ f41_39_8.toInt from r17) (show f41_39_8.toInt ≤ 10 from t18) (show 0 ≤ f41_39_9.toInt from r20) (show f41_39_9.toInt ≤ 12 from t21) (show (2001 - x183.toInt).toNat < n41 by first | exact tn_lt hm41 (by omega) (by omega) | omega) hw hT hF c180 c181 (lv_sub hl [5, 6, 7, 8, 9, 10, 1, 2, 0] rfl)
              · have c93 : v41_8.toInt = a4.toInt := wk_eq.mp c93
                refine lv_iload hx hb dX4_streetOnWay_85 (lv_at hl 0 rfl) ?_
                exact tk_iret hC hr hlocks hK ⟨hT, hF, (Or.inl ⟨(show 0 ≤ r26.toInt by first | with_reducible assumption | omega), (show r26.toInt ≤ 11 by first | with_reducible assumption | omega), (show a4.toInt ≤ 2000 by first | with_reducible assumption | omega), ⟨f41_39_8, c43, (show 1 ≤ f41_39_8.toInt from r17), (show f41_39_8.toInt ≤ 10 from t18)⟩, ⟨f41_39_9, c44, (show 1 ≤ f41_39_9.toInt by first | with_reducible assumption | omega), (show f41_39_9.toInt ≤ 12 from t21)⟩⟩)⟩ hw dX4_streetOnWay_87
            · refine lv_istore (lv' := [(9, .int (-1)), (0, .ref (ad 155)), (1, .int a1), (2, .int a2), (3, .int a3), (4, .int a4), (5, .int v41_5), (6, .int v41_6), (7, .int v41_7), (8, .int v41_8)]) hx hb dX4_streetOnWay_70 hl (by decide) rfl (fun ls hl => ?_)
              refine lv_iload hx hb dX4_streetOnWay_72 (lv_at hl 0 rfl) ?_
              refine lv_iconst (v := (-1)) hx hb dX4_streetOnWay_74 (by decide) ?_
              refine lv_icmp_eq (tgt := 85) hx hb dX4_streetOnWay_75 (by decide) (fun _ => ?_) (fun c => absurd (by decide) c)
              refine lv_iload hx hb dX4_streetOnWay_85 (lv_at hl 0 rfl) ?_
              exact tk_iret hC hr hlocks hK ⟨hT, hF, (Or.inr rfl)⟩ hw dX4_streetOnWay_87
  refine lv_aload_n hx hb dX4_streetOnWay_0 rfl (lv_at hl 0 rfl) ?_
  refine lv_aload_n hx hb dX4_streetOnWay_1 rfl (lv_at hl 0 rfl) ?_
  refine tk_getA hC hK hw hT hinX4 kC_at155 (by decide) rfl 1 (by decide) (List.mem_cons_of_mem _ uw_5_23) rfl rfl dX4_streetOnWay_2 ?_
  refine tk_geti hC hK hw hT hinX7 kC_at39 (by decide) rfl 9 (by decide) (List.mem_cons_of_mem _ uw_51_18) rfl rfl dX4_streetOnWay_5 (fun x184 c185 rx184 tx184 => ?_)
  refine lv_iload_n hx hb dX4_streetOnWay_8 rfl (lv_at hl 1 rfl) ?_
  refine lv_iload_n hx hb dX4_streetOnWay_9 rfl (lv_at hl 2 rfl) ?_
  refine lv_iload_n hx hb dX4_streetOnWay_10 rfl (lv_at hl 3 rfl) ?_
  refine tk_Vi hC hK hw hT hA hE hSR kC_at155 (by decide) rfl (k_X4_firstArrival_1 l adK adV dC dI cy ad B hB0 (Int.le_trans hB1 (by decide)) qr s1   x184 (show 0 ≤ x184.toInt from rx184) (show x184.toInt ≤ 12 from tx184) a1 (show 0 ≤ a1.toInt from ra1) (show a1.toInt ≤ 9 from ta1) a2 (show 0 ≤ a2.toInt from ra2) (show a2.toInt ≤ 9 from ta2) a3 (show 0 ≤ a3.toInt from ra3) (show a3.toInt ≤ 99999 from ta3) w0 s.heap.size hT ) (cwV 4 hC.2.2.2.2 uV_RX4_64 rfl rfl rfl (by decide +kernel) ⟨Nat.le_of_ble_eq_true rfl, Nat.le_of_ble_eq_true rfl⟩) rfl hl.1 rfl (Nat.le_of_ble_eq_true rfl) dX4_streetOnWay_11 (fun r186 w188 H locs hp187 hw => ?_)
  obtain ⟨hT, k189, hg194⟩ := hp187
  have hF := hF.tr k189 (by decide)
  have c195 := k189.gi kC_at39 (by decide) c185
  rcases hg194 with ⟨g190, g191, ⟨x192, c193, rx192, tx192⟩⟩ | rfl
  · refine lv_istore (lv' := [(5, .int r186), (0, .ref (ad 155)), (1, .int a1), (2, .int a2), (3, .int a3), (4, .int a4)]) hx hb dX4_streetOnWay_14 hl (by decide) rfl (fun ls hl => ?_)
    refine lv_iload hx hb dX4_streetOnWay_16 (lv_at hl 0 rfl) ?_
    refine lv_iconst (v := (-1)) hx hb dX4_streetOnWay_18 (by decide) ?_
    refine lv_icmp_ne (tgt := 24) hx hb dX4_streetOnWay_19 (by decide) (fun c196 => ?_) (fun c196 => ?_)
    · have c196 : ¬ r186.toInt = (-1 : Int) := wk_eqF c196
      refine lv_aload_n hx hb dX4_streetOnWay_24 rfl (lv_at hl 1 rfl) ?_
      refine lv_iload_n hx hb dX4_streetOnWay_25 rfl (lv_at hl 3 rfl) ?_
      refine lv_iload_n hx hb dX4_streetOnWay_26 rfl (lv_at hl 4 rfl) ?_
      refine lv_iload hx hb dX4_streetOnWay_27 (lv_at hl 0 rfl) ?_
      refine tk_Vv hC hK hw hT hA hE hSR kC_at155 (by decide) rfl (k_X4_findLatest_1 l adK adV dC dI cy ad B hB0 (Int.le_trans hB1 (by decide)) qr s1   a2 (show 0 ≤ a2.toInt from ra2) (show a2.toInt ≤ 9 from ta2) a3 (show 0 ≤ a3.toInt from ra3) (show a3.toInt ≤ 99999 from ta3) r186 (show 0 ≤ r186.toInt by first | with_reducible assumption | omega) (show r186.toInt ≤ 102119 by first | with_reducible assumption | omega) w188 H.size hT ) (cwV 3 hC.2.2.2.2 uV_RX4_67 rfl rfl rfl (by decide +kernel) ⟨Nat.le_of_ble_eq_true rfl, Nat.le_of_ble_eq_true rfl⟩) rfl hl.1 rfl (Nat.le_of_ble_eq_true rfl) dX4_streetOnWay_29 (fun w199 H locs hp198 hw => ?_)
      obtain ⟨hT, k200, hg201⟩ := hp198
      have hF := hF.tr k200 (by decide)
      have c202 := k200.gi kC_at39 (by decide) c195
      have c203 := k200.gi kC_at39 (by decide) c193
      clear hg201
      refine lv_iload_n hx hb dX4_streetOnWay_32 rfl (lv_at hl 2 rfl) ?_
      refine lv_istore (lv' := [(6, .int a1), (5, .int r186), (0, .ref (ad 155)), (1, .int a1), (2, .int a2), (3, .int a3), (4, .int a4)]) hx hb dX4_streetOnWay_33 hl (by decide) rfl (fun ls hl => ?_)
      refine lv_iload_n hx hb dX4_streetOnWay_35 rfl (lv_at hl 5 rfl) ?_
      refine lv_istore (lv' := [(7, .int a3), (6, .int a1), (5, .int r186), (0, .ref (ad 155)), (1, .int a1), (2, .int a2), (3, .int a3), (4, .int a4)]) hx hb dX4_streetOnWay_36 hl (by decide) rfl (fun ls hl => ?_)
      refine lv_iconst (v := 0) hx hb dX4_streetOnWay_38 (by decide) ?_
      refine lv_istore (lv' := [(8, .int 0), (7, .int a3), (6, .int a1), (5, .int r186), (0, .ref (ad 155)), (1, .int a1), (2, .int a2), (3, .int a3), (4, .int a4)]) hx hb dX4_streetOnWay_39 hl (by decide) rfl (fun ls hl => ?_)
      exact L41 ((2001 - (0 : Int)).toNat + 1) r186 a1 a3 0 x192 x184 H locs ls w199 (show 0 ≤ a1.toInt from ra1) (show a1.toInt ≤ 9 from ta1) (show 0 ≤ a2.toInt from ra2) (show a2.toInt ≤ 9 from ta2) (show 0 ≤ a3.toInt from ra3) (show a3.toInt ≤ 99999 from ta3) (show 0 ≤ a4.toInt from ra4) (show 0 ≤ r186.toInt by first | with_reducible assumption | omega) (show r186.toInt ≤ 102119 by first | with_reducible assumption | omega) (show 0 ≤ a1.toInt from ra1) (show a1.toInt ≤ 9 from ta1) (show (-1) ≤ a3.toInt from Int.le_trans (by decide) ra3) (show a3.toInt ≤ 102128 from Int.le_trans ta3 (by decide)) (by decide) (by decide) (show 1 ≤ x192.toInt by first | with_reducible assumption | omega) (show x192.toInt ≤ 10 by first | with_reducible assumption | omega) (show 0 ≤ x184.toInt from rx184) (show x184.toInt ≤ 12 from tx184) (Nat.lt_succ_self _) hw hT hF c203 c202 (lv_sub hl [4, 5, 6, 7, 8, 3, 2, 1, 0] rfl)
    · have c196 : r186.toInt = (-1 : Int) := wk_eq.mp c196
      refine lv_iconst (v := (-1)) hx hb dX4_streetOnWay_22 (by decide) ?_
      exact tk_iret hC hr hlocks hK ⟨hT, hF, (Or.inr rfl)⟩ hw dX4_streetOnWay_23
  · refine lv_istore (lv' := [(5, .int (-1)), (0, .ref (ad 155)), (1, .int a1), (2, .int a2), (3, .int a3), (4, .int a4)]) hx hb dX4_streetOnWay_14 hl (by decide) rfl (fun ls hl => ?_)
    refine lv_iload hx hb dX4_streetOnWay_16 (lv_at hl 0 rfl) ?_
    refine lv_iconst (v := (-1)) hx hb dX4_streetOnWay_18 (by decide) ?_
    refine lv_icmp_ne (tgt := 24) hx hb dX4_streetOnWay_19 (by decide) (fun c => absurd (by decide) c) (fun _ => ?_)
    refine lv_iconst (v := (-1)) hx hb dX4_streetOnWay_22 (by decide) ?_
    exact tk_iret hC hr hlocks hK ⟨hT, hF, (Or.inr rfl)⟩ hw dX4_streetOnWay_23
