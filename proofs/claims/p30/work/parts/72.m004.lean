abbrev P_X7_firstOpen_2 (ad : Nat → Nat) (cy : Nat → ClassId) (B : Int) (qr : Nat) (s1 : Int) (a1 : Int32) (a3 : Int32) (a4 : Int32) (w0 : va_W) : Int32 → va_W → Prop := fun r u => TW ksC ad cy B qr s1 u ∧ FE ksC ([] : List (Nat × Nat × Nat)) w0 u ∧ ((0 ≤ r.toInt ∧ r.toInt ≤ 101999) ∨ (r = (-1)))
set_option maxHeartbeats 4000000 in
set_option maxRecDepth 100000 in
theorem k_X7_firstOpen_2 (l : Launch) (adK adV : Nat → Nat) (dC : Nat → ClassId) (dI : Nat → Nat → Nat) (cy : Nat → ClassId) (ad : Nat → Nat) (B : Int) (hB0 : 2147483648 ≤ B) (hB1 : B ≤ 1152921504606846976) (qr : Nat) (s1 : Int)  (a1 : Int32) (ra1 : 0 ≤ a1.toInt) (ta1 : a1.toInt ≤ 11) (a3 : Int32) (ra3 : (-1) ≤ a3.toInt) (ta3 : a3.toInt ≤ 102119) (a4 : Int32) (ra4 : 1991 ≤ a4.toInt) (ta4 : a4.toInt ≤ 101999) (w0 : va_W) (sz : Nat) (hT : TW ksC ad cy B qr s1 w0)  : Met l yX7_firstOpen (wu yX7_firstOpen cX7_firstOpen 10 (some .int)) ({ frames := 2, cells := 0, slots := 0, locals := 39 }) (va_Pc [.ref (ad 39), .int a1, .int 1, .int a3, .int a4] (wpreS adK adV dC dI cy sz w0)) (va_Qi (P_X7_firstOpen_2 ad cy B qr s1 a1 a3 a4 w0) (fun u : va_W => wpost dC dI cy (va_A w0 sz) u) (va_A w0 sz)) 0 0 (va_A w0 sz) := by
  refine Met.ofW (cc := cX7_firstOpen) (maxL := 10) (ret := (some .int)) (by decide) rfl ?_
  intro p e s m args below meth c s₁ Bk hml hv
  obtain ⟨rfl, ⟨hsz, hP, hK, hD0⟩, hE, hSR⟩ := hv
  have hx := Bk.exec
  have hb := Bk.bytes
  have hr := Bk.returns
  have hlocks := Bk.notSynchronized
  have hC : CallFix p m c cX7_firstOpen 10 s _ (wu yX7_firstOpen cX7_firstOpen 10 (some .int)) RX7 := ⟨hx, hb, hml, findClass_of_methodNamed Bk.named, atoms_spec (ws := (wu yX7_firstOpen cX7_firstOpen 10 (some .int))) Bk.pre⟩
  subst hsz
  have hD := hD0.self (sz := s.heap.size)
  generalize hAe : va_A w0 s.heap.size = A at hD hE ⊢
  have hA : ∀ q : Nat, s.heap.size ≤ q → A q := fun q h => by rw [← hAe]; exact Or.inr h
  have hw : Wd dC dI A s.heap s.heap [] w0 := ⟨hP, hD, va_S.rf⟩
  have hF : FE ksC ([] : List (Nat × Nat × Nat)) w0 w0 := FE.rf
  have hl := lv_entry ([.ref (ad 39), .int a1, .int 1, .int a3, .int a4]) (n := 10) (Nat.le_of_ble_eq_true rfl)
  rw [lg_entry_eq]
  generalize (lg_sl ([.ref (ad 39), .int a1, .int 1, .int a3, .int a4]) ++ List.replicate (10 - (lg_sl ([.ref (ad 39), .int a1, .int 1, .int a3, .int a4])).length) Slot.unset).toArray = ls at hl ⊢
  have hl : lv_has ls 10 [(0, .ref (ad 39)), (1, .int a1), (2, .int 1), (3, .int a3), (4, .int a4)] := hl
  generalize hloc : ([] : List Loc) = locs at hw ⊢
  have L25 : ∀ (n25 : Nat) (v25_5 : Int32) (v25_6 : Int32) (H : Heap) (locs : List Loc) (ls : Array Slot) (w1 : va_W), 0 ≤ a1.toInt → a1.toInt ≤ 11 → (-1) ≤ a3.toInt → a3.toInt ≤ 102119 → 1991 ≤ a4.toInt → a4.toInt ≤ 101999 → 0 ≤ v25_6.toInt → v25_6.toInt ≤ 4254 → (4254 - v25_6.toInt).toNat < n25 → Wd dC dI A s.heap H locs w1 → TW ksC ad cy B qr s1 w1 → FE ksC ([] : List (Nat × Nat × Nat)) w0 w1 → lv_has ls 10 [(0, .ref (ad 39)), (1, .int a1), (2, .int 1), (3, .int a3), (4, .int a4), (5, .int v25_5), (6, .int v25_6)] → W p l e ({ frames := 2, cells := 0, slots := 0, locals := 39 }) s m (List.toArray [.ref (ad 39), .int a1, .int 1, .int a3, .int a4]) below meth c H locs 0 0 (MQ below (va_Qi (P_X7_firstOpen_2 ad cy B qr s1 a1 a3 a4 w0) (fun u : va_W => wpost dC dI cy A u) A) (List.toArray [.ref (ad 39), .int a1, .int 1, .int a3, .int a4]) s 0 0 A) (F0 m 25 ls []) := by
    intro n25
    induction n25 with
    | zero => intro v25_5 v25_6 H locs ls w1 r2 t3 r4 t5 r6 t7 r8 t9 hm25 hw hT hF hl; omega
    | succ n25 ih25 =>
      intro v25_5 v25_6 H locs ls w1 r2 t3 r4 t5 r6 t7 r8 t9 hm25 hw hT hF hl
      have J108 : ∀ (v108_7 : Int32) (v108_8 : Int32) (H : Heap) (locs : List Loc) (ls : Array Slot) (w10 : va_W), 0 ≤ a1.toInt → a1.toInt ≤ 11 → (-1) ≤ a3.toInt → a3.toInt ≤ 102119 → 1991 ≤ a4.toInt → a4.toInt ≤ 101999 → 0 ≤ v25_6.toInt → v25_6.toInt ≤ 4249 → 0 ≤ v108_7.toInt → v108_7.toInt ≤ 16777215 → 0 ≤ v108_8.toInt → v108_8.toInt ≤ 24 → Wd dC dI A s.heap H locs w10 → TW ksC ad cy B qr s1 w10 → FE ksC ([] : List (Nat × Nat × Nat)) w0 w10 → lv_has ls 10 [(0, .ref (ad 39)), (1, .int a1), (2, .int 1), (3, .int a3), (4, .int a4), (5, .int (-1)), (6, .int v25_6), (7, .int v108_7), (8, .int v108_8)] → W p l e ({ frames := 2, cells := 0, slots := 0, locals := 39 }) s m (List.toArray [.ref (ad 39), .int a1, .int 1, .int a3, .int a4]) below meth c H locs 0 0 (MQ below (va_Qi (P_X7_firstOpen_2 ad cy B qr s1 a1 a3 a4 w0) (fun u : va_W => wpost dC dI cy A u) A) (List.toArray [.ref (ad 39), .int a1, .int 1, .int a3, .int a4]) s 0 0 A) (F0 m 108 ls []) := by
        intro v108_7 v108_8 H locs ls w10 r11 t12 r13 t14 r15 t16 r17 t18 r19 t20 r21 t22 hw hT hF hl
        obtain ⟨x23, ex23⟩ : ∃ y : Int32, y = v25_6 + Int32.ofInt 1 := ⟨_, rfl⟩
        refine lv_iinc (v := x23) (lv' := [(6, .int x23), (0, .ref (ad 39)), (1, .int a1), (2, .int 1), (3, .int a3), (4, .int a4), (5, .int (-1)), (7, .int v108_7), (8, .int v108_8)]) hx hb dX7_firstOpen_108 hl (k := 6) rfl ex23.symm (by decide) rfl (fun ls hl => ?_)
        have ex23 : x23.toInt = v25_6.toInt + 1 := by rw [ex23]; exact wk_add (y := 1) (show -2147483648 ≤ v25_6.toInt + 1 by omega) (show v25_6.toInt + 1 ≤ 2147483647 by omega)
        refine lv_goto (tgt := 25) hx hb dX7_firstOpen_111 (by decide) ?_
        exact ih25 (-1) x23 H locs ls w10 (show 0 ≤ a1.toInt from r11) (show a1.toInt ≤ 11 from t12) (show (-1) ≤ a3.toInt from r13) (show a3.toInt ≤ 102119 from t14) (show 1991 ≤ a4.toInt from r15) (show a4.toInt ≤ 101999 from t16) (show 0 ≤ x23.toInt by first | with_reducible assumption | omega) (show x23.toInt ≤ 4254 by first | with_reducible assumption | omega) (show (4254 - x23.toInt).toNat < n25 by first | exact tn_lt hm25 (by omega) (by omega) | omega) hw hT hF  (lv_sub hl [1, 2, 3, 4, 5, 6, 0] rfl)
      have L56 : ∀ (n56 : Nat) (v56_7 : Int32) (v56_8 : Int32) (H : Heap) (locs : List Loc) (ls : Array Slot) (w24 : va_W), 0 ≤ a1.toInt → a1.toInt ≤ 11 → (-1) ≤ a3.toInt → a3.toInt ≤ 102119 → 1991 ≤ a4.toInt → a4.toInt ≤ 101999 → 0 ≤ v25_6.toInt → v25_6.toInt ≤ 4249 → 0 ≤ v56_7.toInt → v56_7.toInt ≤ 16777215 → 0 ≤ v56_8.toInt → v56_8.toInt ≤ 24 → (24 - v56_8.toInt).toNat < n56 → Wd dC dI A s.heap H locs w24 → TW ksC ad cy B qr s1 w24 → FE ksC ([] : List (Nat × Nat × Nat)) w0 w24 → lv_has ls 10 [(0, .ref (ad 39)), (1, .int a1), (2, .int 1), (3, .int a3), (4, .int a4), (5, .int (-1)), (6, .int v25_6), (7, .int v56_7), (8, .int v56_8)] → W p l e ({ frames := 2, cells := 0, slots := 0, locals := 39 }) s m (List.toArray [.ref (ad 39), .int a1, .int 1, .int a3, .int a4]) below meth c H locs 0 0 (MQ below (va_Qi (P_X7_firstOpen_2 ad cy B qr s1 a1 a3 a4 w0) (fun u : va_W => wpost dC dI cy A u) A) (List.toArray [.ref (ad 39), .int a1, .int 1, .int a3, .int a4]) s 0 0 A) (F0 m 56 ls []) := by
        intro n56
        induction n56 with
        | zero => intro v56_7 v56_8 H locs ls w24 r25 t26 r27 t28 r29 t30 r31 t32 r33 t34 r35 t36 hm56 hw hT hF hl; omega
        | succ n56 ih56 =>
          intro v56_7 v56_8 H locs ls w24 r25 t26 r27 t28 r29 t30 r31 t32 r33 t34 r35 t36 hm56 hw hT hF hl
          refine lv_iload hx hb dX7_firstOpen_56 (lv_at hl 7 rfl) ?_
          refine lv_if_eq (tgt := 108) hx hb dX7_firstOpen_58 (by decide) (fun c37 => ?_) (fun c37 => ?_)
          · have c37 : v56_7.toInt = (0 : Int) := wk_eq.mp c37
            exact J108 v56_7 v56_8 H locs ls w24 (show 0 ≤ a1.toInt from r25) (show a1.toInt ≤ 11 from t26) (show (-1) ≤ a3.toInt from r27) (show a3.toInt ≤ 102119 from t28) (show 1991 ≤ a4.toInt from r29) (show a4.toInt ≤ 101999 from t30) (show 0 ≤ v25_6.toInt from r31) (show v25_6.toInt ≤ 4249 from t32) (show 0 ≤ v56_7.toInt from r33) (show v56_7.toInt ≤ 16777215 from t34) (show 0 ≤ v56_8.toInt from r35) (show v56_8.toInt ≤ 24 from t36)  hw hT hF  (lv_sub hl [0, 1, 2, 3, 4, 5, 6, 7, 8] rfl)
          · have c37 : ¬ v56_7.toInt = (0 : Int) := wk_eqF c37
            refine lv_iload hx hb dX7_firstOpen_61 (lv_at hl 8 rfl) ?_
            refine lv_bipush (v := 24) hx hb dX7_firstOpen_63 (by decide) ?_
            refine lv_icmp_ge (tgt := 108) hx hb dX7_firstOpen_65 (by decide) (fun c38 => ?_) (fun c38 => ?_)
            · have c38 : (24 : Int) ≤ v56_8.toInt := wk_le.mp c38
              exact J108 v56_7 v56_8 H locs ls w24 (show 0 ≤ a1.toInt from r25) (show a1.toInt ≤ 11 from t26) (show (-1) ≤ a3.toInt from r27) (show a3.toInt ≤ 102119 from t28) (show 1991 ≤ a4.toInt from r29) (show a4.toInt ≤ 101999 from t30) (show 0 ≤ v25_6.toInt from r31) (show v25_6.toInt ≤ 4249 from t32) (show 0 ≤ v56_7.toInt from r33) (show v56_7.toInt ≤ 16777215 from t34) (show 0 ≤ v56_8.toInt from r35) (show v56_8.toInt ≤ 24 from t36)  hw hT hF  (lv_sub hl [0, 1, 2, 3, 4, 5, 6, 7, 8] rfl)
            · have c38 : v56_8.toInt < (24 : Int) := wk_leF c38
              refine lv_iload hx hb dX7_firstOpen_68 (lv_at hl 7 rfl) ?_
              refine lv_iload hx hb dX7_firstOpen_70 (lv_at hl 8 rfl) ?_
              refine lv_ishr hx hb dX7_firstOpen_72 ?_
              refine lv_topi (fun x39 ex39 => ?_)
              have bx39 : 0 ≤ x39.toInt ∧ x39.toInt ≤ v56_7.toInt := by rw [ex39]; exact wk_shr (by omega)
              refine lv_iconst (v := 1) hx hb dX7_firstOpen_73 (by decide) ?_
              refine lv_iand hx hb dX7_firstOpen_74 ?_
              refine lv_topi (fun x40 ex40 => ?_)
              have bx40 : 0 ≤ x40.toInt ∧ x40.toInt ≤ (1 : Int) := by rw [ex40]; exact wk_and (by decide)
              refine lv_if_eq (tgt := 102) hx hb dX7_firstOpen_75 (by decide) (fun c41 => ?_) (fun c41 => ?_)
              · have c41 : x40.toInt = (0 : Int) := wk_eq.mp c41
                obtain ⟨x42, ex42⟩ : ∃ y : Int32, y = v56_8 + Int32.ofInt 1 := ⟨_, rfl⟩
                refine lv_iinc (v := x42) (lv' := [(8, .int x42), (0, .ref (ad 39)), (1, .int a1), (2, .int 1), (3, .int a3), (4, .int a4), (5, .int (-1)), (6, .int v25_6), (7, .int v56_7)]) hx hb dX7_firstOpen_102 hl (k := 8) rfl ex42.symm (by decide) rfl (fun ls hl => ?_)
                have ex42 : x42.toInt = v56_8.toInt + 1 := by rw [ex42]; exact wk_add (y := 1) (show -2147483648 ≤ v56_8.toInt + 1 by omega) (show v56_8.toInt + 1 ≤ 2147483647 by omega)
                refine lv_goto (tgt := 56) hx hb dX7_firstOpen_105 (by decide) ?_
                exact ih56 v56_7 x42 H locs ls w24 (show 0 ≤ a1.toInt from r25) (show a1.toInt ≤ 11 from t26) (show (-1) ≤ a3.toInt from r27) (show a3.toInt ≤ 102119 from t28) (show 1991 ≤ a4.toInt from r29) (show a4.toInt ≤ 101999 from t30) (show 0 ≤ v25_6.toInt from r31) (show v25_6.toInt ≤ 4249 from t32) (show 0 ≤ v56_7.toInt from r33) (show v56_7.toInt ≤ 16777215 from t34) (show 0 ≤ x42.toInt by first | with_reducible assumption | omega) (show x42.toInt ≤ 24 by first | with_reducible assumption | omega) (show (24 - x42.toInt).toNat < n56 by first | exact tn_lt hm56 (by omega) (by omega) | omega) hw hT hF  (lv_sub hl [1, 2, 3, 4, 5, 6, 7, 8, 0] rfl)
              · have c41 : ¬ x40.toInt = (0 : Int) := wk_eqF c41
                refine lv_iload hx hb dX7_firstOpen_78 (lv_at hl 6 rfl) ?_
                refine lv_bipush (v := 24) hx hb dX7_firstOpen_80 (by decide) ?_
                refine lv_imul hx hb dX7_firstOpen_82 ?_
                refine lv_topi (fun x43 ex43 => ?_)
                have ex43 : x43.toInt = v25_6.toInt * (24 : Int) := by rw [ex43]; exact wk_mul (show (-2147483648) ≤ v25_6.toInt * (24 : Int) by omega) (show v25_6.toInt * (24 : Int) ≤ 2147483647 by omega)
                refine lv_iload hx hb dX7_firstOpen_83 (lv_at hl 8 rfl) ?_
                refine lv_iadd hx hb dX7_firstOpen_85 ?_
                refine lv_topi (fun x44 ex44 => ?_)
                have ex44 : x44.toInt = x43.toInt + v56_8.toInt := by rw [ex44]; exact wk_add (show (-2147483648) ≤ x43.toInt + v56_8.toInt by omega) (show x43.toInt + v56_8.toInt ≤ 2147483647 by omega)
                refine lv_istore (lv' := [(9, .int x44), (0, .ref (ad 39)), (1, .int a1), (2, .int 1), (3, .int a3), (4, .int a4), (5, .int (-1)), (6, .int v25_6), (7, .int v56_7), (8, .int v56_8)]) hx hb dX7_firstOpen_86 hl (by decide) rfl (fun ls hl => ?_)
                refine lv_iload hx hb dX7_firstOpen_88 (lv_at hl 0 rfl) ?_
                refine lv_iload hx hb dX7_firstOpen_90 (lv_at hl 5 rfl) ?_
                refine lv_icmp_gt (tgt := 100) hx hb dX7_firstOpen_92 (by decide) (fun c45 => ?_) (fun c45 => ?_)
                · have c45 : a4.toInt < x44.toInt := wk_lt.mp c45
                  refine lv_iconst (v := (-1)) hx hb dX7_firstOpen_100 (by decide) ?_
                  exact tk_iret hC hr hlocks hK ⟨hT, hF, (Or.inr rfl)⟩ hw dX7_firstOpen_101
                · have c45 : x44.toInt ≤ a4.toInt := wk_ltF c45
                  refine lv_iload hx hb dX7_firstOpen_95 (lv_at hl 0 rfl) ?_
                  refine lv_goto (tgt := 101) hx hb dX7_firstOpen_97 (by decide) ?_
                  exact tk_iret hC hr hlocks hK ⟨hT, hF, (Or.inl ⟨(show 0 ≤ x44.toInt by first | with_reducible assumption | omega), (show x44.toInt ≤ 101999 by first | with_reducible assumption | omega)⟩)⟩ hw dX7_firstOpen_101
      refine lv_iload hx hb dX7_firstOpen_25 (lv_at hl 6 rfl) ?_
      refine lv_bipush (v := 24) hx hb dX7_firstOpen_27 (by decide) ?_
      refine lv_imul hx hb dX7_firstOpen_29 ?_
      refine lv_topi (fun x46 ex46 => ?_)
      have ex46 : x46.toInt = v25_6.toInt * (24 : Int) := by rw [ex46]; exact wk_mul (show (-2147483648) ≤ v25_6.toInt * (24 : Int) by omega) (show v25_6.toInt * (24 : Int) ≤ 2147483647 by omega)
      refine lv_iload hx hb dX7_firstOpen_30 (lv_at hl 4 rfl) ?_
      refine lv_icmp_gt (tgt := 114) hx hb dX7_firstOpen_32 (by decide) (fun c47 => ?_) (fun c47 => ?_)
      · have c47 : a4.toInt < x46.toInt := wk_lt.mp c47
        refine lv_iconst (v := (-1)) hx hb dX7_firstOpen_114 (by decide) ?_
        exact tk_iret hC hr hlocks hK ⟨hT, hF, (Or.inr rfl)⟩ hw dX7_firstOpen_115
      · have c47 : x46.toInt ≤ a4.toInt := wk_ltF c47
        refine lv_aload_n hx hb dX7_firstOpen_35 rfl (lv_at hl 0 rfl) ?_
        refine lv_iload_n hx hb dX7_firstOpen_36 rfl (lv_at hl 1 rfl) ?_
        refine lv_iload_n hx hb dX7_firstOpen_37 rfl (lv_at hl 2 rfl) ?_
        refine lv_iload hx hb dX7_firstOpen_38 (lv_at hl 6 rfl) ?_
        refine lv_i2l hx hb dX7_firstOpen_40 rfl ?_
        refine lv_topl (fun x48 ex48 => ?_)
        have ex48 : x48.toInt = v25_6.toInt := by rw [ex48]; exact wk_i2l _
        have bx48 := wk_i32 v25_6
        refine lv_iconst (v := 1) hx hb dX7_firstOpen_41 (by decide) ?_
        refine tk_Vi hC hK hw hT hA hE hSR kC_at39 (by decide) rfl (k_X7_openHours_8 l adK adV dC dI cy ad B hB0 (Int.le_trans hB1 (by decide)) qr s1   a1 (show 0 ≤ a1.toInt from r2) (show a1.toInt ≤ 11 from t3) x48 (show 0 ≤ x48.toInt by first | with_reducible assumption | omega) (show x48.toInt ≤ 4249 by first | with_reducible assumption | omega) w1 H.size hT ) (cwV 4 hC.2.2.2.2 uV_RX7_148 rfl rfl rfl (by decide +kernel) ⟨Nat.le_of_ble_eq_true rfl, Nat.le_of_ble_eq_true rfl⟩) rfl hl.1 rfl (Nat.le_of_ble_eq_true rfl) dX7_firstOpen_42 (fun r49 w51 H locs hp50 hw => ?_)
        obtain ⟨hT, k52, hg55⟩ := hp50
        have hF := hF.tr k52 (by decide)
        obtain ⟨g53, g54⟩ := hg55
        refine lv_iload hx hb dX7_firstOpen_45 (lv_at hl 5 rfl) ?_
        refine lv_iand hx hb dX7_firstOpen_47 ?_
        refine lv_topi (fun x56 ex56 => ?_)
        have bx56 : 0 ≤ x56.toInt ∧ x56.toInt ≤ r49.toInt := by rw [ex56]; exact wk_andC (by omega)
        refine lv_istore (lv' := [(7, .int x56), (0, .ref (ad 39)), (1, .int a1), (2, .int 1), (3, .int a3), (4, .int a4), (5, .int v25_5), (6, .int v25_6)]) hx hb dX7_firstOpen_48 hl (by decide) rfl (fun ls hl => ?_)
        refine lv_iconst (v := (-1)) hx hb dX7_firstOpen_50 (by decide) ?_
        refine lv_istore (lv' := [(5, .int (-1)), (7, .int x56), (0, .ref (ad 39)), (1, .int a1), (2, .int 1), (3, .int a3), (4, .int a4), (6, .int v25_6)]) hx hb dX7_firstOpen_51 hl (by decide) rfl (fun ls hl => ?_)
        refine lv_iconst (v := 0) hx hb dX7_firstOpen_53 (by decide) ?_
        refine lv_istore (lv' := [(8, .int 0), (5, .int (-1)), (7, .int x56), (0, .ref (ad 39)), (1, .int a1), (2, .int 1), (3, .int a3), (4, .int a4), (6, .int v25_6)]) hx hb dX7_firstOpen_54 hl (by decide) rfl (fun ls hl => ?_)
        exact L56 ((24 - (0 : Int)).toNat + 1) x56 0 H locs ls w51 (show 0 ≤ a1.toInt from r2) (show a1.toInt ≤ 11 from t3) (show (-1) ≤ a3.toInt from r4) (show a3.toInt ≤ 102119 from t5) (show 1991 ≤ a4.toInt from r6) (show a4.toInt ≤ 101999 from t7) (show 0 ≤ v25_6.toInt from r8) (show v25_6.toInt ≤ 4249 by first | with_reducible assumption | omega) (show 0 ≤ x56.toInt by first | with_reducible assumption | omega) (show x56.toInt ≤ 16777215 by first | with_reducible assumption | omega) (by decide) (by decide) (Nat.lt_succ_self _) hw hT hF  (lv_sub hl [3, 4, 5, 6, 7, 1, 8, 2, 0] rfl)
  refine lv_aload_n hx hb dX7_firstOpen_0 rfl (lv_at hl 0 rfl) ?_
  refine lv_iload_n hx hb dX7_firstOpen_1 rfl (lv_at hl 1 rfl) ?_
  refine lv_iload_n hx hb dX7_firstOpen_2 rfl (lv_at hl 2 rfl) ?_
  refine tk_Vi hC hK hw hT hA hE hSR kC_at39 (by decide) rfl (k_X7_isNeverOpen_2 l adK adV dC dI cy ad B hB0 (Int.le_trans hB1 (by decide)) qr s1   a1 (show 0 ≤ a1.toInt from ra1) (show a1.toInt ≤ 11 from ta1) w0 s.heap.size hT ) (cwV 2 hC.2.2.2.2 uV_RX7_152 rfl rfl rfl (by decide +kernel) ⟨Nat.le_of_ble_eq_true rfl, Nat.le_of_ble_eq_true rfl⟩) rfl hl.1 rfl (Nat.le_of_ble_eq_true rfl) dX7_firstOpen_3 (fun r57 w59 H locs hp58 hw => ?_)
  obtain ⟨hT, k60, hg61⟩ := hp58
  have hF := hF.tr k60 (by decide)
  rcases hg61 with rfl | rfl
  · refine lv_if_eq (tgt := 11) hx hb dX7_firstOpen_6 (by decide) (fun _ => ?_) (fun c => absurd (by decide) c)
    refine lv_iconst (v := (-1)) hx hb dX7_firstOpen_11 (by decide) ?_
    refine lv_iload_n hx hb dX7_firstOpen_12 rfl (lv_at hl 3 rfl) ?_
    refine lv_bipush (v := 24) hx hb dX7_firstOpen_13 (by decide) ?_
    refine lv_irem hx hb dX7_firstOpen_15 (by decide) ?_
    refine lv_topi (fun x62 ex62 => ?_)
    refine lv_ishl hx hb dX7_firstOpen_16 ?_
    refine lv_topi (fun x63 ex63 => ?_)
    refine lv_istore (lv' := [(5, .int x63), (0, .ref (ad 39)), (1, .int a1), (2, .int 1), (3, .int a3), (4, .int a4)]) hx hb dX7_firstOpen_17 hl (by decide) rfl (fun ls hl => ?_)
    refine lv_iload_n hx hb dX7_firstOpen_19 rfl (lv_at hl 4 rfl) ?_
    refine lv_bipush (v := 24) hx hb dX7_firstOpen_20 (by decide) ?_
    refine lv_idiv hx hb dX7_firstOpen_22 (by decide) ?_
    refine lv_topi (fun x64 ex64 => ?_)
    have bx64 : -(1 / (24 : Int)) ≤ x64.toInt ∧ x64.toInt ≤ 102119 / (24 : Int) := by rw [ex64]; exact wk_divB (m := 1) (n := 102119) (show 0 < (24 : Int) by decide) (by decide) (by decide) (by omega) (by omega)
    refine lv_istore (lv' := [(6, .int x64), (5, .int x63), (0, .ref (ad 39)), (1, .int a1), (2, .int 1), (3, .int a3), (4, .int a4)]) hx hb dX7_firstOpen_23 hl (by decide) rfl (fun ls hl => ?_)
    exact L25 ((4254 - x64.toInt).toNat + 1) x63 x64 H locs ls w59 (show 0 ≤ a1.toInt from ra1) (show a1.toInt ≤ 11 from ta1) (show (-1) ≤ a3.toInt from ra3) (show a3.toInt ≤ 102119 from ta3) (show 1991 ≤ a4.toInt from ra4) (show a4.toInt ≤ 101999 from ta4) (show 0 ≤ x64.toInt by first | with_reducible assumption | omega) (show x64.toInt ≤ 4254 by first | with_reducible assumption | omega) (Nat.lt_succ_self _) hw hT hF  (lv_sub hl [2, 3, 4, 5, 6, 1, 0] rfl)
  · refine lv_if_eq (tgt := 11) hx hb dX7_firstOpen_6 (by decide) (fun c => absurd c (by decide)) (fun _ => ?_)
    refine lv_iconst (v := (-1)) hx hb dX7_firstOpen_9 (by decide) ?_
    exact tk_iret hC hr hlocks hK ⟨hT, hF, (Or.inr rfl)⟩ hw dX7_firstOpen_10
abbrev P_X4_reachBy_1 (ad : Nat → Nat) (cy : Nat → ClassId) (B : Int) (qr : Nat) (s1 : Int) (a1 : Int32) (a2 : Int32) (a3 : Int32) (w0 : va_W) : va_W → Prop := fun u => TW ksC ad cy B qr s1 u ∧ FE ksC [(48, 0, 10)] w0 u ∧ ((True))
set_option maxHeartbeats 4000000 in
set_option maxRecDepth 100000 in
theorem k_X4_reachBy_1 (l : Launch) (adK adV : Nat → Nat) (dC : Nat → ClassId) (dI : Nat → Nat → Nat) (cy : Nat → ClassId) (ad : Nat → Nat) (B : Int) (hB0 : 2147483648 ≤ B) (hB1 : B ≤ 1152921504606846976) (qr : Nat) (s1 : Int)  (a1 : Int32) (ra1 : 0 ≤ a1.toInt) (ta1 : a1.toInt ≤ 11) (a2 : Int32) (ra2 : 0 ≤ a2.toInt) (ta2 : a2.toInt ≤ 9) (a3 : Int32) (ra3 : 2000 ≤ a3.toInt) (ta3 : a3.toInt ≤ 101999) (w0 : va_W) (sz : Nat) (hT : TW ksC ad cy B qr s1 w0)  : Met l yX4_reachBy (wu yX4_reachBy cX4_reachBy 8 none) ({ frames := 3, cells := 0, slots := 0, locals := 68 }) (va_Pc [.ref (ad 155), .int a1, .int a2, .int a3] (wpreS adK adV dC dI cy sz w0)) (va_Qv (P_X4_reachBy_1 ad cy B qr s1 a1 a2 a3 w0) (fun u : va_W => wpost dC dI cy (va_A w0 sz) u) (va_A w0 sz)) 0 0 (va_A w0 sz) := by
  refine Met.ofW (cc := cX4_reachBy) (maxL := 8) (ret := none) (by decide) rfl ?_
  intro p e s m args below meth c s₁ Bk hml hv
  obtain ⟨rfl, ⟨hsz, hP, hK, hD0⟩, hE, hSR⟩ := hv
  have hx := Bk.exec
  have hb := Bk.bytes
  have hr := Bk.returns
  have hlocks := Bk.notSynchronized
  have hC : CallFix p m c cX4_reachBy 8 s _ (wu yX4_reachBy cX4_reachBy 8 none) RX4 := ⟨hx, hb, hml, findClass_of_methodNamed Bk.named, atoms_spec (ws := (wu yX4_reachBy cX4_reachBy 8 none)) Bk.pre⟩
  subst hsz
  have hD := hD0.self (sz := s.heap.size)
  generalize hAe : va_A w0 s.heap.size = A at hD hE ⊢
  have hA : ∀ q : Nat, s.heap.size ≤ q → A q := fun q h => by rw [← hAe]; exact Or.inr h
  have hw : Wd dC dI A s.heap s.heap [] w0 := ⟨hP, hD, va_S.rf⟩
  have hF : FE ksC [(48, 0, 10)] w0 w0 := FE.rf
  have hl := lv_entry ([.ref (ad 155), .int a1, .int a2, .int a3]) (n := 8) (Nat.le_of_ble_eq_true rfl)
  rw [lg_entry_eq]
  generalize (lg_sl ([.ref (ad 155), .int a1, .int a2, .int a3]) ++ List.replicate (8 - (lg_sl ([.ref (ad 155), .int a1, .int a2, .int a3])).length) Slot.unset).toArray = ls at hl ⊢
  have hl : lv_has ls 8 [(0, .ref (ad 155)), (1, .int a1), (2, .int a2), (3, .int a3)] := hl
  generalize hloc : ([] : List Loc) = locs at hw ⊢
  have hinX4 : ∀ w ∈ u_ws RX4 TX4 4, w ∈ (wu yX4_reachBy cX4_reachBy 8 none) := fun _ h => List.mem_cons_of_mem _ (up_80 h)
  have hinX7 : ∀ w ∈ u_ws RX7 TX7 12, w ∈ (wu yX4_reachBy cX4_reachBy 8 none) := fun _ h => List.mem_cons_of_mem _ (up_73 h)
  have J35 : ∀ (v35_4 : Int32) (H : Heap) (locs : List Loc) (ls : Array Slot) (w1 : va_W), 0 ≤ a1.toInt → a1.toInt ≤ 11 → 0 ≤ a2.toInt → a2.toInt ≤ 9 → 2000 ≤ a3.toInt → a3.toInt ≤ 101999 → (-1) ≤ v35_4.toInt → v35_4.toInt ≤ 1 → Wd dC dI A s.heap H locs w1 → TW ksC ad cy B qr s1 w1 → FE ksC [(48, 0, 10)] w0 w1 → lv_has ls 8 [(0, .ref (ad 155)), (1, .int a1), (2, .int a2), (3, .int a3), (4, .int v35_4)] → W p l e ({ frames := 3, cells := 0, slots := 0, locals := 68 }) s m (List.toArray [.ref (ad 155), .int a1, .int a2, .int a3]) below meth c H locs 0 0 (MQ below (va_Qv (P_X4_reachBy_1 ad cy B qr s1 a1 a2 a3 w0) (fun u : va_W => wpost dC dI cy A u) A) (List.toArray [.ref (ad 155), .int a1, .int a2, .int a3]) s 0 0 A) (F0 m 35 ls []) := by
    intro v35_4 H locs ls w1 r2 t3 r4 t5 r6 t7 r8 t9 hw hT hF hl
    exact tk_vret hC hr hlocks hK ⟨hT, hF, trivial⟩ hw dX4_reachBy_35
  have J125 : ∀ (v125_4 : Int32) (v125_5 : Int32) (v125_6 : Int32) (v125_7 : Int32) (H : Heap) (locs : List Loc) (ls : Array Slot) (w10 : va_W), 0 ≤ a1.toInt → a1.toInt ≤ 11 → 0 ≤ a2.toInt → a2.toInt ≤ 9 → 2000 ≤ a3.toInt → a3.toInt ≤ 101999 → 0 ≤ v125_4.toInt → v125_4.toInt ≤ 1 → 0 ≤ v125_5.toInt → v125_5.toInt ≤ 9 → 0 ≤ v125_6.toInt → v125_6.toInt ≤ 9 → (-1) ≤ v125_7.toInt → v125_7.toInt ≤ 101999 → Wd dC dI A s.heap H locs w10 → TW ksC ad cy B qr s1 w10 → FE ksC [(48, 0, 10)] w0 w10 → lv_has ls 8 [(0, .ref (ad 155)), (1, .int a1), (2, .int a2), (3, .int a3), (4, .int v125_4), (5, .int v125_5), (6, .int v125_6), (7, .int v125_7)] → W p l e ({ frames := 3, cells := 0, slots := 0, locals := 68 }) s m (List.toArray [.ref (ad 155), .int a1, .int a2, .int a3]) below meth c H locs 0 0 (MQ below (va_Qv (P_X4_reachBy_1 ad cy B qr s1 a1 a2 a3 w0) (fun u : va_W => wpost dC dI cy A u) A) (List.toArray [.ref (ad 155), .int a1, .int a2, .int a3]) s 0 0 A) (F0 m 125 ls []) := by
    intro v125_4 v125_5 v125_6 v125_7 H locs ls w10 r11 t12 r13 t14 r15 t16 r17 t18 r19 t20 r21 t22 r23 t24 hw hT hF hl
    exact tk_vret hC hr hlocks hK ⟨hT, hF, trivial⟩ hw dX4_reachBy_125
  have J113 : ∀ (v113_4 : Int32) (v113_5 : Int32) (v113_6 : Int32) (v113_7 : Int32) (H : Heap) (locs : List Loc) (ls : Array Slot) (w25 : va_W), 0 ≤ a1.toInt → a1.toInt ≤ 11 → 0 ≤ a2.toInt → a2.toInt ≤ 9 → 2000 ≤ a3.toInt → a3.toInt ≤ 101999 → 0 ≤ v113_4.toInt → v113_4.toInt ≤ 1 → 0 ≤ v113_5.toInt → v113_5.toInt ≤ 9 → 0 ≤ v113_6.toInt → v113_6.toInt ≤ 9 → 0 ≤ v113_7.toInt → v113_7.toInt ≤ 101999 → Wd dC dI A s.heap H locs w25 → TW ksC ad cy B qr s1 w25 → FE ksC [(48, 0, 10)] w0 w25 → lv_has ls 8 [(0, .ref (ad 155)), (1, .int a1), (2, .int a2), (3, .int a3), (4, .int v113_4), (5, .int v113_5), (6, .int v113_6), (7, .int v113_7)] → W p l e ({ frames := 3, cells := 0, slots := 0, locals := 68 }) s m (List.toArray [.ref (ad 155), .int a1, .int a2, .int a3]) below meth c H locs 0 0 (MQ below (va_Qv (P_X4_reachBy_1 ad cy B qr s1 a1 a2 a3 w0) (fun u : va_W => wpost dC dI cy A u) A) (List.toArray [.ref (ad 155), .int a1, .int a2, .int a3]) s 0 0 A) (F0 m 113 ls []) := by
    intro v113_4 v113_5 v113_6 v113_7 H locs ls w25 r26 t27 r28 t29 r30 t31 r32 t33 r34 t35 r36 t37 r38 t39 hw hT hF hl
    refine lv_aload_n hx hb dX4_reachBy_113 rfl (lv_at hl 0 rfl) ?_
    refine tk_getA hC hK hw hT hinX4 kC_at155 (by decide) rfl 2 (by decide) (List.mem_cons_of_mem _ uw_5_19) rfl rfl dX4_reachBy_114 ?_
    refine lv_iload hx hb dX4_reachBy_117 (lv_at hl 5 rfl) ?_
    refine lv_iload hx hb dX4_reachBy_119 (lv_at hl 7 rfl) ?_
    refine lv_iload hx hb dX4_reachBy_121 (lv_at hl 6 rfl) ?_
    refine lv_iadd hx hb dX4_reachBy_123 ?_
    refine lv_topi (fun x40 ex40 => ?_)
    have ex40 : x40.toInt = v113_7.toInt + v113_6.toInt := by rw [ex40]; exact wk_add (show (-2147483648) ≤ v113_7.toInt + v113_6.toInt by omega) (show v113_7.toInt + v113_6.toInt ≤ 2147483647 by omega)
    refine tk_iast hC hK hw hT kC_at156 (by decide) rfl rfl (show 0 ≤ v113_5.toInt from r34) (show v113_5.toInt < 10 from Int.lt_of_le_of_lt t35 (by decide)) (show (-1) ≤ x40.toInt by first | with_reducible assumption | omega) (show x40.toInt ≤ 102119 by first | with_reducible assumption | omega) dX4_reachBy_124 (fun H locs w41 hw hT k43 c42 => ?_)
    have hF := hF.put kC_at156 (inE_of (a := 0) (b := 10) (by decide) (show 0 ≤ v113_5.toInt.toNat by omega) (show v113_5.toInt.toNat ≤ 10 by omega)) k43
    exact J125 v113_4 v113_5 v113_6 v113_7 H locs ls w41 (show 0 ≤ a1.toInt from r26) (show a1.toInt ≤ 11 from t27) (show 0 ≤ a2.toInt from r28) (show a2.toInt ≤ 9 from t29) (show 2000 ≤ a3.toInt from r30) (show a3.toInt ≤ 101999 from t31) (show 0 ≤ v113_4.toInt from r32) (show v113_4.toInt ≤ 1 from t33) (show 0 ≤ v113_5.toInt from r34) (show v113_5.toInt ≤ 9 from t35) (show 0 ≤ v113_6.toInt from r36) (show v113_6.toInt ≤ 9 from t37) (show (-1) ≤ v113_7.toInt from Int.le_trans (by decide) r38) (show v113_7.toInt ≤ 101999 from t39)  hw hT hF  (lv_sub hl [0, 1, 2, 3, 4, 5, 6, 7] rfl)
  refine lv_aload_n hx hb dX4_reachBy_0 rfl (lv_at hl 0 rfl) ?_
  refine tk_getA hC hK hw hT hinX4 kC_at155 (by decide) rfl 1 (by decide) (List.mem_cons_of_mem _ uw_5_23) rfl rfl dX4_reachBy_1 ?_
  refine lv_iload_n hx hb dX4_reachBy_4 rfl (lv_at hl 1 rfl) ?_
  refine lv_iload_n hx hb dX4_reachBy_5 rfl (lv_at hl 2 rfl) ?_
  refine tk_Vi hC hK hw hT hA hE hSR kC_at39 (by decide) rfl (k_X7_sideOf_2 l adK adV dC dI cy ad B hB0 (Int.le_trans hB1 (by decide)) qr s1   a1 (show 0 ≤ a1.toInt from ra1) (show a1.toInt ≤ 11 from ta1) a2 (show 0 ≤ a2.toInt from ra2) (show a2.toInt ≤ 9 from ta2) w0 s.heap.size hT ) (cwV 2 hC.2.2.2.2 uV_RX4_47 rfl rfl rfl (by decide +kernel) ⟨Nat.le_of_ble_eq_true rfl, Nat.le_of_ble_eq_true rfl⟩) rfl hl.1 rfl (Nat.le_of_ble_eq_true rfl) dX4_reachBy_6 (fun r44 w46 H locs hp45 hw => ?_)
  obtain ⟨hT, k47, hg50⟩ := hp45
  have hF := hF.tr k47 (by decide)
  rcases hg50 with rfl | ⟨rfl, c48⟩ | ⟨rfl, c49⟩
  · refine lv_istore (lv' := [(4, .int (-1)), (0, .ref (ad 155)), (1, .int a1), (2, .int a2), (3, .int a3)]) hx hb dX4_reachBy_9 hl (by decide) rfl (fun ls hl => ?_)
    refine lv_iload hx hb dX4_reachBy_11 (lv_at hl 0 rfl) ?_
    refine lv_iconst (v := (-1)) hx hb dX4_reachBy_13 (by decide) ?_
    refine lv_icmp_eq (tgt := 35) hx hb dX4_reachBy_14 (by decide) (fun _ => ?_) (fun c => absurd (by decide) c)
    exact J35 (-1) H locs ls w46 (show 0 ≤ a1.toInt from ra1) (show a1.toInt ≤ 11 from ta1) (show 0 ≤ a2.toInt from ra2) (show a2.toInt ≤ 9 from ta2) (show 2000 ≤ a3.toInt from ra3) (show a3.toInt ≤ 101999 from ta3) (by decide) (by decide)  hw hT hF  (lv_sub hl [1, 2, 3, 4, 0] rfl)
  · refine lv_istore (lv' := [(4, .int 0), (0, .ref (ad 155)), (1, .int a1), (2, .int a2), (3, .int a3)]) hx hb dX4_reachBy_9 hl (by decide) rfl (fun ls hl => ?_)
    refine lv_iload hx hb dX4_reachBy_11 (lv_at hl 0 rfl) ?_
    refine lv_iconst (v := (-1)) hx hb dX4_reachBy_13 (by decide) ?_
    refine lv_icmp_eq (tgt := 35) hx hb dX4_reachBy_14 (by decide) (fun c => absurd c (by decide)) (fun _ => ?_)
    refine lv_aload_n hx hb dX4_reachBy_17 rfl (lv_at hl 1 rfl) ?_
    refine tk_getA hC hK hw hT hinX4 kC_at155 (by decide) rfl 3 (by decide) (List.mem_cons_of_mem _ uw_5_20) rfl rfl dX4_reachBy_18 ?_
    refine lv_aload_n hx hb dX4_reachBy_21 rfl (lv_at hl 1 rfl) ?_
    refine tk_getA hC hK hw hT hinX4 kC_at155 (by decide) rfl 1 (by decide) (List.mem_cons_of_mem _ uw_5_23) rfl rfl dX4_reachBy_22 ?_
    refine lv_iload_n hx hb dX4_reachBy_25 rfl (lv_at hl 2 rfl) ?_
    refine lv_iload hx hb dX4_reachBy_26 (lv_at hl 0 rfl) ?_
    refine tk_Vi hC hK hw hT hA hE hSR kC_at39 (by decide) rfl (k_X7_cornerAcross_2 l adK adV dC dI cy ad B hB0 (Int.le_trans hB1 (by decide)) qr s1   a1 (show 0 ≤ a1.toInt from ra1) (show a1.toInt ≤ 11 from ta1) w46 H.size hT ) (cwV 2 hC.2.2.2.2 uV_RX4_51 rfl rfl rfl (by decide +kernel) ⟨Nat.le_of_ble_eq_true rfl, Nat.le_of_ble_eq_true rfl⟩) rfl hl.1 rfl (Nat.le_of_ble_eq_true rfl) dX4_reachBy_28 (fun r51 w53 H locs hp52 hw => ?_)
    obtain ⟨hT, k54, hg57⟩ := hp52
    have hF := hF.tr k54 (by decide)
    have c58 := k54.gi kC_at40 rfl c48
    obtain ⟨g55, g56⟩ := hg57
    refine tk_zald hC hK hw hT kC_at157 rfl rfl (show 0 ≤ r51.toInt by first | with_reducible assumption | omega) (show r51.toInt < 10 by first | with_reducible assumption | omega) dX4_reachBy_31 (fun x59 c60 rx59 tx59 => ?_)
    refine lv_if_eq (tgt := 36) hx hb dX4_reachBy_32 (by decide) (fun c61 => ?_) (fun c61 => ?_)
    · have c61 : x59.toInt = (0 : Int) := wk_eq.mp c61
      refine lv_aload_n hx hb dX4_reachBy_36 rfl (lv_at hl 1 rfl) ?_
      refine tk_getA hC hK hw hT hinX4 kC_at155 (by decide) rfl 1 (by decide) (List.mem_cons_of_mem _ uw_5_23) rfl rfl dX4_reachBy_37 ?_
      refine lv_iload_n hx hb dX4_reachBy_40 rfl (lv_at hl 2 rfl) ?_
      refine lv_iload hx hb dX4_reachBy_41 (lv_at hl 0 rfl) ?_
      refine tk_Vi hC hK hw hT hA hE hSR kC_at39 (by decide) rfl (k_X7_cornerAcross_2 l adK adV dC dI cy ad B hB0 (Int.le_trans hB1 (by decide)) qr s1   a1 (show 0 ≤ a1.toInt from ra1) (show a1.toInt ≤ 11 from ta1) w53 H.size hT ) (cwV 2 hC.2.2.2.2 uV_RX4_51 rfl rfl rfl (by decide +kernel) ⟨Nat.le_of_ble_eq_true rfl, Nat.le_of_ble_eq_true rfl⟩) rfl hl.1 rfl (Nat.le_of_ble_eq_true rfl) dX4_reachBy_43 (fun r62 w64 H locs hp63 hw => ?_)
      obtain ⟨hT, k65, hg68⟩ := hp63
      have hF := hF.tr k65 (by decide)
      have c69 := k65.gi kC_at40 rfl c58
      obtain ⟨g66, g67⟩ := hg68
      refine lv_istore (lv' := [(5, .int r62), (4, .int 0), (0, .ref (ad 155)), (1, .int a1), (2, .int a2), (3, .int a3)]) hx hb dX4_reachBy_46 hl (by decide) rfl (fun ls hl => ?_)
      refine lv_aload_n hx hb dX4_reachBy_48 rfl (lv_at hl 2 rfl) ?_
      refine tk_getA hC hK hw hT hinX4 kC_at155 (by decide) rfl 1 (by decide) (List.mem_cons_of_mem _ uw_5_23) rfl rfl dX4_reachBy_49 ?_
      refine tk_getO hC hK hw hT hinX7 kC_at39 (by decide) rfl 1 (by decide) (List.mem_cons_of_mem _ uw_50_7) rfl rfl dX4_reachBy_52 ?_
      refine lv_iload_n hx hb dX4_reachBy_55 rfl (lv_at hl 3 rfl) ?_
      refine tk_iald hC hK hw hT kC_at41 rfl rfl (show 0 ≤ a1.toInt from ra1) (show a1.toInt < 13 from Int.lt_of_le_of_lt ta1 (by decide)) dX4_reachBy_56 (fun x70 c71 rx70 tx70 => ?_)
      refine lv_istore (lv' := [(6, .int x70), (5, .int r62), (4, .int 0), (0, .ref (ad 155)), (1, .int a1), (2, .int a2), (3, .int a3)]) hx hb dX4_reachBy_57 hl (by decide) rfl (fun ls hl => ?_)
      refine lv_aload_n hx hb dX4_reachBy_59 rfl (lv_at hl 3 rfl) ?_
      refine tk_getA hC hK hw hT hinX4 kC_at155 (by decide) rfl 1 (by decide) (List.mem_cons_of_mem _ uw_5_23) rfl rfl dX4_reachBy_60 ?_
      refine lv_iload_n hx hb dX4_reachBy_63 rfl (lv_at hl 4 rfl) ?_
      refine lv_iload hx hb dX4_reachBy_64 (lv_at hl 2 rfl) ?_
      refine lv_aload_n hx hb dX4_reachBy_66 rfl (lv_at hl 3 rfl) ?_
      refine tk_getA hC hK hw hT hinX4 kC_at155 (by decide) rfl 2 (by decide) (List.mem_cons_of_mem _ uw_5_19) rfl rfl dX4_reachBy_67 ?_
      refine lv_iload_n hx hb dX4_reachBy_70 rfl (lv_at hl 5 rfl) ?_
      refine tk_iald hC hK hw hT kC_at156 rfl rfl (show 0 ≤ a2.toInt from ra2) (show a2.toInt < 10 from Int.lt_of_le_of_lt ta2 (by decide)) dX4_reachBy_71 (fun x72 c73 rx72 tx72 => ?_)
      refine lv_iload_n hx hb dX4_reachBy_72 rfl (lv_at hl 6 rfl) ?_
      refine lv_iload hx hb dX4_reachBy_73 (lv_at hl 0 rfl) ?_
      refine lv_isub hx hb dX4_reachBy_75 ?_
      refine lv_topi (fun x74 ex74 => ?_)
      have ex74 : x74.toInt = a3.toInt - x70.toInt := by rw [ex74]; exact wk_sub (show (-2147483648) ≤ a3.toInt - x70.toInt by omega) (show a3.toInt - x70.toInt ≤ 2147483647 by omega)
      refine tk_Vi hC hK hw hT hA hE hSR kC_at39 (by decide) rfl (k_X7_firstOpen_1 l adK adV dC dI cy ad B hB0 (Int.le_trans hB1 (by decide)) qr s1   a1 (show 0 ≤ a1.toInt from ra1) (show a1.toInt ≤ 11 from ta1) x72 (show (-1) ≤ x72.toInt from rx72) (show x72.toInt ≤ 102119 from tx72) x74 (show 1991 ≤ x74.toInt by first | with_reducible assumption | omega) (show x74.toInt ≤ 101999 by first | with_reducible assumption | omega) w64 H.size hT ) (cwV 4 hC.2.2.2.2 uV_RX4_57 rfl rfl rfl (by decide +kernel) ⟨Nat.le_of_ble_eq_true rfl, Nat.le_of_ble_eq_true rfl⟩) rfl hl.1 rfl (Nat.le_of_ble_eq_true rfl) dX4_reachBy_76 (fun r75 w77 H locs hp76 hw => ?_)
      obtain ⟨hT, k78, hg81⟩ := hp76
      have hF := hF.tr k78 (by decide)
      have c82 := k78.gi kC_at40 rfl c69
      rcases hg81 with ⟨g79, g80⟩ | rfl
      · refine lv_istore (lv' := [(7, .int r75), (6, .int x70), (5, .int r62), (4, .int 0), (0, .ref (ad 155)), (1, .int a1), (2, .int a2), (3, .int a3)]) hx hb dX4_reachBy_79 hl (by decide) rfl (fun ls hl => ?_)
        refine lv_iload hx hb dX4_reachBy_81 (lv_at hl 0 rfl) ?_
        refine lv_iconst (v := (-1)) hx hb dX4_reachBy_83 (by decide) ?_
        refine lv_icmp_eq (tgt := 125) hx hb dX4_reachBy_84 (by decide) (fun c => absurd c (fun h => absurd (show r75.toInt = (-1 : Int) from wk_eq.mp h) (by omega))) (fun _ => ?_)
        refine lv_aload_n hx hb dX4_reachBy_87 rfl (lv_at hl 4 rfl) ?_
        refine tk_getA hC hK hw hT hinX4 kC_at155 (by decide) rfl 2 (by decide) (List.mem_cons_of_mem _ uw_5_19) rfl rfl dX4_reachBy_88 ?_
        refine lv_iload hx hb dX4_reachBy_91 (lv_at hl 2 rfl) ?_
        refine tk_iald hC hK hw hT kC_at156 rfl rfl (show 0 ≤ r62.toInt by first | with_reducible assumption | omega) (show r62.toInt < 10 by first | with_reducible assumption | omega) dX4_reachBy_93 (fun x83 c84 rx83 tx83 => ?_)
        refine lv_iconst (v := (-1)) hx hb dX4_reachBy_94 (by decide) ?_
        refine lv_icmp_eq (tgt := 113) hx hb dX4_reachBy_95 (by decide) (fun c85 => ?_) (fun c85 => ?_)
        · have c85 : x83.toInt = (-1 : Int) := wk_eq.mp c85
          exact J113 0 r62 x70 r75 H locs ls w77 (show 0 ≤ a1.toInt from ra1) (show a1.toInt ≤ 11 from ta1) (show 0 ≤ a2.toInt from ra2) (show a2.toInt ≤ 9 from ta2) (show 2000 ≤ a3.toInt from ra3) (show a3.toInt ≤ 101999 from ta3) (by decide) (by decide) (show 0 ≤ r62.toInt by first | with_reducible assumption | omega) (show r62.toInt ≤ 9 by first | with_reducible assumption | omega) (show 0 ≤ x70.toInt from rx70) (show x70.toInt ≤ 9 from tx70) (show 0 ≤ r75.toInt by first | with_reducible assumption | omega) (show r75.toInt ≤ 101999 by first | with_reducible assumption | omega)  hw hT hF  (lv_sub hl [4, 5, 6, 7, 3, 2, 1, 0] rfl)
        · have c85 : ¬ x83.toInt = (-1 : Int) := wk_eqF c85
          refine lv_iload hx hb dX4_reachBy_98 (lv_at hl 0 rfl) ?_
          refine lv_iload hx hb dX4_reachBy_100 (lv_at hl 1 rfl) ?_
          refine lv_iadd hx hb dX4_reachBy_102 ?_
          refine lv_topi (fun x86 ex86 => ?_)
          have ex86 : x86.toInt = r75.toInt + x70.toInt := by rw [ex86]; exact wk_add (show (-2147483648) ≤ r75.toInt + x70.toInt by omega) (show r75.toInt + x70.toInt ≤ 2147483647 by omega)
          refine lv_aload_n hx hb dX4_reachBy_103 rfl (lv_at hl 4 rfl) ?_
          refine tk_getA hC hK hw hT hinX4 kC_at155 (by decide) rfl 2 (by decide) (List.mem_cons_of_mem _ uw_5_19) rfl rfl dX4_reachBy_104 ?_
          refine lv_iload hx hb dX4_reachBy_107 (lv_at hl 2 rfl) ?_
          refine tk_iald hC hK hw hT kC_at156 rfl rfl (show 0 ≤ r62.toInt by first | with_reducible assumption | omega) (show r62.toInt < 10 by first | with_reducible assumption | omega) dX4_reachBy_109 (fun x87 c88 rx87 tx87 => ?_)
          refine lv_icmp_ge (tgt := 125) hx hb dX4_reachBy_110 (by decide) (fun c89 => ?_) (fun c89 => ?_)
          · have c89 : x87.toInt ≤ x86.toInt := wk_le.mp c89
            exact J125 0 r62 x70 r75 H locs ls w77 (show 0 ≤ a1.toInt from ra1) (show a1.toInt ≤ 11 from ta1) (show 0 ≤ a2.toInt from ra2) (show a2.toInt ≤ 9 from ta2) (show 2000 ≤ a3.toInt from ra3) (show a3.toInt ≤ 101999 from ta3) (by decide) (by decide) (show 0 ≤ r62.toInt by first | with_reducible assumption | omega) (show r62.toInt ≤ 9 by first | with_reducible assumption | omega) (show 0 ≤ x70.toInt from rx70) (show x70.toInt ≤ 9 from tx70) (show (-1) ≤ r75.toInt by first | with_reducible assumption | omega) (show r75.toInt ≤ 101999 by first | with_reducible assumption | omega)  hw hT hF  (lv_sub hl [4, 5, 6, 7, 3, 2, 1, 0] rfl)
          · have c89 : x86.toInt < x87.toInt := wk_leF c89
            exact J113 0 r62 x70 r75 H locs ls w77 (show 0 ≤ a1.toInt from ra1) (show a1.toInt ≤ 11 from ta1) (show 0 ≤ a2.toInt from ra2) (show a2.toInt ≤ 9 from ta2) (show 2000 ≤ a3.toInt from ra3) (show a3.toInt ≤ 101999 from ta3) (by decide) (by decide) (show 0 ≤ r62.toInt by first | with_reducible assumption | omega) (show r62.toInt ≤ 9 by first | with_reducible assumption | omega) (show 0 ≤ x70.toInt from rx70) (show x70.toInt ≤ 9 from tx70) (show 0 ≤ r75.toInt by first | with_reducible assumption | omega) (show r75.toInt ≤ 101999 by first | with_reducible assumption | omega)  hw hT hF  (lv_sub hl [4, 5, 6, 7, 3, 2, 1, 0] rfl)
      · refine lv_istore (lv' := [(7, .int (-1)), (6, .int x70), (5, .int r62), (4, .int 0), (0, .ref (ad 155)), (1, .int a1), (2, .int a2), (3, .int a3)]) hx hb dX4_reachBy_79 hl (by decide) rfl (fun ls hl => ?_)
        refine lv_iload hx hb dX4_reachBy_81 (lv_at hl 0 rfl) ?_
        refine lv_iconst (v := (-1)) hx hb dX4_reachBy_83 (by decide) ?_
        refine lv_icmp_eq (tgt := 125) hx hb dX4_reachBy_84 (by decide) (fun _ => ?_) (fun c => absurd (by decide) c)
        exact J125 0 r62 x70 (-1) H locs ls w77 (show 0 ≤ a1.toInt from ra1) (show a1.toInt ≤ 11 from ta1) (show 0 ≤ a2.toInt from ra2) (show a2.toInt ≤ 9 from ta2) (show 2000 ≤ a3.toInt from ra3) (show a3.toInt ≤ 101999 from ta3) (by decide) (by decide) (show 0 ≤ r62.toInt by first | with_reducible assumption | omega) (show r62.toInt ≤ 9 by first | with_reducible assumption | omega) (show 0 ≤ x70.toInt from rx70) (show x70.toInt ≤ 9 from tx70) (by decide) (by decide)  hw hT hF  (lv_sub hl [4, 5, 6, 7, 3, 2, 1, 0] rfl)
    · have c61 : ¬ x59.toInt = (0 : Int) := wk_eqF c61
      exact J35 0 H locs ls w53 (show 0 ≤ a1.toInt from ra1) (show a1.toInt ≤ 11 from ta1) (show 0 ≤ a2.toInt from ra2) (show a2.toInt ≤ 9 from ta2) (show 2000 ≤ a3.toInt from ra3) (show a3.toInt ≤ 101999 from ta3) (by decide) (by decide)  hw hT hF  (lv_sub hl [1, 2, 3, 4, 0] rfl)
  · refine lv_istore (lv' := [(4, .int 1), (0, .ref (ad 155)), (1, .int a1), (2, .int a2), (3, .int a3)]) hx hb dX4_reachBy_9 hl (by decide) rfl (fun ls hl => ?_)
    refine lv_iload hx hb dX4_reachBy_11 (lv_at hl 0 rfl) ?_
    refine lv_iconst (v := (-1)) hx hb dX4_reachBy_13 (by decide) ?_
    refine lv_icmp_eq (tgt := 35) hx hb dX4_reachBy_14 (by decide) (fun c => absurd c (by decide)) (fun _ => ?_)
    refine lv_aload_n hx hb dX4_reachBy_17 rfl (lv_at hl 1 rfl) ?_
    refine tk_getA hC hK hw hT hinX4 kC_at155 (by decide) rfl 3 (by decide) (List.mem_cons_of_mem _ uw_5_20) rfl rfl dX4_reachBy_18 ?_
    refine lv_aload_n hx hb dX4_reachBy_21 rfl (lv_at hl 1 rfl) ?_
    refine tk_getA hC hK hw hT hinX4 kC_at155 (by decide) rfl 1 (by decide) (List.mem_cons_of_mem _ uw_5_23) rfl rfl dX4_reachBy_22 ?_
    refine lv_iload_n hx hb dX4_reachBy_25 rfl (lv_at hl 2 rfl) ?_
    refine lv_iload hx hb dX4_reachBy_26 (lv_at hl 0 rfl) ?_
    refine tk_Vi hC hK hw hT hA hE hSR kC_at39 (by decide) rfl (k_X7_cornerAcross_3 l adK adV dC dI cy ad B hB0 (Int.le_trans hB1 (by decide)) qr s1   a1 (show 0 ≤ a1.toInt from ra1) (show a1.toInt ≤ 11 from ta1) w46 H.size hT ) (cwV 2 hC.2.2.2.2 uV_RX4_51 rfl rfl rfl (by decide +kernel) ⟨Nat.le_of_ble_eq_true rfl, Nat.le_of_ble_eq_true rfl⟩) rfl hl.1 rfl (Nat.le_of_ble_eq_true rfl) dX4_reachBy_28 (fun r90 w92 H locs hp91 hw => ?_)
    obtain ⟨hT, k93, hg96⟩ := hp91
    have hF := hF.tr k93 (by decide)
    have c97 := k93.gi kC_at40 rfl c49
    obtain ⟨g94, g95⟩ := hg96
    refine tk_zald hC hK hw hT kC_at157 rfl rfl (show 0 ≤ r90.toInt by first | with_reducible assumption | omega) (show r90.toInt < 10 by first | with_reducible assumption | omega) dX4_reachBy_31 (fun x98 c99 rx98 tx98 => ?_)
    refine lv_if_eq (tgt := 36) hx hb dX4_reachBy_32 (by decide) (fun c100 => ?_) (fun c100 => ?_)
    · have c100 : x98.toInt = (0 : Int) := wk_eq.mp c100
      refine lv_aload_n hx hb dX4_reachBy_36 rfl (lv_at hl 1 rfl) ?_
      refine tk_getA hC hK hw hT hinX4 kC_at155 (by decide) rfl 1 (by decide) (List.mem_cons_of_mem _ uw_5_23) rfl rfl dX4_reachBy_37 ?_
      refine lv_iload_n hx hb dX4_reachBy_40 rfl (lv_at hl 2 rfl) ?_
      refine lv_iload hx hb dX4_reachBy_41 (lv_at hl 0 rfl) ?_
      refine tk_Vi hC hK hw hT hA hE hSR kC_at39 (by decide) rfl (k_X7_cornerAcross_3 l adK adV dC dI cy ad B hB0 (Int.le_trans hB1 (by decide)) qr s1   a1 (show 0 ≤ a1.toInt from ra1) (show a1.toInt ≤ 11 from ta1) w92 H.size hT ) (cwV 2 hC.2.2.2.2 uV_RX4_51 rfl rfl rfl (by decide +kernel) ⟨Nat.le_of_ble_eq_true rfl, Nat.le_of_ble_eq_true rfl⟩) rfl hl.1 rfl (Nat.le_of_ble_eq_true rfl) dX4_reachBy_43 (fun r101 w103 H locs hp102 hw => ?_)
      obtain ⟨hT, k104, hg107⟩ := hp102
      have hF := hF.tr k104 (by decide)
      have c108 := k104.gi kC_at40 rfl c97
      obtain ⟨g105, g106⟩ := hg107
      refine lv_istore (lv' := [(5, .int r101), (4, .int 1), (0, .ref (ad 155)), (1, .int a1), (2, .int a2), (3, .int a3)]) hx hb dX4_reachBy_46 hl (by decide) rfl (fun ls hl => ?_)
      refine lv_aload_n hx hb dX4_reachBy_48 rfl (lv_at hl 2 rfl) ?_
      refine tk_getA hC hK hw hT hinX4 kC_at155 (by decide) rfl 1 (by decide) (List.mem_cons_of_mem _ uw_5_23) rfl rfl dX4_reachBy_49 ?_
      refine tk_getO hC hK hw hT hinX7 kC_at39 (by decide) rfl 1 (by decide) (List.mem_cons_of_mem _ uw_50_7) rfl rfl dX4_reachBy_52 ?_
      refine lv_iload_n hx hb dX4_reachBy_55 rfl (lv_at hl 3 rfl) ?_
      refine tk_iald hC hK hw hT kC_at41 rfl rfl (show 0 ≤ a1.toInt from ra1) (show a1.toInt < 13 from Int.lt_of_le_of_lt ta1 (by decide)) dX4_reachBy_56 (fun x109 c110 rx109 tx109 => ?_)
      refine lv_istore (lv' := [(6, .int x109), (5, .int r101), (4, .int 1), (0, .ref (ad 155)), (1, .int a1), (2, .int a2), (3, .int a3)]) hx hb dX4_reachBy_57 hl (by decide) rfl (fun ls hl => ?_)
      refine lv_aload_n hx hb dX4_reachBy_59 rfl (lv_at hl 3 rfl) ?_
      refine tk_getA hC hK hw hT hinX4 kC_at155 (by decide) rfl 1 (by decide) (List.mem_cons_of_mem _ uw_5_23) rfl rfl dX4_reachBy_60 ?_
      refine lv_iload_n hx hb dX4_reachBy_63 rfl (lv_at hl 4 rfl) ?_
      refine lv_iload hx hb dX4_reachBy_64 (lv_at hl 2 rfl) ?_
      refine lv_aload_n hx hb dX4_reachBy_66 rfl (lv_at hl 3 rfl) ?_
      refine tk_getA hC hK hw hT hinX4 kC_at155 (by decide) rfl 2 (by decide) (List.mem_cons_of_mem _ uw_5_19) rfl rfl dX4_reachBy_67 ?_
      refine lv_iload_n hx hb dX4_reachBy_70 rfl (lv_at hl 5 rfl) ?_
      refine tk_iald hC hK hw hT kC_at156 rfl rfl (show 0 ≤ a2.toInt from ra2) (show a2.toInt < 10 from Int.lt_of_le_of_lt ta2 (by decide)) dX4_reachBy_71 (fun x111 c112 rx111 tx111 => ?_)
      refine lv_iload_n hx hb dX4_reachBy_72 rfl (lv_at hl 6 rfl) ?_
      refine lv_iload hx hb dX4_reachBy_73 (lv_at hl 0 rfl) ?_
      refine lv_isub hx hb dX4_reachBy_75 ?_
      refine lv_topi (fun x113 ex113 => ?_)
      have ex113 : x113.toInt = a3.toInt - x109.toInt := by rw [ex113]; exact wk_sub (show (-2147483648) ≤ a3.toInt - x109.toInt by omega) (show a3.toInt - x109.toInt ≤ 2147483647 by omega)
      refine tk_Vi hC hK hw hT hA hE hSR kC_at39 (by decide) rfl (k_X7_firstOpen_2 l adK adV dC dI cy ad B hB0 (Int.le_trans hB1 (by decide)) qr s1   a1 (show 0 ≤ a1.toInt from ra1) (show a1.toInt ≤ 11 from ta1) x111 (show (-1) ≤ x111.toInt from rx111) (show x111.toInt ≤ 102119 from tx111) x113 (show 1991 ≤ x113.toInt by first | with_reducible assumption | omega) (show x113.toInt ≤ 101999 by first | with_reducible assumption | omega) w103 H.size hT ) (cwV 4 hC.2.2.2.2 uV_RX4_57 rfl rfl rfl (by decide +kernel) ⟨Nat.le_of_ble_eq_true rfl, Nat.le_of_ble_eq_true rfl⟩) rfl hl.1 rfl (Nat.le_of_ble_eq_true rfl) dX4_reachBy_76 (fun r114 w116 H locs hp115 hw => ?_)
      obtain ⟨hT, k117, hg120⟩ := hp115
      have hF := hF.tr k117 (by decide)
      have c121 := k117.gi kC_at40 rfl c108
      rcases hg120 with ⟨g118, g119⟩ | rfl
      · refine lv_istore (lv' := [(7, .int r114), (6, .int x109), (5, .int r101), (4, .int 1), (0, .ref (ad 155)), (1, .int a1), (2, .int a2), (3, .int a3)]) hx hb dX4_reachBy_79 hl (by decide) rfl (fun ls hl => ?_)
        refine lv_iload hx hb dX4_reachBy_81 (lv_at hl 0 rfl) ?_
        refine lv_iconst (v := (-1)) hx hb dX4_reachBy_83 (by decide) ?_
        refine lv_icmp_eq (tgt := 125) hx hb dX4_reachBy_84 (by decide) (fun c => absurd c (fun h => absurd (show r114.toInt = (-1 : Int) from wk_eq.mp h) (by omega))) (fun _ => ?_)
        refine lv_aload_n hx hb dX4_reachBy_87 rfl (lv_at hl 4 rfl) ?_
        refine tk_getA hC hK hw hT hinX4 kC_at155 (by decide) rfl 2 (by decide) (List.mem_cons_of_mem _ uw_5_19) rfl rfl dX4_reachBy_88 ?_
        refine lv_iload hx hb dX4_reachBy_91 (lv_at hl 2 rfl) ?_
        refine tk_iald hC hK hw hT kC_at156 rfl rfl (show 0 ≤ r101.toInt by first | with_reducible assumption | omega) (show r101.toInt < 10 by first | with_reducible assumption | omega) dX4_reachBy_93 (fun x122 c123 rx122 tx122 => ?_)
        refine lv_iconst (v := (-1)) hx hb dX4_reachBy_94 (by decide) ?_
        refine lv_icmp_eq (tgt := 113) hx hb dX4_reachBy_95 (by decide) (fun c124 => ?_) (fun c124 => ?_)
        · have c124 : x122.toInt = (-1 : Int) := wk_eq.mp c124
          exact J113 1 r101 x109 r114 H locs ls w116 (show 0 ≤ a1.toInt from ra1) (show a1.toInt ≤ 11 from ta1) (show 0 ≤ a2.toInt from ra2) (show a2.toInt ≤ 9 from ta2) (show 2000 ≤ a3.toInt from ra3) (show a3.toInt ≤ 101999 from ta3) (by decide) (by decide) (show 0 ≤ r101.toInt by first | with_reducible assumption | omega) (show r101.toInt ≤ 9 by first | with_reducible assumption | omega) (show 0 ≤ x109.toInt from rx109) (show x109.toInt ≤ 9 from tx109) (show 0 ≤ r114.toInt by first | with_reducible assumption | omega) (show r114.toInt ≤ 101999 by first | with_reducible assumption | omega)  hw hT hF  (lv_sub hl [4, 5, 6, 7, 3, 2, 1, 0] rfl)
        · have c124 : ¬ x122.toInt = (-1 : Int) := wk_eqF c124
          refine lv_iload hx hb dX4_reachBy_98 (lv_at hl 0 rfl) ?_
          refine lv_iload hx hb dX4_reachBy_100 (lv_at hl 1 rfl) ?_
          refine lv_iadd hx hb dX4_reachBy_102 ?_
          refine lv_topi (fun x125 ex125 => ?_)
          have ex125 : x125.toInt = r114.toInt + x109.toInt := by rw [ex125]; exact wk_add (show (-2147483648) ≤ r114.toInt + x109.toInt by omega) (show r114.toInt + x109.toInt ≤ 2147483647 by omega)
          refine lv_aload_n hx hb dX4_reachBy_103 rfl (lv_at hl 4 rfl) ?_
          refine tk_getA hC hK hw hT hinX4 kC_at155 (by decide) rfl 2 (by decide) (List.mem_cons_of_mem _ uw_5_19) rfl rfl dX4_reachBy_104 ?_
          refine lv_iload hx hb dX4_reachBy_107 (lv_at hl 2 rfl) ?_
          refine tk_iald hC hK hw hT kC_at156 rfl rfl (show 0 ≤ r101.toInt by first | with_reducible assumption | omega) (show r101.toInt < 10 by first | with_reducible assumption | omega) dX4_reachBy_109 (fun x126 c127 rx126 tx126 => ?_)
          refine lv_icmp_ge (tgt := 125) hx hb dX4_reachBy_110 (by decide) (fun c128 => ?_) (fun c128 => ?_)
          · have c128 : x126.toInt ≤ x125.toInt := wk_le.mp c128
            exact J125 1 r101 x109 r114 H locs ls w116 (show 0 ≤ a1.toInt from ra1) (show a1.toInt ≤ 11 from ta1) (show 0 ≤ a2.toInt from ra2) (show a2.toInt ≤ 9 from ta2) (show 2000 ≤ a3.toInt from ra3) (show a3.toInt ≤ 101999 from ta3) (by decide) (by decide) (show 0 ≤ r101.toInt by first | with_reducible assumption | omega) (show r101.toInt ≤ 9 by first | with_reducible assumption | omega) (show 0 ≤ x109.toInt from rx109) (show x109.toInt ≤ 9 from tx109) (show (-1) ≤ r114.toInt by first | with_reducible assumption | omega) (show r114.toInt ≤ 101999 by first | with_reducible assumption | omega)  hw hT hF  (lv_sub hl [4, 5, 6, 7, 3, 2, 1, 0] rfl)
          · have c128 : x125.toInt < x126.toInt := wk_leF c128
            exact J113 1 r101 x109 r114 H locs ls w116 (show 0 ≤ a1.toInt from ra1) (show a1.toInt ≤ 11 from ta1) (show 0 ≤ a2.toInt from ra2) (show a2.toInt ≤ 9 from ta2) (show 2000 ≤ a3.toInt from ra3) (show a3.toInt ≤ 101999 from ta3) (by decide) (by decide) (show 0 ≤ r101.toInt by first | with_reducible assumption | omega) (show r101.toInt ≤ 9 by first | with_reducible assumption | omega) (show 0 ≤ x109.toInt from rx109) (show x109.toInt ≤ 9 from tx109) (show 0 ≤ r114.toInt by first | with_reducible assumption | omega) (show r114.toInt ≤ 101999 by first | with_reducible assumption | omega)  hw hT hF  (lv_sub hl [4, 5, 6, 7, 3, 2, 1, 0] rfl)
      · refine lv_istore (lv' := [(7, .int (-1)), (6, .int x109), (5, .int r101), (4, .int 1), (0, .ref (ad 155)), (1, .int a1), (2, .int a2), (3, .int a3)]) hx hb dX4_reachBy_79 hl (by decide) rfl (fun ls hl => ?_)
        refine lv_iload hx hb dX4_reachBy_81 (lv_at hl 0 rfl) ?_
        refine lv_iconst (v := (-1)) hx hb dX4_reachBy_83 (by decide) ?_
        refine lv_icmp_eq (tgt := 125) hx hb dX4_reachBy_84 (by decide) (fun _ => ?_) (fun c => absurd (by decide) c)
        exact J125 1 r101 x109 (-1) H locs ls w116 (show 0 ≤ a1.toInt from ra1) (show a1.toInt ≤ 11 from ta1) (show 0 ≤ a2.toInt from ra2) (show a2.toInt ≤ 9 from ta2) (show 2000 ≤ a3.toInt from ra3) (show a3.toInt ≤ 101999 from ta3) (by decide) (by decide) (show 0 ≤ r101.toInt by first | with_reducible assumption | omega) (show r101.toInt ≤ 9 by first | with_reducible assumption | omega) (show 0 ≤ x109.toInt from rx109) (show x109.toInt ≤ 9 from tx109) (by decide) (by decide)  hw hT hF  (lv_sub hl [4, 5, 6, 7, 3, 2, 1, 0] rfl)
    · have c100 : ¬ x98.toInt = (0 : Int) := wk_eqF c100
      exact J35 1 H locs ls w92 (show 0 ≤ a1.toInt from ra1) (show a1.toInt ≤ 11 from ta1) (show 0 ≤ a2.toInt from ra2) (show a2.toInt ≤ 9 from ta2) (show 2000 ≤ a3.toInt from ra3) (show a3.toInt ≤ 101999 from ta3) (by decide) (by decide)  hw hT hF  (lv_sub hl [1, 2, 3, 4, 0] rfl)
abbrev P_X4_earliestUnsettled_1 (ad : Nat → Nat) (cy : Nat → ClassId) (B : Int) (qr : Nat) (s1 : Int)  (w0 : va_W) : Int32 → va_W → Prop := fun r u => TW ksC ad cy B qr s1 u ∧ FE ksC ([] : List (Nat × Nat × Nat)) w0 u ∧ (((-1) ≤ r.toInt ∧ r.toInt ≤ 9))
set_option maxHeartbeats 4000000 in
set_option maxRecDepth 100000 in
theorem k_X4_earliestUnsettled_1 (l : Launch) (adK adV : Nat → Nat) (dC : Nat → ClassId) (dI : Nat → Nat → Nat) (cy : Nat → ClassId) (ad : Nat → Nat) (B : Int) (hB0 : 2147483648 ≤ B) (hB1 : B ≤ 1152921504606846976) (qr : Nat) (s1 : Int)   (w0 : va_W) (sz : Nat) (hT : TW ksC ad cy B qr s1 w0)  : Met l yX4_earliestUnsettled (wu yX4_earliestUnsettled cX4_earliestUnsettled 3 (some .int)) ({ frames := 1, cells := 0, slots := 0, locals := 12 }) (va_Pc [.ref (ad 155)] (wpreS adK adV dC dI cy sz w0)) (va_Qi (P_X4_earliestUnsettled_1 ad cy B qr s1  w0) (fun u : va_W => wpost dC dI cy (va_A w0 sz) u) (va_A w0 sz)) 0 0 (va_A w0 sz) := by
  refine Met.ofW (cc := cX4_earliestUnsettled) (maxL := 3) (ret := (some .int)) (by decide) rfl ?_
  intro p e s m args below meth c s₁ Bk hml hv
  obtain ⟨rfl, ⟨hsz, hP, hK, hD0⟩, hE, hSR⟩ := hv
  have hx := Bk.exec
  have hb := Bk.bytes
  have hr := Bk.returns
  have hlocks := Bk.notSynchronized
  have hC : CallFix p m c cX4_earliestUnsettled 3 s _ (wu yX4_earliestUnsettled cX4_earliestUnsettled 3 (some .int)) RX4 := ⟨hx, hb, hml, findClass_of_methodNamed Bk.named, atoms_spec (ws := (wu yX4_earliestUnsettled cX4_earliestUnsettled 3 (some .int))) Bk.pre⟩
  subst hsz
  have hD := hD0.self (sz := s.heap.size)
  generalize hAe : va_A w0 s.heap.size = A at hD hE ⊢
  have hA : ∀ q : Nat, s.heap.size ≤ q → A q := fun q h => by rw [← hAe]; exact Or.inr h
  have hw : Wd dC dI A s.heap s.heap [] w0 := ⟨hP, hD, va_S.rf⟩
  have hF : FE ksC ([] : List (Nat × Nat × Nat)) w0 w0 := FE.rf
  have hl := lv_entry ([.ref (ad 155)]) (n := 3) (Nat.le_of_ble_eq_true rfl)
  rw [lg_entry_eq]
  generalize (lg_sl ([.ref (ad 155)]) ++ List.replicate (3 - (lg_sl ([.ref (ad 155)])).length) Slot.unset).toArray = ls at hl ⊢
  have hl : lv_has ls 3 [(0, .ref (ad 155))] := hl
  generalize hloc : ([] : List Loc) = locs at hw ⊢
  have hinX4 : ∀ w ∈ u_ws RX4 TX4 4, w ∈ (wu yX4_earliestUnsettled cX4_earliestUnsettled 3 (some .int)) := fun _ h => List.mem_cons_of_mem _ (up_80 h)
  have hinX7 : ∀ w ∈ u_ws RX7 TX7 12, w ∈ (wu yX4_earliestUnsettled cX4_earliestUnsettled 3 (some .int)) := fun _ h => List.mem_cons_of_mem _ (up_73 h)
  have L4 : ∀ (n4 : Nat) (v4_1 : Int32) (v4_2 : Int32) (H : Heap) (locs : List Loc) (ls : Array Slot) (w1 : va_W), (-1) ≤ v4_1.toInt → v4_1.toInt ≤ 9 → 0 ≤ v4_2.toInt → v4_2.toInt ≤ 10 → (10 - v4_2.toInt).toNat < n4 → Wd dC dI A s.heap H locs w1 → TW ksC ad cy B qr s1 w1 → FE ksC ([] : List (Nat × Nat × Nat)) w0 w1 → lv_has ls 3 [(0, .ref (ad 155)), (1, .int v4_1), (2, .int v4_2)] → W p l e ({ frames := 1, cells := 0, slots := 0, locals := 12 }) s m (List.toArray [.ref (ad 155)]) below meth c H locs 0 0 (MQ below (va_Qi (P_X4_earliestUnsettled_1 ad cy B qr s1  w0) (fun u : va_W => wpost dC dI cy A u) A) (List.toArray [.ref (ad 155)]) s 0 0 A) (F0 m 4 ls []) := by
    intro n4
    induction n4 with
    | zero => intro v4_1 v4_2 H locs ls w1 r2 t3 r4 t5 hm4 hw hT hF hl; omega
    | succ n4 ih4 =>
      intro v4_1 v4_2 H locs ls w1 r2 t3 r4 t5 hm4 hw hT hF hl
      have J56 : ∀ (v56_1 : Int32) (f56_39_8 : Int32) (H : Heap) (locs : List Loc) (ls : Array Slot) (w6 : va_W), (-1) ≤ v56_1.toInt → v56_1.toInt ≤ 9 → 0 ≤ v4_2.toInt → v4_2.toInt ≤ 9 → 1 ≤ f56_39_8.toInt → f56_39_8.toInt ≤ 10 → Wd dC dI A s.heap H locs w6 → TW ksC ad cy B qr s1 w6 → FE ksC ([] : List (Nat × Nat × Nat)) w0 w6 → gi w6 39 8 = f56_39_8 → lv_has ls 3 [(0, .ref (ad 155)), (1, .int v56_1), (2, .int v4_2)] → W p l e ({ frames := 1, cells := 0, slots := 0, locals := 12 }) s m (List.toArray [.ref (ad 155)]) below meth c H locs 0 0 (MQ below (va_Qi (P_X4_earliestUnsettled_1 ad cy B qr s1  w0) (fun u : va_W => wpost dC dI cy A u) A) (List.toArray [.ref (ad 155)]) s 0 0 A) (F0 m 56 ls []) := by
        intro v56_1 f56_39_8 H locs ls w6 r7 t8 r9 t10 r11 t12 hw hT hF c13 hl
        obtain ⟨x14, ex14⟩ : ∃ y : Int32, y = v4_2 + Int32.ofInt 1 := ⟨_, rfl⟩
        refine lv_iinc (v := x14) (lv' := [(2, .int x14), (0, .ref (ad 155)), (1, .int v56_1)]) hx hb dX4_earliestUnsettled_56 hl (k := 2) rfl ex14.symm (by decide) rfl (fun ls hl => ?_)
        have ex14 : x14.toInt = v4_2.toInt + 1 := by rw [ex14]; exact wk_add (y := 1) (show -2147483648 ≤ v4_2.toInt + 1 by omega) (show v4_2.toInt + 1 ≤ 2147483647 by omega)
        refine lv_goto (tgt := 4) hx hb dX4_earliestUnsettled_59 (by decide) ?_
        exact ih4 v56_1 x14 H locs ls w6 (show (-1) ≤ v56_1.toInt from r7) (show v56_1.toInt ≤ 9 from t8) (show 0 ≤ x14.toInt by first | with_reducible assumption | omega) (show x14.toInt ≤ 10 by first | with_reducible assumption | omega) (show (10 - x14.toInt).toNat < n4 by first | exact tn_lt hm4 (by omega) (by omega) | omega) hw hT hF  (lv_sub hl [1, 2, 0] rfl)
      have J54 : ∀ (f54_39_8 : Int32) (H : Heap) (locs : List Loc) (ls : Array Slot) (w15 : va_W), (-1) ≤ v4_1.toInt → v4_1.toInt ≤ 9 → 0 ≤ v4_2.toInt → v4_2.toInt ≤ 9 → 1 ≤ f54_39_8.toInt → f54_39_8.toInt ≤ 10 → Wd dC dI A s.heap H locs w15 → TW ksC ad cy B qr s1 w15 → FE ksC ([] : List (Nat × Nat × Nat)) w0 w15 → gi w15 39 8 = f54_39_8 → lv_has ls 3 [(0, .ref (ad 155)), (1, .int v4_1), (2, .int v4_2)] → W p l e ({ frames := 1, cells := 0, slots := 0, locals := 12 }) s m (List.toArray [.ref (ad 155)]) below meth c H locs 0 0 (MQ below (va_Qi (P_X4_earliestUnsettled_1 ad cy B qr s1  w0) (fun u : va_W => wpost dC dI cy A u) A) (List.toArray [.ref (ad 155)]) s 0 0 A) (F0 m 54 ls []) := by
        intro f54_39_8 H locs ls w15 r16 t17 r18 t19 r20 t21 hw hT hF c22 hl
        refine lv_iload_n hx hb dX4_earliestUnsettled_54 rfl (lv_at hl 2 rfl) ?_
        refine lv_istore_n (lv' := [(1, .int v4_2), (0, .ref (ad 155)), (2, .int v4_2)]) hx hb dX4_earliestUnsettled_55 rfl hl (by decide) rfl (fun ls hl => ?_)
        exact J56 v4_2 f54_39_8 H locs ls w15 (show (-1) ≤ v4_2.toInt from Int.le_trans (by decide) r18) (show v4_2.toInt ≤ 9 from t19) (show 0 ≤ v4_2.toInt from r18) (show v4_2.toInt ≤ 9 from t19) (show 1 ≤ f54_39_8.toInt from r20) (show f54_39_8.toInt ≤ 10 from t21)  hw hT hF c22 (lv_sub hl [1, 0, 2] rfl)
      refine lv_iload_n hx hb dX4_earliestUnsettled_4 rfl (lv_at hl 2 rfl) ?_
      refine lv_aload_n hx hb dX4_earliestUnsettled_5 rfl (lv_at hl 0 rfl) ?_
      refine tk_getA hC hK hw hT hinX4 kC_at155 (by decide) rfl 1 (by decide) (List.mem_cons_of_mem _ uw_5_23) rfl rfl dX4_earliestUnsettled_6 ?_
      refine tk_geti hC hK hw hT hinX7 kC_at39 (by decide) rfl 8 (by decide) (List.mem_cons_of_mem _ uw_49_18) rfl rfl dX4_earliestUnsettled_9 (fun x23 c24 rx23 tx23 => ?_)
      refine lv_icmp_ge (tgt := 62) hx hb dX4_earliestUnsettled_12 (by decide) (fun c25 => ?_) (fun c25 => ?_)
      · have c25 : x23.toInt ≤ v4_2.toInt := wk_le.mp c25
        refine lv_iload_n hx hb dX4_earliestUnsettled_62 rfl (lv_at hl 1 rfl) ?_
        exact tk_iret hC hr hlocks hK ⟨hT, hF, ⟨(show (-1) ≤ v4_1.toInt from r2), (show v4_1.toInt ≤ 9 from t3)⟩⟩ hw dX4_earliestUnsettled_63
      · have c25 : v4_2.toInt < x23.toInt := wk_leF c25
        refine lv_aload_n hx hb dX4_earliestUnsettled_15 rfl (lv_at hl 0 rfl) ?_
        refine tk_getA hC hK hw hT hinX4 kC_at155 (by decide) rfl 3 (by decide) (List.mem_cons_of_mem _ uw_5_20) rfl rfl dX4_earliestUnsettled_16 ?_
        refine lv_iload_n hx hb dX4_earliestUnsettled_19 rfl (lv_at hl 2 rfl) ?_
        refine tk_zald hC hK hw hT kC_at157 rfl rfl (show 0 ≤ v4_2.toInt from r4) (show v4_2.toInt < 10 by first | with_reducible assumption | omega) dX4_earliestUnsettled_20 (fun x26 c27 rx26 tx26 => ?_)
        refine lv_if_ne (tgt := 56) hx hb dX4_earliestUnsettled_21 (by decide) (fun c28 => ?_) (fun c28 => ?_)
        · have c28 : ¬ x26.toInt = (0 : Int) := wk_eqF c28
          exact J56 v4_1 x23 H locs ls w1 (show (-1) ≤ v4_1.toInt from r2) (show v4_1.toInt ≤ 9 from t3) (show 0 ≤ v4_2.toInt from r4) (show v4_2.toInt ≤ 9 by first | with_reducible assumption | omega) (show 1 ≤ x23.toInt by first | with_reducible assumption | omega) (show x23.toInt ≤ 10 from tx23)  hw hT hF c24 (lv_sub hl [0, 1, 2] rfl)
        · have c28 : x26.toInt = (0 : Int) := wk_eq.mp c28
          refine lv_aload_n hx hb dX4_earliestUnsettled_24 rfl (lv_at hl 0 rfl) ?_
          refine tk_getA hC hK hw hT hinX4 kC_at155 (by decide) rfl 2 (by decide) (List.mem_cons_of_mem _ uw_5_19) rfl rfl dX4_earliestUnsettled_25 ?_
          refine lv_iload_n hx hb dX4_earliestUnsettled_28 rfl (lv_at hl 2 rfl) ?_
          refine tk_iald hC hK hw hT kC_at156 rfl rfl (show 0 ≤ v4_2.toInt from r4) (show v4_2.toInt < 10 by first | with_reducible assumption | omega) dX4_earliestUnsettled_29 (fun x29 c30 rx29 tx29 => ?_)
          refine lv_iconst (v := (-1)) hx hb dX4_earliestUnsettled_30 (by decide) ?_
          refine lv_icmp_eq (tgt := 56) hx hb dX4_earliestUnsettled_31 (by decide) (fun c31 => ?_) (fun c31 => ?_)
          · have c31 : x29.toInt = (-1 : Int) := wk_eq.mp c31
            exact J56 v4_1 x23 H locs ls w1 (show (-1) ≤ v4_1.toInt from r2) (show v4_1.toInt ≤ 9 from t3) (show 0 ≤ v4_2.toInt from r4) (show v4_2.toInt ≤ 9 by first | with_reducible assumption | omega) (show 1 ≤ x23.toInt by first | with_reducible assumption | omega) (show x23.toInt ≤ 10 from tx23)  hw hT hF c24 (lv_sub hl [0, 1, 2] rfl)
          · have c31 : ¬ x29.toInt = (-1 : Int) := wk_eqF c31
            refine lv_iload_n hx hb dX4_earliestUnsettled_34 rfl (lv_at hl 1 rfl) ?_
            refine lv_iconst (v := (-1)) hx hb dX4_earliestUnsettled_35 (by decide) ?_
            refine lv_icmp_eq (tgt := 54) hx hb dX4_earliestUnsettled_36 (by decide) (fun c32 => ?_) (fun c32 => ?_)
            · have c32 : v4_1.toInt = (-1 : Int) := wk_eq.mp c32
              exact J54 x23 H locs ls w1 (show (-1) ≤ v4_1.toInt from r2) (show v4_1.toInt ≤ 9 from t3) (show 0 ≤ v4_2.toInt from r4) (show v4_2.toInt ≤ 9 by first | with_reducible assumption | omega) (show 1 ≤ x23.toInt by first | with_reducible assumption | omega) (show x23.toInt ≤ 10 from tx23)  hw hT hF c24 (lv_sub hl [0, 1, 2] rfl)
            · have c32 : ¬ v4_1.toInt = (-1 : Int) := wk_eqF c32
              refine lv_aload_n hx hb dX4_earliestUnsettled_39 rfl (lv_at hl 0 rfl) ?_
              refine tk_getA hC hK hw hT hinX4 kC_at155 (by decide) rfl 2 (by decide) (List.mem_cons_of_mem _ uw_5_19) rfl rfl dX4_earliestUnsettled_40 ?_
              refine lv_iload_n hx hb dX4_earliestUnsettled_43 rfl (lv_at hl 2 rfl) ?_
              refine tk_iald hC hK hw hT kC_at156 rfl rfl (show 0 ≤ v4_2.toInt from r4) (show v4_2.toInt < 10 by first | with_reducible assumption | omega) dX4_earliestUnsettled_44 (fun x33 c34 rx33 tx33 => ?_)
              refine lv_aload_n hx hb dX4_earliestUnsettled_45 rfl (lv_at hl 0 rfl) ?_
              refine tk_getA hC hK hw hT hinX4 kC_at155 (by decide) rfl 2 (by decide) (List.mem_cons_of_mem _ uw_5_19) rfl rfl dX4_earliestUnsettled_46 ?_
              refine lv_iload_n hx hb dX4_earliestUnsettled_49 rfl (lv_at hl 1 rfl) ?_
              refine tk_iald hC hK hw hT kC_at156 rfl rfl (show 0 ≤ v4_1.toInt by first | with_reducible assumption | omega) (show v4_1.toInt < 10 from Int.lt_of_le_of_lt t3 (by decide)) dX4_earliestUnsettled_50 (fun x35 c36 rx35 tx35 => ?_)
              refine lv_icmp_ge (tgt := 56) hx hb dX4_earliestUnsettled_51 (by decide) (fun c37 => ?_) (fun c37 => ?_)
              · have c37 : x35.toInt ≤ x33.toInt := wk_le.mp c37
                exact J56 v4_1 x23 H locs ls w1 (show (-1) ≤ v4_1.toInt from r2) (show v4_1.toInt ≤ 9 from t3) (show 0 ≤ v4_2.toInt from r4) (show v4_2.toInt ≤ 9 by first | with_reducible assumption | omega) (show 1 ≤ x23.toInt by first | with_reducible assumption | omega) (show x23.toInt ≤ 10 from tx23)  hw hT hF c24 (lv_sub hl [0, 1, 2] rfl)
              · have c37 : x33.toInt < x35.toInt := wk_leF c37
                exact J54 x23 H locs ls w1 (show (-1) ≤ v4_1.toInt from r2) (show v4_1.toInt ≤ 9 from t3) (show 0 ≤ v4_2.toInt from r4) (show v4_2.toInt ≤ 9 by first | with_reducible assumption | omega) (show 1 ≤ x23.toInt by first | with_reducible assumption | omega) (show x23.toInt ≤ 10 from tx23)  hw hT hF c24 (lv_sub hl [0, 1, 2] rfl)
  refine lv_iconst (v := (-1)) hx hb dX4_earliestUnsettled_0 (by decide) ?_
  refine lv_istore_n (lv' := [(1, .int (-1)), (0, .ref (ad 155))]) hx hb dX4_earliestUnsettled_1 rfl hl (by decide) rfl (fun ls hl => ?_)
  refine lv_iconst (v := 0) hx hb dX4_earliestUnsettled_2 (by decide) ?_
  refine lv_istore_n (lv' := [(2, .int 0), (1, .int (-1)), (0, .ref (ad 155))]) hx hb dX4_earliestUnsettled_3 rfl hl (by decide) rfl (fun ls hl => ?_)
  exact L4 ((10 - (0 : Int)).toNat + 1) (-1) 0 s.heap locs ls w0 (by decide) (by decide) (by decide) (by decide) (Nat.lt_succ_self _) hw hT hF  (lv_sub hl [2, 1, 0] rfl)
abbrev P_X4_clear_1 (ad : Nat → Nat) (cy : Nat → ClassId) (B : Int) (qr : Nat) (s1 : Int)  (w0 : va_W) : va_W → Prop := fun u => TW ksC ad cy B qr s1 u ∧ FE ksC [(48, 0, 10), (49, 0, 10)] w0 u ∧ ((True))
set_option maxHeartbeats 4000000 in
set_option maxRecDepth 100000 in
theorem k_X4_clear_1 (l : Launch) (adK adV : Nat → Nat) (dC : Nat → ClassId) (dI : Nat → Nat → Nat) (cy : Nat → ClassId) (ad : Nat → Nat) (B : Int) (hB0 : 2147483648 ≤ B) (hB1 : B ≤ 1152921504606846976) (qr : Nat) (s1 : Int)   (w0 : va_W) (sz : Nat) (hT : TW ksC ad cy B qr s1 w0)  : Met l yX4_clear (wu yX4_clear cX4_clear 2 none) ({ frames := 1, cells := 0, slots := 0, locals := 12 }) (va_Pc [.ref (ad 155)] (wpreS adK adV dC dI cy sz w0)) (va_Qv (P_X4_clear_1 ad cy B qr s1  w0) (fun u : va_W => wpost dC dI cy (va_A w0 sz) u) (va_A w0 sz)) 0 0 (va_A w0 sz) := by
  refine Met.ofW (cc := cX4_clear) (maxL := 2) (ret := none) (by decide) rfl ?_
  intro p e s m args below meth c s₁ Bk hml hv
  obtain ⟨rfl, ⟨hsz, hP, hK, hD0⟩, hE, hSR⟩ := hv
  have hx := Bk.exec
  have hb := Bk.bytes
  have hr := Bk.returns
  have hlocks := Bk.notSynchronized
  have hC : CallFix p m c cX4_clear 2 s _ (wu yX4_clear cX4_clear 2 none) RX4 := ⟨hx, hb, hml, findClass_of_methodNamed Bk.named, atoms_spec (ws := (wu yX4_clear cX4_clear 2 none)) Bk.pre⟩
  subst hsz
  have hD := hD0.self (sz := s.heap.size)
  generalize hAe : va_A w0 s.heap.size = A at hD hE ⊢
  have hA : ∀ q : Nat, s.heap.size ≤ q → A q := fun q h => by rw [← hAe]; exact Or.inr h
  have hw : Wd dC dI A s.heap s.heap [] w0 := ⟨hP, hD, va_S.rf⟩
  have hF : FE ksC [(48, 0, 10), (49, 0, 10)] w0 w0 := FE.rf
  have hl := lv_entry ([.ref (ad 155)]) (n := 2) (Nat.le_of_ble_eq_true rfl)
  rw [lg_entry_eq]
  generalize (lg_sl ([.ref (ad 155)]) ++ List.replicate (2 - (lg_sl ([.ref (ad 155)])).length) Slot.unset).toArray = ls at hl ⊢
  have hl : lv_has ls 2 [(0, .ref (ad 155))] := hl
  generalize hloc : ([] : List Loc) = locs at hw ⊢
  have hinX4 : ∀ w ∈ u_ws RX4 TX4 4, w ∈ (wu yX4_clear cX4_clear 2 none) := fun _ h => List.mem_cons_of_mem _ (up_80 h)
  have L2 : ∀ (n2 : Nat) (v2_1 : Int32) (H : Heap) (locs : List Loc) (ls : Array Slot) (w1 : va_W), 0 ≤ v2_1.toInt → v2_1.toInt ≤ 10 → (10 - v2_1.toInt).toNat < n2 → Wd dC dI A s.heap H locs w1 → TW ksC ad cy B qr s1 w1 → FE ksC [(48, 0, 10), (49, 0, 10)] w0 w1 → lv_has ls 2 [(0, .ref (ad 155)), (1, .int v2_1)] → W p l e ({ frames := 1, cells := 0, slots := 0, locals := 12 }) s m (List.toArray [.ref (ad 155)]) below meth c H locs 0 0 (MQ below (va_Qv (P_X4_clear_1 ad cy B qr s1  w0) (fun u : va_W => wpost dC dI cy A u) A) (List.toArray [.ref (ad 155)]) s 0 0 A) (F0 m 2 ls []) := by
    intro n2
    induction n2 with
    | zero => intro v2_1 H locs ls w1 r2 t3 hm2 hw hT hF hl; omega
    | succ n2 ih2 =>
      intro v2_1 H locs ls w1 r2 t3 hm2 hw hT hF hl
      refine lv_iload_n hx hb dX4_clear_2 rfl (lv_at hl 1 rfl) ?_
      refine lv_bipush (v := 10) hx hb dX4_clear_3 (by decide) ?_
      refine lv_icmp_ge (tgt := 28) hx hb dX4_clear_5 (by decide) (fun c4 => ?_) (fun c4 => ?_)
      · have c4 : (10 : Int) ≤ v2_1.toInt := wk_le.mp c4
        exact tk_vret hC hr hlocks hK ⟨hT, hF, trivial⟩ hw dX4_clear_28
      · have c4 : v2_1.toInt < (10 : Int) := wk_leF c4
        refine lv_aload_n hx hb dX4_clear_8 rfl (lv_at hl 0 rfl) ?_
        refine tk_getA hC hK hw hT hinX4 kC_at155 (by decide) rfl 2 (by decide) (List.mem_cons_of_mem _ uw_5_19) rfl rfl dX4_clear_9 ?_
        refine lv_iload_n hx hb dX4_clear_12 rfl (lv_at hl 1 rfl) ?_
        refine lv_iconst (v := (-1)) hx hb dX4_clear_13 (by decide) ?_
        refine tk_iast hC hK hw hT kC_at156 (by decide) rfl rfl (show 0 ≤ v2_1.toInt from r2) (show v2_1.toInt < 10 from c4) (by decide) (by decide) dX4_clear_14 (fun H locs w5 hw hT k7 c6 => ?_)
        have hF := hF.put kC_at156 (inE_of (a := 0) (b := 10) (by decide) (show 0 ≤ v2_1.toInt.toNat by omega) (show v2_1.toInt.toNat ≤ 10 by omega)) k7
        refine lv_aload_n hx hb dX4_clear_15 rfl (lv_at hl 0 rfl) ?_
        refine tk_getA hC hK hw hT hinX4 kC_at155 (by decide) rfl 3 (by decide) (List.mem_cons_of_mem _ uw_5_20) rfl rfl dX4_clear_16 ?_
        refine lv_iload_n hx hb dX4_clear_19 rfl (lv_at hl 1 rfl) ?_
        refine lv_iconst (v := 0) hx hb dX4_clear_20 (by decide) ?_
        refine tk_zast hC hK hw hT kC_at157 (by decide) rfl rfl (show 0 ≤ v2_1.toInt from r2) (show v2_1.toInt < 10 from c4) (by decide) (by decide) dX4_clear_21 (fun H locs w8 hw hT k10 c9 => ?_)
        have hF := hF.put kC_at157 (inE_of (a := 0) (b := 10) (by decide) (show 0 ≤ v2_1.toInt.toNat by omega) (show v2_1.toInt.toNat ≤ 10 by omega)) k10
        obtain ⟨x11, ex11⟩ : ∃ y : Int32, y = v2_1 + Int32.ofInt 1 := ⟨_, rfl⟩
        refine lv_iinc (v := x11) (lv' := [(1, .int x11), (0, .ref (ad 155))]) hx hb dX4_clear_22 hl (k := 1) rfl ex11.symm (by decide) rfl (fun ls hl => ?_)
        have ex11 : x11.toInt = v2_1.toInt + 1 := by rw [ex11]; exact wk_add (y := 1) (show -2147483648 ≤ v2_1.toInt + 1 by omega) (show v2_1.toInt + 1 ≤ 2147483647 by omega)
        refine lv_goto (tgt := 2) hx hb dX4_clear_25 (by decide) ?_
        exact ih2 x11 H locs ls w8 (show 0 ≤ x11.toInt by first | with_reducible assumption | omega) (show x11.toInt ≤ 10 by first | with_reducible assumption | omega) (show (10 - x11.toInt).toNat < n2 by first | exact tn_lt hm2 (by omega) (by omega) | omega) hw hT hF  (lv_sub hl [1, 0] rfl)
  refine lv_iconst (v := 0) hx hb dX4_clear_0 (by decide) ?_
  refine lv_istore_n (lv' := [(1, .int 0), (0, .ref (ad 155))]) hx hb dX4_clear_1 rfl hl (by decide) rfl (fun ls hl => ?_)
  exact L2 ((10 - (0 : Int)).toNat + 1) 0 s.heap locs ls w0 (by decide) (by decide) (Nat.lt_succ_self _) hw hT hF  (lv_sub hl [1, 0] rfl)
abbrev P_X4_firstArrival_1 (ad : Nat → Nat) (cy : Nat → ClassId) (B : Int) (qr : Nat) (s1 : Int) (a1 : Int32) (a2 : Int32) (a3 : Int32) (a4 : Int32) (w0 : va_W) : Int32 → va_W → Prop := fun r u => TW ksC ad cy B qr s1 u ∧ FE ksC [(48, 0, 10), (49, 0, 10)] w0 u ∧ (((-1) ≤ r.toInt ∧ r.toInt ≤ 102119 ∧ (∃ y : Int32, gi u 39 8 = y ∧ 1 ≤ y.toInt ∧ y.toInt ≤ 10)) ∨ (r = (-1)))
set_option maxHeartbeats 4000000 in
set_option maxRecDepth 100000 in
theorem k_X4_firstArrival_1 (l : Launch) (adK adV : Nat → Nat) (dC : Nat → ClassId) (dI : Nat → Nat → Nat) (cy : Nat → ClassId) (ad : Nat → Nat) (B : Int) (hB0 : 2147483648 ≤ B) (hB1 : B ≤ 1152921504606846976) (qr : Nat) (s1 : Int)  (a1 : Int32) (ra1 : 0 ≤ a1.toInt) (ta1 : a1.toInt ≤ 12) (a2 : Int32) (ra2 : 0 ≤ a2.toInt) (ta2 : a2.toInt ≤ 9) (a3 : Int32) (ra3 : 0 ≤ a3.toInt) (ta3 : a3.toInt ≤ 9) (a4 : Int32) (ra4 : 0 ≤ a4.toInt) (ta4 : a4.toInt ≤ 99999) (w0 : va_W) (sz : Nat) (hT : TW ksC ad cy B qr s1 w0)  : Met l yX4_firstArrival (wu yX4_firstArrival cX4_firstArrival 8 (some .int)) ({ frames := 4, cells := 0, slots := 0, locals := 95 }) (va_Pc [.ref (ad 155), .int a1, .int a2, .int a3, .int a4] (wpreS adK adV dC dI cy sz w0)) (va_Qi (P_X4_firstArrival_1 ad cy B qr s1 a1 a2 a3 a4 w0) (fun u : va_W => wpost dC dI cy (va_A w0 sz) u) (va_A w0 sz)) 0 0 (va_A w0 sz) := by
  refine Met.ofW (cc := cX4_firstArrival) (maxL := 8) (ret := (some .int)) (by decide) rfl ?_
  intro p e s m args below meth c s₁ Bk hml hv
  obtain ⟨rfl, ⟨hsz, hP, hK, hD0⟩, hE, hSR⟩ := hv
  have hx := Bk.exec
  have hb := Bk.bytes
  have hr := Bk.returns
  have hlocks := Bk.notSynchronized
  have hC : CallFix p m c cX4_firstArrival 8 s _ (wu yX4_firstArrival cX4_firstArrival 8 (some .int)) RX4 := ⟨hx, hb, hml, findClass_of_methodNamed Bk.named, atoms_spec (ws := (wu yX4_firstArrival cX4_firstArrival 8 (some .int))) Bk.pre⟩
  subst hsz
  have hD := hD0.self (sz := s.heap.size)
  generalize hAe : va_A w0 s.heap.size = A at hD hE ⊢
  have hA : ∀ q : Nat, s.heap.size ≤ q → A q := fun q h => by rw [← hAe]; exact Or.inr h
  have hw : Wd dC dI A s.heap s.heap [] w0 := ⟨hP, hD, va_S.rf⟩
  have hF : FE ksC [(48, 0, 10), (49, 0, 10)] w0 w0 := FE.rf
  have hl := lv_entry ([.ref (ad 155), .int a1, .int a2, .int a3, .int a4]) (n := 8) (Nat.le_of_ble_eq_true rfl)
  rw [lg_entry_eq]
  generalize (lg_sl ([.ref (ad 155), .int a1, .int a2, .int a3, .int a4]) ++ List.replicate (8 - (lg_sl ([.ref (ad 155), .int a1, .int a2, .int a3, .int a4])).length) Slot.unset).toArray = ls at hl ⊢
  have hl : lv_has ls 8 [(0, .ref (ad 155)), (1, .int a1), (2, .int a2), (3, .int a3), (4, .int a4)] := hl
  generalize hloc : ([] : List Loc) = locs at hw ⊢
  have hinX4 : ∀ w ∈ u_ws RX4 TX4 4, w ∈ (wu yX4_firstArrival cX4_firstArrival 8 (some .int)) := fun _ h => List.mem_cons_of_mem _ (up_80 h)
  have hinX7 : ∀ w ∈ u_ws RX7 TX7 12, w ∈ (wu yX4_firstArrival cX4_firstArrival 8 (some .int)) := fun _ h => List.mem_cons_of_mem _ (up_73 h)
  have L15 : ∀ (n15 : Nat) (v15_5 : Int32) (H : Heap) (locs : List Loc) (ls : Array Slot) (w1 : va_W), 0 ≤ a1.toInt → a1.toInt ≤ 12 → 0 ≤ a2.toInt → a2.toInt ≤ 9 → 0 ≤ a3.toInt → a3.toInt ≤ 9 → 0 ≤ a4.toInt → a4.toInt ≤ 99999 → 0 ≤ v15_5.toInt → v15_5.toInt ≤ 10 → (10 - v15_5.toInt).toNat < n15 → Wd dC dI A s.heap H locs w1 → TW ksC ad cy B qr s1 w1 → FE ksC [(48, 0, 10), (49, 0, 10)] w0 w1 → lv_has ls 8 [(0, .ref (ad 155)), (1, .int a1), (2, .int a2), (3, .int a3), (4, .int a4), (5, .int v15_5)] → W p l e ({ frames := 4, cells := 0, slots := 0, locals := 95 }) s m (List.toArray [.ref (ad 155), .int a1, .int a2, .int a3, .int a4]) below meth c H locs 0 0 (MQ below (va_Qi (P_X4_firstArrival_1 ad cy B qr s1 a1 a2 a3 a4 w0) (fun u : va_W => wpost dC dI cy A u) A) (List.toArray [.ref (ad 155), .int a1, .int a2, .int a3, .int a4]) s 0 0 A) (F0 m 15 ls []) := by
    intro n15
    induction n15 with
    | zero => intro v15_5 H locs ls w1 r2 t3 r4 t5 r6 t7 r8 t9 r10 t11 hm15 hw hT hF hl; omega
    | succ n15 ih15 =>
      intro v15_5 H locs ls w1 r2 t3 r4 t5 r6 t7 r8 t9 r10 t11 hm15 hw hT hF hl
      have L65 : ∀ (n65 : Nat) (v65_6 : Int32) (v65_7 : Int32) (f65_39_8 : Int32) (H : Heap) (locs : List Loc) (ls : Array Slot) (w12 : va_W), 0 ≤ a1.toInt → a1.toInt ≤ 12 → 0 ≤ a2.toInt → a2.toInt ≤ 9 → 0 ≤ a3.toInt → a3.toInt ≤ 9 → 0 ≤ a4.toInt → a4.toInt ≤ 99999 → 0 ≤ v15_5.toInt → v15_5.toInt ≤ 9 → 0 ≤ v65_6.toInt → v65_6.toInt ≤ 9 → 0 ≤ v65_7.toInt → v65_7.toInt ≤ 12 → 1 ≤ f65_39_8.toInt → f65_39_8.toInt ≤ 10 → (12 - v65_7.toInt).toNat < n65 → Wd dC dI A s.heap H locs w12 → TW ksC ad cy B qr s1 w12 → FE ksC [(48, 0, 10), (49, 0, 10)] w0 w12 → gi w12 39 8 = f65_39_8 → lv_has ls 8 [(0, .ref (ad 155)), (1, .int a1), (2, .int a2), (3, .int a3), (4, .int a4), (5, .int v15_5), (6, .int v65_6), (7, .int v65_7)] → W p l e ({ frames := 4, cells := 0, slots := 0, locals := 95 }) s m (List.toArray [.ref (ad 155), .int a1, .int a2, .int a3, .int a4]) below meth c H locs 0 0 (MQ below (va_Qi (P_X4_firstArrival_1 ad cy B qr s1 a1 a2 a3 a4 w0) (fun u : va_W => wpost dC dI cy A u) A) (List.toArray [.ref (ad 155), .int a1, .int a2, .int a3, .int a4]) s 0 0 A) (F0 m 65 ls []) := by
        intro n65
        induction n65 with
        | zero => intro v65_6 v65_7 f65_39_8 H locs ls w12 r13 t14 r15 t16 r17 t18 r19 t20 r21 t22 r23 t24 r25 t26 r27 t28 hm65 hw hT hF c29 hl; omega
        | succ n65 ih65 =>
          intro v65_6 v65_7 f65_39_8 H locs ls w12 r13 t14 r15 t16 r17 t18 r19 t20 r21 t22 r23 t24 r25 t26 r27 t28 hm65 hw hT hF c29 hl
          refine lv_iload hx hb dX4_firstArrival_65 (lv_at hl 7 rfl) ?_
          refine lv_iload_n hx hb dX4_firstArrival_67 rfl (lv_at hl 1 rfl) ?_
          refine lv_icmp_ge (tgt := 91) hx hb dX4_firstArrival_68 (by decide) (fun c30 => ?_) (fun c30 => ?_)
          · have c30 : a1.toInt ≤ v65_7.toInt := wk_le.mp c30
            obtain ⟨x31, ex31⟩ : ∃ y : Int32, y = v15_5 + Int32.ofInt 1 := ⟨_, rfl⟩
            refine lv_iinc (v := x31) (lv' := [(5, .int x31), (0, .ref (ad 155)), (1, .int a1), (2, .int a2), (3, .int a3), (4, .int a4), (6, .int v65_6), (7, .int v65_7)]) hx hb dX4_firstArrival_91 hl (k := 5) rfl ex31.symm (by decide) rfl (fun ls hl => ?_)
            have ex31 : x31.toInt = v15_5.toInt + 1 := by rw [ex31]; exact wk_add (y := 1) (show -2147483648 ≤ v15_5.toInt + 1 by omega) (show v15_5.toInt + 1 ≤ 2147483647 by omega)
            refine lv_goto (tgt := 15) hx hb dX4_firstArrival_94 (by decide) ?_
            exact ih15 x31 H locs ls w12 (show 0 ≤ a1.toInt from r13) (show a1.toInt ≤ 12 from t14) (show 0 ≤ a2.toInt from r15) (show a2.toInt ≤ 9 from t16) (show 0 ≤ a3.toInt from r17) (show a3.toInt ≤ 9 from t18) (show 0 ≤ a4.toInt from r19) (show a4.toInt ≤ 99999 from t20) (show 0 ≤ x31.toInt by first | with_reducible assumption | omega) (show x31.toInt ≤ 10 by first | with_reducible assumption | omega) (show (10 - x31.toInt).toNat < n15 by first | exact tn_lt hm15 (by omega) (by omega) | omega) hw hT hF  (lv_sub hl [1, 2, 3, 4, 5, 0] rfl)
          · have c30 : v65_7.toInt < a1.toInt := wk_leF c30
            refine lv_aload_n hx hb dX4_firstArrival_71 rfl (lv_at hl 0 rfl) ?_
            refine lv_iload hx hb dX4_firstArrival_72 (lv_at hl 7 rfl) ?_
            refine lv_iload hx hb dX4_firstArrival_74 (lv_at hl 6 rfl) ?_
            refine lv_iload hx hb dX4_firstArrival_76 (lv_at hl 4 rfl) ?_
            refine lv_sipush (v := 2000) hx hb dX4_firstArrival_78 (by decide) ?_
            refine lv_iadd hx hb dX4_firstArrival_81 ?_
            refine lv_topi (fun x32 ex32 => ?_)
            have ex32 : x32.toInt = a4.toInt + (2000 : Int) := by rw [ex32]; exact wk_add (show (-2147483648) ≤ a4.toInt + (2000 : Int) by omega) (show a4.toInt + (2000 : Int) ≤ 2147483647 by omega)
            refine tk_Vv hC hK hw hT hA hE hSR kC_at155 (by decide) rfl (k_X4_reachBy_1 l adK adV dC dI cy ad B hB0 (Int.le_trans hB1 (by decide)) qr s1   v65_7 (show 0 ≤ v65_7.toInt from r25) (show v65_7.toInt ≤ 11 by first | with_reducible assumption | omega) v65_6 (show 0 ≤ v65_6.toInt from r23) (show v65_6.toInt ≤ 9 from t24) x32 (show 2000 ≤ x32.toInt by first | with_reducible assumption | omega) (show x32.toInt ≤ 101999 by first | with_reducible assumption | omega) w12 H.size hT ) (cwV 3 hC.2.2.2.2 uV_RX4_43 rfl rfl rfl (by decide +kernel) ⟨Nat.le_of_ble_eq_true rfl, Nat.le_of_ble_eq_true rfl⟩) rfl hl.1 rfl (Nat.le_of_ble_eq_true rfl) dX4_firstArrival_82 (fun w35 H locs hp34 hw => ?_)
            obtain ⟨hT, k36, hg37⟩ := hp34
            have hF := hF.tr k36 (by decide)
            have c38 := k36.gi kC_at39 (by decide) c29
            clear hg37
            obtain ⟨x39, ex39⟩ : ∃ y : Int32, y = v65_7 + Int32.ofInt 1 := ⟨_, rfl⟩
            refine lv_iinc (v := x39) (lv' := [(7, .int x39), (0, .ref (ad 155)), (1, .int a1), (2, .int a2), (3, .int a3), (4, .int a4), (5, .int v15_5), (6, .int v65_6)]) hx hb dX4_firstArrival_85 hl (k := 7) rfl ex39.symm (by decide) rfl (fun ls hl => ?_)
            have ex39 : x39.toInt = v65_7.toInt + 1 := by rw [ex39]; exact wk_add (y := 1) (show -2147483648 ≤ v65_7.toInt + 1 by omega) (show v65_7.toInt + 1 ≤ 2147483647 by omega)
            refine lv_goto (tgt := 65) hx hb dX4_firstArrival_88 (by decide) ?_
            exact ih65 v65_6 x39 f65_39_8 H locs ls w35 (show 0 ≤ a1.toInt from r13) (show a1.toInt ≤ 12 from t14) (show 0 ≤ a2.toInt from r15) (show a2.toInt ≤ 9 from t16) (show 0 ≤ a3.toInt from r17) (show a3.toInt ≤ 9 from t18) (show 0 ≤ a4.toInt from r19) (show a4.toInt ≤ 99999 from t20) (show 0 ≤ v15_5.toInt from r21) (show v15_5.toInt ≤ 9 from t22) (show 0 ≤ v65_6.toInt from r23) (show v65_6.toInt ≤ 9 from t24) (show 0 ≤ x39.toInt by first | with_reducible assumption | omega) (show x39.toInt ≤ 12 by first | with_reducible assumption | omega) (show 1 ≤ f65_39_8.toInt from r27) (show f65_39_8.toInt ≤ 10 from t28) (show (12 - x39.toInt).toNat < n65 by first | exact tn_lt hm65 (by omega) (by omega) | omega) hw hT hF c38 (lv_sub hl [1, 2, 3, 4, 5, 6, 7, 0] rfl)
      refine lv_iload hx hb dX4_firstArrival_15 (lv_at hl 5 rfl) ?_
      refine lv_aload_n hx hb dX4_firstArrival_17 rfl (lv_at hl 0 rfl) ?_
      refine tk_getA hC hK hw hT hinX4 kC_at155 (by decide) rfl 1 (by decide) (List.mem_cons_of_mem _ uw_5_23) rfl rfl dX4_firstArrival_18 ?_
      refine tk_geti hC hK hw hT hinX7 kC_at39 (by decide) rfl 8 (by decide) (List.mem_cons_of_mem _ uw_49_18) rfl rfl dX4_firstArrival_21 (fun x40 c41 rx40 tx40 => ?_)
      refine lv_icmp_ge (tgt := 97) hx hb dX4_firstArrival_24 (by decide) (fun c42 => ?_) (fun c42 => ?_)
      · have c42 : x40.toInt ≤ v15_5.toInt := wk_le.mp c42
        refine lv_iconst (v := (-1)) hx hb dX4_firstArrival_97 (by decide) ?_
        exact tk_iret hC hr hlocks hK ⟨hT, hF, (Or.inr rfl)⟩ hw dX4_firstArrival_98
      · have c42 : v15_5.toInt < x40.toInt := wk_leF c42
        refine lv_aload_n hx hb dX4_firstArrival_27 rfl (lv_at hl 0 rfl) ?_
        refine tk_Vi hC hK hw hT hA hE hSR kC_at155 (by decide) rfl (k_X4_earliestUnsettled_1 l adK adV dC dI cy ad B hB0 (Int.le_trans hB1 (by decide)) qr s1    w1 H.size hT ) (cwV 0 hC.2.2.2.2 uV_RX4_39 rfl rfl rfl (by decide +kernel) ⟨Nat.le_of_ble_eq_true rfl, Nat.le_of_ble_eq_true rfl⟩) rfl hl.1 rfl (Nat.le_of_ble_eq_true rfl) dX4_firstArrival_28 (fun r43 w45 H locs hp44 hw => ?_)
        obtain ⟨hT, k46, hg49⟩ := hp44
        have hF := hF.tr k46 (by decide)
        have c50 := k46.gi kC_at39 (by decide) c41
        obtain ⟨g47, g48⟩ := hg49
        refine lv_istore (lv' := [(6, .int r43), (0, .ref (ad 155)), (1, .int a1), (2, .int a2), (3, .int a3), (4, .int a4), (5, .int v15_5)]) hx hb dX4_firstArrival_31 hl (by decide) rfl (fun ls hl => ?_)
        refine lv_iload hx hb dX4_firstArrival_33 (lv_at hl 0 rfl) ?_
        refine lv_iconst (v := (-1)) hx hb dX4_firstArrival_35 (by decide) ?_
        refine lv_icmp_ne (tgt := 41) hx hb dX4_firstArrival_36 (by decide) (fun c51 => ?_) (fun c51 => ?_)
        · have c51 : ¬ r43.toInt = (-1 : Int) := wk_eqF c51
          refine lv_iload hx hb dX4_firstArrival_41 (lv_at hl 0 rfl) ?_
          refine lv_iload_n hx hb dX4_firstArrival_43 rfl (lv_at hl 4 rfl) ?_
          refine lv_icmp_ne (tgt := 54) hx hb dX4_firstArrival_44 (by decide) (fun c52 => ?_) (fun c52 => ?_)
          · have c52 : ¬ r43.toInt = a3.toInt := wk_eqF c52
            refine lv_aload_n hx hb dX4_firstArrival_54 rfl (lv_at hl 1 rfl) ?_
            refine tk_getA hC hK hw hT hinX4 kC_at155 (by decide) rfl 3 (by decide) (List.mem_cons_of_mem _ uw_5_20) rfl rfl dX4_firstArrival_55 ?_
            refine lv_iload hx hb dX4_firstArrival_58 (lv_at hl 0 rfl) ?_
            refine lv_iconst (v := 1) hx hb dX4_firstArrival_60 (by decide) ?_
            refine tk_zast hC hK hw hT kC_at157 (by decide) rfl rfl (show 0 ≤ r43.toInt by first | with_reducible assumption | omega) (show r43.toInt < 10 by first | with_reducible assumption | omega) (by decide) (by decide) dX4_firstArrival_61 (fun H locs w53 hw hT k55 c54 => ?_)
            have hF := hF.put kC_at157 (inE_of (a := 0) (b := 10) (by decide) (show 0 ≤ r43.toInt.toNat by omega) (show r43.toInt.toNat ≤ 10 by omega)) k55
            have c56 := k55.gi (Or.inl (tk_ne kC_at39 kC_at157 (by decide))) c50
            refine lv_iconst (v := 0) hx hb dX4_firstArrival_62 (by decide) ?_
            refine lv_istore (lv' := [(7, .int 0), (6, .int r43), (0, .ref (ad 155)), (1, .int a1), (2, .int a2), (3, .int a3), (4, .int a4), (5, .int v15_5)]) hx hb dX4_firstArrival_63 hl (by decide) rfl (fun ls hl => ?_)
            exact L65 ((12 - (0 : Int)).toNat + 1) r43 0 x40 H locs ls w53 (show 0 ≤ a1.toInt from r2) (show a1.toInt ≤ 12 from t3) (show 0 ≤ a2.toInt from r4) (show a2.toInt ≤ 9 from t5) (show 0 ≤ a3.toInt from r6) (show a3.toInt ≤ 9 from t7) (show 0 ≤ a4.toInt from r8) (show a4.toInt ≤ 99999 from t9) (show 0 ≤ v15_5.toInt from r10) (show v15_5.toInt ≤ 9 by first | with_reducible assumption | omega) (show 0 ≤ r43.toInt by first | with_reducible assumption | omega) (show r43.toInt ≤ 9 by first | with_reducible assumption | omega) (by decide) (by decide) (show 1 ≤ x40.toInt by first | with_reducible assumption | omega) (show x40.toInt ≤ 10 from tx40) (Nat.lt_succ_self _) hw hT hF c56 (lv_sub hl [2, 3, 4, 5, 6, 7, 1, 0] rfl)
          · have c52 : r43.toInt = a3.toInt := wk_eq.mp c52
            refine lv_aload_n hx hb dX4_firstArrival_47 rfl (lv_at hl 1 rfl) ?_
            refine tk_getA hC hK hw hT hinX4 kC_at155 (by decide) rfl 2 (by decide) (List.mem_cons_of_mem _ uw_5_19) rfl rfl dX4_firstArrival_48 ?_
            refine lv_iload_n hx hb dX4_firstArrival_51 rfl (lv_at hl 4 rfl) ?_
            refine tk_iald hC hK hw hT kC_at156 rfl rfl (show 0 ≤ a3.toInt from r6) (show a3.toInt < 10 from Int.lt_of_le_of_lt t7 (by decide)) dX4_firstArrival_52 (fun x57 c58 rx57 tx57 => ?_)
            exact tk_iret hC hr hlocks hK ⟨hT, hF, (Or.inl ⟨(show (-1) ≤ x57.toInt from rx57), (show x57.toInt ≤ 102119 from tx57), ⟨x40, c50, (show 1 ≤ x40.toInt by first | with_reducible assumption | omega), (show x40.toInt ≤ 10 from tx40)⟩⟩)⟩ hw dX4_firstArrival_53
        · have c51 : r43.toInt = (-1 : Int) := wk_eq.mp c51
          refine lv_iconst (v := (-1)) hx hb dX4_firstArrival_39 (by decide) ?_
          exact tk_iret hC hr hlocks hK ⟨hT, hF, (Or.inr rfl)⟩ hw dX4_firstArrival_40
  refine lv_aload_n hx hb dX4_firstArrival_0 rfl (lv_at hl 0 rfl) ?_
  refine tk_Vv hC hK hw hT hA hE hSR kC_at155 (by decide) rfl (k_X4_clear_1 l adK adV dC dI cy ad B hB0 (Int.le_trans hB1 (by decide)) qr s1    w0 s.heap.size hT ) (cwV 0 hC.2.2.2.2 uV_RX4_30 rfl rfl rfl (by decide +kernel) ⟨Nat.le_of_ble_eq_true rfl, Nat.le_of_ble_eq_true rfl⟩) rfl hl.1 rfl (Nat.le_of_ble_eq_true rfl) dX4_firstArrival_1 (fun w61 H locs hp60 hw => ?_)
  obtain ⟨hT, k62, hg63⟩ := hp60
  have hF := hF.tr k62 (by decide)
  clear hg63
  refine lv_aload_n hx hb dX4_firstArrival_4 rfl (lv_at hl 0 rfl) ?_
  refine tk_getA hC hK hw hT hinX4 kC_at155 (by decide) rfl 2 (by decide) (List.mem_cons_of_mem _ uw_5_19) rfl rfl dX4_firstArrival_5 ?_
  refine lv_iload_n hx hb dX4_firstArrival_8 rfl (lv_at hl 2 rfl) ?_
  refine lv_iload hx hb dX4_firstArrival_9 (lv_at hl 4 rfl) ?_
  refine tk_iast hC hK hw hT kC_at156 (by decide) rfl rfl (show 0 ≤ a2.toInt from ra2) (show a2.toInt < 10 from Int.lt_of_le_of_lt ta2 (by decide)) (show (-1) ≤ a4.toInt from Int.le_trans (by decide) ra4) (show a4.toInt ≤ 102119 from Int.le_trans ta4 (by decide)) dX4_firstArrival_11 (fun H locs w64 hw hT k66 c65 => ?_)
  have hF := hF.put kC_at156 (inE_of (a := 0) (b := 10) (by decide) (show 0 ≤ a2.toInt.toNat by omega) (show a2.toInt.toNat ≤ 10 by omega)) k66
  refine lv_iconst (v := 0) hx hb dX4_firstArrival_12 (by decide) ?_
  refine lv_istore (lv' := [(5, .int 0), (0, .ref (ad 155)), (1, .int a1), (2, .int a2), (3, .int a3), (4, .int a4)]) hx hb dX4_firstArrival_13 hl (by decide) rfl (fun ls hl => ?_)
  exact L15 ((10 - (0 : Int)).toNat + 1) 0 H locs ls w64 (show 0 ≤ a1.toInt from ra1) (show a1.toInt ≤ 12 from ta1) (show 0 ≤ a2.toInt from ra2) (show a2.toInt ≤ 9 from ta2) (show 0 ≤ a3.toInt from ra3) (show a3.toInt ≤ 9 from ta3) (show 0 ≤ a4.toInt from ra4) (show a4.toInt ≤ 99999 from ta4) (by decide) (by decide) (Nat.lt_succ_self _) hw hT hF  (lv_sub hl [1, 2, 3, 4, 5, 0] rfl)
abbrev P_X11_soonest_1 (ad : Nat → Nat) (cy : Nat → ClassId) (B : Int) (qr : Nat) (s1 : Int) (a1 : Int32) (a2 : Int32) (a3 : Int32) (w0 : va_W) : Int32 → va_W → Prop := fun r u => TW ksC ad cy B qr s1 u ∧ FE ksC [(48, 0, 10), (49, 0, 10)] w0 u ∧ ((r = (-2) ∧ 0 ≤ a1.toInt ∧ a1.toInt ≤ 9 ∧ 0 ≤ a2.toInt ∧ a2.toInt ≤ 9 ∧ 0 ≤ a3.toInt ∧ a3.toInt ≤ 99999 ∧ (∃ y : Int32, gi u 39 8 = y ∧ 1 ≤ y.toInt ∧ y.toInt ≤ 10)) ∨ (0 ≤ r.toInt ∧ r.toInt ≤ 102119 ∧ 0 ≤ a1.toInt ∧ a1.toInt ≤ 9 ∧ 0 ≤ a2.toInt ∧ a2.toInt ≤ 9 ∧ 0 ≤ a3.toInt ∧ a3.toInt ≤ 99999 ∧ (∃ y : Int32, gi u 39 8 = y ∧ 1 ≤ y.toInt ∧ y.toInt ≤ 10)) ∨ (r = (-1)))
set_option maxHeartbeats 4000000 in
set_option maxRecDepth 100000 in
theorem k_X11_soonest_1 (l : Launch) (adK adV : Nat → Nat) (dC : Nat → ClassId) (dI : Nat → Nat → Nat) (cy : Nat → ClassId) (ad : Nat → Nat) (B : Int) (hB0 : 2147483648 ≤ B) (hB1 : B ≤ 1152921504606846976) (qr : Nat) (s1 : Int)  (a1 : Int32) (a2 : Int32) (a3 : Int32) (w0 : va_W) (sz : Nat) (hT : TW ksC ad cy B qr s1 w0)  : Met l yX11_soonest (wu yX11_soonest cX11_soonest 5 (some .int)) ({ frames := 5, cells := 0, slots := 0, locals := 122 }) (va_Pc [.ref (ad 0), .int a1, .int a2, .int a3] (wpreS adK adV dC dI cy sz w0)) (va_Qi (P_X11_soonest_1 ad cy B qr s1 a1 a2 a3 w0) (fun u : va_W => wpost dC dI cy (va_A w0 sz) u) (va_A w0 sz)) 0 0 (va_A w0 sz) := by
  refine Met.ofW (cc := cX11_soonest) (maxL := 5) (ret := (some .int)) (by decide) rfl ?_
  intro p e s m args below meth c s₁ Bk hml hv
  obtain ⟨rfl, ⟨hsz, hP, hK, hD0⟩, hE, hSR⟩ := hv
  have hx := Bk.exec
  have hb := Bk.bytes
  have hr := Bk.returns
  have hlocks := Bk.notSynchronized
  have hC : CallFix p m c cX11_soonest 5 s _ (wu yX11_soonest cX11_soonest 5 (some .int)) RX11 := ⟨hx, hb, hml, findClass_of_methodNamed Bk.named, atoms_spec (ws := (wu yX11_soonest cX11_soonest 5 (some .int))) Bk.pre⟩
  subst hsz
  have hD := hD0.self (sz := s.heap.size)
  generalize hAe : va_A w0 s.heap.size = A at hD hE ⊢
  have hA : ∀ q : Nat, s.heap.size ≤ q → A q := fun q h => by rw [← hAe]; exact Or.inr h
  have hw : Wd dC dI A s.heap s.heap [] w0 := ⟨hP, hD, va_S.rf⟩
  have hF : FE ksC [(48, 0, 10), (49, 0, 10)] w0 w0 := FE.rf
  have hl := lv_entry ([.ref (ad 0), .int a1, .int a2, .int a3]) (n := 5) (Nat.le_of_ble_eq_true rfl)
  rw [lg_entry_eq]
  generalize (lg_sl ([.ref (ad 0), .int a1, .int a2, .int a3]) ++ List.replicate (5 - (lg_sl ([.ref (ad 0), .int a1, .int a2, .int a3])).length) Slot.unset).toArray = ls at hl ⊢
  have hl : lv_has ls 5 [(0, .ref (ad 0)), (1, .int a1), (2, .int a2), (3, .int a3)] := hl
  generalize hloc : ([] : List Loc) = locs at hw ⊢
  have hinX11 : ∀ w ∈ u_ws RX11 TX11 13, w ∈ (wu yX11_soonest cX11_soonest 5 (some .int)) := fun _ h => List.mem_cons_of_mem _ (up_70 h)
  have hinX5 : ∀ w ∈ u_ws RX5 TX5 14, w ∈ (wu yX11_soonest cX11_soonest 5 (some .int)) := fun _ h => List.mem_cons_of_mem _ (up_76 h)
  have hinX7 : ∀ w ∈ u_ws RX7 TX7 12, w ∈ (wu yX11_soonest cX11_soonest 5 (some .int)) := fun _ h => List.mem_cons_of_mem _ (up_73 h)
  have J23 : ∀ (H : Heap) (locs : List Loc) (ls : Array Slot) (w1 : va_W), Wd dC dI A s.heap H locs w1 → TW ksC ad cy B qr s1 w1 → FE ksC [(48, 0, 10), (49, 0, 10)] w0 w1 → lv_has ls 5 [(0, .ref (ad 0)), (1, .int a1), (2, .int a2), (3, .int a3)] → W p l e ({ frames := 5, cells := 0, slots := 0, locals := 122 }) s m (List.toArray [.ref (ad 0), .int a1, .int a2, .int a3]) below meth c H locs 0 0 (MQ below (va_Qi (P_X11_soonest_1 ad cy B qr s1 a1 a2 a3 w0) (fun u : va_W => wpost dC dI cy A u) A) (List.toArray [.ref (ad 0), .int a1, .int a2, .int a3]) s 0 0 A) (F0 m 23 ls []) := by
    intro H locs ls w1 hw hT hF hl
    refine lv_iconst (v := (-1)) hx hb dX11_soonest_23 (by decide) ?_
    exact tk_iret hC hr hlocks hK ⟨hT, hF, (Or.inr (Or.inr rfl))⟩ hw dX11_soonest_24
  refine lv_aload_n hx hb dX11_soonest_0 rfl (lv_at hl 0 rfl) ?_
  refine lv_iload_n hx hb dX11_soonest_1 rfl (lv_at hl 1 rfl) ?_
  refine tk_Vi hC hK hw hT hA hE hSR kC_at0 (by decide) rfl (k_X11_hasCorner_1 l adK adV dC dI cy ad B hB0 (Int.le_trans hB1 (by decide)) qr s1   a1 w0 s.heap.size hT ) (cwV 1 hC.2.2.2.2 uV_RX11_176 rfl rfl rfl (by decide +kernel) ⟨Nat.le_of_ble_eq_true rfl, Nat.le_of_ble_eq_true rfl⟩) rfl hl.1 rfl (Nat.le_of_ble_eq_true rfl) dX11_soonest_2 (fun r2 w4 H locs hp3 hw => ?_)
  obtain ⟨hT, k5, hg10⟩ := hp3
  have hF := hF.tr k5 (by decide)
  rcases hg10 with rfl | ⟨rfl, g6, g7, ⟨x8, c9, rx8, tx8⟩⟩
  · refine lv_if_eq (tgt := 23) hx hb dX11_soonest_5 (by decide) (fun _ => ?_) (fun c => absurd (by decide) c)
    exact J23  H locs ls w4   hw hT hF  (lv_sub hl [0, 1, 2, 3] rfl)
  · refine lv_if_eq (tgt := 23) hx hb dX11_soonest_5 (by decide) (fun c => absurd c (by decide)) (fun _ => ?_)
    refine lv_aload_n hx hb dX11_soonest_8 rfl (lv_at hl 0 rfl) ?_
    refine lv_iload_n hx hb dX11_soonest_9 rfl (lv_at hl 2 rfl) ?_
    refine tk_Vi hC hK hw hT hA hE hSR kC_at0 (by decide) rfl (k_X11_hasCorner_1 l adK adV dC dI cy ad B hB0 (Int.le_trans hB1 (by decide)) qr s1   a2 w4 H.size hT ) (cwV 1 hC.2.2.2.2 uV_RX11_176 rfl rfl rfl (by decide +kernel) ⟨Nat.le_of_ble_eq_true rfl, Nat.le_of_ble_eq_true rfl⟩) rfl hl.1 rfl (Nat.le_of_ble_eq_true rfl) dX11_soonest_10 (fun r11 w13 H locs hp12 hw => ?_)
    obtain ⟨hT, k14, hg19⟩ := hp12
    have hF := hF.tr k14 (by decide)
    have c20 := k14.gi kC_at39 (by decide) c9
    rcases hg19 with rfl | ⟨rfl, g15, g16, ⟨x17, c18, rx17, tx17⟩⟩
    · refine lv_if_eq (tgt := 23) hx hb dX11_soonest_13 (by decide) (fun _ => ?_) (fun c => absurd (by decide) c)
      exact J23  H locs ls w13   hw hT hF  (lv_sub hl [0, 1, 2, 3] rfl)
    · have ex17 : x17.toInt = x8.toInt := by rw [← c20.symm.trans c18]
      refine lv_if_eq (tgt := 23) hx hb dX11_soonest_13 (by decide) (fun c => absurd c (by decide)) (fun _ => ?_)
      refine lv_iload_n hx hb dX11_soonest_16 rfl (lv_at hl 3 rfl) ?_
      refine tk_Si hC hK hw hT hA hE hSR (k_X11_isAskedHour_1 l adK adV dC dI cy ad B hB0 (Int.le_trans hB1 (by decide)) qr s1   a3 w13 H.size hT ) (va_cwS 1 hC.2.2.2.2 uS_RX11_222 rfl rfl rfl (by decide +kernel) ⟨Nat.le_of_ble_eq_true rfl, Nat.le_of_ble_eq_true rfl⟩) rfl hl.1 rfl (Nat.le_of_ble_eq_true rfl) dX11_soonest_17 (fun r21 w23 H locs hp22 hw => ?_)
      obtain ⟨hT, k24, hg27⟩ := hp22
      have hF := hF.tr k24 (by decide)
      have c28 := k24.gi kC_at39 (by decide) c20
      rcases hg27 with rfl | ⟨rfl, g25, g26⟩
      · refine lv_if_ne (tgt := 25) hx hb dX11_soonest_20 (by decide) (fun c => absurd (by decide) c) (fun _ => ?_)
        exact J23  H locs ls w23   hw hT hF  (lv_sub hl [0, 1, 2, 3] rfl)
      · refine lv_if_ne (tgt := 25) hx hb dX11_soonest_20 (by decide) (fun _ => ?_) (fun c => absurd c (by decide))
        refine lv_aload_n hx hb dX11_soonest_25 rfl (lv_at hl 0 rfl) ?_
        refine tk_getA hC hK hw hT hinX11 kC_at0 (by decide) rfl 10 (by decide) (List.mem_cons_of_mem _ uw_2_2) rfl rfl dX11_soonest_26 ?_
        refine lv_aload_n hx hb dX11_soonest_29 rfl (lv_at hl 0 rfl) ?_
        refine tk_getA hC hK hw hT hinX11 kC_at0 (by decide) rfl 4 (by decide) (List.mem_cons_of_mem _ uw_1_7) rfl rfl dX11_soonest_30 ?_
        refine tk_getO hC hK hw hT hinX5 kC_at38 (by decide) rfl 0 (by decide) (List.mem_cons_of_mem _ uw_9_1) rfl rfl dX11_soonest_33 ?_
        refine tk_geti hC hK hw hT hinX7 kC_at39 (by decide) rfl 9 (by decide) (List.mem_cons_of_mem _ uw_9_2) rfl rfl dX11_soonest_36 (fun x29 c30 rx29 tx29 => ?_)
        refine lv_iload_n hx hb dX11_soonest_39 rfl (lv_at hl 1 rfl) ?_
        refine lv_iload_n hx hb dX11_soonest_40 rfl (lv_at hl 2 rfl) ?_
        refine lv_iload_n hx hb dX11_soonest_41 rfl (lv_at hl 3 rfl) ?_
        refine tk_Vi hC hK hw hT hA hE hSR kC_at155 (by decide) rfl (k_X4_firstArrival_1 l adK adV dC dI cy ad B hB0 (Int.le_trans hB1 (by decide)) qr s1   x29 (show 0 ≤ x29.toInt from rx29) (show x29.toInt ≤ 12 from tx29) a1 (show 0 ≤ a1.toInt by first | with_reducible assumption | omega) (show a1.toInt ≤ 9 by first | with_reducible assumption | omega) a2 (show 0 ≤ a2.toInt by first | with_reducible assumption | omega) (show a2.toInt ≤ 9 by first | with_reducible assumption | omega) a3 (show 0 ≤ a3.toInt by first | with_reducible assumption | omega) (show a3.toInt ≤ 99999 by first | with_reducible assumption | omega) w23 H.size hT ) (cwV 4 hC.2.2.2.2 uV_RX11_225 rfl rfl rfl (by decide +kernel) ⟨Nat.le_of_ble_eq_true rfl, Nat.le_of_ble_eq_true rfl⟩) rfl hl.1 rfl (Nat.le_of_ble_eq_true rfl) dX11_soonest_42 (fun r31 w33 H locs hp32 hw => ?_)
        obtain ⟨hT, k34, hg39⟩ := hp32
        have hF := hF.tr k34 (by decide)
        have c40 := k34.gi kC_at39 (by decide) c28
        have c41 := k34.gi kC_at39 (by decide) c30
        rcases hg39 with ⟨g35, g36, ⟨x37, c38, rx37, tx37⟩⟩ | rfl
        · have ex37 : x37.toInt = x8.toInt := by rw [← c40.symm.trans c38]
          refine lv_istore (lv' := [(4, .int r31), (0, .ref (ad 0)), (1, .int a1), (2, .int a2), (3, .int a3)]) hx hb dX11_soonest_45 hl (by decide) rfl (fun ls hl => ?_)
          refine lv_iload hx hb dX11_soonest_47 (lv_at hl 0 rfl) ?_
          refine lv_iconst (v := (-1)) hx hb dX11_soonest_49 (by decide) ?_
          refine lv_icmp_ne (tgt := 58) hx hb dX11_soonest_50 (by decide) (fun c42 => ?_) (fun c42 => ?_)
          · have c42 : ¬ r31.toInt = (-1 : Int) := wk_eqF c42
            refine lv_iload hx hb dX11_soonest_58 (lv_at hl 0 rfl) ?_
            exact tk_iret hC hr hlocks hK ⟨hT, hF, (Or.inr (Or.inl ⟨(show 0 ≤ r31.toInt by first | with_reducible assumption | omega), (show r31.toInt ≤ 102119 by first | with_reducible assumption | omega), (show 0 ≤ a1.toInt by first | with_reducible assumption | omega), (show a1.toInt ≤ 9 by first | with_reducible assumption | omega), (show 0 ≤ a2.toInt by first | with_reducible assumption | omega), (show a2.toInt ≤ 9 by first | with_reducible assumption | omega), (show 0 ≤ a3.toInt by first | with_reducible assumption | omega), (show a3.toInt ≤ 99999 by first | with_reducible assumption | omega), ⟨x8, c40, (show 1 ≤ x8.toInt by first | with_reducible assumption | omega), (show x8.toInt ≤ 10 by first | with_reducible assumption | omega)⟩⟩))⟩ hw dX11_soonest_60
          · have c42 : r31.toInt = (-1 : Int) := wk_eq.mp c42
            refine lv_bipush (v := (-2)) hx hb dX11_soonest_53 (by decide) ?_
            refine lv_goto (tgt := 60) hx hb dX11_soonest_55 (by decide) ?_
            exact tk_iret hC hr hlocks hK ⟨hT, hF, (Or.inl ⟨rfl, (show 0 ≤ a1.toInt by first | with_reducible assumption | omega), (show a1.toInt ≤ 9 by first | with_reducible assumption | omega), (show 0 ≤ a2.toInt by first | with_reducible assumption | omega), (show a2.toInt ≤ 9 by first | with_reducible assumption | omega), (show 0 ≤ a3.toInt by first | with_reducible assumption | omega), (show a3.toInt ≤ 99999 by first | with_reducible assumption | omega), ⟨x8, c40, (show 1 ≤ x8.toInt by first | with_reducible assumption | omega), (show x8.toInt ≤ 10 by first | with_reducible assumption | omega)⟩⟩)⟩ hw dX11_soonest_60
        · refine lv_istore (lv' := [(4, .int (-1)), (0, .ref (ad 0)), (1, .int a1), (2, .int a2), (3, .int a3)]) hx hb dX11_soonest_45 hl (by decide) rfl (fun ls hl => ?_)
          refine lv_iload hx hb dX11_soonest_47 (lv_at hl 0 rfl) ?_
          refine lv_iconst (v := (-1)) hx hb dX11_soonest_49 (by decide) ?_
          refine lv_icmp_ne (tgt := 58) hx hb dX11_soonest_50 (by decide) (fun c => absurd (by decide) c) (fun _ => ?_)
          refine lv_bipush (v := (-2)) hx hb dX11_soonest_53 (by decide) ?_
          refine lv_goto (tgt := 60) hx hb dX11_soonest_55 (by decide) ?_
          exact tk_iret hC hr hlocks hK ⟨hT, hF, (Or.inl ⟨rfl, (show 0 ≤ a1.toInt by first | with_reducible assumption | omega), (show a1.toInt ≤ 9 by first | with_reducible assumption | omega), (show 0 ≤ a2.toInt by first | with_reducible assumption | omega), (show a2.toInt ≤ 9 by first | with_reducible assumption | omega), (show 0 ≤ a3.toInt by first | with_reducible assumption | omega), (show a3.toInt ≤ 99999 by first | with_reducible assumption | omega), ⟨x8, c40, (show 1 ≤ x8.toInt by first | with_reducible assumption | omega), (show x8.toInt ≤ 10 by first | with_reducible assumption | omega)⟩⟩)⟩ hw dX11_soonest_60
abbrev P_X9_setOut_2 (ad : Nat → Nat) (cy : Nat → ClassId) (B : Int) (qr : Nat) (s1 : Int) (a1 : Int32) (a2 : Int32) (a3 : Int32) (a4 : Int32) (w0 : va_W) : va_W → Prop := fun u => TW ksC ad cy B qr s1 u ∧ FE ksC [(9, 0, 0), (9, 1, 1), (9, 2, 2), (9, 3, 3), (9, 4, 4), (9, 5, 5), (9, 6, 6), (9, 7, 7), (9, 8, 8)] w0 u ∧ (((∃ y : Int32, gi u 152 5 = y ∧ 0 ≤ y.toInt ∧ y.toInt ≤ 0) ∧ (∃ y : Int32, gi u 152 6 = y ∧ 0 ≤ y.toInt ∧ y.toInt ≤ 0) ∧ (∃ y : Int32, gi u 152 7 = y ∧ (-1) ≤ y.toInt ∧ y.toInt ≤ (-1))))
set_option maxHeartbeats 4000000 in
set_option maxRecDepth 100000 in
theorem k_X9_setOut_2 (l : Launch) (adK adV : Nat → Nat) (dC : Nat → ClassId) (dI : Nat → Nat → Nat) (cy : Nat → ClassId) (ad : Nat → Nat) (B : Int) (hB0 : 2147483648 ≤ B) (hB1 : B ≤ 1152921504606846976) (qr : Nat) (s1 : Int)  (a1 : Int32) (ra1 : 0 ≤ a1.toInt) (ta1 : a1.toInt ≤ 9) (a2 : Int32) (ra2 : 0 ≤ a2.toInt) (ta2 : a2.toInt ≤ 9) (a3 : Int32) (ra3 : 0 ≤ a3.toInt) (ta3 : a3.toInt ≤ 3) (a4 : Int32) (a5 : Int64) (ra5 : 0 ≤ a5.toInt) (ta5 : a5.toInt ≤ B) (w0 : va_W) (sz : Nat) (hT : TW ksC ad cy B qr s1 w0)  : Met l yX9_setOut (wu yX9_setOut cX9_setOut 7 none) ({ frames := 1, cells := 0, slots := 0, locals := 12 }) (va_Pc [.ref (ad 152), .int a1, .int a2, .int a3, .int a4, .long a5] (wpreS adK adV dC dI cy sz w0)) (va_Qv (P_X9_setOut_2 ad cy B qr s1 a1 a2 a3 a4 w0) (fun u : va_W => wpost dC dI cy (va_A w0 sz) u) (va_A w0 sz)) 0 0 (va_A w0 sz) := by
  refine Met.ofW (cc := cX9_setOut) (maxL := 7) (ret := none) (by decide) rfl ?_
  intro p e s m args below meth c s₁ Bk hml hv
  obtain ⟨rfl, ⟨hsz, hP, hK, hD0⟩, hE, hSR⟩ := hv
  have hx := Bk.exec
  have hb := Bk.bytes
  have hr := Bk.returns
  have hlocks := Bk.notSynchronized
  have hC : CallFix p m c cX9_setOut 7 s _ (wu yX9_setOut cX9_setOut 7 none) RX9 := ⟨hx, hb, hml, findClass_of_methodNamed Bk.named, atoms_spec (ws := (wu yX9_setOut cX9_setOut 7 none)) Bk.pre⟩
  subst hsz
  have hD := hD0.self (sz := s.heap.size)
  generalize hAe : va_A w0 s.heap.size = A at hD hE ⊢
  have hA : ∀ q : Nat, s.heap.size ≤ q → A q := fun q h => by rw [← hAe]; exact Or.inr h
  have hw : Wd dC dI A s.heap s.heap [] w0 := ⟨hP, hD, va_S.rf⟩
  have hF : FE ksC [(9, 0, 0), (9, 1, 1), (9, 2, 2), (9, 3, 3), (9, 4, 4), (9, 5, 5), (9, 6, 6), (9, 7, 7), (9, 8, 8)] w0 w0 := FE.rf
  have hl := lv_entry ([.ref (ad 152), .int a1, .int a2, .int a3, .int a4, .long a5]) (n := 7) (Nat.le_of_ble_eq_true rfl)
  rw [lg_entry_eq]
  generalize (lg_sl ([.ref (ad 152), .int a1, .int a2, .int a3, .int a4, .long a5]) ++ List.replicate (7 - (lg_sl ([.ref (ad 152), .int a1, .int a2, .int a3, .int a4, .long a5])).length) Slot.unset).toArray = ls at hl ⊢
  have hl : lv_has ls 7 [(0, .ref (ad 152)), (1, .int a1), (2, .int a2), (3, .int a3), (4, .int a4), (5, .long a5)] := hl
  generalize hloc : ([] : List Loc) = locs at hw ⊢
  have hinX9 : ∀ w ∈ u_ws RX9 TX9 9, w ∈ (wu yX9_setOut cX9_setOut 7 none) := fun _ h => List.mem_cons_of_mem _ (up_82 h)
  refine lv_aload_n hx hb dX9_setOut_0 rfl (lv_at hl 0 rfl) ?_
  refine lv_iload_n hx hb dX9_setOut_1 rfl (lv_at hl 1 rfl) ?_
  refine tk_puti hC hK hw hT hinX9 tyX9_ok nmX9 kC_at152 (by decide) rfl rfl 0 (by decide) (List.mem_cons_of_mem _ uw_39_9) rfl rfl rfl rfl (show 0 ≤ a1.toInt from ra1) (show a1.toInt ≤ 9 from ta1) dX9_setOut_2 (fun H locs w1 hw hT k3 c2 => ?_)
  have hF := hF.put kC_at152 (k := 0) (by decide) k3
  refine lv_aload_n hx hb dX9_setOut_5 rfl (lv_at hl 0 rfl) ?_
  refine lv_iload_n hx hb dX9_setOut_6 rfl (lv_at hl 2 rfl) ?_
  refine tk_puti hC hK hw hT hinX9 tyX9_ok nmX9 kC_at152 (by decide) rfl rfl 1 (by decide) (List.mem_cons_of_mem _ uw_39_10) rfl rfl rfl rfl (show 0 ≤ a2.toInt from ra2) (show a2.toInt ≤ 9 from ta2) dX9_setOut_7 (fun H locs w4 hw hT k6 c5 => ?_)
  have hF := hF.put kC_at152 (k := 1) (by decide) k6
  have c7 := k6.gi (Or.inr (by decide)) c2
  refine lv_aload_n hx hb dX9_setOut_10 rfl (lv_at hl 0 rfl) ?_
  refine lv_iload_n hx hb dX9_setOut_11 rfl (lv_at hl 3 rfl) ?_
  refine tk_puti hC hK hw hT hinX9 tyX9_ok nmX9 kC_at152 (by decide) rfl rfl 2 (by decide) (List.mem_cons_of_mem _ uw_39_11) rfl rfl rfl rfl (show 0 ≤ a3.toInt from ra3) (show a3.toInt ≤ 3 from ta3) dX9_setOut_12 (fun H locs w8 hw hT k10 c9 => ?_)
  have hF := hF.put kC_at152 (k := 2) (by decide) k10
  have c11 := k10.gi (Or.inr (by decide)) c7
  have c12 := k10.gi (Or.inr (by decide)) c5
  refine lv_aload_n hx hb dX9_setOut_15 rfl (lv_at hl 0 rfl) ?_
  refine lv_iload hx hb dX9_setOut_16 (lv_at hl 4 rfl) ?_
  refine tk_puti hC hK hw hT hinX9 tyX9_ok nmX9 kC_at152 (by decide) rfl rfl 3 (by decide) (List.mem_cons_of_mem _ uw_39_12) rfl rfl rfl rfl (wk_i32 a4).1 (wk_i32 a4).2 dX9_setOut_18 (fun H locs w13 hw hT k15 c14 => ?_)
  have hF := hF.put kC_at152 (k := 3) (by decide) k15
  have c16 := k15.gi (Or.inr (by decide)) c11
  have c17 := k15.gi (Or.inr (by decide)) c12
  have c18 := k15.gi (Or.inr (by decide)) c9
  refine lv_aload_n hx hb dX9_setOut_21 rfl (lv_at hl 0 rfl) ?_
  refine lv_lload hx hb dX9_setOut_22 (lv_at hl 5 rfl) ?_
  refine tk_putB hC hK hw hT hinX9 tyX9_ok nmX9 kC_at152 (by decide) rfl rfl 4 (by decide) (List.mem_cons_of_mem _ uw_39_13) rfl rfl rfl rfl (show 0 ≤ a5.toInt from ra5) (show a5.toInt ≤ B from ta5) dX9_setOut_24 (fun H locs w19 hw hT k21 c20 => ?_)
  have hF := hF.put kC_at152 (k := 4) (by decide) k21
  have c22 := k21.gi (Or.inr (by decide)) c16
  have c23 := k21.gi (Or.inr (by decide)) c17
  have c24 := k21.gi (Or.inr (by decide)) c18
  have c25 := k21.gi (Or.inr (by decide)) c14
  refine lv_aload_n hx hb dX9_setOut_27 rfl (lv_at hl 0 rfl) ?_
  refine lv_iconst (v := 0) hx hb dX9_setOut_28 (by decide) ?_
  refine tk_puti hC hK hw hT hinX9 tyX9_ok nmX9 kC_at152 (by decide) rfl rfl 5 (by decide) (List.mem_cons_of_mem _ uw_39_14) rfl rfl rfl rfl (by decide) (by decide) dX9_setOut_29 (fun H locs w26 hw hT k28 c27 => ?_)
  have hF := hF.put kC_at152 (k := 5) (by decide) k28
  have c29 := k28.gi (Or.inr (by decide)) c22
  have c30 := k28.gi (Or.inr (by decide)) c23
  have c31 := k28.gi (Or.inr (by decide)) c24
  have c32 := k28.gi (Or.inr (by decide)) c25
  have c33 := k28.gl (Or.inr (by decide)) c20
  refine lv_aload_n hx hb dX9_setOut_32 rfl (lv_at hl 0 rfl) ?_
  refine lv_iconst (v := 0) hx hb dX9_setOut_33 (by decide) ?_
  refine tk_puti hC hK hw hT hinX9 tyX9_ok nmX9 kC_at152 (by decide) rfl rfl 6 (by decide) (List.mem_cons_of_mem _ uw_39_15) rfl rfl rfl rfl (by decide) (by decide) dX9_setOut_34 (fun H locs w34 hw hT k36 c35 => ?_)
  have hF := hF.put kC_at152 (k := 6) (by decide) k36
  have c37 := k36.gi (Or.inr (by decide)) c29
  have c38 := k36.gi (Or.inr (by decide)) c30
  have c39 := k36.gi (Or.inr (by decide)) c31
  have c40 := k36.gi (Or.inr (by decide)) c32
  have c41 := k36.gl (Or.inr (by decide)) c33
  have c42 := k36.gi (Or.inr (by decide)) c27
  refine lv_aload_n hx hb dX9_setOut_37 rfl (lv_at hl 0 rfl) ?_
  refine lv_iconst (v := (-1)) hx hb dX9_setOut_38 (by decide) ?_
  refine tk_puti hC hK hw hT hinX9 tyX9_ok nmX9 kC_at152 (by decide) rfl rfl 7 (by decide) (List.mem_cons_of_mem _ uw_39_16) rfl rfl rfl rfl (by decide) (by decide) dX9_setOut_39 (fun H locs w43 hw hT k45 c44 => ?_)
  have hF := hF.put kC_at152 (k := 7) (by decide) k45
  have c46 := k45.gi (Or.inr (by decide)) c37
  have c47 := k45.gi (Or.inr (by decide)) c38
  have c48 := k45.gi (Or.inr (by decide)) c39
  have c49 := k45.gi (Or.inr (by decide)) c40
  have c50 := k45.gl (Or.inr (by decide)) c41
  have c51 := k45.gi (Or.inr (by decide)) c42
  have c52 := k45.gi (Or.inr (by decide)) c35
  refine lv_aload_n hx hb dX9_setOut_42 rfl (lv_at hl 0 rfl) ?_
  refine lv_ldc2 (v := (-1)) hx hb hC.2.2.2.1 (hC.2.2.2.2 _ (List.mem_cons_of_mem _ uw_39_17)) dX9_setOut_43 ?_
  refine tk_putl hC hK hw hT hinX9 tyX9_ok nmX9 kC_at152 (by decide) rfl rfl 8 (by decide) (List.mem_cons_of_mem _ uw_39_18) rfl rfl rfl rfl (by decide) (by decide) dX9_setOut_46 (fun H locs w53 hw hT k55 c54 => ?_)
  have hF := hF.put kC_at152 (k := 8) (by decide) k55
  have c56 := k55.gi (Or.inr (by decide)) c46
  have c57 := k55.gi (Or.inr (by decide)) c47
  have c58 := k55.gi (Or.inr (by decide)) c48
  have c59 := k55.gi (Or.inr (by decide)) c49
  have c60 := k55.gl (Or.inr (by decide)) c50
  have c61 := k55.gi (Or.inr (by decide)) c51
  have c62 := k55.gi (Or.inr (by decide)) c52
  have c63 := k55.gi (Or.inr (by decide)) c44
  exact tk_vret hC hr hlocks hK ⟨hT, hF, ⟨⟨0, c61, (by decide), (by decide)⟩, ⟨0, c62, (by decide), (by decide)⟩, ⟨(-1), c63, (by decide), (by decide)⟩⟩⟩ hw dX9_setOut_49
abbrev P_X9_copyFrom_1 (ad : Nat → Nat) (cy : Nat → ClassId) (B : Int) (qr : Nat) (s1 : Int) (q1_ : Nat) (w0 : va_W) : va_W → Prop := fun u => TW ksC ad cy B qr s1 u ∧ FE ksC [(9, 0, 0), (9, 1, 1), (9, 2, 2), (9, 3, 3), (9, 4, 4), (9, 5, 5), (9, 6, 6), (9, 7, 7), (9, 8, 8)] w0 u ∧ ((True))
set_option maxHeartbeats 4000000 in
set_option maxRecDepth 100000 in
theorem k_X9_copyFrom_1 (l : Launch) (adK adV : Nat → Nat) (dC : Nat → ClassId) (dI : Nat → Nat → Nat) (cy : Nat → ClassId) (ad : Nat → Nat) (B : Int) (hB0 : 2147483648 ≤ B) (hB1 : B ≤ 1152921504606846976) (qr : Nat) (s1 : Int)  (q1_ : Nat) (hkq1_ : ksC[q1_]? = some 9) (w0 : va_W) (sz : Nat) (hT : TW ksC ad cy B qr s1 w0)  : Met l yX9_copyFrom (wu yX9_copyFrom cX9_copyFrom 2 none) ({ frames := 2, cells := 0, slots := 0, locals := 38 }) (va_Pc [.ref (ad 152), .ref (ad q1_)] (wpreS adK adV dC dI cy sz w0)) (va_Qv (P_X9_copyFrom_1 ad cy B qr s1 q1_ w0) (fun u : va_W => wpost dC dI cy (va_A w0 sz) u) (va_A w0 sz)) 0 0 (va_A w0 sz) := by
  refine Met.ofW (cc := cX9_copyFrom) (maxL := 2) (ret := none) (by decide) rfl ?_
  intro p e s m args below meth c s₁ Bk hml hv
  obtain ⟨rfl, ⟨hsz, hP, hK, hD0⟩, hE, hSR⟩ := hv
  have hx := Bk.exec
  have hb := Bk.bytes
  have hr := Bk.returns
  have hlocks := Bk.notSynchronized
  have hC : CallFix p m c cX9_copyFrom 2 s _ (wu yX9_copyFrom cX9_copyFrom 2 none) RX9 := ⟨hx, hb, hml, findClass_of_methodNamed Bk.named, atoms_spec (ws := (wu yX9_copyFrom cX9_copyFrom 2 none)) Bk.pre⟩
  subst hsz
  have hD := hD0.self (sz := s.heap.size)
  generalize hAe : va_A w0 s.heap.size = A at hD hE ⊢
  have hA : ∀ q : Nat, s.heap.size ≤ q → A q := fun q h => by rw [← hAe]; exact Or.inr h
  have hw : Wd dC dI A s.heap s.heap [] w0 := ⟨hP, hD, va_S.rf⟩
  have hF : FE ksC [(9, 0, 0), (9, 1, 1), (9, 2, 2), (9, 3, 3), (9, 4, 4), (9, 5, 5), (9, 6, 6), (9, 7, 7), (9, 8, 8)] w0 w0 := FE.rf
  have hl := lv_entry ([.ref (ad 152), .ref (ad q1_)]) (n := 2) (Nat.le_of_ble_eq_true rfl)
  rw [lg_entry_eq]
  generalize (lg_sl ([.ref (ad 152), .ref (ad q1_)]) ++ List.replicate (2 - (lg_sl ([.ref (ad 152), .ref (ad q1_)])).length) Slot.unset).toArray = ls at hl ⊢
  have hl : lv_has ls 2 [(0, .ref (ad 152)), (1, .ref (ad q1_))] := hl
  generalize hloc : ([] : List Loc) = locs at hw ⊢
  have hinX9 : ∀ w ∈ u_ws RX9 TX9 9, w ∈ (wu yX9_copyFrom cX9_copyFrom 2 none) := fun _ h => List.mem_cons_of_mem _ (up_82 h)
  refine lv_aload_n hx hb dX9_copyFrom_0 rfl (lv_at hl 0 rfl) ?_
  refine lv_aload_n hx hb dX9_copyFrom_1 rfl (lv_at hl 1 rfl) ?_
  refine tk_geti hC hK hw hT hinX9 hkq1_ (by decide) rfl 0 (by decide) (List.mem_cons_of_mem _ uw_39_9) rfl rfl dX9_copyFrom_2 (fun x1 c2 rx1 tx1 => ?_)
  refine lv_aload_n hx hb dX9_copyFrom_5 rfl (lv_at hl 1 rfl) ?_
  refine tk_geti hC hK hw hT hinX9 hkq1_ (by decide) rfl 1 (by decide) (List.mem_cons_of_mem _ uw_39_10) rfl rfl dX9_copyFrom_6 (fun x3 c4 rx3 tx3 => ?_)
  refine lv_aload_n hx hb dX9_copyFrom_9 rfl (lv_at hl 1 rfl) ?_
  refine tk_geti hC hK hw hT hinX9 hkq1_ (by decide) rfl 2 (by decide) (List.mem_cons_of_mem _ uw_39_11) rfl rfl dX9_copyFrom_10 (fun x5 c6 rx5 tx5 => ?_)
  refine lv_aload_n hx hb dX9_copyFrom_13 rfl (lv_at hl 1 rfl) ?_
  refine tk_geti hC hK hw hT hinX9 hkq1_ (by decide) rfl 3 (by decide) (List.mem_cons_of_mem _ uw_39_12) rfl rfl dX9_copyFrom_14 (fun x7 c8 rx7 tx7 => ?_)
  refine lv_aload_n hx hb dX9_copyFrom_17 rfl (lv_at hl 1 rfl) ?_
  refine tk_getB hC hK hw hT hinX9 hkq1_ (by decide) rfl 4 (by decide) (List.mem_cons_of_mem _ uw_39_13) rfl rfl dX9_copyFrom_18 (fun x9 c10 rx9 tx9 => ?_)
  refine tk_Vv hC hK hw hT hA hE hSR kC_at152 (by decide) rfl (k_X9_setOut_2 l adK adV dC dI cy ad B hB0 (Int.le_trans hB1 (by decide)) qr s1   x1 (show 0 ≤ x1.toInt by first | with_reducible assumption | omega) (show x1.toInt ≤ 9 by first | with_reducible assumption | omega) x3 (show 0 ≤ x3.toInt by first | with_reducible assumption | omega) (show x3.toInt ≤ 9 by first | with_reducible assumption | omega) x5 (show 0 ≤ x5.toInt by first | with_reducible assumption | omega) (show x5.toInt ≤ 3 by first | with_reducible assumption | omega) x7 x9 (show 0 ≤ x9.toInt by first | with_reducible assumption | omega) (show x9.toInt ≤ B by omega) w0 s.heap.size hT ) (cwV 5 hC.2.2.2.2 uV_RX9_42 rfl rfl rfl (by decide +kernel) ⟨Nat.le_of_ble_eq_true rfl, Nat.le_of_ble_eq_true rfl⟩) rfl hl.1 rfl (Nat.le_of_ble_eq_true rfl) dX9_copyFrom_21 (fun w13 H locs hp12 hw => ?_)
  obtain ⟨hT, k14, hg21⟩ := hp12
  have hF := hF.tr k14 (by decide)
  obtain ⟨⟨x15, c16, rx15, tx15⟩, ⟨x17, c18, rx17, tx17⟩, ⟨x19, c20, rx19, tx19⟩⟩ := hg21
  refine lv_aload_n hx hb dX9_copyFrom_24 rfl (lv_at hl 0 rfl) ?_
  refine lv_aload_n hx hb dX9_copyFrom_25 rfl (lv_at hl 1 rfl) ?_
  refine tk_geti hC hK hw hT hinX9 hkq1_ (by decide) rfl 5 (by decide) (List.mem_cons_of_mem _ uw_39_14) rfl rfl dX9_copyFrom_26 (fun x22 c23 rx22 tx22 => ?_)
  refine tk_puti hC hK hw hT hinX9 tyX9_ok nmX9 kC_at152 (by decide) rfl rfl 5 (by decide) (List.mem_cons_of_mem _ uw_39_14) rfl rfl rfl rfl (wk_i32 x22).1 (wk_i32 x22).2 dX9_copyFrom_29 (fun H locs w24 hw hT k26 c25 => ?_)
  have hF := hF.put kC_at152 (k := 5) (by decide) k26
  have c27 := k26.gi (Or.inr (by decide)) c18
  have c28 := k26.gi (Or.inr (by decide)) c20
  refine lv_aload_n hx hb dX9_copyFrom_32 rfl (lv_at hl 0 rfl) ?_
  refine lv_aload_n hx hb dX9_copyFrom_33 rfl (lv_at hl 1 rfl) ?_
  refine tk_geti hC hK hw hT hinX9 hkq1_ (by decide) rfl 6 (by decide) (List.mem_cons_of_mem _ uw_39_15) rfl rfl dX9_copyFrom_34 (fun x29 c30 rx29 tx29 => ?_)
  refine tk_puti hC hK hw hT hinX9 tyX9_ok nmX9 kC_at152 (by decide) rfl rfl 6 (by decide) (List.mem_cons_of_mem _ uw_39_15) rfl rfl rfl rfl (wk_i32 x29).1 (wk_i32 x29).2 dX9_copyFrom_37 (fun H locs w31 hw hT k33 c32 => ?_)
  have hF := hF.put kC_at152 (k := 6) (by decide) k33
  have c34 := k33.gi (Or.inr (by decide)) c28
  have c35 := k33.gi (Or.inr (by decide)) c25
  refine lv_aload_n hx hb dX9_copyFrom_40 rfl (lv_at hl 0 rfl) ?_
  refine lv_aload_n hx hb dX9_copyFrom_41 rfl (lv_at hl 1 rfl) ?_
  refine tk_geti hC hK hw hT hinX9 hkq1_ (by decide) rfl 7 (by decide) (List.mem_cons_of_mem _ uw_39_16) rfl rfl dX9_copyFrom_42 (fun x36 c37 rx36 tx36 => ?_)
  refine tk_puti hC hK hw hT hinX9 tyX9_ok nmX9 kC_at152 (by decide) rfl rfl 7 (by decide) (List.mem_cons_of_mem _ uw_39_16) rfl rfl rfl rfl (show (-1) ≤ x36.toInt by first | with_reducible assumption | omega) (show x36.toInt ≤ 9 by first | with_reducible assumption | omega) dX9_copyFrom_45 (fun H locs w38 hw hT k40 c39 => ?_)
  have hF := hF.put kC_at152 (k := 7) (by decide) k40
  have c41 := k40.gi (Or.inr (by decide)) c35
  have c42 := k40.gi (Or.inr (by decide)) c32
  refine lv_aload_n hx hb dX9_copyFrom_48 rfl (lv_at hl 0 rfl) ?_
  refine lv_aload_n hx hb dX9_copyFrom_49 rfl (lv_at hl 1 rfl) ?_
  refine tk_getl hC hK hw hT hinX9 hkq1_ (by decide) rfl 8 (by decide) (List.mem_cons_of_mem _ uw_39_18) rfl rfl dX9_copyFrom_50 (fun x43 c44 rx43 tx43 => ?_)
  refine tk_putl hC hK hw hT hinX9 tyX9_ok nmX9 kC_at152 (by decide) rfl rfl 8 (by decide) (List.mem_cons_of_mem _ uw_39_18) rfl rfl rfl rfl (wk_i64 x43).1 (wk_i64 x43).2 dX9_copyFrom_53 (fun H locs w45 hw hT k47 c46 => ?_)
  have hF := hF.put kC_at152 (k := 8) (by decide) k47
  have c48 := k47.gi (Or.inr (by decide)) c41
  have c49 := k47.gi (Or.inr (by decide)) c42
  have c50 := k47.gi (Or.inr (by decide)) c39
  exact tk_vret hC hr hlocks hK ⟨hT, hF, trivial⟩ hw dX9_copyFrom_56
abbrev P_X1_isOpenFor_2 (ad : Nat → Nat) (cy : Nat → ClassId) (B : Int) (qr : Nat) (s1 : Int) (a2 : Int32) (w0 : va_W) : Int32 → va_W → Prop := fun r u => TW ksC ad cy B qr s1 u ∧ FE ksC ([] : List (Nat × Nat × Nat)) w0 u ∧ ((r = 0) ∨ (r = 1 ∧ (∃ y : Int32, gi u 149 9 = y ∧ 0 ≤ y.toInt ∧ y.toInt ≤ 1)))
set_option maxHeartbeats 4000000 in
set_option maxRecDepth 100000 in
theorem k_X1_isOpenFor_2 (l : Launch) (adK adV : Nat → Nat) (dC : Nat → ClassId) (dI : Nat → Nat → Nat) (cy : Nat → ClassId) (ad : Nat → Nat) (B : Int) (hB0 : 2147483648 ≤ B) (hB1 : B ≤ 1152921504606846976) (qr : Nat) (s1 : Int)  (a2 : Int32) (ra2 : 0 ≤ a2.toInt) (ta2 : a2.toInt ≤ 11) (w0 : va_W) (sz : Nat) (hT : TW ksC ad cy B qr s1 w0)  : Met l yX1_isOpenFor (wu yX1_isOpenFor cX1_isOpenFor 4 (some .boolean)) ({ frames := 3, cells := 0, slots := 0, locals := 65 }) (va_Pc [.ref (ad 149), .ref (ad 152), .int a2] (wpreS adK adV dC dI cy sz w0)) (va_Qi (P_X1_isOpenFor_2 ad cy B qr s1 a2 w0) (fun u : va_W => wpost dC dI cy (va_A w0 sz) u) (va_A w0 sz)) 0 0 (va_A w0 sz) := by
  refine Met.ofW (cc := cX1_isOpenFor) (maxL := 4) (ret := (some .boolean)) (by decide) rfl ?_
  intro p e s m args below meth c s₁ Bk hml hv
  obtain ⟨rfl, ⟨hsz, hP, hK, hD0⟩, hE, hSR⟩ := hv
  have hx := Bk.exec
  have hb := Bk.bytes
  have hr := Bk.returns
  have hlocks := Bk.notSynchronized
  have hC : CallFix p m c cX1_isOpenFor 4 s _ (wu yX1_isOpenFor cX1_isOpenFor 4 (some .boolean)) RX1 := ⟨hx, hb, hml, findClass_of_methodNamed Bk.named, atoms_spec (ws := (wu yX1_isOpenFor cX1_isOpenFor 4 (some .boolean))) Bk.pre⟩
  subst hsz
  have hD := hD0.self (sz := s.heap.size)
  generalize hAe : va_A w0 s.heap.size = A at hD hE ⊢
  have hA : ∀ q : Nat, s.heap.size ≤ q → A q := fun q h => by rw [← hAe]; exact Or.inr h
  have hw : Wd dC dI A s.heap s.heap [] w0 := ⟨hP, hD, va_S.rf⟩
  have hF : FE ksC ([] : List (Nat × Nat × Nat)) w0 w0 := FE.rf
  have hl := lv_entry ([.ref (ad 149), .ref (ad 152), .int a2]) (n := 4) (Nat.le_of_ble_eq_true rfl)
  rw [lg_entry_eq]
  generalize (lg_sl ([.ref (ad 149), .ref (ad 152), .int a2]) ++ List.replicate (4 - (lg_sl ([.ref (ad 149), .ref (ad 152), .int a2])).length) Slot.unset).toArray = ls at hl ⊢
  have hl : lv_has ls 4 [(0, .ref (ad 149)), (1, .ref (ad 152)), (2, .int a2)] := hl
  generalize hloc : ([] : List Loc) = locs at hw ⊢
  have hinX1 : ∀ w ∈ u_ws RX1 TX1 10, w ∈ (wu yX1_isOpenFor cX1_isOpenFor 4 (some .boolean)) := fun _ h => List.mem_cons_of_mem _ (up_78 h)
  have hinX5 : ∀ w ∈ u_ws RX5 TX5 14, w ∈ (wu yX1_isOpenFor cX1_isOpenFor 4 (some .boolean)) := fun _ h => List.mem_cons_of_mem _ (up_76 h)
  have hinX9 : ∀ w ∈ u_ws RX9 TX9 9, w ∈ (wu yX1_isOpenFor cX1_isOpenFor 4 (some .boolean)) := fun _ h => List.mem_cons_of_mem _ (up_82 h)
  have J56 : ∀ (v56_3 : Int32) (f56_152_0 : Int32) (H : Heap) (locs : List Loc) (ls : Array Slot) (w1 : va_W), 0 ≤ a2.toInt → a2.toInt ≤ 11 → (-1) ≤ v56_3.toInt → v56_3.toInt ≤ 1 → 0 ≤ f56_152_0.toInt → f56_152_0.toInt ≤ 9 → Wd dC dI A s.heap H locs w1 → TW ksC ad cy B qr s1 w1 → FE ksC ([] : List (Nat × Nat × Nat)) w0 w1 → gi w1 152 0 = f56_152_0 → lv_has ls 4 [(0, .ref (ad 149)), (1, .ref (ad 152)), (2, .int a2), (3, .int v56_3)] → W p l e ({ frames := 3, cells := 0, slots := 0, locals := 65 }) s m (List.toArray [.ref (ad 149), .ref (ad 152), .int a2]) below meth c H locs 0 0 (MQ below (va_Qi (P_X1_isOpenFor_2 ad cy B qr s1 a2 w0) (fun u : va_W => wpost dC dI cy A u) A) (List.toArray [.ref (ad 149), .ref (ad 152), .int a2]) s 0 0 A) (F0 m 56 ls []) := by
    intro v56_3 f56_152_0 H locs ls w1 r2 t3 r4 t5 r6 t7 hw hT hF c8 hl
    refine lv_iconst (v := 0) hx hb dX1_isOpenFor_56 (by decide) ?_
    exact tk_zret hC hr rfl hlocks hK ⟨hT, hF, (Or.inl rfl)⟩ hw dX1_isOpenFor_57
  refine lv_aload_n hx hb dX1_isOpenFor_0 rfl (lv_at hl 0 rfl) ?_
  refine tk_getA hC hK hw hT hinX1 kC_at149 (by decide) rfl 0 (by decide) (List.mem_cons_of_mem _ uw_5_0) rfl rfl dX1_isOpenFor_1 ?_
  refine tk_getO hC hK hw hT hinX5 kC_at38 (by decide) rfl 0 (by decide) (List.mem_cons_of_mem _ uw_43_2) rfl rfl dX1_isOpenFor_4 ?_
  refine lv_iload_n hx hb dX1_isOpenFor_7 rfl (lv_at hl 2 rfl) ?_
  refine lv_aload_n hx hb dX1_isOpenFor_8 rfl (lv_at hl 1 rfl) ?_
  refine tk_geti hC hK hw hT hinX9 kC_at152 (by decide) rfl 0 (by decide) (List.mem_cons_of_mem _ uw_42_22) rfl rfl dX1_isOpenFor_9 (fun x9 c10 rx9 tx9 => ?_)
  refine tk_Vi hC hK hw hT hA hE hSR kC_at39 (by decide) rfl (k_X7_sideOf_2 l adK adV dC dI cy ad B hB0 (Int.le_trans hB1 (by decide)) qr s1   a2 (show 0 ≤ a2.toInt from ra2) (show a2.toInt ≤ 11 from ta2) x9 (show 0 ≤ x9.toInt from rx9) (show x9.toInt ≤ 9 from tx9) w0 s.heap.size hT ) (cwV 2 hC.2.2.2.2 uV_RX1_137 rfl rfl rfl (by decide +kernel) ⟨Nat.le_of_ble_eq_true rfl, Nat.le_of_ble_eq_true rfl⟩) rfl hl.1 rfl (Nat.le_of_ble_eq_true rfl) dX1_isOpenFor_12 (fun r11 w13 H locs hp12 hw => ?_)
  obtain ⟨hT, k14, hg17⟩ := hp12
  have hF := hF.tr k14 (by decide)
  have c18 := k14.gi kC_at152 (by decide) c10
  rcases hg17 with rfl | ⟨rfl, c15⟩ | ⟨rfl, c16⟩
  · refine lv_istore_n (lv' := [(3, .int (-1)), (0, .ref (ad 149)), (1, .ref (ad 152)), (2, .int a2)]) hx hb dX1_isOpenFor_15 rfl hl (by decide) rfl (fun ls hl => ?_)
    refine lv_iload_n hx hb dX1_isOpenFor_16 rfl (lv_at hl 0 rfl) ?_
    refine lv_iconst (v := (-1)) hx hb dX1_isOpenFor_17 (by decide) ?_
    refine lv_icmp_eq (tgt := 56) hx hb dX1_isOpenFor_18 (by decide) (fun _ => ?_) (fun c => absurd (by decide) c)
    exact J56 (-1) x9 H locs ls w13 (show 0 ≤ a2.toInt from ra2) (show a2.toInt ≤ 11 from ta2) (by decide) (by decide) (show 0 ≤ x9.toInt from rx9) (show x9.toInt ≤ 9 from tx9)  hw hT hF c18 (lv_sub hl [1, 2, 3, 0] rfl)
  · refine lv_istore_n (lv' := [(3, .int 0), (0, .ref (ad 149)), (1, .ref (ad 152)), (2, .int a2)]) hx hb dX1_isOpenFor_15 rfl hl (by decide) rfl (fun ls hl => ?_)
    refine lv_iload_n hx hb dX1_isOpenFor_16 rfl (lv_at hl 0 rfl) ?_
    refine lv_iconst (v := (-1)) hx hb dX1_isOpenFor_17 (by decide) ?_
    refine lv_icmp_eq (tgt := 56) hx hb dX1_isOpenFor_18 (by decide) (fun c => absurd c (by decide)) (fun _ => ?_)
    refine lv_aload_n hx hb dX1_isOpenFor_21 rfl (lv_at hl 1 rfl) ?_
    refine tk_getA hC hK hw hT hinX1 kC_at149 (by decide) rfl 0 (by decide) (List.mem_cons_of_mem _ uw_5_0) rfl rfl dX1_isOpenFor_22 ?_
    refine tk_getO hC hK hw hT hinX5 kC_at38 (by decide) rfl 0 (by decide) (List.mem_cons_of_mem _ uw_43_2) rfl rfl dX1_isOpenFor_25 ?_
    refine lv_iload_n hx hb dX1_isOpenFor_28 rfl (lv_at hl 3 rfl) ?_
    refine lv_iload_n hx hb dX1_isOpenFor_29 rfl (lv_at hl 0 rfl) ?_
    refine lv_aload_n hx hb dX1_isOpenFor_30 rfl (lv_at hl 2 rfl) ?_
    refine tk_getB hC hK hw hT hinX9 kC_at152 (by decide) rfl 4 (by decide) (List.mem_cons_of_mem _ uw_42_10) rfl rfl dX1_isOpenFor_31 (fun x19 c20 rx19 tx19 => ?_)
    refine lv_aload_n hx hb dX1_isOpenFor_34 rfl (lv_at hl 1 rfl) ?_
    refine tk_geti hC hK hw hT hinX1 kC_at149 (by decide) rfl 9 (by decide) (List.mem_cons_of_mem _ uw_42_20) rfl rfl dX1_isOpenFor_35 (fun x21 c22 rx21 tx21 => ?_)
    refine lv_if_ne (tgt := 45) hx hb dX1_isOpenFor_38 (by decide) (fun c23 => ?_) (fun c23 => ?_)
    · have c23 : ¬ x21.toInt = (0 : Int) := wk_eqF c23
      refine lv_iconst (v := 0) hx hb dX1_isOpenFor_45 (by decide) ?_
      refine tk_Vi hC hK hw hT hA hE hSR kC_at39 (by decide) rfl (k_X7_isOpen_3 l adK adV dC dI cy ad B hB0 (Int.le_trans hB1 (by decide)) qr s1   a2 (show 0 ≤ a2.toInt from ra2) (show a2.toInt ≤ 11 from ta2) x19 (show 0 ≤ x19.toInt by first | with_reducible assumption | omega) (show x19.toInt ≤ 2305843009213693952 by first | with_reducible assumption | omega) w13 H.size hT ) (cwV 4 hC.2.2.2.2 uV_RX1_140 rfl rfl rfl (by decide +kernel) ⟨Nat.le_of_ble_eq_true rfl, Nat.le_of_ble_eq_true rfl⟩) rfl hl.1 rfl (Nat.le_of_ble_eq_true rfl) dX1_isOpenFor_46 (fun r24 w26 H locs hp25 hw => ?_)
      obtain ⟨hT, k27, hg28⟩ := hp25
      have hF := hF.tr k27 (by decide)
      have c29 := k27.gi kC_at152 (by decide) c18
      have c30 := k27.gi kC_at40 rfl c15
      have c31 := k27.gl kC_at152 (by decide) c20
      have c32 := k27.gi kC_at149 (by decide) c22
      rcases hg28 with rfl | rfl
      · refine lv_if_eq (tgt := 56) hx hb dX1_isOpenFor_49 (by decide) (fun _ => ?_) (fun c => absurd (by decide) c)
        exact J56 0 x9 H locs ls w26 (show 0 ≤ a2.toInt from ra2) (show a2.toInt ≤ 11 from ta2) (by decide) (by decide) (show 0 ≤ x9.toInt from rx9) (show x9.toInt ≤ 9 from tx9)  hw hT hF c29 (lv_sub hl [1, 2, 3, 0] rfl)
      · refine lv_if_eq (tgt := 56) hx hb dX1_isOpenFor_49 (by decide) (fun c => absurd c (by decide)) (fun _ => ?_)
        refine lv_iconst (v := 1) hx hb dX1_isOpenFor_52 (by decide) ?_
        refine lv_goto (tgt := 57) hx hb dX1_isOpenFor_53 (by decide) ?_
        exact tk_zret hC hr rfl hlocks hK ⟨hT, hF, (Or.inr ⟨rfl, ⟨x21, c32, (show 0 ≤ x21.toInt from rx21), (show x21.toInt ≤ 1 from tx21)⟩⟩)⟩ hw dX1_isOpenFor_57
    · have c23 : x21.toInt = (0 : Int) := wk_eq.mp c23
      refine lv_iconst (v := 1) hx hb dX1_isOpenFor_41 (by decide) ?_
      refine lv_goto (tgt := 46) hx hb dX1_isOpenFor_42 (by decide) ?_
      refine tk_Vi hC hK hw hT hA hE hSR kC_at39 (by decide) rfl (k_X7_isOpen_4 l adK adV dC dI cy ad B hB0 (Int.le_trans hB1 (by decide)) qr s1   a2 (show 0 ≤ a2.toInt from ra2) (show a2.toInt ≤ 11 from ta2) x19 (show 0 ≤ x19.toInt by first | with_reducible assumption | omega) (show x19.toInt ≤ 2305843009213693952 by first | with_reducible assumption | omega) w13 H.size hT ) (cwV 4 hC.2.2.2.2 uV_RX1_140 rfl rfl rfl (by decide +kernel) ⟨Nat.le_of_ble_eq_true rfl, Nat.le_of_ble_eq_true rfl⟩) rfl hl.1 rfl (Nat.le_of_ble_eq_true rfl) dX1_isOpenFor_46 (fun r33 w35 H locs hp34 hw => ?_)
      obtain ⟨hT, k36, hg37⟩ := hp34
      have hF := hF.tr k36 (by decide)
      have c38 := k36.gi kC_at152 (by decide) c18
      have c39 := k36.gi kC_at40 rfl c15
      have c40 := k36.gl kC_at152 (by decide) c20
      have c41 := k36.gi kC_at149 (by decide) c22
      rcases hg37 with rfl | rfl
      · refine lv_if_eq (tgt := 56) hx hb dX1_isOpenFor_49 (by decide) (fun _ => ?_) (fun c => absurd (by decide) c)
        exact J56 0 x9 H locs ls w35 (show 0 ≤ a2.toInt from ra2) (show a2.toInt ≤ 11 from ta2) (by decide) (by decide) (show 0 ≤ x9.toInt from rx9) (show x9.toInt ≤ 9 from tx9)  hw hT hF c38 (lv_sub hl [1, 2, 3, 0] rfl)
      · refine lv_if_eq (tgt := 56) hx hb dX1_isOpenFor_49 (by decide) (fun c => absurd c (by decide)) (fun _ => ?_)
        refine lv_iconst (v := 1) hx hb dX1_isOpenFor_52 (by decide) ?_
        refine lv_goto (tgt := 57) hx hb dX1_isOpenFor_53 (by decide) ?_
        exact tk_zret hC hr rfl hlocks hK ⟨hT, hF, (Or.inr ⟨rfl, ⟨x21, c41, (show 0 ≤ x21.toInt from rx21), (show x21.toInt ≤ 1 from tx21)⟩⟩)⟩ hw dX1_isOpenFor_57
  · refine lv_istore_n (lv' := [(3, .int 1), (0, .ref (ad 149)), (1, .ref (ad 152)), (2, .int a2)]) hx hb dX1_isOpenFor_15 rfl hl (by decide) rfl (fun ls hl => ?_)
    refine lv_iload_n hx hb dX1_isOpenFor_16 rfl (lv_at hl 0 rfl) ?_
    refine lv_iconst (v := (-1)) hx hb dX1_isOpenFor_17 (by decide) ?_
    refine lv_icmp_eq (tgt := 56) hx hb dX1_isOpenFor_18 (by decide) (fun c => absurd c (by decide)) (fun _ => ?_)
    refine lv_aload_n hx hb dX1_isOpenFor_21 rfl (lv_at hl 1 rfl) ?_
    refine tk_getA hC hK hw hT hinX1 kC_at149 (by decide) rfl 0 (by decide) (List.mem_cons_of_mem _ uw_5_0) rfl rfl dX1_isOpenFor_22 ?_
    refine tk_getO hC hK hw hT hinX5 kC_at38 (by decide) rfl 0 (by decide) (List.mem_cons_of_mem _ uw_43_2) rfl rfl dX1_isOpenFor_25 ?_
    refine lv_iload_n hx hb dX1_isOpenFor_28 rfl (lv_at hl 3 rfl) ?_
    refine lv_iload_n hx hb dX1_isOpenFor_29 rfl (lv_at hl 0 rfl) ?_
    refine lv_aload_n hx hb dX1_isOpenFor_30 rfl (lv_at hl 2 rfl) ?_
    refine tk_getB hC hK hw hT hinX9 kC_at152 (by decide) rfl 4 (by decide) (List.mem_cons_of_mem _ uw_42_10) rfl rfl dX1_isOpenFor_31 (fun x42 c43 rx42 tx42 => ?_)
    refine lv_aload_n hx hb dX1_isOpenFor_34 rfl (lv_at hl 1 rfl) ?_
    refine tk_geti hC hK hw hT hinX1 kC_at149 (by decide) rfl 9 (by decide) (List.mem_cons_of_mem _ uw_42_20) rfl rfl dX1_isOpenFor_35 (fun x44 c45 rx44 tx44 => ?_)
    refine lv_if_ne (tgt := 45) hx hb dX1_isOpenFor_38 (by decide) (fun c46 => ?_) (fun c46 => ?_)
    · have c46 : ¬ x44.toInt = (0 : Int) := wk_eqF c46
      refine lv_iconst (v := 0) hx hb dX1_isOpenFor_45 (by decide) ?_
      refine tk_Vi hC hK hw hT hA hE hSR kC_at39 (by decide) rfl (k_X7_isOpen_5 l adK adV dC dI cy ad B hB0 (Int.le_trans hB1 (by decide)) qr s1   a2 (show 0 ≤ a2.toInt from ra2) (show a2.toInt ≤ 11 from ta2) x42 (show 0 ≤ x42.toInt by first | with_reducible assumption | omega) (show x42.toInt ≤ 2305843009213693952 by first | with_reducible assumption | omega) w13 H.size hT ) (cwV 4 hC.2.2.2.2 uV_RX1_140 rfl rfl rfl (by decide +kernel) ⟨Nat.le_of_ble_eq_true rfl, Nat.le_of_ble_eq_true rfl⟩) rfl hl.1 rfl (Nat.le_of_ble_eq_true rfl) dX1_isOpenFor_46 (fun r47 w49 H locs hp48 hw => ?_)
      obtain ⟨hT, k50, hg51⟩ := hp48
      have hF := hF.tr k50 (by decide)
      have c52 := k50.gi kC_at152 (by decide) c18
      have c53 := k50.gi kC_at40 rfl c16
      have c54 := k50.gl kC_at152 (by decide) c43
      have c55 := k50.gi kC_at149 (by decide) c45
      rcases hg51 with rfl | rfl
      · refine lv_if_eq (tgt := 56) hx hb dX1_isOpenFor_49 (by decide) (fun _ => ?_) (fun c => absurd (by decide) c)
        exact J56 1 x9 H locs ls w49 (show 0 ≤ a2.toInt from ra2) (show a2.toInt ≤ 11 from ta2) (by decide) (by decide) (show 0 ≤ x9.toInt from rx9) (show x9.toInt ≤ 9 from tx9)  hw hT hF c52 (lv_sub hl [1, 2, 3, 0] rfl)
      · refine lv_if_eq (tgt := 56) hx hb dX1_isOpenFor_49 (by decide) (fun c => absurd c (by decide)) (fun _ => ?_)
        refine lv_iconst (v := 1) hx hb dX1_isOpenFor_52 (by decide) ?_
        refine lv_goto (tgt := 57) hx hb dX1_isOpenFor_53 (by decide) ?_
        exact tk_zret hC hr rfl hlocks hK ⟨hT, hF, (Or.inr ⟨rfl, ⟨x44, c55, (show 0 ≤ x44.toInt from rx44), (show x44.toInt ≤ 1 from tx44)⟩⟩)⟩ hw dX1_isOpenFor_57
    · have c46 : x44.toInt = (0 : Int) := wk_eq.mp c46
      refine lv_iconst (v := 1) hx hb dX1_isOpenFor_41 (by decide) ?_
      refine lv_goto (tgt := 46) hx hb dX1_isOpenFor_42 (by decide) ?_
      refine tk_Vi hC hK hw hT hA hE hSR kC_at39 (by decide) rfl (k_X7_isOpen_6 l adK adV dC dI cy ad B hB0 (Int.le_trans hB1 (by decide)) qr s1   a2 (show 0 ≤ a2.toInt from ra2) (show a2.toInt ≤ 11 from ta2) x42 (show 0 ≤ x42.toInt by first | with_reducible assumption | omega) (show x42.toInt ≤ 2305843009213693952 by first | with_reducible assumption | omega) w13 H.size hT ) (cwV 4 hC.2.2.2.2 uV_RX1_140 rfl rfl rfl (by decide +kernel) ⟨Nat.le_of_ble_eq_true rfl, Nat.le_of_ble_eq_true rfl⟩) rfl hl.1 rfl (Nat.le_of_ble_eq_true rfl) dX1_isOpenFor_46 (fun r56 w58 H locs hp57 hw => ?_)
      obtain ⟨hT, k59, hg60⟩ := hp57
      have hF := hF.tr k59 (by decide)
      have c61 := k59.gi kC_at152 (by decide) c18
      have c62 := k59.gi kC_at40 rfl c16
      have c63 := k59.gl kC_at152 (by decide) c43
      have c64 := k59.gi kC_at149 (by decide) c45
      rcases hg60 with rfl | rfl
      · refine lv_if_eq (tgt := 56) hx hb dX1_isOpenFor_49 (by decide) (fun _ => ?_) (fun c => absurd (by decide) c)
        exact J56 1 x9 H locs ls w58 (show 0 ≤ a2.toInt from ra2) (show a2.toInt ≤ 11 from ta2) (by decide) (by decide) (show 0 ≤ x9.toInt from rx9) (show x9.toInt ≤ 9 from tx9)  hw hT hF c61 (lv_sub hl [1, 2, 3, 0] rfl)
      · refine lv_if_eq (tgt := 56) hx hb dX1_isOpenFor_49 (by decide) (fun c => absurd c (by decide)) (fun _ => ?_)
        refine lv_iconst (v := 1) hx hb dX1_isOpenFor_52 (by decide) ?_
        refine lv_goto (tgt := 57) hx hb dX1_isOpenFor_53 (by decide) ?_
        exact tk_zret hC hr rfl hlocks hK ⟨hT, hF, (Or.inr ⟨rfl, ⟨x44, c64, (show 0 ≤ x44.toInt from rx44), (show x44.toInt ≤ 1 from tx44)⟩⟩)⟩ hw dX1_isOpenFor_57
abbrev P_X9_dayNow_2 (ad : Nat → Nat) (cy : Nat → ClassId) (B : Int) (qr : Nat) (s1 : Int)  (w0 : va_W) : Int64 → va_W → Prop := fun r u => TW ksC ad cy B qr s1 u ∧ FE ksC ([] : List (Nat × Nat × Nat)) w0 u ∧ ((0 ≤ r.toInt ∧ r.toInt ≤ 96076792050570581))
set_option maxHeartbeats 4000000 in
set_option maxRecDepth 100000 in
theorem k_X9_dayNow_2 (l : Launch) (adK adV : Nat → Nat) (dC : Nat → ClassId) (dI : Nat → Nat → Nat) (cy : Nat → ClassId) (ad : Nat → Nat) (B : Int) (hB0 : 2147483648 ≤ B) (hB1 : B ≤ 1152921504606846976) (qr : Nat) (s1 : Int)   (w0 : va_W) (sz : Nat) (hT : TW ksC ad cy B qr s1 w0)  : Met l yX9_dayNow (wu yX9_dayNow cX9_dayNow 1 (some .long)) ({ frames := 1, cells := 0, slots := 0, locals := 12 }) (va_Pc [.ref (ad 152)] (wpreS adK adV dC dI cy sz w0)) (va_Ql (P_X9_dayNow_2 ad cy B qr s1  w0) (fun u : va_W => wpost dC dI cy (va_A w0 sz) u) (va_A w0 sz)) 0 0 (va_A w0 sz) := by
  refine Met.ofW (cc := cX9_dayNow) (maxL := 1) (ret := (some .long)) (by decide) rfl ?_
  intro p e s m args below meth c s₁ Bk hml hv
  obtain ⟨rfl, ⟨hsz, hP, hK, hD0⟩, hE, hSR⟩ := hv
  have hx := Bk.exec
  have hb := Bk.bytes
  have hr := Bk.returns
  have hlocks := Bk.notSynchronized
  have hC : CallFix p m c cX9_dayNow 1 s _ (wu yX9_dayNow cX9_dayNow 1 (some .long)) RX9 := ⟨hx, hb, hml, findClass_of_methodNamed Bk.named, atoms_spec (ws := (wu yX9_dayNow cX9_dayNow 1 (some .long))) Bk.pre⟩
  subst hsz
  have hD := hD0.self (sz := s.heap.size)
  generalize hAe : va_A w0 s.heap.size = A at hD hE ⊢
  have hA : ∀ q : Nat, s.heap.size ≤ q → A q := fun q h => by rw [← hAe]; exact Or.inr h
  have hw : Wd dC dI A s.heap s.heap [] w0 := ⟨hP, hD, va_S.rf⟩
  have hF : FE ksC ([] : List (Nat × Nat × Nat)) w0 w0 := FE.rf
  have hl := lv_entry ([.ref (ad 152)]) (n := 1) (Nat.le_of_ble_eq_true rfl)
  rw [lg_entry_eq]
  generalize (lg_sl ([.ref (ad 152)]) ++ List.replicate (1 - (lg_sl ([.ref (ad 152)])).length) Slot.unset).toArray = ls at hl ⊢
  have hl : lv_has ls 1 [(0, .ref (ad 152))] := hl
  generalize hloc : ([] : List Loc) = locs at hw ⊢
  have hinX9 : ∀ w ∈ u_ws RX9 TX9 9, w ∈ (wu yX9_dayNow cX9_dayNow 1 (some .long)) := fun _ h => List.mem_cons_of_mem _ (up_82 h)
  refine lv_aload_n hx hb dX9_dayNow_0 rfl (lv_at hl 0 rfl) ?_
  refine tk_getB hC hK hw hT hinX9 kC_at152 (by decide) rfl 4 (by decide) (List.mem_cons_of_mem _ uw_39_13) rfl rfl dX9_dayNow_1 (fun x1 c2 rx1 tx1 => ?_)
  refine lv_ldc2 (v := 24) hx hb hC.2.2.2.1 (hC.2.2.2.2 _ (List.mem_cons_of_mem _ uw_43_12)) dX9_dayNow_4 ?_
  refine lv_ldiv hx hb dX9_dayNow_7 (by decide) ?_
  refine lv_topl (fun x3 ex3 => ?_)
  have ex3 : x3.toInt = x1.toInt / (24 : Int) := by rw [ex3]; exact wk_divl (show 0 ≤ x1.toInt by first | with_reducible assumption | omega) (show 0 < (24 : Int) by decide)
  exact tk_lret hC hr hlocks hK ⟨hT, hF, ⟨(show 0 ≤ x3.toInt by first | with_reducible assumption | omega), (show x3.toInt ≤ 96076792050570581 by first | with_reducible assumption | omega)⟩⟩ hw dX9_dayNow_8
abbrev P_X9_askedToday_2 (ad : Nat → Nat) (cy : Nat → ClassId) (B : Int) (qr : Nat) (s1 : Int)  (w0 : va_W) : Int32 → va_W → Prop := fun r u => TW ksC ad cy B qr s1 u ∧ FE ksC ([] : List (Nat × Nat × Nat)) w0 u ∧ ((r = 0) ∨ (r = 1))
set_option maxHeartbeats 4000000 in
set_option maxRecDepth 100000 in
theorem k_X9_askedToday_2 (l : Launch) (adK adV : Nat → Nat) (dC : Nat → ClassId) (dI : Nat → Nat → Nat) (cy : Nat → ClassId) (ad : Nat → Nat) (B : Int) (hB0 : 2147483648 ≤ B) (hB1 : B ≤ 1152921504606846976) (qr : Nat) (s1 : Int)   (w0 : va_W) (sz : Nat) (hT : TW ksC ad cy B qr s1 w0)  : Met l yX9_askedToday (wu yX9_askedToday cX9_askedToday 1 (some .boolean)) ({ frames := 2, cells := 0, slots := 0, locals := 32 }) (va_Pc [.ref (ad 152)] (wpreS adK adV dC dI cy sz w0)) (va_Qi (P_X9_askedToday_2 ad cy B qr s1  w0) (fun u : va_W => wpost dC dI cy (va_A w0 sz) u) (va_A w0 sz)) 0 0 (va_A w0 sz) := by
  refine Met.ofW (cc := cX9_askedToday) (maxL := 1) (ret := (some .boolean)) (by decide) rfl ?_
  intro p e s m args below meth c s₁ Bk hml hv
  obtain ⟨rfl, ⟨hsz, hP, hK, hD0⟩, hE, hSR⟩ := hv
  have hx := Bk.exec
  have hb := Bk.bytes
  have hr := Bk.returns
  have hlocks := Bk.notSynchronized
  have hC : CallFix p m c cX9_askedToday 1 s _ (wu yX9_askedToday cX9_askedToday 1 (some .boolean)) RX9 := ⟨hx, hb, hml, findClass_of_methodNamed Bk.named, atoms_spec (ws := (wu yX9_askedToday cX9_askedToday 1 (some .boolean))) Bk.pre⟩
  subst hsz
  have hD := hD0.self (sz := s.heap.size)
  generalize hAe : va_A w0 s.heap.size = A at hD hE ⊢
  have hA : ∀ q : Nat, s.heap.size ≤ q → A q := fun q h => by rw [← hAe]; exact Or.inr h
  have hw : Wd dC dI A s.heap s.heap [] w0 := ⟨hP, hD, va_S.rf⟩
  have hF : FE ksC ([] : List (Nat × Nat × Nat)) w0 w0 := FE.rf
  have hl := lv_entry ([.ref (ad 152)]) (n := 1) (Nat.le_of_ble_eq_true rfl)
  rw [lg_entry_eq]
  generalize (lg_sl ([.ref (ad 152)]) ++ List.replicate (1 - (lg_sl ([.ref (ad 152)])).length) Slot.unset).toArray = ls at hl ⊢
  have hl : lv_has ls 1 [(0, .ref (ad 152))] := hl
  generalize hloc : ([] : List Loc) = locs at hw ⊢
  have hinX9 : ∀ w ∈ u_ws RX9 TX9 9, w ∈ (wu yX9_askedToday cX9_askedToday 1 (some .boolean)) := fun _ h => List.mem_cons_of_mem _ (up_82 h)
  refine lv_aload_n hx hb dX9_askedToday_0 rfl (lv_at hl 0 rfl) ?_
  refine tk_getl hC hK hw hT hinX9 kC_at152 (by decide) rfl 8 (by decide) (List.mem_cons_of_mem _ uw_39_18) rfl rfl dX9_askedToday_1 (fun x1 c2 rx1 tx1 => ?_)
  refine lv_aload_n hx hb dX9_askedToday_4 rfl (lv_at hl 0 rfl) ?_
  refine tk_Vl hC hK hw hT hA hE hSR kC_at152 (by decide) rfl (k_X9_dayNow_2 l adK adV dC dI cy ad B hB0 (Int.le_trans hB1 (by decide)) qr s1    w0 s.heap.size hT ) (cwV 0 hC.2.2.2.2 uV_RX9_48 rfl rfl rfl (by decide +kernel) ⟨Nat.le_of_ble_eq_true rfl, Nat.le_of_ble_eq_true rfl⟩) rfl hl.1 rfl (Nat.le_of_ble_eq_true rfl) dX9_askedToday_5 (fun r3 w5 H locs hp4 hw => ?_)
  obtain ⟨hT, k6, hg9⟩ := hp4
  have hF := hF.tr k6 (by decide)
  have c10 := k6.gl kC_at152 (by decide) c2
  obtain ⟨g7, g8⟩ := hg9
  refine W.lcmp hx hb dX9_askedToday_8 ?_
  refine lv_if_ne (tgt := 16) hx hb dX9_askedToday_9 (by decide) (fun c11 => ?_) (fun c11 => ?_)
  · have c11 : ¬ x1.toInt = r3.toInt := wk_ceF c11
    refine lv_iconst (v := 0) hx hb dX9_askedToday_16 (by decide) ?_
    exact tk_zret hC hr rfl hlocks hK ⟨hT, hF, (Or.inl rfl)⟩ hw dX9_askedToday_17
  · have c11 : x1.toInt = r3.toInt := wk_ceT c11
    refine lv_iconst (v := 1) hx hb dX9_askedToday_12 (by decide) ?_
    refine lv_goto (tgt := 17) hx hb dX9_askedToday_13 (by decide) ?_
    exact tk_zret hC hr rfl hlocks hK ⟨hT, hF, (Or.inr rfl)⟩ hw dX9_askedToday_17
