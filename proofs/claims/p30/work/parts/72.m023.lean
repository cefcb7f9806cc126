abbrev P_X12_questions_1 (ad : Nat → Nat) (cy : Nat → ClassId) (B : Int) (qr : Nat) (s1 : Int) (a1 : Int32) (a2 : Int32) (w0 : va_W) : Int32 → va_W → Prop := fun r u => TW ksM ad cy B qr 12 u ∧ FE ksM [(72, 0, 12), (73, 0, 10), (76, 0, 2600)] w0 u ∧ ((r.toInt ≤ 99999999 ∧ 0 ≤ a1.toInt ∧ a1.toInt ≤ 3 ∧ 0 ≤ a2.toInt ∧ a2.toInt ≤ 120 ∧ (∃ y : Int32, gi u 12 5 = y ∧ 1 ≤ y.toInt ∧ y.toInt ≤ 4)) ∨ (r = (-2) ∧ 0 ≤ a1.toInt ∧ a1.toInt ≤ 3 ∧ 0 ≤ a2.toInt ∧ a2.toInt ≤ 120 ∧ (∃ y : Int32, gi u 12 5 = y ∧ 1 ≤ y.toInt ∧ y.toInt ≤ 4)) ∨ (r = (-1)))
set_option maxHeartbeats 4000000 in
set_option maxRecDepth 100000 in
theorem k_X12_questions_1 (l : Launch) (adK adV : Nat → Nat) (dC : Nat → ClassId) (dI : Nat → Nat → Nat) (cy : Nat → ClassId) (ad : Nat → Nat) (B : Int) (hB0 : 100000 ≤ B) (hB1 : B ≤ 1073741824) (qr : Nat) (s1 : Int)  (a1 : Int32) (a2 : Int32) (w0 : va_W) (sz : Nat) (hT : TW ksM ad cy B qr 12 w0)  : Met l yX12_questions (wu yX12_questions cX12_questions 8 (some .int)) ({ frames := 6, cells := 0, slots := 0, locals := 134 }) (va_Pc [.ref (ad 0), .int a1, .int a2] (wpreS adK adV dC dI cy sz w0)) (va_Qi (P_X12_questions_1 ad cy B qr s1 a1 a2 w0) (fun u : va_W => wpost dC dI cy (va_A w0 sz) u) (va_A w0 sz)) 0 0 (va_A w0 sz) := by
  refine Met.ofW (cc := cX12_questions) (maxL := 8) (ret := (some .int)) (by decide) rfl ?_
  intro p e s m args below meth c s₁ Bk hml hv
  obtain ⟨rfl, ⟨hsz, hP, hK, hD0⟩, hE, hSR⟩ := hv
  have hx := Bk.exec
  have hb := Bk.bytes
  have hr := Bk.returns
  have hlocks := Bk.notSynchronized
  have hC : CallFix p m c cX12_questions 8 s _ (wu yX12_questions cX12_questions 8 (some .int)) RX12 := ⟨hx, hb, hml, findClass_of_methodNamed Bk.named, atoms_spec (ws := (wu yX12_questions cX12_questions 8 (some .int))) Bk.pre⟩
  subst hsz
  have hD := hD0.self (sz := s.heap.size)
  generalize hAe : va_A w0 s.heap.size = A at hD hE ⊢
  have hA : ∀ q : Nat, s.heap.size ≤ q → A q := fun q h => by rw [← hAe]; exact Or.inr h
  have hw : Wd dC dI A s.heap s.heap [] w0 := ⟨hP, hD, va_S.rf⟩
  have hF : FE ksM [(72, 0, 12), (73, 0, 10), (76, 0, 2600)] w0 w0 := FE.rf
  have hl := lv_entry ([.ref (ad 0), .int a1, .int a2]) (n := 8) (Nat.le_of_ble_eq_true rfl)
  rw [lg_entry_eq]
  generalize (lg_sl ([.ref (ad 0), .int a1, .int a2]) ++ List.replicate (8 - (lg_sl ([.ref (ad 0), .int a1, .int a2])).length) Slot.unset).toArray = ls at hl ⊢
  have hl : lv_has ls 8 [(0, .ref (ad 0)), (1, .int a1), (2, .int a2)] := hl
  generalize hloc : ([] : List Loc) = locs at hw ⊢
  have hinX12 : ∀ w ∈ u_ws RX12 TX12 42, w ∈ (wu yX12_questions cX12_questions 8 (some .int)) := fun _ h => List.mem_cons_of_mem _ (up_71 h)
  have J20 : ∀ (H : Heap) (locs : List Loc) (ls : Array Slot) (w1 : va_W), Wd dC dI A s.heap H locs w1 → TW ksM ad cy B qr 12 w1 → FE ksM [(72, 0, 12), (73, 0, 10), (76, 0, 2600)] w0 w1 → lv_has ls 8 [(0, .ref (ad 0)), (1, .int a1), (2, .int a2)] → W p l e ({ frames := 6, cells := 0, slots := 0, locals := 134 }) s m (List.toArray [.ref (ad 0), .int a1, .int a2]) below meth c H locs 0 0 (MQ below (va_Qi (P_X12_questions_1 ad cy B qr s1 a1 a2 w0) (fun u : va_W => wpost dC dI cy A u) A) (List.toArray [.ref (ad 0), .int a1, .int a2]) s 0 0 A) (F0 m 20 ls []) := by
    intro H locs ls w1 hw hT hF hl
    refine lv_iconst (v := (-1)) hx hb dX12_questions_20 (by decide) ?_
    exact tk_iret hC hr hlocks hK ⟨hT, hF, (Or.inr (Or.inr rfl))⟩ hw dX12_questions_21
  have L70 : ∀ (n70 : Nat) (v70_3 : Int32) (v70_4 : Int32) (f70_12__9_a1_toInt_216_toNat : Int32) (f70_12_5 : Int32) (H : Heap) (locs : List Loc) (ls : Array Slot) (w2 : va_W), 0 ≤ a1.toInt → a1.toInt ≤ 3 → 0 ≤ a2.toInt → a2.toInt ≤ 120 → v70_3.toInt ≤ 100000000 → 0 ≤ v70_4.toInt → v70_4.toInt ≤ 121 → 0 ≤ f70_12__9_a1_toInt_216_toNat.toInt → f70_12__9_a1_toInt_216_toNat.toInt ≤ 9 → 1 ≤ f70_12_5.toInt → f70_12_5.toInt ≤ 4 → (121 - v70_4.toInt).toNat < n70 → Wd dC dI A s.heap H locs w2 → TW ksM ad cy B qr 12 w2 → FE ksM [(72, 0, 12), (73, 0, 10), (76, 0, 2600)] w0 w2 → gi w2 12 (9 * a1.toInt + 216).toNat = f70_12__9_a1_toInt_216_toNat → gi w2 12 5 = f70_12_5 → lv_has ls 8 [(0, .ref (ad 0)), (1, .int a1), (2, .int a2), (3, .int v70_3), (4, .int v70_4)] → W p l e ({ frames := 6, cells := 0, slots := 0, locals := 134 }) s m (List.toArray [.ref (ad 0), .int a1, .int a2]) below meth c H locs 0 0 (MQ below (va_Qi (P_X12_questions_1 ad cy B qr s1 a1 a2 w0) (fun u : va_W => wpost dC dI cy A u) A) (List.toArray [.ref (ad 0), .int a1, .int a2]) s 0 0 A) (F0 m 70 ls []) := by
    intro n70
    induction n70 with
    | zero => intro v70_3 v70_4 f70_12__9_a1_toInt_216_toNat f70_12_5 H locs ls w2 r3 t4 r5 t6 t7 r8 t9 r10 t11 r13 t14 hm70 hw hT hF c12 c15 hl; omega
    | succ n70 ih70 =>
      intro v70_3 v70_4 f70_12__9_a1_toInt_216_toNat f70_12_5 H locs ls w2 r3 t4 r5 t6 t7 r8 t9 r10 t11 r13 t14 hm70 hw hT hF c12 c15 hl
      have L79 : ∀ (n79 : Nat) (v79_3 : Int32) (v79_5 : Int32) (H : Heap) (locs : List Loc) (ls : Array Slot) (w16 : va_W), 0 ≤ a1.toInt → a1.toInt ≤ 3 → 0 ≤ a2.toInt → a2.toInt ≤ 120 → v79_3.toInt ≤ 100000000 → 0 ≤ v70_4.toInt → v70_4.toInt ≤ 120 → 0 ≤ v79_5.toInt → v79_5.toInt ≤ 10 → 0 ≤ f70_12__9_a1_toInt_216_toNat.toInt → f70_12__9_a1_toInt_216_toNat.toInt ≤ 9 → 1 ≤ f70_12_5.toInt → f70_12_5.toInt ≤ 4 → (10 - v79_5.toInt).toNat < n79 → Wd dC dI A s.heap H locs w16 → TW ksM ad cy B qr 12 w16 → FE ksM [(72, 0, 12), (73, 0, 10), (76, 0, 2600)] w0 w16 → gi w16 12 (9 * a1.toInt + 216).toNat = f70_12__9_a1_toInt_216_toNat → gi w16 12 5 = f70_12_5 → lv_has ls 8 [(0, .ref (ad 0)), (1, .int a1), (2, .int a2), (3, .int v79_3), (4, .int v70_4), (5, .int v79_5)] → W p l e ({ frames := 6, cells := 0, slots := 0, locals := 134 }) s m (List.toArray [.ref (ad 0), .int a1, .int a2]) below meth c H locs 0 0 (MQ below (va_Qi (P_X12_questions_1 ad cy B qr s1 a1 a2 w0) (fun u : va_W => wpost dC dI cy A u) A) (List.toArray [.ref (ad 0), .int a1, .int a2]) s 0 0 A) (F0 m 79 ls []) := by
        intro n79
        induction n79 with
        | zero => intro v79_3 v79_5 H locs ls w16 r17 t18 r19 t20 t21 r22 t23 r24 t25 r26 t27 r29 t30 hm79 hw hT hF c28 c31 hl; omega
        | succ n79 ih79 =>
          intro v79_3 v79_5 H locs ls w16 r17 t18 r19 t20 t21 r22 t23 r24 t25 r26 t27 r29 t30 hm79 hw hT hF c28 c31 hl
          have L93 : ∀ (n93 : Nat) (v93_3 : Int32) (v93_6 : Int32) (f93_12_0 : Int32) (H : Heap) (locs : List Loc) (ls : Array Slot) (w32 : va_W), 0 ≤ a1.toInt → a1.toInt ≤ 3 → 0 ≤ a2.toInt → a2.toInt ≤ 120 → v93_3.toInt ≤ 100000000 → 0 ≤ v70_4.toInt → v70_4.toInt ≤ 120 → 0 ≤ v79_5.toInt → v79_5.toInt ≤ 9 → 0 ≤ v93_6.toInt → v93_6.toInt ≤ 2 → 0 ≤ f70_12__9_a1_toInt_216_toNat.toInt → f70_12__9_a1_toInt_216_toNat.toInt ≤ 9 → 1 ≤ f93_12_0.toInt → f93_12_0.toInt ≤ 10 → 1 ≤ f70_12_5.toInt → f70_12_5.toInt ≤ 4 → (2 - v93_6.toInt).toNat < n93 → Wd dC dI A s.heap H locs w32 → TW ksM ad cy B qr 12 w32 → FE ksM [(72, 0, 12), (73, 0, 10), (76, 0, 2600)] w0 w32 → gi w32 12 (9 * a1.toInt + 216).toNat = f70_12__9_a1_toInt_216_toNat → gi w32 12 0 = f93_12_0 → gi w32 12 5 = f70_12_5 → lv_has ls 8 [(0, .ref (ad 0)), (1, .int a1), (2, .int a2), (3, .int v93_3), (4, .int v70_4), (5, .int v79_5), (6, .int v93_6)] → W p l e ({ frames := 6, cells := 0, slots := 0, locals := 134 }) s m (List.toArray [.ref (ad 0), .int a1, .int a2]) below meth c H locs 0 0 (MQ below (va_Qi (P_X12_questions_1 ad cy B qr s1 a1 a2 w0) (fun u : va_W => wpost dC dI cy A u) A) (List.toArray [.ref (ad 0), .int a1, .int a2]) s 0 0 A) (F0 m 93 ls []) := by
            intro n93
            induction n93 with
            | zero => intro v93_3 v93_6 f93_12_0 H locs ls w32 r33 t34 r35 t36 t37 r38 t39 r40 t41 r42 t43 r44 t45 r47 t48 r50 t51 hm93 hw hT hF c46 c49 c52 hl; omega
            | succ n93 ih93 =>
              intro v93_3 v93_6 f93_12_0 H locs ls w32 r33 t34 r35 t36 t37 r38 t39 r40 t41 r42 t43 r44 t45 r47 t48 r50 t51 hm93 hw hT hF c46 c49 c52 hl
              have J174 : ∀ (v174_7 : Int32) (f174_12__9_a1_toInt_217_toNat : Int32) (H : Heap) (locs : List Loc) (ls : Array Slot) (w53 : va_W), 0 ≤ a1.toInt → a1.toInt ≤ 3 → 0 ≤ a2.toInt → a2.toInt ≤ 120 → v93_3.toInt ≤ 100000000 → 0 ≤ v70_4.toInt → v70_4.toInt ≤ 120 → 0 ≤ v79_5.toInt → v79_5.toInt ≤ 9 → 0 ≤ v93_6.toInt → v93_6.toInt ≤ 1 → 0 ≤ f70_12__9_a1_toInt_216_toNat.toInt → f70_12__9_a1_toInt_216_toNat.toInt ≤ 9 → 0 ≤ f174_12__9_a1_toInt_217_toNat.toInt → f174_12__9_a1_toInt_217_toNat.toInt ≤ 9 → 1 ≤ f93_12_0.toInt → f93_12_0.toInt ≤ 10 → 1 ≤ f70_12_5.toInt → f70_12_5.toInt ≤ 4 → Wd dC dI A s.heap H locs w53 → TW ksM ad cy B qr 12 w53 → FE ksM [(72, 0, 12), (73, 0, 10), (76, 0, 2600)] w0 w53 → gi w53 12 (9 * a1.toInt + 216).toNat = f70_12__9_a1_toInt_216_toNat → gi w53 12 (9 * a1.toInt + 217).toNat = f174_12__9_a1_toInt_217_toNat → gi w53 12 0 = f93_12_0 → gi w53 12 5 = f70_12_5 → lv_has ls 8 [(0, .ref (ad 0)), (1, .int a1), (2, .int a2), (3, .int v93_3), (4, .int v70_4), (5, .int v79_5), (6, .int v93_6), (7, .int v174_7)] → W p l e ({ frames := 6, cells := 0, slots := 0, locals := 134 }) s m (List.toArray [.ref (ad 0), .int a1, .int a2]) below meth c H locs 0 0 (MQ below (va_Qi (P_X12_questions_1 ad cy B qr s1 a1 a2 w0) (fun u : va_W => wpost dC dI cy A u) A) (List.toArray [.ref (ad 0), .int a1, .int a2]) s 0 0 A) (F0 m 174 ls []) := by
                intro v174_7 f174_12__9_a1_toInt_217_toNat H locs ls w53 r54 t55 r56 t57 t58 r59 t60 r61 t62 r63 t64 r65 t66 r68 t69 r71 t72 r74 t75 hw hT hF c67 c70 c73 c76 hl
                refine lv_iload_n hx hb dX12_questions_174 rfl (lv_at hl 3 rfl) ?_
                refine lv_istore_n (lv' := [(3, .int v93_3), (0, .ref (ad 0)), (1, .int a1), (2, .int a2), (4, .int v70_4), (5, .int v79_5), (6, .int v93_6), (7, .int v174_7)]) hx hb dX12_questions_175 rfl hl (by decide) rfl (fun ls hl => ?_)
                obtain ⟨x77, ex77⟩ : ∃ y : Int32, y = v93_6 + Int32.ofInt 1 := ⟨_, rfl⟩
                refine lv_iinc (v := x77) (lv' := [(6, .int x77), (3, .int v93_3), (0, .ref (ad 0)), (1, .int a1), (2, .int a2), (4, .int v70_4), (5, .int v79_5), (7, .int v174_7)]) hx hb dX12_questions_176 hl (k := 6) rfl ex77.symm (by decide) rfl (fun ls hl => ?_)
                have ex77 : x77.toInt = v93_6.toInt + 1 := by rw [ex77]; exact wk_add (y := 1) (show -2147483648 ≤ v93_6.toInt + 1 by omega) (show v93_6.toInt + 1 ≤ 2147483647 by omega)
                refine lv_goto (tgt := 93) hx hb dX12_questions_179 (by decide) ?_
                exact ih93 v93_3 x77 f93_12_0 H locs ls w53 (show 0 ≤ a1.toInt from r54) (show a1.toInt ≤ 3 from t55) (show 0 ≤ a2.toInt from r56) (show a2.toInt ≤ 120 from t57) (show v93_3.toInt ≤ 100000000 from t58) (show 0 ≤ v70_4.toInt from r59) (show v70_4.toInt ≤ 120 from t60) (show 0 ≤ v79_5.toInt from r61) (show v79_5.toInt ≤ 9 from t62) (show 0 ≤ x77.toInt by first | with_reducible assumption | omega) (show x77.toInt ≤ 2 by first | with_reducible assumption | omega) (show 0 ≤ f70_12__9_a1_toInt_216_toNat.toInt from r65) (show f70_12__9_a1_toInt_216_toNat.toInt ≤ 9 from t66) (show 1 ≤ f93_12_0.toInt from r71) (show f93_12_0.toInt ≤ 10 from t72) (show 1 ≤ f70_12_5.toInt from r74) (show f70_12_5.toInt ≤ 4 from t75) (show (2 - x77.toInt).toNat < n93 by first | exact tn_lt hm93 (by omega) (by omega) | omega) hw hT hF c67 c73 c76 (lv_sub hl [2, 3, 4, 1, 5, 6, 0] rfl)
              refine lv_iload hx hb dX12_questions_93 (lv_at hl 6 rfl) ?_
              refine lv_iconst (v := 2) hx hb dX12_questions_95 (by decide) ?_
              refine lv_icmp_ge (tgt := 182) hx hb dX12_questions_96 (by decide) (fun c78 => ?_) (fun c78 => ?_)
              · have c78 : (2 : Int) ≤ v93_6.toInt := wk_le.mp c78
                obtain ⟨x79, ex79⟩ : ∃ y : Int32, y = v79_5 + Int32.ofInt 1 := ⟨_, rfl⟩
                refine lv_iinc (v := x79) (lv' := [(5, .int x79), (0, .ref (ad 0)), (1, .int a1), (2, .int a2), (3, .int v93_3), (4, .int v70_4), (6, .int v93_6)]) hx hb dX12_questions_182 hl (k := 5) rfl ex79.symm (by decide) rfl (fun ls hl => ?_)
                have ex79 : x79.toInt = v79_5.toInt + 1 := by rw [ex79]; exact wk_add (y := 1) (show -2147483648 ≤ v79_5.toInt + 1 by omega) (show v79_5.toInt + 1 ≤ 2147483647 by omega)
                refine lv_goto (tgt := 79) hx hb dX12_questions_185 (by decide) ?_
                exact ih79 v93_3 x79 H locs ls w32 (show 0 ≤ a1.toInt from r33) (show a1.toInt ≤ 3 from t34) (show 0 ≤ a2.toInt from r35) (show a2.toInt ≤ 120 from t36) (show v93_3.toInt ≤ 100000000 from t37) (show 0 ≤ v70_4.toInt from r38) (show v70_4.toInt ≤ 120 from t39) (show 0 ≤ x79.toInt by first | with_reducible assumption | omega) (show x79.toInt ≤ 10 by first | with_reducible assumption | omega) (show 0 ≤ f70_12__9_a1_toInt_216_toNat.toInt from r44) (show f70_12__9_a1_toInt_216_toNat.toInt ≤ 9 from t45) (show 1 ≤ f70_12_5.toInt from r50) (show f70_12_5.toInt ≤ 4 from t51) (show (10 - x79.toInt).toNat < n79 by first | exact tn_lt hm79 (by omega) (by omega) | omega) hw hT hF c46 c52 (lv_sub hl [1, 2, 3, 4, 5, 0] rfl)
              · have c78 : v93_6.toInt < (2 : Int) := wk_leF c78
                refine lv_aload_n hx hb dX12_questions_99 rfl (lv_at hl 0 rfl) ?_
                refine lv_iload_n hx hb dX12_questions_100 rfl (lv_at hl 1 rfl) ?_
                refine lv_aload_n hx hb dX12_questions_101 rfl (lv_at hl 0 rfl) ?_
                refine lv_iload_n hx hb dX12_questions_102 rfl (lv_at hl 1 rfl) ?_
                refine lv_iconst (v := 4) hx hb dX12_questions_103 (by decide) ?_
                refine tk_Vi hC hK hw hT hA hE hSR kM_at0 (by decide) rfl (k_X12_walkerOf_4 l adK adV dC dI cy ad B hB0 (Int.le_trans hB1 (by decide)) qr s1   a1 (show 0 ≤ a1.toInt from r33) (show a1.toInt ≤ 3 from t34) w32 H.size hT ) (cwV 2 hC.2.2.2.2 uV_RX12_372 rfl rfl rfl (by decide +kernel) ⟨Nat.le_of_ble_eq_true rfl, Nat.le_of_ble_eq_true rfl⟩) rfl hl.1 rfl (Nat.le_of_ble_eq_true rfl) dX12_questions_104 (fun r80 w82 H locs hp81 hw => ?_)
                obtain ⟨rfl, hg87⟩ := hp81
                obtain ⟨g84, g85, c86⟩ := hg87
                refine lv_iload hx hb dX12_questions_107 (lv_at hl 4 rfl) ?_
                refine lv_iload hx hb dX12_questions_109 (lv_at hl 5 rfl) ?_
                refine lv_iload hx hb dX12_questions_111 (lv_at hl 6 rfl) ?_
                refine lv_iconst (v := 1) hx hb dX12_questions_113 (by decide) ?_
                refine lv_icmp_ne (tgt := 121) hx hb dX12_questions_114 (by decide) (fun c88 => ?_) (fun c88 => ?_)
                · have c88 : ¬ v93_6.toInt = (1 : Int) := wk_eqF c88
                  refine lv_iconst (v := 0) hx hb dX12_questions_121 (by decide) ?_
                  refine lv_iload_n hx hb dX12_questions_122 rfl (lv_at hl 2 rfl) ?_
                  refine tk_Vv hC hK hw hT hA hE hSR kM_at0 (by decide) rfl (k_X12_leads_1 l adK adV dC dI cy ad B hB0 (Int.le_trans hB1 (by decide)) qr s1   a1 (show 0 ≤ a1.toInt from r33) (show a1.toInt ≤ 3 from t34) r80 (show 0 ≤ r80.toInt by first | with_reducible assumption | omega) (show r80.toInt ≤ 1073741824 by first | with_reducible assumption | omega) v70_4 (show 0 ≤ v70_4.toInt from r38) (show v70_4.toInt ≤ 120 from t39) v79_5 (show 0 ≤ v79_5.toInt from r40) (show v79_5.toInt ≤ 9 from t41) a2 (show 0 ≤ a2.toInt from r35) (show a2.toInt ≤ 120 from t36) w32 H.size hT ) (cwV 6 hC.2.2.2.2 uV_RX12_445 rfl rfl rfl (by decide +kernel) ⟨Nat.le_of_ble_eq_true rfl, Nat.le_of_ble_eq_true rfl⟩) rfl hl.1 rfl (Nat.le_of_ble_eq_true rfl) dX12_questions_123 (fun w91 H locs hp90 hw => ?_)
                  obtain ⟨hT, k92, hg93⟩ := hp90
                  have hF := hF.tr k92 (by decide)
                  have c94 := k92.gi kM_at12 rfl c46
                  have c95 := k92.gi kM_at12 (by decide) c49
                  have c96 := k92.gi kM_at12 (by decide) c52
                  clear hg93
                  refine lv_aload_n hx hb dX12_questions_126 rfl (lv_at hl 0 rfl) ?_
                  refine tk_getA hC hK hw hT hinX12 kM_at0 (by decide) rfl 34 (by decide) (List.mem_cons_of_mem _ uw_7_7) rfl rfl dX12_questions_127 ?_
                  refine lv_aload_n hx hb dX12_questions_130 rfl (lv_at hl 0 rfl) ?_
                  refine lv_iload hx hb dX12_questions_131 (lv_at hl 4 rfl) ?_
                  refine lv_iload hx hb dX12_questions_133 (lv_at hl 5 rfl) ?_
                  refine lv_iload hx hb dX12_questions_135 (lv_at hl 6 rfl) ?_
                  refine lv_iconst (v := 1) hx hb dX12_questions_137 (by decide) ?_
                  refine lv_icmp_ne (tgt := 145) hx hb dX12_questions_138 (by decide) (fun _ => ?_) (fun c => absurd (show v93_6.toInt = (1 : Int) from wk_eq.mp c) (by omega))
                  refine lv_iconst (v := 0) hx hb dX12_questions_145 (by decide) ?_
                  refine tk_Vi hC hK hw hT hA hE hSR kM_at0 (by decide) rfl (k_X12_placeAt_3 l adK adV dC dI cy ad B hB0 (Int.le_trans hB1 (by decide)) qr s1   v70_4 (show 0 ≤ v70_4.toInt from r38) (show v70_4.toInt ≤ 120 from t39) v79_5 (show 0 ≤ v79_5.toInt from r40) (show v79_5.toInt ≤ 9 from t41) w91 H.size hT ) (cwV 3 hC.2.2.2.2 uV_RX12_435 rfl rfl rfl (by decide +kernel) ⟨Nat.le_of_ble_eq_true rfl, Nat.le_of_ble_eq_true rfl⟩) rfl hl.1 rfl (Nat.le_of_ble_eq_true rfl) dX12_questions_146 (fun r97 w99 H locs hp98 hw => ?_)
                  obtain ⟨rfl, hg103⟩ := hp98
                  obtain ⟨g101, g102⟩ := hg103
                  refine tk_iald hC hK hw hT kM_at17 rfl rfl (show 0 ≤ r97.toInt by first | with_reducible assumption | omega) (show r97.toInt < 2600 by first | with_reducible assumption | omega) dX12_questions_149 (fun x104 c105 rx104 tx104 => ?_)
                  refine lv_istore (lv' := [(7, .int x104), (0, .ref (ad 0)), (1, .int a1), (2, .int a2), (3, .int v93_3), (4, .int v70_4), (5, .int v79_5), (6, .int v93_6)]) hx hb dX12_questions_150 hl (by decide) rfl (fun ls hl => ?_)
                  refine lv_iload hx hb dX12_questions_152 (lv_at hl 6 rfl) ?_
                  refine lv_aload_n hx hb dX12_questions_154 rfl (lv_at hl 1 rfl) ?_
                  refine lv_iload_n hx hb dX12_questions_155 rfl (lv_at hl 2 rfl) ?_
                  refine lv_iconst (v := 1) hx hb dX12_questions_156 (by decide) ?_
                  refine tk_Vi hC hK hw hT hA hE hSR kM_at0 (by decide) rfl (k_X12_walkerOf_3 l adK adV dC dI cy ad B hB0 (Int.le_trans hB1 (by decide)) qr s1   a1 (show 0 ≤ a1.toInt from r33) (show a1.toInt ≤ 3 from t34) w91 H.size hT ) (cwV 2 hC.2.2.2.2 uV_RX12_372 rfl rfl rfl (by decide +kernel) ⟨Nat.le_of_ble_eq_true rfl, Nat.le_of_ble_eq_true rfl⟩) rfl hl.1 rfl (Nat.le_of_ble_eq_true rfl) dX12_questions_157 (fun r106 w108 H locs hp107 hw => ?_)
                  obtain ⟨rfl, hg113⟩ := hp107
                  obtain ⟨g110, g111, c112⟩ := hg113
                  refine lv_icmp_ne (tgt := 174) hx hb dX12_questions_160 (by decide) (fun c114 => ?_) (fun c114 => ?_)
                  · have c114 : ¬ v79_5.toInt = r106.toInt := wk_eqF c114
                    exact J174 x104 r106 H locs ls w91 (show 0 ≤ a1.toInt from r33) (show a1.toInt ≤ 3 from t34) (show 0 ≤ a2.toInt from r35) (show a2.toInt ≤ 120 from t36) (show v93_3.toInt ≤ 100000000 from t37) (show 0 ≤ v70_4.toInt from r38) (show v70_4.toInt ≤ 120 from t39) (show 0 ≤ v79_5.toInt from r40) (show v79_5.toInt ≤ 9 from t41) (show 0 ≤ v93_6.toInt from r42) (show v93_6.toInt ≤ 1 by first | with_reducible assumption | omega) (show 0 ≤ f70_12__9_a1_toInt_216_toNat.toInt from r44) (show f70_12__9_a1_toInt_216_toNat.toInt ≤ 9 from t45) (show 0 ≤ r106.toInt by first | with_reducible assumption | omega) (show r106.toInt ≤ 9 by first | with_reducible assumption | omega) (show 1 ≤ f93_12_0.toInt from r47) (show f93_12_0.toInt ≤ 10 from t48) (show 1 ≤ f70_12_5.toInt from r50) (show f70_12_5.toInt ≤ 4 from t51)  hw hT hF c94 c112 c95 c96 (lv_sub hl [1, 2, 3, 4, 5, 6, 7, 0] rfl)
                  · have c114 : v79_5.toInt = r106.toInt := wk_eq.mp c114
                    refine lv_iload hx hb dX12_questions_163 (lv_at hl 0 rfl) ?_
                    refine lv_iload_n hx hb dX12_questions_165 rfl (lv_at hl 4 rfl) ?_
                    refine lv_icmp_ge (tgt := 174) hx hb dX12_questions_166 (by decide) (fun c115 => ?_) (fun c115 => ?_)
                    · have c115 : v93_3.toInt ≤ x104.toInt := wk_le.mp c115
                      exact J174 x104 r106 H locs ls w91 (show 0 ≤ a1.toInt from r33) (show a1.toInt ≤ 3 from t34) (show 0 ≤ a2.toInt from r35) (show a2.toInt ≤ 120 from t36) (show v93_3.toInt ≤ 100000000 from t37) (show 0 ≤ v70_4.toInt from r38) (show v70_4.toInt ≤ 120 from t39) (show 0 ≤ v79_5.toInt from r40) (show v79_5.toInt ≤ 9 from t41) (show 0 ≤ v93_6.toInt from r42) (show v93_6.toInt ≤ 1 by first | with_reducible assumption | omega) (show 0 ≤ f70_12__9_a1_toInt_216_toNat.toInt from r44) (show f70_12__9_a1_toInt_216_toNat.toInt ≤ 9 from t45) (show 0 ≤ r106.toInt by first | with_reducible assumption | omega) (show r106.toInt ≤ 9 by first | with_reducible assumption | omega) (show 1 ≤ f93_12_0.toInt from r47) (show f93_12_0.toInt ≤ 10 from t48) (show 1 ≤ f70_12_5.toInt from r50) (show f70_12_5.toInt ≤ 4 from t51)  hw hT hF c94 c112 c95 c96 (lv_sub hl [1, 2, 3, 4, 5, 6, 7, 0] rfl)
                    · have c115 : x104.toInt < v93_3.toInt := wk_leF c115
                      refine lv_iload hx hb dX12_questions_169 (lv_at hl 0 rfl) ?_
                      refine lv_goto (tgt := 175) hx hb dX12_questions_171 (by decide) ?_
                      refine lv_istore_n (lv' := [(3, .int x104), (7, .int x104), (0, .ref (ad 0)), (1, .int a1), (2, .int a2), (4, .int v70_4), (5, .int v79_5), (6, .int v93_6)]) hx hb dX12_questions_175 rfl hl (by decide) rfl (fun ls hl => ?_)
                      obtain ⟨x116, ex116⟩ : ∃ y : Int32, y = v93_6 + Int32.ofInt 1 := ⟨_, rfl⟩
                      refine lv_iinc (v := x116) (lv' := [(6, .int x116), (3, .int x104), (7, .int x104), (0, .ref (ad 0)), (1, .int a1), (2, .int a2), (4, .int v70_4), (5, .int v79_5)]) hx hb dX12_questions_176 hl (k := 7) rfl ex116.symm (by decide) rfl (fun ls hl => ?_)
                      have ex116 : x116.toInt = v93_6.toInt + 1 := by rw [ex116]; exact wk_add (y := 1) (show -2147483648 ≤ v93_6.toInt + 1 by omega) (show v93_6.toInt + 1 ≤ 2147483647 by omega)
                      refine lv_goto (tgt := 93) hx hb dX12_questions_179 (by decide) ?_
                      exact ih93 x104 x116 f93_12_0 H locs ls w91 (show 0 ≤ a1.toInt from r33) (show a1.toInt ≤ 3 from t34) (show 0 ≤ a2.toInt from r35) (show a2.toInt ≤ 120 from t36) (show x104.toInt ≤ 100000000 by first | with_reducible assumption | omega) (show 0 ≤ v70_4.toInt from r38) (show v70_4.toInt ≤ 120 from t39) (show 0 ≤ v79_5.toInt from r40) (show v79_5.toInt ≤ 9 from t41) (show 0 ≤ x116.toInt by first | with_reducible assumption | omega) (show x116.toInt ≤ 2 by first | with_reducible assumption | omega) (show 0 ≤ f70_12__9_a1_toInt_216_toNat.toInt from r44) (show f70_12__9_a1_toInt_216_toNat.toInt ≤ 9 from t45) (show 1 ≤ f93_12_0.toInt from r47) (show f93_12_0.toInt ≤ 10 from t48) (show 1 ≤ f70_12_5.toInt from r50) (show f70_12_5.toInt ≤ 4 from t51) (show (2 - x116.toInt).toNat < n93 by first | exact tn_lt hm93 (by omega) (by omega) | omega) hw hT hF c94 c95 c96 (lv_sub hl [3, 4, 5, 1, 6, 7, 0] rfl)
                · have c88 : v93_6.toInt = (1 : Int) := wk_eq.mp c88
                  refine lv_iconst (v := 1) hx hb dX12_questions_117 (by decide) ?_
                  refine lv_goto (tgt := 122) hx hb dX12_questions_118 (by decide) ?_
                  refine lv_iload_n hx hb dX12_questions_122 rfl (lv_at hl 2 rfl) ?_
                  refine tk_Vv hC hK hw hT hA hE hSR kM_at0 (by decide) rfl (k_X12_leads_2 l adK adV dC dI cy ad B hB0 (Int.le_trans hB1 (by decide)) qr s1   a1 (show 0 ≤ a1.toInt from r33) (show a1.toInt ≤ 3 from t34) r80 (show 0 ≤ r80.toInt by first | with_reducible assumption | omega) (show r80.toInt ≤ 1073741824 by first | with_reducible assumption | omega) v70_4 (show 0 ≤ v70_4.toInt from r38) (show v70_4.toInt ≤ 120 from t39) v79_5 (show 0 ≤ v79_5.toInt from r40) (show v79_5.toInt ≤ 9 from t41) a2 (show 0 ≤ a2.toInt from r35) (show a2.toInt ≤ 120 from t36) w32 H.size hT ) (cwV 6 hC.2.2.2.2 uV_RX12_445 rfl rfl rfl (by decide +kernel) ⟨Nat.le_of_ble_eq_true rfl, Nat.le_of_ble_eq_true rfl⟩) rfl hl.1 rfl (Nat.le_of_ble_eq_true rfl) dX12_questions_123 (fun w119 H locs hp118 hw => ?_)
                  obtain ⟨hT, k120, hg121⟩ := hp118
                  have hF := hF.tr k120 (by decide)
                  have c122 := k120.gi kM_at12 rfl c46
                  have c123 := k120.gi kM_at12 (by decide) c49
                  have c124 := k120.gi kM_at12 (by decide) c52
                  clear hg121
                  refine lv_aload_n hx hb dX12_questions_126 rfl (lv_at hl 0 rfl) ?_
                  refine tk_getA hC hK hw hT hinX12 kM_at0 (by decide) rfl 34 (by decide) (List.mem_cons_of_mem _ uw_7_7) rfl rfl dX12_questions_127 ?_
                  refine lv_aload_n hx hb dX12_questions_130 rfl (lv_at hl 0 rfl) ?_
                  refine lv_iload hx hb dX12_questions_131 (lv_at hl 4 rfl) ?_
                  refine lv_iload hx hb dX12_questions_133 (lv_at hl 5 rfl) ?_
                  refine lv_iload hx hb dX12_questions_135 (lv_at hl 6 rfl) ?_
                  refine lv_iconst (v := 1) hx hb dX12_questions_137 (by decide) ?_
                  refine lv_icmp_ne (tgt := 145) hx hb dX12_questions_138 (by decide) (fun c => (c (wk_eq.mpr (show v93_6.toInt = (1 : Int) by first | exact Int.le_antisymm (by omega) (by omega) | omega))).elim) (fun _ => ?_)
                  refine lv_iconst (v := 1) hx hb dX12_questions_141 (by decide) ?_
                  refine lv_goto (tgt := 146) hx hb dX12_questions_142 (by decide) ?_
                  refine tk_Vi hC hK hw hT hA hE hSR kM_at0 (by decide) rfl (k_X12_placeAt_6 l adK adV dC dI cy ad B hB0 (Int.le_trans hB1 (by decide)) qr s1   v70_4 (show 0 ≤ v70_4.toInt from r38) (show v70_4.toInt ≤ 120 from t39) v79_5 (show 0 ≤ v79_5.toInt from r40) (show v79_5.toInt ≤ 9 from t41) w119 H.size hT ) (cwV 3 hC.2.2.2.2 uV_RX12_435 rfl rfl rfl (by decide +kernel) ⟨Nat.le_of_ble_eq_true rfl, Nat.le_of_ble_eq_true rfl⟩) rfl hl.1 rfl (Nat.le_of_ble_eq_true rfl) dX12_questions_146 (fun r125 w127 H locs hp126 hw => ?_)
                  obtain ⟨rfl, hg131⟩ := hp126
                  obtain ⟨g129, g130⟩ := hg131
                  refine tk_iald hC hK hw hT kM_at17 rfl rfl (show 0 ≤ r125.toInt by first | with_reducible assumption | omega) (show r125.toInt < 2600 by first | with_reducible assumption | omega) dX12_questions_149 (fun x132 c133 rx132 tx132 => ?_)
                  refine lv_istore (lv' := [(7, .int x132), (0, .ref (ad 0)), (1, .int a1), (2, .int a2), (3, .int v93_3), (4, .int v70_4), (5, .int v79_5), (6, .int v93_6)]) hx hb dX12_questions_150 hl (by decide) rfl (fun ls hl => ?_)
                  refine lv_iload hx hb dX12_questions_152 (lv_at hl 6 rfl) ?_
                  refine lv_aload_n hx hb dX12_questions_154 rfl (lv_at hl 1 rfl) ?_
                  refine lv_iload_n hx hb dX12_questions_155 rfl (lv_at hl 2 rfl) ?_
                  refine lv_iconst (v := 1) hx hb dX12_questions_156 (by decide) ?_
                  refine tk_Vi hC hK hw hT hA hE hSR kM_at0 (by decide) rfl (k_X12_walkerOf_3 l adK adV dC dI cy ad B hB0 (Int.le_trans hB1 (by decide)) qr s1   a1 (show 0 ≤ a1.toInt from r33) (show a1.toInt ≤ 3 from t34) w119 H.size hT ) (cwV 2 hC.2.2.2.2 uV_RX12_372 rfl rfl rfl (by decide +kernel) ⟨Nat.le_of_ble_eq_true rfl, Nat.le_of_ble_eq_true rfl⟩) rfl hl.1 rfl (Nat.le_of_ble_eq_true rfl) dX12_questions_157 (fun r134 w136 H locs hp135 hw => ?_)
                  obtain ⟨rfl, hg141⟩ := hp135
                  obtain ⟨g138, g139, c140⟩ := hg141
                  refine lv_icmp_ne (tgt := 174) hx hb dX12_questions_160 (by decide) (fun c142 => ?_) (fun c142 => ?_)
                  · have c142 : ¬ v79_5.toInt = r134.toInt := wk_eqF c142
                    exact J174 x132 r134 H locs ls w119 (show 0 ≤ a1.toInt from r33) (show a1.toInt ≤ 3 from t34) (show 0 ≤ a2.toInt from r35) (show a2.toInt ≤ 120 from t36) (show v93_3.toInt ≤ 100000000 from t37) (show 0 ≤ v70_4.toInt from r38) (show v70_4.toInt ≤ 120 from t39) (show 0 ≤ v79_5.toInt from r40) (show v79_5.toInt ≤ 9 from t41) (show 0 ≤ v93_6.toInt from r42) (show v93_6.toInt ≤ 1 by first | with_reducible assumption | omega) (show 0 ≤ f70_12__9_a1_toInt_216_toNat.toInt from r44) (show f70_12__9_a1_toInt_216_toNat.toInt ≤ 9 from t45) (show 0 ≤ r134.toInt by first | with_reducible assumption | omega) (show r134.toInt ≤ 9 by first | with_reducible assumption | omega) (show 1 ≤ f93_12_0.toInt from r47) (show f93_12_0.toInt ≤ 10 from t48) (show 1 ≤ f70_12_5.toInt from r50) (show f70_12_5.toInt ≤ 4 from t51)  hw hT hF c122 c140 c123 c124 (lv_sub hl [1, 2, 3, 4, 5, 6, 7, 0] rfl)
                  · have c142 : v79_5.toInt = r134.toInt := wk_eq.mp c142
                    refine lv_iload hx hb dX12_questions_163 (lv_at hl 0 rfl) ?_
                    refine lv_iload_n hx hb dX12_questions_165 rfl (lv_at hl 4 rfl) ?_
                    refine lv_icmp_ge (tgt := 174) hx hb dX12_questions_166 (by decide) (fun c143 => ?_) (fun c143 => ?_)
                    · have c143 : v93_3.toInt ≤ x132.toInt := wk_le.mp c143
                      exact J174 x132 r134 H locs ls w119 (show 0 ≤ a1.toInt from r33) (show a1.toInt ≤ 3 from t34) (show 0 ≤ a2.toInt from r35) (show a2.toInt ≤ 120 from t36) (show v93_3.toInt ≤ 100000000 from t37) (show 0 ≤ v70_4.toInt from r38) (show v70_4.toInt ≤ 120 from t39) (show 0 ≤ v79_5.toInt from r40) (show v79_5.toInt ≤ 9 from t41) (show 0 ≤ v93_6.toInt from r42) (show v93_6.toInt ≤ 1 by first | with_reducible assumption | omega) (show 0 ≤ f70_12__9_a1_toInt_216_toNat.toInt from r44) (show f70_12__9_a1_toInt_216_toNat.toInt ≤ 9 from t45) (show 0 ≤ r134.toInt by first | with_reducible assumption | omega) (show r134.toInt ≤ 9 by first | with_reducible assumption | omega) (show 1 ≤ f93_12_0.toInt from r47) (show f93_12_0.toInt ≤ 10 from t48) (show 1 ≤ f70_12_5.toInt from r50) (show f70_12_5.toInt ≤ 4 from t51)  hw hT hF c122 c140 c123 c124 (lv_sub hl [1, 2, 3, 4, 5, 6, 7, 0] rfl)
                    · have c143 : x132.toInt < v93_3.toInt := wk_leF c143
                      refine lv_iload hx hb dX12_questions_169 (lv_at hl 0 rfl) ?_
                      refine lv_goto (tgt := 175) hx hb dX12_questions_171 (by decide) ?_
                      refine lv_istore_n (lv' := [(3, .int x132), (7, .int x132), (0, .ref (ad 0)), (1, .int a1), (2, .int a2), (4, .int v70_4), (5, .int v79_5), (6, .int v93_6)]) hx hb dX12_questions_175 rfl hl (by decide) rfl (fun ls hl => ?_)
                      obtain ⟨x144, ex144⟩ : ∃ y : Int32, y = v93_6 + Int32.ofInt 1 := ⟨_, rfl⟩
                      refine lv_iinc (v := x144) (lv' := [(6, .int x144), (3, .int x132), (7, .int x132), (0, .ref (ad 0)), (1, .int a1), (2, .int a2), (4, .int v70_4), (5, .int v79_5)]) hx hb dX12_questions_176 hl (k := 7) rfl ex144.symm (by decide) rfl (fun ls hl => ?_)
                      have ex144 : x144.toInt = v93_6.toInt + 1 := by rw [ex144]; exact wk_add (y := 1) (show -2147483648 ≤ v93_6.toInt + 1 by omega) (show v93_6.toInt + 1 ≤ 2147483647 by omega)
                      refine lv_goto (tgt := 93) hx hb dX12_questions_179 (by decide) ?_
                      exact ih93 x132 x144 f93_12_0 H locs ls w119 (show 0 ≤ a1.toInt from r33) (show a1.toInt ≤ 3 from t34) (show 0 ≤ a2.toInt from r35) (show a2.toInt ≤ 120 from t36) (show x132.toInt ≤ 100000000 by first | with_reducible assumption | omega) (show 0 ≤ v70_4.toInt from r38) (show v70_4.toInt ≤ 120 from t39) (show 0 ≤ v79_5.toInt from r40) (show v79_5.toInt ≤ 9 from t41) (show 0 ≤ x144.toInt by first | with_reducible assumption | omega) (show x144.toInt ≤ 2 by first | with_reducible assumption | omega) (show 0 ≤ f70_12__9_a1_toInt_216_toNat.toInt from r44) (show f70_12__9_a1_toInt_216_toNat.toInt ≤ 9 from t45) (show 1 ≤ f93_12_0.toInt from r47) (show f93_12_0.toInt ≤ 10 from t48) (show 1 ≤ f70_12_5.toInt from r50) (show f70_12_5.toInt ≤ 4 from t51) (show (2 - x144.toInt).toNat < n93 by first | exact tn_lt hm93 (by omega) (by omega) | omega) hw hT hF c122 c123 c124 (lv_sub hl [3, 4, 5, 1, 6, 7, 0] rfl)
          refine lv_iload hx hb dX12_questions_79 (lv_at hl 5 rfl) ?_
          refine lv_aload_n hx hb dX12_questions_81 rfl (lv_at hl 0 rfl) ?_
          refine tk_getA hC hK hw hT hinX12 kM_at0 (by decide) rfl 26 (by decide) (List.mem_cons_of_mem _ uw_7_1) rfl rfl dX12_questions_82 ?_
          refine lv_iconst (v := 0) hx hb dX12_questions_85 (by decide) ?_
          refine tk_ialdR hC hK hw hT kM_at12 rfl (by decide) (by decide) dX12_questions_86 (fun x145 c146 Ex145 => ?_)
          have bx145 := tk_rgI rfl 0 1 1 0 10 (by decide +kernel) ⟨0, by decide, by decide⟩ Ex145
          have c146 : gi w16 12 0 = x145 := c146
          refine lv_icmp_ge (tgt := 188) hx hb dX12_questions_87 (by decide) (fun c147 => ?_) (fun c147 => ?_)
          · have c147 : x145.toInt ≤ v79_5.toInt := wk_le.mp c147
            obtain ⟨x148, ex148⟩ : ∃ y : Int32, y = v70_4 + Int32.ofInt 1 := ⟨_, rfl⟩
            refine lv_iinc (v := x148) (lv' := [(4, .int x148), (0, .ref (ad 0)), (1, .int a1), (2, .int a2), (3, .int v79_3), (5, .int v79_5)]) hx hb dX12_questions_188 hl (k := 4) rfl ex148.symm (by decide) rfl (fun ls hl => ?_)
            have ex148 : x148.toInt = v70_4.toInt + 1 := by rw [ex148]; exact wk_add (y := 1) (show -2147483648 ≤ v70_4.toInt + 1 by omega) (show v70_4.toInt + 1 ≤ 2147483647 by omega)
            refine lv_goto (tgt := 70) hx hb dX12_questions_191 (by decide) ?_
            exact ih70 v79_3 x148 f70_12__9_a1_toInt_216_toNat f70_12_5 H locs ls w16 (show 0 ≤ a1.toInt from r17) (show a1.toInt ≤ 3 from t18) (show 0 ≤ a2.toInt from r19) (show a2.toInt ≤ 120 from t20) (show v79_3.toInt ≤ 100000000 from t21) (show 0 ≤ x148.toInt by first | with_reducible assumption | omega) (show x148.toInt ≤ 121 by first | with_reducible assumption | omega) (show 0 ≤ f70_12__9_a1_toInt_216_toNat.toInt from r26) (show f70_12__9_a1_toInt_216_toNat.toInt ≤ 9 from t27) (show 1 ≤ f70_12_5.toInt from r29) (show f70_12_5.toInt ≤ 4 from t30) (show (121 - x148.toInt).toNat < n70 by first | exact tn_lt hm70 (by omega) (by omega) | omega) hw hT hF c28 c31 (lv_sub hl [1, 2, 3, 4, 0] rfl)
          · have c147 : v79_5.toInt < x145.toInt := wk_leF c147
            refine lv_iconst (v := 0) hx hb dX12_questions_90 (by decide) ?_
            refine lv_istore (lv' := [(6, .int 0), (0, .ref (ad 0)), (1, .int a1), (2, .int a2), (3, .int v79_3), (4, .int v70_4), (5, .int v79_5)]) hx hb dX12_questions_91 hl (by decide) rfl (fun ls hl => ?_)
            exact L93 ((2 - (0 : Int)).toNat + 1) v79_3 0 x145 H locs ls w16 (show 0 ≤ a1.toInt from r17) (show a1.toInt ≤ 3 from t18) (show 0 ≤ a2.toInt from r19) (show a2.toInt ≤ 120 from t20) (show v79_3.toInt ≤ 100000000 from t21) (show 0 ≤ v70_4.toInt from r22) (show v70_4.toInt ≤ 120 from t23) (show 0 ≤ v79_5.toInt from r24) (show v79_5.toInt ≤ 9 by first | with_reducible assumption | omega) (by decide) (by decide) (show 0 ≤ f70_12__9_a1_toInt_216_toNat.toInt from r26) (show f70_12__9_a1_toInt_216_toNat.toInt ≤ 9 from t27) (show 1 ≤ x145.toInt by first | with_reducible assumption | omega) (show x145.toInt ≤ 10 by first | with_reducible assumption | omega) (show 1 ≤ f70_12_5.toInt from r29) (show f70_12_5.toInt ≤ 4 from t30) (Nat.lt_succ_self _) hw hT hF c28 c146 c31 (lv_sub hl [1, 2, 3, 4, 5, 6, 0] rfl)
      refine lv_iload hx hb dX12_questions_70 (lv_at hl 4 rfl) ?_
      refine lv_iload_n hx hb dX12_questions_72 rfl (lv_at hl 2 rfl) ?_
      refine lv_icmp_gt (tgt := 194) hx hb dX12_questions_73 (by decide) (fun c149 => ?_) (fun c149 => ?_)
      · have c149 : a2.toInt < v70_4.toInt := wk_lt.mp c149
        refine lv_iload_n hx hb dX12_questions_194 rfl (lv_at hl 3 rfl) ?_
        refine lv_ldcw (v := 100000000) hx hb hC.2.2.2.1 (hC.2.2.2.2 _ (List.mem_cons_of_mem _ uw_38_2)) dX12_questions_195 ?_
        refine lv_icmp_ne (tgt := 206) hx hb dX12_questions_198 (by decide) (fun c150 => ?_) (fun c150 => ?_)
        · have c150 : ¬ v70_3.toInt = (100000000 : Int) := wk_eqF c150
          refine lv_iload_n hx hb dX12_questions_206 rfl (lv_at hl 3 rfl) ?_
          exact tk_iret hC hr hlocks hK ⟨hT, hF, (Or.inl ⟨(show v70_3.toInt ≤ 99999999 by first | with_reducible assumption | omega), (show 0 ≤ a1.toInt from r3), (show a1.toInt ≤ 3 from t4), (show 0 ≤ a2.toInt from r5), (show a2.toInt ≤ 120 from t6), ⟨f70_12_5, c15, (show 1 ≤ f70_12_5.toInt from r13), (show f70_12_5.toInt ≤ 4 from t14)⟩⟩)⟩ hw dX12_questions_207
        · have c150 : v70_3.toInt = (100000000 : Int) := wk_eq.mp c150
          refine lv_bipush (v := (-2)) hx hb dX12_questions_201 (by decide) ?_
          refine lv_goto (tgt := 207) hx hb dX12_questions_203 (by decide) ?_
          exact tk_iret hC hr hlocks hK ⟨hT, hF, (Or.inr (Or.inl ⟨rfl, (show 0 ≤ a1.toInt from r3), (show a1.toInt ≤ 3 from t4), (show 0 ≤ a2.toInt from r5), (show a2.toInt ≤ 120 from t6), ⟨f70_12_5, c15, (show 1 ≤ f70_12_5.toInt from r13), (show f70_12_5.toInt ≤ 4 from t14)⟩⟩))⟩ hw dX12_questions_207
      · have c149 : v70_4.toInt ≤ a2.toInt := wk_ltF c149
        refine lv_iconst (v := 0) hx hb dX12_questions_76 (by decide) ?_
        refine lv_istore (lv' := [(5, .int 0), (0, .ref (ad 0)), (1, .int a1), (2, .int a2), (3, .int v70_3), (4, .int v70_4)]) hx hb dX12_questions_77 hl (by decide) rfl (fun ls hl => ?_)
        exact L79 ((10 - (0 : Int)).toNat + 1) v70_3 0 H locs ls w2 (show 0 ≤ a1.toInt from r3) (show a1.toInt ≤ 3 from t4) (show 0 ≤ a2.toInt from r5) (show a2.toInt ≤ 120 from t6) (show v70_3.toInt ≤ 100000000 from t7) (show 0 ≤ v70_4.toInt from r8) (show v70_4.toInt ≤ 120 by first | with_reducible assumption | omega) (by decide) (by decide) (show 0 ≤ f70_12__9_a1_toInt_216_toNat.toInt from r10) (show f70_12__9_a1_toInt_216_toNat.toInt ≤ 9 from t11) (show 1 ≤ f70_12_5.toInt from r13) (show f70_12_5.toInt ≤ 4 from t14) (Nat.lt_succ_self _) hw hT hF c12 c15 (lv_sub hl [1, 2, 3, 4, 5, 0] rfl)
  have L24 : ∀ (n24 : Nat) (v24_3 : Int32) (f24_12_5 : Int32) (H : Heap) (locs : List Loc) (ls : Array Slot) (w151 : va_W), 0 ≤ a1.toInt → a1.toInt ≤ 3 → 0 ≤ a2.toInt → a2.toInt ≤ 120 → 0 ≤ v24_3.toInt → v24_3.toInt ≤ 2600 → 1 ≤ f24_12_5.toInt → f24_12_5.toInt ≤ 4 → (2600 - v24_3.toInt).toNat < n24 → Wd dC dI A s.heap H locs w151 → TW ksM ad cy B qr 12 w151 → FE ksM [(72, 0, 12), (73, 0, 10), (76, 0, 2600)] w0 w151 → gi w151 12 5 = f24_12_5 → lv_has ls 8 [(0, .ref (ad 0)), (1, .int a1), (2, .int a2), (3, .int v24_3)] → W p l e ({ frames := 6, cells := 0, slots := 0, locals := 134 }) s m (List.toArray [.ref (ad 0), .int a1, .int a2]) below meth c H locs 0 0 (MQ below (va_Qi (P_X12_questions_1 ad cy B qr s1 a1 a2 w0) (fun u : va_W => wpost dC dI cy A u) A) (List.toArray [.ref (ad 0), .int a1, .int a2]) s 0 0 A) (F0 m 24 ls []) := by
    intro n24
    induction n24 with
    | zero => intro v24_3 f24_12_5 H locs ls w151 r152 t153 r154 t155 r156 t157 r158 t159 hm24 hw hT hF c160 hl; omega
    | succ n24 ih24 =>
      intro v24_3 f24_12_5 H locs ls w151 r152 t153 r154 t155 r156 t157 r158 t159 hm24 hw hT hF c160 hl
      refine lv_iload_n hx hb dX12_questions_24 rfl (lv_at hl 3 rfl) ?_
      refine lv_sipush (v := 2600) hx hb dX12_questions_25 (by decide) ?_
      refine lv_icmp_ge (tgt := 46) hx hb dX12_questions_28 (by decide) (fun c161 => ?_) (fun c161 => ?_)
      · have c161 : (2600 : Int) ≤ v24_3.toInt := wk_le.mp c161
        refine lv_aload_n hx hb dX12_questions_46 rfl (lv_at hl 0 rfl) ?_
        refine lv_iconst (v := 0) hx hb dX12_questions_47 (by decide) ?_
        refine lv_aload_n hx hb dX12_questions_48 rfl (lv_at hl 0 rfl) ?_
        refine lv_iload_n hx hb dX12_questions_49 rfl (lv_at hl 1 rfl) ?_
        refine lv_iconst (v := 0) hx hb dX12_questions_50 (by decide) ?_
        refine tk_Vi hC hK hw hT hA hE hSR kM_at0 (by decide) rfl (k_X12_walkerOf_2 l adK adV dC dI cy ad B hB0 (Int.le_trans hB1 (by decide)) qr s1   a1 (show 0 ≤ a1.toInt from r152) (show a1.toInt ≤ 3 from t153) w151 H.size hT ) (cwV 2 hC.2.2.2.2 uV_RX12_372 rfl rfl rfl (by decide +kernel) ⟨Nat.le_of_ble_eq_true rfl, Nat.le_of_ble_eq_true rfl⟩) rfl hl.1 rfl (Nat.le_of_ble_eq_true rfl) dX12_questions_51 (fun r162 w164 H locs hp163 hw => ?_)
        obtain ⟨rfl, hg169⟩ := hp163
        obtain ⟨g166, g167, c168⟩ := hg169
        refine lv_aload_n hx hb dX12_questions_54 rfl (lv_at hl 0 rfl) ?_
        refine lv_iload_n hx hb dX12_questions_55 rfl (lv_at hl 1 rfl) ?_
        refine tk_Vi hC hK hw hT hA hE hSR kM_at0 (by decide) rfl (k_X12_askedToday_1 l adK adV dC dI cy ad B hB0 (Int.le_trans hB1 (by decide)) qr s1   a1 (show 0 ≤ a1.toInt from r152) (show a1.toInt ≤ 3 from t153) w151 H.size hT ) (cwV 1 hC.2.2.2.2 uV_RX12_375 rfl rfl rfl (by decide +kernel) ⟨Nat.le_of_ble_eq_true rfl, Nat.le_of_ble_eq_true rfl⟩) rfl hl.1 rfl (Nat.le_of_ble_eq_true rfl) dX12_questions_56 (fun r170 w172 H locs hp171 hw => ?_)
        obtain ⟨rfl, hg174⟩ := hp171
        rcases hg174 with rfl | rfl
        · refine lv_iconst (v := 0) hx hb dX12_questions_59 (by decide) ?_
          refine tk_Vv hC hK hw hT hA hE hSR kM_at0 (by decide) rfl (k_X12_could_1 l adK adV dC dI cy ad B hB0 (Int.le_trans hB1 (by decide)) qr s1   r162 (show 0 ≤ r162.toInt by first | with_reducible assumption | omega) (show r162.toInt ≤ 9 by first | with_reducible assumption | omega) w151 H.size hT ) (cwV 4 hC.2.2.2.2 uV_RX12_439 rfl rfl rfl (by decide +kernel) ⟨Nat.le_of_ble_eq_true rfl, Nat.le_of_ble_eq_true rfl⟩) rfl hl.1 rfl (Nat.le_of_ble_eq_true rfl) dX12_questions_60 (fun w177 H locs hp176 hw => ?_)
          obtain ⟨hT, k178, hg179⟩ := hp176
          have hF := hF.tr k178 (by decide)
          have c180 := k178.gi kM_at12 (by decide) c160
          have c181 := k178.gi kM_at12 rfl c168
          clear hg179
          refine lv_ldcw (v := 100000000) hx hb hC.2.2.2.1 (hC.2.2.2.2 _ (List.mem_cons_of_mem _ uw_38_2)) dX12_questions_63 ?_
          refine lv_istore_n (lv' := [(3, .int 100000000), (0, .ref (ad 0)), (1, .int a1), (2, .int a2)]) hx hb dX12_questions_66 rfl hl (by decide) rfl (fun ls hl => ?_)
          refine lv_iconst (v := 0) hx hb dX12_questions_67 (by decide) ?_
          refine lv_istore (lv' := [(4, .int 0), (3, .int 100000000), (0, .ref (ad 0)), (1, .int a1), (2, .int a2)]) hx hb dX12_questions_68 hl (by decide) rfl (fun ls hl => ?_)
          exact L70 ((121 - (0 : Int)).toNat + 1) 100000000 0 r162 f24_12_5 H locs ls w177 (show 0 ≤ a1.toInt from r152) (show a1.toInt ≤ 3 from t153) (show 0 ≤ a2.toInt from r154) (show a2.toInt ≤ 120 from t155) (by decide) (by decide) (by decide) (show 0 ≤ r162.toInt by first | with_reducible assumption | omega) (show r162.toInt ≤ 9 by first | with_reducible assumption | omega) (show 1 ≤ f24_12_5.toInt from r158) (show f24_12_5.toInt ≤ 4 from t159) (Nat.lt_succ_self _) hw hT hF c181 c180 (lv_sub hl [2, 3, 4, 1, 0] rfl)
        · refine lv_iconst (v := 0) hx hb dX12_questions_59 (by decide) ?_
          refine tk_Vv hC hK hw hT hA hE hSR kM_at0 (by decide) rfl (k_X12_could_2 l adK adV dC dI cy ad B hB0 (Int.le_trans hB1 (by decide)) qr s1   r162 (show 0 ≤ r162.toInt by first | with_reducible assumption | omega) (show r162.toInt ≤ 9 by first | with_reducible assumption | omega) w151 H.size hT ) (cwV 4 hC.2.2.2.2 uV_RX12_439 rfl rfl rfl (by decide +kernel) ⟨Nat.le_of_ble_eq_true rfl, Nat.le_of_ble_eq_true rfl⟩) rfl hl.1 rfl (Nat.le_of_ble_eq_true rfl) dX12_questions_60 (fun w184 H locs hp183 hw => ?_)
          obtain ⟨hT, k185, hg186⟩ := hp183
          have hF := hF.tr k185 (by decide)
          have c187 := k185.gi kM_at12 (by decide) c160
          have c188 := k185.gi kM_at12 rfl c168
          clear hg186
          refine lv_ldcw (v := 100000000) hx hb hC.2.2.2.1 (hC.2.2.2.2 _ (List.mem_cons_of_mem _ uw_38_2)) dX12_questions_63 ?_
          refine lv_istore_n (lv' := [(3, .int 100000000), (0, .ref (ad 0)), (1, .int a1), (2, .int a2)]) hx hb dX12_questions_66 rfl hl (by decide) rfl (fun ls hl => ?_)
          refine lv_iconst (v := 0) hx hb dX12_questions_67 (by decide) ?_
          refine lv_istore (lv' := [(4, .int 0), (3, .int 100000000), (0, .ref (ad 0)), (1, .int a1), (2, .int a2)]) hx hb dX12_questions_68 hl (by decide) rfl (fun ls hl => ?_)
          exact L70 ((121 - (0 : Int)).toNat + 1) 100000000 0 r162 f24_12_5 H locs ls w184 (show 0 ≤ a1.toInt from r152) (show a1.toInt ≤ 3 from t153) (show 0 ≤ a2.toInt from r154) (show a2.toInt ≤ 120 from t155) (by decide) (by decide) (by decide) (show 0 ≤ r162.toInt by first | with_reducible assumption | omega) (show r162.toInt ≤ 9 by first | with_reducible assumption | omega) (show 1 ≤ f24_12_5.toInt from r158) (show f24_12_5.toInt ≤ 4 from t159) (Nat.lt_succ_self _) hw hT hF c188 c187 (lv_sub hl [2, 3, 4, 1, 0] rfl)
      · have c161 : v24_3.toInt < (2600 : Int) := wk_leF c161
        refine lv_aload_n hx hb dX12_questions_31 rfl (lv_at hl 0 rfl) ?_
        refine tk_getA hC hK hw hT hinX12 kM_at0 (by decide) rfl 34 (by decide) (List.mem_cons_of_mem _ uw_7_7) rfl rfl dX12_questions_32 ?_
        refine lv_iload_n hx hb dX12_questions_35 rfl (lv_at hl 3 rfl) ?_
        refine lv_ldcw (v := 100000000) hx hb hC.2.2.2.1 (hC.2.2.2.2 _ (List.mem_cons_of_mem _ uw_38_2)) dX12_questions_36 ?_
        refine tk_iast hC hK hw hT kM_at17 (by decide) rfl rfl (show 0 ≤ v24_3.toInt from r156) (show v24_3.toInt < 2600 from c161) (by decide) (by decide) dX12_questions_39 (fun H locs w189 hw hT k191 c190 => ?_)
        have hF := hF.put kM_at17 (inE_of (a := 0) (b := 2600) (by decide) (show 0 ≤ v24_3.toInt.toNat by omega) (show v24_3.toInt.toNat ≤ 2600 by omega)) k191
        have c192 := k191.gi (Or.inl (tk_ne kM_at12 kM_at17 (by decide))) c160
        obtain ⟨x193, ex193⟩ : ∃ y : Int32, y = v24_3 + Int32.ofInt 1 := ⟨_, rfl⟩
        refine lv_iinc (v := x193) (lv' := [(3, .int x193), (0, .ref (ad 0)), (1, .int a1), (2, .int a2)]) hx hb dX12_questions_40 hl (k := 3) rfl ex193.symm (by decide) rfl (fun ls hl => ?_)
        have ex193 : x193.toInt = v24_3.toInt + 1 := by rw [ex193]; exact wk_add (y := 1) (show -2147483648 ≤ v24_3.toInt + 1 by omega) (show v24_3.toInt + 1 ≤ 2147483647 by omega)
        refine lv_goto (tgt := 24) hx hb dX12_questions_43 (by decide) ?_
        exact ih24 x193 f24_12_5 H locs ls w189 (show 0 ≤ a1.toInt from r152) (show a1.toInt ≤ 3 from t153) (show 0 ≤ a2.toInt from r154) (show a2.toInt ≤ 120 from t155) (show 0 ≤ x193.toInt by first | with_reducible assumption | omega) (show x193.toInt ≤ 2600 by first | with_reducible assumption | omega) (show 1 ≤ f24_12_5.toInt from r158) (show f24_12_5.toInt ≤ 4 from t159) (show (2600 - x193.toInt).toNat < n24 by first | exact tn_lt hm24 (by omega) (by omega) | omega) hw hT hF c192 (lv_sub hl [1, 2, 3, 0] rfl)
  refine lv_aload_n hx hb dX12_questions_0 rfl (lv_at hl 0 rfl) ?_
  refine lv_iload_n hx hb dX12_questions_1 rfl (lv_at hl 1 rfl) ?_
  refine tk_Vi hC hK hw hT hA hE hSR kM_at0 (by decide) rfl (k_X12_isWalker_1 l adK adV dC dI cy ad B hB0 (Int.le_trans hB1 (by decide)) qr s1   a1 w0 s.heap.size hT ) (cwV 1 hC.2.2.2.2 uV_RX12_367 rfl rfl rfl (by decide +kernel) ⟨Nat.le_of_ble_eq_true rfl, Nat.le_of_ble_eq_true rfl⟩) rfl hl.1 rfl (Nat.le_of_ble_eq_true rfl) dX12_questions_2 (fun r194 w196 H locs hp195 hw => ?_)
  obtain ⟨rfl, hg202⟩ := hp195
  rcases hg202 with rfl | ⟨rfl, g198, g199, ⟨x200, c201, rx200, tx200⟩⟩
  · refine lv_if_eq (tgt := 20) hx hb dX12_questions_5 (by decide) (fun _ => ?_) (fun c => absurd (by decide) c)
    exact J20  H locs ls w0   hw hT hF  (lv_sub hl [0, 1, 2] rfl)
  · refine lv_if_eq (tgt := 20) hx hb dX12_questions_5 (by decide) (fun c => absurd c (by decide)) (fun _ => ?_)
    refine lv_iload_n hx hb dX12_questions_8 rfl (lv_at hl 2 rfl) ?_
    refine lv_i2l hx hb dX12_questions_9 rfl ?_
    refine lv_topl (fun x203 ex203 => ?_)
    have ex203 : x203.toInt = a2.toInt := by rw [ex203]; exact wk_i2l _
    have bx203 := wk_i32 a2
    refine lv_lconst (v := 0) hx hb dX12_questions_10 (by decide) ?_
    refine lv_ldc2 (v := 120) hx hb hC.2.2.2.1 (hC.2.2.2.2 _ (List.mem_cons_of_mem _ uw_57_5)) dX12_questions_11 ?_
    refine tk_Si hC hK hw hT hA hE hSR (k_X12_in_17 l adK adV dC dI cy ad B hB0 (Int.le_trans hB1 (by decide)) qr s1   x203 (show (-2147483648) ≤ x203.toInt by first | with_reducible assumption | omega) (show x203.toInt ≤ 2147483647 by first | with_reducible assumption | omega) w0 H.size hT ) (va_cwS 3 hC.2.2.2.2 uS_RX12_122 rfl rfl rfl (by decide +kernel) ⟨Nat.le_of_ble_eq_true rfl, Nat.le_of_ble_eq_true rfl⟩) rfl hl.1 rfl (Nat.le_of_ble_eq_true rfl) dX12_questions_14 (fun r204 w206 H locs hp205 hw => ?_)
    obtain ⟨rfl, hg210⟩ := hp205
    rcases hg210 with rfl | ⟨rfl, g208, g209⟩
    · refine lv_if_ne (tgt := 22) hx hb dX12_questions_17 (by decide) (fun c => absurd (by decide) c) (fun _ => ?_)
      exact J20  H locs ls w0   hw hT hF  (lv_sub hl [0, 1, 2] rfl)
    · refine lv_if_ne (tgt := 22) hx hb dX12_questions_17 (by decide) (fun _ => ?_) (fun c => absurd c (by decide))
      refine lv_iconst (v := 0) hx hb dX12_questions_22 (by decide) ?_
      refine lv_istore_n (lv' := [(3, .int 0), (0, .ref (ad 0)), (1, .int a1), (2, .int a2)]) hx hb dX12_questions_23 rfl hl (by decide) rfl (fun ls hl => ?_)
      exact L24 ((2600 - (0 : Int)).toNat + 1) 0 x200 H locs ls w0 (show 0 ≤ a1.toInt by first | with_reducible assumption | omega) (show a1.toInt ≤ 3 by first | with_reducible assumption | omega) (show 0 ≤ a2.toInt by first | with_reducible assumption | omega) (show a2.toInt ≤ 120 by first | with_reducible assumption | omega) (by decide) (by decide) (show 1 ≤ x200.toInt by first | with_reducible assumption | omega) (show x200.toInt ≤ 4 by first | with_reducible assumption | omega) (Nat.lt_succ_self _) hw hT hF c201 (lv_sub hl [1, 2, 3, 0] rfl)
abbrev P_X12_bits_1 (ad : Nat → Nat) (cy : Nat → ClassId) (B : Int) (qr : Nat) (s1 : Int) (a0 : Int32) (w0 : va_W) : Int32 → va_W → Prop := fun r u => w0 = u ∧ ((True))
set_option maxHeartbeats 4000000 in
set_option maxRecDepth 100000 in
theorem k_X12_bits_1 (l : Launch) (adK adV : Nat → Nat) (dC : Nat → ClassId) (dI : Nat → Nat → Nat) (cy : Nat → ClassId) (ad : Nat → Nat) (B : Int) (hB0 : 100000 ≤ B) (hB1 : B ≤ 1073741824) (qr : Nat) (s1 : Int)  (a0 : Int32) (ra0 : 0 ≤ a0.toInt) (ta0 : a0.toInt ≤ 63) (w0 : va_W) (sz : Nat) (hT : TW ksM ad cy B qr 12 w0)  : Met l yX12_bits (wu yX12_bits cX12_bits 3 (some .int)) ({ frames := 1, cells := 0, slots := 0, locals := 12 }) (va_Pc [.int a0] (wpreS adK adV dC dI cy sz w0)) (va_Qi (P_X12_bits_1 ad cy B qr s1 a0 w0) (fun u : va_W => wpost dC dI cy (va_A w0 sz) u) (va_A w0 sz)) 0 0 (va_A w0 sz) := by
  refine Met.ofW (cc := cX12_bits) (maxL := 3) (ret := (some .int)) (by decide) rfl ?_
  intro p e s m args below meth c s₁ Bk hml hv
  obtain ⟨rfl, ⟨hsz, hP, hK, hD0⟩, hE, hSR⟩ := hv
  have hx := Bk.exec
  have hb := Bk.bytes
  have hr := Bk.returns
  have hlocks := Bk.notSynchronized
  have hC : CallFix p m c cX12_bits 3 s _ (wu yX12_bits cX12_bits 3 (some .int)) RX12 := ⟨hx, hb, hml, findClass_of_methodNamed Bk.named, atoms_spec (ws := (wu yX12_bits cX12_bits 3 (some .int))) Bk.pre⟩
  subst hsz
  have hD := hD0.self (sz := s.heap.size)
  generalize hAe : va_A w0 s.heap.size = A at hD hE ⊢
  have hA : ∀ q : Nat, s.heap.size ≤ q → A q := fun q h => by rw [← hAe]; exact Or.inr h
  have hw : Wd dC dI A s.heap s.heap [] w0 := ⟨hP, hD, va_S.rf⟩
  have hF : FE ksM ([] : List (Nat × Nat × Nat)) w0 w0 := FE.rf
  have hl := lv_entry ([.int a0]) (n := 3) (Nat.le_of_ble_eq_true rfl)
  rw [lg_entry_eq]
  generalize (lg_sl ([.int a0]) ++ List.replicate (3 - (lg_sl ([.int a0])).length) Slot.unset).toArray = ls at hl ⊢
  have hl : lv_has ls 3 [(0, .int a0)] := hl
  generalize hloc : ([] : List Loc) = locs at hw ⊢
  have L4 : ∀ (n4 : Nat) (v4_1 : Int32) (v4_2 : Int32) (H : Heap) (locs : List Loc) (ls : Array Slot), 0 ≤ a0.toInt → a0.toInt ≤ 63 → 0 ≤ v4_2.toInt → v4_2.toInt ≤ 63 → (v4_2.toInt - 0).toNat < n4 → Wd dC dI A s.heap H locs w0 → lv_has ls 3 [(0, .int a0), (1, .int v4_1), (2, .int v4_2)] → W p l e ({ frames := 1, cells := 0, slots := 0, locals := 12 }) s m (List.toArray [.int a0]) below meth c H locs 0 0 (MQ below (va_Qi (P_X12_bits_1 ad cy B qr s1 a0 w0) (fun u : va_W => wpost dC dI cy A u) A) (List.toArray [.int a0]) s 0 0 A) (F0 m 4 ls []) := by
    intro n4
    induction n4 with
    | zero => intro v4_1 v4_2 H locs ls r1 t2 r3 t4 hm4 hw hl; omega
    | succ n4 ih4 =>
      intro v4_1 v4_2 H locs ls r1 t2 r3 t4 hm4 hw hl
      refine lv_iload_n hx hb dX12_bits_4 rfl (lv_at hl 2 rfl) ?_
      refine lv_if_eq (tgt := 20) hx hb dX12_bits_5 (by decide) (fun c5 => ?_) (fun c5 => ?_)
      · have c5 : v4_2.toInt = (0 : Int) := wk_eq.mp c5
        refine lv_iload_n hx hb dX12_bits_20 rfl (lv_at hl 1 rfl) ?_
        exact tk_iret hC hr hlocks hK ⟨rfl, trivial⟩ hw dX12_bits_21
      · have c5 : ¬ v4_2.toInt = (0 : Int) := wk_eqF c5
        have nx7 := wk_i32 v4_1
        obtain ⟨x6, ex6⟩ : ∃ y : Int32, y = v4_1 + Int32.ofInt 1 := ⟨_, rfl⟩
        refine lv_iinc (v := x6) (lv' := [(1, .int x6), (0, .int a0), (2, .int v4_2)]) hx hb dX12_bits_8 hl (k := 1) rfl ex6.symm (by decide) rfl (fun ls hl => ?_)
        refine lv_iload_n hx hb dX12_bits_11 rfl (lv_at hl 2 rfl) ?_
        refine lv_iload_n hx hb dX12_bits_12 rfl (lv_at hl 2 rfl) ?_
        refine lv_iconst (v := 1) hx hb dX12_bits_13 (by decide) ?_
        refine lv_isub hx hb dX12_bits_14 ?_
        refine lv_topi (fun x8 ex8 => ?_)
        have ex8 : x8.toInt = v4_2.toInt - (1 : Int) := by rw [ex8]; exact wk_sub (show (-2147483648) ≤ v4_2.toInt - (1 : Int) by omega) (show v4_2.toInt - (1 : Int) ≤ 2147483647 by omega)
        refine lv_iand hx hb dX12_bits_15 ?_
        refine lv_topi (fun x9 ex9 => ?_)
        have bx9 : 0 ≤ x9.toInt ∧ x9.toInt ≤ x8.toInt := by rw [ex9]; exact wk_and (by omega)
        refine lv_istore_n (lv' := [(2, .int x9), (1, .int x6), (0, .int a0)]) hx hb dX12_bits_16 rfl hl (by decide) rfl (fun ls hl => ?_)
        refine lv_goto (tgt := 4) hx hb dX12_bits_17 (by decide) ?_
        exact ih4 x6 x9 H locs ls  (show 0 ≤ a0.toInt from r1) (show a0.toInt ≤ 63 from t2) (show 0 ≤ x9.toInt by first | with_reducible assumption | omega) (show x9.toInt ≤ 63 by first | with_reducible assumption | omega) (show (x9.toInt - 0).toNat < n4 by first | exact tn_lt hm4 (by omega) (by omega) | omega) hw   (lv_sub hl [2, 1, 0] rfl)
  refine lv_iconst (v := 0) hx hb dX12_bits_0 (by decide) ?_
  refine lv_istore_n (lv' := [(1, .int 0), (0, .int a0)]) hx hb dX12_bits_1 rfl hl (by decide) rfl (fun ls hl => ?_)
  refine lv_iload_n hx hb dX12_bits_2 rfl (lv_at hl 1 rfl) ?_
  refine lv_istore_n (lv' := [(2, .int a0), (1, .int 0), (0, .int a0)]) hx hb dX12_bits_3 rfl hl (by decide) rfl (fun ls hl => ?_)
  exact L4 ((a0.toInt - 0).toNat + 1) 0 a0 s.heap locs ls  (show 0 ≤ a0.toInt from ra0) (show a0.toInt ≤ 63 from ta0) (show 0 ≤ a0.toInt from ra0) (show a0.toInt ≤ 63 from ta0) (Nat.lt_succ_self _) hw   (lv_sub hl [2, 1, 0] rfl)
abbrev P_X12_bits_2 (ad : Nat → Nat) (cy : Nat → ClassId) (B : Int) (qr : Nat) (s1 : Int) (a0 : Int32) (w0 : va_W) : Int32 → va_W → Prop := fun r u => w0 = u ∧ ((True))
set_option maxHeartbeats 4000000 in
set_option maxRecDepth 100000 in
theorem k_X12_bits_2 (l : Launch) (adK adV : Nat → Nat) (dC : Nat → ClassId) (dI : Nat → Nat → Nat) (cy : Nat → ClassId) (ad : Nat → Nat) (B : Int) (hB0 : 100000 ≤ B) (hB1 : B ≤ 1073741824) (qr : Nat) (s1 : Int)  (a0 : Int32) (ra0 : 1 ≤ a0.toInt) (ta0 : a0.toInt ≤ 63) (w0 : va_W) (sz : Nat) (hT : TW ksM ad cy B qr 12 w0)  : Met l yX12_bits (wu yX12_bits cX12_bits 3 (some .int)) ({ frames := 1, cells := 0, slots := 0, locals := 12 }) (va_Pc [.int a0] (wpreS adK adV dC dI cy sz w0)) (va_Qi (P_X12_bits_2 ad cy B qr s1 a0 w0) (fun u : va_W => wpost dC dI cy (va_A w0 sz) u) (va_A w0 sz)) 0 0 (va_A w0 sz) := by
  refine Met.ofW (cc := cX12_bits) (maxL := 3) (ret := (some .int)) (by decide) rfl ?_
  intro p e s m args below meth c s₁ Bk hml hv
  obtain ⟨rfl, ⟨hsz, hP, hK, hD0⟩, hE, hSR⟩ := hv
  have hx := Bk.exec
  have hb := Bk.bytes
  have hr := Bk.returns
  have hlocks := Bk.notSynchronized
  have hC : CallFix p m c cX12_bits 3 s _ (wu yX12_bits cX12_bits 3 (some .int)) RX12 := ⟨hx, hb, hml, findClass_of_methodNamed Bk.named, atoms_spec (ws := (wu yX12_bits cX12_bits 3 (some .int))) Bk.pre⟩
  subst hsz
  have hD := hD0.self (sz := s.heap.size)
  generalize hAe : va_A w0 s.heap.size = A at hD hE ⊢
  have hA : ∀ q : Nat, s.heap.size ≤ q → A q := fun q h => by rw [← hAe]; exact Or.inr h
  have hw : Wd dC dI A s.heap s.heap [] w0 := ⟨hP, hD, va_S.rf⟩
  have hF : FE ksM ([] : List (Nat × Nat × Nat)) w0 w0 := FE.rf
  have hl := lv_entry ([.int a0]) (n := 3) (Nat.le_of_ble_eq_true rfl)
  rw [lg_entry_eq]
  generalize (lg_sl ([.int a0]) ++ List.replicate (3 - (lg_sl ([.int a0])).length) Slot.unset).toArray = ls at hl ⊢
  have hl : lv_has ls 3 [(0, .int a0)] := hl
  generalize hloc : ([] : List Loc) = locs at hw ⊢
  have L4 : ∀ (n4 : Nat) (v4_1 : Int32) (v4_2 : Int32) (H : Heap) (locs : List Loc) (ls : Array Slot), 1 ≤ a0.toInt → a0.toInt ≤ 63 → 0 ≤ v4_2.toInt → v4_2.toInt ≤ 63 → (v4_2.toInt - 0).toNat < n4 → Wd dC dI A s.heap H locs w0 → lv_has ls 3 [(0, .int a0), (1, .int v4_1), (2, .int v4_2)] → W p l e ({ frames := 1, cells := 0, slots := 0, locals := 12 }) s m (List.toArray [.int a0]) below meth c H locs 0 0 (MQ below (va_Qi (P_X12_bits_2 ad cy B qr s1 a0 w0) (fun u : va_W => wpost dC dI cy A u) A) (List.toArray [.int a0]) s 0 0 A) (F0 m 4 ls []) := by
    intro n4
    induction n4 with
    | zero => intro v4_1 v4_2 H locs ls r1 t2 r3 t4 hm4 hw hl; omega
    | succ n4 ih4 =>
      intro v4_1 v4_2 H locs ls r1 t2 r3 t4 hm4 hw hl
      refine lv_iload_n hx hb dX12_bits_4 rfl (lv_at hl 2 rfl) ?_
      refine lv_if_eq (tgt := 20) hx hb dX12_bits_5 (by decide) (fun c5 => ?_) (fun c5 => ?_)
      · have c5 : v4_2.toInt = (0 : Int) := wk_eq.mp c5
        refine lv_iload_n hx hb dX12_bits_20 rfl (lv_at hl 1 rfl) ?_
        exact tk_iret hC hr hlocks hK ⟨rfl, trivial⟩ hw dX12_bits_21
      · have c5 : ¬ v4_2.toInt = (0 : Int) := wk_eqF c5
        have nx7 := wk_i32 v4_1
        obtain ⟨x6, ex6⟩ : ∃ y : Int32, y = v4_1 + Int32.ofInt 1 := ⟨_, rfl⟩
        refine lv_iinc (v := x6) (lv' := [(1, .int x6), (0, .int a0), (2, .int v4_2)]) hx hb dX12_bits_8 hl (k := 1) rfl ex6.symm (by decide) rfl (fun ls hl => ?_)
        refine lv_iload_n hx hb dX12_bits_11 rfl (lv_at hl 2 rfl) ?_
        refine lv_iload_n hx hb dX12_bits_12 rfl (lv_at hl 2 rfl) ?_
        refine lv_iconst (v := 1) hx hb dX12_bits_13 (by decide) ?_
        refine lv_isub hx hb dX12_bits_14 ?_
        refine lv_topi (fun x8 ex8 => ?_)
        have ex8 : x8.toInt = v4_2.toInt - (1 : Int) := by rw [ex8]; exact wk_sub (show (-2147483648) ≤ v4_2.toInt - (1 : Int) by omega) (show v4_2.toInt - (1 : Int) ≤ 2147483647 by omega)
        refine lv_iand hx hb dX12_bits_15 ?_
        refine lv_topi (fun x9 ex9 => ?_)
        have bx9 : 0 ≤ x9.toInt ∧ x9.toInt ≤ x8.toInt := by rw [ex9]; exact wk_and (by omega)
        refine lv_istore_n (lv' := [(2, .int x9), (1, .int x6), (0, .int a0)]) hx hb dX12_bits_16 rfl hl (by decide) rfl (fun ls hl => ?_)
        refine lv_goto (tgt := 4) hx hb dX12_bits_17 (by decide) ?_
        exact ih4 x6 x9 H locs ls  (show 1 ≤ a0.toInt from r1) (show a0.toInt ≤ 63 from t2) (show 0 ≤ x9.toInt by first | with_reducible assumption | omega) (show x9.toInt ≤ 63 by first | with_reducible assumption | omega) (show (x9.toInt - 0).toNat < n4 by first | exact tn_lt hm4 (by omega) (by omega) | omega) hw   (lv_sub hl [2, 1, 0] rfl)
  refine lv_iconst (v := 0) hx hb dX12_bits_0 (by decide) ?_
  refine lv_istore_n (lv' := [(1, .int 0), (0, .int a0)]) hx hb dX12_bits_1 rfl hl (by decide) rfl (fun ls hl => ?_)
  refine lv_iload_n hx hb dX12_bits_2 rfl (lv_at hl 1 rfl) ?_
  refine lv_istore_n (lv' := [(2, .int a0), (1, .int 0), (0, .int a0)]) hx hb dX12_bits_3 rfl hl (by decide) rfl (fun ls hl => ?_)
  exact L4 ((a0.toInt - 0).toNat + 1) 0 a0 s.heap locs ls  (show 1 ≤ a0.toInt from ra0) (show a0.toInt ≤ 63 from ta0) (show 0 ≤ a0.toInt from Int.le_trans (by decide) ra0) (show a0.toInt ≤ 63 from ta0) (Nat.lt_succ_self _) hw   (lv_sub hl [2, 1, 0] rfl)
abbrev P_X12_isOf_6 (ad : Nat → Nat) (cy : Nat → ClassId) (B : Int) (qr : Nat) (s1 : Int) (a0 : Int32) (a1 : Int32) (w0 : va_W) : Int32 → va_W → Prop := fun r u => w0 = u ∧ ((r = 0 ∧ (¬ mOf a0 a1)) ∨ (r = 1 ∧ (mOf a0 a1)))
set_option maxHeartbeats 4000000 in
set_option maxRecDepth 100000 in
theorem k_X12_isOf_6 (l : Launch) (adK adV : Nat → Nat) (dC : Nat → ClassId) (dI : Nat → Nat → Nat) (cy : Nat → ClassId) (ad : Nat → Nat) (B : Int) (hB0 : 100000 ≤ B) (hB1 : B ≤ 1073741824) (qr : Nat) (s1 : Int)  (a0 : Int32) (ra0 : 0 ≤ a0.toInt) (ta0 : a0.toInt ≤ 4095) (a1 : Int32) (w0 : va_W) (sz : Nat) (hT : TW ksM ad cy B qr 12 w0)  : Met l yX12_isOf (wu yX12_isOf cX12_isOf 2 (some .boolean)) ({ frames := 1, cells := 0, slots := 0, locals := 12 }) (va_Pc [.int a0, .int a1] (wpreS adK adV dC dI cy sz w0)) (va_Qi (P_X12_isOf_6 ad cy B qr s1 a0 a1 w0) (fun u : va_W => wpost dC dI cy (va_A w0 sz) u) (va_A w0 sz)) 0 0 (va_A w0 sz) := by
  refine Met.ofW (cc := cX12_isOf) (maxL := 2) (ret := (some .boolean)) (by decide) rfl ?_
  intro p e s m args below meth c s₁ Bk hml hv
  obtain ⟨rfl, ⟨hsz, hP, hK, hD0⟩, hE, hSR⟩ := hv
  have hx := Bk.exec
  have hb := Bk.bytes
  have hr := Bk.returns
  have hlocks := Bk.notSynchronized
  have hC : CallFix p m c cX12_isOf 2 s _ (wu yX12_isOf cX12_isOf 2 (some .boolean)) RX12 := ⟨hx, hb, hml, findClass_of_methodNamed Bk.named, atoms_spec (ws := (wu yX12_isOf cX12_isOf 2 (some .boolean))) Bk.pre⟩
  subst hsz
  have hD := hD0.self (sz := s.heap.size)
  generalize hAe : va_A w0 s.heap.size = A at hD hE ⊢
  have hA : ∀ q : Nat, s.heap.size ≤ q → A q := fun q h => by rw [← hAe]; exact Or.inr h
  have hw : Wd dC dI A s.heap s.heap [] w0 := ⟨hP, hD, va_S.rf⟩
  have hF : FE ksM ([] : List (Nat × Nat × Nat)) w0 w0 := FE.rf
  have hl := lv_entry ([.int a0, .int a1]) (n := 2) (Nat.le_of_ble_eq_true rfl)
  rw [lg_entry_eq]
  generalize (lg_sl ([.int a0, .int a1]) ++ List.replicate (2 - (lg_sl ([.int a0, .int a1])).length) Slot.unset).toArray = ls at hl ⊢
  have hl : lv_has ls 2 [(0, .int a0), (1, .int a1)] := hl
  generalize hloc : ([] : List Loc) = locs at hw ⊢
  refine lv_iload_n hx hb dX12_isOf_0 rfl (lv_at hl 0 rfl) ?_
  refine lv_iload_n hx hb dX12_isOf_1 rfl (lv_at hl 1 rfl) ?_
  refine lv_ishr hx hb dX12_isOf_2 ?_
  refine lv_topi (fun x1 ex1 => ?_)
  have bx1 : 0 ≤ x1.toInt ∧ x1.toInt ≤ a0.toInt := by rw [ex1]; exact wk_shr (by omega)
  refine lv_iconst (v := 1) hx hb dX12_isOf_3 (by decide) ?_
  refine lv_iand hx hb dX12_isOf_4 ?_
  refine lv_topi (fun x2 ex2 => ?_)
  have bx2 : 0 ≤ x2.toInt ∧ x2.toInt ≤ (1 : Int) := by rw [ex2]; exact wk_and (by decide)
  refine lv_iconst (v := 1) hx hb dX12_isOf_5 (by decide) ?_
  refine lv_icmp_ne (tgt := 13) hx hb dX12_isOf_6 (by decide) (fun c3 => ?_) (fun c3 => ?_)
  · have c3 : ¬ x2.toInt = (1 : Int) := wk_eqF c3
    refine lv_iconst (v := 0) hx hb dX12_isOf_13 (by decide) ?_
    exact tk_zret hC hr rfl hlocks hK ⟨rfl, (Or.inl ⟨rfl, (by unfold mOf; rw [← ex1, ← ex2]; omega)⟩)⟩ hw dX12_isOf_14
  · have c3 : x2.toInt = (1 : Int) := wk_eq.mp c3
    refine lv_iconst (v := 1) hx hb dX12_isOf_9 (by decide) ?_
    refine lv_goto (tgt := 14) hx hb dX12_isOf_10 (by decide) ?_
    exact tk_zret hC hr rfl hlocks hK ⟨rfl, (Or.inr ⟨rfl, (by unfold mOf; rw [← ex1, ← ex2]; omega)⟩)⟩ hw dX12_isOf_14
abbrev P_X12_isOf_7 (ad : Nat → Nat) (cy : Nat → ClassId) (B : Int) (qr : Nat) (s1 : Int) (a0 : Int32) (a1 : Int32) (w0 : va_W) : Int32 → va_W → Prop := fun r u => w0 = u ∧ ((r = 0 ∧ (¬ mOf a0 a1)) ∨ (r = 1 ∧ (mOf a0 a1)))
set_option maxHeartbeats 4000000 in
set_option maxRecDepth 100000 in
theorem k_X12_isOf_7 (l : Launch) (adK adV : Nat → Nat) (dC : Nat → ClassId) (dI : Nat → Nat → Nat) (cy : Nat → ClassId) (ad : Nat → Nat) (B : Int) (hB0 : 100000 ≤ B) (hB1 : B ≤ 1073741824) (qr : Nat) (s1 : Int)  (a0 : Int32) (ra0 : 1 ≤ a0.toInt) (ta0 : a0.toInt ≤ 1023) (a1 : Int32) (ra1 : 0 ≤ a1.toInt) (ta1 : a1.toInt ≤ 9) (w0 : va_W) (sz : Nat) (hT : TW ksM ad cy B qr 12 w0)  : Met l yX12_isOf (wu yX12_isOf cX12_isOf 2 (some .boolean)) ({ frames := 1, cells := 0, slots := 0, locals := 12 }) (va_Pc [.int a0, .int a1] (wpreS adK adV dC dI cy sz w0)) (va_Qi (P_X12_isOf_7 ad cy B qr s1 a0 a1 w0) (fun u : va_W => wpost dC dI cy (va_A w0 sz) u) (va_A w0 sz)) 0 0 (va_A w0 sz) := by
  refine Met.ofW (cc := cX12_isOf) (maxL := 2) (ret := (some .boolean)) (by decide) rfl ?_
  intro p e s m args below meth c s₁ Bk hml hv
  obtain ⟨rfl, ⟨hsz, hP, hK, hD0⟩, hE, hSR⟩ := hv
  have hx := Bk.exec
  have hb := Bk.bytes
  have hr := Bk.returns
  have hlocks := Bk.notSynchronized
  have hC : CallFix p m c cX12_isOf 2 s _ (wu yX12_isOf cX12_isOf 2 (some .boolean)) RX12 := ⟨hx, hb, hml, findClass_of_methodNamed Bk.named, atoms_spec (ws := (wu yX12_isOf cX12_isOf 2 (some .boolean))) Bk.pre⟩
  subst hsz
  have hD := hD0.self (sz := s.heap.size)
  generalize hAe : va_A w0 s.heap.size = A at hD hE ⊢
  have hA : ∀ q : Nat, s.heap.size ≤ q → A q := fun q h => by rw [← hAe]; exact Or.inr h
  have hw : Wd dC dI A s.heap s.heap [] w0 := ⟨hP, hD, va_S.rf⟩
  have hF : FE ksM ([] : List (Nat × Nat × Nat)) w0 w0 := FE.rf
  have hl := lv_entry ([.int a0, .int a1]) (n := 2) (Nat.le_of_ble_eq_true rfl)
  rw [lg_entry_eq]
  generalize (lg_sl ([.int a0, .int a1]) ++ List.replicate (2 - (lg_sl ([.int a0, .int a1])).length) Slot.unset).toArray = ls at hl ⊢
  have hl : lv_has ls 2 [(0, .int a0), (1, .int a1)] := hl
  generalize hloc : ([] : List Loc) = locs at hw ⊢
  refine lv_iload_n hx hb dX12_isOf_0 rfl (lv_at hl 0 rfl) ?_
  refine lv_iload_n hx hb dX12_isOf_1 rfl (lv_at hl 1 rfl) ?_
  refine lv_ishr hx hb dX12_isOf_2 ?_
  refine lv_topi (fun x1 ex1 => ?_)
  have bx1 : 0 ≤ x1.toInt ∧ x1.toInt ≤ a0.toInt := by rw [ex1]; exact wk_shr (by omega)
  refine lv_iconst (v := 1) hx hb dX12_isOf_3 (by decide) ?_
  refine lv_iand hx hb dX12_isOf_4 ?_
  refine lv_topi (fun x2 ex2 => ?_)
  have bx2 : 0 ≤ x2.toInt ∧ x2.toInt ≤ (1 : Int) := by rw [ex2]; exact wk_and (by decide)
  refine lv_iconst (v := 1) hx hb dX12_isOf_5 (by decide) ?_
  refine lv_icmp_ne (tgt := 13) hx hb dX12_isOf_6 (by decide) (fun c3 => ?_) (fun c3 => ?_)
  · have c3 : ¬ x2.toInt = (1 : Int) := wk_eqF c3
    refine lv_iconst (v := 0) hx hb dX12_isOf_13 (by decide) ?_
    exact tk_zret hC hr rfl hlocks hK ⟨rfl, (Or.inl ⟨rfl, (by unfold mOf; rw [← ex1, ← ex2]; omega)⟩)⟩ hw dX12_isOf_14
  · have c3 : x2.toInt = (1 : Int) := wk_eq.mp c3
    refine lv_iconst (v := 1) hx hb dX12_isOf_9 (by decide) ?_
    refine lv_goto (tgt := 14) hx hb dX12_isOf_10 (by decide) ?_
    exact tk_zret hC hr rfl hlocks hK ⟨rfl, (Or.inr ⟨rfl, (by unfold mOf; rw [← ex1, ← ex2]; omega)⟩)⟩ hw dX12_isOf_14
abbrev P_X12_comesTo_1 (ad : Nat → Nat) (cy : Nat → ClassId) (B : Int) (qr : Nat) (s1 : Int) (a1 : Int32) (a2 : Int32) (a3 : Int32) (w0 : va_W) : Int32 → va_W → Prop := fun r u => w0 = u ∧ ((1 ≤ r.toInt ∧ r.toInt ≤ 1023))
set_option maxHeartbeats 4000000 in
set_option maxRecDepth 100000 in
theorem k_X12_comesTo_1 (l : Launch) (adK adV : Nat → Nat) (dC : Nat → ClassId) (dI : Nat → Nat → Nat) (cy : Nat → ClassId) (ad : Nat → Nat) (B : Int) (hB0 : 100000 ≤ B) (hB1 : B ≤ 1073741824) (qr : Nat) (s1 : Int)  (a1 : Int32) (ra1 : 0 ≤ a1.toInt) (ta1 : a1.toInt ≤ 6) (a2 : Int32) (ra2 : 0 ≤ a2.toInt) (ta2 : a2.toInt ≤ 4095) (a3 : Int32) (ra3 : 0 ≤ a3.toInt) (ta3 : a3.toInt ≤ 9) (w0 : va_W) (sz : Nat) (hT : TW ksM ad cy B qr 12 w0)  : Met l yX12_comesTo (wu yX12_comesTo cX12_comesTo 9 (some .int)) ({ frames := 2, cells := 0, slots := 0, locals := 34 }) (va_Pc [.ref (ad 0), .int a1, .int a2, .int a3] (wpreS adK adV dC dI cy sz w0)) (va_Qi (P_X12_comesTo_1 ad cy B qr s1 a1 a2 a3 w0) (fun u : va_W => wpost dC dI cy (va_A w0 sz) u) (va_A w0 sz)) 0 0 (va_A w0 sz) := by
  refine Met.ofW (cc := cX12_comesTo) (maxL := 9) (ret := (some .int)) (by decide) rfl ?_
  intro p e s m args below meth c s₁ Bk hml hv
  obtain ⟨rfl, ⟨hsz, hP, hK, hD0⟩, hE, hSR⟩ := hv
  have hx := Bk.exec
  have hb := Bk.bytes
  have hr := Bk.returns
  have hlocks := Bk.notSynchronized
  have hC : CallFix p m c cX12_comesTo 9 s _ (wu yX12_comesTo cX12_comesTo 9 (some .int)) RX12 := ⟨hx, hb, hml, findClass_of_methodNamed Bk.named, atoms_spec (ws := (wu yX12_comesTo cX12_comesTo 9 (some .int))) Bk.pre⟩
  subst hsz
  have hD := hD0.self (sz := s.heap.size)
  generalize hAe : va_A w0 s.heap.size = A at hD hE ⊢
  have hA : ∀ q : Nat, s.heap.size ≤ q → A q := fun q h => by rw [← hAe]; exact Or.inr h
  have hw : Wd dC dI A s.heap s.heap [] w0 := ⟨hP, hD, va_S.rf⟩
  have hF : FE ksM ([] : List (Nat × Nat × Nat)) w0 w0 := FE.rf
  have hl := lv_entry ([.ref (ad 0), .int a1, .int a2, .int a3]) (n := 9) (Nat.le_of_ble_eq_true rfl)
  rw [lg_entry_eq]
  generalize (lg_sl ([.ref (ad 0), .int a1, .int a2, .int a3]) ++ List.replicate (9 - (lg_sl ([.ref (ad 0), .int a1, .int a2, .int a3])).length) Slot.unset).toArray = ls at hl ⊢
  have hl : lv_has ls 9 [(0, .ref (ad 0)), (1, .int a1), (2, .int a2), (3, .int a3)] := hl
  generalize hloc : ([] : List Loc) = locs at hw ⊢
  have hinX12 : ∀ w ∈ u_ws RX12 TX12 42, w ∈ (wu yX12_comesTo cX12_comesTo 9 (some .int)) := fun _ h => List.mem_cons_of_mem _ (up_71 h)
  have L8 : ∀ (n8 : Nat) (v8_4 : Int32) (v8_5 : Int32) (H : Heap) (locs : List Loc) (ls : Array Slot), 0 ≤ a1.toInt → a1.toInt ≤ 6 → 0 ≤ a2.toInt → a2.toInt ≤ 4095 → 0 ≤ a3.toInt → a3.toInt ≤ 9 → 1 ≤ v8_4.toInt → v8_4.toInt ≤ 1023 → 0 ≤ v8_5.toInt → v8_5.toInt ≤ 1023 → v8_5.toInt ≤ v8_4.toInt + 0 → (1023 - v8_5.toInt).toNat < n8 → Wd dC dI A s.heap H locs w0 → lv_has ls 9 [(0, .ref (ad 0)), (1, .int a1), (2, .int a2), (3, .int a3), (4, .int v8_4), (5, .int v8_5)] → W p l e ({ frames := 2, cells := 0, slots := 0, locals := 34 }) s m (List.toArray [.ref (ad 0), .int a1, .int a2, .int a3]) below meth c H locs 0 0 (MQ below (va_Qi (P_X12_comesTo_1 ad cy B qr s1 a1 a2 a3 w0) (fun u : va_W => wpost dC dI cy A u) A) (List.toArray [.ref (ad 0), .int a1, .int a2, .int a3]) s 0 0 A) (F0 m 8 ls []) := by
    intro n8
    induction n8 with
    | zero => intro v8_4 v8_5 H locs ls r1 t2 r3 t4 r5 t6 r7 t8 r9 t10 i11 hm8 hw hl; omega
    | succ n8 ih8 =>
      intro v8_4 v8_5 H locs ls r1 t2 r3 t4 r5 t6 r7 t8 r9 t10 i11 hm8 hw hl
      have L25 : ∀ (n25 : Nat) (v25_4 : Int32) (v25_6 : Int32) (v25_7 : Int32) (H : Heap) (locs : List Loc) (ls : Array Slot), 0 ≤ a1.toInt → a1.toInt ≤ 6 → 0 ≤ a2.toInt → a2.toInt ≤ 4095 → 0 ≤ a3.toInt → a3.toInt ≤ 9 → 1 ≤ v25_4.toInt → v25_4.toInt ≤ 1023 → 1 ≤ v8_4.toInt → v8_4.toInt ≤ 1023 → 0 ≤ v25_7.toInt → v25_7.toInt ≤ 12 → v8_4.toInt ≤ v25_4.toInt + 0 → (v8_5.toInt < v8_4.toInt) → (12 - v25_7.toInt).toNat < n25 → Wd dC dI A s.heap H locs w0 → lv_has ls 9 [(0, .ref (ad 0)), (1, .int a1), (2, .int a2), (3, .int a3), (4, .int v25_4), (5, .int v8_4), (6, .int v25_6), (7, .int v25_7)] → W p l e ({ frames := 2, cells := 0, slots := 0, locals := 34 }) s m (List.toArray [.ref (ad 0), .int a1, .int a2, .int a3]) below meth c H locs 0 0 (MQ below (va_Qi (P_X12_comesTo_1 ad cy B qr s1 a1 a2 a3 w0) (fun u : va_W => wpost dC dI cy A u) A) (List.toArray [.ref (ad 0), .int a1, .int a2, .int a3]) s 0 0 A) (F0 m 25 ls []) := by
        intro n25
        induction n25 with
        | zero => intro v25_4 v25_6 v25_7 H locs ls r12 t13 r14 t15 r16 t17 r18 t19 r20 t21 r22 t23 i24 hcr25_0 hm25 hw hl; omega
        | succ n25 ih25 =>
          intro v25_4 v25_6 v25_7 H locs ls r12 t13 r14 t15 r16 t17 r18 t19 r20 t21 r22 t23 i24 hcr25_0 hm25 hw hl
          have J107 : ∀ (v107_4 : Int32) (v107_6 : Int32) (f107_12_1 : Int32) (H : Heap) (locs : List Loc) (ls : Array Slot), 0 ≤ a1.toInt → a1.toInt ≤ 6 → 0 ≤ a2.toInt → a2.toInt ≤ 4095 → 0 ≤ a3.toInt → a3.toInt ≤ 9 → 1 ≤ v107_4.toInt → v107_4.toInt ≤ 1023 → 1 ≤ v8_4.toInt → v8_4.toInt ≤ 1023 → 0 ≤ v25_7.toInt → v25_7.toInt ≤ 11 → 1 ≤ f107_12_1.toInt → f107_12_1.toInt ≤ 12 → v8_4.toInt ≤ v107_4.toInt + 0 → Wd dC dI A s.heap H locs w0 → gi w0 12 1 = f107_12_1 → lv_has ls 9 [(0, .ref (ad 0)), (1, .int a1), (2, .int a2), (3, .int a3), (4, .int v107_4), (5, .int v8_4), (6, .int v107_6), (7, .int v25_7)] → W p l e ({ frames := 2, cells := 0, slots := 0, locals := 34 }) s m (List.toArray [.ref (ad 0), .int a1, .int a2, .int a3]) below meth c H locs 0 0 (MQ below (va_Qi (P_X12_comesTo_1 ad cy B qr s1 a1 a2 a3 w0) (fun u : va_W => wpost dC dI cy A u) A) (List.toArray [.ref (ad 0), .int a1, .int a2, .int a3]) s 0 0 A) (F0 m 107 ls []) := by
            intro v107_4 v107_6 f107_12_1 H locs ls r25 t26 r27 t28 r29 t30 r31 t32 r33 t34 r35 t36 r37 t38 i40 hw c39 hl
            obtain ⟨x41, ex41⟩ : ∃ y : Int32, y = v25_7 + Int32.ofInt 1 := ⟨_, rfl⟩
            refine lv_iinc (v := x41) (lv' := [(7, .int x41), (0, .ref (ad 0)), (1, .int a1), (2, .int a2), (3, .int a3), (4, .int v107_4), (5, .int v8_4), (6, .int v107_6)]) hx hb dX12_comesTo_107 hl (k := 7) rfl ex41.symm (by decide) rfl (fun ls hl => ?_)
            have ex41 : x41.toInt = v25_7.toInt + 1 := by rw [ex41]; exact wk_add (y := 1) (show -2147483648 ≤ v25_7.toInt + 1 by omega) (show v25_7.toInt + 1 ≤ 2147483647 by omega)
            refine lv_goto (tgt := 25) hx hb dX12_comesTo_110 (by decide) ?_
            exact ih25 v107_4 v107_6 x41 H locs ls  (show 0 ≤ a1.toInt from r25) (show a1.toInt ≤ 6 from t26) (show 0 ≤ a2.toInt from r27) (show a2.toInt ≤ 4095 from t28) (show 0 ≤ a3.toInt from r29) (show a3.toInt ≤ 9 from t30) (show 1 ≤ v107_4.toInt from r31) (show v107_4.toInt ≤ 1023 from t32) (show 1 ≤ v8_4.toInt from r33) (show v8_4.toInt ≤ 1023 from t34) (show 0 ≤ x41.toInt by first | with_reducible assumption | omega) (show x41.toInt ≤ 12 by first | with_reducible assumption | omega) (show v8_4.toInt ≤ v107_4.toInt + 0 from i40) (show v8_5.toInt < v8_4.toInt by omega) (show (12 - x41.toInt).toNat < n25 by first | exact tn_lt hm25 (by omega) (by omega) | omega) hw   (lv_sub hl [1, 2, 3, 4, 5, 6, 7, 0] rfl)
          refine lv_iload hx hb dX12_comesTo_25 (lv_at hl 7 rfl) ?_
          refine lv_aload_n hx hb dX12_comesTo_27 rfl (lv_at hl 0 rfl) ?_
          refine tk_getA hC hK hw hT hinX12 kM_at0 (by decide) rfl 26 (by decide) (List.mem_cons_of_mem _ uw_7_1) rfl rfl dX12_comesTo_28 ?_
          refine lv_iconst (v := 1) hx hb dX12_comesTo_31 (by decide) ?_
          refine tk_ialdR hC hK hw hT kM_at12 rfl (by decide) (by decide) dX12_comesTo_32 (fun x42 c43 Ex42 => ?_)
          have bx42 : 0 ≤ x42.toInt ∧ x42.toInt ≤ 12 := (tk_rg1 rfl).mp Ex42
          have c43 : gi w0 12 1 = x42 := c43
          refine lv_icmp_ge (tgt := 113) hx hb dX12_comesTo_33 (by decide) (fun c44 => ?_) (fun c44 => ?_)
          · have c44 : x42.toInt ≤ v25_7.toInt := wk_le.mp c44
            refine lv_goto (tgt := 8) hx hb dX12_comesTo_113 (by decide) ?_
            exact ih8 v25_4 v8_4 H locs ls  (show 0 ≤ a1.toInt from r12) (show a1.toInt ≤ 6 from t13) (show 0 ≤ a2.toInt from r14) (show a2.toInt ≤ 4095 from t15) (show 0 ≤ a3.toInt from r16) (show a3.toInt ≤ 9 from t17) (show 1 ≤ v25_4.toInt from r18) (show v25_4.toInt ≤ 1023 from t19) (show 0 ≤ v8_4.toInt from Int.le_trans (by decide) r20) (show v8_4.toInt ≤ 1023 from t21) (show v8_4.toInt ≤ v25_4.toInt + 0 from i24) (show (1023 - v8_4.toInt).toNat < n8 by first | exact tn_lt hm8 (by omega) (by omega) | omega) hw   (lv_sub hl [0, 1, 2, 3, 4, 5] rfl)
          · have c44 : v25_7.toInt < x42.toInt := wk_leF c44
            refine lv_aload_n hx hb dX12_comesTo_36 rfl (lv_at hl 0 rfl) ?_
            refine lv_iload hx hb dX12_comesTo_37 (lv_at hl 7 rfl) ?_
            refine lv_iconst (v := 3) hx hb dX12_comesTo_39 (by decide) ?_
            refine lv_iload_n hx hb dX12_comesTo_40 rfl (lv_at hl 1 rfl) ?_
            refine lv_iadd hx hb dX12_comesTo_41 ?_
            refine lv_topi (fun x45 ex45 => ?_)
            have ex45 : x45.toInt = (3 : Int) + a1.toInt := by rw [ex45]; exact wk_add (show (-2147483648) ≤ (3 : Int) + a1.toInt by omega) (show (3 : Int) + a1.toInt ≤ 2147483647 by omega)
            refine tk_Vi hC hK hw hT hA hE hSR kM_at0 (by decide) rfl (k_X12_streetOf_4 l adK adV dC dI cy ad B hB0 (Int.le_trans hB1 (by decide)) qr s1   v25_7 (show 0 ≤ v25_7.toInt from r22) (show v25_7.toInt ≤ 11 by first | with_reducible assumption | omega) x45 (show 3 ≤ x45.toInt by first | with_reducible assumption | omega) (show x45.toInt ≤ 9 by first | with_reducible assumption | omega) w0 H.size hT ) (cwV 2 hC.2.2.2.2 uV_RX12_300 rfl rfl rfl (by decide +kernel) ⟨Nat.le_of_ble_eq_true rfl, Nat.le_of_ble_eq_true rfl⟩) rfl hl.1 rfl (Nat.le_of_ble_eq_true rfl) dX12_comesTo_42 (fun r46 w48 H locs hp47 hw => ?_)
            obtain ⟨rfl, hg53⟩ := hp47
            obtain ⟨g50, g51, c52⟩ := hg53
            refine lv_if_ne (tgt := 51) hx hb dX12_comesTo_45 (by decide) (fun c54 => ?_) (fun c54 => ?_)
            · have c54 : ¬ r46.toInt = (0 : Int) := wk_eqF c54
              refine lv_iload_n hx hb dX12_comesTo_51 rfl (lv_at hl 2 rfl) ?_
              refine lv_iload hx hb dX12_comesTo_52 (lv_at hl 6 rfl) ?_
              refine tk_Si hC hK hw hT hA hE hSR (k_X12_isOf_6 l adK adV dC dI cy ad B hB0 (Int.le_trans hB1 (by decide)) qr s1   a2 (show 0 ≤ a2.toInt from r14) (show a2.toInt ≤ 4095 from t15) v25_6 w0 H.size hT ) (va_cwS 2 hC.2.2.2.2 uS_RX12_304 rfl rfl rfl (by decide +kernel) ⟨Nat.le_of_ble_eq_true rfl, Nat.le_of_ble_eq_true rfl⟩) rfl hl.1 rfl (Nat.le_of_ble_eq_true rfl) dX12_comesTo_54 (fun r55 w57 H locs hp56 hw => ?_)
              obtain ⟨rfl, hg61⟩ := hp56
              rcases hg61 with ⟨rfl, hq59⟩ | ⟨rfl, hq60⟩
              · refine lv_if_eq (tgt := 64) hx hb dX12_comesTo_57 (by decide) (fun _ => ?_) (fun c => absurd (by decide) c)
                refine lv_iconst (v := 0) hx hb dX12_comesTo_64 (by decide) ?_
                refine lv_istore (lv' := [(8, .int 0), (0, .ref (ad 0)), (1, .int a1), (2, .int a2), (3, .int a3), (4, .int v25_4), (5, .int v8_4), (6, .int v25_6), (7, .int v25_7)]) hx hb dX12_comesTo_65 hl (by decide) rfl (fun ls hl => ?_)
                refine lv_iload hx hb dX12_comesTo_67 (lv_at hl 5 rfl) ?_
                refine lv_iload hx hb dX12_comesTo_69 (lv_at hl 5 rfl) ?_
                refine lv_aload_n hx hb dX12_comesTo_71 rfl (lv_at hl 1 rfl) ?_
                refine lv_iload hx hb dX12_comesTo_72 (lv_at hl 8 rfl) ?_
                refine lv_iload hx hb dX12_comesTo_74 (lv_at hl 0 rfl) ?_
                refine tk_Vi hC hK hw hT hA hE hSR kM_at0 (by decide) rfl (k_X12_streetOf_2 l adK adV dC dI cy ad B hB0 (Int.le_trans hB1 (by decide)) qr s1   v25_7 (show 0 ≤ v25_7.toInt from r22) (show v25_7.toInt ≤ 11 by first | with_reducible assumption | omega) w0 H.size hT ) (cwV 2 hC.2.2.2.2 uV_RX12_300 rfl rfl rfl (by decide +kernel) ⟨Nat.le_of_ble_eq_true rfl, Nat.le_of_ble_eq_true rfl⟩) rfl hl.1 rfl (Nat.le_of_ble_eq_true rfl) dX12_comesTo_76 (fun r62 w64 H locs hp63 hw => ?_)
                obtain ⟨rfl, hg69⟩ := hp63
                obtain ⟨g66, g67, c68⟩ := hg69
                refine tk_Si hC hK hw hT hA hE hSR (k_X12_isOf_7 l adK adV dC dI cy ad B hB0 (Int.le_trans hB1 (by decide)) qr s1   v25_4 (show 1 ≤ v25_4.toInt from r18) (show v25_4.toInt ≤ 1023 from t19) r62 (show 0 ≤ r62.toInt by first | with_reducible assumption | omega) (show r62.toInt ≤ 9 by first | with_reducible assumption | omega) w0 H.size hT ) (va_cwS 2 hC.2.2.2.2 uS_RX12_304 rfl rfl rfl (by decide +kernel) ⟨Nat.le_of_ble_eq_true rfl, Nat.le_of_ble_eq_true rfl⟩) rfl hl.1 rfl (Nat.le_of_ble_eq_true rfl) dX12_comesTo_79 (fun r70 w72 H locs hp71 hw => ?_)
                obtain ⟨rfl, hg76⟩ := hp71
                rcases hg76 with ⟨rfl, hq74⟩ | ⟨rfl, hq75⟩
                · refine lv_if_eq (tgt := 100) hx hb dX12_comesTo_82 (by decide) (fun _ => ?_) (fun c => absurd (by decide) c)
                  refine lv_iconst (v := 0) hx hb dX12_comesTo_100 (by decide) ?_
                  refine lv_ior hx hb dX12_comesTo_101 ?_
                  refine lv_topi (fun x77 ex77 => ?_)
                  have bx77 : 0 ≤ x77.toInt ∧ x77.toInt < 1024 := by rw [ex77]; exact wk_or 10 (by decide) (by omega) (by omega) (by decide) (by decide)
                  have mx77 : v25_4.toInt ≤ x77.toInt ∧ (0 : Int) ≤ x77.toInt := by rw [ex77]; exact wk_orL 10 (by decide) (by omega) (by omega) (by decide) (by decide)
                  refine lv_istore (lv' := [(4, .int x77), (8, .int 0), (0, .ref (ad 0)), (1, .int a1), (2, .int a2), (3, .int a3), (5, .int v8_4), (6, .int v25_6), (7, .int v25_7)]) hx hb dX12_comesTo_102 hl (by decide) rfl (fun ls hl => ?_)
                  have nx79 := wk_i32 v25_6
                  obtain ⟨x78, ex78⟩ : ∃ y : Int32, y = v25_6 + Int32.ofInt 1 := ⟨_, rfl⟩
                  refine lv_iinc (v := x78) (lv' := [(6, .int x78), (4, .int x77), (8, .int 0), (0, .ref (ad 0)), (1, .int a1), (2, .int a2), (3, .int a3), (5, .int v8_4), (7, .int v25_7)]) hx hb dX12_comesTo_104 hl (k := 7) rfl ex78.symm (by decide) rfl (fun ls hl => ?_)
                  exact J107 x77 x78 x42 H locs ls  (show 0 ≤ a1.toInt from r12) (show a1.toInt ≤ 6 from t13) (show 0 ≤ a2.toInt from r14) (show a2.toInt ≤ 4095 from t15) (show 0 ≤ a3.toInt from r16) (show a3.toInt ≤ 9 from t17) (show 1 ≤ x77.toInt by first | with_reducible assumption | omega) (show x77.toInt ≤ 1023 by first | with_reducible assumption | omega) (show 1 ≤ v8_4.toInt from r20) (show v8_4.toInt ≤ 1023 from t21) (show 0 ≤ v25_7.toInt from r22) (show v25_7.toInt ≤ 11 by first | with_reducible assumption | omega) (show 1 ≤ x42.toInt by first | with_reducible assumption | omega) (show x42.toInt ≤ 12 by first | with_reducible assumption | omega) (show v8_4.toInt ≤ x77.toInt + 0 by omega)  hw  c43 (lv_sub hl [3, 4, 5, 6, 1, 7, 0, 8] rfl)
                · refine lv_if_eq (tgt := 100) hx hb dX12_comesTo_82 (by decide) (fun c => absurd c (by decide)) (fun _ => ?_)
                  refine lv_iconst (v := 1) hx hb dX12_comesTo_85 (by decide) ?_
                  refine lv_aload_n hx hb dX12_comesTo_86 rfl (lv_at hl 1 rfl) ?_
                  refine lv_iload hx hb dX12_comesTo_87 (lv_at hl 8 rfl) ?_
                  refine lv_iconst (v := 1) hx hb dX12_comesTo_89 (by decide) ?_
                  refine lv_iload hx hb dX12_comesTo_90 (lv_at hl 0 rfl) ?_
                  refine lv_isub hx hb dX12_comesTo_92 ?_
                  refine wk_top 1 (by decide) ?_
                  refine tk_Vi hC hK hw hT hA hE hSR kM_at0 (by decide) rfl (k_X12_streetOf_3 l adK adV dC dI cy ad B hB0 (Int.le_trans hB1 (by decide)) qr s1   v25_7 (show 0 ≤ v25_7.toInt from r22) (show v25_7.toInt ≤ 11 by first | with_reducible assumption | omega) w0 H.size hT ) (cwV 2 hC.2.2.2.2 uV_RX12_300 rfl rfl rfl (by decide +kernel) ⟨Nat.le_of_ble_eq_true rfl, Nat.le_of_ble_eq_true rfl⟩) rfl hl.1 rfl (Nat.le_of_ble_eq_true rfl) dX12_comesTo_93 (fun r80 w82 H locs hp81 hw => ?_)
                  obtain ⟨rfl, hg87⟩ := hp81
                  obtain ⟨g84, g85, c86⟩ := hg87
                  refine lv_ishl hx hb dX12_comesTo_96 ?_
                  refine lv_topi (fun x88 ex88 => ?_)
                  have bx88 : 1 ≤ x88.toInt ∧ x88.toInt ≤ 512 := by rw [ex88]; exact wk_shl1 9 (by decide) (by omega) (by omega)
                  refine lv_goto (tgt := 101) hx hb dX12_comesTo_97 (by decide) ?_
                  refine lv_ior hx hb dX12_comesTo_101 ?_
                  refine lv_topi (fun x89 ex89 => ?_)
                  have bx89 : 0 ≤ x89.toInt ∧ x89.toInt < 1024 := by rw [ex89]; exact wk_or 10 (by decide) (by omega) (by omega) (by omega) (by omega)
                  have mx89 : v25_4.toInt ≤ x89.toInt ∧ x88.toInt ≤ x89.toInt := by rw [ex89]; exact wk_orL 10 (by decide) (by omega) (by omega) (by omega) (by omega)
                  refine lv_istore (lv' := [(4, .int x89), (8, .int 0), (0, .ref (ad 0)), (1, .int a1), (2, .int a2), (3, .int a3), (5, .int v8_4), (6, .int v25_6), (7, .int v25_7)]) hx hb dX12_comesTo_102 hl (by decide) rfl (fun ls hl => ?_)
                  have nx91 := wk_i32 v25_6
                  obtain ⟨x90, ex90⟩ : ∃ y : Int32, y = v25_6 + Int32.ofInt 1 := ⟨_, rfl⟩
                  refine lv_iinc (v := x90) (lv' := [(6, .int x90), (4, .int x89), (8, .int 0), (0, .ref (ad 0)), (1, .int a1), (2, .int a2), (3, .int a3), (5, .int v8_4), (7, .int v25_7)]) hx hb dX12_comesTo_104 hl (k := 7) rfl ex90.symm (by decide) rfl (fun ls hl => ?_)
                  exact J107 x89 x90 x42 H locs ls  (show 0 ≤ a1.toInt from r12) (show a1.toInt ≤ 6 from t13) (show 0 ≤ a2.toInt from r14) (show a2.toInt ≤ 4095 from t15) (show 0 ≤ a3.toInt from r16) (show a3.toInt ≤ 9 from t17) (show 1 ≤ x89.toInt by first | with_reducible assumption | omega) (show x89.toInt ≤ 1023 by first | with_reducible assumption | omega) (show 1 ≤ v8_4.toInt from r20) (show v8_4.toInt ≤ 1023 from t21) (show 0 ≤ v25_7.toInt from r22) (show v25_7.toInt ≤ 11 by first | with_reducible assumption | omega) (show 1 ≤ x42.toInt by first | with_reducible assumption | omega) (show x42.toInt ≤ 12 by first | with_reducible assumption | omega) (show v8_4.toInt ≤ x89.toInt + 0 by omega)  hw  c43 (lv_sub hl [3, 4, 5, 6, 1, 7, 0, 8] rfl)
              · refine lv_if_eq (tgt := 64) hx hb dX12_comesTo_57 (by decide) (fun c => absurd c (by decide)) (fun _ => ?_)
                refine lv_iconst (v := 1) hx hb dX12_comesTo_60 (by decide) ?_
                refine lv_goto (tgt := 65) hx hb dX12_comesTo_61 (by decide) ?_
                refine lv_istore (lv' := [(8, .int 1), (0, .ref (ad 0)), (1, .int a1), (2, .int a2), (3, .int a3), (4, .int v25_4), (5, .int v8_4), (6, .int v25_6), (7, .int v25_7)]) hx hb dX12_comesTo_65 hl (by decide) rfl (fun ls hl => ?_)
                refine lv_iload hx hb dX12_comesTo_67 (lv_at hl 5 rfl) ?_
                refine lv_iload hx hb dX12_comesTo_69 (lv_at hl 5 rfl) ?_
                refine lv_aload_n hx hb dX12_comesTo_71 rfl (lv_at hl 1 rfl) ?_
                refine lv_iload hx hb dX12_comesTo_72 (lv_at hl 8 rfl) ?_
                refine lv_iload hx hb dX12_comesTo_74 (lv_at hl 0 rfl) ?_
                refine tk_Vi hC hK hw hT hA hE hSR kM_at0 (by decide) rfl (k_X12_streetOf_3 l adK adV dC dI cy ad B hB0 (Int.le_trans hB1 (by decide)) qr s1   v25_7 (show 0 ≤ v25_7.toInt from r22) (show v25_7.toInt ≤ 11 by first | with_reducible assumption | omega) w0 H.size hT ) (cwV 2 hC.2.2.2.2 uV_RX12_300 rfl rfl rfl (by decide +kernel) ⟨Nat.le_of_ble_eq_true rfl, Nat.le_of_ble_eq_true rfl⟩) rfl hl.1 rfl (Nat.le_of_ble_eq_true rfl) dX12_comesTo_76 (fun r92 w94 H locs hp93 hw => ?_)
                obtain ⟨rfl, hg99⟩ := hp93
                obtain ⟨g96, g97, c98⟩ := hg99
                refine tk_Si hC hK hw hT hA hE hSR (k_X12_isOf_7 l adK adV dC dI cy ad B hB0 (Int.le_trans hB1 (by decide)) qr s1   v25_4 (show 1 ≤ v25_4.toInt from r18) (show v25_4.toInt ≤ 1023 from t19) r92 (show 0 ≤ r92.toInt by first | with_reducible assumption | omega) (show r92.toInt ≤ 9 by first | with_reducible assumption | omega) w0 H.size hT ) (va_cwS 2 hC.2.2.2.2 uS_RX12_304 rfl rfl rfl (by decide +kernel) ⟨Nat.le_of_ble_eq_true rfl, Nat.le_of_ble_eq_true rfl⟩) rfl hl.1 rfl (Nat.le_of_ble_eq_true rfl) dX12_comesTo_79 (fun r100 w102 H locs hp101 hw => ?_)
                obtain ⟨rfl, hg106⟩ := hp101
                rcases hg106 with ⟨rfl, hq104⟩ | ⟨rfl, hq105⟩
                · refine lv_if_eq (tgt := 100) hx hb dX12_comesTo_82 (by decide) (fun _ => ?_) (fun c => absurd (by decide) c)
                  refine lv_iconst (v := 0) hx hb dX12_comesTo_100 (by decide) ?_
                  refine lv_ior hx hb dX12_comesTo_101 ?_
                  refine lv_topi (fun x107 ex107 => ?_)
                  have bx107 : 0 ≤ x107.toInt ∧ x107.toInt < 1024 := by rw [ex107]; exact wk_or 10 (by decide) (by omega) (by omega) (by decide) (by decide)
                  have mx107 : v25_4.toInt ≤ x107.toInt ∧ (0 : Int) ≤ x107.toInt := by rw [ex107]; exact wk_orL 10 (by decide) (by omega) (by omega) (by decide) (by decide)
                  refine lv_istore (lv' := [(4, .int x107), (8, .int 1), (0, .ref (ad 0)), (1, .int a1), (2, .int a2), (3, .int a3), (5, .int v8_4), (6, .int v25_6), (7, .int v25_7)]) hx hb dX12_comesTo_102 hl (by decide) rfl (fun ls hl => ?_)
                  have nx109 := wk_i32 v25_6
                  obtain ⟨x108, ex108⟩ : ∃ y : Int32, y = v25_6 + Int32.ofInt 1 := ⟨_, rfl⟩
                  refine lv_iinc (v := x108) (lv' := [(6, .int x108), (4, .int x107), (8, .int 1), (0, .ref (ad 0)), (1, .int a1), (2, .int a2), (3, .int a3), (5, .int v8_4), (7, .int v25_7)]) hx hb dX12_comesTo_104 hl (k := 7) rfl ex108.symm (by decide) rfl (fun ls hl => ?_)
                  exact J107 x107 x108 x42 H locs ls  (show 0 ≤ a1.toInt from r12) (show a1.toInt ≤ 6 from t13) (show 0 ≤ a2.toInt from r14) (show a2.toInt ≤ 4095 from t15) (show 0 ≤ a3.toInt from r16) (show a3.toInt ≤ 9 from t17) (show 1 ≤ x107.toInt by first | with_reducible assumption | omega) (show x107.toInt ≤ 1023 by first | with_reducible assumption | omega) (show 1 ≤ v8_4.toInt from r20) (show v8_4.toInt ≤ 1023 from t21) (show 0 ≤ v25_7.toInt from r22) (show v25_7.toInt ≤ 11 by first | with_reducible assumption | omega) (show 1 ≤ x42.toInt by first | with_reducible assumption | omega) (show x42.toInt ≤ 12 by first | with_reducible assumption | omega) (show v8_4.toInt ≤ x107.toInt + 0 by omega)  hw  c43 (lv_sub hl [3, 4, 5, 6, 1, 7, 0, 8] rfl)
                · refine lv_if_eq (tgt := 100) hx hb dX12_comesTo_82 (by decide) (fun c => absurd c (by decide)) (fun _ => ?_)
                  refine lv_iconst (v := 1) hx hb dX12_comesTo_85 (by decide) ?_
                  refine lv_aload_n hx hb dX12_comesTo_86 rfl (lv_at hl 1 rfl) ?_
                  refine lv_iload hx hb dX12_comesTo_87 (lv_at hl 8 rfl) ?_
                  refine lv_iconst (v := 1) hx hb dX12_comesTo_89 (by decide) ?_
                  refine lv_iload hx hb dX12_comesTo_90 (lv_at hl 0 rfl) ?_
                  refine lv_isub hx hb dX12_comesTo_92 ?_
                  refine wk_top 0 (by decide) ?_
                  refine tk_Vi hC hK hw hT hA hE hSR kM_at0 (by decide) rfl (k_X12_streetOf_2 l adK adV dC dI cy ad B hB0 (Int.le_trans hB1 (by decide)) qr s1   v25_7 (show 0 ≤ v25_7.toInt from r22) (show v25_7.toInt ≤ 11 by first | with_reducible assumption | omega) w0 H.size hT ) (cwV 2 hC.2.2.2.2 uV_RX12_300 rfl rfl rfl (by decide +kernel) ⟨Nat.le_of_ble_eq_true rfl, Nat.le_of_ble_eq_true rfl⟩) rfl hl.1 rfl (Nat.le_of_ble_eq_true rfl) dX12_comesTo_93 (fun r110 w112 H locs hp111 hw => ?_)
                  obtain ⟨rfl, hg117⟩ := hp111
                  obtain ⟨g114, g115, c116⟩ := hg117
                  refine lv_ishl hx hb dX12_comesTo_96 ?_
                  refine lv_topi (fun x118 ex118 => ?_)
                  have bx118 : 1 ≤ x118.toInt ∧ x118.toInt ≤ 512 := by rw [ex118]; exact wk_shl1 9 (by decide) (by omega) (by omega)
                  refine lv_goto (tgt := 101) hx hb dX12_comesTo_97 (by decide) ?_
                  refine lv_ior hx hb dX12_comesTo_101 ?_
                  refine lv_topi (fun x119 ex119 => ?_)
                  have bx119 : 0 ≤ x119.toInt ∧ x119.toInt < 1024 := by rw [ex119]; exact wk_or 10 (by decide) (by omega) (by omega) (by omega) (by omega)
                  have mx119 : v25_4.toInt ≤ x119.toInt ∧ x118.toInt ≤ x119.toInt := by rw [ex119]; exact wk_orL 10 (by decide) (by omega) (by omega) (by omega) (by omega)
                  refine lv_istore (lv' := [(4, .int x119), (8, .int 1), (0, .ref (ad 0)), (1, .int a1), (2, .int a2), (3, .int a3), (5, .int v8_4), (6, .int v25_6), (7, .int v25_7)]) hx hb dX12_comesTo_102 hl (by decide) rfl (fun ls hl => ?_)
                  have nx121 := wk_i32 v25_6
                  obtain ⟨x120, ex120⟩ : ∃ y : Int32, y = v25_6 + Int32.ofInt 1 := ⟨_, rfl⟩
                  refine lv_iinc (v := x120) (lv' := [(6, .int x120), (4, .int x119), (8, .int 1), (0, .ref (ad 0)), (1, .int a1), (2, .int a2), (3, .int a3), (5, .int v8_4), (7, .int v25_7)]) hx hb dX12_comesTo_104 hl (k := 7) rfl ex120.symm (by decide) rfl (fun ls hl => ?_)
                  exact J107 x119 x120 x42 H locs ls  (show 0 ≤ a1.toInt from r12) (show a1.toInt ≤ 6 from t13) (show 0 ≤ a2.toInt from r14) (show a2.toInt ≤ 4095 from t15) (show 0 ≤ a3.toInt from r16) (show a3.toInt ≤ 9 from t17) (show 1 ≤ x119.toInt by first | with_reducible assumption | omega) (show x119.toInt ≤ 1023 by first | with_reducible assumption | omega) (show 1 ≤ v8_4.toInt from r20) (show v8_4.toInt ≤ 1023 from t21) (show 0 ≤ v25_7.toInt from r22) (show v25_7.toInt ≤ 11 by first | with_reducible assumption | omega) (show 1 ≤ x42.toInt by first | with_reducible assumption | omega) (show x42.toInt ≤ 12 by first | with_reducible assumption | omega) (show v8_4.toInt ≤ x119.toInt + 0 by omega)  hw  c43 (lv_sub hl [3, 4, 5, 6, 1, 7, 0, 8] rfl)
            · have c54 : r46.toInt = (0 : Int) := wk_eq.mp c54
              refine lv_goto (tgt := 107) hx hb dX12_comesTo_48 (by decide) ?_
              exact J107 v25_4 v25_6 x42 H locs ls  (show 0 ≤ a1.toInt from r12) (show a1.toInt ≤ 6 from t13) (show 0 ≤ a2.toInt from r14) (show a2.toInt ≤ 4095 from t15) (show 0 ≤ a3.toInt from r16) (show a3.toInt ≤ 9 from t17) (show 1 ≤ v25_4.toInt from r18) (show v25_4.toInt ≤ 1023 from t19) (show 1 ≤ v8_4.toInt from r20) (show v8_4.toInt ≤ 1023 from t21) (show 0 ≤ v25_7.toInt from r22) (show v25_7.toInt ≤ 11 by first | with_reducible assumption | omega) (show 1 ≤ x42.toInt by first | with_reducible assumption | omega) (show x42.toInt ≤ 12 by first | with_reducible assumption | omega) (show v8_4.toInt ≤ v25_4.toInt + 0 from i24)  hw  c43 (lv_sub hl [0, 1, 2, 3, 4, 5, 6, 7] rfl)
      refine lv_iload hx hb dX12_comesTo_8 (lv_at hl 4 rfl) ?_
      refine lv_iload hx hb dX12_comesTo_10 (lv_at hl 5 rfl) ?_
      refine lv_icmp_eq (tgt := 116) hx hb dX12_comesTo_12 (by decide) (fun c122 => ?_) (fun c122 => ?_)
      · have c122 : v8_4.toInt = v8_5.toInt := wk_eq.mp c122
        refine lv_iload hx hb dX12_comesTo_116 (lv_at hl 4 rfl) ?_
        exact tk_iret hC hr hlocks hK ⟨rfl, ⟨(show 1 ≤ v8_4.toInt from r7), (show v8_4.toInt ≤ 1023 from t8)⟩⟩ hw dX12_comesTo_118
      · have c122 : ¬ v8_4.toInt = v8_5.toInt := wk_eqF c122
        refine lv_iload hx hb dX12_comesTo_15 (lv_at hl 4 rfl) ?_
        refine lv_istore (lv' := [(5, .int v8_4), (0, .ref (ad 0)), (1, .int a1), (2, .int a2), (3, .int a3), (4, .int v8_4)]) hx hb dX12_comesTo_17 hl (by decide) rfl (fun ls hl => ?_)
        refine lv_iconst (v := 0) hx hb dX12_comesTo_19 (by decide) ?_
        refine lv_istore (lv' := [(6, .int 0), (5, .int v8_4), (0, .ref (ad 0)), (1, .int a1), (2, .int a2), (3, .int a3), (4, .int v8_4)]) hx hb dX12_comesTo_20 hl (by decide) rfl (fun ls hl => ?_)
        refine lv_iconst (v := 0) hx hb dX12_comesTo_22 (by decide) ?_
        refine lv_istore (lv' := [(7, .int 0), (6, .int 0), (5, .int v8_4), (0, .ref (ad 0)), (1, .int a1), (2, .int a2), (3, .int a3), (4, .int v8_4)]) hx hb dX12_comesTo_23 hl (by decide) rfl (fun ls hl => ?_)
        exact L25 ((12 - (0 : Int)).toNat + 1) v8_4 0 0 H locs ls  (show 0 ≤ a1.toInt from r1) (show a1.toInt ≤ 6 from t2) (show 0 ≤ a2.toInt from r3) (show a2.toInt ≤ 4095 from t4) (show 0 ≤ a3.toInt from r5) (show a3.toInt ≤ 9 from t6) (show 1 ≤ v8_4.toInt from r7) (show v8_4.toInt ≤ 1023 from t8) (show 1 ≤ v8_4.toInt from r7) (show v8_4.toInt ≤ 1023 from t8) (by decide) (by decide) (show v8_4.toInt ≤ v8_4.toInt + 0 by omega) (show v8_5.toInt < v8_4.toInt by omega) (Nat.lt_succ_self _) hw   (lv_sub hl [3, 4, 5, 6, 7, 2, 1, 0] rfl)
  refine lv_iconst (v := 1) hx hb dX12_comesTo_0 (by decide) ?_
  refine lv_iload_n hx hb dX12_comesTo_1 rfl (lv_at hl 3 rfl) ?_
  refine lv_ishl hx hb dX12_comesTo_2 ?_
  refine lv_topi (fun x123 ex123 => ?_)
  have bx123 : 1 ≤ x123.toInt ∧ x123.toInt ≤ 512 := by rw [ex123]; exact wk_shl1 9 (by decide) (by omega) (by omega)
  refine lv_istore (lv' := [(4, .int x123), (0, .ref (ad 0)), (1, .int a1), (2, .int a2), (3, .int a3)]) hx hb dX12_comesTo_3 hl (by decide) rfl (fun ls hl => ?_)
  refine lv_iconst (v := 0) hx hb dX12_comesTo_5 (by decide) ?_
  refine lv_istore (lv' := [(5, .int 0), (4, .int x123), (0, .ref (ad 0)), (1, .int a1), (2, .int a2), (3, .int a3)]) hx hb dX12_comesTo_6 hl (by decide) rfl (fun ls hl => ?_)
  exact L8 ((1023 - (0 : Int)).toNat + 1) x123 0 s.heap locs ls  (show 0 ≤ a1.toInt from ra1) (show a1.toInt ≤ 6 from ta1) (show 0 ≤ a2.toInt from ra2) (show a2.toInt ≤ 4095 from ta2) (show 0 ≤ a3.toInt from ra3) (show a3.toInt ≤ 9 from ta3) (show 1 ≤ x123.toInt by first | with_reducible assumption | omega) (show x123.toInt ≤ 1023 by first | with_reducible assumption | omega) (by decide) (by decide) (show (0 : Int) ≤ x123.toInt + 0 by omega) (Nat.lt_succ_self _) hw   (lv_sub hl [2, 3, 4, 5, 1, 0] rfl)
abbrev P_X12_doneBy_1 (ad : Nat → Nat) (cy : Nat → ClassId) (B : Int) (qr : Nat) (s1 : Int) (a1 : Int32) (a2 : Int32) (w0 : va_W) : Int32 → va_W → Prop := fun r u => w0 = u ∧ ((0 ≤ r.toInt ∧ r.toInt ≤ 63))
set_option maxHeartbeats 4000000 in
set_option maxRecDepth 100000 in
theorem k_X12_doneBy_1 (l : Launch) (adK adV : Nat → Nat) (dC : Nat → ClassId) (dI : Nat → Nat → Nat) (cy : Nat → ClassId) (ad : Nat → Nat) (B : Int) (hB0 : 100000 ≤ B) (hB1 : B ≤ 1073741824) (qr : Nat) (s1 : Int)  (a1 : Int32) (ra1 : 0 ≤ a1.toInt) (ta1 : a1.toInt ≤ 6) (a2 : Int32) (ra2 : 0 ≤ a2.toInt) (ta2 : a2.toInt ≤ 4095) (w0 : va_W) (sz : Nat) (hT : TW ksM ad cy B qr 12 w0)  : Met l yX12_doneBy (wu yX12_doneBy cX12_doneBy 5 (some .int)) ({ frames := 3, cells := 0, slots := 0, locals := 62 }) (va_Pc [.ref (ad 0), .int a1, .int a2] (wpreS adK adV dC dI cy sz w0)) (va_Qi (P_X12_doneBy_1 ad cy B qr s1 a1 a2 w0) (fun u : va_W => wpost dC dI cy (va_A w0 sz) u) (va_A w0 sz)) 0 0 (va_A w0 sz) := by
  refine Met.ofW (cc := cX12_doneBy) (maxL := 5) (ret := (some .int)) (by decide) rfl ?_
  intro p e s m args below meth c s₁ Bk hml hv
  obtain ⟨rfl, ⟨hsz, hP, hK, hD0⟩, hE, hSR⟩ := hv
  have hx := Bk.exec
  have hb := Bk.bytes
  have hr := Bk.returns
  have hlocks := Bk.notSynchronized
  have hC : CallFix p m c cX12_doneBy 5 s _ (wu yX12_doneBy cX12_doneBy 5 (some .int)) RX12 := ⟨hx, hb, hml, findClass_of_methodNamed Bk.named, atoms_spec (ws := (wu yX12_doneBy cX12_doneBy 5 (some .int))) Bk.pre⟩
  subst hsz
  have hD := hD0.self (sz := s.heap.size)
  generalize hAe : va_A w0 s.heap.size = A at hD hE ⊢
  have hA : ∀ q : Nat, s.heap.size ≤ q → A q := fun q h => by rw [← hAe]; exact Or.inr h
  have hw : Wd dC dI A s.heap s.heap [] w0 := ⟨hP, hD, va_S.rf⟩
  have hF : FE ksM ([] : List (Nat × Nat × Nat)) w0 w0 := FE.rf
  have hl := lv_entry ([.ref (ad 0), .int a1, .int a2]) (n := 5) (Nat.le_of_ble_eq_true rfl)
  rw [lg_entry_eq]
  generalize (lg_sl ([.ref (ad 0), .int a1, .int a2]) ++ List.replicate (5 - (lg_sl ([.ref (ad 0), .int a1, .int a2])).length) Slot.unset).toArray = ls at hl ⊢
  have hl : lv_has ls 5 [(0, .ref (ad 0)), (1, .int a1), (2, .int a2)] := hl
  generalize hloc : ([] : List Loc) = locs at hw ⊢
  have hinX12 : ∀ w ∈ u_ws RX12 TX12 42, w ∈ (wu yX12_doneBy cX12_doneBy 5 (some .int)) := fun _ h => List.mem_cons_of_mem _ (up_71 h)
  have L5 : ∀ (n5 : Nat) (v5_3 : Int32) (v5_4 : Int32) (H : Heap) (locs : List Loc) (ls : Array Slot), 0 ≤ a1.toInt → a1.toInt ≤ 6 → 0 ≤ a2.toInt → a2.toInt ≤ 4095 → 0 ≤ v5_3.toInt → v5_3.toInt ≤ 63 → 0 ≤ v5_4.toInt → v5_4.toInt ≤ 6 → (6 - v5_4.toInt).toNat < n5 → Wd dC dI A s.heap H locs w0 → lv_has ls 5 [(0, .ref (ad 0)), (1, .int a1), (2, .int a2), (3, .int v5_3), (4, .int v5_4)] → W p l e ({ frames := 3, cells := 0, slots := 0, locals := 62 }) s m (List.toArray [.ref (ad 0), .int a1, .int a2]) below meth c H locs 0 0 (MQ below (va_Qi (P_X12_doneBy_1 ad cy B qr s1 a1 a2 w0) (fun u : va_W => wpost dC dI cy A u) A) (List.toArray [.ref (ad 0), .int a1, .int a2]) s 0 0 A) (F0 m 5 ls []) := by
    intro n5
    induction n5 with
    | zero => intro v5_3 v5_4 H locs ls r1 t2 r3 t4 r5 t6 r7 t8 hm5 hw hl; omega
    | succ n5 ih5 =>
      intro v5_3 v5_4 H locs ls r1 t2 r3 t4 r5 t6 r7 t8 hm5 hw hl
      refine lv_iload hx hb dX12_doneBy_5 (lv_at hl 4 rfl) ?_
      refine lv_aload_n hx hb dX12_doneBy_7 rfl (lv_at hl 0 rfl) ?_
      refine tk_getA hC hK hw hT hinX12 kM_at0 (by decide) rfl 26 (by decide) (List.mem_cons_of_mem _ uw_7_1) rfl rfl dX12_doneBy_8 ?_
      refine lv_bipush (v := 6) hx hb dX12_doneBy_11 (by decide) ?_
      refine tk_ialdR hC hK hw hT kM_at12 rfl (by decide) (by decide) dX12_doneBy_13 (fun x9 c10 Ex9 => ?_)
      have bx9 := tk_rgI rfl 6 1 1 0 6 (by decide +kernel) ⟨0, by decide, by decide⟩ Ex9
      have c10 : gi w0 12 6 = x9 := c10
      refine lv_icmp_ge (tgt := 74) hx hb dX12_doneBy_14 (by decide) (fun c11 => ?_) (fun c11 => ?_)
      · have c11 : x9.toInt ≤ v5_4.toInt := wk_le.mp c11
        refine lv_iload_n hx hb dX12_doneBy_74 rfl (lv_at hl 3 rfl) ?_
        exact tk_iret hC hr hlocks hK ⟨rfl, ⟨(show 0 ≤ v5_3.toInt from r5), (show v5_3.toInt ≤ 63 from t6)⟩⟩ hw dX12_doneBy_75
      · have c11 : v5_4.toInt < x9.toInt := wk_leF c11
        refine lv_iload_n hx hb dX12_doneBy_17 rfl (lv_at hl 3 rfl) ?_
        refine lv_aload_n hx hb dX12_doneBy_18 rfl (lv_at hl 0 rfl) ?_
        refine lv_iload_n hx hb dX12_doneBy_19 rfl (lv_at hl 1 rfl) ?_
        refine lv_iload_n hx hb dX12_doneBy_20 rfl (lv_at hl 2 rfl) ?_
        refine lv_aload_n hx hb dX12_doneBy_21 rfl (lv_at hl 0 rfl) ?_
        refine tk_getA hC hK hw hT hinX12 kM_at0 (by decide) rfl 26 (by decide) (List.mem_cons_of_mem _ uw_7_1) rfl rfl dX12_doneBy_22 ?_
        refine lv_sipush (v := 252) hx hb dX12_doneBy_25 (by decide) ?_
        refine lv_iconst (v := 2) hx hb dX12_doneBy_28 (by decide) ?_
        refine lv_iload hx hb dX12_doneBy_29 (lv_at hl 4 rfl) ?_
        refine lv_imul hx hb dX12_doneBy_31 ?_
        refine lv_topi (fun x12 ex12 => ?_)
        have ex12 : x12.toInt = (2 : Int) * v5_4.toInt := by rw [ex12]; exact wk_mul (show (-2147483648) ≤ (2 : Int) * v5_4.toInt by omega) (show (2 : Int) * v5_4.toInt ≤ 2147483647 by omega)
        refine lv_iadd hx hb dX12_doneBy_32 ?_
        refine lv_topi (fun x13 ex13 => ?_)
        have ex13 : x13.toInt = (252 : Int) + x12.toInt := by rw [ex13]; exact wk_add (show (-2147483648) ≤ (252 : Int) + x12.toInt by omega) (show (252 : Int) + x12.toInt ≤ 2147483647 by omega)
        refine tk_ialdR hC hK hw hT kM_at12 rfl (show 0 ≤ x13.toInt by first | with_reducible assumption | omega) (show x13.toInt < 296 by first | with_reducible assumption | omega) dX12_doneBy_33 (fun x14 c15 Ex14 => ?_)
        have c15 : gi w0 12 (2 * v5_4.toInt + 252).toNat = x14 := (congrArg (gi w0 12) (congrArg Int.toNat (show 2 * v5_4.toInt + 252 = x13.toInt by first | exact Int.le_antisymm (by omega) (by omega) | omega))).trans c15
        have bx14 := tk_rgI rfl 252 2 6 0 9 (by decide +kernel) ⟨(v5_4.toInt - 0).toNat, by omega, show x13.toInt.toNat = 252 + 2 * (v5_4.toInt - 0).toNat by omega⟩ Ex14
        refine tk_Vi hC hK hw hT hA hE hSR kM_at0 (by decide) rfl (k_X12_comesTo_1 l adK adV dC dI cy ad B hB0 (Int.le_trans hB1 (by decide)) qr s1   a1 (show 0 ≤ a1.toInt from r1) (show a1.toInt ≤ 6 from t2) a2 (show 0 ≤ a2.toInt from r3) (show a2.toInt ≤ 4095 from t4) x14 (show 0 ≤ x14.toInt by first | with_reducible assumption | omega) (show x14.toInt ≤ 9 by first | with_reducible assumption | omega) w0 H.size hT ) (cwV 3 hC.2.2.2.2 uV_RX12_468 rfl rfl rfl (by decide +kernel) ⟨Nat.le_of_ble_eq_true rfl, Nat.le_of_ble_eq_true rfl⟩) rfl hl.1 rfl (Nat.le_of_ble_eq_true rfl) dX12_doneBy_34 (fun r16 w18 H locs hp17 hw => ?_)
        obtain ⟨rfl, hg22⟩ := hp17
        obtain ⟨g20, g21⟩ := hg22
        refine lv_aload_n hx hb dX12_doneBy_37 rfl (lv_at hl 0 rfl) ?_
        refine tk_getA hC hK hw hT hinX12 kM_at0 (by decide) rfl 26 (by decide) (List.mem_cons_of_mem _ uw_7_1) rfl rfl dX12_doneBy_38 ?_
        refine lv_sipush (v := 252) hx hb dX12_doneBy_41 (by decide) ?_
        refine lv_iconst (v := 2) hx hb dX12_doneBy_44 (by decide) ?_
        refine lv_iload hx hb dX12_doneBy_45 (lv_at hl 4 rfl) ?_
        refine lv_imul hx hb dX12_doneBy_47 ?_
        refine lv_topi (fun x23 ex23 => ?_)
        have ex23 : x23.toInt = (2 : Int) * v5_4.toInt := by rw [ex23]; exact wk_mul (show (-2147483648) ≤ (2 : Int) * v5_4.toInt by omega) (show (2 : Int) * v5_4.toInt ≤ 2147483647 by omega)
        refine lv_iadd hx hb dX12_doneBy_48 ?_
        refine lv_topi (fun x24 ex24 => ?_)
        have ex24 : x24.toInt = (252 : Int) + x23.toInt := by rw [ex24]; exact wk_add (show (-2147483648) ≤ (252 : Int) + x23.toInt by omega) (show (252 : Int) + x23.toInt ≤ 2147483647 by omega)
        refine lv_iconst (v := 1) hx hb dX12_doneBy_49 (by decide) ?_
        refine lv_iadd hx hb dX12_doneBy_50 ?_
        refine lv_topi (fun x25 ex25 => ?_)
        have ex25 : x25.toInt = x24.toInt + (1 : Int) := by rw [ex25]; exact wk_add (show (-2147483648) ≤ x24.toInt + (1 : Int) by omega) (show x24.toInt + (1 : Int) ≤ 2147483647 by omega)
        refine tk_ialdR hC hK hw hT kM_at12 rfl (show 0 ≤ x25.toInt by first | with_reducible assumption | omega) (show x25.toInt < 296 by first | with_reducible assumption | omega) dX12_doneBy_51 (fun x26 c27 Ex26 => ?_)
        have c27 : gi w0 12 (2 * v5_4.toInt + 253).toNat = x26 := (congrArg (gi w0 12) (congrArg Int.toNat (show 2 * v5_4.toInt + 253 = x25.toInt by first | exact Int.le_antisymm (by omega) (by omega) | omega))).trans c27
        have bx26 := tk_rgI rfl 253 2 6 0 9 (by decide +kernel) ⟨(v5_4.toInt - 0).toNat, by omega, show x25.toInt.toNat = 253 + 2 * (v5_4.toInt - 0).toNat by omega⟩ Ex26
        refine tk_Si hC hK hw hT hA hE hSR (k_X12_isOf_7 l adK adV dC dI cy ad B hB0 (Int.le_trans hB1 (by decide)) qr s1   r16 (show 1 ≤ r16.toInt by first | with_reducible assumption | omega) (show r16.toInt ≤ 1023 by first | with_reducible assumption | omega) x26 (show 0 ≤ x26.toInt by first | with_reducible assumption | omega) (show x26.toInt ≤ 9 by first | with_reducible assumption | omega) w0 H.size hT ) (va_cwS 2 hC.2.2.2.2 uS_RX12_304 rfl rfl rfl (by decide +kernel) ⟨Nat.le_of_ble_eq_true rfl, Nat.le_of_ble_eq_true rfl⟩) rfl hl.1 rfl (Nat.le_of_ble_eq_true rfl) dX12_doneBy_52 (fun r28 w30 H locs hp29 hw => ?_)
        obtain ⟨rfl, hg34⟩ := hp29
        rcases hg34 with ⟨rfl, hq32⟩ | ⟨rfl, hq33⟩
        · refine lv_if_eq (tgt := 65) hx hb dX12_doneBy_55 (by decide) (fun _ => ?_) (fun c => absurd (by decide) c)
          refine lv_iconst (v := 0) hx hb dX12_doneBy_65 (by decide) ?_
          refine lv_ior hx hb dX12_doneBy_66 ?_
          refine lv_topi (fun x35 ex35 => ?_)
          have bx35 : 0 ≤ x35.toInt ∧ x35.toInt < 64 := by rw [ex35]; exact wk_or 6 (by decide) (by omega) (by omega) (by decide) (by decide)
          have mx35 : v5_3.toInt ≤ x35.toInt ∧ (0 : Int) ≤ x35.toInt := by rw [ex35]; exact wk_orL 6 (by decide) (by omega) (by omega) (by decide) (by decide)
          refine lv_istore_n (lv' := [(3, .int x35), (0, .ref (ad 0)), (1, .int a1), (2, .int a2), (4, .int v5_4)]) hx hb dX12_doneBy_67 rfl hl (by decide) rfl (fun ls hl => ?_)
          obtain ⟨x36, ex36⟩ : ∃ y : Int32, y = v5_4 + Int32.ofInt 1 := ⟨_, rfl⟩
          refine lv_iinc (v := x36) (lv' := [(4, .int x36), (3, .int x35), (0, .ref (ad 0)), (1, .int a1), (2, .int a2)]) hx hb dX12_doneBy_68 hl (k := 4) rfl ex36.symm (by decide) rfl (fun ls hl => ?_)
          have ex36 : x36.toInt = v5_4.toInt + 1 := by rw [ex36]; exact wk_add (y := 1) (show -2147483648 ≤ v5_4.toInt + 1 by omega) (show v5_4.toInt + 1 ≤ 2147483647 by omega)
          refine lv_goto (tgt := 5) hx hb dX12_doneBy_71 (by decide) ?_
          exact ih5 x35 x36 H locs ls  (show 0 ≤ a1.toInt from r1) (show a1.toInt ≤ 6 from t2) (show 0 ≤ a2.toInt from r3) (show a2.toInt ≤ 4095 from t4) (show 0 ≤ x35.toInt by first | with_reducible assumption | omega) (show x35.toInt ≤ 63 by first | with_reducible assumption | omega) (show 0 ≤ x36.toInt by first | with_reducible assumption | omega) (show x36.toInt ≤ 6 by first | with_reducible assumption | omega) (show (6 - x36.toInt).toNat < n5 by first | exact tn_lt hm5 (by omega) (by omega) | omega) hw   (lv_sub hl [2, 3, 4, 1, 0] rfl)
        · refine lv_if_eq (tgt := 65) hx hb dX12_doneBy_55 (by decide) (fun c => absurd c (by decide)) (fun _ => ?_)
          refine lv_iconst (v := 1) hx hb dX12_doneBy_58 (by decide) ?_
          refine lv_iload hx hb dX12_doneBy_59 (lv_at hl 4 rfl) ?_
          refine lv_ishl hx hb dX12_doneBy_61 ?_
          refine lv_topi (fun x37 ex37 => ?_)
          have bx37 : 1 ≤ x37.toInt ∧ x37.toInt ≤ 32 := by rw [ex37]; exact wk_shl1 5 (by decide) (by omega) (by omega)
          refine lv_goto (tgt := 66) hx hb dX12_doneBy_62 (by decide) ?_
          refine lv_ior hx hb dX12_doneBy_66 ?_
          refine lv_topi (fun x38 ex38 => ?_)
          have bx38 : 0 ≤ x38.toInt ∧ x38.toInt < 64 := by rw [ex38]; exact wk_or 6 (by decide) (by omega) (by omega) (by omega) (by omega)
          have mx38 : v5_3.toInt ≤ x38.toInt ∧ x37.toInt ≤ x38.toInt := by rw [ex38]; exact wk_orL 6 (by decide) (by omega) (by omega) (by omega) (by omega)
          refine lv_istore_n (lv' := [(3, .int x38), (0, .ref (ad 0)), (1, .int a1), (2, .int a2), (4, .int v5_4)]) hx hb dX12_doneBy_67 rfl hl (by decide) rfl (fun ls hl => ?_)
          obtain ⟨x39, ex39⟩ : ∃ y : Int32, y = v5_4 + Int32.ofInt 1 := ⟨_, rfl⟩
          refine lv_iinc (v := x39) (lv' := [(4, .int x39), (3, .int x38), (0, .ref (ad 0)), (1, .int a1), (2, .int a2)]) hx hb dX12_doneBy_68 hl (k := 4) rfl ex39.symm (by decide) rfl (fun ls hl => ?_)
          have ex39 : x39.toInt = v5_4.toInt + 1 := by rw [ex39]; exact wk_add (y := 1) (show -2147483648 ≤ v5_4.toInt + 1 by omega) (show v5_4.toInt + 1 ≤ 2147483647 by omega)
          refine lv_goto (tgt := 5) hx hb dX12_doneBy_71 (by decide) ?_
          exact ih5 x38 x39 H locs ls  (show 0 ≤ a1.toInt from r1) (show a1.toInt ≤ 6 from t2) (show 0 ≤ a2.toInt from r3) (show a2.toInt ≤ 4095 from t4) (show 0 ≤ x38.toInt by first | with_reducible assumption | omega) (show x38.toInt ≤ 63 by first | with_reducible assumption | omega) (show 0 ≤ x39.toInt by first | with_reducible assumption | omega) (show x39.toInt ≤ 6 by first | with_reducible assumption | omega) (show (6 - x39.toInt).toNat < n5 by first | exact tn_lt hm5 (by omega) (by omega) | omega) hw   (lv_sub hl [2, 3, 4, 1, 0] rfl)
  refine lv_iconst (v := 0) hx hb dX12_doneBy_0 (by decide) ?_
  refine lv_istore_n (lv' := [(3, .int 0), (0, .ref (ad 0)), (1, .int a1), (2, .int a2)]) hx hb dX12_doneBy_1 rfl hl (by decide) rfl (fun ls hl => ?_)
  refine lv_iconst (v := 0) hx hb dX12_doneBy_2 (by decide) ?_
  refine lv_istore (lv' := [(4, .int 0), (3, .int 0), (0, .ref (ad 0)), (1, .int a1), (2, .int a2)]) hx hb dX12_doneBy_3 hl (by decide) rfl (fun ls hl => ?_)
  exact L5 ((6 - (0 : Int)).toNat + 1) 0 0 s.heap locs ls  (show 0 ≤ a1.toInt from ra1) (show a1.toInt ≤ 6 from ta1) (show 0 ≤ a2.toInt from ra2) (show a2.toInt ≤ 4095 from ta2) (by decide) (by decide) (by decide) (by decide) (Nat.lt_succ_self _) hw   (lv_sub hl [2, 3, 4, 1, 0] rfl)
abbrev P_X12_isClash_1 (ad : Nat → Nat) (cy : Nat → ClassId) (B : Int) (qr : Nat) (s1 : Int) (a1 : Int32) (a2 : Int32) (w0 : va_W) : Int32 → va_W → Prop := fun r u => w0 = u ∧ ((r = 0) ∨ (r = 1))
set_option maxHeartbeats 4000000 in
set_option maxRecDepth 100000 in
theorem k_X12_isClash_1 (l : Launch) (adK adV : Nat → Nat) (dC : Nat → ClassId) (dI : Nat → Nat → Nat) (cy : Nat → ClassId) (ad : Nat → Nat) (B : Int) (hB0 : 100000 ≤ B) (hB1 : B ≤ 1073741824) (qr : Nat) (s1 : Int)  (a1 : Int32) (ra1 : 1 ≤ a1.toInt) (ta1 : a1.toInt ≤ 63) (a2 : Int32) (ra2 : 0 ≤ a2.toInt) (ta2 : a2.toInt ≤ 63) (w0 : va_W) (sz : Nat) (hT : TW ksM ad cy B qr 12 w0)  : Met l yX12_isClash (wu yX12_isClash cX12_isClash 4 (some .boolean)) ({ frames := 1, cells := 0, slots := 0, locals := 12 }) (va_Pc [.ref (ad 0), .int a1, .int a2] (wpreS adK adV dC dI cy sz w0)) (va_Qi (P_X12_isClash_1 ad cy B qr s1 a1 a2 w0) (fun u : va_W => wpost dC dI cy (va_A w0 sz) u) (va_A w0 sz)) 0 0 (va_A w0 sz) := by
  refine Met.ofW (cc := cX12_isClash) (maxL := 4) (ret := (some .boolean)) (by decide) rfl ?_
  intro p e s m args below meth c s₁ Bk hml hv
  obtain ⟨rfl, ⟨hsz, hP, hK, hD0⟩, hE, hSR⟩ := hv
  have hx := Bk.exec
  have hb := Bk.bytes
  have hr := Bk.returns
  have hlocks := Bk.notSynchronized
  have hC : CallFix p m c cX12_isClash 4 s _ (wu yX12_isClash cX12_isClash 4 (some .boolean)) RX12 := ⟨hx, hb, hml, findClass_of_methodNamed Bk.named, atoms_spec (ws := (wu yX12_isClash cX12_isClash 4 (some .boolean))) Bk.pre⟩
  subst hsz
  have hD := hD0.self (sz := s.heap.size)
  generalize hAe : va_A w0 s.heap.size = A at hD hE ⊢
  have hA : ∀ q : Nat, s.heap.size ≤ q → A q := fun q h => by rw [← hAe]; exact Or.inr h
  have hw : Wd dC dI A s.heap s.heap [] w0 := ⟨hP, hD, va_S.rf⟩
  have hF : FE ksM ([] : List (Nat × Nat × Nat)) w0 w0 := FE.rf
  have hl := lv_entry ([.ref (ad 0), .int a1, .int a2]) (n := 4) (Nat.le_of_ble_eq_true rfl)
  rw [lg_entry_eq]
  generalize (lg_sl ([.ref (ad 0), .int a1, .int a2]) ++ List.replicate (4 - (lg_sl ([.ref (ad 0), .int a1, .int a2])).length) Slot.unset).toArray = ls at hl ⊢
  have hl : lv_has ls 4 [(0, .ref (ad 0)), (1, .int a1), (2, .int a2)] := hl
  generalize hloc : ([] : List Loc) = locs at hw ⊢
  have hinX12 : ∀ w ∈ u_ws RX12 TX12 42, w ∈ (wu yX12_isClash cX12_isClash 4 (some .boolean)) := fun _ h => List.mem_cons_of_mem _ (up_71 h)
  have L2 : ∀ (n2 : Nat) (v2_3 : Int32) (H : Heap) (locs : List Loc) (ls : Array Slot), 1 ≤ a1.toInt → a1.toInt ≤ 63 → 0 ≤ a2.toInt → a2.toInt ≤ 63 → 0 ≤ v2_3.toInt → v2_3.toInt ≤ 64 → (64 - v2_3.toInt).toNat < n2 → Wd dC dI A s.heap H locs w0 → lv_has ls 4 [(0, .ref (ad 0)), (1, .int a1), (2, .int a2), (3, .int v2_3)] → W p l e ({ frames := 1, cells := 0, slots := 0, locals := 12 }) s m (List.toArray [.ref (ad 0), .int a1, .int a2]) below meth c H locs 0 0 (MQ below (va_Qi (P_X12_isClash_1 ad cy B qr s1 a1 a2 w0) (fun u : va_W => wpost dC dI cy A u) A) (List.toArray [.ref (ad 0), .int a1, .int a2]) s 0 0 A) (F0 m 2 ls []) := by
    intro n2
    induction n2 with
    | zero => intro v2_3 H locs ls r1 t2 r3 t4 r5 t6 hm2 hw hl; omega
    | succ n2 ih2 =>
      intro v2_3 H locs ls r1 t2 r3 t4 r5 t6 hm2 hw hl
      have J25 : ∀ (H : Heap) (locs : List Loc) (ls : Array Slot), 1 ≤ a1.toInt → a1.toInt ≤ 63 → 0 ≤ a2.toInt → a2.toInt ≤ 63 → 0 ≤ v2_3.toInt → v2_3.toInt ≤ 63 → Wd dC dI A s.heap H locs w0 → lv_has ls 4 [(0, .ref (ad 0)), (1, .int a1), (2, .int a2), (3, .int v2_3)] → W p l e ({ frames := 1, cells := 0, slots := 0, locals := 12 }) s m (List.toArray [.ref (ad 0), .int a1, .int a2]) below meth c H locs 0 0 (MQ below (va_Qi (P_X12_isClash_1 ad cy B qr s1 a1 a2 w0) (fun u : va_W => wpost dC dI cy A u) A) (List.toArray [.ref (ad 0), .int a1, .int a2]) s 0 0 A) (F0 m 25 ls []) := by
        intro H locs ls r7 t8 r9 t10 r11 t12 hw hl
        obtain ⟨x13, ex13⟩ : ∃ y : Int32, y = v2_3 + Int32.ofInt 1 := ⟨_, rfl⟩
        refine lv_iinc (v := x13) (lv' := [(3, .int x13), (0, .ref (ad 0)), (1, .int a1), (2, .int a2)]) hx hb dX12_isClash_25 hl (k := 3) rfl ex13.symm (by decide) rfl (fun ls hl => ?_)
        have ex13 : x13.toInt = v2_3.toInt + 1 := by rw [ex13]; exact wk_add (y := 1) (show -2147483648 ≤ v2_3.toInt + 1 by omega) (show v2_3.toInt + 1 ≤ 2147483647 by omega)
        refine lv_goto (tgt := 2) hx hb dX12_isClash_28 (by decide) ?_
        exact ih2 x13 H locs ls  (show 1 ≤ a1.toInt from r7) (show a1.toInt ≤ 63 from t8) (show 0 ≤ a2.toInt from r9) (show a2.toInt ≤ 63 from t10) (show 0 ≤ x13.toInt by first | with_reducible assumption | omega) (show x13.toInt ≤ 64 by first | with_reducible assumption | omega) (show (64 - x13.toInt).toNat < n2 by first | exact tn_lt hm2 (by omega) (by omega) | omega) hw   (lv_sub hl [1, 2, 3, 0] rfl)
      refine lv_iload_n hx hb dX12_isClash_2 rfl (lv_at hl 3 rfl) ?_
      refine lv_iload_n hx hb dX12_isClash_3 rfl (lv_at hl 2 rfl) ?_
      refine lv_icmp_gt (tgt := 31) hx hb dX12_isClash_4 (by decide) (fun c14 => ?_) (fun c14 => ?_)
      · have c14 : a2.toInt < v2_3.toInt := wk_lt.mp c14
        refine lv_iconst (v := 1) hx hb dX12_isClash_31 (by decide) ?_
        exact tk_zret hC hr rfl hlocks hK ⟨rfl, (Or.inr rfl)⟩ hw dX12_isClash_32
      · have c14 : v2_3.toInt ≤ a2.toInt := wk_ltF c14
        refine lv_aload_n hx hb dX12_isClash_7 rfl (lv_at hl 0 rfl) ?_
        refine tk_getA hC hK hw hT hinX12 kM_at0 (by decide) rfl 38 (by decide) (List.mem_cons_of_mem _ uw_7_10) rfl rfl dX12_isClash_8 ?_
        refine lv_iload_n hx hb dX12_isClash_11 rfl (lv_at hl 3 rfl) ?_
        refine tk_zald hC hK hw hT kM_at20 rfl rfl (show 0 ≤ v2_3.toInt from r5) (show v2_3.toInt < 64 by first | with_reducible assumption | omega) dX12_isClash_12 (fun x15 c16 rx15 tx15 => ?_)
        refine lv_if_eq (tgt := 25) hx hb dX12_isClash_13 (by decide) (fun c17 => ?_) (fun c17 => ?_)
        · have c17 : x15.toInt = (0 : Int) := wk_eq.mp c17
          exact J25  H locs ls  (show 1 ≤ a1.toInt from r1) (show a1.toInt ≤ 63 from t2) (show 0 ≤ a2.toInt from r3) (show a2.toInt ≤ 63 from t4) (show 0 ≤ v2_3.toInt from r5) (show v2_3.toInt ≤ 63 by first | with_reducible assumption | omega)  hw   (lv_sub hl [0, 1, 2, 3] rfl)
        · have c17 : ¬ x15.toInt = (0 : Int) := wk_eqF c17
          refine lv_iload_n hx hb dX12_isClash_16 rfl (lv_at hl 3 rfl) ?_
          refine lv_iload_n hx hb dX12_isClash_17 rfl (lv_at hl 1 rfl) ?_
          refine lv_iand hx hb dX12_isClash_18 ?_
          refine lv_topi (fun x18 ex18 => ?_)
          have bx18 : 0 ≤ x18.toInt ∧ x18.toInt ≤ a1.toInt := by rw [ex18]; exact wk_and (by omega)
          refine lv_iload_n hx hb dX12_isClash_19 rfl (lv_at hl 1 rfl) ?_
          refine lv_icmp_ne (tgt := 25) hx hb dX12_isClash_20 (by decide) (fun c19 => ?_) (fun c19 => ?_)
          · have c19 : ¬ x18.toInt = a1.toInt := wk_eqF c19
            exact J25  H locs ls  (show 1 ≤ a1.toInt from r1) (show a1.toInt ≤ 63 from t2) (show 0 ≤ a2.toInt from r3) (show a2.toInt ≤ 63 from t4) (show 0 ≤ v2_3.toInt from r5) (show v2_3.toInt ≤ 63 by first | with_reducible assumption | omega)  hw   (lv_sub hl [0, 1, 2, 3] rfl)
          · have c19 : x18.toInt = a1.toInt := wk_eq.mp c19
            refine lv_iconst (v := 0) hx hb dX12_isClash_23 (by decide) ?_
            exact tk_zret hC hr rfl hlocks hK ⟨rfl, (Or.inl rfl)⟩ hw dX12_isClash_24
  refine lv_iconst (v := 0) hx hb dX12_isClash_0 (by decide) ?_
  refine lv_istore_n (lv' := [(3, .int 0), (0, .ref (ad 0)), (1, .int a1), (2, .int a2)]) hx hb dX12_isClash_1 rfl hl (by decide) rfl (fun ls hl => ?_)
  exact L2 ((64 - (0 : Int)).toNat + 1) 0 s.heap locs ls  (show 1 ≤ a1.toInt from ra1) (show a1.toInt ≤ 63 from ta1) (show 0 ≤ a2.toInt from ra2) (show a2.toInt ≤ 63 from ta2) (by decide) (by decide) (Nat.lt_succ_self _) hw   (lv_sub hl [1, 2, 3, 0] rfl)
abbrev P_X12_ways_1 (ad : Nat → Nat) (cy : Nat → ClassId) (B : Int) (qr : Nat) (s1 : Int) (a1 : Int32) (a2 : Int32) (w0 : va_W) : Int32 → va_W → Prop := fun r u => TW ksM ad cy B qr 12 u ∧ FE ksM [(79, 0, 64)] w0 u ∧ ((r = (-2) ∧ 0 ≤ a1.toInt ∧ a1.toInt ≤ 6 ∧ 0 ≤ a2.toInt ∧ a2.toInt ≤ 0 ∧ (∃ y : Int32, gi u 12 0 = y ∧ 1 ≤ y.toInt ∧ y.toInt ≤ 10)) ∨ (0 ≤ r.toInt ∧ r.toInt ≤ 4095 ∧ 0 ≤ a1.toInt ∧ a1.toInt ≤ 6 ∧ (∃ y : Int32, gi u 12 0 = y ∧ 1 ≤ y.toInt ∧ y.toInt ≤ 10)) ∨ (r = (-1)))
set_option maxHeartbeats 4000000 in
set_option maxRecDepth 100000 in
theorem k_X12_ways_1 (l : Launch) (adK adV : Nat → Nat) (dC : Nat → ClassId) (dI : Nat → Nat → Nat) (cy : Nat → ClassId) (ad : Nat → Nat) (B : Int) (hB0 : 100000 ≤ B) (hB1 : B ≤ 1073741824) (qr : Nat) (s1 : Int)  (a1 : Int32) (a2 : Int32) (w0 : va_W) (sz : Nat) (hT : TW ksM ad cy B qr 12 w0)  : Met l yX12_ways (wu yX12_ways cX12_ways 7 (some .int)) ({ frames := 4, cells := 0, slots := 0, locals := 86 }) (va_Pc [.ref (ad 0), .int a1, .int a2] (wpreS adK adV dC dI cy sz w0)) (va_Qi (P_X12_ways_1 ad cy B qr s1 a1 a2 w0) (fun u : va_W => wpost dC dI cy (va_A w0 sz) u) (va_A w0 sz)) 0 0 (va_A w0 sz) := by
  refine Met.ofW (cc := cX12_ways) (maxL := 7) (ret := (some .int)) (by decide) rfl ?_
  intro p e s m args below meth c s₁ Bk hml hv
  obtain ⟨rfl, ⟨hsz, hP, hK, hD0⟩, hE, hSR⟩ := hv
  have hx := Bk.exec
  have hb := Bk.bytes
  have hr := Bk.returns
  have hlocks := Bk.notSynchronized
  have hC : CallFix p m c cX12_ways 7 s _ (wu yX12_ways cX12_ways 7 (some .int)) RX12 := ⟨hx, hb, hml, findClass_of_methodNamed Bk.named, atoms_spec (ws := (wu yX12_ways cX12_ways 7 (some .int))) Bk.pre⟩
  subst hsz
  have hD := hD0.self (sz := s.heap.size)
  generalize hAe : va_A w0 s.heap.size = A at hD hE ⊢
  have hA : ∀ q : Nat, s.heap.size ≤ q → A q := fun q h => by rw [← hAe]; exact Or.inr h
  have hw : Wd dC dI A s.heap s.heap [] w0 := ⟨hP, hD, va_S.rf⟩
  have hF : FE ksM [(79, 0, 64)] w0 w0 := FE.rf
  have hl := lv_entry ([.ref (ad 0), .int a1, .int a2]) (n := 7) (Nat.le_of_ble_eq_true rfl)
  rw [lg_entry_eq]
  generalize (lg_sl ([.ref (ad 0), .int a1, .int a2]) ++ List.replicate (7 - (lg_sl ([.ref (ad 0), .int a1, .int a2])).length) Slot.unset).toArray = ls at hl ⊢
  have hl : lv_has ls 7 [(0, .ref (ad 0)), (1, .int a1), (2, .int a2)] := hl
  generalize hloc : ([] : List Loc) = locs at hw ⊢
  have hinX12 : ∀ w ∈ u_ws RX12 TX12 42, w ∈ (wu yX12_ways cX12_ways 7 (some .int)) := fun _ h => List.mem_cons_of_mem _ (up_71 h)
  have J29 : ∀ (f29_12_0 : Int32) (H : Heap) (locs : List Loc) (ls : Array Slot) (w1 : va_W), 0 ≤ f29_12_0.toInt → f29_12_0.toInt ≤ 10 → Wd dC dI A s.heap H locs w1 → TW ksM ad cy B qr 12 w1 → FE ksM [(79, 0, 64)] w0 w1 → gi w1 12 0 = f29_12_0 → lv_has ls 7 [(0, .ref (ad 0)), (1, .int a1), (2, .int a2)] → W p l e ({ frames := 4, cells := 0, slots := 0, locals := 86 }) s m (List.toArray [.ref (ad 0), .int a1, .int a2]) below meth c H locs 0 0 (MQ below (va_Qi (P_X12_ways_1 ad cy B qr s1 a1 a2 w0) (fun u : va_W => wpost dC dI cy A u) A) (List.toArray [.ref (ad 0), .int a1, .int a2]) s 0 0 A) (F0 m 29 ls []) := by
    intro f29_12_0 H locs ls w1 r2 t3 hw hT hF c4 hl
    refine lv_iconst (v := (-1)) hx hb dX12_ways_29 (by decide) ?_
    exact tk_iret hC hr hlocks hK ⟨hT, hF, (Or.inr (Or.inr rfl))⟩ hw dX12_ways_30
  have L177 : ∀ (n177 : Nat) (v177_3 : Int32) (v177_4 : Int32) (v177_5 : Int32) (v177_6 : Int32) (f177_12_0 : Int32) (f177_12_1 : Int32) (f177_12_6 : Int32) (H : Heap) (locs : List Loc) (ls : Array Slot) (w5 : va_W), 0 ≤ a1.toInt → a1.toInt ≤ 6 → 0 ≤ v177_3.toInt → v177_3.toInt ≤ 12 → 0 ≤ v177_4.toInt → v177_4.toInt ≤ 63 → 0 ≤ v177_5.toInt → v177_5.toInt ≤ 63 → 0 ≤ v177_6.toInt → v177_6.toInt ≤ 63 → 1 ≤ f177_12_0.toInt → f177_12_0.toInt ≤ 10 → 0 ≤ f177_12_1.toInt → f177_12_1.toInt ≤ 12 → 0 ≤ f177_12_6.toInt → f177_12_6.toInt ≤ 6 → (v177_6.toInt - 0).toNat < n177 → Wd dC dI A s.heap H locs w5 → TW ksM ad cy B qr 12 w5 → FE ksM [(79, 0, 64)] w0 w5 → gi w5 12 0 = f177_12_0 → gi w5 12 1 = f177_12_1 → gi w5 12 6 = f177_12_6 → lv_has ls 7 [(0, .ref (ad 0)), (1, .int a1), (2, .int 1), (3, .int v177_3), (4, .int v177_4), (5, .int v177_5), (6, .int v177_6)] → W p l e ({ frames := 4, cells := 0, slots := 0, locals := 86 }) s m (List.toArray [.ref (ad 0), .int a1, .int a2]) below meth c H locs 0 0 (MQ below (va_Qi (P_X12_ways_1 ad cy B qr s1 a1 a2 w0) (fun u : va_W => wpost dC dI cy A u) A) (List.toArray [.ref (ad 0), .int a1, .int a2]) s 0 0 A) (F0 m 177 ls []) := by
    intro n177
    induction n177 with
    | zero => intro v177_3 v177_4 v177_5 v177_6 f177_12_0 f177_12_1 f177_12_6 H locs ls w5 r6 t7 r8 t9 r10 t11 r12 t13 r14 t15 r16 t17 r19 t20 r22 t23 hm177 hw hT hF c18 c21 c24 hl; omega
    | succ n177 ih177 =>
      intro v177_3 v177_4 v177_5 v177_6 f177_12_0 f177_12_1 f177_12_6 H locs ls w5 r6 t7 r8 t9 r10 t11 r12 t13 r14 t15 r16 t17 r19 t20 r22 t23 hm177 hw hT hF c18 c21 c24 hl
      have J210 : ∀ (v210_5 : Int32) (H : Heap) (locs : List Loc) (ls : Array Slot) (w25 : va_W), 0 ≤ a1.toInt → a1.toInt ≤ 6 → 0 ≤ v177_3.toInt → v177_3.toInt ≤ 12 → 0 ≤ v177_4.toInt → v177_4.toInt ≤ 63 → 0 ≤ v210_5.toInt → v210_5.toInt ≤ 63 → 1 ≤ v177_6.toInt → v177_6.toInt ≤ 63 → 1 ≤ f177_12_0.toInt → f177_12_0.toInt ≤ 10 → 0 ≤ f177_12_1.toInt → f177_12_1.toInt ≤ 12 → 0 ≤ f177_12_6.toInt → f177_12_6.toInt ≤ 6 → Wd dC dI A s.heap H locs w25 → TW ksM ad cy B qr 12 w25 → FE ksM [(79, 0, 64)] w0 w25 → gi w25 12 0 = f177_12_0 → gi w25 12 1 = f177_12_1 → gi w25 12 6 = f177_12_6 → lv_has ls 7 [(0, .ref (ad 0)), (1, .int a1), (2, .int 1), (3, .int v177_3), (4, .int v177_4), (5, .int v210_5), (6, .int v177_6)] → W p l e ({ frames := 4, cells := 0, slots := 0, locals := 86 }) s m (List.toArray [.ref (ad 0), .int a1, .int a2]) below meth c H locs 0 0 (MQ below (va_Qi (P_X12_ways_1 ad cy B qr s1 a1 a2 w0) (fun u : va_W => wpost dC dI cy A u) A) (List.toArray [.ref (ad 0), .int a1, .int a2]) s 0 0 A) (F0 m 210 ls []) := by
        intro v210_5 H locs ls w25 r26 t27 r28 t29 r30 t31 r32 t33 r34 t35 r36 t37 r39 t40 r42 t43 hw hT hF c38 c41 c44 hl
        obtain ⟨x45, ex45⟩ : ∃ y : Int32, y = v177_6 + Int32.ofInt (-1) := ⟨_, rfl⟩
        refine lv_iinc (v := x45) (lv' := [(6, .int x45), (0, .ref (ad 0)), (1, .int a1), (2, .int 1), (3, .int v177_3), (4, .int v177_4), (5, .int v210_5)]) hx hb dX12_ways_210 hl (k := 6) rfl ex45.symm (by decide) rfl (fun ls hl => ?_)
        have ex45 : x45.toInt = v177_6.toInt + (-1) := by rw [ex45]; exact wk_add (y := (-1)) (show -2147483648 ≤ v177_6.toInt + (-1) by omega) (show v177_6.toInt + (-1) ≤ 2147483647 by omega)
        refine lv_goto (tgt := 177) hx hb dX12_ways_213 (by decide) ?_
        exact ih177 v177_3 v177_4 v210_5 x45 f177_12_0 f177_12_1 f177_12_6 H locs ls w25 (show 0 ≤ a1.toInt from r26) (show a1.toInt ≤ 6 from t27) (show 0 ≤ v177_3.toInt from r28) (show v177_3.toInt ≤ 12 from t29) (show 0 ≤ v177_4.toInt from r30) (show v177_4.toInt ≤ 63 from t31) (show 0 ≤ v210_5.toInt from r32) (show v210_5.toInt ≤ 63 from t33) (show 0 ≤ x45.toInt by first | with_reducible assumption | omega) (show x45.toInt ≤ 63 by first | with_reducible assumption | omega) (show 1 ≤ f177_12_0.toInt from r36) (show f177_12_0.toInt ≤ 10 from t37) (show 0 ≤ f177_12_1.toInt from r39) (show f177_12_1.toInt ≤ 12 from t40) (show 0 ≤ f177_12_6.toInt from r42) (show f177_12_6.toInt ≤ 6 from t43) (show (x45.toInt - 0).toNat < n177 by first | exact tn_lt hm177 (by omega) (by omega) | omega) hw hT hF c38 c41 c44 (lv_sub hl [1, 2, 3, 4, 5, 6, 0] rfl)
      refine lv_iload hx hb dX12_ways_177 (lv_at hl 6 rfl) ?_
      refine lv_if_le (tgt := 216) hx hb dX12_ways_179 (by decide) (fun c46 => ?_) (fun c46 => ?_)
      · have c46 : v177_6.toInt ≤ (0 : Int) := wk_le.mp c46
        refine lv_iload hx hb dX12_ways_216 (lv_at hl 5 rfl) ?_
        exact tk_iret hC hr hlocks hK ⟨hT, hF, (Or.inr (Or.inl ⟨(show 0 ≤ v177_5.toInt from r12), (show v177_5.toInt ≤ 4095 from Int.le_trans t13 (by decide)), (show 0 ≤ a1.toInt from r6), (show a1.toInt ≤ 6 from t7), ⟨f177_12_0, c18, (show 1 ≤ f177_12_0.toInt from r16), (show f177_12_0.toInt ≤ 10 from t17)⟩⟩))⟩ hw dX12_ways_218
      · have c46 : (0 : Int) < v177_6.toInt := wk_leF c46
        refine lv_aload_n hx hb dX12_ways_182 rfl (lv_at hl 0 rfl) ?_
        refine lv_iload hx hb dX12_ways_183 (lv_at hl 6 rfl) ?_
        refine lv_iload hx hb dX12_ways_185 (lv_at hl 4 rfl) ?_
        refine tk_Vi hC hK hw hT hA hE hSR kM_at0 (by decide) rfl (k_X12_isClash_1 l adK adV dC dI cy ad B hB0 (Int.le_trans hB1 (by decide)) qr s1   v177_6 (show 1 ≤ v177_6.toInt by first | with_reducible assumption | omega) (show v177_6.toInt ≤ 63 from t15) v177_4 (show 0 ≤ v177_4.toInt from r10) (show v177_4.toInt ≤ 63 from t11) w5 H.size hT ) (cwV 2 hC.2.2.2.2 uV_RX12_475 rfl rfl rfl (by decide +kernel) ⟨Nat.le_of_ble_eq_true rfl, Nat.le_of_ble_eq_true rfl⟩) rfl hl.1 rfl (Nat.le_of_ble_eq_true rfl) dX12_ways_187 (fun r47 w49 H locs hp48 hw => ?_)
        obtain ⟨rfl, hg51⟩ := hp48
        rcases hg51 with rfl | rfl
        · refine lv_if_eq (tgt := 210) hx hb dX12_ways_190 (by decide) (fun _ => ?_) (fun c => absurd (by decide) c)
          exact J210 v177_5 H locs ls w5 (show 0 ≤ a1.toInt from r6) (show a1.toInt ≤ 6 from t7) (show 0 ≤ v177_3.toInt from r8) (show v177_3.toInt ≤ 12 from t9) (show 0 ≤ v177_4.toInt from r10) (show v177_4.toInt ≤ 63 from t11) (show 0 ≤ v177_5.toInt from r12) (show v177_5.toInt ≤ 63 from t13) (show 1 ≤ v177_6.toInt by first | with_reducible assumption | omega) (show v177_6.toInt ≤ 63 from t15) (show 1 ≤ f177_12_0.toInt from r16) (show f177_12_0.toInt ≤ 10 from t17) (show 0 ≤ f177_12_1.toInt from r19) (show f177_12_1.toInt ≤ 12 from t20) (show 0 ≤ f177_12_6.toInt from r22) (show f177_12_6.toInt ≤ 6 from t23)  hw hT hF c18 c21 c24 (lv_sub hl [0, 1, 2, 3, 4, 5, 6] rfl)
        · refine lv_if_eq (tgt := 210) hx hb dX12_ways_190 (by decide) (fun c => absurd c (by decide)) (fun _ => ?_)
          refine lv_iload hx hb dX12_ways_193 (lv_at hl 6 rfl) ?_
          refine tk_Si hC hK hw hT hA hE hSR (k_X12_bits_2 l adK adV dC dI cy ad B hB0 (Int.le_trans hB1 (by decide)) qr s1   v177_6 (show 1 ≤ v177_6.toInt by first | with_reducible assumption | omega) (show v177_6.toInt ≤ 63 from t15) w5 H.size hT ) (va_cwS 1 hC.2.2.2.2 uS_RX12_478 rfl rfl rfl (by decide +kernel) ⟨Nat.le_of_ble_eq_true rfl, Nat.le_of_ble_eq_true rfl⟩) rfl hl.1 rfl (Nat.le_of_ble_eq_true rfl) dX12_ways_195 (fun r52 w54 H locs hp53 hw => ?_)
          obtain ⟨rfl, hg56⟩ := hp53
          clear hg56
          refine lv_iload hx hb dX12_ways_198 (lv_at hl 5 rfl) ?_
          refine tk_Si hC hK hw hT hA hE hSR (k_X12_bits_1 l adK adV dC dI cy ad B hB0 (Int.le_trans hB1 (by decide)) qr s1   v177_5 (show 0 ≤ v177_5.toInt from r12) (show v177_5.toInt ≤ 63 from t13) w5 H.size hT ) (va_cwS 1 hC.2.2.2.2 uS_RX12_478 rfl rfl rfl (by decide +kernel) ⟨Nat.le_of_ble_eq_true rfl, Nat.le_of_ble_eq_true rfl⟩) rfl hl.1 rfl (Nat.le_of_ble_eq_true rfl) dX12_ways_200 (fun r57 w59 H locs hp58 hw => ?_)
          obtain ⟨rfl, hg61⟩ := hp58
          clear hg61
          refine lv_icmp_gt (tgt := 210) hx hb dX12_ways_203 (by decide) (fun c62 => ?_) (fun c62 => ?_)
          · have c62 : r57.toInt < r52.toInt := wk_lt.mp c62
            exact J210 v177_5 H locs ls w5 (show 0 ≤ a1.toInt from r6) (show a1.toInt ≤ 6 from t7) (show 0 ≤ v177_3.toInt from r8) (show v177_3.toInt ≤ 12 from t9) (show 0 ≤ v177_4.toInt from r10) (show v177_4.toInt ≤ 63 from t11) (show 0 ≤ v177_5.toInt from r12) (show v177_5.toInt ≤ 63 from t13) (show 1 ≤ v177_6.toInt by first | with_reducible assumption | omega) (show v177_6.toInt ≤ 63 from t15) (show 1 ≤ f177_12_0.toInt from r16) (show f177_12_0.toInt ≤ 10 from t17) (show 0 ≤ f177_12_1.toInt from r19) (show f177_12_1.toInt ≤ 12 from t20) (show 0 ≤ f177_12_6.toInt from r22) (show f177_12_6.toInt ≤ 6 from t23)  hw hT hF c18 c21 c24 (lv_sub hl [0, 1, 2, 3, 4, 5, 6] rfl)
          · have c62 : r52.toInt ≤ r57.toInt := wk_ltF c62
            refine lv_iload hx hb dX12_ways_206 (lv_at hl 6 rfl) ?_
            refine lv_istore (lv' := [(5, .int v177_6), (0, .ref (ad 0)), (1, .int a1), (2, .int 1), (3, .int v177_3), (4, .int v177_4), (6, .int v177_6)]) hx hb dX12_ways_208 hl (by decide) rfl (fun ls hl => ?_)
            exact J210 v177_6 H locs ls w5 (show 0 ≤ a1.toInt from r6) (show a1.toInt ≤ 6 from t7) (show 0 ≤ v177_3.toInt from r8) (show v177_3.toInt ≤ 12 from t9) (show 0 ≤ v177_4.toInt from r10) (show v177_4.toInt ≤ 63 from t11) (show 0 ≤ v177_6.toInt from r14) (show v177_6.toInt ≤ 63 from t15) (show 1 ≤ v177_6.toInt by first | with_reducible assumption | omega) (show v177_6.toInt ≤ 63 from t15) (show 1 ≤ f177_12_0.toInt from r16) (show f177_12_0.toInt ≤ 10 from t17) (show 0 ≤ f177_12_1.toInt from r19) (show f177_12_1.toInt ≤ 12 from t20) (show 0 ≤ f177_12_6.toInt from r22) (show f177_12_6.toInt ≤ 6 from t23)  hw hT hF c18 c21 c24 (lv_sub hl [1, 2, 3, 4, 5, 0, 6] rfl)
  have L113 : ∀ (n113 : Nat) (v113_3 : Int32) (v113_4 : Int32) (v113_5 : Int32) (f113_12_0 : Int32) (f113_12_1 : Int32) (f113_12_6 : Int32) (H : Heap) (locs : List Loc) (ls : Array Slot) (w63 : va_W), 0 ≤ a1.toInt → a1.toInt ≤ 6 → 0 ≤ a2.toInt → a2.toInt ≤ 1 → 0 ≤ v113_3.toInt → v113_3.toInt ≤ 12 → 0 ≤ v113_4.toInt → v113_4.toInt ≤ 63 → 0 ≤ v113_5.toInt → v113_5.toInt ≤ 4096 → 1 ≤ f113_12_0.toInt → f113_12_0.toInt ≤ 10 → 0 ≤ f113_12_1.toInt → f113_12_1.toInt ≤ 12 → 0 ≤ f113_12_6.toInt → f113_12_6.toInt ≤ 6 → (4096 - v113_5.toInt).toNat < n113 → Wd dC dI A s.heap H locs w63 → TW ksM ad cy B qr 12 w63 → FE ksM [(79, 0, 64)] w0 w63 → gi w63 12 0 = f113_12_0 → gi w63 12 1 = f113_12_1 → gi w63 12 6 = f113_12_6 → lv_has ls 7 [(0, .ref (ad 0)), (1, .int a1), (2, .int a2), (3, .int v113_3), (4, .int v113_4), (5, .int v113_5)] → W p l e ({ frames := 4, cells := 0, slots := 0, locals := 86 }) s m (List.toArray [.ref (ad 0), .int a1, .int a2]) below meth c H locs 0 0 (MQ below (va_Qi (P_X12_ways_1 ad cy B qr s1 a1 a2 w0) (fun u : va_W => wpost dC dI cy A u) A) (List.toArray [.ref (ad 0), .int a1, .int a2]) s 0 0 A) (F0 m 113 ls []) := by
    intro n113
    induction n113 with
    | zero => intro v113_3 v113_4 v113_5 f113_12_0 f113_12_1 f113_12_6 H locs ls w63 r64 t65 r66 t67 r68 t69 r70 t71 r72 t73 r74 t75 r77 t78 r80 t81 hm113 hw hT hF c76 c79 c82 hl; omega
    | succ n113 ih113 =>
      intro v113_3 v113_4 v113_5 f113_12_0 f113_12_1 f113_12_6 H locs ls w63 r64 t65 r66 t67 r68 t69 r70 t71 r72 t73 r74 t75 r77 t78 r80 t81 hm113 hw hT hF c76 c79 c82 hl
      refine lv_iload hx hb dX12_ways_113 (lv_at hl 5 rfl) ?_
      refine lv_iconst (v := 1) hx hb dX12_ways_115 (by decide) ?_
      refine lv_iload_n hx hb dX12_ways_116 rfl (lv_at hl 3 rfl) ?_
      refine lv_ishl hx hb dX12_ways_117 ?_
      refine lv_topi (fun x83 ex83 => ?_)
      have bx83 : 1 ≤ x83.toInt ∧ x83.toInt ≤ 4096 := by rw [ex83]; exact wk_shl1 12 (by decide) (by omega) (by omega)
      refine lv_icmp_ge (tgt := 162) hx hb dX12_ways_118 (by decide) (fun c84 => ?_) (fun c84 => ?_)
      · have c84 : x83.toInt ≤ v113_5.toInt := wk_le.mp c84
        refine lv_iload_n hx hb dX12_ways_162 rfl (lv_at hl 2 rfl) ?_
        refine lv_if_ne (tgt := 169) hx hb dX12_ways_163 (by decide) (fun c85 => ?_) (fun c85 => ?_)
        · have c85 : ¬ a2.toInt = (0 : Int) := wk_eqF c85
          refine lv_iload hx hb dX12_ways_169 (lv_at hl 4 rfl) ?_
          refine lv_istore (lv' := [(5, .int v113_4), (0, .ref (ad 0)), (1, .int a1), (2, .int a2), (3, .int v113_3), (4, .int v113_4)]) hx hb dX12_ways_171 hl (by decide) rfl (fun ls hl => ?_)
          refine lv_iload hx hb dX12_ways_173 (lv_at hl 5 rfl) ?_
          refine lv_istore (lv' := [(6, .int v113_4), (5, .int v113_4), (0, .ref (ad 0)), (1, .int a1), (2, .int a2), (3, .int v113_3), (4, .int v113_4)]) hx hb dX12_ways_175 hl (by decide) rfl (fun ls hl => ?_)
          obtain rfl : a2 = 1 := wk_eq.mpr (show a2.toInt = 1 by first | exact Int.le_antisymm (by omega) (by omega) | omega)
          exact L177 ((v113_4.toInt - 0).toNat + 1) v113_3 v113_4 v113_4 v113_4 f113_12_0 f113_12_1 f113_12_6 H locs ls w63 (show 0 ≤ a1.toInt from r64) (show a1.toInt ≤ 6 from t65) (show 0 ≤ v113_3.toInt from r68) (show v113_3.toInt ≤ 12 from t69) (show 0 ≤ v113_4.toInt from r70) (show v113_4.toInt ≤ 63 from t71) (show 0 ≤ v113_4.toInt from r70) (show v113_4.toInt ≤ 63 from t71) (show 0 ≤ v113_4.toInt from r70) (show v113_4.toInt ≤ 63 from t71) (show 1 ≤ f113_12_0.toInt from r74) (show f113_12_0.toInt ≤ 10 from t75) (show 0 ≤ f113_12_1.toInt from r77) (show f113_12_1.toInt ≤ 12 from t78) (show 0 ≤ f113_12_6.toInt from r80) (show f113_12_6.toInt ≤ 6 from t81) (Nat.lt_succ_self _) hw hT hF c76 c79 c82 (lv_sub hl [2, 3, 4, 5, 6, 1, 0] rfl)
        · have c85 : a2.toInt = (0 : Int) := wk_eq.mp c85
          refine lv_bipush (v := (-2)) hx hb dX12_ways_166 (by decide) ?_
          exact tk_iret hC hr hlocks hK ⟨hT, hF, (Or.inl ⟨rfl, (show 0 ≤ a1.toInt from r64), (show a1.toInt ≤ 6 from t65), (show 0 ≤ a2.toInt from r66), (show a2.toInt ≤ 0 by first | with_reducible assumption | omega), ⟨f113_12_0, c76, (show 1 ≤ f113_12_0.toInt from r74), (show f113_12_0.toInt ≤ 10 from t75)⟩⟩)⟩ hw dX12_ways_168
      · have c84 : v113_5.toInt < x83.toInt := wk_leF c84
        refine lv_aload_n hx hb dX12_ways_121 rfl (lv_at hl 0 rfl) ?_
        refine lv_iload_n hx hb dX12_ways_122 rfl (lv_at hl 1 rfl) ?_
        refine lv_iload hx hb dX12_ways_123 (lv_at hl 5 rfl) ?_
        refine tk_Vi hC hK hw hT hA hE hSR kM_at0 (by decide) rfl (k_X12_doneBy_1 l adK adV dC dI cy ad B hB0 (Int.le_trans hB1 (by decide)) qr s1   a1 (show 0 ≤ a1.toInt from r64) (show a1.toInt ≤ 6 from t65) v113_5 (show 0 ≤ v113_5.toInt from r72) (show v113_5.toInt ≤ 4095 by first | with_reducible assumption | omega) w63 H.size hT ) (cwV 2 hC.2.2.2.2 uV_RX12_472 rfl rfl rfl (by decide +kernel) ⟨Nat.le_of_ble_eq_true rfl, Nat.le_of_ble_eq_true rfl⟩) rfl hl.1 rfl (Nat.le_of_ble_eq_true rfl) dX12_ways_125 (fun r86 w88 H locs hp87 hw => ?_)
        obtain ⟨rfl, hg92⟩ := hp87
        obtain ⟨g90, g91⟩ := hg92
        refine lv_istore (lv' := [(6, .int r86), (0, .ref (ad 0)), (1, .int a1), (2, .int a2), (3, .int v113_3), (4, .int v113_4), (5, .int v113_5)]) hx hb dX12_ways_128 hl (by decide) rfl (fun ls hl => ?_)
        refine lv_iload hx hb dX12_ways_130 (lv_at hl 0 rfl) ?_
        refine lv_iload hx hb dX12_ways_132 (lv_at hl 5 rfl) ?_
        refine lv_icmp_ne (tgt := 148) hx hb dX12_ways_134 (by decide) (fun c93 => ?_) (fun c93 => ?_)
        · have c93 : ¬ r86.toInt = v113_4.toInt := wk_eqF c93
          refine lv_aload_n hx hb dX12_ways_148 rfl (lv_at hl 1 rfl) ?_
          refine tk_getA hC hK hw hT hinX12 kM_at0 (by decide) rfl 38 (by decide) (List.mem_cons_of_mem _ uw_7_10) rfl rfl dX12_ways_149 ?_
          refine lv_iload hx hb dX12_ways_152 (lv_at hl 0 rfl) ?_
          refine lv_iconst (v := 1) hx hb dX12_ways_154 (by decide) ?_
          refine tk_zast hC hK hw hT kM_at20 (by decide) rfl rfl (show 0 ≤ r86.toInt by first | with_reducible assumption | omega) (show r86.toInt < 64 by first | with_reducible assumption | omega) (by decide) (by decide) dX12_ways_155 (fun H locs w94 hw hT k96 c95 => ?_)
          have hF := hF.put kM_at20 (inE_of (a := 0) (b := 64) (by decide) (show 0 ≤ r86.toInt.toNat by omega) (show r86.toInt.toNat ≤ 64 by omega)) k96
          have c97 := k96.gi (Or.inl (tk_ne kM_at12 kM_at20 (by decide))) c76
          have c98 := k96.gi (Or.inl (tk_ne kM_at12 kM_at20 (by decide))) c79
          have c99 := k96.gi (Or.inl (tk_ne kM_at12 kM_at20 (by decide))) c82
          obtain ⟨x100, ex100⟩ : ∃ y : Int32, y = v113_5 + Int32.ofInt 1 := ⟨_, rfl⟩
          refine lv_iinc (v := x100) (lv' := [(5, .int x100), (6, .int r86), (0, .ref (ad 0)), (1, .int a1), (2, .int a2), (3, .int v113_3), (4, .int v113_4)]) hx hb dX12_ways_156 hl (k := 6) rfl ex100.symm (by decide) rfl (fun ls hl => ?_)
          have ex100 : x100.toInt = v113_5.toInt + 1 := by rw [ex100]; exact wk_add (y := 1) (show -2147483648 ≤ v113_5.toInt + 1 by omega) (show v113_5.toInt + 1 ≤ 2147483647 by omega)
          refine lv_goto (tgt := 113) hx hb dX12_ways_159 (by decide) ?_
          exact ih113 v113_3 v113_4 x100 f113_12_0 f113_12_1 f113_12_6 H locs ls w94 (show 0 ≤ a1.toInt from r64) (show a1.toInt ≤ 6 from t65) (show 0 ≤ a2.toInt from r66) (show a2.toInt ≤ 1 from t67) (show 0 ≤ v113_3.toInt from r68) (show v113_3.toInt ≤ 12 from t69) (show 0 ≤ v113_4.toInt from r70) (show v113_4.toInt ≤ 63 from t71) (show 0 ≤ x100.toInt by first | with_reducible assumption | omega) (show x100.toInt ≤ 4096 by first | with_reducible assumption | omega) (show 1 ≤ f113_12_0.toInt from r74) (show f113_12_0.toInt ≤ 10 from t75) (show 0 ≤ f113_12_1.toInt from r77) (show f113_12_1.toInt ≤ 12 from t78) (show 0 ≤ f113_12_6.toInt from r80) (show f113_12_6.toInt ≤ 6 from t81) (show (4096 - x100.toInt).toNat < n113 by first | exact tn_lt hm113 (by omega) (by omega) | omega) hw hT hF c97 c98 c99 (lv_sub hl [2, 3, 4, 5, 6, 0] rfl)
        · have c93 : r86.toInt = v113_4.toInt := wk_eq.mp c93
          refine lv_iload_n hx hb dX12_ways_137 rfl (lv_at hl 3 rfl) ?_
          refine lv_if_ne (tgt := 146) hx hb dX12_ways_138 (by decide) (fun c101 => ?_) (fun c101 => ?_)
          · have c101 : ¬ a2.toInt = (0 : Int) := wk_eqF c101
            refine lv_iconst (v := 0) hx hb dX12_ways_146 (by decide) ?_
            exact tk_iret hC hr hlocks hK ⟨hT, hF, (Or.inr (Or.inl ⟨(by decide), (by decide), (show 0 ≤ a1.toInt from r64), (show a1.toInt ≤ 6 from t65), ⟨f113_12_0, c76, (show 1 ≤ f113_12_0.toInt from r74), (show f113_12_0.toInt ≤ 10 from t75)⟩⟩))⟩ hw dX12_ways_147
          · have c101 : a2.toInt = (0 : Int) := wk_eq.mp c101
            refine lv_iload hx hb dX12_ways_141 (lv_at hl 6 rfl) ?_
            refine lv_goto (tgt := 147) hx hb dX12_ways_143 (by decide) ?_
            exact tk_iret hC hr hlocks hK ⟨hT, hF, (Or.inr (Or.inl ⟨(show 0 ≤ v113_5.toInt from r72), (show v113_5.toInt ≤ 4095 by first | with_reducible assumption | omega), (show 0 ≤ a1.toInt from r64), (show a1.toInt ≤ 6 from t65), ⟨f113_12_0, c76, (show 1 ≤ f113_12_0.toInt from r74), (show f113_12_0.toInt ≤ 10 from t75)⟩⟩))⟩ hw dX12_ways_147
  have L89 : ∀ (n89 : Nat) (v89_3 : Int32) (v89_4 : Int32) (v89_5 : Int32) (f89_12_0 : Int32) (f89_12_1 : Int32) (f89_12_6 : Int32) (H : Heap) (locs : List Loc) (ls : Array Slot) (w102 : va_W), 0 ≤ a1.toInt → a1.toInt ≤ 6 → 0 ≤ a2.toInt → a2.toInt ≤ 1 → 0 ≤ v89_3.toInt → v89_3.toInt ≤ 12 → 0 ≤ v89_4.toInt → v89_4.toInt ≤ 63 → 0 ≤ v89_5.toInt → v89_5.toInt ≤ 64 → 1 ≤ f89_12_0.toInt → f89_12_0.toInt ≤ 10 → 0 ≤ f89_12_1.toInt → f89_12_1.toInt ≤ 12 → 0 ≤ f89_12_6.toInt → f89_12_6.toInt ≤ 6 → (64 - v89_5.toInt).toNat < n89 → Wd dC dI A s.heap H locs w102 → TW ksM ad cy B qr 12 w102 → FE ksM [(79, 0, 64)] w0 w102 → gi w102 12 0 = f89_12_0 → gi w102 12 1 = f89_12_1 → gi w102 12 6 = f89_12_6 → lv_has ls 7 [(0, .ref (ad 0)), (1, .int a1), (2, .int a2), (3, .int v89_3), (4, .int v89_4), (5, .int v89_5)] → W p l e ({ frames := 4, cells := 0, slots := 0, locals := 86 }) s m (List.toArray [.ref (ad 0), .int a1, .int a2]) below meth c H locs 0 0 (MQ below (va_Qi (P_X12_ways_1 ad cy B qr s1 a1 a2 w0) (fun u : va_W => wpost dC dI cy A u) A) (List.toArray [.ref (ad 0), .int a1, .int a2]) s 0 0 A) (F0 m 89 ls []) := by
    intro n89
    induction n89 with
    | zero => intro v89_3 v89_4 v89_5 f89_12_0 f89_12_1 f89_12_6 H locs ls w102 r103 t104 r105 t106 r107 t108 r109 t110 r111 t112 r113 t114 r116 t117 r119 t120 hm89 hw hT hF c115 c118 c121 hl; omega
    | succ n89 ih89 =>
      intro v89_3 v89_4 v89_5 f89_12_0 f89_12_1 f89_12_6 H locs ls w102 r103 t104 r105 t106 r107 t108 r109 t110 r111 t112 r113 t114 r116 t117 r119 t120 hm89 hw hT hF c115 c118 c121 hl
      refine lv_iload hx hb dX12_ways_89 (lv_at hl 5 rfl) ?_
      refine lv_bipush (v := 64) hx hb dX12_ways_91 (by decide) ?_
      refine lv_icmp_ge (tgt := 110) hx hb dX12_ways_93 (by decide) (fun c122 => ?_) (fun c122 => ?_)
      · have c122 : (64 : Int) ≤ v89_5.toInt := wk_le.mp c122
        refine lv_iconst (v := 0) hx hb dX12_ways_110 (by decide) ?_
        refine lv_istore (lv' := [(5, .int 0), (0, .ref (ad 0)), (1, .int a1), (2, .int a2), (3, .int v89_3), (4, .int v89_4)]) hx hb dX12_ways_111 hl (by decide) rfl (fun ls hl => ?_)
        exact L113 ((4096 - (0 : Int)).toNat + 1) v89_3 v89_4 0 f89_12_0 f89_12_1 f89_12_6 H locs ls w102 (show 0 ≤ a1.toInt from r103) (show a1.toInt ≤ 6 from t104) (show 0 ≤ a2.toInt from r105) (show a2.toInt ≤ 1 from t106) (show 0 ≤ v89_3.toInt from r107) (show v89_3.toInt ≤ 12 from t108) (show 0 ≤ v89_4.toInt from r109) (show v89_4.toInt ≤ 63 from t110) (by decide) (by decide) (show 1 ≤ f89_12_0.toInt from r113) (show f89_12_0.toInt ≤ 10 from t114) (show 0 ≤ f89_12_1.toInt from r116) (show f89_12_1.toInt ≤ 12 from t117) (show 0 ≤ f89_12_6.toInt from r119) (show f89_12_6.toInt ≤ 6 from t120) (Nat.lt_succ_self _) hw hT hF c115 c118 c121 (lv_sub hl [1, 2, 3, 4, 5, 0] rfl)
      · have c122 : v89_5.toInt < (64 : Int) := wk_leF c122
        refine lv_aload_n hx hb dX12_ways_96 rfl (lv_at hl 0 rfl) ?_
        refine tk_getA hC hK hw hT hinX12 kM_at0 (by decide) rfl 38 (by decide) (List.mem_cons_of_mem _ uw_7_10) rfl rfl dX12_ways_97 ?_
        refine lv_iload hx hb dX12_ways_100 (lv_at hl 5 rfl) ?_
        refine lv_iconst (v := 0) hx hb dX12_ways_102 (by decide) ?_
        refine tk_zast hC hK hw hT kM_at20 (by decide) rfl rfl (show 0 ≤ v89_5.toInt from r111) (show v89_5.toInt < 64 from c122) (by decide) (by decide) dX12_ways_103 (fun H locs w123 hw hT k125 c124 => ?_)
        have hF := hF.put kM_at20 (inE_of (a := 0) (b := 64) (by decide) (show 0 ≤ v89_5.toInt.toNat by omega) (show v89_5.toInt.toNat ≤ 64 by omega)) k125
        have c126 := k125.gi (Or.inl (tk_ne kM_at12 kM_at20 (by decide))) c115
        have c127 := k125.gi (Or.inl (tk_ne kM_at12 kM_at20 (by decide))) c118
        have c128 := k125.gi (Or.inl (tk_ne kM_at12 kM_at20 (by decide))) c121
        obtain ⟨x129, ex129⟩ : ∃ y : Int32, y = v89_5 + Int32.ofInt 1 := ⟨_, rfl⟩
        refine lv_iinc (v := x129) (lv' := [(5, .int x129), (0, .ref (ad 0)), (1, .int a1), (2, .int a2), (3, .int v89_3), (4, .int v89_4)]) hx hb dX12_ways_104 hl (k := 5) rfl ex129.symm (by decide) rfl (fun ls hl => ?_)
        have ex129 : x129.toInt = v89_5.toInt + 1 := by rw [ex129]; exact wk_add (y := 1) (show -2147483648 ≤ v89_5.toInt + 1 by omega) (show v89_5.toInt + 1 ≤ 2147483647 by omega)
        refine lv_goto (tgt := 89) hx hb dX12_ways_107 (by decide) ?_
        exact ih89 v89_3 v89_4 x129 f89_12_0 f89_12_1 f89_12_6 H locs ls w123 (show 0 ≤ a1.toInt from r103) (show a1.toInt ≤ 6 from t104) (show 0 ≤ a2.toInt from r105) (show a2.toInt ≤ 1 from t106) (show 0 ≤ v89_3.toInt from r107) (show v89_3.toInt ≤ 12 from t108) (show 0 ≤ v89_4.toInt from r109) (show v89_4.toInt ≤ 63 from t110) (show 0 ≤ x129.toInt by first | with_reducible assumption | omega) (show x129.toInt ≤ 64 by first | with_reducible assumption | omega) (show 1 ≤ f89_12_0.toInt from r113) (show f89_12_0.toInt ≤ 10 from t114) (show 0 ≤ f89_12_1.toInt from r116) (show f89_12_1.toInt ≤ 12 from t117) (show 0 ≤ f89_12_6.toInt from r119) (show f89_12_6.toInt ≤ 6 from t120) (show (64 - x129.toInt).toNat < n89 by first | exact tn_lt hm89 (by omega) (by omega) | omega) hw hT hF c126 c127 c128 (lv_sub hl [1, 2, 3, 4, 5, 0] rfl)
  have L36 : ∀ (n36 : Nat) (v36_3 : Int32) (v36_4 : Int32) (f36_12_0 : Int32) (H : Heap) (locs : List Loc) (ls : Array Slot) (w130 : va_W), 0 ≤ a1.toInt → a1.toInt ≤ 6 → 0 ≤ a2.toInt → a2.toInt ≤ 1 → 0 ≤ v36_3.toInt → v36_3.toInt ≤ 12 → 0 ≤ v36_4.toInt → v36_4.toInt ≤ 12 → 1 ≤ f36_12_0.toInt → f36_12_0.toInt ≤ 10 → v36_3.toInt ≤ v36_4.toInt + 0 → (12 - v36_4.toInt).toNat < n36 → Wd dC dI A s.heap H locs w130 → TW ksM ad cy B qr 12 w130 → FE ksM [(79, 0, 64)] w0 w130 → gi w130 12 0 = f36_12_0 → lv_has ls 7 [(0, .ref (ad 0)), (1, .int a1), (2, .int a2), (3, .int v36_3), (4, .int v36_4)] → W p l e ({ frames := 4, cells := 0, slots := 0, locals := 86 }) s m (List.toArray [.ref (ad 0), .int a1, .int a2]) below meth c H locs 0 0 (MQ below (va_Qi (P_X12_ways_1 ad cy B qr s1 a1 a2 w0) (fun u : va_W => wpost dC dI cy A u) A) (List.toArray [.ref (ad 0), .int a1, .int a2]) s 0 0 A) (F0 m 36 ls []) := by
    intro n36
    induction n36 with
    | zero => intro v36_3 v36_4 f36_12_0 H locs ls w130 r131 t132 r133 t134 r135 t136 r137 t138 r139 t140 i142 hm36 hw hT hF c141 hl; omega
    | succ n36 ih36 =>
      intro v36_3 v36_4 f36_12_0 H locs ls w130 r131 t132 r133 t134 r135 t136 r137 t138 r139 t140 i142 hm36 hw hT hF c141 hl
      refine lv_iload hx hb dX12_ways_36 (lv_at hl 4 rfl) ?_
      refine lv_aload_n hx hb dX12_ways_38 rfl (lv_at hl 0 rfl) ?_
      refine tk_getA hC hK hw hT hinX12 kM_at0 (by decide) rfl 26 (by decide) (List.mem_cons_of_mem _ uw_7_1) rfl rfl dX12_ways_39 ?_
      refine lv_iconst (v := 1) hx hb dX12_ways_42 (by decide) ?_
      refine tk_ialdR hC hK hw hT kM_at12 rfl (by decide) (by decide) dX12_ways_43 (fun x143 c144 Ex143 => ?_)
      have bx143 : 0 ≤ x143.toInt ∧ x143.toInt ≤ 12 := (tk_rg1 rfl).mp Ex143
      have c144 : gi w130 12 1 = x143 := c144
      refine lv_icmp_ge (tgt := 73) hx hb dX12_ways_44 (by decide) (fun c145 => ?_) (fun c145 => ?_)
      · have c145 : x143.toInt ≤ v36_4.toInt := wk_le.mp c145
        refine lv_iconst (v := 1) hx hb dX12_ways_73 (by decide) ?_
        refine lv_aload_n hx hb dX12_ways_74 rfl (lv_at hl 0 rfl) ?_
        refine tk_getA hC hK hw hT hinX12 kM_at0 (by decide) rfl 26 (by decide) (List.mem_cons_of_mem _ uw_7_1) rfl rfl dX12_ways_75 ?_
        refine lv_bipush (v := 6) hx hb dX12_ways_78 (by decide) ?_
        refine tk_ialdR hC hK hw hT kM_at12 rfl (by decide) (by decide) dX12_ways_80 (fun x146 c147 Ex146 => ?_)
        have bx146 := tk_rgI rfl 6 1 1 0 6 (by decide +kernel) ⟨0, by decide, by decide⟩ Ex146
        have c147 : gi w130 12 6 = x146 := c147
        refine lv_ishl hx hb dX12_ways_81 ?_
        refine lv_topi (fun x148 ex148 => ?_)
        have bx148 : 1 ≤ x148.toInt ∧ x148.toInt ≤ 64 := by rw [ex148]; exact wk_shl1 6 (by decide) (by omega) (by omega)
        refine lv_iconst (v := 1) hx hb dX12_ways_82 (by decide) ?_
        refine lv_isub hx hb dX12_ways_83 ?_
        refine lv_topi (fun x149 ex149 => ?_)
        have ex149 : x149.toInt = x148.toInt - (1 : Int) := by rw [ex149]; exact wk_sub (show (-2147483648) ≤ x148.toInt - (1 : Int) by omega) (show x148.toInt - (1 : Int) ≤ 2147483647 by omega)
        refine lv_istore (lv' := [(4, .int x149), (0, .ref (ad 0)), (1, .int a1), (2, .int a2), (3, .int v36_3)]) hx hb dX12_ways_84 hl (by decide) rfl (fun ls hl => ?_)
        refine lv_iconst (v := 0) hx hb dX12_ways_86 (by decide) ?_
        refine lv_istore (lv' := [(5, .int 0), (4, .int x149), (0, .ref (ad 0)), (1, .int a1), (2, .int a2), (3, .int v36_3)]) hx hb dX12_ways_87 hl (by decide) rfl (fun ls hl => ?_)
        exact L89 ((64 - (0 : Int)).toNat + 1) v36_3 x149 0 f36_12_0 x143 x146 H locs ls w130 (show 0 ≤ a1.toInt from r131) (show a1.toInt ≤ 6 from t132) (show 0 ≤ a2.toInt from r133) (show a2.toInt ≤ 1 from t134) (show 0 ≤ v36_3.toInt from r135) (show v36_3.toInt ≤ 12 from t136) (show 0 ≤ x149.toInt by first | with_reducible assumption | omega) (show x149.toInt ≤ 63 by first | with_reducible assumption | omega) (by decide) (by decide) (show 1 ≤ f36_12_0.toInt from r139) (show f36_12_0.toInt ≤ 10 from t140) (show 0 ≤ x143.toInt by first | with_reducible assumption | omega) (show x143.toInt ≤ 12 by first | with_reducible assumption | omega) (show 0 ≤ x146.toInt by first | with_reducible assumption | omega) (show x146.toInt ≤ 6 by first | with_reducible assumption | omega) (Nat.lt_succ_self _) hw hT hF c141 c144 c147 (lv_sub hl [2, 3, 4, 5, 1, 0] rfl)
      · have c145 : v36_4.toInt < x143.toInt := wk_leF c145
        refine lv_iload_n hx hb dX12_ways_47 rfl (lv_at hl 3 rfl) ?_
        refine lv_aload_n hx hb dX12_ways_48 rfl (lv_at hl 0 rfl) ?_
        refine lv_iload hx hb dX12_ways_49 (lv_at hl 4 rfl) ?_
        refine lv_iconst (v := 3) hx hb dX12_ways_51 (by decide) ?_
        refine lv_iload_n hx hb dX12_ways_52 rfl (lv_at hl 1 rfl) ?_
        refine lv_iadd hx hb dX12_ways_53 ?_
        refine lv_topi (fun x150 ex150 => ?_)
        have ex150 : x150.toInt = (3 : Int) + a1.toInt := by rw [ex150]; exact wk_add (show (-2147483648) ≤ (3 : Int) + a1.toInt by omega) (show (3 : Int) + a1.toInt ≤ 2147483647 by omega)
        refine tk_Vi hC hK hw hT hA hE hSR kM_at0 (by decide) rfl (k_X12_streetOf_4 l adK adV dC dI cy ad B hB0 (Int.le_trans hB1 (by decide)) qr s1   v36_4 (show 0 ≤ v36_4.toInt from r137) (show v36_4.toInt ≤ 11 by first | with_reducible assumption | omega) x150 (show 3 ≤ x150.toInt by first | with_reducible assumption | omega) (show x150.toInt ≤ 9 by first | with_reducible assumption | omega) w130 H.size hT ) (cwV 2 hC.2.2.2.2 uV_RX12_300 rfl rfl rfl (by decide +kernel) ⟨Nat.le_of_ble_eq_true rfl, Nat.le_of_ble_eq_true rfl⟩) rfl hl.1 rfl (Nat.le_of_ble_eq_true rfl) dX12_ways_54 (fun r151 w153 H locs hp152 hw => ?_)
        obtain ⟨rfl, hg158⟩ := hp152
        obtain ⟨g155, g156, c157⟩ := hg158
        refine lv_if_ne (tgt := 64) hx hb dX12_ways_57 (by decide) (fun c159 => ?_) (fun c159 => ?_)
        · have c159 : ¬ r151.toInt = (0 : Int) := wk_eqF c159
          refine lv_iconst (v := 1) hx hb dX12_ways_64 (by decide) ?_
          refine lv_iadd hx hb dX12_ways_65 ?_
          refine lv_topi (fun x160 ex160 => ?_)
          have ex160 : x160.toInt = v36_3.toInt + (1 : Int) := by rw [ex160]; exact wk_add (show (-2147483648) ≤ v36_3.toInt + (1 : Int) by omega) (show v36_3.toInt + (1 : Int) ≤ 2147483647 by omega)
          refine lv_istore_n (lv' := [(3, .int x160), (0, .ref (ad 0)), (1, .int a1), (2, .int a2), (4, .int v36_4)]) hx hb dX12_ways_66 rfl hl (by decide) rfl (fun ls hl => ?_)
          obtain ⟨x161, ex161⟩ : ∃ y : Int32, y = v36_4 + Int32.ofInt 1 := ⟨_, rfl⟩
          refine lv_iinc (v := x161) (lv' := [(4, .int x161), (3, .int x160), (0, .ref (ad 0)), (1, .int a1), (2, .int a2)]) hx hb dX12_ways_67 hl (k := 4) rfl ex161.symm (by decide) rfl (fun ls hl => ?_)
          have ex161 : x161.toInt = v36_4.toInt + 1 := by rw [ex161]; exact wk_add (y := 1) (show -2147483648 ≤ v36_4.toInt + 1 by omega) (show v36_4.toInt + 1 ≤ 2147483647 by omega)
          refine lv_goto (tgt := 36) hx hb dX12_ways_70 (by decide) ?_
          exact ih36 x160 x161 f36_12_0 H locs ls w130 (show 0 ≤ a1.toInt from r131) (show a1.toInt ≤ 6 from t132) (show 0 ≤ a2.toInt from r133) (show a2.toInt ≤ 1 from t134) (show 0 ≤ x160.toInt by first | with_reducible assumption | omega) (show x160.toInt ≤ 12 by first | with_reducible assumption | omega) (show 0 ≤ x161.toInt by first | with_reducible assumption | omega) (show x161.toInt ≤ 12 by first | with_reducible assumption | omega) (show 1 ≤ f36_12_0.toInt from r139) (show f36_12_0.toInt ≤ 10 from t140) (show x160.toInt ≤ x161.toInt + 0 by omega) (show (12 - x161.toInt).toNat < n36 by first | exact tn_lt hm36 (by omega) (by omega) | omega) hw hT hF c141 (lv_sub hl [2, 3, 4, 1, 0] rfl)
        · have c159 : r151.toInt = (0 : Int) := wk_eq.mp c159
          refine lv_iconst (v := 0) hx hb dX12_ways_60 (by decide) ?_
          refine lv_goto (tgt := 65) hx hb dX12_ways_61 (by decide) ?_
          refine lv_iadd hx hb dX12_ways_65 ?_
          refine lv_topi (fun x162 ex162 => ?_)
          have ex162 : x162.toInt = v36_3.toInt + (0 : Int) := by rw [ex162]; exact wk_add (show (-2147483648) ≤ v36_3.toInt + (0 : Int) by omega) (show v36_3.toInt + (0 : Int) ≤ 2147483647 by omega)
          refine lv_istore_n (lv' := [(3, .int x162), (0, .ref (ad 0)), (1, .int a1), (2, .int a2), (4, .int v36_4)]) hx hb dX12_ways_66 rfl hl (by decide) rfl (fun ls hl => ?_)
          obtain ⟨x163, ex163⟩ : ∃ y : Int32, y = v36_4 + Int32.ofInt 1 := ⟨_, rfl⟩
          refine lv_iinc (v := x163) (lv' := [(4, .int x163), (3, .int x162), (0, .ref (ad 0)), (1, .int a1), (2, .int a2)]) hx hb dX12_ways_67 hl (k := 4) rfl ex163.symm (by decide) rfl (fun ls hl => ?_)
          have ex163 : x163.toInt = v36_4.toInt + 1 := by rw [ex163]; exact wk_add (y := 1) (show -2147483648 ≤ v36_4.toInt + 1 by omega) (show v36_4.toInt + 1 ≤ 2147483647 by omega)
          refine lv_goto (tgt := 36) hx hb dX12_ways_70 (by decide) ?_
          exact ih36 x162 x163 f36_12_0 H locs ls w130 (show 0 ≤ a1.toInt from r131) (show a1.toInt ≤ 6 from t132) (show 0 ≤ a2.toInt from r133) (show a2.toInt ≤ 1 from t134) (show 0 ≤ x162.toInt by first | with_reducible assumption | omega) (show x162.toInt ≤ 12 by first | with_reducible assumption | omega) (show 0 ≤ x163.toInt by first | with_reducible assumption | omega) (show x163.toInt ≤ 12 by first | with_reducible assumption | omega) (show 1 ≤ f36_12_0.toInt from r139) (show f36_12_0.toInt ≤ 10 from t140) (show x162.toInt ≤ x163.toInt + 0 by omega) (show (12 - x163.toInt).toNat < n36 by first | exact tn_lt hm36 (by omega) (by omega) | omega) hw hT hF c141 (lv_sub hl [2, 3, 4, 1, 0] rfl)
  refine lv_aload_n hx hb dX12_ways_0 rfl (lv_at hl 0 rfl) ?_
  refine tk_Vi hC hK hw hT hA hE hSR kM_at0 (by decide) rfl (k_X12_isTown_1 l adK adV dC dI cy ad B hB0 (Int.le_trans hB1 (by decide)) qr s1    w0 s.heap.size hT ) (cwV 0 hC.2.2.2.2 uV_RX12_337 rfl rfl rfl (by decide +kernel) ⟨Nat.le_of_ble_eq_true rfl, Nat.le_of_ble_eq_true rfl⟩) rfl hl.1 rfl (Nat.le_of_ble_eq_true rfl) dX12_ways_1 (fun r164 w166 H locs hp165 hw => ?_)
  obtain ⟨rfl, hg172⟩ := hp165
  rcases hg172 with ⟨rfl, ⟨x168, c169, rx168, tx168⟩⟩ | ⟨rfl, ⟨x170, c171, rx170, tx170⟩⟩
  · refine lv_if_eq (tgt := 29) hx hb dX12_ways_4 (by decide) (fun _ => ?_) (fun c => absurd (by decide) c)
    exact J29 x168 H locs ls w0 (show 0 ≤ x168.toInt by first | with_reducible assumption | omega) (show x168.toInt ≤ 10 by first | with_reducible assumption | omega)  hw hT hF c169 (lv_sub hl [0, 1, 2] rfl)
  · refine lv_if_eq (tgt := 29) hx hb dX12_ways_4 (by decide) (fun c => absurd c (by decide)) (fun _ => ?_)
    refine lv_iload_n hx hb dX12_ways_7 rfl (lv_at hl 1 rfl) ?_
    refine lv_i2l hx hb dX12_ways_8 rfl ?_
    refine lv_topl (fun x173 ex173 => ?_)
    have ex173 : x173.toInt = a1.toInt := by rw [ex173]; exact wk_i2l _
    have bx173 := wk_i32 a1
    refine lv_lconst (v := 0) hx hb dX12_ways_9 (by decide) ?_
    refine lv_ldc2 (v := 6) hx hb hC.2.2.2.1 (hC.2.2.2.2 _ (List.mem_cons_of_mem _ uw_34_6)) dX12_ways_10 ?_
    refine tk_Si hC hK hw hT hA hE hSR (k_X12_in_10 l adK adV dC dI cy ad B hB0 (Int.le_trans hB1 (by decide)) qr s1   x173 (show (-2147483648) ≤ x173.toInt by first | with_reducible assumption | omega) (show x173.toInt ≤ 2147483647 by first | with_reducible assumption | omega) w0 H.size hT ) (va_cwS 3 hC.2.2.2.2 uS_RX12_122 rfl rfl rfl (by decide +kernel) ⟨Nat.le_of_ble_eq_true rfl, Nat.le_of_ble_eq_true rfl⟩) rfl hl.1 rfl (Nat.le_of_ble_eq_true rfl) dX12_ways_13 (fun r174 w176 H locs hp175 hw => ?_)
    obtain ⟨rfl, hg180⟩ := hp175
    rcases hg180 with rfl | ⟨rfl, g178, g179⟩
    · refine lv_if_eq (tgt := 29) hx hb dX12_ways_16 (by decide) (fun _ => ?_) (fun c => absurd (by decide) c)
      exact J29 x170 H locs ls w0 (show 0 ≤ x170.toInt by first | with_reducible assumption | omega) (show x170.toInt ≤ 10 by first | with_reducible assumption | omega)  hw hT hF c171 (lv_sub hl [0, 1, 2] rfl)
    · refine lv_if_eq (tgt := 29) hx hb dX12_ways_16 (by decide) (fun c => absurd c (by decide)) (fun _ => ?_)
      refine lv_iload_n hx hb dX12_ways_19 rfl (lv_at hl 2 rfl) ?_
      refine lv_i2l hx hb dX12_ways_20 rfl ?_
      refine lv_topl (fun x181 ex181 => ?_)
      have ex181 : x181.toInt = a2.toInt := by rw [ex181]; exact wk_i2l _
      have bx181 := wk_i32 a2
      refine lv_lconst (v := 0) hx hb dX12_ways_21 (by decide) ?_
      refine lv_lconst (v := 1) hx hb dX12_ways_22 (by decide) ?_
      refine tk_Si hC hK hw hT hA hE hSR (k_X12_in_12 l adK adV dC dI cy ad B hB0 (Int.le_trans hB1 (by decide)) qr s1   x181 (show (-2147483648) ≤ x181.toInt by first | with_reducible assumption | omega) (show x181.toInt ≤ 2147483647 by first | with_reducible assumption | omega) w0 H.size hT ) (va_cwS 3 hC.2.2.2.2 uS_RX12_122 rfl rfl rfl (by decide +kernel) ⟨Nat.le_of_ble_eq_true rfl, Nat.le_of_ble_eq_true rfl⟩) rfl hl.1 rfl (Nat.le_of_ble_eq_true rfl) dX12_ways_23 (fun r182 w184 H locs hp183 hw => ?_)
      obtain ⟨rfl, hg188⟩ := hp183
      rcases hg188 with rfl | ⟨rfl, g186, g187⟩
      · refine lv_if_ne (tgt := 31) hx hb dX12_ways_26 (by decide) (fun c => absurd (by decide) c) (fun _ => ?_)
        exact J29 x170 H locs ls w0 (show 0 ≤ x170.toInt by first | with_reducible assumption | omega) (show x170.toInt ≤ 10 by first | with_reducible assumption | omega)  hw hT hF c171 (lv_sub hl [0, 1, 2] rfl)
      · refine lv_if_ne (tgt := 31) hx hb dX12_ways_26 (by decide) (fun _ => ?_) (fun c => absurd c (by decide))
        refine lv_iconst (v := 0) hx hb dX12_ways_31 (by decide) ?_
        refine lv_istore_n (lv' := [(3, .int 0), (0, .ref (ad 0)), (1, .int a1), (2, .int a2)]) hx hb dX12_ways_32 rfl hl (by decide) rfl (fun ls hl => ?_)
        refine lv_iconst (v := 0) hx hb dX12_ways_33 (by decide) ?_
        refine lv_istore (lv' := [(4, .int 0), (3, .int 0), (0, .ref (ad 0)), (1, .int a1), (2, .int a2)]) hx hb dX12_ways_34 hl (by decide) rfl (fun ls hl => ?_)
        exact L36 ((12 - (0 : Int)).toNat + 1) 0 0 x170 H locs ls w0 (show 0 ≤ a1.toInt by first | with_reducible assumption | omega) (show a1.toInt ≤ 6 by first | with_reducible assumption | omega) (show 0 ≤ a2.toInt by first | with_reducible assumption | omega) (show a2.toInt ≤ 1 by first | with_reducible assumption | omega) (by decide) (by decide) (by decide) (by decide) (show 1 ≤ x170.toInt by first | with_reducible assumption | omega) (show x170.toInt ≤ 10 by first | with_reducible assumption | omega) (show (0 : Int) ≤ (0 : Int) + 0 by omega) (Nat.lt_succ_self _) hw hT hF c171 (lv_sub hl [2, 3, 4, 1, 0] rfl)
