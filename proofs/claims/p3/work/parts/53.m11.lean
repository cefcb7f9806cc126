abbrev P_X12_questions_1 (ad : Nat → Nat) (cy : Nat → ClassId) (B : Int) (qr : Nat) (s1 : Int) (a1 : Int32) (a2 : Int32) (w0 : va_W) : Int32 → va_W → Prop := fun r u => TW ksM ad cy B qr 12 u ∧ FE ksM [(72, 0, 12), (73, 0, 10), (76, 0, 2600)] w0 u ∧ ((r.toInt ≤ 99999999 ∧ 0 ≤ a1.toInt ∧ a1.toInt ≤ 3 ∧ 0 ≤ a2.toInt ∧ a2.toInt ≤ 120 ∧ (∃ y : Int32, gi u 12 5 = y ∧ 1 ≤ y.toInt ∧ y.toInt ≤ 4)) ∨ (r = (-2) ∧ 0 ≤ a1.toInt ∧ a1.toInt ≤ 3 ∧ 0 ≤ a2.toInt ∧ a2.toInt ≤ 120 ∧ (∃ y : Int32, gi u 12 5 = y ∧ 1 ≤ y.toInt ∧ y.toInt ≤ 4)) ∨ (r = (-1)))
set_option maxHeartbeats 4000000 in
set_option maxRecDepth 100000 in
theorem k_X12_questions_1 (l : Launch) (adK adV : Nat → Nat) (dC : Nat → ClassId) (dI : Nat → Nat → Nat) (cy : Nat → ClassId) (ad : Nat → Nat) (B : Int) (hB0 : 100000 ≤ B) (hB1 : B ≤ 1073741824) (qr : Nat) (s1 : Int)  (a1 : Int32) (a2 : Int32) (w0 : va_W) (sz : Nat) (hT : TW ksM ad cy B qr 12 w0)  : Met l yX12_questions wsX12_questions ({ frames := 6, cells := 0, slots := 0, locals := 134 }) (va_Pc [.ref (ad 0), .int a1, .int a2] (wpreS adK adV dC dI cy sz w0)) (va_Qi (P_X12_questions_1 ad cy B qr s1 a1 a2 w0) (fun u : va_W => wpost dC dI cy (va_A w0 sz) u) (va_A w0 sz)) 0 0 (va_A w0 sz) := by
  refine Met.ofW (cc := cX12_questions) (maxL := 8) (ret := (some .int)) (by decide) rfl ?_
  intro p e s m args below meth c s₁ Bk hml hv
  obtain ⟨rfl, ⟨hsz, hP, hK, hD0⟩, hE, hSR⟩ := hv
  have hx := Bk.exec
  have hb := Bk.bytes
  have hr := Bk.returns
  have hlocks := Bk.notSynchronized
  have hC : CallFix p m c cX12_questions 8 s _ wsX12_questions RX12 := ⟨hx, hb, hml, findClass_of_methodNamed Bk.named, atoms_spec (ws := wsX12_questions) Bk.pre⟩
  subst hsz
  have hD := hD0.self (sz := s.heap.size)
  generalize hAe : va_A w0 s.heap.size = A at hD hE ⊢
  have hA : ∀ q : Nat, s.heap.size ≤ q → A q := fun q h => by rw [← hAe]; exact Or.inr h
  have hw : Wd dC dI A s.heap s.heap [] w0 := ⟨hP, hD, va_S.rf⟩
  have hF : FE ksM [(72, 0, 12), (73, 0, 10), (76, 0, 2600)] w0 w0 := FE.rf
  have hl := lv_entry ([.ref (ad 0), .int a1, .int a2]) (n := 8) (Nat.le_of_ble_eq_true rfl)
  rw [lg_entry_eq]
  generalize (lg_sl ([.ref (ad 0), .int a1, .int a2]) ++ List.replicate (8 - (lg_sl ([.ref (ad 0), .int a1, .int a2])).length) Slot.unset).toArray = ls at hl ⊢
  have hl : lv_has ls 8 [(0, .ref (ad 0)), (1, .int a1), (2, .int a2)] := hl
  generalize hloc : ([] : List Loc) = locs at hw ⊢
  have hinX12 : ∀ w ∈ u_ws RX12 TX12 42, w ∈ wsX12_questions := fun _ h => List.mem_cons_of_mem _ (List.mem_append_right _ (h))
  have J20 : ∀ (H : Heap) (locs : List Loc) (ls : Array Slot) (w1 : va_W), Wd dC dI A s.heap H locs w1 → TW ksM ad cy B qr 12 w1 → FE ksM [(72, 0, 12), (73, 0, 10), (76, 0, 2600)] w0 w1 → lv_has ls 8 [(0, .ref (ad 0)), (1, .int a1), (2, .int a2)] → W p l e ({ frames := 6, cells := 0, slots := 0, locals := 134 }) s m (List.toArray [.ref (ad 0), .int a1, .int a2]) below meth c H locs 0 0 (MQ below (va_Qi (P_X12_questions_1 ad cy B qr s1 a1 a2 w0) (fun u : va_W => wpost dC dI cy A u) A) (List.toArray [.ref (ad 0), .int a1, .int a2]) s 0 0 A) (F0 m 20 ls []) := by
    intro H locs ls w1 hw hT hF hl
    refine lv_iconst (v := (-1)) hx hb dX12_questions_20 (by decide) ?_
    exact tk_iret hC hr hlocks hK ⟨hT, hF, (Or.inr (Or.inr rfl))⟩ hw dX12_questions_21
  have L70 : ∀ (n70 : Nat) (v70_3 : Int32) (v70_4 : Int32) (f70_12__9_a1_toInt_216_toNat : Int32) (f70_12_5 : Int32) (H : Heap) (locs : List Loc) (ls : Array Slot) (w2 : va_W), 0 ≤ a1.toInt → a1.toInt ≤ 3 → 0 ≤ a2.toInt → a2.toInt ≤ 120 → v70_3.toInt ≤ 100000000 → 0 ≤ v70_4.toInt → v70_4.toInt ≤ 121 → 0 ≤ f70_12__9_a1_toInt_216_toNat.toInt → f70_12__9_a1_toInt_216_toNat.toInt ≤ 9 → 1 ≤ f70_12_5.toInt → f70_12_5.toInt ≤ 4 → (121 - v70_4.toInt).toNat < n70 → Wd dC dI A s.heap H locs w2 → TW ksM ad cy B qr 12 w2 → FE ksM [(72, 0, 12), (73, 0, 10), (76, 0, 2600)] w0 w2 → gi w2 12 (9 * a1.toInt + 216).toNat = f70_12__9_a1_toInt_216_toNat → gi w2 12 5 = f70_12_5 → lv_has ls 8 [(0, .ref (ad 0)), (1, .int a1), (2, .int a2), (3, .int v70_3), (4, .int v70_4)] → W p l e ({ frames := 6, cells := 0, slots := 0, locals := 134 }) s m (List.toArray [.ref (ad 0), .int a1, .int a2]) below meth c H locs 0 0 (MQ below (va_Qi (P_X12_questions_1 ad cy B qr s1 a1 a2 w0) (fun u : va_W => wpost dC dI cy A u) A) (List.toArray [.ref (ad 0), .int a1, .int a2]) s 0 0 A) (F0 m 70 ls []) := by
    intro n70
    induction n70 with
    | zero => intro v70_3 v70_4 f70_12__9_a1_toInt_216_toNat f70_12_5 H locs ls w2 r3 t4 r5 t6 t7 r8 t9 r10 t11 r13 t14 hm70 hw hT hF c12 c15 hl; omega
    | succ n70 ih70 =>
      intro v70_3 v70_4 f70_12__9_a1_toInt_216_toNat f70_12_5 H locs ls w2 r3 t4 r5 t6 t7 r8 t9 r10 t11 r13 t14 hm70 hw hT hF c12 c15 hl
      have L79 : ∀ (n79 : Nat) (v79_3 : Int32) (v79_5 : Int32) (H : Heap) (locs : List Loc) (ls : Array Slot) (w16 : va_W), 0 ≤ a1.toInt → a1.toInt ≤ 3 → 0 ≤ a2.toInt → a2.toInt ≤ 120 → v79_3.toInt ≤ 100000000 → 0 ≤ v70_4.toInt → v70_4.toInt ≤ 120 → 0 ≤ v79_5.toInt → v79_5.toInt ≤ 10 → 0 ≤ f70_12__9_a1_toInt_216_toNat.toInt → f70_12__9_a1_toInt_216_toNat.toInt ≤ 9 → 1 ≤ f70_12_5.toInt → f70_12_5.toInt ≤ 4 → (10 - v79_5.toInt).toNat < n79 → Wd dC dI A s.heap H locs w16 → TW ksM ad cy B qr 12 w16 → FE ksM [(72, 0, 12), (73, 0, 10), (76, 0, 2600)] w0 w16 → gi w16 12 (9 * a1.toInt + 216).toNat = f70_12__9_a1_toInt_216_toNat → gi w16 12 5 = f70_12_5 → lv_has ls 8 [(0, .ref (ad 0)), (1, .int a1), (2, .int a2), (3, .int v79_3), (4, .int v70_4), (5, .int v79_5)] → W p l e ({ frames := 6, cells := 0, slots := 0, locals := 134 }) s m (List.toArray [.ref (ad 0), .int a1, .int a2]) below meth c H locs 0 0 (MQ below (va_Qi (P_X12_questions_1 ad cy B qr s1 a1 a2 w0) (fun u : va_W => wpost dC dI cy A u) A) (List.toArray [.ref (ad 0), .int a1, .int a2]) s 0 0 A) (F0 m 79 ls []) := by
        intro n79
        induction n79 with
        | zero => intro v79_3 v79_5 H locs ls w16 r17 t18 r19 t20 t21 r22 t23 r24 t25 r26 t27 r29 t30 hm79 hw hT hF c28 c31 hl; omega
        | succ n79 ih79 =>
          intro v79_3 v79_5 H locs ls w16 r17 t18 r19 t20 t21 r22 t23 r24 t25 r26 t27 r29 t30 hm79 hw hT hF c28 c31 hl
          have L93 : ∀ (n93 : Nat) (v93_3 : Int32) (v93_6 : Int32) (f93_12_0 : Int32) (H : Heap) (locs : List Loc) (ls : Array Slot) (w32 : va_W), 0 ≤ a1.toInt → a1.toInt ≤ 3 → 0 ≤ a2.toInt → a2.toInt ≤ 120 → v93_3.toInt ≤ 100000000 → 0 ≤ v70_4.toInt → v70_4.toInt ≤ 120 → 0 ≤ v79_5.toInt → v79_5.toInt ≤ 9 → 0 ≤ v93_6.toInt → v93_6.toInt ≤ 2 → 0 ≤ f70_12__9_a1_toInt_216_toNat.toInt → f70_12__9_a1_toInt_216_toNat.toInt ≤ 9 → 1 ≤ f93_12_0.toInt → f93_12_0.toInt ≤ 10 → 1 ≤ f70_12_5.toInt → f70_12_5.toInt ≤ 4 → (2 - v93_6.toInt).toNat < n93 → Wd dC dI A s.heap H locs w32 → TW ksM ad cy B qr 12 w32 → FE ksM [(72, 0, 12), (73, 0, 10), (76, 0, 2600)] w0 w32 → gi w32 12 (9 * a1.toInt + 216).toNat = f70_12__9_a1_toInt_216_toNat → gi w32 12 0 = f93_12_0 → gi w32 12 5 = f70_12_5 → lv_has ls 8 [(0, .ref (ad 0)), (1, .int a1), (2, .int a2), (3, .int v93_3), (4, .int v70_4), (5, .int v79_5), (6, .int v93_6)] → W p l e ({ frames := 6, cells := 0, slots := 0, locals := 134 }) s m (List.toArray [.ref (ad 0), .int a1, .int a2]) below meth c H locs 0 0 (MQ below (va_Qi (P_X12_questions_1 ad cy B qr s1 a1 a2 w0) (fun u : va_W => wpost dC dI cy A u) A) (List.toArray [.ref (ad 0), .int a1, .int a2]) s 0 0 A) (F0 m 93 ls []) := by
            intro n93
            induction n93 with
            | zero => intro v93_3 v93_6 f93_12_0 H locs ls w32 r33 t34 r35 t36 t37 r38 t39 r40 t41 r42 t43 r44 t45 r47 t48 r50 t51 hm93 hw hT hF c46 c49 c52 hl; omega
            | succ n93 ih93 =>
              intro v93_3 v93_6 f93_12_0 H locs ls w32 r33 t34 r35 t36 t37 r38 t39 r40 t41 r42 t43 r44 t45 r47 t48 r50 t51 hm93 hw hT hF c46 c49 c52 hl
              have J174 : ∀ (v174_7 : Int32) (f174_12__9_a1_toInt_217_toNat : Int32) (H : Heap) (locs : List Loc) (ls : Array Slot) (w53 : va_W), 0 ≤ a1.toInt → a1.toInt ≤ 3 → 0 ≤ a2.toInt → a2.toInt ≤ 120 → v93_3.toInt ≤ 100000000 → 0 ≤ v70_4.toInt → v70_4.toInt ≤ 120 → 0 ≤ v79_5.toInt → v79_5.toInt ≤ 9 → 0 ≤ v93_6.toInt → v93_6.toInt ≤ 1 → 0 ≤ f70_12__9_a1_toInt_216_toNat.toInt → f70_12__9_a1_toInt_216_toNat.toInt ≤ 9 → 0 ≤ f174_12__9_a1_toInt_217_toNat.toInt → f174_12__9_a1_toInt_217_toNat.toInt ≤ 9 → 1 ≤ f93_12_0.toInt → f93_12_0.toInt ≤ 10 → 1 ≤ f70_12_5.toInt → f70_12_5.toInt ≤ 4 → Wd dC dI A s.heap H locs w53 → TW ksM ad cy B qr 12 w53 → FE ksM [(72, 0, 12), (73, 0, 10), (76, 0, 2600)] w0 w53 → gi w53 12 (9 * a1.toInt + 216).toNat = f70_12__9_a1_toInt_216_toNat → gi w53 12 (9 * a1.toInt + 217).toNat = f174_12__9_a1_toInt_217_toNat → gi w53 12 0 = f93_12_0 → gi w53 12 5 = f70_12_5 → lv_has ls 8 [(0, .ref (ad 0)), (1, .int a1), (2, .int a2), (3, .int v93_3), (4, .int v70_4), (5, .int v79_5), (6, .int v93_6), (7, .int v174_7)] → W p l e ({ frames := 6, cells := 0, slots := 0, locals := 134 }) s m (List.toArray [.ref (ad 0), .int a1, .int a2]) below meth c H locs 0 0 (MQ below (va_Qi (P_X12_questions_1 ad cy B qr s1 a1 a2 w0) (fun u : va_W => wpost dC dI cy A u) A) (List.toArray [.ref (ad 0), .int a1, .int a2]) s 0 0 A) (F0 m 174 ls []) := by
                intro v174_7 f174_12__9_a1_toInt_217_toNat H locs ls w53 r54 t55 r56 t57 t58 r59 t60 r61 t62 r63 t64 r65 t66 r68 t69 r71 t72 r74 t75 hw hT hF c67 c70 c73 c76 hl
                refine lv_iload_n hx hb dX12_questions_174 rfl (lv_at hl 3 rfl) ?_
                refine lv_istore_n (lv' := [(3, .int v93_3), (0, .ref (ad 0)), (1, .int a1), (2, .int a2), (4, .int v70_4), (5, .int v79_5), (6, .int v93_6), (7, .int v174_7)]) hx hb dX12_questions_175 rfl hl (by decide) rfl (fun ls hl => ?_)
                obtain ⟨x77, ex77⟩ : ∃ y : Int32, y = v93_6 + Int32.ofInt 1 := ⟨_, rfl⟩
                refine lv_iinc (v := x77) (lv' := [(6, .int x77), (3, .int v93_3), (0, .ref (ad 0)), (1, .int a1), (2, .int a2), (4, .int v70_4), (5, .int v79_5), (7, .int v174_7)]) hx hb dX12_questions_176 hl (k := 6) rfl ex77.symm (by decide) rfl (fun ls hl => ?_)
                have ex77 : x77.toInt = v93_6.toInt + 1 := by rw [ex77]; exact wk_add (y := 1) (show -2147483648 ≤ v93_6.toInt + 1 by omega) (show v93_6.toInt + 1 ≤ 2147483647 by omega)
                refine lv_goto (tgt := 93) hx hb dX12_questions_179 (by decide) ?_
                exact ih93 v93_3 x77 f93_12_0 H locs ls w53 (show 0 ≤ a1.toInt by omega) (show a1.toInt ≤ 3 by omega) (show 0 ≤ a2.toInt by omega) (show a2.toInt ≤ 120 by omega) (show v93_3.toInt ≤ 100000000 by omega) (show 0 ≤ v70_4.toInt by omega) (show v70_4.toInt ≤ 120 by omega) (show 0 ≤ v79_5.toInt by omega) (show v79_5.toInt ≤ 9 by omega) (show 0 ≤ x77.toInt by omega) (show x77.toInt ≤ 2 by omega) (show 0 ≤ f70_12__9_a1_toInt_216_toNat.toInt by omega) (show f70_12__9_a1_toInt_216_toNat.toInt ≤ 9 by omega) (show 1 ≤ f93_12_0.toInt by omega) (show f93_12_0.toInt ≤ 10 by omega) (show 1 ≤ f70_12_5.toInt by omega) (show f70_12_5.toInt ≤ 4 by omega) (show (2 - x77.toInt).toNat < n93 by omega) hw hT hF c67 c73 c76 (lv_sub hl [2, 3, 4, 1, 5, 6, 0] rfl)
              refine lv_iload hx hb dX12_questions_93 (lv_at hl 6 rfl) ?_
              refine lv_iconst (v := 2) hx hb dX12_questions_95 (by decide) ?_
              refine lv_icmp_ge (tgt := 182) hx hb dX12_questions_96 (by decide) (fun c78 => ?_) (fun c78 => ?_)
              · have c78 : (2 : Int) ≤ v93_6.toInt := wk_le.mp c78
                obtain ⟨x79, ex79⟩ : ∃ y : Int32, y = v79_5 + Int32.ofInt 1 := ⟨_, rfl⟩
                refine lv_iinc (v := x79) (lv' := [(5, .int x79), (0, .ref (ad 0)), (1, .int a1), (2, .int a2), (3, .int v93_3), (4, .int v70_4), (6, .int v93_6)]) hx hb dX12_questions_182 hl (k := 5) rfl ex79.symm (by decide) rfl (fun ls hl => ?_)
                have ex79 : x79.toInt = v79_5.toInt + 1 := by rw [ex79]; exact wk_add (y := 1) (show -2147483648 ≤ v79_5.toInt + 1 by omega) (show v79_5.toInt + 1 ≤ 2147483647 by omega)
                refine lv_goto (tgt := 79) hx hb dX12_questions_185 (by decide) ?_
                exact ih79 v93_3 x79 H locs ls w32 (show 0 ≤ a1.toInt by omega) (show a1.toInt ≤ 3 by omega) (show 0 ≤ a2.toInt by omega) (show a2.toInt ≤ 120 by omega) (show v93_3.toInt ≤ 100000000 by omega) (show 0 ≤ v70_4.toInt by omega) (show v70_4.toInt ≤ 120 by omega) (show 0 ≤ x79.toInt by omega) (show x79.toInt ≤ 10 by omega) (show 0 ≤ f70_12__9_a1_toInt_216_toNat.toInt by omega) (show f70_12__9_a1_toInt_216_toNat.toInt ≤ 9 by omega) (show 1 ≤ f70_12_5.toInt by omega) (show f70_12_5.toInt ≤ 4 by omega) (show (10 - x79.toInt).toNat < n79 by omega) hw hT hF c46 c52 (lv_sub hl [1, 2, 3, 4, 5, 0] rfl)
              · have c78 : v93_6.toInt < (2 : Int) := wk_leF c78
                refine lv_aload_n hx hb dX12_questions_99 rfl (lv_at hl 0 rfl) ?_
                refine lv_iload_n hx hb dX12_questions_100 rfl (lv_at hl 1 rfl) ?_
                refine lv_aload_n hx hb dX12_questions_101 rfl (lv_at hl 0 rfl) ?_
                refine lv_iload_n hx hb dX12_questions_102 rfl (lv_at hl 1 rfl) ?_
                refine lv_iconst (v := 4) hx hb dX12_questions_103 (by decide) ?_
                refine tk_Vi hC hK hw hT hA hE hSR kM_at0 (by decide) rfl (k_X12_walkerOf_4 l adK adV dC dI cy ad B (by omega) (by omega) qr s1   a1 (show 0 ≤ a1.toInt by omega) (show a1.toInt ≤ 3 by omega) w32 H.size hT ) (cwV 2 hC.2.2.2.2 gX12_questions_X12_walkerOf rfl rfl rfl (by decide +kernel) ⟨Nat.le_of_ble_eq_true rfl, Nat.le_of_ble_eq_true rfl⟩) rfl hl.1 rfl (Nat.le_of_ble_eq_true rfl) dX12_questions_104 (fun r80 w82 H locs hp81 hw => ?_)
                obtain ⟨rfl, hg87⟩ := hp81
                obtain ⟨g84, g85, c86⟩ := hg87
                refine lv_iload hx hb dX12_questions_107 (lv_at hl 4 rfl) ?_
                refine lv_iload hx hb dX12_questions_109 (lv_at hl 5 rfl) ?_
                refine lv_iload hx hb dX12_questions_111 (lv_at hl 6 rfl) ?_
                refine lv_iconst (v := 1) hx hb dX12_questions_113 (by decide) ?_
                refine lv_icmp_ne (tgt := 121) hx hb dX12_questions_114 (by decide) (fun c88 => ?_) (fun c88 => ?_)
                · have c88 : ¬ v93_6.toInt = (1 : Int) := wk_eqF c88
                  refine lv_iconst (v := 0) hx hb dX12_questions_121 (by decide) ?_
                  refine lv_iload_n hx hb dX12_questions_122 rfl (lv_at hl 2 rfl) ?_
                  refine tk_Vv hC hK hw hT hA hE hSR kM_at0 (by decide) rfl (k_X12_leads_1 l adK adV dC dI cy ad B (by omega) (by omega) qr s1   a1 (show 0 ≤ a1.toInt by omega) (show a1.toInt ≤ 3 by omega) r80 (show 0 ≤ r80.toInt by omega) (show r80.toInt ≤ 1073741824 by omega) v70_4 (show 0 ≤ v70_4.toInt by omega) (show v70_4.toInt ≤ 120 by omega) v79_5 (show 0 ≤ v79_5.toInt by omega) (show v79_5.toInt ≤ 9 by omega) a2 (show 0 ≤ a2.toInt by omega) (show a2.toInt ≤ 120 by omega) w32 H.size hT ) (cwV 6 hC.2.2.2.2 gX12_questions_X12_leads rfl rfl rfl (by decide +kernel) ⟨Nat.le_of_ble_eq_true rfl, Nat.le_of_ble_eq_true rfl⟩) rfl hl.1 rfl (Nat.le_of_ble_eq_true rfl) dX12_questions_123 (fun w91 H locs hp90 hw => ?_)
                  obtain ⟨hT, k92, hg93⟩ := hp90
                  have hF := hF.tr k92 (by decide)
                  have c94 := k92.gi kM_at12 rfl c46
                  have c95 := k92.gi kM_at12 (by decide) c49
                  have c96 := k92.gi kM_at12 (by decide) c52
                  clear hg93
                  refine lv_aload_n hx hb dX12_questions_126 rfl (lv_at hl 0 rfl) ?_
                  refine tk_getA hC hK hw hT hinX12 kM_at0 (by decide) rfl 34 (by decide) (List.mem_of_getElem? (i := 2) rfl) rfl rfl dX12_questions_127 ?_
                  refine lv_aload_n hx hb dX12_questions_130 rfl (lv_at hl 0 rfl) ?_
                  refine lv_iload hx hb dX12_questions_131 (lv_at hl 4 rfl) ?_
                  refine lv_iload hx hb dX12_questions_133 (lv_at hl 5 rfl) ?_
                  refine lv_iload hx hb dX12_questions_135 (lv_at hl 6 rfl) ?_
                  refine lv_iconst (v := 1) hx hb dX12_questions_137 (by decide) ?_
                  refine lv_icmp_ne (tgt := 145) hx hb dX12_questions_138 (by decide) (fun _ => ?_) (fun c => absurd (show v93_6.toInt = (1 : Int) from wk_eq.mp c) (by omega))
                  refine lv_iconst (v := 0) hx hb dX12_questions_145 (by decide) ?_
                  refine tk_Vi hC hK hw hT hA hE hSR kM_at0 (by decide) rfl (k_X12_placeAt_3 l adK adV dC dI cy ad B (by omega) (by omega) qr s1   v70_4 (show 0 ≤ v70_4.toInt by omega) (show v70_4.toInt ≤ 120 by omega) v79_5 (show 0 ≤ v79_5.toInt by omega) (show v79_5.toInt ≤ 9 by omega) w91 H.size hT ) (cwV 3 hC.2.2.2.2 gX12_questions_X12_placeAt rfl rfl rfl (by decide +kernel) ⟨Nat.le_of_ble_eq_true rfl, Nat.le_of_ble_eq_true rfl⟩) rfl hl.1 rfl (Nat.le_of_ble_eq_true rfl) dX12_questions_146 (fun r97 w99 H locs hp98 hw => ?_)
                  obtain ⟨rfl, hg103⟩ := hp98
                  obtain ⟨g101, g102⟩ := hg103
                  refine tk_iald hC hK hw hT kM_at17 rfl rfl (show 0 ≤ r97.toInt by omega) (show r97.toInt < 2600 by omega) dX12_questions_149 (fun x104 c105 rx104 tx104 => ?_)
                  refine lv_istore (lv' := [(7, .int x104), (0, .ref (ad 0)), (1, .int a1), (2, .int a2), (3, .int v93_3), (4, .int v70_4), (5, .int v79_5), (6, .int v93_6)]) hx hb dX12_questions_150 hl (by decide) rfl (fun ls hl => ?_)
                  refine lv_iload hx hb dX12_questions_152 (lv_at hl 6 rfl) ?_
                  refine lv_aload_n hx hb dX12_questions_154 rfl (lv_at hl 1 rfl) ?_
                  refine lv_iload_n hx hb dX12_questions_155 rfl (lv_at hl 2 rfl) ?_
                  refine lv_iconst (v := 1) hx hb dX12_questions_156 (by decide) ?_
                  refine tk_Vi hC hK hw hT hA hE hSR kM_at0 (by decide) rfl (k_X12_walkerOf_3 l adK adV dC dI cy ad B (by omega) (by omega) qr s1   a1 (show 0 ≤ a1.toInt by omega) (show a1.toInt ≤ 3 by omega) w91 H.size hT ) (cwV 2 hC.2.2.2.2 gX12_questions_X12_walkerOf rfl rfl rfl (by decide +kernel) ⟨Nat.le_of_ble_eq_true rfl, Nat.le_of_ble_eq_true rfl⟩) rfl hl.1 rfl (Nat.le_of_ble_eq_true rfl) dX12_questions_157 (fun r106 w108 H locs hp107 hw => ?_)
                  obtain ⟨rfl, hg113⟩ := hp107
                  obtain ⟨g110, g111, c112⟩ := hg113
                  refine lv_icmp_ne (tgt := 174) hx hb dX12_questions_160 (by decide) (fun c114 => ?_) (fun c114 => ?_)
                  · have c114 : ¬ v79_5.toInt = r106.toInt := wk_eqF c114
                    exact J174 x104 r106 H locs ls w91 (show 0 ≤ a1.toInt by omega) (show a1.toInt ≤ 3 by omega) (show 0 ≤ a2.toInt by omega) (show a2.toInt ≤ 120 by omega) (show v93_3.toInt ≤ 100000000 by omega) (show 0 ≤ v70_4.toInt by omega) (show v70_4.toInt ≤ 120 by omega) (show 0 ≤ v79_5.toInt by omega) (show v79_5.toInt ≤ 9 by omega) (show 0 ≤ v93_6.toInt by omega) (show v93_6.toInt ≤ 1 by omega) (show 0 ≤ f70_12__9_a1_toInt_216_toNat.toInt by omega) (show f70_12__9_a1_toInt_216_toNat.toInt ≤ 9 by omega) (show 0 ≤ r106.toInt by omega) (show r106.toInt ≤ 9 by omega) (show 1 ≤ f93_12_0.toInt by omega) (show f93_12_0.toInt ≤ 10 by omega) (show 1 ≤ f70_12_5.toInt by omega) (show f70_12_5.toInt ≤ 4 by omega)  hw hT hF c94 c112 c95 c96 (lv_sub hl [1, 2, 3, 4, 5, 6, 7, 0] rfl)
                  · have c114 : v79_5.toInt = r106.toInt := wk_eq.mp c114
                    refine lv_iload hx hb dX12_questions_163 (lv_at hl 0 rfl) ?_
                    refine lv_iload_n hx hb dX12_questions_165 rfl (lv_at hl 4 rfl) ?_
                    refine lv_icmp_ge (tgt := 174) hx hb dX12_questions_166 (by decide) (fun c115 => ?_) (fun c115 => ?_)
                    · have c115 : v93_3.toInt ≤ x104.toInt := wk_le.mp c115
                      exact J174 x104 r106 H locs ls w91 (show 0 ≤ a1.toInt by omega) (show a1.toInt ≤ 3 by omega) (show 0 ≤ a2.toInt by omega) (show a2.toInt ≤ 120 by omega) (show v93_3.toInt ≤ 100000000 by omega) (show 0 ≤ v70_4.toInt by omega) (show v70_4.toInt ≤ 120 by omega) (show 0 ≤ v79_5.toInt by omega) (show v79_5.toInt ≤ 9 by omega) (show 0 ≤ v93_6.toInt by omega) (show v93_6.toInt ≤ 1 by omega) (show 0 ≤ f70_12__9_a1_toInt_216_toNat.toInt by omega) (show f70_12__9_a1_toInt_216_toNat.toInt ≤ 9 by omega) (show 0 ≤ r106.toInt by omega) (show r106.toInt ≤ 9 by omega) (show 1 ≤ f93_12_0.toInt by omega) (show f93_12_0.toInt ≤ 10 by omega) (show 1 ≤ f70_12_5.toInt by omega) (show f70_12_5.toInt ≤ 4 by omega)  hw hT hF c94 c112 c95 c96 (lv_sub hl [1, 2, 3, 4, 5, 6, 7, 0] rfl)
                    · have c115 : x104.toInt < v93_3.toInt := wk_leF c115
                      refine lv_iload hx hb dX12_questions_169 (lv_at hl 0 rfl) ?_
                      refine lv_goto (tgt := 175) hx hb dX12_questions_171 (by decide) ?_
                      refine lv_istore_n (lv' := [(3, .int x104), (7, .int x104), (0, .ref (ad 0)), (1, .int a1), (2, .int a2), (4, .int v70_4), (5, .int v79_5), (6, .int v93_6)]) hx hb dX12_questions_175 rfl hl (by decide) rfl (fun ls hl => ?_)
                      obtain ⟨x116, ex116⟩ : ∃ y : Int32, y = v93_6 + Int32.ofInt 1 := ⟨_, rfl⟩
                      refine lv_iinc (v := x116) (lv' := [(6, .int x116), (3, .int x104), (7, .int x104), (0, .ref (ad 0)), (1, .int a1), (2, .int a2), (4, .int v70_4), (5, .int v79_5)]) hx hb dX12_questions_176 hl (k := 7) rfl ex116.symm (by decide) rfl (fun ls hl => ?_)
                      have ex116 : x116.toInt = v93_6.toInt + 1 := by rw [ex116]; exact wk_add (y := 1) (show -2147483648 ≤ v93_6.toInt + 1 by omega) (show v93_6.toInt + 1 ≤ 2147483647 by omega)
                      refine lv_goto (tgt := 93) hx hb dX12_questions_179 (by decide) ?_
                      exact ih93 x104 x116 f93_12_0 H locs ls w91 (show 0 ≤ a1.toInt by omega) (show a1.toInt ≤ 3 by omega) (show 0 ≤ a2.toInt by omega) (show a2.toInt ≤ 120 by omega) (show x104.toInt ≤ 100000000 by omega) (show 0 ≤ v70_4.toInt by omega) (show v70_4.toInt ≤ 120 by omega) (show 0 ≤ v79_5.toInt by omega) (show v79_5.toInt ≤ 9 by omega) (show 0 ≤ x116.toInt by omega) (show x116.toInt ≤ 2 by omega) (show 0 ≤ f70_12__9_a1_toInt_216_toNat.toInt by omega) (show f70_12__9_a1_toInt_216_toNat.toInt ≤ 9 by omega) (show 1 ≤ f93_12_0.toInt by omega) (show f93_12_0.toInt ≤ 10 by omega) (show 1 ≤ f70_12_5.toInt by omega) (show f70_12_5.toInt ≤ 4 by omega) (show (2 - x116.toInt).toNat < n93 by omega) hw hT hF c94 c95 c96 (lv_sub hl [3, 4, 5, 1, 6, 7, 0] rfl)
                · have c88 : v93_6.toInt = (1 : Int) := wk_eq.mp c88
                  refine lv_iconst (v := 1) hx hb dX12_questions_117 (by decide) ?_
                  refine lv_goto (tgt := 122) hx hb dX12_questions_118 (by decide) ?_
                  refine lv_iload_n hx hb dX12_questions_122 rfl (lv_at hl 2 rfl) ?_
                  refine tk_Vv hC hK hw hT hA hE hSR kM_at0 (by decide) rfl (k_X12_leads_2 l adK adV dC dI cy ad B (by omega) (by omega) qr s1   a1 (show 0 ≤ a1.toInt by omega) (show a1.toInt ≤ 3 by omega) r80 (show 0 ≤ r80.toInt by omega) (show r80.toInt ≤ 1073741824 by omega) v70_4 (show 0 ≤ v70_4.toInt by omega) (show v70_4.toInt ≤ 120 by omega) v79_5 (show 0 ≤ v79_5.toInt by omega) (show v79_5.toInt ≤ 9 by omega) a2 (show 0 ≤ a2.toInt by omega) (show a2.toInt ≤ 120 by omega) w32 H.size hT ) (cwV 6 hC.2.2.2.2 gX12_questions_X12_leads rfl rfl rfl (by decide +kernel) ⟨Nat.le_of_ble_eq_true rfl, Nat.le_of_ble_eq_true rfl⟩) rfl hl.1 rfl (Nat.le_of_ble_eq_true rfl) dX12_questions_123 (fun w119 H locs hp118 hw => ?_)
                  obtain ⟨hT, k120, hg121⟩ := hp118
                  have hF := hF.tr k120 (by decide)
                  have c122 := k120.gi kM_at12 rfl c46
                  have c123 := k120.gi kM_at12 (by decide) c49
                  have c124 := k120.gi kM_at12 (by decide) c52
                  clear hg121
                  refine lv_aload_n hx hb dX12_questions_126 rfl (lv_at hl 0 rfl) ?_
                  refine tk_getA hC hK hw hT hinX12 kM_at0 (by decide) rfl 34 (by decide) (List.mem_of_getElem? (i := 2) rfl) rfl rfl dX12_questions_127 ?_
                  refine lv_aload_n hx hb dX12_questions_130 rfl (lv_at hl 0 rfl) ?_
                  refine lv_iload hx hb dX12_questions_131 (lv_at hl 4 rfl) ?_
                  refine lv_iload hx hb dX12_questions_133 (lv_at hl 5 rfl) ?_
                  refine lv_iload hx hb dX12_questions_135 (lv_at hl 6 rfl) ?_
                  refine lv_iconst (v := 1) hx hb dX12_questions_137 (by decide) ?_
                  refine lv_icmp_ne (tgt := 145) hx hb dX12_questions_138 (by decide) (fun c => (c (wk_eq.mpr (show v93_6.toInt = (1 : Int) by omega))).elim) (fun _ => ?_)
                  refine lv_iconst (v := 1) hx hb dX12_questions_141 (by decide) ?_
                  refine lv_goto (tgt := 146) hx hb dX12_questions_142 (by decide) ?_
                  refine tk_Vi hC hK hw hT hA hE hSR kM_at0 (by decide) rfl (k_X12_placeAt_6 l adK adV dC dI cy ad B (by omega) (by omega) qr s1   v70_4 (show 0 ≤ v70_4.toInt by omega) (show v70_4.toInt ≤ 120 by omega) v79_5 (show 0 ≤ v79_5.toInt by omega) (show v79_5.toInt ≤ 9 by omega) w119 H.size hT ) (cwV 3 hC.2.2.2.2 gX12_questions_X12_placeAt rfl rfl rfl (by decide +kernel) ⟨Nat.le_of_ble_eq_true rfl, Nat.le_of_ble_eq_true rfl⟩) rfl hl.1 rfl (Nat.le_of_ble_eq_true rfl) dX12_questions_146 (fun r125 w127 H locs hp126 hw => ?_)
                  obtain ⟨rfl, hg131⟩ := hp126
                  obtain ⟨g129, g130⟩ := hg131
                  refine tk_iald hC hK hw hT kM_at17 rfl rfl (show 0 ≤ r125.toInt by omega) (show r125.toInt < 2600 by omega) dX12_questions_149 (fun x132 c133 rx132 tx132 => ?_)
                  refine lv_istore (lv' := [(7, .int x132), (0, .ref (ad 0)), (1, .int a1), (2, .int a2), (3, .int v93_3), (4, .int v70_4), (5, .int v79_5), (6, .int v93_6)]) hx hb dX12_questions_150 hl (by decide) rfl (fun ls hl => ?_)
                  refine lv_iload hx hb dX12_questions_152 (lv_at hl 6 rfl) ?_
                  refine lv_aload_n hx hb dX12_questions_154 rfl (lv_at hl 1 rfl) ?_
                  refine lv_iload_n hx hb dX12_questions_155 rfl (lv_at hl 2 rfl) ?_
                  refine lv_iconst (v := 1) hx hb dX12_questions_156 (by decide) ?_
                  refine tk_Vi hC hK hw hT hA hE hSR kM_at0 (by decide) rfl (k_X12_walkerOf_3 l adK adV dC dI cy ad B (by omega) (by omega) qr s1   a1 (show 0 ≤ a1.toInt by omega) (show a1.toInt ≤ 3 by omega) w119 H.size hT ) (cwV 2 hC.2.2.2.2 gX12_questions_X12_walkerOf rfl rfl rfl (by decide +kernel) ⟨Nat.le_of_ble_eq_true rfl, Nat.le_of_ble_eq_true rfl⟩) rfl hl.1 rfl (Nat.le_of_ble_eq_true rfl) dX12_questions_157 (fun r134 w136 H locs hp135 hw => ?_)
                  obtain ⟨rfl, hg141⟩ := hp135
                  obtain ⟨g138, g139, c140⟩ := hg141
                  refine lv_icmp_ne (tgt := 174) hx hb dX12_questions_160 (by decide) (fun c142 => ?_) (fun c142 => ?_)
                  · have c142 : ¬ v79_5.toInt = r134.toInt := wk_eqF c142
                    exact J174 x132 r134 H locs ls w119 (show 0 ≤ a1.toInt by omega) (show a1.toInt ≤ 3 by omega) (show 0 ≤ a2.toInt by omega) (show a2.toInt ≤ 120 by omega) (show v93_3.toInt ≤ 100000000 by omega) (show 0 ≤ v70_4.toInt by omega) (show v70_4.toInt ≤ 120 by omega) (show 0 ≤ v79_5.toInt by omega) (show v79_5.toInt ≤ 9 by omega) (show 0 ≤ v93_6.toInt by omega) (show v93_6.toInt ≤ 1 by omega) (show 0 ≤ f70_12__9_a1_toInt_216_toNat.toInt by omega) (show f70_12__9_a1_toInt_216_toNat.toInt ≤ 9 by omega) (show 0 ≤ r134.toInt by omega) (show r134.toInt ≤ 9 by omega) (show 1 ≤ f93_12_0.toInt by omega) (show f93_12_0.toInt ≤ 10 by omega) (show 1 ≤ f70_12_5.toInt by omega) (show f70_12_5.toInt ≤ 4 by omega)  hw hT hF c122 c140 c123 c124 (lv_sub hl [1, 2, 3, 4, 5, 6, 7, 0] rfl)
                  · have c142 : v79_5.toInt = r134.toInt := wk_eq.mp c142
                    refine lv_iload hx hb dX12_questions_163 (lv_at hl 0 rfl) ?_
                    refine lv_iload_n hx hb dX12_questions_165 rfl (lv_at hl 4 rfl) ?_
                    refine lv_icmp_ge (tgt := 174) hx hb dX12_questions_166 (by decide) (fun c143 => ?_) (fun c143 => ?_)
                    · have c143 : v93_3.toInt ≤ x132.toInt := wk_le.mp c143
                      exact J174 x132 r134 H locs ls w119 (show 0 ≤ a1.toInt by omega) (show a1.toInt ≤ 3 by omega) (show 0 ≤ a2.toInt by omega) (show a2.toInt ≤ 120 by omega) (show v93_3.toInt ≤ 100000000 by omega) (show 0 ≤ v70_4.toInt by omega) (show v70_4.toInt ≤ 120 by omega) (show 0 ≤ v79_5.toInt by omega) (show v79_5.toInt ≤ 9 by omega) (show 0 ≤ v93_6.toInt by omega) (show v93_6.toInt ≤ 1 by omega) (show 0 ≤ f70_12__9_a1_toInt_216_toNat.toInt by omega) (show f70_12__9_a1_toInt_216_toNat.toInt ≤ 9 by omega) (show 0 ≤ r134.toInt by omega) (show r134.toInt ≤ 9 by omega) (show 1 ≤ f93_12_0.toInt by omega) (show f93_12_0.toInt ≤ 10 by omega) (show 1 ≤ f70_12_5.toInt by omega) (show f70_12_5.toInt ≤ 4 by omega)  hw hT hF c122 c140 c123 c124 (lv_sub hl [1, 2, 3, 4, 5, 6, 7, 0] rfl)
                    · have c143 : x132.toInt < v93_3.toInt := wk_leF c143
                      refine lv_iload hx hb dX12_questions_169 (lv_at hl 0 rfl) ?_
                      refine lv_goto (tgt := 175) hx hb dX12_questions_171 (by decide) ?_
                      refine lv_istore_n (lv' := [(3, .int x132), (7, .int x132), (0, .ref (ad 0)), (1, .int a1), (2, .int a2), (4, .int v70_4), (5, .int v79_5), (6, .int v93_6)]) hx hb dX12_questions_175 rfl hl (by decide) rfl (fun ls hl => ?_)
                      obtain ⟨x144, ex144⟩ : ∃ y : Int32, y = v93_6 + Int32.ofInt 1 := ⟨_, rfl⟩
                      refine lv_iinc (v := x144) (lv' := [(6, .int x144), (3, .int x132), (7, .int x132), (0, .ref (ad 0)), (1, .int a1), (2, .int a2), (4, .int v70_4), (5, .int v79_5)]) hx hb dX12_questions_176 hl (k := 7) rfl ex144.symm (by decide) rfl (fun ls hl => ?_)
                      have ex144 : x144.toInt = v93_6.toInt + 1 := by rw [ex144]; exact wk_add (y := 1) (show -2147483648 ≤ v93_6.toInt + 1 by omega) (show v93_6.toInt + 1 ≤ 2147483647 by omega)
                      refine lv_goto (tgt := 93) hx hb dX12_questions_179 (by decide) ?_
                      exact ih93 x132 x144 f93_12_0 H locs ls w119 (show 0 ≤ a1.toInt by omega) (show a1.toInt ≤ 3 by omega) (show 0 ≤ a2.toInt by omega) (show a2.toInt ≤ 120 by omega) (show x132.toInt ≤ 100000000 by omega) (show 0 ≤ v70_4.toInt by omega) (show v70_4.toInt ≤ 120 by omega) (show 0 ≤ v79_5.toInt by omega) (show v79_5.toInt ≤ 9 by omega) (show 0 ≤ x144.toInt by omega) (show x144.toInt ≤ 2 by omega) (show 0 ≤ f70_12__9_a1_toInt_216_toNat.toInt by omega) (show f70_12__9_a1_toInt_216_toNat.toInt ≤ 9 by omega) (show 1 ≤ f93_12_0.toInt by omega) (show f93_12_0.toInt ≤ 10 by omega) (show 1 ≤ f70_12_5.toInt by omega) (show f70_12_5.toInt ≤ 4 by omega) (show (2 - x144.toInt).toNat < n93 by omega) hw hT hF c122 c123 c124 (lv_sub hl [3, 4, 5, 1, 6, 7, 0] rfl)
          refine lv_iload hx hb dX12_questions_79 (lv_at hl 5 rfl) ?_
          refine lv_aload_n hx hb dX12_questions_81 rfl (lv_at hl 0 rfl) ?_
          refine tk_getA hC hK hw hT hinX12 kM_at0 (by decide) rfl 26 (by decide) (List.mem_of_getElem? (i := 4) rfl) rfl rfl dX12_questions_82 ?_
          refine lv_iconst (v := 0) hx hb dX12_questions_85 (by decide) ?_
          refine tk_ialdR hC hK hw hT kM_at12 rfl (by decide) (by decide) dX12_questions_86 (fun x145 c146 Ex145 => ?_)
          have bx145 := tk_rgI rfl 0 1 1 0 10 (by decide +kernel) ⟨0, by decide, by decide⟩ Ex145
          have c146 : gi w16 12 0 = x145 := c146
          refine lv_icmp_ge (tgt := 188) hx hb dX12_questions_87 (by decide) (fun c147 => ?_) (fun c147 => ?_)
          · have c147 : x145.toInt ≤ v79_5.toInt := wk_le.mp c147
            obtain ⟨x148, ex148⟩ : ∃ y : Int32, y = v70_4 + Int32.ofInt 1 := ⟨_, rfl⟩
            refine lv_iinc (v := x148) (lv' := [(4, .int x148), (0, .ref (ad 0)), (1, .int a1), (2, .int a2), (3, .int v79_3), (5, .int v79_5)]) hx hb dX12_questions_188 hl (k := 4) rfl ex148.symm (by decide) rfl (fun ls hl => ?_)
            have ex148 : x148.toInt = v70_4.toInt + 1 := by rw [ex148]; exact wk_add (y := 1) (show -2147483648 ≤ v70_4.toInt + 1 by omega) (show v70_4.toInt + 1 ≤ 2147483647 by omega)
            refine lv_goto (tgt := 70) hx hb dX12_questions_191 (by decide) ?_
            exact ih70 v79_3 x148 f70_12__9_a1_toInt_216_toNat f70_12_5 H locs ls w16 (show 0 ≤ a1.toInt by omega) (show a1.toInt ≤ 3 by omega) (show 0 ≤ a2.toInt by omega) (show a2.toInt ≤ 120 by omega) (show v79_3.toInt ≤ 100000000 by omega) (show 0 ≤ x148.toInt by omega) (show x148.toInt ≤ 121 by omega) (show 0 ≤ f70_12__9_a1_toInt_216_toNat.toInt by omega) (show f70_12__9_a1_toInt_216_toNat.toInt ≤ 9 by omega) (show 1 ≤ f70_12_5.toInt by omega) (show f70_12_5.toInt ≤ 4 by omega) (show (121 - x148.toInt).toNat < n70 by omega) hw hT hF c28 c31 (lv_sub hl [1, 2, 3, 4, 0] rfl)
          · have c147 : v79_5.toInt < x145.toInt := wk_leF c147
            refine lv_iconst (v := 0) hx hb dX12_questions_90 (by decide) ?_
            refine lv_istore (lv' := [(6, .int 0), (0, .ref (ad 0)), (1, .int a1), (2, .int a2), (3, .int v79_3), (4, .int v70_4), (5, .int v79_5)]) hx hb dX12_questions_91 hl (by decide) rfl (fun ls hl => ?_)
            exact L93 ((2 - (0 : Int)).toNat + 1) v79_3 0 x145 H locs ls w16 (show 0 ≤ a1.toInt by omega) (show a1.toInt ≤ 3 by omega) (show 0 ≤ a2.toInt by omega) (show a2.toInt ≤ 120 by omega) (show v79_3.toInt ≤ 100000000 by omega) (show 0 ≤ v70_4.toInt by omega) (show v70_4.toInt ≤ 120 by omega) (show 0 ≤ v79_5.toInt by omega) (show v79_5.toInt ≤ 9 by omega) (by decide) (by decide) (show 0 ≤ f70_12__9_a1_toInt_216_toNat.toInt by omega) (show f70_12__9_a1_toInt_216_toNat.toInt ≤ 9 by omega) (show 1 ≤ x145.toInt by omega) (show x145.toInt ≤ 10 by omega) (show 1 ≤ f70_12_5.toInt by omega) (show f70_12_5.toInt ≤ 4 by omega) (Nat.lt_succ_self _) hw hT hF c28 c146 c31 (lv_sub hl [1, 2, 3, 4, 5, 6, 0] rfl)
      refine lv_iload hx hb dX12_questions_70 (lv_at hl 4 rfl) ?_
      refine lv_iload_n hx hb dX12_questions_72 rfl (lv_at hl 2 rfl) ?_
      refine lv_icmp_gt (tgt := 194) hx hb dX12_questions_73 (by decide) (fun c149 => ?_) (fun c149 => ?_)
      · have c149 : a2.toInt < v70_4.toInt := wk_lt.mp c149
        refine lv_iload_n hx hb dX12_questions_194 rfl (lv_at hl 3 rfl) ?_
        refine lv_ldcw (v := 100000000) hx hb hC.2.2.2.1 (hC.2.2.2.2 _ (List.mem_of_getElem? (i := 3) rfl)) dX12_questions_195 ?_
        refine lv_icmp_ne (tgt := 206) hx hb dX12_questions_198 (by decide) (fun c150 => ?_) (fun c150 => ?_)
        · have c150 : ¬ v70_3.toInt = (100000000 : Int) := wk_eqF c150
          refine lv_iload_n hx hb dX12_questions_206 rfl (lv_at hl 3 rfl) ?_
          exact tk_iret hC hr hlocks hK ⟨hT, hF, (Or.inl ⟨(show v70_3.toInt ≤ 99999999 by omega), (show 0 ≤ a1.toInt by omega), (show a1.toInt ≤ 3 by omega), (show 0 ≤ a2.toInt by omega), (show a2.toInt ≤ 120 by omega), ⟨f70_12_5, c15, (show 1 ≤ f70_12_5.toInt by omega), (show f70_12_5.toInt ≤ 4 by omega)⟩⟩)⟩ hw dX12_questions_207
        · have c150 : v70_3.toInt = (100000000 : Int) := wk_eq.mp c150
          refine lv_bipush (v := (-2)) hx hb dX12_questions_201 (by decide) ?_
          refine lv_goto (tgt := 207) hx hb dX12_questions_203 (by decide) ?_
          exact tk_iret hC hr hlocks hK ⟨hT, hF, (Or.inr (Or.inl ⟨rfl, (show 0 ≤ a1.toInt by omega), (show a1.toInt ≤ 3 by omega), (show 0 ≤ a2.toInt by omega), (show a2.toInt ≤ 120 by omega), ⟨f70_12_5, c15, (show 1 ≤ f70_12_5.toInt by omega), (show f70_12_5.toInt ≤ 4 by omega)⟩⟩))⟩ hw dX12_questions_207
      · have c149 : v70_4.toInt ≤ a2.toInt := wk_ltF c149
        refine lv_iconst (v := 0) hx hb dX12_questions_76 (by decide) ?_
        refine lv_istore (lv' := [(5, .int 0), (0, .ref (ad 0)), (1, .int a1), (2, .int a2), (3, .int v70_3), (4, .int v70_4)]) hx hb dX12_questions_77 hl (by decide) rfl (fun ls hl => ?_)
        exact L79 ((10 - (0 : Int)).toNat + 1) v70_3 0 H locs ls w2 (show 0 ≤ a1.toInt by omega) (show a1.toInt ≤ 3 by omega) (show 0 ≤ a2.toInt by omega) (show a2.toInt ≤ 120 by omega) (show v70_3.toInt ≤ 100000000 by omega) (show 0 ≤ v70_4.toInt by omega) (show v70_4.toInt ≤ 120 by omega) (by decide) (by decide) (show 0 ≤ f70_12__9_a1_toInt_216_toNat.toInt by omega) (show f70_12__9_a1_toInt_216_toNat.toInt ≤ 9 by omega) (show 1 ≤ f70_12_5.toInt by omega) (show f70_12_5.toInt ≤ 4 by omega) (Nat.lt_succ_self _) hw hT hF c12 c15 (lv_sub hl [1, 2, 3, 4, 5, 0] rfl)
  have L24 : ∀ (n24 : Nat) (v24_3 : Int32) (f24_12_5 : Int32) (H : Heap) (locs : List Loc) (ls : Array Slot) (w151 : va_W), 0 ≤ a1.toInt → a1.toInt ≤ 3 → 0 ≤ a2.toInt → a2.toInt ≤ 120 → 0 ≤ v24_3.toInt → v24_3.toInt ≤ 2600 → 1 ≤ f24_12_5.toInt → f24_12_5.toInt ≤ 4 → (2600 - v24_3.toInt).toNat < n24 → Wd dC dI A s.heap H locs w151 → TW ksM ad cy B qr 12 w151 → FE ksM [(72, 0, 12), (73, 0, 10), (76, 0, 2600)] w0 w151 → gi w151 12 5 = f24_12_5 → lv_has ls 8 [(0, .ref (ad 0)), (1, .int a1), (2, .int a2), (3, .int v24_3)] → W p l e ({ frames := 6, cells := 0, slots := 0, locals := 134 }) s m (List.toArray [.ref (ad 0), .int a1, .int a2]) below meth c H locs 0 0 (MQ below (va_Qi (P_X12_questions_1 ad cy B qr s1 a1 a2 w0) (fun u : va_W => wpost dC dI cy A u) A) (List.toArray [.ref (ad 0), .int a1, .int a2]) s 0 0 A) (F0 m 24 ls []) := by
    intro n24
    induction n24 with
    | zero => intro v24_3 f24_12_5 H locs ls w151 r152 t153 r154 t155 r156 t157 r158 t159 hm24 hw hT hF c160 hl; omega
    | succ n24 ih24 =>
      intro v24_3 f24_12_5 H locs ls w151 r152 t153 r154 t155 r156 t157 r158 t159 hm24 hw hT hF c160 hl
      refine lv_iload_n hx hb dX12_questions_24 rfl (lv_at hl 3 rfl) ?_
      refine lv_sipush (v := 2600) hx hb dX12_questions_25 (by decide) ?_
      refine lv_icmp_ge (tgt := 46) hx hb dX12_questions_28 (by decide) (fun c161 => ?_) (fun c161 => ?_)
      · have c161 : (2600 : Int) ≤ v24_3.toInt := wk_le.mp c161
        refine lv_aload_n hx hb dX12_questions_46 rfl (lv_at hl 0 rfl) ?_
        refine lv_iconst (v := 0) hx hb dX12_questions_47 (by decide) ?_
        refine lv_aload_n hx hb dX12_questions_48 rfl (lv_at hl 0 rfl) ?_
        refine lv_iload_n hx hb dX12_questions_49 rfl (lv_at hl 1 rfl) ?_
        refine lv_iconst (v := 0) hx hb dX12_questions_50 (by decide) ?_
        refine tk_Vi hC hK hw hT hA hE hSR kM_at0 (by decide) rfl (k_X12_walkerOf_2 l adK adV dC dI cy ad B (by omega) (by omega) qr s1   a1 (show 0 ≤ a1.toInt by omega) (show a1.toInt ≤ 3 by omega) w151 H.size hT ) (cwV 2 hC.2.2.2.2 gX12_questions_X12_walkerOf rfl rfl rfl (by decide +kernel) ⟨Nat.le_of_ble_eq_true rfl, Nat.le_of_ble_eq_true rfl⟩) rfl hl.1 rfl (Nat.le_of_ble_eq_true rfl) dX12_questions_51 (fun r162 w164 H locs hp163 hw => ?_)
        obtain ⟨rfl, hg169⟩ := hp163
        obtain ⟨g166, g167, c168⟩ := hg169
        refine lv_aload_n hx hb dX12_questions_54 rfl (lv_at hl 0 rfl) ?_
        refine lv_iload_n hx hb dX12_questions_55 rfl (lv_at hl 1 rfl) ?_
        refine tk_Vi hC hK hw hT hA hE hSR kM_at0 (by decide) rfl (k_X12_askedToday_1 l adK adV dC dI cy ad B (by omega) (by omega) qr s1   a1 (show 0 ≤ a1.toInt by omega) (show a1.toInt ≤ 3 by omega) w151 H.size hT ) (cwV 1 hC.2.2.2.2 gX12_questions_X12_askedToday rfl rfl rfl (by decide +kernel) ⟨Nat.le_of_ble_eq_true rfl, Nat.le_of_ble_eq_true rfl⟩) rfl hl.1 rfl (Nat.le_of_ble_eq_true rfl) dX12_questions_56 (fun r170 w172 H locs hp171 hw => ?_)
        obtain ⟨rfl, hg174⟩ := hp171
        rcases hg174 with rfl | rfl
        · refine lv_iconst (v := 0) hx hb dX12_questions_59 (by decide) ?_
          refine tk_Vv hC hK hw hT hA hE hSR kM_at0 (by decide) rfl (k_X12_could_1 l adK adV dC dI cy ad B (by omega) (by omega) qr s1   r162 (show 0 ≤ r162.toInt by omega) (show r162.toInt ≤ 9 by omega) w151 H.size hT ) (cwV 4 hC.2.2.2.2 gX12_questions_X12_could rfl rfl rfl (by decide +kernel) ⟨Nat.le_of_ble_eq_true rfl, Nat.le_of_ble_eq_true rfl⟩) rfl hl.1 rfl (Nat.le_of_ble_eq_true rfl) dX12_questions_60 (fun w177 H locs hp176 hw => ?_)
          obtain ⟨hT, k178, hg179⟩ := hp176
          have hF := hF.tr k178 (by decide)
          have c180 := k178.gi kM_at12 (by decide) c160
          have c181 := k178.gi kM_at12 rfl c168
          clear hg179
          refine lv_ldcw (v := 100000000) hx hb hC.2.2.2.1 (hC.2.2.2.2 _ (List.mem_of_getElem? (i := 3) rfl)) dX12_questions_63 ?_
          refine lv_istore_n (lv' := [(3, .int 100000000), (0, .ref (ad 0)), (1, .int a1), (2, .int a2)]) hx hb dX12_questions_66 rfl hl (by decide) rfl (fun ls hl => ?_)
          refine lv_iconst (v := 0) hx hb dX12_questions_67 (by decide) ?_
          refine lv_istore (lv' := [(4, .int 0), (3, .int 100000000), (0, .ref (ad 0)), (1, .int a1), (2, .int a2)]) hx hb dX12_questions_68 hl (by decide) rfl (fun ls hl => ?_)
          exact L70 ((121 - (0 : Int)).toNat + 1) 100000000 0 r162 f24_12_5 H locs ls w177 (show 0 ≤ a1.toInt by omega) (show a1.toInt ≤ 3 by omega) (show 0 ≤ a2.toInt by omega) (show a2.toInt ≤ 120 by omega) (by decide) (by decide) (by decide) (show 0 ≤ r162.toInt by omega) (show r162.toInt ≤ 9 by omega) (show 1 ≤ f24_12_5.toInt by omega) (show f24_12_5.toInt ≤ 4 by omega) (Nat.lt_succ_self _) hw hT hF c181 c180 (lv_sub hl [2, 3, 4, 1, 0] rfl)
        · refine lv_iconst (v := 0) hx hb dX12_questions_59 (by decide) ?_
          refine tk_Vv hC hK hw hT hA hE hSR kM_at0 (by decide) rfl (k_X12_could_2 l adK adV dC dI cy ad B (by omega) (by omega) qr s1   r162 (show 0 ≤ r162.toInt by omega) (show r162.toInt ≤ 9 by omega) w151 H.size hT ) (cwV 4 hC.2.2.2.2 gX12_questions_X12_could rfl rfl rfl (by decide +kernel) ⟨Nat.le_of_ble_eq_true rfl, Nat.le_of_ble_eq_true rfl⟩) rfl hl.1 rfl (Nat.le_of_ble_eq_true rfl) dX12_questions_60 (fun w184 H locs hp183 hw => ?_)
          obtain ⟨hT, k185, hg186⟩ := hp183
          have hF := hF.tr k185 (by decide)
          have c187 := k185.gi kM_at12 (by decide) c160
          have c188 := k185.gi kM_at12 rfl c168
          clear hg186
          refine lv_ldcw (v := 100000000) hx hb hC.2.2.2.1 (hC.2.2.2.2 _ (List.mem_of_getElem? (i := 3) rfl)) dX12_questions_63 ?_
          refine lv_istore_n (lv' := [(3, .int 100000000), (0, .ref (ad 0)), (1, .int a1), (2, .int a2)]) hx hb dX12_questions_66 rfl hl (by decide) rfl (fun ls hl => ?_)
          refine lv_iconst (v := 0) hx hb dX12_questions_67 (by decide) ?_
          refine lv_istore (lv' := [(4, .int 0), (3, .int 100000000), (0, .ref (ad 0)), (1, .int a1), (2, .int a2)]) hx hb dX12_questions_68 hl (by decide) rfl (fun ls hl => ?_)
          exact L70 ((121 - (0 : Int)).toNat + 1) 100000000 0 r162 f24_12_5 H locs ls w184 (show 0 ≤ a1.toInt by omega) (show a1.toInt ≤ 3 by omega) (show 0 ≤ a2.toInt by omega) (show a2.toInt ≤ 120 by omega) (by decide) (by decide) (by decide) (show 0 ≤ r162.toInt by omega) (show r162.toInt ≤ 9 by omega) (show 1 ≤ f24_12_5.toInt by omega) (show f24_12_5.toInt ≤ 4 by omega) (Nat.lt_succ_self _) hw hT hF c188 c187 (lv_sub hl [2, 3, 4, 1, 0] rfl)
      · have c161 : v24_3.toInt < (2600 : Int) := wk_leF c161
        refine lv_aload_n hx hb dX12_questions_31 rfl (lv_at hl 0 rfl) ?_
        refine tk_getA hC hK hw hT hinX12 kM_at0 (by decide) rfl 34 (by decide) (List.mem_of_getElem? (i := 2) rfl) rfl rfl dX12_questions_32 ?_
        refine lv_iload_n hx hb dX12_questions_35 rfl (lv_at hl 3 rfl) ?_
        refine lv_ldcw (v := 100000000) hx hb hC.2.2.2.1 (hC.2.2.2.2 _ (List.mem_of_getElem? (i := 3) rfl)) dX12_questions_36 ?_
        refine tk_iast hC hK hw hT kM_at17 (by decide) rfl rfl (show 0 ≤ v24_3.toInt by omega) (show v24_3.toInt < 2600 by omega) (by decide) (by decide) dX12_questions_39 (fun H locs w189 hw hT k191 c190 => ?_)
        have hF := hF.put kM_at17 (inE_of (a := 0) (b := 2600) (by decide) (show 0 ≤ v24_3.toInt.toNat by omega) (show v24_3.toInt.toNat ≤ 2600 by omega)) k191
        have c192 := k191.gi (Or.inl (tk_ne kM_at12 kM_at17 (by decide))) c160
        obtain ⟨x193, ex193⟩ : ∃ y : Int32, y = v24_3 + Int32.ofInt 1 := ⟨_, rfl⟩
        refine lv_iinc (v := x193) (lv' := [(3, .int x193), (0, .ref (ad 0)), (1, .int a1), (2, .int a2)]) hx hb dX12_questions_40 hl (k := 3) rfl ex193.symm (by decide) rfl (fun ls hl => ?_)
        have ex193 : x193.toInt = v24_3.toInt + 1 := by rw [ex193]; exact wk_add (y := 1) (show -2147483648 ≤ v24_3.toInt + 1 by omega) (show v24_3.toInt + 1 ≤ 2147483647 by omega)
        refine lv_goto (tgt := 24) hx hb dX12_questions_43 (by decide) ?_
        exact ih24 x193 f24_12_5 H locs ls w189 (show 0 ≤ a1.toInt by omega) (show a1.toInt ≤ 3 by omega) (show 0 ≤ a2.toInt by omega) (show a2.toInt ≤ 120 by omega) (show 0 ≤ x193.toInt by omega) (show x193.toInt ≤ 2600 by omega) (show 1 ≤ f24_12_5.toInt by omega) (show f24_12_5.toInt ≤ 4 by omega) (show (2600 - x193.toInt).toNat < n24 by omega) hw hT hF c192 (lv_sub hl [1, 2, 3, 0] rfl)
  refine lv_aload_n hx hb dX12_questions_0 rfl (lv_at hl 0 rfl) ?_
  refine lv_iload_n hx hb dX12_questions_1 rfl (lv_at hl 1 rfl) ?_
  refine tk_Vi hC hK hw hT hA hE hSR kM_at0 (by decide) rfl (k_X12_isWalker_1 l adK adV dC dI cy ad B (by omega) (by omega) qr s1   a1 w0 s.heap.size hT ) (cwV 1 hC.2.2.2.2 gX12_questions_X12_isWalker rfl rfl rfl (by decide +kernel) ⟨Nat.le_of_ble_eq_true rfl, Nat.le_of_ble_eq_true rfl⟩) rfl hl.1 rfl (Nat.le_of_ble_eq_true rfl) dX12_questions_2 (fun r194 w196 H locs hp195 hw => ?_)
  obtain ⟨rfl, hg202⟩ := hp195
  rcases hg202 with rfl | ⟨rfl, g198, g199, ⟨x200, c201, rx200, tx200⟩⟩
  · refine lv_if_eq (tgt := 20) hx hb dX12_questions_5 (by decide) (fun _ => ?_) (fun c => absurd (by decide) c)
    exact J20  H locs ls w0   hw hT hF  (lv_sub hl [0, 1, 2] rfl)
  · refine lv_if_eq (tgt := 20) hx hb dX12_questions_5 (by decide) (fun c => absurd c (by decide)) (fun _ => ?_)
    refine lv_iload_n hx hb dX12_questions_8 rfl (lv_at hl 2 rfl) ?_
    refine lv_i2l hx hb dX12_questions_9 rfl ?_
    refine lv_topl (fun x203 ex203 => ?_)
    have ex203 : x203.toInt = a2.toInt := by rw [ex203]; exact wk_i2l _
    have bx203 := wk_i32 a2
    refine lv_lconst (v := 0) hx hb dX12_questions_10 (by decide) ?_
    refine lv_ldc2 (v := 120) hx hb hC.2.2.2.1 (hC.2.2.2.2 _ (List.mem_of_getElem? (i := 1) rfl)) dX12_questions_11 ?_
    refine tk_Si hC hK hw hT hA hE hSR (k_X12_in_17 l adK adV dC dI cy ad B (by omega) (by omega) qr s1   x203 (show (-2147483648) ≤ x203.toInt by omega) (show x203.toInt ≤ 2147483647 by omega) w0 H.size hT ) (va_cwS 3 hC.2.2.2.2 gX12_questions_X12_in rfl rfl rfl (by decide +kernel) ⟨Nat.le_of_ble_eq_true rfl, Nat.le_of_ble_eq_true rfl⟩) rfl hl.1 rfl (Nat.le_of_ble_eq_true rfl) dX12_questions_14 (fun r204 w206 H locs hp205 hw => ?_)
    obtain ⟨rfl, hg210⟩ := hp205
    rcases hg210 with rfl | ⟨rfl, g208, g209⟩
    · refine lv_if_ne (tgt := 22) hx hb dX12_questions_17 (by decide) (fun c => absurd (by decide) c) (fun _ => ?_)
      exact J20  H locs ls w0   hw hT hF  (lv_sub hl [0, 1, 2] rfl)
    · refine lv_if_ne (tgt := 22) hx hb dX12_questions_17 (by decide) (fun _ => ?_) (fun c => absurd c (by decide))
      refine lv_iconst (v := 0) hx hb dX12_questions_22 (by decide) ?_
      refine lv_istore_n (lv' := [(3, .int 0), (0, .ref (ad 0)), (1, .int a1), (2, .int a2)]) hx hb dX12_questions_23 rfl hl (by decide) rfl (fun ls hl => ?_)
      exact L24 ((2600 - (0 : Int)).toNat + 1) 0 x200 H locs ls w0 (show 0 ≤ a1.toInt by omega) (show a1.toInt ≤ 3 by omega) (show 0 ≤ a2.toInt by omega) (show a2.toInt ≤ 120 by omega) (by decide) (by decide) (show 1 ≤ x200.toInt by omega) (show x200.toInt ≤ 4 by omega) (Nat.lt_succ_self _) hw hT hF c201 (lv_sub hl [1, 2, 3, 0] rfl)
abbrev P_X12_cheapOf_1 (ad : Nat → Nat) (cy : Nat → ClassId) (B : Int) (qr : Nat) (s1 : Int) (a1 : Int32) (w0 : va_W) : Int32 → va_W → Prop := fun r u => w0 = u ∧ ((0 ≤ r.toInt ∧ r.toInt ≤ 3))
set_option maxHeartbeats 4000000 in
set_option maxRecDepth 100000 in
theorem k_X12_cheapOf_1 (l : Launch) (adK adV : Nat → Nat) (dC : Nat → ClassId) (dI : Nat → Nat → Nat) (cy : Nat → ClassId) (ad : Nat → Nat) (B : Int) (hB0 : 100000 ≤ B) (hB1 : B ≤ 1073741824) (qr : Nat) (s1 : Int)  (a1 : Int32) (ra1 : 0 ≤ a1.toInt) (ta1 : a1.toInt ≤ 11) (w0 : va_W) (sz : Nat) (hT : TW ksM ad cy B qr 12 w0)  : Met l yX12_cheapOf wsX12_cheapOf ({ frames := 2, cells := 0, slots := 0, locals := 34 }) (va_Pc [.ref (ad 0), .int a1] (wpreS adK adV dC dI cy sz w0)) (va_Qi (P_X12_cheapOf_1 ad cy B qr s1 a1 w0) (fun u : va_W => wpost dC dI cy (va_A w0 sz) u) (va_A w0 sz)) 0 0 (va_A w0 sz) := by
  refine Met.ofW (cc := cX12_cheapOf) (maxL := 7) (ret := (some .int)) (by decide) rfl ?_
  intro p e s m args below meth c s₁ Bk hml hv
  obtain ⟨rfl, ⟨hsz, hP, hK, hD0⟩, hE, hSR⟩ := hv
  have hx := Bk.exec
  have hb := Bk.bytes
  have hr := Bk.returns
  have hlocks := Bk.notSynchronized
  have hC : CallFix p m c cX12_cheapOf 7 s _ wsX12_cheapOf RX12 := ⟨hx, hb, hml, findClass_of_methodNamed Bk.named, atoms_spec (ws := wsX12_cheapOf) Bk.pre⟩
  subst hsz
  have hD := hD0.self (sz := s.heap.size)
  generalize hAe : va_A w0 s.heap.size = A at hD hE ⊢
  have hA : ∀ q : Nat, s.heap.size ≤ q → A q := fun q h => by rw [← hAe]; exact Or.inr h
  have hw : Wd dC dI A s.heap s.heap [] w0 := ⟨hP, hD, va_S.rf⟩
  have hF : FE ksM ([] : List (Nat × Nat × Nat)) w0 w0 := FE.rf
  have hl := lv_entry ([.ref (ad 0), .int a1]) (n := 7) (Nat.le_of_ble_eq_true rfl)
  rw [lg_entry_eq]
  generalize (lg_sl ([.ref (ad 0), .int a1]) ++ List.replicate (7 - (lg_sl ([.ref (ad 0), .int a1])).length) Slot.unset).toArray = ls at hl ⊢
  have hl : lv_has ls 7 [(0, .ref (ad 0)), (1, .int a1)] := hl
  generalize hloc : ([] : List Loc) = locs at hw ⊢
  have L7 : ∀ (n7 : Nat) (v7_2 : Int32) (v7_3 : Int32) (v7_4 : Int32) (H : Heap) (locs : List Loc) (ls : Array Slot), 0 ≤ a1.toInt → a1.toInt ≤ 11 → 0 ≤ v7_2.toInt → v7_2.toInt ≤ 3 → (-1) ≤ v7_3.toInt → 0 ≤ v7_4.toInt → v7_4.toInt ≤ 4 → (4 - v7_4.toInt).toNat < n7 → Wd dC dI A s.heap H locs w0 → lv_has ls 7 [(0, .ref (ad 0)), (1, .int a1), (2, .int v7_2), (3, .int v7_3), (4, .int v7_4)] → W p l e ({ frames := 2, cells := 0, slots := 0, locals := 34 }) s m (List.toArray [.ref (ad 0), .int a1]) below meth c H locs 0 0 (MQ below (va_Qi (P_X12_cheapOf_1 ad cy B qr s1 a1 w0) (fun u : va_W => wpost dC dI cy A u) A) (List.toArray [.ref (ad 0), .int a1]) s 0 0 A) (F0 m 7 ls []) := by
    intro n7
    induction n7 with
    | zero => intro v7_2 v7_3 v7_4 H locs ls r1 t2 r3 t4 r5 r6 t7 hm7 hw hl; omega
    | succ n7 ih7 =>
      intro v7_2 v7_3 v7_4 H locs ls r1 t2 r3 t4 r5 r6 t7 hm7 hw hl
      have L19 : ∀ (n19 : Nat) (v19_5 : Int32) (v19_6 : Int32) (H : Heap) (locs : List Loc) (ls : Array Slot), 0 ≤ a1.toInt → a1.toInt ≤ 11 → 0 ≤ v7_2.toInt → v7_2.toInt ≤ 3 → (-1) ≤ v7_3.toInt → 0 ≤ v7_4.toInt → v7_4.toInt ≤ 3 → 0 ≤ v19_6.toInt → v19_6.toInt ≤ 7 → (7 - v19_6.toInt).toNat < n19 → Wd dC dI A s.heap H locs w0 → lv_has ls 7 [(0, .ref (ad 0)), (1, .int a1), (2, .int v7_2), (3, .int v7_3), (4, .int v7_4), (5, .int v19_5), (6, .int v19_6)] → W p l e ({ frames := 2, cells := 0, slots := 0, locals := 34 }) s m (List.toArray [.ref (ad 0), .int a1]) below meth c H locs 0 0 (MQ below (va_Qi (P_X12_cheapOf_1 ad cy B qr s1 a1 w0) (fun u : va_W => wpost dC dI cy A u) A) (List.toArray [.ref (ad 0), .int a1]) s 0 0 A) (F0 m 19 ls []) := by
        intro n19
        induction n19 with
        | zero => intro v19_5 v19_6 H locs ls r8 t9 r10 t11 r12 r13 t14 r15 t16 hm19 hw hl; omega
        | succ n19 ih19 =>
          intro v19_5 v19_6 H locs ls r8 t9 r10 t11 r12 r13 t14 r15 t16 hm19 hw hl
          refine lv_iload hx hb dX12_cheapOf_19 (lv_at hl 6 rfl) ?_
          refine lv_bipush (v := 7) hx hb dX12_cheapOf_21 (by decide) ?_
          refine lv_icmp_ge (tgt := 56) hx hb dX12_cheapOf_23 (by decide) (fun c17 => ?_) (fun c17 => ?_)
          · have c17 : (7 : Int) ≤ v19_6.toInt := wk_le.mp c17
            refine lv_iload hx hb dX12_cheapOf_56 (lv_at hl 5 rfl) ?_
            refine lv_iload_n hx hb dX12_cheapOf_58 rfl (lv_at hl 3 rfl) ?_
            refine lv_icmp_le (tgt := 67) hx hb dX12_cheapOf_59 (by decide) (fun c18 => ?_) (fun c18 => ?_)
            · have c18 : v19_5.toInt ≤ v7_3.toInt := wk_le.mp c18
              refine lv_iload_n hx hb dX12_cheapOf_67 rfl (lv_at hl 2 rfl) ?_
              refine lv_istore_n (lv' := [(2, .int v7_2), (0, .ref (ad 0)), (1, .int a1), (3, .int v7_3), (4, .int v7_4), (5, .int v19_5), (6, .int v19_6)]) hx hb dX12_cheapOf_68 rfl hl (by decide) rfl (fun ls hl => ?_)
              refine lv_iload hx hb dX12_cheapOf_69 (lv_at hl 5 rfl) ?_
              refine lv_iload_n hx hb dX12_cheapOf_71 rfl (lv_at hl 3 rfl) ?_
              refine lv_icmp_le (tgt := 80) hx hb dX12_cheapOf_72 (by decide) (fun c19 => ?_) (fun c19 => ?_)
              · have c19 : v19_5.toInt ≤ v7_3.toInt := wk_le.mp c19
                refine lv_iload_n hx hb dX12_cheapOf_80 rfl (lv_at hl 3 rfl) ?_
                refine lv_istore_n (lv' := [(3, .int v7_3), (2, .int v7_2), (0, .ref (ad 0)), (1, .int a1), (4, .int v7_4), (5, .int v19_5), (6, .int v19_6)]) hx hb dX12_cheapOf_81 rfl hl (by decide) rfl (fun ls hl => ?_)
                obtain ⟨x20, ex20⟩ : ∃ y : Int32, y = v7_4 + Int32.ofInt 1 := ⟨_, rfl⟩
                refine lv_iinc (v := x20) (lv' := [(4, .int x20), (3, .int v7_3), (2, .int v7_2), (0, .ref (ad 0)), (1, .int a1), (5, .int v19_5), (6, .int v19_6)]) hx hb dX12_cheapOf_82 hl (k := 4) rfl ex20.symm (by decide) rfl (fun ls hl => ?_)
                have ex20 : x20.toInt = v7_4.toInt + 1 := by rw [ex20]; exact wk_add (y := 1) (show -2147483648 ≤ v7_4.toInt + 1 by omega) (show v7_4.toInt + 1 ≤ 2147483647 by omega)
                refine lv_goto (tgt := 7) hx hb dX12_cheapOf_85 (by decide) ?_
                exact ih7 v7_2 v7_3 x20 H locs ls  (show 0 ≤ a1.toInt by omega) (show a1.toInt ≤ 11 by omega) (show 0 ≤ v7_2.toInt by omega) (show v7_2.toInt ≤ 3 by omega) (show (-1) ≤ v7_3.toInt by omega) (show 0 ≤ x20.toInt by omega) (show x20.toInt ≤ 4 by omega) (show (4 - x20.toInt).toNat < n7 by omega) hw   (lv_sub hl [3, 4, 2, 1, 0] rfl)
              · have c19 : v7_3.toInt < v19_5.toInt := wk_leF c19
                refine lv_iload hx hb dX12_cheapOf_75 (lv_at hl 5 rfl) ?_
                refine lv_goto (tgt := 81) hx hb dX12_cheapOf_77 (by decide) ?_
                refine lv_istore_n (lv' := [(3, .int v19_5), (2, .int v7_2), (0, .ref (ad 0)), (1, .int a1), (4, .int v7_4), (5, .int v19_5), (6, .int v19_6)]) hx hb dX12_cheapOf_81 rfl hl (by decide) rfl (fun ls hl => ?_)
                obtain ⟨x21, ex21⟩ : ∃ y : Int32, y = v7_4 + Int32.ofInt 1 := ⟨_, rfl⟩
                refine lv_iinc (v := x21) (lv' := [(4, .int x21), (3, .int v19_5), (2, .int v7_2), (0, .ref (ad 0)), (1, .int a1), (5, .int v19_5), (6, .int v19_6)]) hx hb dX12_cheapOf_82 hl (k := 4) rfl ex21.symm (by decide) rfl (fun ls hl => ?_)
                have ex21 : x21.toInt = v7_4.toInt + 1 := by rw [ex21]; exact wk_add (y := 1) (show -2147483648 ≤ v7_4.toInt + 1 by omega) (show v7_4.toInt + 1 ≤ 2147483647 by omega)
                refine lv_goto (tgt := 7) hx hb dX12_cheapOf_85 (by decide) ?_
                exact ih7 v7_2 v19_5 x21 H locs ls  (show 0 ≤ a1.toInt by omega) (show a1.toInt ≤ 11 by omega) (show 0 ≤ v7_2.toInt by omega) (show v7_2.toInt ≤ 3 by omega) (show (-1) ≤ v19_5.toInt by omega) (show 0 ≤ x21.toInt by omega) (show x21.toInt ≤ 4 by omega) (show (4 - x21.toInt).toNat < n7 by omega) hw   (lv_sub hl [3, 4, 2, 1, 0] rfl)
            · have c18 : v7_3.toInt < v19_5.toInt := wk_leF c18
              refine lv_iload hx hb dX12_cheapOf_62 (lv_at hl 4 rfl) ?_
              refine lv_goto (tgt := 68) hx hb dX12_cheapOf_64 (by decide) ?_
              refine lv_istore_n (lv' := [(2, .int v7_4), (0, .ref (ad 0)), (1, .int a1), (3, .int v7_3), (4, .int v7_4), (5, .int v19_5), (6, .int v19_6)]) hx hb dX12_cheapOf_68 rfl hl (by decide) rfl (fun ls hl => ?_)
              refine lv_iload hx hb dX12_cheapOf_69 (lv_at hl 5 rfl) ?_
              refine lv_iload_n hx hb dX12_cheapOf_71 rfl (lv_at hl 3 rfl) ?_
              refine lv_icmp_le (tgt := 80) hx hb dX12_cheapOf_72 (by decide) (fun c22 => ?_) (fun c22 => ?_)
              · have c22 : v19_5.toInt ≤ v7_3.toInt := wk_le.mp c22
                refine lv_iload_n hx hb dX12_cheapOf_80 rfl (lv_at hl 3 rfl) ?_
                refine lv_istore_n (lv' := [(3, .int v7_3), (2, .int v7_4), (0, .ref (ad 0)), (1, .int a1), (4, .int v7_4), (5, .int v19_5), (6, .int v19_6)]) hx hb dX12_cheapOf_81 rfl hl (by decide) rfl (fun ls hl => ?_)
                obtain ⟨x23, ex23⟩ : ∃ y : Int32, y = v7_4 + Int32.ofInt 1 := ⟨_, rfl⟩
                refine lv_iinc (v := x23) (lv' := [(4, .int x23), (3, .int v7_3), (2, .int v7_4), (0, .ref (ad 0)), (1, .int a1), (5, .int v19_5), (6, .int v19_6)]) hx hb dX12_cheapOf_82 hl (k := 4) rfl ex23.symm (by decide) rfl (fun ls hl => ?_)
                have ex23 : x23.toInt = v7_4.toInt + 1 := by rw [ex23]; exact wk_add (y := 1) (show -2147483648 ≤ v7_4.toInt + 1 by omega) (show v7_4.toInt + 1 ≤ 2147483647 by omega)
                refine lv_goto (tgt := 7) hx hb dX12_cheapOf_85 (by decide) ?_
                exact ih7 v7_4 v7_3 x23 H locs ls  (show 0 ≤ a1.toInt by omega) (show a1.toInt ≤ 11 by omega) (show 0 ≤ v7_4.toInt by omega) (show v7_4.toInt ≤ 3 by omega) (show (-1) ≤ v7_3.toInt by omega) (show 0 ≤ x23.toInt by omega) (show x23.toInt ≤ 4 by omega) (show (4 - x23.toInt).toNat < n7 by omega) hw   (lv_sub hl [3, 4, 2, 1, 0] rfl)
              · have c22 : v7_3.toInt < v19_5.toInt := wk_leF c22
                refine lv_iload hx hb dX12_cheapOf_75 (lv_at hl 5 rfl) ?_
                refine lv_goto (tgt := 81) hx hb dX12_cheapOf_77 (by decide) ?_
                refine lv_istore_n (lv' := [(3, .int v19_5), (2, .int v7_4), (0, .ref (ad 0)), (1, .int a1), (4, .int v7_4), (5, .int v19_5), (6, .int v19_6)]) hx hb dX12_cheapOf_81 rfl hl (by decide) rfl (fun ls hl => ?_)
                obtain ⟨x24, ex24⟩ : ∃ y : Int32, y = v7_4 + Int32.ofInt 1 := ⟨_, rfl⟩
                refine lv_iinc (v := x24) (lv' := [(4, .int x24), (3, .int v19_5), (2, .int v7_4), (0, .ref (ad 0)), (1, .int a1), (5, .int v19_5), (6, .int v19_6)]) hx hb dX12_cheapOf_82 hl (k := 4) rfl ex24.symm (by decide) rfl (fun ls hl => ?_)
                have ex24 : x24.toInt = v7_4.toInt + 1 := by rw [ex24]; exact wk_add (y := 1) (show -2147483648 ≤ v7_4.toInt + 1 by omega) (show v7_4.toInt + 1 ≤ 2147483647 by omega)
                refine lv_goto (tgt := 7) hx hb dX12_cheapOf_85 (by decide) ?_
                exact ih7 v7_4 v19_5 x24 H locs ls  (show 0 ≤ a1.toInt by omega) (show a1.toInt ≤ 11 by omega) (show 0 ≤ v7_4.toInt by omega) (show v7_4.toInt ≤ 3 by omega) (show (-1) ≤ v19_5.toInt by omega) (show 0 ≤ x24.toInt by omega) (show x24.toInt ≤ 4 by omega) (show (4 - x24.toInt).toNat < n7 by omega) hw   (lv_sub hl [3, 4, 2, 1, 0] rfl)
          · have c17 : v19_6.toInt < (7 : Int) := wk_leF c17
            refine lv_iload hx hb dX12_cheapOf_26 (lv_at hl 5 rfl) ?_
            refine lv_aload_n hx hb dX12_cheapOf_28 rfl (lv_at hl 0 rfl) ?_
            refine lv_iload_n hx hb dX12_cheapOf_29 rfl (lv_at hl 1 rfl) ?_
            refine lv_iconst (v := 3) hx hb dX12_cheapOf_30 (by decide) ?_
            refine lv_iload hx hb dX12_cheapOf_31 (lv_at hl 6 rfl) ?_
            refine lv_iadd hx hb dX12_cheapOf_33 ?_
            refine lv_topi (fun x25 ex25 => ?_)
            have ex25 : x25.toInt = (3 : Int) + v19_6.toInt := by rw [ex25]; exact wk_add (show (-2147483648) ≤ (3 : Int) + v19_6.toInt by omega) (show (3 : Int) + v19_6.toInt ≤ 2147483647 by omega)
            refine tk_Vi hC hK hw hT hA hE hSR kM_at0 (by decide) rfl (k_X12_streetOf_4 l adK adV dC dI cy ad B (by omega) (by omega) qr s1   a1 (show 0 ≤ a1.toInt by omega) (show a1.toInt ≤ 11 by omega) x25 (show 3 ≤ x25.toInt by omega) (show x25.toInt ≤ 9 by omega) w0 H.size hT ) (cwV 2 hC.2.2.2.2 gX12_cheapOf_X12_streetOf rfl rfl rfl (by decide +kernel) ⟨Nat.le_of_ble_eq_true rfl, Nat.le_of_ble_eq_true rfl⟩) rfl hl.1 rfl (Nat.le_of_ble_eq_true rfl) dX12_cheapOf_34 (fun r26 w28 H locs hp27 hw => ?_)
            obtain ⟨rfl, hg33⟩ := hp27
            obtain ⟨g30, g31, c32⟩ := hg33
            refine lv_iload hx hb dX12_cheapOf_37 (lv_at hl 4 rfl) ?_
            refine lv_icmp_ne (tgt := 46) hx hb dX12_cheapOf_39 (by decide) (fun c34 => ?_) (fun c34 => ?_)
            · have c34 : ¬ r26.toInt = v7_4.toInt := wk_eqF c34
              refine lv_iconst (v := 0) hx hb dX12_cheapOf_46 (by decide) ?_
              refine lv_iadd hx hb dX12_cheapOf_47 ?_
              have nx35 := wk_i32 v19_5
              refine lv_topi (fun x36 ex36 => ?_)
              have ex36 : x36.toInt = v19_5.toInt + (0 : Int) := by rw [ex36]; exact wk_add (show (-2147483648) ≤ v19_5.toInt + (0 : Int) by omega) (show v19_5.toInt + (0 : Int) ≤ 2147483647 by omega)
              refine lv_istore (lv' := [(5, .int x36), (0, .ref (ad 0)), (1, .int a1), (2, .int v7_2), (3, .int v7_3), (4, .int v7_4), (6, .int v19_6)]) hx hb dX12_cheapOf_48 hl (by decide) rfl (fun ls hl => ?_)
              obtain ⟨x37, ex37⟩ : ∃ y : Int32, y = v19_6 + Int32.ofInt 1 := ⟨_, rfl⟩
              refine lv_iinc (v := x37) (lv' := [(6, .int x37), (5, .int x36), (0, .ref (ad 0)), (1, .int a1), (2, .int v7_2), (3, .int v7_3), (4, .int v7_4)]) hx hb dX12_cheapOf_50 hl (k := 6) rfl ex37.symm (by decide) rfl (fun ls hl => ?_)
              have ex37 : x37.toInt = v19_6.toInt + 1 := by rw [ex37]; exact wk_add (y := 1) (show -2147483648 ≤ v19_6.toInt + 1 by omega) (show v19_6.toInt + 1 ≤ 2147483647 by omega)
              refine lv_goto (tgt := 19) hx hb dX12_cheapOf_53 (by decide) ?_
              exact ih19 x36 x37 H locs ls  (show 0 ≤ a1.toInt by omega) (show a1.toInt ≤ 11 by omega) (show 0 ≤ v7_2.toInt by omega) (show v7_2.toInt ≤ 3 by omega) (show (-1) ≤ v7_3.toInt by omega) (show 0 ≤ v7_4.toInt by omega) (show v7_4.toInt ≤ 3 by omega) (show 0 ≤ x37.toInt by omega) (show x37.toInt ≤ 7 by omega) (show (7 - x37.toInt).toNat < n19 by omega) hw   (lv_sub hl [2, 3, 4, 5, 6, 1, 0] rfl)
            · have c34 : r26.toInt = v7_4.toInt := wk_eq.mp c34
              refine lv_iconst (v := 1) hx hb dX12_cheapOf_42 (by decide) ?_
              refine lv_goto (tgt := 47) hx hb dX12_cheapOf_43 (by decide) ?_
              refine lv_iadd hx hb dX12_cheapOf_47 ?_
              have nx38 := wk_i32 v19_5
              refine lv_topi (fun x39 ex39 => ?_)
              refine lv_istore (lv' := [(5, .int x39), (0, .ref (ad 0)), (1, .int a1), (2, .int v7_2), (3, .int v7_3), (4, .int v7_4), (6, .int v19_6)]) hx hb dX12_cheapOf_48 hl (by decide) rfl (fun ls hl => ?_)
              obtain ⟨x40, ex40⟩ : ∃ y : Int32, y = v19_6 + Int32.ofInt 1 := ⟨_, rfl⟩
              refine lv_iinc (v := x40) (lv' := [(6, .int x40), (5, .int x39), (0, .ref (ad 0)), (1, .int a1), (2, .int v7_2), (3, .int v7_3), (4, .int v7_4)]) hx hb dX12_cheapOf_50 hl (k := 6) rfl ex40.symm (by decide) rfl (fun ls hl => ?_)
              have ex40 : x40.toInt = v19_6.toInt + 1 := by rw [ex40]; exact wk_add (y := 1) (show -2147483648 ≤ v19_6.toInt + 1 by omega) (show v19_6.toInt + 1 ≤ 2147483647 by omega)
              refine lv_goto (tgt := 19) hx hb dX12_cheapOf_53 (by decide) ?_
              exact ih19 x39 x40 H locs ls  (show 0 ≤ a1.toInt by omega) (show a1.toInt ≤ 11 by omega) (show 0 ≤ v7_2.toInt by omega) (show v7_2.toInt ≤ 3 by omega) (show (-1) ≤ v7_3.toInt by omega) (show 0 ≤ v7_4.toInt by omega) (show v7_4.toInt ≤ 3 by omega) (show 0 ≤ x40.toInt by omega) (show x40.toInt ≤ 7 by omega) (show (7 - x40.toInt).toNat < n19 by omega) hw   (lv_sub hl [2, 3, 4, 5, 6, 1, 0] rfl)
      refine lv_iload hx hb dX12_cheapOf_7 (lv_at hl 4 rfl) ?_
      refine lv_iconst (v := 4) hx hb dX12_cheapOf_9 (by decide) ?_
      refine lv_icmp_ge (tgt := 88) hx hb dX12_cheapOf_10 (by decide) (fun c41 => ?_) (fun c41 => ?_)
      · have c41 : (4 : Int) ≤ v7_4.toInt := wk_le.mp c41
        refine lv_iload_n hx hb dX12_cheapOf_88 rfl (lv_at hl 2 rfl) ?_
        exact tk_iret hC hr hlocks hK ⟨rfl, ⟨(show 0 ≤ v7_2.toInt by omega), (show v7_2.toInt ≤ 3 by omega)⟩⟩ hw dX12_cheapOf_89
      · have c41 : v7_4.toInt < (4 : Int) := wk_leF c41
        refine lv_iconst (v := 0) hx hb dX12_cheapOf_13 (by decide) ?_
        refine lv_istore (lv' := [(5, .int 0), (0, .ref (ad 0)), (1, .int a1), (2, .int v7_2), (3, .int v7_3), (4, .int v7_4)]) hx hb dX12_cheapOf_14 hl (by decide) rfl (fun ls hl => ?_)
        refine lv_iconst (v := 0) hx hb dX12_cheapOf_16 (by decide) ?_
        refine lv_istore (lv' := [(6, .int 0), (5, .int 0), (0, .ref (ad 0)), (1, .int a1), (2, .int v7_2), (3, .int v7_3), (4, .int v7_4)]) hx hb dX12_cheapOf_17 hl (by decide) rfl (fun ls hl => ?_)
        exact L19 ((7 - (0 : Int)).toNat + 1) 0 0 H locs ls  (show 0 ≤ a1.toInt by omega) (show a1.toInt ≤ 11 by omega) (show 0 ≤ v7_2.toInt by omega) (show v7_2.toInt ≤ 3 by omega) (show (-1) ≤ v7_3.toInt by omega) (show 0 ≤ v7_4.toInt by omega) (show v7_4.toInt ≤ 3 by omega) (by decide) (by decide) (Nat.lt_succ_self _) hw   (lv_sub hl [2, 3, 4, 5, 6, 1, 0] rfl)
  refine lv_iconst (v := 0) hx hb dX12_cheapOf_0 (by decide) ?_
  refine lv_istore_n (lv' := [(2, .int 0), (0, .ref (ad 0)), (1, .int a1)]) hx hb dX12_cheapOf_1 rfl hl (by decide) rfl (fun ls hl => ?_)
  refine lv_iconst (v := (-1)) hx hb dX12_cheapOf_2 (by decide) ?_
  refine lv_istore_n (lv' := [(3, .int (-1)), (2, .int 0), (0, .ref (ad 0)), (1, .int a1)]) hx hb dX12_cheapOf_3 rfl hl (by decide) rfl (fun ls hl => ?_)
  refine lv_iconst (v := 0) hx hb dX12_cheapOf_4 (by decide) ?_
  refine lv_istore (lv' := [(4, .int 0), (3, .int (-1)), (2, .int 0), (0, .ref (ad 0)), (1, .int a1)]) hx hb dX12_cheapOf_5 hl (by decide) rfl (fun ls hl => ?_)
  exact L7 ((4 - (0 : Int)).toNat + 1) 0 (-1) 0 s.heap locs ls  (show 0 ≤ a1.toInt by omega) (show a1.toInt ≤ 11 by omega) (by decide) (by decide) (by decide) (by decide) (by decide) (Nat.lt_succ_self _) hw   (lv_sub hl [3, 4, 2, 1, 0] rfl)
abbrev P_X12_cheap_1 (ad : Nat → Nat) (cy : Nat → ClassId) (B : Int) (qr : Nat) (s1 : Int) (a1 : Int32) (w0 : va_W) : Int32 → va_W → Prop := fun r u => w0 = u ∧ ((0 ≤ r.toInt ∧ r.toInt ≤ 3 ∧ 0 ≤ a1.toInt ∧ a1.toInt ≤ 11 ∧ (∃ y : Int32, gi u 12 1 = y ∧ 1 ≤ y.toInt ∧ y.toInt ≤ 12)) ∨ (r = (-1)))
set_option maxHeartbeats 4000000 in
set_option maxRecDepth 100000 in
theorem k_X12_cheap_1 (l : Launch) (adK adV : Nat → Nat) (dC : Nat → ClassId) (dI : Nat → Nat → Nat) (cy : Nat → ClassId) (ad : Nat → Nat) (B : Int) (hB0 : 100000 ≤ B) (hB1 : B ≤ 1073741824) (qr : Nat) (s1 : Int)  (a1 : Int32) (w0 : va_W) (sz : Nat) (hT : TW ksM ad cy B qr 12 w0)  : Met l yX12_cheap wsX12_cheap ({ frames := 3, cells := 0, slots := 0, locals := 60 }) (va_Pc [.ref (ad 0), .int a1] (wpreS adK adV dC dI cy sz w0)) (va_Qi (P_X12_cheap_1 ad cy B qr s1 a1 w0) (fun u : va_W => wpost dC dI cy (va_A w0 sz) u) (va_A w0 sz)) 0 0 (va_A w0 sz) := by
  refine Met.ofW (cc := cX12_cheap) (maxL := 2) (ret := (some .int)) (by decide) rfl ?_
  intro p e s m args below meth c s₁ Bk hml hv
  obtain ⟨rfl, ⟨hsz, hP, hK, hD0⟩, hE, hSR⟩ := hv
  have hx := Bk.exec
  have hb := Bk.bytes
  have hr := Bk.returns
  have hlocks := Bk.notSynchronized
  have hC : CallFix p m c cX12_cheap 2 s _ wsX12_cheap RX12 := ⟨hx, hb, hml, findClass_of_methodNamed Bk.named, atoms_spec (ws := wsX12_cheap) Bk.pre⟩
  subst hsz
  have hD := hD0.self (sz := s.heap.size)
  generalize hAe : va_A w0 s.heap.size = A at hD hE ⊢
  have hA : ∀ q : Nat, s.heap.size ≤ q → A q := fun q h => by rw [← hAe]; exact Or.inr h
  have hw : Wd dC dI A s.heap s.heap [] w0 := ⟨hP, hD, va_S.rf⟩
  have hF : FE ksM ([] : List (Nat × Nat × Nat)) w0 w0 := FE.rf
  have hl := lv_entry ([.ref (ad 0), .int a1]) (n := 2) (Nat.le_of_ble_eq_true rfl)
  rw [lg_entry_eq]
  generalize (lg_sl ([.ref (ad 0), .int a1]) ++ List.replicate (2 - (lg_sl ([.ref (ad 0), .int a1])).length) Slot.unset).toArray = ls at hl ⊢
  have hl : lv_has ls 2 [(0, .ref (ad 0)), (1, .int a1)] := hl
  generalize hloc : ([] : List Loc) = locs at hw ⊢
  refine lv_aload_n hx hb dX12_cheap_0 rfl (lv_at hl 0 rfl) ?_
  refine lv_iload_n hx hb dX12_cheap_1 rfl (lv_at hl 1 rfl) ?_
  refine tk_Vi hC hK hw hT hA hE hSR kM_at0 (by decide) rfl (k_X12_isStreet_1 l adK adV dC dI cy ad B (by omega) (by omega) qr s1   a1 w0 s.heap.size hT ) (cwV 1 hC.2.2.2.2 gX12_cheap_X12_isStreet rfl rfl rfl (by decide +kernel) ⟨Nat.le_of_ble_eq_true rfl, Nat.le_of_ble_eq_true rfl⟩) rfl hl.1 rfl (Nat.le_of_ble_eq_true rfl) dX12_cheap_2 (fun r1 w3 H locs hp2 hw => ?_)
  obtain ⟨rfl, hg9⟩ := hp2
  rcases hg9 with rfl | ⟨rfl, g5, g6, ⟨x7, c8, rx7, tx7⟩⟩
  · refine lv_if_eq (tgt := 16) hx hb dX12_cheap_5 (by decide) (fun _ => ?_) (fun c => absurd (by decide) c)
    refine lv_iconst (v := (-1)) hx hb dX12_cheap_16 (by decide) ?_
    exact tk_iret hC hr hlocks hK ⟨rfl, (Or.inr rfl)⟩ hw dX12_cheap_17
  · refine lv_if_eq (tgt := 16) hx hb dX12_cheap_5 (by decide) (fun c => absurd c (by decide)) (fun _ => ?_)
    refine lv_aload_n hx hb dX12_cheap_8 rfl (lv_at hl 0 rfl) ?_
    refine lv_iload_n hx hb dX12_cheap_9 rfl (lv_at hl 1 rfl) ?_
    refine tk_Vi hC hK hw hT hA hE hSR kM_at0 (by decide) rfl (k_X12_cheapOf_1 l adK adV dC dI cy ad B (by omega) (by omega) qr s1   a1 (show 0 ≤ a1.toInt by omega) (show a1.toInt ≤ 11 by omega) w0 H.size hT ) (cwV 1 hC.2.2.2.2 gX12_cheap_X12_cheapOf rfl rfl rfl (by decide +kernel) ⟨Nat.le_of_ble_eq_true rfl, Nat.le_of_ble_eq_true rfl⟩) rfl hl.1 rfl (Nat.le_of_ble_eq_true rfl) dX12_cheap_10 (fun r10 w12 H locs hp11 hw => ?_)
    obtain ⟨rfl, hg16⟩ := hp11
    obtain ⟨g14, g15⟩ := hg16
    refine lv_goto (tgt := 17) hx hb dX12_cheap_13 (by decide) ?_
    exact tk_iret hC hr hlocks hK ⟨rfl, (Or.inl ⟨(show 0 ≤ r10.toInt by omega), (show r10.toInt ≤ 3 by omega), (show 0 ≤ a1.toInt by omega), (show a1.toInt ≤ 11 by omega), ⟨x7, c8, (show 1 ≤ x7.toInt by omega), (show x7.toInt ≤ 12 by omega)⟩⟩)⟩ hw dX12_cheap_17
abbrev P_X12_wrong_1 (ad : Nat → Nat) (cy : Nat → ClassId) (B : Int) (qr : Nat) (s1 : Int) (a1 : Int32) (w0 : va_W) : Int32 → va_W → Prop := fun r u => w0 = u ∧ ((0 ≤ a1.toInt ∧ a1.toInt ≤ 7 ∧ (∃ y : Int32, gi u 12 0 = y ∧ 1 ≤ y.toInt ∧ y.toInt ≤ 10)) ∨ (r = (-1)))
set_option maxHeartbeats 4000000 in
set_option maxRecDepth 100000 in
theorem k_X12_wrong_1 (l : Launch) (adK adV : Nat → Nat) (dC : Nat → ClassId) (dI : Nat → Nat → Nat) (cy : Nat → ClassId) (ad : Nat → Nat) (B : Int) (hB0 : 100000 ≤ B) (hB1 : B ≤ 1073741824) (qr : Nat) (s1 : Int)  (a1 : Int32) (w0 : va_W) (sz : Nat) (hT : TW ksM ad cy B qr 12 w0)  : Met l yX12_wrong wsX12_wrong ({ frames := 3, cells := 0, slots := 0, locals := 60 }) (va_Pc [.ref (ad 0), .int a1] (wpreS adK adV dC dI cy sz w0)) (va_Qi (P_X12_wrong_1 ad cy B qr s1 a1 w0) (fun u : va_W => wpost dC dI cy (va_A w0 sz) u) (va_A w0 sz)) 0 0 (va_A w0 sz) := by
  refine Met.ofW (cc := cX12_wrong) (maxL := 5) (ret := (some .int)) (by decide) rfl ?_
  intro p e s m args below meth c s₁ Bk hml hv
  obtain ⟨rfl, ⟨hsz, hP, hK, hD0⟩, hE, hSR⟩ := hv
  have hx := Bk.exec
  have hb := Bk.bytes
  have hr := Bk.returns
  have hlocks := Bk.notSynchronized
  have hC : CallFix p m c cX12_wrong 5 s _ wsX12_wrong RX12 := ⟨hx, hb, hml, findClass_of_methodNamed Bk.named, atoms_spec (ws := wsX12_wrong) Bk.pre⟩
  subst hsz
  have hD := hD0.self (sz := s.heap.size)
  generalize hAe : va_A w0 s.heap.size = A at hD hE ⊢
  have hA : ∀ q : Nat, s.heap.size ≤ q → A q := fun q h => by rw [← hAe]; exact Or.inr h
  have hw : Wd dC dI A s.heap s.heap [] w0 := ⟨hP, hD, va_S.rf⟩
  have hF : FE ksM ([] : List (Nat × Nat × Nat)) w0 w0 := FE.rf
  have hl := lv_entry ([.ref (ad 0), .int a1]) (n := 5) (Nat.le_of_ble_eq_true rfl)
  rw [lg_entry_eq]
  generalize (lg_sl ([.ref (ad 0), .int a1]) ++ List.replicate (5 - (lg_sl ([.ref (ad 0), .int a1])).length) Slot.unset).toArray = ls at hl ⊢
  have hl : lv_has ls 5 [(0, .ref (ad 0)), (1, .int a1)] := hl
  generalize hloc : ([] : List Loc) = locs at hw ⊢
  have hinX12 : ∀ w ∈ u_ws RX12 TX12 42, w ∈ wsX12_wrong := fun _ h => List.mem_cons_of_mem _ (List.mem_append_right _ (h))
  have J19 : ∀ (f19_12_0 : Int32) (H : Heap) (locs : List Loc) (ls : Array Slot), 0 ≤ f19_12_0.toInt → f19_12_0.toInt ≤ 10 → Wd dC dI A s.heap H locs w0 → gi w0 12 0 = f19_12_0 → lv_has ls 5 [(0, .ref (ad 0)), (1, .int a1)] → W p l e ({ frames := 3, cells := 0, slots := 0, locals := 60 }) s m (List.toArray [.ref (ad 0), .int a1]) below meth c H locs 0 0 (MQ below (va_Qi (P_X12_wrong_1 ad cy B qr s1 a1 w0) (fun u : va_W => wpost dC dI cy A u) A) (List.toArray [.ref (ad 0), .int a1]) s 0 0 A) (F0 m 19 ls []) := by
    intro f19_12_0 H locs ls r1 t2 hw c3 hl
    refine lv_iconst (v := (-1)) hx hb dX12_wrong_19 (by decide) ?_
    exact tk_iret hC hr hlocks hK ⟨rfl, (Or.inr rfl)⟩ hw dX12_wrong_20
  have L25 : ∀ (n25 : Nat) (v25_2 : Int32) (v25_3 : Int32) (f25_12_0 : Int32) (H : Heap) (locs : List Loc) (ls : Array Slot), 0 ≤ a1.toInt → a1.toInt ≤ 7 → 0 ≤ v25_3.toInt → v25_3.toInt ≤ 12 → 1 ≤ f25_12_0.toInt → f25_12_0.toInt ≤ 10 → (12 - v25_3.toInt).toNat < n25 → Wd dC dI A s.heap H locs w0 → gi w0 12 0 = f25_12_0 → lv_has ls 5 [(0, .ref (ad 0)), (1, .int a1), (2, .int v25_2), (3, .int v25_3)] → W p l e ({ frames := 3, cells := 0, slots := 0, locals := 60 }) s m (List.toArray [.ref (ad 0), .int a1]) below meth c H locs 0 0 (MQ below (va_Qi (P_X12_wrong_1 ad cy B qr s1 a1 w0) (fun u : va_W => wpost dC dI cy A u) A) (List.toArray [.ref (ad 0), .int a1]) s 0 0 A) (F0 m 25 ls []) := by
    intro n25
    induction n25 with
    | zero => intro v25_2 v25_3 f25_12_0 H locs ls r4 t5 r6 t7 r8 t9 hm25 hw c10 hl; omega
    | succ n25 ih25 =>
      intro v25_2 v25_3 f25_12_0 H locs ls r4 t5 r6 t7 r8 t9 hm25 hw c10 hl
      have L38 : ∀ (n38 : Nat) (v38_2 : Int32) (v38_4 : Int32) (f38_12_1 : Int32) (H : Heap) (locs : List Loc) (ls : Array Slot), 0 ≤ a1.toInt → a1.toInt ≤ 7 → 0 ≤ v25_3.toInt → v25_3.toInt ≤ 11 → 0 ≤ v38_4.toInt → v38_4.toInt ≤ 7 → 1 ≤ f25_12_0.toInt → f25_12_0.toInt ≤ 10 → 1 ≤ f38_12_1.toInt → f38_12_1.toInt ≤ 12 → (7 - v38_4.toInt).toNat < n38 → Wd dC dI A s.heap H locs w0 → gi w0 12 0 = f25_12_0 → gi w0 12 1 = f38_12_1 → lv_has ls 5 [(0, .ref (ad 0)), (1, .int a1), (2, .int v38_2), (3, .int v25_3), (4, .int v38_4)] → W p l e ({ frames := 3, cells := 0, slots := 0, locals := 60 }) s m (List.toArray [.ref (ad 0), .int a1]) below meth c H locs 0 0 (MQ below (va_Qi (P_X12_wrong_1 ad cy B qr s1 a1 w0) (fun u : va_W => wpost dC dI cy A u) A) (List.toArray [.ref (ad 0), .int a1]) s 0 0 A) (F0 m 38 ls []) := by
        intro n38
        induction n38 with
        | zero => intro v38_2 v38_4 f38_12_1 H locs ls r11 t12 r13 t14 r15 t16 r17 t18 r20 t21 hm38 hw c19 c22 hl; omega
        | succ n38 ih38 =>
          intro v38_2 v38_4 f38_12_1 H locs ls r11 t12 r13 t14 r15 t16 r17 t18 r20 t21 hm38 hw c19 c22 hl
          refine lv_iload hx hb dX12_wrong_38 (lv_at hl 4 rfl) ?_
          refine lv_bipush (v := 7) hx hb dX12_wrong_40 (by decide) ?_
          refine lv_icmp_ge (tgt := 88) hx hb dX12_wrong_42 (by decide) (fun c23 => ?_) (fun c23 => ?_)
          · have c23 : (7 : Int) ≤ v38_4.toInt := wk_le.mp c23
            obtain ⟨x24, ex24⟩ : ∃ y : Int32, y = v25_3 + Int32.ofInt 1 := ⟨_, rfl⟩
            refine lv_iinc (v := x24) (lv' := [(3, .int x24), (0, .ref (ad 0)), (1, .int a1), (2, .int v38_2), (4, .int v38_4)]) hx hb dX12_wrong_88 hl (k := 3) rfl ex24.symm (by decide) rfl (fun ls hl => ?_)
            have ex24 : x24.toInt = v25_3.toInt + 1 := by rw [ex24]; exact wk_add (y := 1) (show -2147483648 ≤ v25_3.toInt + 1 by omega) (show v25_3.toInt + 1 ≤ 2147483647 by omega)
            refine lv_goto (tgt := 25) hx hb dX12_wrong_91 (by decide) ?_
            exact ih25 v38_2 x24 f25_12_0 H locs ls  (show 0 ≤ a1.toInt by omega) (show a1.toInt ≤ 7 by omega) (show 0 ≤ x24.toInt by omega) (show x24.toInt ≤ 12 by omega) (show 1 ≤ f25_12_0.toInt by omega) (show f25_12_0.toInt ≤ 10 by omega) (show (12 - x24.toInt).toNat < n25 by omega) hw  c19 (lv_sub hl [1, 2, 3, 0] rfl)
          · have c23 : v38_4.toInt < (7 : Int) := wk_leF c23
            refine lv_iload_n hx hb dX12_wrong_45 rfl (lv_at hl 2 rfl) ?_
            refine lv_iload_n hx hb dX12_wrong_46 rfl (lv_at hl 1 rfl) ?_
            refine lv_bipush (v := 7) hx hb dX12_wrong_47 (by decide) ?_
            refine lv_icmp_eq (tgt := 58) hx hb dX12_wrong_49 (by decide) (fun c25 => ?_) (fun c25 => ?_)
            · have c25 : a1.toInt = (7 : Int) := wk_eq.mp c25
              refine lv_aload_n hx hb dX12_wrong_58 rfl (lv_at hl 0 rfl) ?_
              refine lv_iload_n hx hb dX12_wrong_59 rfl (lv_at hl 3 rfl) ?_
              refine lv_iconst (v := 3) hx hb dX12_wrong_60 (by decide) ?_
              refine lv_iload hx hb dX12_wrong_61 (lv_at hl 4 rfl) ?_
              refine lv_iadd hx hb dX12_wrong_63 ?_
              refine lv_topi (fun x26 ex26 => ?_)
              have ex26 : x26.toInt = (3 : Int) + v38_4.toInt := by rw [ex26]; exact wk_add (show (-2147483648) ≤ (3 : Int) + v38_4.toInt by omega) (show (3 : Int) + v38_4.toInt ≤ 2147483647 by omega)
              refine tk_Vi hC hK hw hT hA hE hSR kM_at0 (by decide) rfl (k_X12_streetOf_4 l adK adV dC dI cy ad B (by omega) (by omega) qr s1   v25_3 (show 0 ≤ v25_3.toInt by omega) (show v25_3.toInt ≤ 11 by omega) x26 (show 3 ≤ x26.toInt by omega) (show x26.toInt ≤ 9 by omega) w0 H.size hT ) (cwV 2 hC.2.2.2.2 gX12_wrong_X12_streetOf rfl rfl rfl (by decide +kernel) ⟨Nat.le_of_ble_eq_true rfl, Nat.le_of_ble_eq_true rfl⟩) rfl hl.1 rfl (Nat.le_of_ble_eq_true rfl) dX12_wrong_64 (fun r27 w29 H locs hp28 hw => ?_)
              obtain ⟨rfl, hg34⟩ := hp28
              obtain ⟨g31, g32, c33⟩ := hg34
              refine lv_aload_n hx hb dX12_wrong_67 rfl (lv_at hl 0 rfl) ?_
              refine lv_iload_n hx hb dX12_wrong_68 rfl (lv_at hl 3 rfl) ?_
              refine tk_Vi hC hK hw hT hA hE hSR kM_at0 (by decide) rfl (k_X12_cheapOf_1 l adK adV dC dI cy ad B (by omega) (by omega) qr s1   v25_3 (show 0 ≤ v25_3.toInt by omega) (show v25_3.toInt ≤ 11 by omega) w0 H.size hT ) (cwV 1 hC.2.2.2.2 gX12_wrong_X12_cheapOf rfl rfl rfl (by decide +kernel) ⟨Nat.le_of_ble_eq_true rfl, Nat.le_of_ble_eq_true rfl⟩) rfl hl.1 rfl (Nat.le_of_ble_eq_true rfl) dX12_wrong_69 (fun r35 w37 H locs hp36 hw => ?_)
              obtain ⟨rfl, hg41⟩ := hp36
              obtain ⟨g39, g40⟩ := hg41
              refine lv_icmp_eq (tgt := 79) hx hb dX12_wrong_72 (by decide) (fun c42 => ?_) (fun c42 => ?_)
              · have c42 : r27.toInt = r35.toInt := wk_eq.mp c42
                refine lv_iconst (v := 0) hx hb dX12_wrong_79 (by decide) ?_
                refine lv_iadd hx hb dX12_wrong_80 ?_
                have nx43 := wk_i32 v38_2
                refine lv_topi (fun x44 ex44 => ?_)
                have ex44 : x44.toInt = v38_2.toInt + (0 : Int) := by rw [ex44]; exact wk_add (show (-2147483648) ≤ v38_2.toInt + (0 : Int) by omega) (show v38_2.toInt + (0 : Int) ≤ 2147483647 by omega)
                refine lv_istore_n (lv' := [(2, .int x44), (0, .ref (ad 0)), (1, .int a1), (3, .int v25_3), (4, .int v38_4)]) hx hb dX12_wrong_81 rfl hl (by decide) rfl (fun ls hl => ?_)
                obtain ⟨x45, ex45⟩ : ∃ y : Int32, y = v38_4 + Int32.ofInt 1 := ⟨_, rfl⟩
                refine lv_iinc (v := x45) (lv' := [(4, .int x45), (2, .int x44), (0, .ref (ad 0)), (1, .int a1), (3, .int v25_3)]) hx hb dX12_wrong_82 hl (k := 4) rfl ex45.symm (by decide) rfl (fun ls hl => ?_)
                have ex45 : x45.toInt = v38_4.toInt + 1 := by rw [ex45]; exact wk_add (y := 1) (show -2147483648 ≤ v38_4.toInt + 1 by omega) (show v38_4.toInt + 1 ≤ 2147483647 by omega)
                refine lv_goto (tgt := 38) hx hb dX12_wrong_85 (by decide) ?_
                exact ih38 x44 x45 f38_12_1 H locs ls  (show 0 ≤ a1.toInt by omega) (show a1.toInt ≤ 7 by omega) (show 0 ≤ v25_3.toInt by omega) (show v25_3.toInt ≤ 11 by omega) (show 0 ≤ x45.toInt by omega) (show x45.toInt ≤ 7 by omega) (show 1 ≤ f25_12_0.toInt by omega) (show f25_12_0.toInt ≤ 10 by omega) (show 1 ≤ f38_12_1.toInt by omega) (show f38_12_1.toInt ≤ 12 by omega) (show (7 - x45.toInt).toNat < n38 by omega) hw  c19 c22 (lv_sub hl [2, 3, 1, 4, 0] rfl)
              · have c42 : ¬ r27.toInt = r35.toInt := wk_eqF c42
                refine lv_iconst (v := 1) hx hb dX12_wrong_75 (by decide) ?_
                refine lv_goto (tgt := 80) hx hb dX12_wrong_76 (by decide) ?_
                refine lv_iadd hx hb dX12_wrong_80 ?_
                have nx46 := wk_i32 v38_2
                refine lv_topi (fun x47 ex47 => ?_)
                refine lv_istore_n (lv' := [(2, .int x47), (0, .ref (ad 0)), (1, .int a1), (3, .int v25_3), (4, .int v38_4)]) hx hb dX12_wrong_81 rfl hl (by decide) rfl (fun ls hl => ?_)
                obtain ⟨x48, ex48⟩ : ∃ y : Int32, y = v38_4 + Int32.ofInt 1 := ⟨_, rfl⟩
                refine lv_iinc (v := x48) (lv' := [(4, .int x48), (2, .int x47), (0, .ref (ad 0)), (1, .int a1), (3, .int v25_3)]) hx hb dX12_wrong_82 hl (k := 4) rfl ex48.symm (by decide) rfl (fun ls hl => ?_)
                have ex48 : x48.toInt = v38_4.toInt + 1 := by rw [ex48]; exact wk_add (y := 1) (show -2147483648 ≤ v38_4.toInt + 1 by omega) (show v38_4.toInt + 1 ≤ 2147483647 by omega)
                refine lv_goto (tgt := 38) hx hb dX12_wrong_85 (by decide) ?_
                exact ih38 x47 x48 f38_12_1 H locs ls  (show 0 ≤ a1.toInt by omega) (show a1.toInt ≤ 7 by omega) (show 0 ≤ v25_3.toInt by omega) (show v25_3.toInt ≤ 11 by omega) (show 0 ≤ x48.toInt by omega) (show x48.toInt ≤ 7 by omega) (show 1 ≤ f25_12_0.toInt by omega) (show f25_12_0.toInt ≤ 10 by omega) (show 1 ≤ f38_12_1.toInt by omega) (show f38_12_1.toInt ≤ 12 by omega) (show (7 - x48.toInt).toNat < n38 by omega) hw  c19 c22 (lv_sub hl [2, 3, 1, 4, 0] rfl)
            · have c25 : ¬ a1.toInt = (7 : Int) := wk_eqF c25
              refine lv_iload_n hx hb dX12_wrong_52 rfl (lv_at hl 1 rfl) ?_
              refine lv_iload hx hb dX12_wrong_53 (lv_at hl 4 rfl) ?_
              refine lv_icmp_ne (tgt := 79) hx hb dX12_wrong_55 (by decide) (fun c49 => ?_) (fun c49 => ?_)
              · have c49 : ¬ a1.toInt = v38_4.toInt := wk_eqF c49
                refine lv_iconst (v := 0) hx hb dX12_wrong_79 (by decide) ?_
                refine lv_iadd hx hb dX12_wrong_80 ?_
                have nx50 := wk_i32 v38_2
                refine lv_topi (fun x51 ex51 => ?_)
                have ex51 : x51.toInt = v38_2.toInt + (0 : Int) := by rw [ex51]; exact wk_add (show (-2147483648) ≤ v38_2.toInt + (0 : Int) by omega) (show v38_2.toInt + (0 : Int) ≤ 2147483647 by omega)
                refine lv_istore_n (lv' := [(2, .int x51), (0, .ref (ad 0)), (1, .int a1), (3, .int v25_3), (4, .int v38_4)]) hx hb dX12_wrong_81 rfl hl (by decide) rfl (fun ls hl => ?_)
                obtain ⟨x52, ex52⟩ : ∃ y : Int32, y = v38_4 + Int32.ofInt 1 := ⟨_, rfl⟩
                refine lv_iinc (v := x52) (lv' := [(4, .int x52), (2, .int x51), (0, .ref (ad 0)), (1, .int a1), (3, .int v25_3)]) hx hb dX12_wrong_82 hl (k := 4) rfl ex52.symm (by decide) rfl (fun ls hl => ?_)
                have ex52 : x52.toInt = v38_4.toInt + 1 := by rw [ex52]; exact wk_add (y := 1) (show -2147483648 ≤ v38_4.toInt + 1 by omega) (show v38_4.toInt + 1 ≤ 2147483647 by omega)
                refine lv_goto (tgt := 38) hx hb dX12_wrong_85 (by decide) ?_
                exact ih38 x51 x52 f38_12_1 H locs ls  (show 0 ≤ a1.toInt by omega) (show a1.toInt ≤ 7 by omega) (show 0 ≤ v25_3.toInt by omega) (show v25_3.toInt ≤ 11 by omega) (show 0 ≤ x52.toInt by omega) (show x52.toInt ≤ 7 by omega) (show 1 ≤ f25_12_0.toInt by omega) (show f25_12_0.toInt ≤ 10 by omega) (show 1 ≤ f38_12_1.toInt by omega) (show f38_12_1.toInt ≤ 12 by omega) (show (7 - x52.toInt).toNat < n38 by omega) hw  c19 c22 (lv_sub hl [2, 3, 1, 4, 0] rfl)
              · have c49 : a1.toInt = v38_4.toInt := wk_eq.mp c49
                refine lv_aload_n hx hb dX12_wrong_58 rfl (lv_at hl 0 rfl) ?_
                refine lv_iload_n hx hb dX12_wrong_59 rfl (lv_at hl 3 rfl) ?_
                refine lv_iconst (v := 3) hx hb dX12_wrong_60 (by decide) ?_
                refine lv_iload hx hb dX12_wrong_61 (lv_at hl 4 rfl) ?_
                refine lv_iadd hx hb dX12_wrong_63 ?_
                refine lv_topi (fun x53 ex53 => ?_)
                have ex53 : x53.toInt = (3 : Int) + v38_4.toInt := by rw [ex53]; exact wk_add (show (-2147483648) ≤ (3 : Int) + v38_4.toInt by omega) (show (3 : Int) + v38_4.toInt ≤ 2147483647 by omega)
                refine tk_Vi hC hK hw hT hA hE hSR kM_at0 (by decide) rfl (k_X12_streetOf_4 l adK adV dC dI cy ad B (by omega) (by omega) qr s1   v25_3 (show 0 ≤ v25_3.toInt by omega) (show v25_3.toInt ≤ 11 by omega) x53 (show 3 ≤ x53.toInt by omega) (show x53.toInt ≤ 9 by omega) w0 H.size hT ) (cwV 2 hC.2.2.2.2 gX12_wrong_X12_streetOf rfl rfl rfl (by decide +kernel) ⟨Nat.le_of_ble_eq_true rfl, Nat.le_of_ble_eq_true rfl⟩) rfl hl.1 rfl (Nat.le_of_ble_eq_true rfl) dX12_wrong_64 (fun r54 w56 H locs hp55 hw => ?_)
                obtain ⟨rfl, hg61⟩ := hp55
                obtain ⟨g58, g59, c60⟩ := hg61
                refine lv_aload_n hx hb dX12_wrong_67 rfl (lv_at hl 0 rfl) ?_
                refine lv_iload_n hx hb dX12_wrong_68 rfl (lv_at hl 3 rfl) ?_
                refine tk_Vi hC hK hw hT hA hE hSR kM_at0 (by decide) rfl (k_X12_cheapOf_1 l adK adV dC dI cy ad B (by omega) (by omega) qr s1   v25_3 (show 0 ≤ v25_3.toInt by omega) (show v25_3.toInt ≤ 11 by omega) w0 H.size hT ) (cwV 1 hC.2.2.2.2 gX12_wrong_X12_cheapOf rfl rfl rfl (by decide +kernel) ⟨Nat.le_of_ble_eq_true rfl, Nat.le_of_ble_eq_true rfl⟩) rfl hl.1 rfl (Nat.le_of_ble_eq_true rfl) dX12_wrong_69 (fun r62 w64 H locs hp63 hw => ?_)
                obtain ⟨rfl, hg68⟩ := hp63
                obtain ⟨g66, g67⟩ := hg68
                refine lv_icmp_eq (tgt := 79) hx hb dX12_wrong_72 (by decide) (fun c69 => ?_) (fun c69 => ?_)
                · have c69 : r54.toInt = r62.toInt := wk_eq.mp c69
                  refine lv_iconst (v := 0) hx hb dX12_wrong_79 (by decide) ?_
                  refine lv_iadd hx hb dX12_wrong_80 ?_
                  have nx70 := wk_i32 v38_2
                  refine lv_topi (fun x71 ex71 => ?_)
                  have ex71 : x71.toInt = v38_2.toInt + (0 : Int) := by rw [ex71]; exact wk_add (show (-2147483648) ≤ v38_2.toInt + (0 : Int) by omega) (show v38_2.toInt + (0 : Int) ≤ 2147483647 by omega)
                  refine lv_istore_n (lv' := [(2, .int x71), (0, .ref (ad 0)), (1, .int a1), (3, .int v25_3), (4, .int v38_4)]) hx hb dX12_wrong_81 rfl hl (by decide) rfl (fun ls hl => ?_)
                  obtain ⟨x72, ex72⟩ : ∃ y : Int32, y = v38_4 + Int32.ofInt 1 := ⟨_, rfl⟩
                  refine lv_iinc (v := x72) (lv' := [(4, .int x72), (2, .int x71), (0, .ref (ad 0)), (1, .int a1), (3, .int v25_3)]) hx hb dX12_wrong_82 hl (k := 4) rfl ex72.symm (by decide) rfl (fun ls hl => ?_)
                  have ex72 : x72.toInt = v38_4.toInt + 1 := by rw [ex72]; exact wk_add (y := 1) (show -2147483648 ≤ v38_4.toInt + 1 by omega) (show v38_4.toInt + 1 ≤ 2147483647 by omega)
                  refine lv_goto (tgt := 38) hx hb dX12_wrong_85 (by decide) ?_
                  exact ih38 x71 x72 f38_12_1 H locs ls  (show 0 ≤ a1.toInt by omega) (show a1.toInt ≤ 7 by omega) (show 0 ≤ v25_3.toInt by omega) (show v25_3.toInt ≤ 11 by omega) (show 0 ≤ x72.toInt by omega) (show x72.toInt ≤ 7 by omega) (show 1 ≤ f25_12_0.toInt by omega) (show f25_12_0.toInt ≤ 10 by omega) (show 1 ≤ f38_12_1.toInt by omega) (show f38_12_1.toInt ≤ 12 by omega) (show (7 - x72.toInt).toNat < n38 by omega) hw  c19 c22 (lv_sub hl [2, 3, 1, 4, 0] rfl)
                · have c69 : ¬ r54.toInt = r62.toInt := wk_eqF c69
                  refine lv_iconst (v := 1) hx hb dX12_wrong_75 (by decide) ?_
                  refine lv_goto (tgt := 80) hx hb dX12_wrong_76 (by decide) ?_
                  refine lv_iadd hx hb dX12_wrong_80 ?_
                  have nx73 := wk_i32 v38_2
                  refine lv_topi (fun x74 ex74 => ?_)
                  refine lv_istore_n (lv' := [(2, .int x74), (0, .ref (ad 0)), (1, .int a1), (3, .int v25_3), (4, .int v38_4)]) hx hb dX12_wrong_81 rfl hl (by decide) rfl (fun ls hl => ?_)
                  obtain ⟨x75, ex75⟩ : ∃ y : Int32, y = v38_4 + Int32.ofInt 1 := ⟨_, rfl⟩
                  refine lv_iinc (v := x75) (lv' := [(4, .int x75), (2, .int x74), (0, .ref (ad 0)), (1, .int a1), (3, .int v25_3)]) hx hb dX12_wrong_82 hl (k := 4) rfl ex75.symm (by decide) rfl (fun ls hl => ?_)
                  have ex75 : x75.toInt = v38_4.toInt + 1 := by rw [ex75]; exact wk_add (y := 1) (show -2147483648 ≤ v38_4.toInt + 1 by omega) (show v38_4.toInt + 1 ≤ 2147483647 by omega)
                  refine lv_goto (tgt := 38) hx hb dX12_wrong_85 (by decide) ?_
                  exact ih38 x74 x75 f38_12_1 H locs ls  (show 0 ≤ a1.toInt by omega) (show a1.toInt ≤ 7 by omega) (show 0 ≤ v25_3.toInt by omega) (show v25_3.toInt ≤ 11 by omega) (show 0 ≤ x75.toInt by omega) (show x75.toInt ≤ 7 by omega) (show 1 ≤ f25_12_0.toInt by omega) (show f25_12_0.toInt ≤ 10 by omega) (show 1 ≤ f38_12_1.toInt by omega) (show f38_12_1.toInt ≤ 12 by omega) (show (7 - x75.toInt).toNat < n38 by omega) hw  c19 c22 (lv_sub hl [2, 3, 1, 4, 0] rfl)
      refine lv_iload_n hx hb dX12_wrong_25 rfl (lv_at hl 3 rfl) ?_
      refine lv_aload_n hx hb dX12_wrong_26 rfl (lv_at hl 0 rfl) ?_
      refine tk_getA hC hK hw hT hinX12 kM_at0 (by decide) rfl 26 (by decide) (List.mem_of_getElem? (i := 2) rfl) rfl rfl dX12_wrong_27 ?_
      refine lv_iconst (v := 1) hx hb dX12_wrong_30 (by decide) ?_
      refine tk_ialdR hC hK hw hT kM_at12 rfl (by decide) (by decide) dX12_wrong_31 (fun x76 c77 Ex76 => ?_)
      have bx76 : 0 ≤ x76.toInt ∧ x76.toInt ≤ 12 := (tk_rg1 rfl).mp Ex76
      have c77 : gi w0 12 1 = x76 := c77
      refine lv_icmp_ge (tgt := 94) hx hb dX12_wrong_32 (by decide) (fun c78 => ?_) (fun c78 => ?_)
      · have c78 : x76.toInt ≤ v25_3.toInt := wk_le.mp c78
        refine lv_iload_n hx hb dX12_wrong_94 rfl (lv_at hl 2 rfl) ?_
        exact tk_iret hC hr hlocks hK ⟨rfl, (Or.inl ⟨(show 0 ≤ a1.toInt by omega), (show a1.toInt ≤ 7 by omega), ⟨f25_12_0, c10, (show 1 ≤ f25_12_0.toInt by omega), (show f25_12_0.toInt ≤ 10 by omega)⟩⟩)⟩ hw dX12_wrong_95
      · have c78 : v25_3.toInt < x76.toInt := wk_leF c78
        refine lv_iconst (v := 0) hx hb dX12_wrong_35 (by decide) ?_
        refine lv_istore (lv' := [(4, .int 0), (0, .ref (ad 0)), (1, .int a1), (2, .int v25_2), (3, .int v25_3)]) hx hb dX12_wrong_36 hl (by decide) rfl (fun ls hl => ?_)
        exact L38 ((7 - (0 : Int)).toNat + 1) v25_2 0 x76 H locs ls  (show 0 ≤ a1.toInt by omega) (show a1.toInt ≤ 7 by omega) (show 0 ≤ v25_3.toInt by omega) (show v25_3.toInt ≤ 11 by omega) (by decide) (by decide) (show 1 ≤ f25_12_0.toInt by omega) (show f25_12_0.toInt ≤ 10 by omega) (show 1 ≤ x76.toInt by omega) (show x76.toInt ≤ 12 by omega) (Nat.lt_succ_self _) hw  c10 c77 (lv_sub hl [1, 2, 3, 4, 0] rfl)
  refine lv_aload_n hx hb dX12_wrong_0 rfl (lv_at hl 0 rfl) ?_
  refine tk_Vi hC hK hw hT hA hE hSR kM_at0 (by decide) rfl (k_X12_isTown_1 l adK adV dC dI cy ad B (by omega) (by omega) qr s1    w0 s.heap.size hT ) (cwV 0 hC.2.2.2.2 gX12_wrong_X12_isTown rfl rfl rfl (by decide +kernel) ⟨Nat.le_of_ble_eq_true rfl, Nat.le_of_ble_eq_true rfl⟩) rfl hl.1 rfl (Nat.le_of_ble_eq_true rfl) dX12_wrong_1 (fun r79 w81 H locs hp80 hw => ?_)
  obtain ⟨rfl, hg87⟩ := hp80
  rcases hg87 with ⟨rfl, ⟨x83, c84, rx83, tx83⟩⟩ | ⟨rfl, ⟨x85, c86, rx85, tx85⟩⟩
  · refine lv_if_eq (tgt := 19) hx hb dX12_wrong_4 (by decide) (fun _ => ?_) (fun c => absurd (by decide) c)
    exact J19 x83 H locs ls  (show 0 ≤ x83.toInt by omega) (show x83.toInt ≤ 10 by omega)  hw  c84 (lv_sub hl [0, 1] rfl)
  · refine lv_if_eq (tgt := 19) hx hb dX12_wrong_4 (by decide) (fun c => absurd c (by decide)) (fun _ => ?_)
    refine lv_iload_n hx hb dX12_wrong_7 rfl (lv_at hl 1 rfl) ?_
    refine lv_i2l hx hb dX12_wrong_8 rfl ?_
    refine lv_topl (fun x88 ex88 => ?_)
    have ex88 : x88.toInt = a1.toInt := by rw [ex88]; exact wk_i2l _
    have bx88 := wk_i32 a1
    refine lv_lconst (v := 0) hx hb dX12_wrong_9 (by decide) ?_
    refine lv_ldc2 (v := 7) hx hb hC.2.2.2.1 (hC.2.2.2.2 _ (List.mem_of_getElem? (i := 1) rfl)) dX12_wrong_10 ?_
    refine tk_Si hC hK hw hT hA hE hSR (k_X12_in_13 l adK adV dC dI cy ad B (by omega) (by omega) qr s1   x88 (show (-2147483648) ≤ x88.toInt by omega) (show x88.toInt ≤ 2147483647 by omega) w0 H.size hT ) (va_cwS 3 hC.2.2.2.2 gX12_wrong_X12_in rfl rfl rfl (by decide +kernel) ⟨Nat.le_of_ble_eq_true rfl, Nat.le_of_ble_eq_true rfl⟩) rfl hl.1 rfl (Nat.le_of_ble_eq_true rfl) dX12_wrong_13 (fun r89 w91 H locs hp90 hw => ?_)
    obtain ⟨rfl, hg95⟩ := hp90
    rcases hg95 with rfl | ⟨rfl, g93, g94⟩
    · refine lv_if_ne (tgt := 21) hx hb dX12_wrong_16 (by decide) (fun c => absurd (by decide) c) (fun _ => ?_)
      exact J19 x85 H locs ls  (show 0 ≤ x85.toInt by omega) (show x85.toInt ≤ 10 by omega)  hw  c86 (lv_sub hl [0, 1] rfl)
    · refine lv_if_ne (tgt := 21) hx hb dX12_wrong_16 (by decide) (fun _ => ?_) (fun c => absurd c (by decide))
      refine lv_iconst (v := 0) hx hb dX12_wrong_21 (by decide) ?_
      refine lv_istore_n (lv' := [(2, .int 0), (0, .ref (ad 0)), (1, .int a1)]) hx hb dX12_wrong_22 rfl hl (by decide) rfl (fun ls hl => ?_)
      refine lv_iconst (v := 0) hx hb dX12_wrong_23 (by decide) ?_
      refine lv_istore_n (lv' := [(3, .int 0), (2, .int 0), (0, .ref (ad 0)), (1, .int a1)]) hx hb dX12_wrong_24 rfl hl (by decide) rfl (fun ls hl => ?_)
      exact L25 ((12 - (0 : Int)).toNat + 1) 0 0 x85 H locs ls  (show 0 ≤ a1.toInt by omega) (show a1.toInt ≤ 7 by omega) (by decide) (by decide) (show 1 ≤ x85.toInt by omega) (show x85.toInt ≤ 10 by omega) (Nat.lt_succ_self _) hw  c86 (lv_sub hl [2, 3, 1, 0] rfl)
abbrev P_X12_errand_1 (ad : Nat → Nat) (cy : Nat → ClassId) (B : Int) (qr : Nat) (s1 : Int) (a1 : Int32) (a2 : Int32) (w0 : va_W) : Int32 → va_W → Prop := fun r u => TW ksM ad cy B qr 12 u ∧ FE ksM [(71, 6, 6), (71, 252, 262), (71, 253, 263)] w0 u ∧ ((r = (-2)) ∨ (0 ≤ r.toInt ∧ r.toInt ≤ 6 ∧ (-1) ≤ a1.toInt ∧ a1.toInt ≤ 9 ∧ (∃ y : Int32, gi u 12 6 = y ∧ 0 ≤ y.toInt ∧ y.toInt ≤ 6)))
set_option maxHeartbeats 4000000 in
set_option maxRecDepth 100000 in
theorem k_X12_errand_1 (l : Launch) (adK adV : Nat → Nat) (dC : Nat → ClassId) (dI : Nat → Nat → Nat) (cy : Nat → ClassId) (ad : Nat → Nat) (B : Int) (hB0 : 100000 ≤ B) (hB1 : B ≤ 1073741824) (qr : Nat) (s1 : Int)  (a1 : Int32) (a2 : Int32) (w0 : va_W) (sz : Nat) (hT : TW ksM ad cy B qr 12 w0)  : Met l yX12_errand wsX12_errand ({ frames := 2, cells := 0, slots := 0, locals := 33 }) (va_Pc [.ref (ad 0), .int a1, .int a2] (wpreS adK adV dC dI cy sz w0)) (va_Qi (P_X12_errand_1 ad cy B qr s1 a1 a2 w0) (fun u : va_W => wpost dC dI cy (va_A w0 sz) u) (va_A w0 sz)) 0 0 (va_A w0 sz) := by
  refine Met.ofW (cc := cX12_errand) (maxL := 3) (ret := (some .int)) (by decide) rfl ?_
  intro p e s m args below meth c s₁ Bk hml hv
  obtain ⟨rfl, ⟨hsz, hP, hK, hD0⟩, hE, hSR⟩ := hv
  have hx := Bk.exec
  have hb := Bk.bytes
  have hr := Bk.returns
  have hlocks := Bk.notSynchronized
  have hC : CallFix p m c cX12_errand 3 s _ wsX12_errand RX12 := ⟨hx, hb, hml, findClass_of_methodNamed Bk.named, atoms_spec (ws := wsX12_errand) Bk.pre⟩
  subst hsz
  have hD := hD0.self (sz := s.heap.size)
  generalize hAe : va_A w0 s.heap.size = A at hD hE ⊢
  have hA : ∀ q : Nat, s.heap.size ≤ q → A q := fun q h => by rw [← hAe]; exact Or.inr h
  have hw : Wd dC dI A s.heap s.heap [] w0 := ⟨hP, hD, va_S.rf⟩
  have hF : FE ksM [(71, 6, 6), (71, 252, 262), (71, 253, 263)] w0 w0 := FE.rf
  have hl := lv_entry ([.ref (ad 0), .int a1, .int a2]) (n := 3) (Nat.le_of_ble_eq_true rfl)
  rw [lg_entry_eq]
  generalize (lg_sl ([.ref (ad 0), .int a1, .int a2]) ++ List.replicate (3 - (lg_sl ([.ref (ad 0), .int a1, .int a2])).length) Slot.unset).toArray = ls at hl ⊢
  have hl : lv_has ls 3 [(0, .ref (ad 0)), (1, .int a1), (2, .int a2)] := hl
  generalize hloc : ([] : List Loc) = locs at hw ⊢
  have hinX12 : ∀ w ∈ u_ws RX12 TX12 42, w ∈ wsX12_errand := fun _ h => List.mem_cons_of_mem _ (List.mem_append_right _ (h))
  have J48 : ∀ (H : Heap) (locs : List Loc) (ls : Array Slot) (w1 : va_W), Wd dC dI A s.heap H locs w1 → TW ksM ad cy B qr 12 w1 → FE ksM [(71, 6, 6), (71, 252, 262), (71, 253, 263)] w0 w1 → lv_has ls 3 [(0, .ref (ad 0)), (1, .int a1), (2, .int a2)] → W p l e ({ frames := 2, cells := 0, slots := 0, locals := 33 }) s m (List.toArray [.ref (ad 0), .int a1, .int a2]) below meth c H locs 0 0 (MQ below (va_Qi (P_X12_errand_1 ad cy B qr s1 a1 a2 w0) (fun u : va_W => wpost dC dI cy A u) A) (List.toArray [.ref (ad 0), .int a1, .int a2]) s 0 0 A) (F0 m 48 ls []) := by
    intro H locs ls w1 hw hT hF hl
    refine lv_bipush (v := (-2)) hx hb dX12_errand_48 (by decide) ?_
    exact tk_iret hC hr hlocks hK ⟨hT, hF, (Or.inl rfl)⟩ hw dX12_errand_50
  refine lv_iload_n hx hb dX12_errand_0 rfl (lv_at hl 1 rfl) ?_
  refine lv_iconst (v := (-1)) hx hb dX12_errand_1 (by decide) ?_
  refine lv_icmp_ne (tgt := 15) hx hb dX12_errand_2 (by decide) (fun c2 => ?_) (fun c2 => ?_)
  · have c2 : ¬ a1.toInt = (-1 : Int) := wk_eqF c2
    refine lv_aload_n hx hb dX12_errand_15 rfl (lv_at hl 0 rfl) ?_
    refine lv_iload_n hx hb dX12_errand_16 rfl (lv_at hl 1 rfl) ?_
    refine tk_Vi hC hK hw hT hA hE hSR kM_at0 (by decide) rfl (k_X12_isCorner_1 l adK adV dC dI cy ad B (by omega) (by omega) qr s1   a1 w0 s.heap.size hT ) (cwV 1 hC.2.2.2.2 gX12_errand_X12_isCorner rfl rfl rfl (by decide +kernel) ⟨Nat.le_of_ble_eq_true rfl, Nat.le_of_ble_eq_true rfl⟩) rfl hl.1 rfl (Nat.le_of_ble_eq_true rfl) dX12_errand_17 (fun r3 w5 H locs hp4 hw => ?_)
    obtain ⟨rfl, hg11⟩ := hp4
    rcases hg11 with rfl | ⟨rfl, g7, g8, ⟨x9, c10, rx9, tx9⟩⟩
    · refine lv_if_eq (tgt := 48) hx hb dX12_errand_20 (by decide) (fun _ => ?_) (fun c => absurd (by decide) c)
      exact J48  H locs ls w0   hw hT hF  (lv_sub hl [0, 1, 2] rfl)
    · refine lv_if_eq (tgt := 48) hx hb dX12_errand_20 (by decide) (fun c => absurd c (by decide)) (fun _ => ?_)
      refine lv_aload_n hx hb dX12_errand_23 rfl (lv_at hl 0 rfl) ?_
      refine lv_iload_n hx hb dX12_errand_24 rfl (lv_at hl 2 rfl) ?_
      refine tk_Vi hC hK hw hT hA hE hSR kM_at0 (by decide) rfl (k_X12_isCorner_1 l adK adV dC dI cy ad B (by omega) (by omega) qr s1   a2 w0 H.size hT ) (cwV 1 hC.2.2.2.2 gX12_errand_X12_isCorner rfl rfl rfl (by decide +kernel) ⟨Nat.le_of_ble_eq_true rfl, Nat.le_of_ble_eq_true rfl⟩) rfl hl.1 rfl (Nat.le_of_ble_eq_true rfl) dX12_errand_25 (fun r12 w14 H locs hp13 hw => ?_)
      obtain ⟨rfl, hg20⟩ := hp13
      rcases hg20 with rfl | ⟨rfl, g16, g17, ⟨x18, c19, rx18, tx18⟩⟩
      · refine lv_if_eq (tgt := 48) hx hb dX12_errand_28 (by decide) (fun _ => ?_) (fun c => absurd (by decide) c)
        exact J48  H locs ls w0   hw hT hF  (lv_sub hl [0, 1, 2] rfl)
      · have ex18 : x18.toInt = x9.toInt := by rw [← c10.symm.trans c19]
        refine lv_if_eq (tgt := 48) hx hb dX12_errand_28 (by decide) (fun c => absurd c (by decide)) (fun _ => ?_)
        refine lv_iload_n hx hb dX12_errand_31 rfl (lv_at hl 1 rfl) ?_
        refine lv_iload_n hx hb dX12_errand_32 rfl (lv_at hl 2 rfl) ?_
        refine lv_icmp_eq (tgt := 48) hx hb dX12_errand_33 (by decide) (fun c21 => ?_) (fun c21 => ?_)
        · have c21 : a1.toInt = a2.toInt := wk_eq.mp c21
          exact J48  H locs ls w0   hw hT hF  (lv_sub hl [0, 1, 2] rfl)
        · have c21 : ¬ a1.toInt = a2.toInt := wk_eqF c21
          refine lv_aload_n hx hb dX12_errand_36 rfl (lv_at hl 0 rfl) ?_
          refine tk_getA hC hK hw hT hinX12 kM_at0 (by decide) rfl 26 (by decide) (List.mem_of_getElem? (i := 1) rfl) rfl rfl dX12_errand_37 ?_
          refine lv_bipush (v := 6) hx hb dX12_errand_40 (by decide) ?_
          refine tk_ialdR hC hK hw hT kM_at12 rfl (by decide) (by decide) dX12_errand_42 (fun x22 c23 Ex22 => ?_)
          have bx22 := tk_rgI rfl 6 1 1 0 6 (by decide +kernel) ⟨0, by decide, by decide⟩ Ex22
          have c23 : gi w0 12 6 = x22 := c23
          refine lv_bipush (v := 6) hx hb dX12_errand_43 (by decide) ?_
          refine lv_icmp_ne (tgt := 51) hx hb dX12_errand_45 (by decide) (fun c24 => ?_) (fun c24 => ?_)
          · have c24 : ¬ x22.toInt = (6 : Int) := wk_eqF c24
            refine lv_aload_n hx hb dX12_errand_51 rfl (lv_at hl 0 rfl) ?_
            refine tk_getA hC hK hw hT hinX12 kM_at0 (by decide) rfl 26 (by decide) (List.mem_of_getElem? (i := 1) rfl) rfl rfl dX12_errand_52 ?_
            refine lv_sipush (v := 252) hx hb dX12_errand_55 (by decide) ?_
            refine lv_iconst (v := 2) hx hb dX12_errand_58 (by decide) ?_
            refine lv_aload_n hx hb dX12_errand_59 rfl (lv_at hl 0 rfl) ?_
            refine tk_getA hC hK hw hT hinX12 kM_at0 (by decide) rfl 26 (by decide) (List.mem_of_getElem? (i := 1) rfl) rfl rfl dX12_errand_60 ?_
            refine lv_bipush (v := 6) hx hb dX12_errand_63 (by decide) ?_
            refine tk_ialdR hC hK hw hT kM_at12 rfl (by decide) (by decide) dX12_errand_65 (fun x25 c26 Ex25 => ?_)
            refine wk_top x22 (c26.symm.trans c23) ?_
            refine lv_imul hx hb dX12_errand_66 ?_
            refine lv_topi (fun x27 ex27 => ?_)
            have ex27 : x27.toInt = (2 : Int) * x22.toInt := by rw [ex27]; exact wk_mul (show (-2147483648) ≤ (2 : Int) * x22.toInt by omega) (show (2 : Int) * x22.toInt ≤ 2147483647 by omega)
            refine lv_iadd hx hb dX12_errand_67 ?_
            refine lv_topi (fun x28 ex28 => ?_)
            have ex28 : x28.toInt = (252 : Int) + x27.toInt := by rw [ex28]; exact wk_add (show (-2147483648) ≤ (252 : Int) + x27.toInt by omega) (show (252 : Int) + x27.toInt ≤ 2147483647 by omega)
            refine lv_iload_n hx hb dX12_errand_68 rfl (lv_at hl 1 rfl) ?_
            refine tk_iastR hC hK hw hT kM_at12 (by decide) rfl (show 0 ≤ x28.toInt by omega) (show x28.toInt < 296 by omega) (tk_rgS rfl 252 2 6 0 9 (by decide +kernel) ⟨(x22.toInt - 0).toNat, by omega, show x28.toInt.toNat = 252 + 2 * (x22.toInt - 0).toNat by omega⟩ (show 0 ≤ a1.toInt by omega) (show a1.toInt ≤ 9 by omega)) dX12_errand_69 (fun H locs w29 hw hT k31 c30 => ?_)
            have hF := hF.put kM_at12 (inE_of (a := 252) (b := 262) (by decide) (show 252 ≤ x28.toInt.toNat by omega) (show x28.toInt.toNat ≤ 262 by omega)) k31
            have c32 := k31.gi (Or.inr (show 0 ≠ x28.toInt.toNat by omega)) c10
            have c33 := k31.gi (Or.inr (show 6 ≠ x28.toInt.toNat by omega)) c23
            refine lv_aload_n hx hb dX12_errand_70 rfl (lv_at hl 0 rfl) ?_
            refine tk_getA hC hK hw hT hinX12 kM_at0 (by decide) rfl 26 (by decide) (List.mem_of_getElem? (i := 1) rfl) rfl rfl dX12_errand_71 ?_
            refine lv_sipush (v := 252) hx hb dX12_errand_74 (by decide) ?_
            refine lv_iconst (v := 2) hx hb dX12_errand_77 (by decide) ?_
            refine lv_aload_n hx hb dX12_errand_78 rfl (lv_at hl 0 rfl) ?_
            refine tk_getA hC hK hw hT hinX12 kM_at0 (by decide) rfl 26 (by decide) (List.mem_of_getElem? (i := 1) rfl) rfl rfl dX12_errand_79 ?_
            refine lv_bipush (v := 6) hx hb dX12_errand_82 (by decide) ?_
            refine tk_ialdR hC hK hw hT kM_at12 rfl (by decide) (by decide) dX12_errand_84 (fun x34 c35 Ex34 => ?_)
            refine wk_top x22 (c35.symm.trans c33) ?_
            refine lv_imul hx hb dX12_errand_85 ?_
            refine lv_topi (fun x36 ex36 => ?_)
            have ex36 : x36.toInt = (2 : Int) * x22.toInt := by rw [ex36]; exact wk_mul (show (-2147483648) ≤ (2 : Int) * x22.toInt by omega) (show (2 : Int) * x22.toInt ≤ 2147483647 by omega)
            refine lv_iadd hx hb dX12_errand_86 ?_
            refine lv_topi (fun x37 ex37 => ?_)
            have ex37 : x37.toInt = (252 : Int) + x36.toInt := by rw [ex37]; exact wk_add (show (-2147483648) ≤ (252 : Int) + x36.toInt by omega) (show (252 : Int) + x36.toInt ≤ 2147483647 by omega)
            refine lv_iconst (v := 1) hx hb dX12_errand_87 (by decide) ?_
            refine lv_iadd hx hb dX12_errand_88 ?_
            refine lv_topi (fun x38 ex38 => ?_)
            have ex38 : x38.toInt = x37.toInt + (1 : Int) := by rw [ex38]; exact wk_add (show (-2147483648) ≤ x37.toInt + (1 : Int) by omega) (show x37.toInt + (1 : Int) ≤ 2147483647 by omega)
            refine lv_iload_n hx hb dX12_errand_89 rfl (lv_at hl 2 rfl) ?_
            refine tk_iastR hC hK hw hT kM_at12 (by decide) rfl (show 0 ≤ x38.toInt by omega) (show x38.toInt < 296 by omega) (tk_rgS rfl 253 2 6 0 9 (by decide +kernel) ⟨(x22.toInt - 0).toNat, by omega, show x38.toInt.toNat = 253 + 2 * (x22.toInt - 0).toNat by omega⟩ (show 0 ≤ a2.toInt by omega) (show a2.toInt ≤ 9 by omega)) dX12_errand_90 (fun H locs w39 hw hT k41 c40 => ?_)
            have hF := hF.put kM_at12 (inE_of (a := 253) (b := 263) (by decide) (show 253 ≤ x38.toInt.toNat by omega) (show x38.toInt.toNat ≤ 263 by omega)) k41
            have c42 := k41.gi (Or.inr (show 0 ≠ x38.toInt.toNat by omega)) c32
            have c43 := k41.gi (Or.inr (show 6 ≠ x38.toInt.toNat by omega)) c33
            refine lv_aload_n hx hb dX12_errand_91 rfl (lv_at hl 0 rfl) ?_
            refine tk_getA hC hK hw hT hinX12 kM_at0 (by decide) rfl 26 (by decide) (List.mem_of_getElem? (i := 1) rfl) rfl rfl dX12_errand_92 ?_
            refine lv_bipush (v := 6) hx hb dX12_errand_95 (by decide) ?_
            refine lv_dup2_11 hx hb dX12_errand_97 rfl rfl ?_
            refine tk_ialdR hC hK hw hT kM_at12 rfl (by decide) (by decide) dX12_errand_98 (fun x44 c45 Ex44 => ?_)
            refine wk_top x22 (c45.symm.trans c43) ?_
            refine lv_iconst (v := 1) hx hb dX12_errand_99 (by decide) ?_
            refine lv_iadd hx hb dX12_errand_100 ?_
            refine lv_topi (fun x46 ex46 => ?_)
            have ex46 : x46.toInt = x22.toInt + (1 : Int) := by rw [ex46]; exact wk_add (show (-2147483648) ≤ x22.toInt + (1 : Int) by omega) (show x22.toInt + (1 : Int) ≤ 2147483647 by omega)
            refine tk_iastR hC hK hw hT kM_at12 (by decide) rfl (by decide) (by decide) (tk_rgS rfl 6 1 1 1 6 (by decide +kernel) ⟨0, by decide, by decide⟩ (show 1 ≤ x46.toInt by omega) (show x46.toInt ≤ 6 by omega)) dX12_errand_101 (fun H locs w47 hw hT k49 c48 => ?_)
            have hF := hF.put kM_at12 (inE_of (a := 6) (b := 6) (by decide) (by decide) (by decide)) k49
            have c50 := k49.gi (Or.inr (by decide)) c42
            have c48 : gi w47 12 6 = x46 := c48
            refine lv_aload_n hx hb dX12_errand_102 rfl (lv_at hl 0 rfl) ?_
            refine tk_getA hC hK hw hT hinX12 kM_at0 (by decide) rfl 26 (by decide) (List.mem_of_getElem? (i := 1) rfl) rfl rfl dX12_errand_103 ?_
            refine lv_bipush (v := 6) hx hb dX12_errand_106 (by decide) ?_
            refine tk_ialdR hC hK hw hT kM_at12 rfl (by decide) (by decide) dX12_errand_108 (fun x51 c52 Ex51 => ?_)
            refine wk_top x46 (c52.symm.trans c48) ?_
            exact tk_iret hC hr hlocks hK ⟨hT, hF, (Or.inr ⟨(show 0 ≤ x46.toInt by omega), (show x46.toInt ≤ 6 by omega), (show (-1) ≤ a1.toInt by omega), (show a1.toInt ≤ 9 by omega), ⟨x46, c48, (show 0 ≤ x46.toInt by omega), (show x46.toInt ≤ 6 by omega)⟩⟩)⟩ hw dX12_errand_109
          · have c24 : x22.toInt = (6 : Int) := wk_eq.mp c24
            exact J48  H locs ls w0   hw hT hF  (lv_sub hl [0, 1, 2] rfl)
  · have c2 : a1.toInt = (-1 : Int) := wk_eq.mp c2
    refine lv_aload_n hx hb dX12_errand_5 rfl (lv_at hl 0 rfl) ?_
    refine tk_getA hC hK hw hT hinX12 kM_at0 (by decide) rfl 26 (by decide) (List.mem_of_getElem? (i := 1) rfl) rfl rfl dX12_errand_6 ?_
    refine lv_bipush (v := 6) hx hb dX12_errand_9 (by decide) ?_
    refine lv_iconst (v := 0) hx hb dX12_errand_11 (by decide) ?_
    refine tk_iastR hC hK hw hT kM_at12 (by decide) rfl (by decide) (by decide) (tk_rg0 rfl (show 0 ≤ B by omega) (by decide)) dX12_errand_12 (fun H locs w53 hw hT k55 c54 => ?_)
    have hF := hF.put kM_at12 (inE_of (a := 6) (b := 6) (by decide) (by decide) (by decide)) k55
    have c54 : gi w53 12 6 = 0 := c54
    refine lv_iconst (v := 0) hx hb dX12_errand_13 (by decide) ?_
    exact tk_iret hC hr hlocks hK ⟨hT, hF, (Or.inr ⟨(by decide), (by decide), (show (-1) ≤ a1.toInt by omega), (show a1.toInt ≤ 9 by omega), ⟨0, c54, (by decide), (by decide)⟩⟩)⟩ hw dX12_errand_14
abbrev P_X12_bits_1 (ad : Nat → Nat) (cy : Nat → ClassId) (B : Int) (qr : Nat) (s1 : Int) (a0 : Int32) (w0 : va_W) : Int32 → va_W → Prop := fun r u => w0 = u ∧ ((True))
set_option maxHeartbeats 4000000 in
set_option maxRecDepth 100000 in
theorem k_X12_bits_1 (l : Launch) (adK adV : Nat → Nat) (dC : Nat → ClassId) (dI : Nat → Nat → Nat) (cy : Nat → ClassId) (ad : Nat → Nat) (B : Int) (hB0 : 100000 ≤ B) (hB1 : B ≤ 1073741824) (qr : Nat) (s1 : Int)  (a0 : Int32) (ra0 : 0 ≤ a0.toInt) (ta0 : a0.toInt ≤ 63) (w0 : va_W) (sz : Nat) (hT : TW ksM ad cy B qr 12 w0)  : Met l yX12_bits wsX12_bits ({ frames := 1, cells := 0, slots := 0, locals := 12 }) (va_Pc [.int a0] (wpreS adK adV dC dI cy sz w0)) (va_Qi (P_X12_bits_1 ad cy B qr s1 a0 w0) (fun u : va_W => wpost dC dI cy (va_A w0 sz) u) (va_A w0 sz)) 0 0 (va_A w0 sz) := by
  refine Met.ofW (cc := cX12_bits) (maxL := 3) (ret := (some .int)) (by decide) rfl ?_
  intro p e s m args below meth c s₁ Bk hml hv
  obtain ⟨rfl, ⟨hsz, hP, hK, hD0⟩, hE, hSR⟩ := hv
  have hx := Bk.exec
  have hb := Bk.bytes
  have hr := Bk.returns
  have hlocks := Bk.notSynchronized
  have hC : CallFix p m c cX12_bits 3 s _ wsX12_bits RX12 := ⟨hx, hb, hml, findClass_of_methodNamed Bk.named, atoms_spec (ws := wsX12_bits) Bk.pre⟩
  subst hsz
  have hD := hD0.self (sz := s.heap.size)
  generalize hAe : va_A w0 s.heap.size = A at hD hE ⊢
  have hA : ∀ q : Nat, s.heap.size ≤ q → A q := fun q h => by rw [← hAe]; exact Or.inr h
  have hw : Wd dC dI A s.heap s.heap [] w0 := ⟨hP, hD, va_S.rf⟩
  have hF : FE ksM ([] : List (Nat × Nat × Nat)) w0 w0 := FE.rf
  have hl := lv_entry ([.int a0]) (n := 3) (Nat.le_of_ble_eq_true rfl)
  rw [lg_entry_eq]
  generalize (lg_sl ([.int a0]) ++ List.replicate (3 - (lg_sl ([.int a0])).length) Slot.unset).toArray = ls at hl ⊢
  have hl : lv_has ls 3 [(0, .int a0)] := hl
  generalize hloc : ([] : List Loc) = locs at hw ⊢
  have L4 : ∀ (n4 : Nat) (v4_1 : Int32) (v4_2 : Int32) (H : Heap) (locs : List Loc) (ls : Array Slot), 0 ≤ a0.toInt → a0.toInt ≤ 63 → 0 ≤ v4_2.toInt → v4_2.toInt ≤ 63 → (v4_2.toInt - 0).toNat < n4 → Wd dC dI A s.heap H locs w0 → lv_has ls 3 [(0, .int a0), (1, .int v4_1), (2, .int v4_2)] → W p l e ({ frames := 1, cells := 0, slots := 0, locals := 12 }) s m (List.toArray [.int a0]) below meth c H locs 0 0 (MQ below (va_Qi (P_X12_bits_1 ad cy B qr s1 a0 w0) (fun u : va_W => wpost dC dI cy A u) A) (List.toArray [.int a0]) s 0 0 A) (F0 m 4 ls []) := by
    intro n4
    induction n4 with
    | zero => intro v4_1 v4_2 H locs ls r1 t2 r3 t4 hm4 hw hl; omega
    | succ n4 ih4 =>
      intro v4_1 v4_2 H locs ls r1 t2 r3 t4 hm4 hw hl
      refine lv_iload_n hx hb dX12_bits_4 rfl (lv_at hl 2 rfl) ?_
      refine lv_if_eq (tgt := 20) hx hb dX12_bits_5 (by decide) (fun c5 => ?_) (fun c5 => ?_)
      · have c5 : v4_2.toInt = (0 : Int) := wk_eq.mp c5
        refine lv_iload_n hx hb dX12_bits_20 rfl (lv_at hl 1 rfl) ?_
        exact tk_iret hC hr hlocks hK ⟨rfl, trivial⟩ hw dX12_bits_21
      · have c5 : ¬ v4_2.toInt = (0 : Int) := wk_eqF c5
        have nx7 := wk_i32 v4_1
        obtain ⟨x6, ex6⟩ : ∃ y : Int32, y = v4_1 + Int32.ofInt 1 := ⟨_, rfl⟩
        refine lv_iinc (v := x6) (lv' := [(1, .int x6), (0, .int a0), (2, .int v4_2)]) hx hb dX12_bits_8 hl (k := 1) rfl ex6.symm (by decide) rfl (fun ls hl => ?_)
        refine lv_iload_n hx hb dX12_bits_11 rfl (lv_at hl 2 rfl) ?_
        refine lv_iload_n hx hb dX12_bits_12 rfl (lv_at hl 2 rfl) ?_
        refine lv_iconst (v := 1) hx hb dX12_bits_13 (by decide) ?_
        refine lv_isub hx hb dX12_bits_14 ?_
        refine lv_topi (fun x8 ex8 => ?_)
        have ex8 : x8.toInt = v4_2.toInt - (1 : Int) := by rw [ex8]; exact wk_sub (show (-2147483648) ≤ v4_2.toInt - (1 : Int) by omega) (show v4_2.toInt - (1 : Int) ≤ 2147483647 by omega)
        refine lv_iand hx hb dX12_bits_15 ?_
        refine lv_topi (fun x9 ex9 => ?_)
        have bx9 : 0 ≤ x9.toInt ∧ x9.toInt ≤ x8.toInt := by rw [ex9]; exact wk_and (by omega)
        refine lv_istore_n (lv' := [(2, .int x9), (1, .int x6), (0, .int a0)]) hx hb dX12_bits_16 rfl hl (by decide) rfl (fun ls hl => ?_)
        refine lv_goto (tgt := 4) hx hb dX12_bits_17 (by decide) ?_
        exact ih4 x6 x9 H locs ls  (show 0 ≤ a0.toInt by omega) (show a0.toInt ≤ 63 by omega) (show 0 ≤ x9.toInt by omega) (show x9.toInt ≤ 63 by omega) (show (x9.toInt - 0).toNat < n4 by omega) hw   (lv_sub hl [2, 1, 0] rfl)
  refine lv_iconst (v := 0) hx hb dX12_bits_0 (by decide) ?_
  refine lv_istore_n (lv' := [(1, .int 0), (0, .int a0)]) hx hb dX12_bits_1 rfl hl (by decide) rfl (fun ls hl => ?_)
  refine lv_iload_n hx hb dX12_bits_2 rfl (lv_at hl 1 rfl) ?_
  refine lv_istore_n (lv' := [(2, .int a0), (1, .int 0), (0, .int a0)]) hx hb dX12_bits_3 rfl hl (by decide) rfl (fun ls hl => ?_)
  exact L4 ((a0.toInt - 0).toNat + 1) 0 a0 s.heap locs ls  (show 0 ≤ a0.toInt by omega) (show a0.toInt ≤ 63 by omega) (show 0 ≤ a0.toInt by omega) (show a0.toInt ≤ 63 by omega) (Nat.lt_succ_self _) hw   (lv_sub hl [2, 1, 0] rfl)
abbrev P_X12_bits_2 (ad : Nat → Nat) (cy : Nat → ClassId) (B : Int) (qr : Nat) (s1 : Int) (a0 : Int32) (w0 : va_W) : Int32 → va_W → Prop := fun r u => w0 = u ∧ ((True))
set_option maxHeartbeats 4000000 in
set_option maxRecDepth 100000 in
theorem k_X12_bits_2 (l : Launch) (adK adV : Nat → Nat) (dC : Nat → ClassId) (dI : Nat → Nat → Nat) (cy : Nat → ClassId) (ad : Nat → Nat) (B : Int) (hB0 : 100000 ≤ B) (hB1 : B ≤ 1073741824) (qr : Nat) (s1 : Int)  (a0 : Int32) (ra0 : 1 ≤ a0.toInt) (ta0 : a0.toInt ≤ 63) (w0 : va_W) (sz : Nat) (hT : TW ksM ad cy B qr 12 w0)  : Met l yX12_bits wsX12_bits ({ frames := 1, cells := 0, slots := 0, locals := 12 }) (va_Pc [.int a0] (wpreS adK adV dC dI cy sz w0)) (va_Qi (P_X12_bits_2 ad cy B qr s1 a0 w0) (fun u : va_W => wpost dC dI cy (va_A w0 sz) u) (va_A w0 sz)) 0 0 (va_A w0 sz) := by
  refine Met.ofW (cc := cX12_bits) (maxL := 3) (ret := (some .int)) (by decide) rfl ?_
  intro p e s m args below meth c s₁ Bk hml hv
  obtain ⟨rfl, ⟨hsz, hP, hK, hD0⟩, hE, hSR⟩ := hv
  have hx := Bk.exec
  have hb := Bk.bytes
  have hr := Bk.returns
  have hlocks := Bk.notSynchronized
  have hC : CallFix p m c cX12_bits 3 s _ wsX12_bits RX12 := ⟨hx, hb, hml, findClass_of_methodNamed Bk.named, atoms_spec (ws := wsX12_bits) Bk.pre⟩
  subst hsz
  have hD := hD0.self (sz := s.heap.size)
  generalize hAe : va_A w0 s.heap.size = A at hD hE ⊢
  have hA : ∀ q : Nat, s.heap.size ≤ q → A q := fun q h => by rw [← hAe]; exact Or.inr h
  have hw : Wd dC dI A s.heap s.heap [] w0 := ⟨hP, hD, va_S.rf⟩
  have hF : FE ksM ([] : List (Nat × Nat × Nat)) w0 w0 := FE.rf
  have hl := lv_entry ([.int a0]) (n := 3) (Nat.le_of_ble_eq_true rfl)
  rw [lg_entry_eq]
  generalize (lg_sl ([.int a0]) ++ List.replicate (3 - (lg_sl ([.int a0])).length) Slot.unset).toArray = ls at hl ⊢
  have hl : lv_has ls 3 [(0, .int a0)] := hl
  generalize hloc : ([] : List Loc) = locs at hw ⊢
  have L4 : ∀ (n4 : Nat) (v4_1 : Int32) (v4_2 : Int32) (H : Heap) (locs : List Loc) (ls : Array Slot), 1 ≤ a0.toInt → a0.toInt ≤ 63 → 0 ≤ v4_2.toInt → v4_2.toInt ≤ 63 → (v4_2.toInt - 0).toNat < n4 → Wd dC dI A s.heap H locs w0 → lv_has ls 3 [(0, .int a0), (1, .int v4_1), (2, .int v4_2)] → W p l e ({ frames := 1, cells := 0, slots := 0, locals := 12 }) s m (List.toArray [.int a0]) below meth c H locs 0 0 (MQ below (va_Qi (P_X12_bits_2 ad cy B qr s1 a0 w0) (fun u : va_W => wpost dC dI cy A u) A) (List.toArray [.int a0]) s 0 0 A) (F0 m 4 ls []) := by
    intro n4
    induction n4 with
    | zero => intro v4_1 v4_2 H locs ls r1 t2 r3 t4 hm4 hw hl; omega
    | succ n4 ih4 =>
      intro v4_1 v4_2 H locs ls r1 t2 r3 t4 hm4 hw hl
      refine lv_iload_n hx hb dX12_bits_4 rfl (lv_at hl 2 rfl) ?_
      refine lv_if_eq (tgt := 20) hx hb dX12_bits_5 (by decide) (fun c5 => ?_) (fun c5 => ?_)
      · have c5 : v4_2.toInt = (0 : Int) := wk_eq.mp c5
        refine lv_iload_n hx hb dX12_bits_20 rfl (lv_at hl 1 rfl) ?_
        exact tk_iret hC hr hlocks hK ⟨rfl, trivial⟩ hw dX12_bits_21
      · have c5 : ¬ v4_2.toInt = (0 : Int) := wk_eqF c5
        have nx7 := wk_i32 v4_1
        obtain ⟨x6, ex6⟩ : ∃ y : Int32, y = v4_1 + Int32.ofInt 1 := ⟨_, rfl⟩
        refine lv_iinc (v := x6) (lv' := [(1, .int x6), (0, .int a0), (2, .int v4_2)]) hx hb dX12_bits_8 hl (k := 1) rfl ex6.symm (by decide) rfl (fun ls hl => ?_)
        refine lv_iload_n hx hb dX12_bits_11 rfl (lv_at hl 2 rfl) ?_
        refine lv_iload_n hx hb dX12_bits_12 rfl (lv_at hl 2 rfl) ?_
        refine lv_iconst (v := 1) hx hb dX12_bits_13 (by decide) ?_
        refine lv_isub hx hb dX12_bits_14 ?_
        refine lv_topi (fun x8 ex8 => ?_)
        have ex8 : x8.toInt = v4_2.toInt - (1 : Int) := by rw [ex8]; exact wk_sub (show (-2147483648) ≤ v4_2.toInt - (1 : Int) by omega) (show v4_2.toInt - (1 : Int) ≤ 2147483647 by omega)
        refine lv_iand hx hb dX12_bits_15 ?_
        refine lv_topi (fun x9 ex9 => ?_)
        have bx9 : 0 ≤ x9.toInt ∧ x9.toInt ≤ x8.toInt := by rw [ex9]; exact wk_and (by omega)
        refine lv_istore_n (lv' := [(2, .int x9), (1, .int x6), (0, .int a0)]) hx hb dX12_bits_16 rfl hl (by decide) rfl (fun ls hl => ?_)
        refine lv_goto (tgt := 4) hx hb dX12_bits_17 (by decide) ?_
        exact ih4 x6 x9 H locs ls  (show 1 ≤ a0.toInt by omega) (show a0.toInt ≤ 63 by omega) (show 0 ≤ x9.toInt by omega) (show x9.toInt ≤ 63 by omega) (show (x9.toInt - 0).toNat < n4 by omega) hw   (lv_sub hl [2, 1, 0] rfl)
  refine lv_iconst (v := 0) hx hb dX12_bits_0 (by decide) ?_
  refine lv_istore_n (lv' := [(1, .int 0), (0, .int a0)]) hx hb dX12_bits_1 rfl hl (by decide) rfl (fun ls hl => ?_)
  refine lv_iload_n hx hb dX12_bits_2 rfl (lv_at hl 1 rfl) ?_
  refine lv_istore_n (lv' := [(2, .int a0), (1, .int 0), (0, .int a0)]) hx hb dX12_bits_3 rfl hl (by decide) rfl (fun ls hl => ?_)
  exact L4 ((a0.toInt - 0).toNat + 1) 0 a0 s.heap locs ls  (show 1 ≤ a0.toInt by omega) (show a0.toInt ≤ 63 by omega) (show 0 ≤ a0.toInt by omega) (show a0.toInt ≤ 63 by omega) (Nat.lt_succ_self _) hw   (lv_sub hl [2, 1, 0] rfl)
abbrev P_X12_isOf_6 (ad : Nat → Nat) (cy : Nat → ClassId) (B : Int) (qr : Nat) (s1 : Int) (a0 : Int32) (a1 : Int32) (w0 : va_W) : Int32 → va_W → Prop := fun r u => w0 = u ∧ ((r = 0 ∧ (¬ mOf a0 a1)) ∨ (r = 1 ∧ (mOf a0 a1)))
set_option maxHeartbeats 4000000 in
set_option maxRecDepth 100000 in
theorem k_X12_isOf_6 (l : Launch) (adK adV : Nat → Nat) (dC : Nat → ClassId) (dI : Nat → Nat → Nat) (cy : Nat → ClassId) (ad : Nat → Nat) (B : Int) (hB0 : 100000 ≤ B) (hB1 : B ≤ 1073741824) (qr : Nat) (s1 : Int)  (a0 : Int32) (ra0 : 0 ≤ a0.toInt) (ta0 : a0.toInt ≤ 4095) (a1 : Int32) (w0 : va_W) (sz : Nat) (hT : TW ksM ad cy B qr 12 w0)  : Met l yX12_isOf wsX12_isOf ({ frames := 1, cells := 0, slots := 0, locals := 12 }) (va_Pc [.int a0, .int a1] (wpreS adK adV dC dI cy sz w0)) (va_Qi (P_X12_isOf_6 ad cy B qr s1 a0 a1 w0) (fun u : va_W => wpost dC dI cy (va_A w0 sz) u) (va_A w0 sz)) 0 0 (va_A w0 sz) := by
  refine Met.ofW (cc := cX12_isOf) (maxL := 2) (ret := (some .boolean)) (by decide) rfl ?_
  intro p e s m args below meth c s₁ Bk hml hv
  obtain ⟨rfl, ⟨hsz, hP, hK, hD0⟩, hE, hSR⟩ := hv
  have hx := Bk.exec
  have hb := Bk.bytes
  have hr := Bk.returns
  have hlocks := Bk.notSynchronized
  have hC : CallFix p m c cX12_isOf 2 s _ wsX12_isOf RX12 := ⟨hx, hb, hml, findClass_of_methodNamed Bk.named, atoms_spec (ws := wsX12_isOf) Bk.pre⟩
  subst hsz
  have hD := hD0.self (sz := s.heap.size)
  generalize hAe : va_A w0 s.heap.size = A at hD hE ⊢
  have hA : ∀ q : Nat, s.heap.size ≤ q → A q := fun q h => by rw [← hAe]; exact Or.inr h
  have hw : Wd dC dI A s.heap s.heap [] w0 := ⟨hP, hD, va_S.rf⟩
  have hF : FE ksM ([] : List (Nat × Nat × Nat)) w0 w0 := FE.rf
  have hl := lv_entry ([.int a0, .int a1]) (n := 2) (Nat.le_of_ble_eq_true rfl)
  rw [lg_entry_eq]
  generalize (lg_sl ([.int a0, .int a1]) ++ List.replicate (2 - (lg_sl ([.int a0, .int a1])).length) Slot.unset).toArray = ls at hl ⊢
  have hl : lv_has ls 2 [(0, .int a0), (1, .int a1)] := hl
  generalize hloc : ([] : List Loc) = locs at hw ⊢
  refine lv_iload_n hx hb dX12_isOf_0 rfl (lv_at hl 0 rfl) ?_
  refine lv_iload_n hx hb dX12_isOf_1 rfl (lv_at hl 1 rfl) ?_
  refine lv_ishr hx hb dX12_isOf_2 ?_
  refine lv_topi (fun x1 ex1 => ?_)
  have bx1 : 0 ≤ x1.toInt ∧ x1.toInt ≤ a0.toInt := by rw [ex1]; exact wk_shr (by omega)
  refine lv_iconst (v := 1) hx hb dX12_isOf_3 (by decide) ?_
  refine lv_iand hx hb dX12_isOf_4 ?_
  refine lv_topi (fun x2 ex2 => ?_)
  have bx2 : 0 ≤ x2.toInt ∧ x2.toInt ≤ (1 : Int) := by rw [ex2]; exact wk_and (by decide)
  refine lv_iconst (v := 1) hx hb dX12_isOf_5 (by decide) ?_
  refine lv_icmp_ne (tgt := 13) hx hb dX12_isOf_6 (by decide) (fun c3 => ?_) (fun c3 => ?_)
  · have c3 : ¬ x2.toInt = (1 : Int) := wk_eqF c3
    refine lv_iconst (v := 0) hx hb dX12_isOf_13 (by decide) ?_
    exact tk_zret hC hr rfl hlocks hK ⟨rfl, (Or.inl ⟨rfl, (by unfold mOf; rw [← ex1, ← ex2]; omega)⟩)⟩ hw dX12_isOf_14
  · have c3 : x2.toInt = (1 : Int) := wk_eq.mp c3
    refine lv_iconst (v := 1) hx hb dX12_isOf_9 (by decide) ?_
    refine lv_goto (tgt := 14) hx hb dX12_isOf_10 (by decide) ?_
    exact tk_zret hC hr rfl hlocks hK ⟨rfl, (Or.inr ⟨rfl, (by unfold mOf; rw [← ex1, ← ex2]; omega)⟩)⟩ hw dX12_isOf_14
abbrev P_X12_isOf_7 (ad : Nat → Nat) (cy : Nat → ClassId) (B : Int) (qr : Nat) (s1 : Int) (a0 : Int32) (a1 : Int32) (w0 : va_W) : Int32 → va_W → Prop := fun r u => w0 = u ∧ ((r = 0 ∧ (¬ mOf a0 a1)) ∨ (r = 1 ∧ (mOf a0 a1)))
set_option maxHeartbeats 4000000 in
set_option maxRecDepth 100000 in
theorem k_X12_isOf_7 (l : Launch) (adK adV : Nat → Nat) (dC : Nat → ClassId) (dI : Nat → Nat → Nat) (cy : Nat → ClassId) (ad : Nat → Nat) (B : Int) (hB0 : 100000 ≤ B) (hB1 : B ≤ 1073741824) (qr : Nat) (s1 : Int)  (a0 : Int32) (ra0 : 1 ≤ a0.toInt) (ta0 : a0.toInt ≤ 1023) (a1 : Int32) (ra1 : 0 ≤ a1.toInt) (ta1 : a1.toInt ≤ 9) (w0 : va_W) (sz : Nat) (hT : TW ksM ad cy B qr 12 w0)  : Met l yX12_isOf wsX12_isOf ({ frames := 1, cells := 0, slots := 0, locals := 12 }) (va_Pc [.int a0, .int a1] (wpreS adK adV dC dI cy sz w0)) (va_Qi (P_X12_isOf_7 ad cy B qr s1 a0 a1 w0) (fun u : va_W => wpost dC dI cy (va_A w0 sz) u) (va_A w0 sz)) 0 0 (va_A w0 sz) := by
  refine Met.ofW (cc := cX12_isOf) (maxL := 2) (ret := (some .boolean)) (by decide) rfl ?_
  intro p e s m args below meth c s₁ Bk hml hv
  obtain ⟨rfl, ⟨hsz, hP, hK, hD0⟩, hE, hSR⟩ := hv
  have hx := Bk.exec
  have hb := Bk.bytes
  have hr := Bk.returns
  have hlocks := Bk.notSynchronized
  have hC : CallFix p m c cX12_isOf 2 s _ wsX12_isOf RX12 := ⟨hx, hb, hml, findClass_of_methodNamed Bk.named, atoms_spec (ws := wsX12_isOf) Bk.pre⟩
  subst hsz
  have hD := hD0.self (sz := s.heap.size)
  generalize hAe : va_A w0 s.heap.size = A at hD hE ⊢
  have hA : ∀ q : Nat, s.heap.size ≤ q → A q := fun q h => by rw [← hAe]; exact Or.inr h
  have hw : Wd dC dI A s.heap s.heap [] w0 := ⟨hP, hD, va_S.rf⟩
  have hF : FE ksM ([] : List (Nat × Nat × Nat)) w0 w0 := FE.rf
  have hl := lv_entry ([.int a0, .int a1]) (n := 2) (Nat.le_of_ble_eq_true rfl)
  rw [lg_entry_eq]
  generalize (lg_sl ([.int a0, .int a1]) ++ List.replicate (2 - (lg_sl ([.int a0, .int a1])).length) Slot.unset).toArray = ls at hl ⊢
  have hl : lv_has ls 2 [(0, .int a0), (1, .int a1)] := hl
  generalize hloc : ([] : List Loc) = locs at hw ⊢
  refine lv_iload_n hx hb dX12_isOf_0 rfl (lv_at hl 0 rfl) ?_
  refine lv_iload_n hx hb dX12_isOf_1 rfl (lv_at hl 1 rfl) ?_
  refine lv_ishr hx hb dX12_isOf_2 ?_
  refine lv_topi (fun x1 ex1 => ?_)
  have bx1 : 0 ≤ x1.toInt ∧ x1.toInt ≤ a0.toInt := by rw [ex1]; exact wk_shr (by omega)
  refine lv_iconst (v := 1) hx hb dX12_isOf_3 (by decide) ?_
  refine lv_iand hx hb dX12_isOf_4 ?_
  refine lv_topi (fun x2 ex2 => ?_)
  have bx2 : 0 ≤ x2.toInt ∧ x2.toInt ≤ (1 : Int) := by rw [ex2]; exact wk_and (by decide)
  refine lv_iconst (v := 1) hx hb dX12_isOf_5 (by decide) ?_
  refine lv_icmp_ne (tgt := 13) hx hb dX12_isOf_6 (by decide) (fun c3 => ?_) (fun c3 => ?_)
  · have c3 : ¬ x2.toInt = (1 : Int) := wk_eqF c3
    refine lv_iconst (v := 0) hx hb dX12_isOf_13 (by decide) ?_
    exact tk_zret hC hr rfl hlocks hK ⟨rfl, (Or.inl ⟨rfl, (by unfold mOf; rw [← ex1, ← ex2]; omega)⟩)⟩ hw dX12_isOf_14
  · have c3 : x2.toInt = (1 : Int) := wk_eq.mp c3
    refine lv_iconst (v := 1) hx hb dX12_isOf_9 (by decide) ?_
    refine lv_goto (tgt := 14) hx hb dX12_isOf_10 (by decide) ?_
    exact tk_zret hC hr rfl hlocks hK ⟨rfl, (Or.inr ⟨rfl, (by unfold mOf; rw [← ex1, ← ex2]; omega)⟩)⟩ hw dX12_isOf_14
abbrev P_X12_comesTo_1 (ad : Nat → Nat) (cy : Nat → ClassId) (B : Int) (qr : Nat) (s1 : Int) (a1 : Int32) (a2 : Int32) (a3 : Int32) (w0 : va_W) : Int32 → va_W → Prop := fun r u => w0 = u ∧ ((1 ≤ r.toInt ∧ r.toInt ≤ 1023))
set_option maxHeartbeats 4000000 in
set_option maxRecDepth 100000 in
theorem k_X12_comesTo_1 (l : Launch) (adK adV : Nat → Nat) (dC : Nat → ClassId) (dI : Nat → Nat → Nat) (cy : Nat → ClassId) (ad : Nat → Nat) (B : Int) (hB0 : 100000 ≤ B) (hB1 : B ≤ 1073741824) (qr : Nat) (s1 : Int)  (a1 : Int32) (ra1 : 0 ≤ a1.toInt) (ta1 : a1.toInt ≤ 6) (a2 : Int32) (ra2 : 0 ≤ a2.toInt) (ta2 : a2.toInt ≤ 4095) (a3 : Int32) (ra3 : 0 ≤ a3.toInt) (ta3 : a3.toInt ≤ 9) (w0 : va_W) (sz : Nat) (hT : TW ksM ad cy B qr 12 w0)  : Met l yX12_comesTo wsX12_comesTo ({ frames := 2, cells := 0, slots := 0, locals := 34 }) (va_Pc [.ref (ad 0), .int a1, .int a2, .int a3] (wpreS adK adV dC dI cy sz w0)) (va_Qi (P_X12_comesTo_1 ad cy B qr s1 a1 a2 a3 w0) (fun u : va_W => wpost dC dI cy (va_A w0 sz) u) (va_A w0 sz)) 0 0 (va_A w0 sz) := by
  refine Met.ofW (cc := cX12_comesTo) (maxL := 9) (ret := (some .int)) (by decide) rfl ?_
  intro p e s m args below meth c s₁ Bk hml hv
  obtain ⟨rfl, ⟨hsz, hP, hK, hD0⟩, hE, hSR⟩ := hv
  have hx := Bk.exec
  have hb := Bk.bytes
  have hr := Bk.returns
  have hlocks := Bk.notSynchronized
  have hC : CallFix p m c cX12_comesTo 9 s _ wsX12_comesTo RX12 := ⟨hx, hb, hml, findClass_of_methodNamed Bk.named, atoms_spec (ws := wsX12_comesTo) Bk.pre⟩
  subst hsz
  have hD := hD0.self (sz := s.heap.size)
  generalize hAe : va_A w0 s.heap.size = A at hD hE ⊢
  have hA : ∀ q : Nat, s.heap.size ≤ q → A q := fun q h => by rw [← hAe]; exact Or.inr h
  have hw : Wd dC dI A s.heap s.heap [] w0 := ⟨hP, hD, va_S.rf⟩
  have hF : FE ksM ([] : List (Nat × Nat × Nat)) w0 w0 := FE.rf
  have hl := lv_entry ([.ref (ad 0), .int a1, .int a2, .int a3]) (n := 9) (Nat.le_of_ble_eq_true rfl)
  rw [lg_entry_eq]
  generalize (lg_sl ([.ref (ad 0), .int a1, .int a2, .int a3]) ++ List.replicate (9 - (lg_sl ([.ref (ad 0), .int a1, .int a2, .int a3])).length) Slot.unset).toArray = ls at hl ⊢
  have hl : lv_has ls 9 [(0, .ref (ad 0)), (1, .int a1), (2, .int a2), (3, .int a3)] := hl
  generalize hloc : ([] : List Loc) = locs at hw ⊢
  have hinX12 : ∀ w ∈ u_ws RX12 TX12 42, w ∈ wsX12_comesTo := fun _ h => List.mem_cons_of_mem _ (List.mem_append_right _ (h))
  have L8 : ∀ (n8 : Nat) (v8_4 : Int32) (v8_5 : Int32) (H : Heap) (locs : List Loc) (ls : Array Slot), 0 ≤ a1.toInt → a1.toInt ≤ 6 → 0 ≤ a2.toInt → a2.toInt ≤ 4095 → 0 ≤ a3.toInt → a3.toInt ≤ 9 → 1 ≤ v8_4.toInt → v8_4.toInt ≤ 1023 → 0 ≤ v8_5.toInt → v8_5.toInt ≤ 1023 → v8_5.toInt ≤ v8_4.toInt + 0 → (1023 - v8_5.toInt).toNat < n8 → Wd dC dI A s.heap H locs w0 → lv_has ls 9 [(0, .ref (ad 0)), (1, .int a1), (2, .int a2), (3, .int a3), (4, .int v8_4), (5, .int v8_5)] → W p l e ({ frames := 2, cells := 0, slots := 0, locals := 34 }) s m (List.toArray [.ref (ad 0), .int a1, .int a2, .int a3]) below meth c H locs 0 0 (MQ below (va_Qi (P_X12_comesTo_1 ad cy B qr s1 a1 a2 a3 w0) (fun u : va_W => wpost dC dI cy A u) A) (List.toArray [.ref (ad 0), .int a1, .int a2, .int a3]) s 0 0 A) (F0 m 8 ls []) := by
    intro n8
    induction n8 with
    | zero => intro v8_4 v8_5 H locs ls r1 t2 r3 t4 r5 t6 r7 t8 r9 t10 i11 hm8 hw hl; omega
    | succ n8 ih8 =>
      intro v8_4 v8_5 H locs ls r1 t2 r3 t4 r5 t6 r7 t8 r9 t10 i11 hm8 hw hl
      have L25 : ∀ (n25 : Nat) (v25_4 : Int32) (v25_6 : Int32) (v25_7 : Int32) (H : Heap) (locs : List Loc) (ls : Array Slot), 0 ≤ a1.toInt → a1.toInt ≤ 6 → 0 ≤ a2.toInt → a2.toInt ≤ 4095 → 0 ≤ a3.toInt → a3.toInt ≤ 9 → 1 ≤ v25_4.toInt → v25_4.toInt ≤ 1023 → 1 ≤ v8_4.toInt → v8_4.toInt ≤ 1023 → 0 ≤ v25_7.toInt → v25_7.toInt ≤ 12 → v8_4.toInt ≤ v25_4.toInt + 0 → (v8_5.toInt < v8_4.toInt) → (12 - v25_7.toInt).toNat < n25 → Wd dC dI A s.heap H locs w0 → lv_has ls 9 [(0, .ref (ad 0)), (1, .int a1), (2, .int a2), (3, .int a3), (4, .int v25_4), (5, .int v8_4), (6, .int v25_6), (7, .int v25_7)] → W p l e ({ frames := 2, cells := 0, slots := 0, locals := 34 }) s m (List.toArray [.ref (ad 0), .int a1, .int a2, .int a3]) below meth c H locs 0 0 (MQ below (va_Qi (P_X12_comesTo_1 ad cy B qr s1 a1 a2 a3 w0) (fun u : va_W => wpost dC dI cy A u) A) (List.toArray [.ref (ad 0), .int a1, .int a2, .int a3]) s 0 0 A) (F0 m 25 ls []) := by
        intro n25
        induction n25 with
        | zero => intro v25_4 v25_6 v25_7 H locs ls r12 t13 r14 t15 r16 t17 r18 t19 r20 t21 r22 t23 i24 hcr25_0 hm25 hw hl; omega
        | succ n25 ih25 =>
          intro v25_4 v25_6 v25_7 H locs ls r12 t13 r14 t15 r16 t17 r18 t19 r20 t21 r22 t23 i24 hcr25_0 hm25 hw hl
          have J107 : ∀ (v107_4 : Int32) (v107_6 : Int32) (f107_12_1 : Int32) (H : Heap) (locs : List Loc) (ls : Array Slot), 0 ≤ a1.toInt → a1.toInt ≤ 6 → 0 ≤ a2.toInt → a2.toInt ≤ 4095 → 0 ≤ a3.toInt → a3.toInt ≤ 9 → 1 ≤ v107_4.toInt → v107_4.toInt ≤ 1023 → 1 ≤ v8_4.toInt → v8_4.toInt ≤ 1023 → 0 ≤ v25_7.toInt → v25_7.toInt ≤ 11 → 1 ≤ f107_12_1.toInt → f107_12_1.toInt ≤ 12 → v8_4.toInt ≤ v107_4.toInt + 0 → Wd dC dI A s.heap H locs w0 → gi w0 12 1 = f107_12_1 → lv_has ls 9 [(0, .ref (ad 0)), (1, .int a1), (2, .int a2), (3, .int a3), (4, .int v107_4), (5, .int v8_4), (6, .int v107_6), (7, .int v25_7)] → W p l e ({ frames := 2, cells := 0, slots := 0, locals := 34 }) s m (List.toArray [.ref (ad 0), .int a1, .int a2, .int a3]) below meth c H locs 0 0 (MQ below (va_Qi (P_X12_comesTo_1 ad cy B qr s1 a1 a2 a3 w0) (fun u : va_W => wpost dC dI cy A u) A) (List.toArray [.ref (ad 0), .int a1, .int a2, .int a3]) s 0 0 A) (F0 m 107 ls []) := by
            intro v107_4 v107_6 f107_12_1 H locs ls r25 t26 r27 t28 r29 t30 r31 t32 r33 t34 r35 t36 r37 t38 i40 hw c39 hl
            obtain ⟨x41, ex41⟩ : ∃ y : Int32, y = v25_7 + Int32.ofInt 1 := ⟨_, rfl⟩
            refine lv_iinc (v := x41) (lv' := [(7, .int x41), (0, .ref (ad 0)), (1, .int a1), (2, .int a2), (3, .int a3), (4, .int v107_4), (5, .int v8_4), (6, .int v107_6)]) hx hb dX12_comesTo_107 hl (k := 7) rfl ex41.symm (by decide) rfl (fun ls hl => ?_)
            have ex41 : x41.toInt = v25_7.toInt + 1 := by rw [ex41]; exact wk_add (y := 1) (show -2147483648 ≤ v25_7.toInt + 1 by omega) (show v25_7.toInt + 1 ≤ 2147483647 by omega)
            refine lv_goto (tgt := 25) hx hb dX12_comesTo_110 (by decide) ?_
            exact ih25 v107_4 v107_6 x41 H locs ls  (show 0 ≤ a1.toInt by omega) (show a1.toInt ≤ 6 by omega) (show 0 ≤ a2.toInt by omega) (show a2.toInt ≤ 4095 by omega) (show 0 ≤ a3.toInt by omega) (show a3.toInt ≤ 9 by omega) (show 1 ≤ v107_4.toInt by omega) (show v107_4.toInt ≤ 1023 by omega) (show 1 ≤ v8_4.toInt by omega) (show v8_4.toInt ≤ 1023 by omega) (show 0 ≤ x41.toInt by omega) (show x41.toInt ≤ 12 by omega) (show v8_4.toInt ≤ v107_4.toInt + 0 by omega) (show v8_5.toInt < v8_4.toInt by omega) (show (12 - x41.toInt).toNat < n25 by omega) hw   (lv_sub hl [1, 2, 3, 4, 5, 6, 7, 0] rfl)
          refine lv_iload hx hb dX12_comesTo_25 (lv_at hl 7 rfl) ?_
          refine lv_aload_n hx hb dX12_comesTo_27 rfl (lv_at hl 0 rfl) ?_
          refine tk_getA hC hK hw hT hinX12 kM_at0 (by decide) rfl 26 (by decide) (List.mem_of_getElem? (i := 1) rfl) rfl rfl dX12_comesTo_28 ?_
          refine lv_iconst (v := 1) hx hb dX12_comesTo_31 (by decide) ?_
          refine tk_ialdR hC hK hw hT kM_at12 rfl (by decide) (by decide) dX12_comesTo_32 (fun x42 c43 Ex42 => ?_)
          have bx42 : 0 ≤ x42.toInt ∧ x42.toInt ≤ 12 := (tk_rg1 rfl).mp Ex42
          have c43 : gi w0 12 1 = x42 := c43
          refine lv_icmp_ge (tgt := 113) hx hb dX12_comesTo_33 (by decide) (fun c44 => ?_) (fun c44 => ?_)
          · have c44 : x42.toInt ≤ v25_7.toInt := wk_le.mp c44
            refine lv_goto (tgt := 8) hx hb dX12_comesTo_113 (by decide) ?_
            exact ih8 v25_4 v8_4 H locs ls  (show 0 ≤ a1.toInt by omega) (show a1.toInt ≤ 6 by omega) (show 0 ≤ a2.toInt by omega) (show a2.toInt ≤ 4095 by omega) (show 0 ≤ a3.toInt by omega) (show a3.toInt ≤ 9 by omega) (show 1 ≤ v25_4.toInt by omega) (show v25_4.toInt ≤ 1023 by omega) (show 0 ≤ v8_4.toInt by omega) (show v8_4.toInt ≤ 1023 by omega) (show v8_4.toInt ≤ v25_4.toInt + 0 by omega) (show (1023 - v8_4.toInt).toNat < n8 by omega) hw   (lv_sub hl [0, 1, 2, 3, 4, 5] rfl)
          · have c44 : v25_7.toInt < x42.toInt := wk_leF c44
            refine lv_aload_n hx hb dX12_comesTo_36 rfl (lv_at hl 0 rfl) ?_
            refine lv_iload hx hb dX12_comesTo_37 (lv_at hl 7 rfl) ?_
            refine lv_iconst (v := 3) hx hb dX12_comesTo_39 (by decide) ?_
            refine lv_iload_n hx hb dX12_comesTo_40 rfl (lv_at hl 1 rfl) ?_
            refine lv_iadd hx hb dX12_comesTo_41 ?_
            refine lv_topi (fun x45 ex45 => ?_)
            have ex45 : x45.toInt = (3 : Int) + a1.toInt := by rw [ex45]; exact wk_add (show (-2147483648) ≤ (3 : Int) + a1.toInt by omega) (show (3 : Int) + a1.toInt ≤ 2147483647 by omega)
            refine tk_Vi hC hK hw hT hA hE hSR kM_at0 (by decide) rfl (k_X12_streetOf_4 l adK adV dC dI cy ad B (by omega) (by omega) qr s1   v25_7 (show 0 ≤ v25_7.toInt by omega) (show v25_7.toInt ≤ 11 by omega) x45 (show 3 ≤ x45.toInt by omega) (show x45.toInt ≤ 9 by omega) w0 H.size hT ) (cwV 2 hC.2.2.2.2 gX12_comesTo_X12_streetOf rfl rfl rfl (by decide +kernel) ⟨Nat.le_of_ble_eq_true rfl, Nat.le_of_ble_eq_true rfl⟩) rfl hl.1 rfl (Nat.le_of_ble_eq_true rfl) dX12_comesTo_42 (fun r46 w48 H locs hp47 hw => ?_)
            obtain ⟨rfl, hg53⟩ := hp47
            obtain ⟨g50, g51, c52⟩ := hg53
            refine lv_if_ne (tgt := 51) hx hb dX12_comesTo_45 (by decide) (fun c54 => ?_) (fun c54 => ?_)
            · have c54 : ¬ r46.toInt = (0 : Int) := wk_eqF c54
              refine lv_iload_n hx hb dX12_comesTo_51 rfl (lv_at hl 2 rfl) ?_
              refine lv_iload hx hb dX12_comesTo_52 (lv_at hl 6 rfl) ?_
              refine tk_Si hC hK hw hT hA hE hSR (k_X12_isOf_6 l adK adV dC dI cy ad B (by omega) (by omega) qr s1   a2 (show 0 ≤ a2.toInt by omega) (show a2.toInt ≤ 4095 by omega) v25_6 w0 H.size hT ) (va_cwS 2 hC.2.2.2.2 gX12_comesTo_X12_isOf rfl rfl rfl (by decide +kernel) ⟨Nat.le_of_ble_eq_true rfl, Nat.le_of_ble_eq_true rfl⟩) rfl hl.1 rfl (Nat.le_of_ble_eq_true rfl) dX12_comesTo_54 (fun r55 w57 H locs hp56 hw => ?_)
              obtain ⟨rfl, hg61⟩ := hp56
              rcases hg61 with ⟨rfl, hq59⟩ | ⟨rfl, hq60⟩
              · refine lv_if_eq (tgt := 64) hx hb dX12_comesTo_57 (by decide) (fun _ => ?_) (fun c => absurd (by decide) c)
                refine lv_iconst (v := 0) hx hb dX12_comesTo_64 (by decide) ?_
                refine lv_istore (lv' := [(8, .int 0), (0, .ref (ad 0)), (1, .int a1), (2, .int a2), (3, .int a3), (4, .int v25_4), (5, .int v8_4), (6, .int v25_6), (7, .int v25_7)]) hx hb dX12_comesTo_65 hl (by decide) rfl (fun ls hl => ?_)
                refine lv_iload hx hb dX12_comesTo_67 (lv_at hl 5 rfl) ?_
                refine lv_iload hx hb dX12_comesTo_69 (lv_at hl 5 rfl) ?_
                refine lv_aload_n hx hb dX12_comesTo_71 rfl (lv_at hl 1 rfl) ?_
                refine lv_iload hx hb dX12_comesTo_72 (lv_at hl 8 rfl) ?_
                refine lv_iload hx hb dX12_comesTo_74 (lv_at hl 0 rfl) ?_
                refine tk_Vi hC hK hw hT hA hE hSR kM_at0 (by decide) rfl (k_X12_streetOf_2 l adK adV dC dI cy ad B (by omega) (by omega) qr s1   v25_7 (show 0 ≤ v25_7.toInt by omega) (show v25_7.toInt ≤ 11 by omega) w0 H.size hT ) (cwV 2 hC.2.2.2.2 gX12_comesTo_X12_streetOf rfl rfl rfl (by decide +kernel) ⟨Nat.le_of_ble_eq_true rfl, Nat.le_of_ble_eq_true rfl⟩) rfl hl.1 rfl (Nat.le_of_ble_eq_true rfl) dX12_comesTo_76 (fun r62 w64 H locs hp63 hw => ?_)
                obtain ⟨rfl, hg69⟩ := hp63
                obtain ⟨g66, g67, c68⟩ := hg69
                refine tk_Si hC hK hw hT hA hE hSR (k_X12_isOf_7 l adK adV dC dI cy ad B (by omega) (by omega) qr s1   v25_4 (show 1 ≤ v25_4.toInt by omega) (show v25_4.toInt ≤ 1023 by omega) r62 (show 0 ≤ r62.toInt by omega) (show r62.toInt ≤ 9 by omega) w0 H.size hT ) (va_cwS 2 hC.2.2.2.2 gX12_comesTo_X12_isOf rfl rfl rfl (by decide +kernel) ⟨Nat.le_of_ble_eq_true rfl, Nat.le_of_ble_eq_true rfl⟩) rfl hl.1 rfl (Nat.le_of_ble_eq_true rfl) dX12_comesTo_79 (fun r70 w72 H locs hp71 hw => ?_)
                obtain ⟨rfl, hg76⟩ := hp71
                rcases hg76 with ⟨rfl, hq74⟩ | ⟨rfl, hq75⟩
                · refine lv_if_eq (tgt := 100) hx hb dX12_comesTo_82 (by decide) (fun _ => ?_) (fun c => absurd (by decide) c)
                  refine lv_iconst (v := 0) hx hb dX12_comesTo_100 (by decide) ?_
                  refine lv_ior hx hb dX12_comesTo_101 ?_
                  refine lv_topi (fun x77 ex77 => ?_)
                  have bx77 : 0 ≤ x77.toInt ∧ x77.toInt < 1024 := by rw [ex77]; exact wk_or 10 (by decide) (by omega) (by omega) (by decide) (by decide)
                  have mx77 : v25_4.toInt ≤ x77.toInt ∧ (0 : Int) ≤ x77.toInt := by rw [ex77]; exact wk_orL 10 (by decide) (by omega) (by omega) (by decide) (by decide)
                  refine lv_istore (lv' := [(4, .int x77), (8, .int 0), (0, .ref (ad 0)), (1, .int a1), (2, .int a2), (3, .int a3), (5, .int v8_4), (6, .int v25_6), (7, .int v25_7)]) hx hb dX12_comesTo_102 hl (by decide) rfl (fun ls hl => ?_)
                  have nx79 := wk_i32 v25_6
                  obtain ⟨x78, ex78⟩ : ∃ y : Int32, y = v25_6 + Int32.ofInt 1 := ⟨_, rfl⟩
                  refine lv_iinc (v := x78) (lv' := [(6, .int x78), (4, .int x77), (8, .int 0), (0, .ref (ad 0)), (1, .int a1), (2, .int a2), (3, .int a3), (5, .int v8_4), (7, .int v25_7)]) hx hb dX12_comesTo_104 hl (k := 7) rfl ex78.symm (by decide) rfl (fun ls hl => ?_)
                  exact J107 x77 x78 x42 H locs ls  (show 0 ≤ a1.toInt by omega) (show a1.toInt ≤ 6 by omega) (show 0 ≤ a2.toInt by omega) (show a2.toInt ≤ 4095 by omega) (show 0 ≤ a3.toInt by omega) (show a3.toInt ≤ 9 by omega) (show 1 ≤ x77.toInt by omega) (show x77.toInt ≤ 1023 by omega) (show 1 ≤ v8_4.toInt by omega) (show v8_4.toInt ≤ 1023 by omega) (show 0 ≤ v25_7.toInt by omega) (show v25_7.toInt ≤ 11 by omega) (show 1 ≤ x42.toInt by omega) (show x42.toInt ≤ 12 by omega) (show v8_4.toInt ≤ x77.toInt + 0 by omega)  hw  c43 (lv_sub hl [3, 4, 5, 6, 1, 7, 0, 8] rfl)
                · refine lv_if_eq (tgt := 100) hx hb dX12_comesTo_82 (by decide) (fun c => absurd c (by decide)) (fun _ => ?_)
                  refine lv_iconst (v := 1) hx hb dX12_comesTo_85 (by decide) ?_
                  refine lv_aload_n hx hb dX12_comesTo_86 rfl (lv_at hl 1 rfl) ?_
                  refine lv_iload hx hb dX12_comesTo_87 (lv_at hl 8 rfl) ?_
                  refine lv_iconst (v := 1) hx hb dX12_comesTo_89 (by decide) ?_
                  refine lv_iload hx hb dX12_comesTo_90 (lv_at hl 0 rfl) ?_
                  refine lv_isub hx hb dX12_comesTo_92 ?_
                  refine wk_top 1 (by decide) ?_
                  refine tk_Vi hC hK hw hT hA hE hSR kM_at0 (by decide) rfl (k_X12_streetOf_3 l adK adV dC dI cy ad B (by omega) (by omega) qr s1   v25_7 (show 0 ≤ v25_7.toInt by omega) (show v25_7.toInt ≤ 11 by omega) w0 H.size hT ) (cwV 2 hC.2.2.2.2 gX12_comesTo_X12_streetOf rfl rfl rfl (by decide +kernel) ⟨Nat.le_of_ble_eq_true rfl, Nat.le_of_ble_eq_true rfl⟩) rfl hl.1 rfl (Nat.le_of_ble_eq_true rfl) dX12_comesTo_93 (fun r80 w82 H locs hp81 hw => ?_)
                  obtain ⟨rfl, hg87⟩ := hp81
                  obtain ⟨g84, g85, c86⟩ := hg87
                  refine lv_ishl hx hb dX12_comesTo_96 ?_
                  refine lv_topi (fun x88 ex88 => ?_)
                  have bx88 : 1 ≤ x88.toInt ∧ x88.toInt ≤ 512 := by rw [ex88]; exact wk_shl1 9 (by decide) (by omega) (by omega)
                  refine lv_goto (tgt := 101) hx hb dX12_comesTo_97 (by decide) ?_
                  refine lv_ior hx hb dX12_comesTo_101 ?_
                  refine lv_topi (fun x89 ex89 => ?_)
                  have bx89 : 0 ≤ x89.toInt ∧ x89.toInt < 1024 := by rw [ex89]; exact wk_or 10 (by decide) (by omega) (by omega) (by omega) (by omega)
                  have mx89 : v25_4.toInt ≤ x89.toInt ∧ x88.toInt ≤ x89.toInt := by rw [ex89]; exact wk_orL 10 (by decide) (by omega) (by omega) (by omega) (by omega)
                  refine lv_istore (lv' := [(4, .int x89), (8, .int 0), (0, .ref (ad 0)), (1, .int a1), (2, .int a2), (3, .int a3), (5, .int v8_4), (6, .int v25_6), (7, .int v25_7)]) hx hb dX12_comesTo_102 hl (by decide) rfl (fun ls hl => ?_)
                  have nx91 := wk_i32 v25_6
                  obtain ⟨x90, ex90⟩ : ∃ y : Int32, y = v25_6 + Int32.ofInt 1 := ⟨_, rfl⟩
                  refine lv_iinc (v := x90) (lv' := [(6, .int x90), (4, .int x89), (8, .int 0), (0, .ref (ad 0)), (1, .int a1), (2, .int a2), (3, .int a3), (5, .int v8_4), (7, .int v25_7)]) hx hb dX12_comesTo_104 hl (k := 7) rfl ex90.symm (by decide) rfl (fun ls hl => ?_)
                  exact J107 x89 x90 x42 H locs ls  (show 0 ≤ a1.toInt by omega) (show a1.toInt ≤ 6 by omega) (show 0 ≤ a2.toInt by omega) (show a2.toInt ≤ 4095 by omega) (show 0 ≤ a3.toInt by omega) (show a3.toInt ≤ 9 by omega) (show 1 ≤ x89.toInt by omega) (show x89.toInt ≤ 1023 by omega) (show 1 ≤ v8_4.toInt by omega) (show v8_4.toInt ≤ 1023 by omega) (show 0 ≤ v25_7.toInt by omega) (show v25_7.toInt ≤ 11 by omega) (show 1 ≤ x42.toInt by omega) (show x42.toInt ≤ 12 by omega) (show v8_4.toInt ≤ x89.toInt + 0 by omega)  hw  c43 (lv_sub hl [3, 4, 5, 6, 1, 7, 0, 8] rfl)
              · refine lv_if_eq (tgt := 64) hx hb dX12_comesTo_57 (by decide) (fun c => absurd c (by decide)) (fun _ => ?_)
                refine lv_iconst (v := 1) hx hb dX12_comesTo_60 (by decide) ?_
                refine lv_goto (tgt := 65) hx hb dX12_comesTo_61 (by decide) ?_
                refine lv_istore (lv' := [(8, .int 1), (0, .ref (ad 0)), (1, .int a1), (2, .int a2), (3, .int a3), (4, .int v25_4), (5, .int v8_4), (6, .int v25_6), (7, .int v25_7)]) hx hb dX12_comesTo_65 hl (by decide) rfl (fun ls hl => ?_)
                refine lv_iload hx hb dX12_comesTo_67 (lv_at hl 5 rfl) ?_
                refine lv_iload hx hb dX12_comesTo_69 (lv_at hl 5 rfl) ?_
                refine lv_aload_n hx hb dX12_comesTo_71 rfl (lv_at hl 1 rfl) ?_
                refine lv_iload hx hb dX12_comesTo_72 (lv_at hl 8 rfl) ?_
                refine lv_iload hx hb dX12_comesTo_74 (lv_at hl 0 rfl) ?_
                refine tk_Vi hC hK hw hT hA hE hSR kM_at0 (by decide) rfl (k_X12_streetOf_3 l adK adV dC dI cy ad B (by omega) (by omega) qr s1   v25_7 (show 0 ≤ v25_7.toInt by omega) (show v25_7.toInt ≤ 11 by omega) w0 H.size hT ) (cwV 2 hC.2.2.2.2 gX12_comesTo_X12_streetOf rfl rfl rfl (by decide +kernel) ⟨Nat.le_of_ble_eq_true rfl, Nat.le_of_ble_eq_true rfl⟩) rfl hl.1 rfl (Nat.le_of_ble_eq_true rfl) dX12_comesTo_76 (fun r92 w94 H locs hp93 hw => ?_)
                obtain ⟨rfl, hg99⟩ := hp93
                obtain ⟨g96, g97, c98⟩ := hg99
                refine tk_Si hC hK hw hT hA hE hSR (k_X12_isOf_7 l adK adV dC dI cy ad B (by omega) (by omega) qr s1   v25_4 (show 1 ≤ v25_4.toInt by omega) (show v25_4.toInt ≤ 1023 by omega) r92 (show 0 ≤ r92.toInt by omega) (show r92.toInt ≤ 9 by omega) w0 H.size hT ) (va_cwS 2 hC.2.2.2.2 gX12_comesTo_X12_isOf rfl rfl rfl (by decide +kernel) ⟨Nat.le_of_ble_eq_true rfl, Nat.le_of_ble_eq_true rfl⟩) rfl hl.1 rfl (Nat.le_of_ble_eq_true rfl) dX12_comesTo_79 (fun r100 w102 H locs hp101 hw => ?_)
                obtain ⟨rfl, hg106⟩ := hp101
                rcases hg106 with ⟨rfl, hq104⟩ | ⟨rfl, hq105⟩
                · refine lv_if_eq (tgt := 100) hx hb dX12_comesTo_82 (by decide) (fun _ => ?_) (fun c => absurd (by decide) c)
                  refine lv_iconst (v := 0) hx hb dX12_comesTo_100 (by decide) ?_
                  refine lv_ior hx hb dX12_comesTo_101 ?_
                  refine lv_topi (fun x107 ex107 => ?_)
                  have bx107 : 0 ≤ x107.toInt ∧ x107.toInt < 1024 := by rw [ex107]; exact wk_or 10 (by decide) (by omega) (by omega) (by decide) (by decide)
                  have mx107 : v25_4.toInt ≤ x107.toInt ∧ (0 : Int) ≤ x107.toInt := by rw [ex107]; exact wk_orL 10 (by decide) (by omega) (by omega) (by decide) (by decide)
                  refine lv_istore (lv' := [(4, .int x107), (8, .int 1), (0, .ref (ad 0)), (1, .int a1), (2, .int a2), (3, .int a3), (5, .int v8_4), (6, .int v25_6), (7, .int v25_7)]) hx hb dX12_comesTo_102 hl (by decide) rfl (fun ls hl => ?_)
                  have nx109 := wk_i32 v25_6
                  obtain ⟨x108, ex108⟩ : ∃ y : Int32, y = v25_6 + Int32.ofInt 1 := ⟨_, rfl⟩
                  refine lv_iinc (v := x108) (lv' := [(6, .int x108), (4, .int x107), (8, .int 1), (0, .ref (ad 0)), (1, .int a1), (2, .int a2), (3, .int a3), (5, .int v8_4), (7, .int v25_7)]) hx hb dX12_comesTo_104 hl (k := 7) rfl ex108.symm (by decide) rfl (fun ls hl => ?_)
                  exact J107 x107 x108 x42 H locs ls  (show 0 ≤ a1.toInt by omega) (show a1.toInt ≤ 6 by omega) (show 0 ≤ a2.toInt by omega) (show a2.toInt ≤ 4095 by omega) (show 0 ≤ a3.toInt by omega) (show a3.toInt ≤ 9 by omega) (show 1 ≤ x107.toInt by omega) (show x107.toInt ≤ 1023 by omega) (show 1 ≤ v8_4.toInt by omega) (show v8_4.toInt ≤ 1023 by omega) (show 0 ≤ v25_7.toInt by omega) (show v25_7.toInt ≤ 11 by omega) (show 1 ≤ x42.toInt by omega) (show x42.toInt ≤ 12 by omega) (show v8_4.toInt ≤ x107.toInt + 0 by omega)  hw  c43 (lv_sub hl [3, 4, 5, 6, 1, 7, 0, 8] rfl)
                · refine lv_if_eq (tgt := 100) hx hb dX12_comesTo_82 (by decide) (fun c => absurd c (by decide)) (fun _ => ?_)
                  refine lv_iconst (v := 1) hx hb dX12_comesTo_85 (by decide) ?_
                  refine lv_aload_n hx hb dX12_comesTo_86 rfl (lv_at hl 1 rfl) ?_
                  refine lv_iload hx hb dX12_comesTo_87 (lv_at hl 8 rfl) ?_
                  refine lv_iconst (v := 1) hx hb dX12_comesTo_89 (by decide) ?_
                  refine lv_iload hx hb dX12_comesTo_90 (lv_at hl 0 rfl) ?_
                  refine lv_isub hx hb dX12_comesTo_92 ?_
                  refine wk_top 0 (by decide) ?_
                  refine tk_Vi hC hK hw hT hA hE hSR kM_at0 (by decide) rfl (k_X12_streetOf_2 l adK adV dC dI cy ad B (by omega) (by omega) qr s1   v25_7 (show 0 ≤ v25_7.toInt by omega) (show v25_7.toInt ≤ 11 by omega) w0 H.size hT ) (cwV 2 hC.2.2.2.2 gX12_comesTo_X12_streetOf rfl rfl rfl (by decide +kernel) ⟨Nat.le_of_ble_eq_true rfl, Nat.le_of_ble_eq_true rfl⟩) rfl hl.1 rfl (Nat.le_of_ble_eq_true rfl) dX12_comesTo_93 (fun r110 w112 H locs hp111 hw => ?_)
                  obtain ⟨rfl, hg117⟩ := hp111
                  obtain ⟨g114, g115, c116⟩ := hg117
                  refine lv_ishl hx hb dX12_comesTo_96 ?_
                  refine lv_topi (fun x118 ex118 => ?_)
                  have bx118 : 1 ≤ x118.toInt ∧ x118.toInt ≤ 512 := by rw [ex118]; exact wk_shl1 9 (by decide) (by omega) (by omega)
                  refine lv_goto (tgt := 101) hx hb dX12_comesTo_97 (by decide) ?_
                  refine lv_ior hx hb dX12_comesTo_101 ?_
                  refine lv_topi (fun x119 ex119 => ?_)
                  have bx119 : 0 ≤ x119.toInt ∧ x119.toInt < 1024 := by rw [ex119]; exact wk_or 10 (by decide) (by omega) (by omega) (by omega) (by omega)
                  have mx119 : v25_4.toInt ≤ x119.toInt ∧ x118.toInt ≤ x119.toInt := by rw [ex119]; exact wk_orL 10 (by decide) (by omega) (by omega) (by omega) (by omega)
                  refine lv_istore (lv' := [(4, .int x119), (8, .int 1), (0, .ref (ad 0)), (1, .int a1), (2, .int a2), (3, .int a3), (5, .int v8_4), (6, .int v25_6), (7, .int v25_7)]) hx hb dX12_comesTo_102 hl (by decide) rfl (fun ls hl => ?_)
                  have nx121 := wk_i32 v25_6
                  obtain ⟨x120, ex120⟩ : ∃ y : Int32, y = v25_6 + Int32.ofInt 1 := ⟨_, rfl⟩
                  refine lv_iinc (v := x120) (lv' := [(6, .int x120), (4, .int x119), (8, .int 1), (0, .ref (ad 0)), (1, .int a1), (2, .int a2), (3, .int a3), (5, .int v8_4), (7, .int v25_7)]) hx hb dX12_comesTo_104 hl (k := 7) rfl ex120.symm (by decide) rfl (fun ls hl => ?_)
                  exact J107 x119 x120 x42 H locs ls  (show 0 ≤ a1.toInt by omega) (show a1.toInt ≤ 6 by omega) (show 0 ≤ a2.toInt by omega) (show a2.toInt ≤ 4095 by omega) (show 0 ≤ a3.toInt by omega) (show a3.toInt ≤ 9 by omega) (show 1 ≤ x119.toInt by omega) (show x119.toInt ≤ 1023 by omega) (show 1 ≤ v8_4.toInt by omega) (show v8_4.toInt ≤ 1023 by omega) (show 0 ≤ v25_7.toInt by omega) (show v25_7.toInt ≤ 11 by omega) (show 1 ≤ x42.toInt by omega) (show x42.toInt ≤ 12 by omega) (show v8_4.toInt ≤ x119.toInt + 0 by omega)  hw  c43 (lv_sub hl [3, 4, 5, 6, 1, 7, 0, 8] rfl)
            · have c54 : r46.toInt = (0 : Int) := wk_eq.mp c54
              refine lv_goto (tgt := 107) hx hb dX12_comesTo_48 (by decide) ?_
              exact J107 v25_4 v25_6 x42 H locs ls  (show 0 ≤ a1.toInt by omega) (show a1.toInt ≤ 6 by omega) (show 0 ≤ a2.toInt by omega) (show a2.toInt ≤ 4095 by omega) (show 0 ≤ a3.toInt by omega) (show a3.toInt ≤ 9 by omega) (show 1 ≤ v25_4.toInt by omega) (show v25_4.toInt ≤ 1023 by omega) (show 1 ≤ v8_4.toInt by omega) (show v8_4.toInt ≤ 1023 by omega) (show 0 ≤ v25_7.toInt by omega) (show v25_7.toInt ≤ 11 by omega) (show 1 ≤ x42.toInt by omega) (show x42.toInt ≤ 12 by omega) (show v8_4.toInt ≤ v25_4.toInt + 0 by omega)  hw  c43 (lv_sub hl [0, 1, 2, 3, 4, 5, 6, 7] rfl)
      refine lv_iload hx hb dX12_comesTo_8 (lv_at hl 4 rfl) ?_
      refine lv_iload hx hb dX12_comesTo_10 (lv_at hl 5 rfl) ?_
      refine lv_icmp_eq (tgt := 116) hx hb dX12_comesTo_12 (by decide) (fun c122 => ?_) (fun c122 => ?_)
      · have c122 : v8_4.toInt = v8_5.toInt := wk_eq.mp c122
        refine lv_iload hx hb dX12_comesTo_116 (lv_at hl 4 rfl) ?_
        exact tk_iret hC hr hlocks hK ⟨rfl, ⟨(show 1 ≤ v8_4.toInt by omega), (show v8_4.toInt ≤ 1023 by omega)⟩⟩ hw dX12_comesTo_118
      · have c122 : ¬ v8_4.toInt = v8_5.toInt := wk_eqF c122
        refine lv_iload hx hb dX12_comesTo_15 (lv_at hl 4 rfl) ?_
        refine lv_istore (lv' := [(5, .int v8_4), (0, .ref (ad 0)), (1, .int a1), (2, .int a2), (3, .int a3), (4, .int v8_4)]) hx hb dX12_comesTo_17 hl (by decide) rfl (fun ls hl => ?_)
        refine lv_iconst (v := 0) hx hb dX12_comesTo_19 (by decide) ?_
        refine lv_istore (lv' := [(6, .int 0), (5, .int v8_4), (0, .ref (ad 0)), (1, .int a1), (2, .int a2), (3, .int a3), (4, .int v8_4)]) hx hb dX12_comesTo_20 hl (by decide) rfl (fun ls hl => ?_)
        refine lv_iconst (v := 0) hx hb dX12_comesTo_22 (by decide) ?_
        refine lv_istore (lv' := [(7, .int 0), (6, .int 0), (5, .int v8_4), (0, .ref (ad 0)), (1, .int a1), (2, .int a2), (3, .int a3), (4, .int v8_4)]) hx hb dX12_comesTo_23 hl (by decide) rfl (fun ls hl => ?_)
        exact L25 ((12 - (0 : Int)).toNat + 1) v8_4 0 0 H locs ls  (show 0 ≤ a1.toInt by omega) (show a1.toInt ≤ 6 by omega) (show 0 ≤ a2.toInt by omega) (show a2.toInt ≤ 4095 by omega) (show 0 ≤ a3.toInt by omega) (show a3.toInt ≤ 9 by omega) (show 1 ≤ v8_4.toInt by omega) (show v8_4.toInt ≤ 1023 by omega) (show 1 ≤ v8_4.toInt by omega) (show v8_4.toInt ≤ 1023 by omega) (by decide) (by decide) (show v8_4.toInt ≤ v8_4.toInt + 0 by omega) (show v8_5.toInt < v8_4.toInt by omega) (Nat.lt_succ_self _) hw   (lv_sub hl [3, 4, 5, 6, 7, 2, 1, 0] rfl)
  refine lv_iconst (v := 1) hx hb dX12_comesTo_0 (by decide) ?_
  refine lv_iload_n hx hb dX12_comesTo_1 rfl (lv_at hl 3 rfl) ?_
  refine lv_ishl hx hb dX12_comesTo_2 ?_
  refine lv_topi (fun x123 ex123 => ?_)
  have bx123 : 1 ≤ x123.toInt ∧ x123.toInt ≤ 512 := by rw [ex123]; exact wk_shl1 9 (by decide) (by omega) (by omega)
  refine lv_istore (lv' := [(4, .int x123), (0, .ref (ad 0)), (1, .int a1), (2, .int a2), (3, .int a3)]) hx hb dX12_comesTo_3 hl (by decide) rfl (fun ls hl => ?_)
  refine lv_iconst (v := 0) hx hb dX12_comesTo_5 (by decide) ?_
  refine lv_istore (lv' := [(5, .int 0), (4, .int x123), (0, .ref (ad 0)), (1, .int a1), (2, .int a2), (3, .int a3)]) hx hb dX12_comesTo_6 hl (by decide) rfl (fun ls hl => ?_)
  exact L8 ((1023 - (0 : Int)).toNat + 1) x123 0 s.heap locs ls  (show 0 ≤ a1.toInt by omega) (show a1.toInt ≤ 6 by omega) (show 0 ≤ a2.toInt by omega) (show a2.toInt ≤ 4095 by omega) (show 0 ≤ a3.toInt by omega) (show a3.toInt ≤ 9 by omega) (show 1 ≤ x123.toInt by omega) (show x123.toInt ≤ 1023 by omega) (by decide) (by decide) (show (0 : Int) ≤ x123.toInt + 0 by omega) (Nat.lt_succ_self _) hw   (lv_sub hl [2, 3, 4, 5, 1, 0] rfl)
abbrev P_X12_doneBy_1 (ad : Nat → Nat) (cy : Nat → ClassId) (B : Int) (qr : Nat) (s1 : Int) (a1 : Int32) (a2 : Int32) (w0 : va_W) : Int32 → va_W → Prop := fun r u => w0 = u ∧ ((0 ≤ r.toInt ∧ r.toInt ≤ 63))
set_option maxHeartbeats 4000000 in
set_option maxRecDepth 100000 in
theorem k_X12_doneBy_1 (l : Launch) (adK adV : Nat → Nat) (dC : Nat → ClassId) (dI : Nat → Nat → Nat) (cy : Nat → ClassId) (ad : Nat → Nat) (B : Int) (hB0 : 100000 ≤ B) (hB1 : B ≤ 1073741824) (qr : Nat) (s1 : Int)  (a1 : Int32) (ra1 : 0 ≤ a1.toInt) (ta1 : a1.toInt ≤ 6) (a2 : Int32) (ra2 : 0 ≤ a2.toInt) (ta2 : a2.toInt ≤ 4095) (w0 : va_W) (sz : Nat) (hT : TW ksM ad cy B qr 12 w0)  : Met l yX12_doneBy wsX12_doneBy ({ frames := 3, cells := 0, slots := 0, locals := 62 }) (va_Pc [.ref (ad 0), .int a1, .int a2] (wpreS adK adV dC dI cy sz w0)) (va_Qi (P_X12_doneBy_1 ad cy B qr s1 a1 a2 w0) (fun u : va_W => wpost dC dI cy (va_A w0 sz) u) (va_A w0 sz)) 0 0 (va_A w0 sz) := by
  refine Met.ofW (cc := cX12_doneBy) (maxL := 5) (ret := (some .int)) (by decide) rfl ?_
  intro p e s m args below meth c s₁ Bk hml hv
  obtain ⟨rfl, ⟨hsz, hP, hK, hD0⟩, hE, hSR⟩ := hv
  have hx := Bk.exec
  have hb := Bk.bytes
  have hr := Bk.returns
  have hlocks := Bk.notSynchronized
  have hC : CallFix p m c cX12_doneBy 5 s _ wsX12_doneBy RX12 := ⟨hx, hb, hml, findClass_of_methodNamed Bk.named, atoms_spec (ws := wsX12_doneBy) Bk.pre⟩
  subst hsz
  have hD := hD0.self (sz := s.heap.size)
  generalize hAe : va_A w0 s.heap.size = A at hD hE ⊢
  have hA : ∀ q : Nat, s.heap.size ≤ q → A q := fun q h => by rw [← hAe]; exact Or.inr h
  have hw : Wd dC dI A s.heap s.heap [] w0 := ⟨hP, hD, va_S.rf⟩
  have hF : FE ksM ([] : List (Nat × Nat × Nat)) w0 w0 := FE.rf
  have hl := lv_entry ([.ref (ad 0), .int a1, .int a2]) (n := 5) (Nat.le_of_ble_eq_true rfl)
  rw [lg_entry_eq]
  generalize (lg_sl ([.ref (ad 0), .int a1, .int a2]) ++ List.replicate (5 - (lg_sl ([.ref (ad 0), .int a1, .int a2])).length) Slot.unset).toArray = ls at hl ⊢
  have hl : lv_has ls 5 [(0, .ref (ad 0)), (1, .int a1), (2, .int a2)] := hl
  generalize hloc : ([] : List Loc) = locs at hw ⊢
  have hinX12 : ∀ w ∈ u_ws RX12 TX12 42, w ∈ wsX12_doneBy := fun _ h => List.mem_cons_of_mem _ (List.mem_append_right _ (h))
  have L5 : ∀ (n5 : Nat) (v5_3 : Int32) (v5_4 : Int32) (H : Heap) (locs : List Loc) (ls : Array Slot), 0 ≤ a1.toInt → a1.toInt ≤ 6 → 0 ≤ a2.toInt → a2.toInt ≤ 4095 → 0 ≤ v5_3.toInt → v5_3.toInt ≤ 63 → 0 ≤ v5_4.toInt → v5_4.toInt ≤ 6 → (6 - v5_4.toInt).toNat < n5 → Wd dC dI A s.heap H locs w0 → lv_has ls 5 [(0, .ref (ad 0)), (1, .int a1), (2, .int a2), (3, .int v5_3), (4, .int v5_4)] → W p l e ({ frames := 3, cells := 0, slots := 0, locals := 62 }) s m (List.toArray [.ref (ad 0), .int a1, .int a2]) below meth c H locs 0 0 (MQ below (va_Qi (P_X12_doneBy_1 ad cy B qr s1 a1 a2 w0) (fun u : va_W => wpost dC dI cy A u) A) (List.toArray [.ref (ad 0), .int a1, .int a2]) s 0 0 A) (F0 m 5 ls []) := by
    intro n5
    induction n5 with
    | zero => intro v5_3 v5_4 H locs ls r1 t2 r3 t4 r5 t6 r7 t8 hm5 hw hl; omega
    | succ n5 ih5 =>
      intro v5_3 v5_4 H locs ls r1 t2 r3 t4 r5 t6 r7 t8 hm5 hw hl
      refine lv_iload hx hb dX12_doneBy_5 (lv_at hl 4 rfl) ?_
      refine lv_aload_n hx hb dX12_doneBy_7 rfl (lv_at hl 0 rfl) ?_
      refine tk_getA hC hK hw hT hinX12 kM_at0 (by decide) rfl 26 (by decide) (List.mem_of_getElem? (i := 1) rfl) rfl rfl dX12_doneBy_8 ?_
      refine lv_bipush (v := 6) hx hb dX12_doneBy_11 (by decide) ?_
      refine tk_ialdR hC hK hw hT kM_at12 rfl (by decide) (by decide) dX12_doneBy_13 (fun x9 c10 Ex9 => ?_)
      have bx9 := tk_rgI rfl 6 1 1 0 6 (by decide +kernel) ⟨0, by decide, by decide⟩ Ex9
      have c10 : gi w0 12 6 = x9 := c10
      refine lv_icmp_ge (tgt := 74) hx hb dX12_doneBy_14 (by decide) (fun c11 => ?_) (fun c11 => ?_)
      · have c11 : x9.toInt ≤ v5_4.toInt := wk_le.mp c11
        refine lv_iload_n hx hb dX12_doneBy_74 rfl (lv_at hl 3 rfl) ?_
        exact tk_iret hC hr hlocks hK ⟨rfl, ⟨(show 0 ≤ v5_3.toInt by omega), (show v5_3.toInt ≤ 63 by omega)⟩⟩ hw dX12_doneBy_75
      · have c11 : v5_4.toInt < x9.toInt := wk_leF c11
        refine lv_iload_n hx hb dX12_doneBy_17 rfl (lv_at hl 3 rfl) ?_
        refine lv_aload_n hx hb dX12_doneBy_18 rfl (lv_at hl 0 rfl) ?_
        refine lv_iload_n hx hb dX12_doneBy_19 rfl (lv_at hl 1 rfl) ?_
        refine lv_iload_n hx hb dX12_doneBy_20 rfl (lv_at hl 2 rfl) ?_
        refine lv_aload_n hx hb dX12_doneBy_21 rfl (lv_at hl 0 rfl) ?_
        refine tk_getA hC hK hw hT hinX12 kM_at0 (by decide) rfl 26 (by decide) (List.mem_of_getElem? (i := 1) rfl) rfl rfl dX12_doneBy_22 ?_
        refine lv_sipush (v := 252) hx hb dX12_doneBy_25 (by decide) ?_
        refine lv_iconst (v := 2) hx hb dX12_doneBy_28 (by decide) ?_
        refine lv_iload hx hb dX12_doneBy_29 (lv_at hl 4 rfl) ?_
        refine lv_imul hx hb dX12_doneBy_31 ?_
        refine lv_topi (fun x12 ex12 => ?_)
        have ex12 : x12.toInt = (2 : Int) * v5_4.toInt := by rw [ex12]; exact wk_mul (show (-2147483648) ≤ (2 : Int) * v5_4.toInt by omega) (show (2 : Int) * v5_4.toInt ≤ 2147483647 by omega)
        refine lv_iadd hx hb dX12_doneBy_32 ?_
        refine lv_topi (fun x13 ex13 => ?_)
        have ex13 : x13.toInt = (252 : Int) + x12.toInt := by rw [ex13]; exact wk_add (show (-2147483648) ≤ (252 : Int) + x12.toInt by omega) (show (252 : Int) + x12.toInt ≤ 2147483647 by omega)
        refine tk_ialdR hC hK hw hT kM_at12 rfl (show 0 ≤ x13.toInt by omega) (show x13.toInt < 296 by omega) dX12_doneBy_33 (fun x14 c15 Ex14 => ?_)
        have c15 : gi w0 12 (2 * v5_4.toInt + 252).toNat = x14 := (congrArg (gi w0 12) (congrArg Int.toNat (show 2 * v5_4.toInt + 252 = x13.toInt by omega))).trans c15
        have bx14 := tk_rgI rfl 252 2 6 0 9 (by decide +kernel) ⟨(v5_4.toInt - 0).toNat, by omega, show x13.toInt.toNat = 252 + 2 * (v5_4.toInt - 0).toNat by omega⟩ Ex14
        refine tk_Vi hC hK hw hT hA hE hSR kM_at0 (by decide) rfl (k_X12_comesTo_1 l adK adV dC dI cy ad B (by omega) (by omega) qr s1   a1 (show 0 ≤ a1.toInt by omega) (show a1.toInt ≤ 6 by omega) a2 (show 0 ≤ a2.toInt by omega) (show a2.toInt ≤ 4095 by omega) x14 (show 0 ≤ x14.toInt by omega) (show x14.toInt ≤ 9 by omega) w0 H.size hT ) (cwV 3 hC.2.2.2.2 gX12_doneBy_X12_comesTo rfl rfl rfl (by decide +kernel) ⟨Nat.le_of_ble_eq_true rfl, Nat.le_of_ble_eq_true rfl⟩) rfl hl.1 rfl (Nat.le_of_ble_eq_true rfl) dX12_doneBy_34 (fun r16 w18 H locs hp17 hw => ?_)
        obtain ⟨rfl, hg22⟩ := hp17
        obtain ⟨g20, g21⟩ := hg22
        refine lv_aload_n hx hb dX12_doneBy_37 rfl (lv_at hl 0 rfl) ?_
        refine tk_getA hC hK hw hT hinX12 kM_at0 (by decide) rfl 26 (by decide) (List.mem_of_getElem? (i := 1) rfl) rfl rfl dX12_doneBy_38 ?_
        refine lv_sipush (v := 252) hx hb dX12_doneBy_41 (by decide) ?_
        refine lv_iconst (v := 2) hx hb dX12_doneBy_44 (by decide) ?_
        refine lv_iload hx hb dX12_doneBy_45 (lv_at hl 4 rfl) ?_
        refine lv_imul hx hb dX12_doneBy_47 ?_
        refine lv_topi (fun x23 ex23 => ?_)
        have ex23 : x23.toInt = (2 : Int) * v5_4.toInt := by rw [ex23]; exact wk_mul (show (-2147483648) ≤ (2 : Int) * v5_4.toInt by omega) (show (2 : Int) * v5_4.toInt ≤ 2147483647 by omega)
        refine lv_iadd hx hb dX12_doneBy_48 ?_
        refine lv_topi (fun x24 ex24 => ?_)
        have ex24 : x24.toInt = (252 : Int) + x23.toInt := by rw [ex24]; exact wk_add (show (-2147483648) ≤ (252 : Int) + x23.toInt by omega) (show (252 : Int) + x23.toInt ≤ 2147483647 by omega)
        refine lv_iconst (v := 1) hx hb dX12_doneBy_49 (by decide) ?_
        refine lv_iadd hx hb dX12_doneBy_50 ?_
        refine lv_topi (fun x25 ex25 => ?_)
        have ex25 : x25.toInt = x24.toInt + (1 : Int) := by rw [ex25]; exact wk_add (show (-2147483648) ≤ x24.toInt + (1 : Int) by omega) (show x24.toInt + (1 : Int) ≤ 2147483647 by omega)
        refine tk_ialdR hC hK hw hT kM_at12 rfl (show 0 ≤ x25.toInt by omega) (show x25.toInt < 296 by omega) dX12_doneBy_51 (fun x26 c27 Ex26 => ?_)
        have c27 : gi w0 12 (2 * v5_4.toInt + 253).toNat = x26 := (congrArg (gi w0 12) (congrArg Int.toNat (show 2 * v5_4.toInt + 253 = x25.toInt by omega))).trans c27
        have bx26 := tk_rgI rfl 253 2 6 0 9 (by decide +kernel) ⟨(v5_4.toInt - 0).toNat, by omega, show x25.toInt.toNat = 253 + 2 * (v5_4.toInt - 0).toNat by omega⟩ Ex26
        refine tk_Si hC hK hw hT hA hE hSR (k_X12_isOf_7 l adK adV dC dI cy ad B (by omega) (by omega) qr s1   r16 (show 1 ≤ r16.toInt by omega) (show r16.toInt ≤ 1023 by omega) x26 (show 0 ≤ x26.toInt by omega) (show x26.toInt ≤ 9 by omega) w0 H.size hT ) (va_cwS 2 hC.2.2.2.2 gX12_doneBy_X12_isOf rfl rfl rfl (by decide +kernel) ⟨Nat.le_of_ble_eq_true rfl, Nat.le_of_ble_eq_true rfl⟩) rfl hl.1 rfl (Nat.le_of_ble_eq_true rfl) dX12_doneBy_52 (fun r28 w30 H locs hp29 hw => ?_)
        obtain ⟨rfl, hg34⟩ := hp29
        rcases hg34 with ⟨rfl, hq32⟩ | ⟨rfl, hq33⟩
        · refine lv_if_eq (tgt := 65) hx hb dX12_doneBy_55 (by decide) (fun _ => ?_) (fun c => absurd (by decide) c)
          refine lv_iconst (v := 0) hx hb dX12_doneBy_65 (by decide) ?_
          refine lv_ior hx hb dX12_doneBy_66 ?_
          refine lv_topi (fun x35 ex35 => ?_)
          have bx35 : 0 ≤ x35.toInt ∧ x35.toInt < 64 := by rw [ex35]; exact wk_or 6 (by decide) (by omega) (by omega) (by decide) (by decide)
          have mx35 : v5_3.toInt ≤ x35.toInt ∧ (0 : Int) ≤ x35.toInt := by rw [ex35]; exact wk_orL 6 (by decide) (by omega) (by omega) (by decide) (by decide)
          refine lv_istore_n (lv' := [(3, .int x35), (0, .ref (ad 0)), (1, .int a1), (2, .int a2), (4, .int v5_4)]) hx hb dX12_doneBy_67 rfl hl (by decide) rfl (fun ls hl => ?_)
          obtain ⟨x36, ex36⟩ : ∃ y : Int32, y = v5_4 + Int32.ofInt 1 := ⟨_, rfl⟩
          refine lv_iinc (v := x36) (lv' := [(4, .int x36), (3, .int x35), (0, .ref (ad 0)), (1, .int a1), (2, .int a2)]) hx hb dX12_doneBy_68 hl (k := 4) rfl ex36.symm (by decide) rfl (fun ls hl => ?_)
          have ex36 : x36.toInt = v5_4.toInt + 1 := by rw [ex36]; exact wk_add (y := 1) (show -2147483648 ≤ v5_4.toInt + 1 by omega) (show v5_4.toInt + 1 ≤ 2147483647 by omega)
          refine lv_goto (tgt := 5) hx hb dX12_doneBy_71 (by decide) ?_
          exact ih5 x35 x36 H locs ls  (show 0 ≤ a1.toInt by omega) (show a1.toInt ≤ 6 by omega) (show 0 ≤ a2.toInt by omega) (show a2.toInt ≤ 4095 by omega) (show 0 ≤ x35.toInt by omega) (show x35.toInt ≤ 63 by omega) (show 0 ≤ x36.toInt by omega) (show x36.toInt ≤ 6 by omega) (show (6 - x36.toInt).toNat < n5 by omega) hw   (lv_sub hl [2, 3, 4, 1, 0] rfl)
        · refine lv_if_eq (tgt := 65) hx hb dX12_doneBy_55 (by decide) (fun c => absurd c (by decide)) (fun _ => ?_)
          refine lv_iconst (v := 1) hx hb dX12_doneBy_58 (by decide) ?_
          refine lv_iload hx hb dX12_doneBy_59 (lv_at hl 4 rfl) ?_
          refine lv_ishl hx hb dX12_doneBy_61 ?_
          refine lv_topi (fun x37 ex37 => ?_)
          have bx37 : 1 ≤ x37.toInt ∧ x37.toInt ≤ 32 := by rw [ex37]; exact wk_shl1 5 (by decide) (by omega) (by omega)
          refine lv_goto (tgt := 66) hx hb dX12_doneBy_62 (by decide) ?_
          refine lv_ior hx hb dX12_doneBy_66 ?_
          refine lv_topi (fun x38 ex38 => ?_)
          have bx38 : 0 ≤ x38.toInt ∧ x38.toInt < 64 := by rw [ex38]; exact wk_or 6 (by decide) (by omega) (by omega) (by omega) (by omega)
          have mx38 : v5_3.toInt ≤ x38.toInt ∧ x37.toInt ≤ x38.toInt := by rw [ex38]; exact wk_orL 6 (by decide) (by omega) (by omega) (by omega) (by omega)
          refine lv_istore_n (lv' := [(3, .int x38), (0, .ref (ad 0)), (1, .int a1), (2, .int a2), (4, .int v5_4)]) hx hb dX12_doneBy_67 rfl hl (by decide) rfl (fun ls hl => ?_)
          obtain ⟨x39, ex39⟩ : ∃ y : Int32, y = v5_4 + Int32.ofInt 1 := ⟨_, rfl⟩
          refine lv_iinc (v := x39) (lv' := [(4, .int x39), (3, .int x38), (0, .ref (ad 0)), (1, .int a1), (2, .int a2)]) hx hb dX12_doneBy_68 hl (k := 4) rfl ex39.symm (by decide) rfl (fun ls hl => ?_)
          have ex39 : x39.toInt = v5_4.toInt + 1 := by rw [ex39]; exact wk_add (y := 1) (show -2147483648 ≤ v5_4.toInt + 1 by omega) (show v5_4.toInt + 1 ≤ 2147483647 by omega)
          refine lv_goto (tgt := 5) hx hb dX12_doneBy_71 (by decide) ?_
          exact ih5 x38 x39 H locs ls  (show 0 ≤ a1.toInt by omega) (show a1.toInt ≤ 6 by omega) (show 0 ≤ a2.toInt by omega) (show a2.toInt ≤ 4095 by omega) (show 0 ≤ x38.toInt by omega) (show x38.toInt ≤ 63 by omega) (show 0 ≤ x39.toInt by omega) (show x39.toInt ≤ 6 by omega) (show (6 - x39.toInt).toNat < n5 by omega) hw   (lv_sub hl [2, 3, 4, 1, 0] rfl)
  refine lv_iconst (v := 0) hx hb dX12_doneBy_0 (by decide) ?_
  refine lv_istore_n (lv' := [(3, .int 0), (0, .ref (ad 0)), (1, .int a1), (2, .int a2)]) hx hb dX12_doneBy_1 rfl hl (by decide) rfl (fun ls hl => ?_)
  refine lv_iconst (v := 0) hx hb dX12_doneBy_2 (by decide) ?_
  refine lv_istore (lv' := [(4, .int 0), (3, .int 0), (0, .ref (ad 0)), (1, .int a1), (2, .int a2)]) hx hb dX12_doneBy_3 hl (by decide) rfl (fun ls hl => ?_)
  exact L5 ((6 - (0 : Int)).toNat + 1) 0 0 s.heap locs ls  (show 0 ≤ a1.toInt by omega) (show a1.toInt ≤ 6 by omega) (show 0 ≤ a2.toInt by omega) (show a2.toInt ≤ 4095 by omega) (by decide) (by decide) (by decide) (by decide) (Nat.lt_succ_self _) hw   (lv_sub hl [2, 3, 4, 1, 0] rfl)
abbrev P_X12_isClash_1 (ad : Nat → Nat) (cy : Nat → ClassId) (B : Int) (qr : Nat) (s1 : Int) (a1 : Int32) (a2 : Int32) (w0 : va_W) : Int32 → va_W → Prop := fun r u => w0 = u ∧ ((r = 0) ∨ (r = 1))
set_option maxHeartbeats 4000000 in
set_option maxRecDepth 100000 in
theorem k_X12_isClash_1 (l : Launch) (adK adV : Nat → Nat) (dC : Nat → ClassId) (dI : Nat → Nat → Nat) (cy : Nat → ClassId) (ad : Nat → Nat) (B : Int) (hB0 : 100000 ≤ B) (hB1 : B ≤ 1073741824) (qr : Nat) (s1 : Int)  (a1 : Int32) (ra1 : 1 ≤ a1.toInt) (ta1 : a1.toInt ≤ 63) (a2 : Int32) (ra2 : 0 ≤ a2.toInt) (ta2 : a2.toInt ≤ 63) (w0 : va_W) (sz : Nat) (hT : TW ksM ad cy B qr 12 w0)  : Met l yX12_isClash wsX12_isClash ({ frames := 1, cells := 0, slots := 0, locals := 12 }) (va_Pc [.ref (ad 0), .int a1, .int a2] (wpreS adK adV dC dI cy sz w0)) (va_Qi (P_X12_isClash_1 ad cy B qr s1 a1 a2 w0) (fun u : va_W => wpost dC dI cy (va_A w0 sz) u) (va_A w0 sz)) 0 0 (va_A w0 sz) := by
  refine Met.ofW (cc := cX12_isClash) (maxL := 4) (ret := (some .boolean)) (by decide) rfl ?_
  intro p e s m args below meth c s₁ Bk hml hv
  obtain ⟨rfl, ⟨hsz, hP, hK, hD0⟩, hE, hSR⟩ := hv
  have hx := Bk.exec
  have hb := Bk.bytes
  have hr := Bk.returns
  have hlocks := Bk.notSynchronized
  have hC : CallFix p m c cX12_isClash 4 s _ wsX12_isClash RX12 := ⟨hx, hb, hml, findClass_of_methodNamed Bk.named, atoms_spec (ws := wsX12_isClash) Bk.pre⟩
  subst hsz
  have hD := hD0.self (sz := s.heap.size)
  generalize hAe : va_A w0 s.heap.size = A at hD hE ⊢
  have hA : ∀ q : Nat, s.heap.size ≤ q → A q := fun q h => by rw [← hAe]; exact Or.inr h
  have hw : Wd dC dI A s.heap s.heap [] w0 := ⟨hP, hD, va_S.rf⟩
  have hF : FE ksM ([] : List (Nat × Nat × Nat)) w0 w0 := FE.rf
  have hl := lv_entry ([.ref (ad 0), .int a1, .int a2]) (n := 4) (Nat.le_of_ble_eq_true rfl)
  rw [lg_entry_eq]
  generalize (lg_sl ([.ref (ad 0), .int a1, .int a2]) ++ List.replicate (4 - (lg_sl ([.ref (ad 0), .int a1, .int a2])).length) Slot.unset).toArray = ls at hl ⊢
  have hl : lv_has ls 4 [(0, .ref (ad 0)), (1, .int a1), (2, .int a2)] := hl
  generalize hloc : ([] : List Loc) = locs at hw ⊢
  have hinX12 : ∀ w ∈ u_ws RX12 TX12 42, w ∈ wsX12_isClash := fun _ h => List.mem_cons_of_mem _ (List.mem_append_right _ (h))
  have L2 : ∀ (n2 : Nat) (v2_3 : Int32) (H : Heap) (locs : List Loc) (ls : Array Slot), 1 ≤ a1.toInt → a1.toInt ≤ 63 → 0 ≤ a2.toInt → a2.toInt ≤ 63 → 0 ≤ v2_3.toInt → v2_3.toInt ≤ 64 → (64 - v2_3.toInt).toNat < n2 → Wd dC dI A s.heap H locs w0 → lv_has ls 4 [(0, .ref (ad 0)), (1, .int a1), (2, .int a2), (3, .int v2_3)] → W p l e ({ frames := 1, cells := 0, slots := 0, locals := 12 }) s m (List.toArray [.ref (ad 0), .int a1, .int a2]) below meth c H locs 0 0 (MQ below (va_Qi (P_X12_isClash_1 ad cy B qr s1 a1 a2 w0) (fun u : va_W => wpost dC dI cy A u) A) (List.toArray [.ref (ad 0), .int a1, .int a2]) s 0 0 A) (F0 m 2 ls []) := by
    intro n2
    induction n2 with
    | zero => intro v2_3 H locs ls r1 t2 r3 t4 r5 t6 hm2 hw hl; omega
    | succ n2 ih2 =>
      intro v2_3 H locs ls r1 t2 r3 t4 r5 t6 hm2 hw hl
      have J25 : ∀ (H : Heap) (locs : List Loc) (ls : Array Slot), 1 ≤ a1.toInt → a1.toInt ≤ 63 → 0 ≤ a2.toInt → a2.toInt ≤ 63 → 0 ≤ v2_3.toInt → v2_3.toInt ≤ 63 → Wd dC dI A s.heap H locs w0 → lv_has ls 4 [(0, .ref (ad 0)), (1, .int a1), (2, .int a2), (3, .int v2_3)] → W p l e ({ frames := 1, cells := 0, slots := 0, locals := 12 }) s m (List.toArray [.ref (ad 0), .int a1, .int a2]) below meth c H locs 0 0 (MQ below (va_Qi (P_X12_isClash_1 ad cy B qr s1 a1 a2 w0) (fun u : va_W => wpost dC dI cy A u) A) (List.toArray [.ref (ad 0), .int a1, .int a2]) s 0 0 A) (F0 m 25 ls []) := by
        intro H locs ls r7 t8 r9 t10 r11 t12 hw hl
        obtain ⟨x13, ex13⟩ : ∃ y : Int32, y = v2_3 + Int32.ofInt 1 := ⟨_, rfl⟩
        refine lv_iinc (v := x13) (lv' := [(3, .int x13), (0, .ref (ad 0)), (1, .int a1), (2, .int a2)]) hx hb dX12_isClash_25 hl (k := 3) rfl ex13.symm (by decide) rfl (fun ls hl => ?_)
        have ex13 : x13.toInt = v2_3.toInt + 1 := by rw [ex13]; exact wk_add (y := 1) (show -2147483648 ≤ v2_3.toInt + 1 by omega) (show v2_3.toInt + 1 ≤ 2147483647 by omega)
        refine lv_goto (tgt := 2) hx hb dX12_isClash_28 (by decide) ?_
        exact ih2 x13 H locs ls  (show 1 ≤ a1.toInt by omega) (show a1.toInt ≤ 63 by omega) (show 0 ≤ a2.toInt by omega) (show a2.toInt ≤ 63 by omega) (show 0 ≤ x13.toInt by omega) (show x13.toInt ≤ 64 by omega) (show (64 - x13.toInt).toNat < n2 by omega) hw   (lv_sub hl [1, 2, 3, 0] rfl)
      refine lv_iload_n hx hb dX12_isClash_2 rfl (lv_at hl 3 rfl) ?_
      refine lv_iload_n hx hb dX12_isClash_3 rfl (lv_at hl 2 rfl) ?_
      refine lv_icmp_gt (tgt := 31) hx hb dX12_isClash_4 (by decide) (fun c14 => ?_) (fun c14 => ?_)
      · have c14 : a2.toInt < v2_3.toInt := wk_lt.mp c14
        refine lv_iconst (v := 1) hx hb dX12_isClash_31 (by decide) ?_
        exact tk_zret hC hr rfl hlocks hK ⟨rfl, (Or.inr rfl)⟩ hw dX12_isClash_32
      · have c14 : v2_3.toInt ≤ a2.toInt := wk_ltF c14
        refine lv_aload_n hx hb dX12_isClash_7 rfl (lv_at hl 0 rfl) ?_
        refine tk_getA hC hK hw hT hinX12 kM_at0 (by decide) rfl 38 (by decide) (List.mem_of_getElem? (i := 1) rfl) rfl rfl dX12_isClash_8 ?_
        refine lv_iload_n hx hb dX12_isClash_11 rfl (lv_at hl 3 rfl) ?_
        refine tk_zald hC hK hw hT kM_at20 rfl rfl (show 0 ≤ v2_3.toInt by omega) (show v2_3.toInt < 64 by omega) dX12_isClash_12 (fun x15 c16 rx15 tx15 => ?_)
        refine lv_if_eq (tgt := 25) hx hb dX12_isClash_13 (by decide) (fun c17 => ?_) (fun c17 => ?_)
        · have c17 : x15.toInt = (0 : Int) := wk_eq.mp c17
          exact J25  H locs ls  (show 1 ≤ a1.toInt by omega) (show a1.toInt ≤ 63 by omega) (show 0 ≤ a2.toInt by omega) (show a2.toInt ≤ 63 by omega) (show 0 ≤ v2_3.toInt by omega) (show v2_3.toInt ≤ 63 by omega)  hw   (lv_sub hl [0, 1, 2, 3] rfl)
        · have c17 : ¬ x15.toInt = (0 : Int) := wk_eqF c17
          refine lv_iload_n hx hb dX12_isClash_16 rfl (lv_at hl 3 rfl) ?_
          refine lv_iload_n hx hb dX12_isClash_17 rfl (lv_at hl 1 rfl) ?_
          refine lv_iand hx hb dX12_isClash_18 ?_
          refine lv_topi (fun x18 ex18 => ?_)
          have bx18 : 0 ≤ x18.toInt ∧ x18.toInt ≤ a1.toInt := by rw [ex18]; exact wk_and (by omega)
          refine lv_iload_n hx hb dX12_isClash_19 rfl (lv_at hl 1 rfl) ?_
          refine lv_icmp_ne (tgt := 25) hx hb dX12_isClash_20 (by decide) (fun c19 => ?_) (fun c19 => ?_)
          · have c19 : ¬ x18.toInt = a1.toInt := wk_eqF c19
            exact J25  H locs ls  (show 1 ≤ a1.toInt by omega) (show a1.toInt ≤ 63 by omega) (show 0 ≤ a2.toInt by omega) (show a2.toInt ≤ 63 by omega) (show 0 ≤ v2_3.toInt by omega) (show v2_3.toInt ≤ 63 by omega)  hw   (lv_sub hl [0, 1, 2, 3] rfl)
          · have c19 : x18.toInt = a1.toInt := wk_eq.mp c19
            refine lv_iconst (v := 0) hx hb dX12_isClash_23 (by decide) ?_
            exact tk_zret hC hr rfl hlocks hK ⟨rfl, (Or.inl rfl)⟩ hw dX12_isClash_24
  refine lv_iconst (v := 0) hx hb dX12_isClash_0 (by decide) ?_
  refine lv_istore_n (lv' := [(3, .int 0), (0, .ref (ad 0)), (1, .int a1), (2, .int a2)]) hx hb dX12_isClash_1 rfl hl (by decide) rfl (fun ls hl => ?_)
  exact L2 ((64 - (0 : Int)).toNat + 1) 0 s.heap locs ls  (show 1 ≤ a1.toInt by omega) (show a1.toInt ≤ 63 by omega) (show 0 ≤ a2.toInt by omega) (show a2.toInt ≤ 63 by omega) (by decide) (by decide) (Nat.lt_succ_self _) hw   (lv_sub hl [1, 2, 3, 0] rfl)
abbrev P_X12_ways_1 (ad : Nat → Nat) (cy : Nat → ClassId) (B : Int) (qr : Nat) (s1 : Int) (a1 : Int32) (a2 : Int32) (w0 : va_W) : Int32 → va_W → Prop := fun r u => TW ksM ad cy B qr 12 u ∧ FE ksM [(79, 0, 64)] w0 u ∧ ((r = (-2) ∧ 0 ≤ a1.toInt ∧ a1.toInt ≤ 6 ∧ 0 ≤ a2.toInt ∧ a2.toInt ≤ 0 ∧ (∃ y : Int32, gi u 12 0 = y ∧ 1 ≤ y.toInt ∧ y.toInt ≤ 10)) ∨ (0 ≤ r.toInt ∧ r.toInt ≤ 4095 ∧ 0 ≤ a1.toInt ∧ a1.toInt ≤ 6 ∧ (∃ y : Int32, gi u 12 0 = y ∧ 1 ≤ y.toInt ∧ y.toInt ≤ 10)) ∨ (r = (-1)))
set_option maxHeartbeats 4000000 in
set_option maxRecDepth 100000 in
theorem k_X12_ways_1 (l : Launch) (adK adV : Nat → Nat) (dC : Nat → ClassId) (dI : Nat → Nat → Nat) (cy : Nat → ClassId) (ad : Nat → Nat) (B : Int) (hB0 : 100000 ≤ B) (hB1 : B ≤ 1073741824) (qr : Nat) (s1 : Int)  (a1 : Int32) (a2 : Int32) (w0 : va_W) (sz : Nat) (hT : TW ksM ad cy B qr 12 w0)  : Met l yX12_ways wsX12_ways ({ frames := 4, cells := 0, slots := 0, locals := 86 }) (va_Pc [.ref (ad 0), .int a1, .int a2] (wpreS adK adV dC dI cy sz w0)) (va_Qi (P_X12_ways_1 ad cy B qr s1 a1 a2 w0) (fun u : va_W => wpost dC dI cy (va_A w0 sz) u) (va_A w0 sz)) 0 0 (va_A w0 sz) := by
  refine Met.ofW (cc := cX12_ways) (maxL := 7) (ret := (some .int)) (by decide) rfl ?_
  intro p e s m args below meth c s₁ Bk hml hv
  obtain ⟨rfl, ⟨hsz, hP, hK, hD0⟩, hE, hSR⟩ := hv
  have hx := Bk.exec
  have hb := Bk.bytes
  have hr := Bk.returns
  have hlocks := Bk.notSynchronized
  have hC : CallFix p m c cX12_ways 7 s _ wsX12_ways RX12 := ⟨hx, hb, hml, findClass_of_methodNamed Bk.named, atoms_spec (ws := wsX12_ways) Bk.pre⟩
  subst hsz
  have hD := hD0.self (sz := s.heap.size)
  generalize hAe : va_A w0 s.heap.size = A at hD hE ⊢
  have hA : ∀ q : Nat, s.heap.size ≤ q → A q := fun q h => by rw [← hAe]; exact Or.inr h
  have hw : Wd dC dI A s.heap s.heap [] w0 := ⟨hP, hD, va_S.rf⟩
  have hF : FE ksM [(79, 0, 64)] w0 w0 := FE.rf
  have hl := lv_entry ([.ref (ad 0), .int a1, .int a2]) (n := 7) (Nat.le_of_ble_eq_true rfl)
  rw [lg_entry_eq]
  generalize (lg_sl ([.ref (ad 0), .int a1, .int a2]) ++ List.replicate (7 - (lg_sl ([.ref (ad 0), .int a1, .int a2])).length) Slot.unset).toArray = ls at hl ⊢
  have hl : lv_has ls 7 [(0, .ref (ad 0)), (1, .int a1), (2, .int a2)] := hl
  generalize hloc : ([] : List Loc) = locs at hw ⊢
  have hinX12 : ∀ w ∈ u_ws RX12 TX12 42, w ∈ wsX12_ways := fun _ h => List.mem_cons_of_mem _ (List.mem_append_right _ (h))
  have J29 : ∀ (f29_12_0 : Int32) (H : Heap) (locs : List Loc) (ls : Array Slot) (w1 : va_W), 0 ≤ f29_12_0.toInt → f29_12_0.toInt ≤ 10 → Wd dC dI A s.heap H locs w1 → TW ksM ad cy B qr 12 w1 → FE ksM [(79, 0, 64)] w0 w1 → gi w1 12 0 = f29_12_0 → lv_has ls 7 [(0, .ref (ad 0)), (1, .int a1), (2, .int a2)] → W p l e ({ frames := 4, cells := 0, slots := 0, locals := 86 }) s m (List.toArray [.ref (ad 0), .int a1, .int a2]) below meth c H locs 0 0 (MQ below (va_Qi (P_X12_ways_1 ad cy B qr s1 a1 a2 w0) (fun u : va_W => wpost dC dI cy A u) A) (List.toArray [.ref (ad 0), .int a1, .int a2]) s 0 0 A) (F0 m 29 ls []) := by
    intro f29_12_0 H locs ls w1 r2 t3 hw hT hF c4 hl
    refine lv_iconst (v := (-1)) hx hb dX12_ways_29 (by decide) ?_
    exact tk_iret hC hr hlocks hK ⟨hT, hF, (Or.inr (Or.inr rfl))⟩ hw dX12_ways_30
  have L177 : ∀ (n177 : Nat) (v177_3 : Int32) (v177_4 : Int32) (v177_5 : Int32) (v177_6 : Int32) (f177_12_0 : Int32) (f177_12_1 : Int32) (f177_12_6 : Int32) (H : Heap) (locs : List Loc) (ls : Array Slot) (w5 : va_W), 0 ≤ a1.toInt → a1.toInt ≤ 6 → 0 ≤ v177_3.toInt → v177_3.toInt ≤ 12 → 0 ≤ v177_4.toInt → v177_4.toInt ≤ 63 → 0 ≤ v177_5.toInt → v177_5.toInt ≤ 63 → 0 ≤ v177_6.toInt → v177_6.toInt ≤ 63 → 1 ≤ f177_12_0.toInt → f177_12_0.toInt ≤ 10 → 0 ≤ f177_12_1.toInt → f177_12_1.toInt ≤ 12 → 0 ≤ f177_12_6.toInt → f177_12_6.toInt ≤ 6 → (v177_6.toInt - 0).toNat < n177 → Wd dC dI A s.heap H locs w5 → TW ksM ad cy B qr 12 w5 → FE ksM [(79, 0, 64)] w0 w5 → gi w5 12 0 = f177_12_0 → gi w5 12 1 = f177_12_1 → gi w5 12 6 = f177_12_6 → lv_has ls 7 [(0, .ref (ad 0)), (1, .int a1), (2, .int 1), (3, .int v177_3), (4, .int v177_4), (5, .int v177_5), (6, .int v177_6)] → W p l e ({ frames := 4, cells := 0, slots := 0, locals := 86 }) s m (List.toArray [.ref (ad 0), .int a1, .int a2]) below meth c H locs 0 0 (MQ below (va_Qi (P_X12_ways_1 ad cy B qr s1 a1 a2 w0) (fun u : va_W => wpost dC dI cy A u) A) (List.toArray [.ref (ad 0), .int a1, .int a2]) s 0 0 A) (F0 m 177 ls []) := by
    intro n177
    induction n177 with
    | zero => intro v177_3 v177_4 v177_5 v177_6 f177_12_0 f177_12_1 f177_12_6 H locs ls w5 r6 t7 r8 t9 r10 t11 r12 t13 r14 t15 r16 t17 r19 t20 r22 t23 hm177 hw hT hF c18 c21 c24 hl; omega
    | succ n177 ih177 =>
      intro v177_3 v177_4 v177_5 v177_6 f177_12_0 f177_12_1 f177_12_6 H locs ls w5 r6 t7 r8 t9 r10 t11 r12 t13 r14 t15 r16 t17 r19 t20 r22 t23 hm177 hw hT hF c18 c21 c24 hl
      have J210 : ∀ (v210_5 : Int32) (H : Heap) (locs : List Loc) (ls : Array Slot) (w25 : va_W), 0 ≤ a1.toInt → a1.toInt ≤ 6 → 0 ≤ v177_3.toInt → v177_3.toInt ≤ 12 → 0 ≤ v177_4.toInt → v177_4.toInt ≤ 63 → 0 ≤ v210_5.toInt → v210_5.toInt ≤ 63 → 1 ≤ v177_6.toInt → v177_6.toInt ≤ 63 → 1 ≤ f177_12_0.toInt → f177_12_0.toInt ≤ 10 → 0 ≤ f177_12_1.toInt → f177_12_1.toInt ≤ 12 → 0 ≤ f177_12_6.toInt → f177_12_6.toInt ≤ 6 → Wd dC dI A s.heap H locs w25 → TW ksM ad cy B qr 12 w25 → FE ksM [(79, 0, 64)] w0 w25 → gi w25 12 0 = f177_12_0 → gi w25 12 1 = f177_12_1 → gi w25 12 6 = f177_12_6 → lv_has ls 7 [(0, .ref (ad 0)), (1, .int a1), (2, .int 1), (3, .int v177_3), (4, .int v177_4), (5, .int v210_5), (6, .int v177_6)] → W p l e ({ frames := 4, cells := 0, slots := 0, locals := 86 }) s m (List.toArray [.ref (ad 0), .int a1, .int a2]) below meth c H locs 0 0 (MQ below (va_Qi (P_X12_ways_1 ad cy B qr s1 a1 a2 w0) (fun u : va_W => wpost dC dI cy A u) A) (List.toArray [.ref (ad 0), .int a1, .int a2]) s 0 0 A) (F0 m 210 ls []) := by
        intro v210_5 H locs ls w25 r26 t27 r28 t29 r30 t31 r32 t33 r34 t35 r36 t37 r39 t40 r42 t43 hw hT hF c38 c41 c44 hl
        obtain ⟨x45, ex45⟩ : ∃ y : Int32, y = v177_6 + Int32.ofInt (-1) := ⟨_, rfl⟩
        refine lv_iinc (v := x45) (lv' := [(6, .int x45), (0, .ref (ad 0)), (1, .int a1), (2, .int 1), (3, .int v177_3), (4, .int v177_4), (5, .int v210_5)]) hx hb dX12_ways_210 hl (k := 6) rfl ex45.symm (by decide) rfl (fun ls hl => ?_)
        have ex45 : x45.toInt = v177_6.toInt + (-1) := by rw [ex45]; exact wk_add (y := (-1)) (show -2147483648 ≤ v177_6.toInt + (-1) by omega) (show v177_6.toInt + (-1) ≤ 2147483647 by omega)
        refine lv_goto (tgt := 177) hx hb dX12_ways_213 (by decide) ?_
        exact ih177 v177_3 v177_4 v210_5 x45 f177_12_0 f177_12_1 f177_12_6 H locs ls w25 (show 0 ≤ a1.toInt by omega) (show a1.toInt ≤ 6 by omega) (show 0 ≤ v177_3.toInt by omega) (show v177_3.toInt ≤ 12 by omega) (show 0 ≤ v177_4.toInt by omega) (show v177_4.toInt ≤ 63 by omega) (show 0 ≤ v210_5.toInt by omega) (show v210_5.toInt ≤ 63 by omega) (show 0 ≤ x45.toInt by omega) (show x45.toInt ≤ 63 by omega) (show 1 ≤ f177_12_0.toInt by omega) (show f177_12_0.toInt ≤ 10 by omega) (show 0 ≤ f177_12_1.toInt by omega) (show f177_12_1.toInt ≤ 12 by omega) (show 0 ≤ f177_12_6.toInt by omega) (show f177_12_6.toInt ≤ 6 by omega) (show (x45.toInt - 0).toNat < n177 by omega) hw hT hF c38 c41 c44 (lv_sub hl [1, 2, 3, 4, 5, 6, 0] rfl)
      refine lv_iload hx hb dX12_ways_177 (lv_at hl 6 rfl) ?_
      refine lv_if_le (tgt := 216) hx hb dX12_ways_179 (by decide) (fun c46 => ?_) (fun c46 => ?_)
      · have c46 : v177_6.toInt ≤ (0 : Int) := wk_le.mp c46
        refine lv_iload hx hb dX12_ways_216 (lv_at hl 5 rfl) ?_
        exact tk_iret hC hr hlocks hK ⟨hT, hF, (Or.inr (Or.inl ⟨(show 0 ≤ v177_5.toInt by omega), (show v177_5.toInt ≤ 4095 by omega), (show 0 ≤ a1.toInt by omega), (show a1.toInt ≤ 6 by omega), ⟨f177_12_0, c18, (show 1 ≤ f177_12_0.toInt by omega), (show f177_12_0.toInt ≤ 10 by omega)⟩⟩))⟩ hw dX12_ways_218
      · have c46 : (0 : Int) < v177_6.toInt := wk_leF c46
        refine lv_aload_n hx hb dX12_ways_182 rfl (lv_at hl 0 rfl) ?_
        refine lv_iload hx hb dX12_ways_183 (lv_at hl 6 rfl) ?_
        refine lv_iload hx hb dX12_ways_185 (lv_at hl 4 rfl) ?_
        refine tk_Vi hC hK hw hT hA hE hSR kM_at0 (by decide) rfl (k_X12_isClash_1 l adK adV dC dI cy ad B (by omega) (by omega) qr s1   v177_6 (show 1 ≤ v177_6.toInt by omega) (show v177_6.toInt ≤ 63 by omega) v177_4 (show 0 ≤ v177_4.toInt by omega) (show v177_4.toInt ≤ 63 by omega) w5 H.size hT ) (cwV 2 hC.2.2.2.2 gX12_ways_X12_isClash rfl rfl rfl (by decide +kernel) ⟨Nat.le_of_ble_eq_true rfl, Nat.le_of_ble_eq_true rfl⟩) rfl hl.1 rfl (Nat.le_of_ble_eq_true rfl) dX12_ways_187 (fun r47 w49 H locs hp48 hw => ?_)
        obtain ⟨rfl, hg51⟩ := hp48
        rcases hg51 with rfl | rfl
        · refine lv_if_eq (tgt := 210) hx hb dX12_ways_190 (by decide) (fun _ => ?_) (fun c => absurd (by decide) c)
          exact J210 v177_5 H locs ls w5 (show 0 ≤ a1.toInt by omega) (show a1.toInt ≤ 6 by omega) (show 0 ≤ v177_3.toInt by omega) (show v177_3.toInt ≤ 12 by omega) (show 0 ≤ v177_4.toInt by omega) (show v177_4.toInt ≤ 63 by omega) (show 0 ≤ v177_5.toInt by omega) (show v177_5.toInt ≤ 63 by omega) (show 1 ≤ v177_6.toInt by omega) (show v177_6.toInt ≤ 63 by omega) (show 1 ≤ f177_12_0.toInt by omega) (show f177_12_0.toInt ≤ 10 by omega) (show 0 ≤ f177_12_1.toInt by omega) (show f177_12_1.toInt ≤ 12 by omega) (show 0 ≤ f177_12_6.toInt by omega) (show f177_12_6.toInt ≤ 6 by omega)  hw hT hF c18 c21 c24 (lv_sub hl [0, 1, 2, 3, 4, 5, 6] rfl)
        · refine lv_if_eq (tgt := 210) hx hb dX12_ways_190 (by decide) (fun c => absurd c (by decide)) (fun _ => ?_)
          refine lv_iload hx hb dX12_ways_193 (lv_at hl 6 rfl) ?_
          refine tk_Si hC hK hw hT hA hE hSR (k_X12_bits_2 l adK adV dC dI cy ad B (by omega) (by omega) qr s1   v177_6 (show 1 ≤ v177_6.toInt by omega) (show v177_6.toInt ≤ 63 by omega) w5 H.size hT ) (va_cwS 1 hC.2.2.2.2 gX12_ways_X12_bits rfl rfl rfl (by decide +kernel) ⟨Nat.le_of_ble_eq_true rfl, Nat.le_of_ble_eq_true rfl⟩) rfl hl.1 rfl (Nat.le_of_ble_eq_true rfl) dX12_ways_195 (fun r52 w54 H locs hp53 hw => ?_)
          obtain ⟨rfl, hg56⟩ := hp53
          clear hg56
          refine lv_iload hx hb dX12_ways_198 (lv_at hl 5 rfl) ?_
          refine tk_Si hC hK hw hT hA hE hSR (k_X12_bits_1 l adK adV dC dI cy ad B (by omega) (by omega) qr s1   v177_5 (show 0 ≤ v177_5.toInt by omega) (show v177_5.toInt ≤ 63 by omega) w5 H.size hT ) (va_cwS 1 hC.2.2.2.2 gX12_ways_X12_bits rfl rfl rfl (by decide +kernel) ⟨Nat.le_of_ble_eq_true rfl, Nat.le_of_ble_eq_true rfl⟩) rfl hl.1 rfl (Nat.le_of_ble_eq_true rfl) dX12_ways_200 (fun r57 w59 H locs hp58 hw => ?_)
          obtain ⟨rfl, hg61⟩ := hp58
          clear hg61
          refine lv_icmp_gt (tgt := 210) hx hb dX12_ways_203 (by decide) (fun c62 => ?_) (fun c62 => ?_)
          · have c62 : r57.toInt < r52.toInt := wk_lt.mp c62
            exact J210 v177_5 H locs ls w5 (show 0 ≤ a1.toInt by omega) (show a1.toInt ≤ 6 by omega) (show 0 ≤ v177_3.toInt by omega) (show v177_3.toInt ≤ 12 by omega) (show 0 ≤ v177_4.toInt by omega) (show v177_4.toInt ≤ 63 by omega) (show 0 ≤ v177_5.toInt by omega) (show v177_5.toInt ≤ 63 by omega) (show 1 ≤ v177_6.toInt by omega) (show v177_6.toInt ≤ 63 by omega) (show 1 ≤ f177_12_0.toInt by omega) (show f177_12_0.toInt ≤ 10 by omega) (show 0 ≤ f177_12_1.toInt by omega) (show f177_12_1.toInt ≤ 12 by omega) (show 0 ≤ f177_12_6.toInt by omega) (show f177_12_6.toInt ≤ 6 by omega)  hw hT hF c18 c21 c24 (lv_sub hl [0, 1, 2, 3, 4, 5, 6] rfl)
          · have c62 : r52.toInt ≤ r57.toInt := wk_ltF c62
            refine lv_iload hx hb dX12_ways_206 (lv_at hl 6 rfl) ?_
            refine lv_istore (lv' := [(5, .int v177_6), (0, .ref (ad 0)), (1, .int a1), (2, .int 1), (3, .int v177_3), (4, .int v177_4), (6, .int v177_6)]) hx hb dX12_ways_208 hl (by decide) rfl (fun ls hl => ?_)
            exact J210 v177_6 H locs ls w5 (show 0 ≤ a1.toInt by omega) (show a1.toInt ≤ 6 by omega) (show 0 ≤ v177_3.toInt by omega) (show v177_3.toInt ≤ 12 by omega) (show 0 ≤ v177_4.toInt by omega) (show v177_4.toInt ≤ 63 by omega) (show 0 ≤ v177_6.toInt by omega) (show v177_6.toInt ≤ 63 by omega) (show 1 ≤ v177_6.toInt by omega) (show v177_6.toInt ≤ 63 by omega) (show 1 ≤ f177_12_0.toInt by omega) (show f177_12_0.toInt ≤ 10 by omega) (show 0 ≤ f177_12_1.toInt by omega) (show f177_12_1.toInt ≤ 12 by omega) (show 0 ≤ f177_12_6.toInt by omega) (show f177_12_6.toInt ≤ 6 by omega)  hw hT hF c18 c21 c24 (lv_sub hl [1, 2, 3, 4, 5, 0, 6] rfl)
  have L113 : ∀ (n113 : Nat) (v113_3 : Int32) (v113_4 : Int32) (v113_5 : Int32) (f113_12_0 : Int32) (f113_12_1 : Int32) (f113_12_6 : Int32) (H : Heap) (locs : List Loc) (ls : Array Slot) (w63 : va_W), 0 ≤ a1.toInt → a1.toInt ≤ 6 → 0 ≤ a2.toInt → a2.toInt ≤ 1 → 0 ≤ v113_3.toInt → v113_3.toInt ≤ 12 → 0 ≤ v113_4.toInt → v113_4.toInt ≤ 63 → 0 ≤ v113_5.toInt → v113_5.toInt ≤ 4096 → 1 ≤ f113_12_0.toInt → f113_12_0.toInt ≤ 10 → 0 ≤ f113_12_1.toInt → f113_12_1.toInt ≤ 12 → 0 ≤ f113_12_6.toInt → f113_12_6.toInt ≤ 6 → (4096 - v113_5.toInt).toNat < n113 → Wd dC dI A s.heap H locs w63 → TW ksM ad cy B qr 12 w63 → FE ksM [(79, 0, 64)] w0 w63 → gi w63 12 0 = f113_12_0 → gi w63 12 1 = f113_12_1 → gi w63 12 6 = f113_12_6 → lv_has ls 7 [(0, .ref (ad 0)), (1, .int a1), (2, .int a2), (3, .int v113_3), (4, .int v113_4), (5, .int v113_5)] → W p l e ({ frames := 4, cells := 0, slots := 0, locals := 86 }) s m (List.toArray [.ref (ad 0), .int a1, .int a2]) below meth c H locs 0 0 (MQ below (va_Qi (P_X12_ways_1 ad cy B qr s1 a1 a2 w0) (fun u : va_W => wpost dC dI cy A u) A) (List.toArray [.ref (ad 0), .int a1, .int a2]) s 0 0 A) (F0 m 113 ls []) := by
    intro n113
    induction n113 with
    | zero => intro v113_3 v113_4 v113_5 f113_12_0 f113_12_1 f113_12_6 H locs ls w63 r64 t65 r66 t67 r68 t69 r70 t71 r72 t73 r74 t75 r77 t78 r80 t81 hm113 hw hT hF c76 c79 c82 hl; omega
    | succ n113 ih113 =>
      intro v113_3 v113_4 v113_5 f113_12_0 f113_12_1 f113_12_6 H locs ls w63 r64 t65 r66 t67 r68 t69 r70 t71 r72 t73 r74 t75 r77 t78 r80 t81 hm113 hw hT hF c76 c79 c82 hl
      refine lv_iload hx hb dX12_ways_113 (lv_at hl 5 rfl) ?_
      refine lv_iconst (v := 1) hx hb dX12_ways_115 (by decide) ?_
      refine lv_iload_n hx hb dX12_ways_116 rfl (lv_at hl 3 rfl) ?_
      refine lv_ishl hx hb dX12_ways_117 ?_
      refine lv_topi (fun x83 ex83 => ?_)
      have bx83 : 1 ≤ x83.toInt ∧ x83.toInt ≤ 4096 := by rw [ex83]; exact wk_shl1 12 (by decide) (by omega) (by omega)
      refine lv_icmp_ge (tgt := 162) hx hb dX12_ways_118 (by decide) (fun c84 => ?_) (fun c84 => ?_)
      · have c84 : x83.toInt ≤ v113_5.toInt := wk_le.mp c84
        refine lv_iload_n hx hb dX12_ways_162 rfl (lv_at hl 2 rfl) ?_
        refine lv_if_ne (tgt := 169) hx hb dX12_ways_163 (by decide) (fun c85 => ?_) (fun c85 => ?_)
        · have c85 : ¬ a2.toInt = (0 : Int) := wk_eqF c85
          refine lv_iload hx hb dX12_ways_169 (lv_at hl 4 rfl) ?_
          refine lv_istore (lv' := [(5, .int v113_4), (0, .ref (ad 0)), (1, .int a1), (2, .int a2), (3, .int v113_3), (4, .int v113_4)]) hx hb dX12_ways_171 hl (by decide) rfl (fun ls hl => ?_)
          refine lv_iload hx hb dX12_ways_173 (lv_at hl 5 rfl) ?_
          refine lv_istore (lv' := [(6, .int v113_4), (5, .int v113_4), (0, .ref (ad 0)), (1, .int a1), (2, .int a2), (3, .int v113_3), (4, .int v113_4)]) hx hb dX12_ways_175 hl (by decide) rfl (fun ls hl => ?_)
          obtain rfl : a2 = 1 := wk_eq.mpr (show a2.toInt = 1 by omega)
          exact L177 ((v113_4.toInt - 0).toNat + 1) v113_3 v113_4 v113_4 v113_4 f113_12_0 f113_12_1 f113_12_6 H locs ls w63 (show 0 ≤ a1.toInt by omega) (show a1.toInt ≤ 6 by omega) (show 0 ≤ v113_3.toInt by omega) (show v113_3.toInt ≤ 12 by omega) (show 0 ≤ v113_4.toInt by omega) (show v113_4.toInt ≤ 63 by omega) (show 0 ≤ v113_4.toInt by omega) (show v113_4.toInt ≤ 63 by omega) (show 0 ≤ v113_4.toInt by omega) (show v113_4.toInt ≤ 63 by omega) (show 1 ≤ f113_12_0.toInt by omega) (show f113_12_0.toInt ≤ 10 by omega) (show 0 ≤ f113_12_1.toInt by omega) (show f113_12_1.toInt ≤ 12 by omega) (show 0 ≤ f113_12_6.toInt by omega) (show f113_12_6.toInt ≤ 6 by omega) (Nat.lt_succ_self _) hw hT hF c76 c79 c82 (lv_sub hl [2, 3, 4, 5, 6, 1, 0] rfl)
        · have c85 : a2.toInt = (0 : Int) := wk_eq.mp c85
          refine lv_bipush (v := (-2)) hx hb dX12_ways_166 (by decide) ?_
          exact tk_iret hC hr hlocks hK ⟨hT, hF, (Or.inl ⟨rfl, (show 0 ≤ a1.toInt by omega), (show a1.toInt ≤ 6 by omega), (show 0 ≤ a2.toInt by omega), (show a2.toInt ≤ 0 by omega), ⟨f113_12_0, c76, (show 1 ≤ f113_12_0.toInt by omega), (show f113_12_0.toInt ≤ 10 by omega)⟩⟩)⟩ hw dX12_ways_168
      · have c84 : v113_5.toInt < x83.toInt := wk_leF c84
        refine lv_aload_n hx hb dX12_ways_121 rfl (lv_at hl 0 rfl) ?_
        refine lv_iload_n hx hb dX12_ways_122 rfl (lv_at hl 1 rfl) ?_
        refine lv_iload hx hb dX12_ways_123 (lv_at hl 5 rfl) ?_
        refine tk_Vi hC hK hw hT hA hE hSR kM_at0 (by decide) rfl (k_X12_doneBy_1 l adK adV dC dI cy ad B (by omega) (by omega) qr s1   a1 (show 0 ≤ a1.toInt by omega) (show a1.toInt ≤ 6 by omega) v113_5 (show 0 ≤ v113_5.toInt by omega) (show v113_5.toInt ≤ 4095 by omega) w63 H.size hT ) (cwV 2 hC.2.2.2.2 gX12_ways_X12_doneBy rfl rfl rfl (by decide +kernel) ⟨Nat.le_of_ble_eq_true rfl, Nat.le_of_ble_eq_true rfl⟩) rfl hl.1 rfl (Nat.le_of_ble_eq_true rfl) dX12_ways_125 (fun r86 w88 H locs hp87 hw => ?_)
        obtain ⟨rfl, hg92⟩ := hp87
        obtain ⟨g90, g91⟩ := hg92
        refine lv_istore (lv' := [(6, .int r86), (0, .ref (ad 0)), (1, .int a1), (2, .int a2), (3, .int v113_3), (4, .int v113_4), (5, .int v113_5)]) hx hb dX12_ways_128 hl (by decide) rfl (fun ls hl => ?_)
        refine lv_iload hx hb dX12_ways_130 (lv_at hl 0 rfl) ?_
        refine lv_iload hx hb dX12_ways_132 (lv_at hl 5 rfl) ?_
        refine lv_icmp_ne (tgt := 148) hx hb dX12_ways_134 (by decide) (fun c93 => ?_) (fun c93 => ?_)
        · have c93 : ¬ r86.toInt = v113_4.toInt := wk_eqF c93
          refine lv_aload_n hx hb dX12_ways_148 rfl (lv_at hl 1 rfl) ?_
          refine tk_getA hC hK hw hT hinX12 kM_at0 (by decide) rfl 38 (by decide) (List.mem_of_getElem? (i := 3) rfl) rfl rfl dX12_ways_149 ?_
          refine lv_iload hx hb dX12_ways_152 (lv_at hl 0 rfl) ?_
          refine lv_iconst (v := 1) hx hb dX12_ways_154 (by decide) ?_
          refine tk_zast hC hK hw hT kM_at20 (by decide) rfl rfl (show 0 ≤ r86.toInt by omega) (show r86.toInt < 64 by omega) (by decide) (by decide) dX12_ways_155 (fun H locs w94 hw hT k96 c95 => ?_)
          have hF := hF.put kM_at20 (inE_of (a := 0) (b := 64) (by decide) (show 0 ≤ r86.toInt.toNat by omega) (show r86.toInt.toNat ≤ 64 by omega)) k96
          have c97 := k96.gi (Or.inl (tk_ne kM_at12 kM_at20 (by decide))) c76
          have c98 := k96.gi (Or.inl (tk_ne kM_at12 kM_at20 (by decide))) c79
          have c99 := k96.gi (Or.inl (tk_ne kM_at12 kM_at20 (by decide))) c82
          obtain ⟨x100, ex100⟩ : ∃ y : Int32, y = v113_5 + Int32.ofInt 1 := ⟨_, rfl⟩
          refine lv_iinc (v := x100) (lv' := [(5, .int x100), (6, .int r86), (0, .ref (ad 0)), (1, .int a1), (2, .int a2), (3, .int v113_3), (4, .int v113_4)]) hx hb dX12_ways_156 hl (k := 6) rfl ex100.symm (by decide) rfl (fun ls hl => ?_)
          have ex100 : x100.toInt = v113_5.toInt + 1 := by rw [ex100]; exact wk_add (y := 1) (show -2147483648 ≤ v113_5.toInt + 1 by omega) (show v113_5.toInt + 1 ≤ 2147483647 by omega)
          refine lv_goto (tgt := 113) hx hb dX12_ways_159 (by decide) ?_
          exact ih113 v113_3 v113_4 x100 f113_12_0 f113_12_1 f113_12_6 H locs ls w94 (show 0 ≤ a1.toInt by omega) (show a1.toInt ≤ 6 by omega) (show 0 ≤ a2.toInt by omega) (show a2.toInt ≤ 1 by omega) (show 0 ≤ v113_3.toInt by omega) (show v113_3.toInt ≤ 12 by omega) (show 0 ≤ v113_4.toInt by omega) (show v113_4.toInt ≤ 63 by omega) (show 0 ≤ x100.toInt by omega) (show x100.toInt ≤ 4096 by omega) (show 1 ≤ f113_12_0.toInt by omega) (show f113_12_0.toInt ≤ 10 by omega) (show 0 ≤ f113_12_1.toInt by omega) (show f113_12_1.toInt ≤ 12 by omega) (show 0 ≤ f113_12_6.toInt by omega) (show f113_12_6.toInt ≤ 6 by omega) (show (4096 - x100.toInt).toNat < n113 by omega) hw hT hF c97 c98 c99 (lv_sub hl [2, 3, 4, 5, 6, 0] rfl)
        · have c93 : r86.toInt = v113_4.toInt := wk_eq.mp c93
          refine lv_iload_n hx hb dX12_ways_137 rfl (lv_at hl 3 rfl) ?_
          refine lv_if_ne (tgt := 146) hx hb dX12_ways_138 (by decide) (fun c101 => ?_) (fun c101 => ?_)
          · have c101 : ¬ a2.toInt = (0 : Int) := wk_eqF c101
            refine lv_iconst (v := 0) hx hb dX12_ways_146 (by decide) ?_
            exact tk_iret hC hr hlocks hK ⟨hT, hF, (Or.inr (Or.inl ⟨(by decide), (by decide), (show 0 ≤ a1.toInt by omega), (show a1.toInt ≤ 6 by omega), ⟨f113_12_0, c76, (show 1 ≤ f113_12_0.toInt by omega), (show f113_12_0.toInt ≤ 10 by omega)⟩⟩))⟩ hw dX12_ways_147
          · have c101 : a2.toInt = (0 : Int) := wk_eq.mp c101
            refine lv_iload hx hb dX12_ways_141 (lv_at hl 6 rfl) ?_
            refine lv_goto (tgt := 147) hx hb dX12_ways_143 (by decide) ?_
            exact tk_iret hC hr hlocks hK ⟨hT, hF, (Or.inr (Or.inl ⟨(show 0 ≤ v113_5.toInt by omega), (show v113_5.toInt ≤ 4095 by omega), (show 0 ≤ a1.toInt by omega), (show a1.toInt ≤ 6 by omega), ⟨f113_12_0, c76, (show 1 ≤ f113_12_0.toInt by omega), (show f113_12_0.toInt ≤ 10 by omega)⟩⟩))⟩ hw dX12_ways_147
  have L89 : ∀ (n89 : Nat) (v89_3 : Int32) (v89_4 : Int32) (v89_5 : Int32) (f89_12_0 : Int32) (f89_12_1 : Int32) (f89_12_6 : Int32) (H : Heap) (locs : List Loc) (ls : Array Slot) (w102 : va_W), 0 ≤ a1.toInt → a1.toInt ≤ 6 → 0 ≤ a2.toInt → a2.toInt ≤ 1 → 0 ≤ v89_3.toInt → v89_3.toInt ≤ 12 → 0 ≤ v89_4.toInt → v89_4.toInt ≤ 63 → 0 ≤ v89_5.toInt → v89_5.toInt ≤ 64 → 1 ≤ f89_12_0.toInt → f89_12_0.toInt ≤ 10 → 0 ≤ f89_12_1.toInt → f89_12_1.toInt ≤ 12 → 0 ≤ f89_12_6.toInt → f89_12_6.toInt ≤ 6 → (64 - v89_5.toInt).toNat < n89 → Wd dC dI A s.heap H locs w102 → TW ksM ad cy B qr 12 w102 → FE ksM [(79, 0, 64)] w0 w102 → gi w102 12 0 = f89_12_0 → gi w102 12 1 = f89_12_1 → gi w102 12 6 = f89_12_6 → lv_has ls 7 [(0, .ref (ad 0)), (1, .int a1), (2, .int a2), (3, .int v89_3), (4, .int v89_4), (5, .int v89_5)] → W p l e ({ frames := 4, cells := 0, slots := 0, locals := 86 }) s m (List.toArray [.ref (ad 0), .int a1, .int a2]) below meth c H locs 0 0 (MQ below (va_Qi (P_X12_ways_1 ad cy B qr s1 a1 a2 w0) (fun u : va_W => wpost dC dI cy A u) A) (List.toArray [.ref (ad 0), .int a1, .int a2]) s 0 0 A) (F0 m 89 ls []) := by
    intro n89
    induction n89 with
    | zero => intro v89_3 v89_4 v89_5 f89_12_0 f89_12_1 f89_12_6 H locs ls w102 r103 t104 r105 t106 r107 t108 r109 t110 r111 t112 r113 t114 r116 t117 r119 t120 hm89 hw hT hF c115 c118 c121 hl; omega
    | succ n89 ih89 =>
      intro v89_3 v89_4 v89_5 f89_12_0 f89_12_1 f89_12_6 H locs ls w102 r103 t104 r105 t106 r107 t108 r109 t110 r111 t112 r113 t114 r116 t117 r119 t120 hm89 hw hT hF c115 c118 c121 hl
      refine lv_iload hx hb dX12_ways_89 (lv_at hl 5 rfl) ?_
      refine lv_bipush (v := 64) hx hb dX12_ways_91 (by decide) ?_
      refine lv_icmp_ge (tgt := 110) hx hb dX12_ways_93 (by decide) (fun c122 => ?_) (fun c122 => ?_)
      · have c122 : (64 : Int) ≤ v89_5.toInt := wk_le.mp c122
        refine lv_iconst (v := 0) hx hb dX12_ways_110 (by decide) ?_
        refine lv_istore (lv' := [(5, .int 0), (0, .ref (ad 0)), (1, .int a1), (2, .int a2), (3, .int v89_3), (4, .int v89_4)]) hx hb dX12_ways_111 hl (by decide) rfl (fun ls hl => ?_)
        exact L113 ((4096 - (0 : Int)).toNat + 1) v89_3 v89_4 0 f89_12_0 f89_12_1 f89_12_6 H locs ls w102 (show 0 ≤ a1.toInt by omega) (show a1.toInt ≤ 6 by omega) (show 0 ≤ a2.toInt by omega) (show a2.toInt ≤ 1 by omega) (show 0 ≤ v89_3.toInt by omega) (show v89_3.toInt ≤ 12 by omega) (show 0 ≤ v89_4.toInt by omega) (show v89_4.toInt ≤ 63 by omega) (by decide) (by decide) (show 1 ≤ f89_12_0.toInt by omega) (show f89_12_0.toInt ≤ 10 by omega) (show 0 ≤ f89_12_1.toInt by omega) (show f89_12_1.toInt ≤ 12 by omega) (show 0 ≤ f89_12_6.toInt by omega) (show f89_12_6.toInt ≤ 6 by omega) (Nat.lt_succ_self _) hw hT hF c115 c118 c121 (lv_sub hl [1, 2, 3, 4, 5, 0] rfl)
      · have c122 : v89_5.toInt < (64 : Int) := wk_leF c122
        refine lv_aload_n hx hb dX12_ways_96 rfl (lv_at hl 0 rfl) ?_
        refine tk_getA hC hK hw hT hinX12 kM_at0 (by decide) rfl 38 (by decide) (List.mem_of_getElem? (i := 3) rfl) rfl rfl dX12_ways_97 ?_
        refine lv_iload hx hb dX12_ways_100 (lv_at hl 5 rfl) ?_
        refine lv_iconst (v := 0) hx hb dX12_ways_102 (by decide) ?_
        refine tk_zast hC hK hw hT kM_at20 (by decide) rfl rfl (show 0 ≤ v89_5.toInt by omega) (show v89_5.toInt < 64 by omega) (by decide) (by decide) dX12_ways_103 (fun H locs w123 hw hT k125 c124 => ?_)
        have hF := hF.put kM_at20 (inE_of (a := 0) (b := 64) (by decide) (show 0 ≤ v89_5.toInt.toNat by omega) (show v89_5.toInt.toNat ≤ 64 by omega)) k125
        have c126 := k125.gi (Or.inl (tk_ne kM_at12 kM_at20 (by decide))) c115
        have c127 := k125.gi (Or.inl (tk_ne kM_at12 kM_at20 (by decide))) c118
        have c128 := k125.gi (Or.inl (tk_ne kM_at12 kM_at20 (by decide))) c121
        obtain ⟨x129, ex129⟩ : ∃ y : Int32, y = v89_5 + Int32.ofInt 1 := ⟨_, rfl⟩
        refine lv_iinc (v := x129) (lv' := [(5, .int x129), (0, .ref (ad 0)), (1, .int a1), (2, .int a2), (3, .int v89_3), (4, .int v89_4)]) hx hb dX12_ways_104 hl (k := 5) rfl ex129.symm (by decide) rfl (fun ls hl => ?_)
        have ex129 : x129.toInt = v89_5.toInt + 1 := by rw [ex129]; exact wk_add (y := 1) (show -2147483648 ≤ v89_5.toInt + 1 by omega) (show v89_5.toInt + 1 ≤ 2147483647 by omega)
        refine lv_goto (tgt := 89) hx hb dX12_ways_107 (by decide) ?_
        exact ih89 v89_3 v89_4 x129 f89_12_0 f89_12_1 f89_12_6 H locs ls w123 (show 0 ≤ a1.toInt by omega) (show a1.toInt ≤ 6 by omega) (show 0 ≤ a2.toInt by omega) (show a2.toInt ≤ 1 by omega) (show 0 ≤ v89_3.toInt by omega) (show v89_3.toInt ≤ 12 by omega) (show 0 ≤ v89_4.toInt by omega) (show v89_4.toInt ≤ 63 by omega) (show 0 ≤ x129.toInt by omega) (show x129.toInt ≤ 64 by omega) (show 1 ≤ f89_12_0.toInt by omega) (show f89_12_0.toInt ≤ 10 by omega) (show 0 ≤ f89_12_1.toInt by omega) (show f89_12_1.toInt ≤ 12 by omega) (show 0 ≤ f89_12_6.toInt by omega) (show f89_12_6.toInt ≤ 6 by omega) (show (64 - x129.toInt).toNat < n89 by omega) hw hT hF c126 c127 c128 (lv_sub hl [1, 2, 3, 4, 5, 0] rfl)
  have L36 : ∀ (n36 : Nat) (v36_3 : Int32) (v36_4 : Int32) (f36_12_0 : Int32) (H : Heap) (locs : List Loc) (ls : Array Slot) (w130 : va_W), 0 ≤ a1.toInt → a1.toInt ≤ 6 → 0 ≤ a2.toInt → a2.toInt ≤ 1 → 0 ≤ v36_3.toInt → v36_3.toInt ≤ 12 → 0 ≤ v36_4.toInt → v36_4.toInt ≤ 12 → 1 ≤ f36_12_0.toInt → f36_12_0.toInt ≤ 10 → v36_3.toInt ≤ v36_4.toInt + 0 → (12 - v36_4.toInt).toNat < n36 → Wd dC dI A s.heap H locs w130 → TW ksM ad cy B qr 12 w130 → FE ksM [(79, 0, 64)] w0 w130 → gi w130 12 0 = f36_12_0 → lv_has ls 7 [(0, .ref (ad 0)), (1, .int a1), (2, .int a2), (3, .int v36_3), (4, .int v36_4)] → W p l e ({ frames := 4, cells := 0, slots := 0, locals := 86 }) s m (List.toArray [.ref (ad 0), .int a1, .int a2]) below meth c H locs 0 0 (MQ below (va_Qi (P_X12_ways_1 ad cy B qr s1 a1 a2 w0) (fun u : va_W => wpost dC dI cy A u) A) (List.toArray [.ref (ad 0), .int a1, .int a2]) s 0 0 A) (F0 m 36 ls []) := by
    intro n36
    induction n36 with
    | zero => intro v36_3 v36_4 f36_12_0 H locs ls w130 r131 t132 r133 t134 r135 t136 r137 t138 r139 t140 i142 hm36 hw hT hF c141 hl; omega
    | succ n36 ih36 =>
      intro v36_3 v36_4 f36_12_0 H locs ls w130 r131 t132 r133 t134 r135 t136 r137 t138 r139 t140 i142 hm36 hw hT hF c141 hl
      refine lv_iload hx hb dX12_ways_36 (lv_at hl 4 rfl) ?_
      refine lv_aload_n hx hb dX12_ways_38 rfl (lv_at hl 0 rfl) ?_
      refine tk_getA hC hK hw hT hinX12 kM_at0 (by decide) rfl 26 (by decide) (List.mem_of_getElem? (i := 2) rfl) rfl rfl dX12_ways_39 ?_
      refine lv_iconst (v := 1) hx hb dX12_ways_42 (by decide) ?_
      refine tk_ialdR hC hK hw hT kM_at12 rfl (by decide) (by decide) dX12_ways_43 (fun x143 c144 Ex143 => ?_)
      have bx143 : 0 ≤ x143.toInt ∧ x143.toInt ≤ 12 := (tk_rg1 rfl).mp Ex143
      have c144 : gi w130 12 1 = x143 := c144
      refine lv_icmp_ge (tgt := 73) hx hb dX12_ways_44 (by decide) (fun c145 => ?_) (fun c145 => ?_)
      · have c145 : x143.toInt ≤ v36_4.toInt := wk_le.mp c145
        refine lv_iconst (v := 1) hx hb dX12_ways_73 (by decide) ?_
        refine lv_aload_n hx hb dX12_ways_74 rfl (lv_at hl 0 rfl) ?_
        refine tk_getA hC hK hw hT hinX12 kM_at0 (by decide) rfl 26 (by decide) (List.mem_of_getElem? (i := 2) rfl) rfl rfl dX12_ways_75 ?_
        refine lv_bipush (v := 6) hx hb dX12_ways_78 (by decide) ?_
        refine tk_ialdR hC hK hw hT kM_at12 rfl (by decide) (by decide) dX12_ways_80 (fun x146 c147 Ex146 => ?_)
        have bx146 := tk_rgI rfl 6 1 1 0 6 (by decide +kernel) ⟨0, by decide, by decide⟩ Ex146
        have c147 : gi w130 12 6 = x146 := c147
        refine lv_ishl hx hb dX12_ways_81 ?_
        refine lv_topi (fun x148 ex148 => ?_)
        have bx148 : 1 ≤ x148.toInt ∧ x148.toInt ≤ 64 := by rw [ex148]; exact wk_shl1 6 (by decide) (by omega) (by omega)
        refine lv_iconst (v := 1) hx hb dX12_ways_82 (by decide) ?_
        refine lv_isub hx hb dX12_ways_83 ?_
        refine lv_topi (fun x149 ex149 => ?_)
        have ex149 : x149.toInt = x148.toInt - (1 : Int) := by rw [ex149]; exact wk_sub (show (-2147483648) ≤ x148.toInt - (1 : Int) by omega) (show x148.toInt - (1 : Int) ≤ 2147483647 by omega)
        refine lv_istore (lv' := [(4, .int x149), (0, .ref (ad 0)), (1, .int a1), (2, .int a2), (3, .int v36_3)]) hx hb dX12_ways_84 hl (by decide) rfl (fun ls hl => ?_)
        refine lv_iconst (v := 0) hx hb dX12_ways_86 (by decide) ?_
        refine lv_istore (lv' := [(5, .int 0), (4, .int x149), (0, .ref (ad 0)), (1, .int a1), (2, .int a2), (3, .int v36_3)]) hx hb dX12_ways_87 hl (by decide) rfl (fun ls hl => ?_)
        exact L89 ((64 - (0 : Int)).toNat + 1) v36_3 x149 0 f36_12_0 x143 x146 H locs ls w130 (show 0 ≤ a1.toInt by omega) (show a1.toInt ≤ 6 by omega) (show 0 ≤ a2.toInt by omega) (show a2.toInt ≤ 1 by omega) (show 0 ≤ v36_3.toInt by omega) (show v36_3.toInt ≤ 12 by omega) (show 0 ≤ x149.toInt by omega) (show x149.toInt ≤ 63 by omega) (by decide) (by decide) (show 1 ≤ f36_12_0.toInt by omega) (show f36_12_0.toInt ≤ 10 by omega) (show 0 ≤ x143.toInt by omega) (show x143.toInt ≤ 12 by omega) (show 0 ≤ x146.toInt by omega) (show x146.toInt ≤ 6 by omega) (Nat.lt_succ_self _) hw hT hF c141 c144 c147 (lv_sub hl [2, 3, 4, 5, 1, 0] rfl)
      · have c145 : v36_4.toInt < x143.toInt := wk_leF c145
        refine lv_iload_n hx hb dX12_ways_47 rfl (lv_at hl 3 rfl) ?_
        refine lv_aload_n hx hb dX12_ways_48 rfl (lv_at hl 0 rfl) ?_
        refine lv_iload hx hb dX12_ways_49 (lv_at hl 4 rfl) ?_
        refine lv_iconst (v := 3) hx hb dX12_ways_51 (by decide) ?_
        refine lv_iload_n hx hb dX12_ways_52 rfl (lv_at hl 1 rfl) ?_
        refine lv_iadd hx hb dX12_ways_53 ?_
        refine lv_topi (fun x150 ex150 => ?_)
        have ex150 : x150.toInt = (3 : Int) + a1.toInt := by rw [ex150]; exact wk_add (show (-2147483648) ≤ (3 : Int) + a1.toInt by omega) (show (3 : Int) + a1.toInt ≤ 2147483647 by omega)
        refine tk_Vi hC hK hw hT hA hE hSR kM_at0 (by decide) rfl (k_X12_streetOf_4 l adK adV dC dI cy ad B (by omega) (by omega) qr s1   v36_4 (show 0 ≤ v36_4.toInt by omega) (show v36_4.toInt ≤ 11 by omega) x150 (show 3 ≤ x150.toInt by omega) (show x150.toInt ≤ 9 by omega) w130 H.size hT ) (cwV 2 hC.2.2.2.2 gX12_ways_X12_streetOf rfl rfl rfl (by decide +kernel) ⟨Nat.le_of_ble_eq_true rfl, Nat.le_of_ble_eq_true rfl⟩) rfl hl.1 rfl (Nat.le_of_ble_eq_true rfl) dX12_ways_54 (fun r151 w153 H locs hp152 hw => ?_)
        obtain ⟨rfl, hg158⟩ := hp152
        obtain ⟨g155, g156, c157⟩ := hg158
        refine lv_if_ne (tgt := 64) hx hb dX12_ways_57 (by decide) (fun c159 => ?_) (fun c159 => ?_)
        · have c159 : ¬ r151.toInt = (0 : Int) := wk_eqF c159
          refine lv_iconst (v := 1) hx hb dX12_ways_64 (by decide) ?_
          refine lv_iadd hx hb dX12_ways_65 ?_
          refine lv_topi (fun x160 ex160 => ?_)
          have ex160 : x160.toInt = v36_3.toInt + (1 : Int) := by rw [ex160]; exact wk_add (show (-2147483648) ≤ v36_3.toInt + (1 : Int) by omega) (show v36_3.toInt + (1 : Int) ≤ 2147483647 by omega)
          refine lv_istore_n (lv' := [(3, .int x160), (0, .ref (ad 0)), (1, .int a1), (2, .int a2), (4, .int v36_4)]) hx hb dX12_ways_66 rfl hl (by decide) rfl (fun ls hl => ?_)
          obtain ⟨x161, ex161⟩ : ∃ y : Int32, y = v36_4 + Int32.ofInt 1 := ⟨_, rfl⟩
          refine lv_iinc (v := x161) (lv' := [(4, .int x161), (3, .int x160), (0, .ref (ad 0)), (1, .int a1), (2, .int a2)]) hx hb dX12_ways_67 hl (k := 4) rfl ex161.symm (by decide) rfl (fun ls hl => ?_)
          have ex161 : x161.toInt = v36_4.toInt + 1 := by rw [ex161]; exact wk_add (y := 1) (show -2147483648 ≤ v36_4.toInt + 1 by omega) (show v36_4.toInt + 1 ≤ 2147483647 by omega)
          refine lv_goto (tgt := 36) hx hb dX12_ways_70 (by decide) ?_
          exact ih36 x160 x161 f36_12_0 H locs ls w130 (show 0 ≤ a1.toInt by omega) (show a1.toInt ≤ 6 by omega) (show 0 ≤ a2.toInt by omega) (show a2.toInt ≤ 1 by omega) (show 0 ≤ x160.toInt by omega) (show x160.toInt ≤ 12 by omega) (show 0 ≤ x161.toInt by omega) (show x161.toInt ≤ 12 by omega) (show 1 ≤ f36_12_0.toInt by omega) (show f36_12_0.toInt ≤ 10 by omega) (show x160.toInt ≤ x161.toInt + 0 by omega) (show (12 - x161.toInt).toNat < n36 by omega) hw hT hF c141 (lv_sub hl [2, 3, 4, 1, 0] rfl)
        · have c159 : r151.toInt = (0 : Int) := wk_eq.mp c159
          refine lv_iconst (v := 0) hx hb dX12_ways_60 (by decide) ?_
          refine lv_goto (tgt := 65) hx hb dX12_ways_61 (by decide) ?_
          refine lv_iadd hx hb dX12_ways_65 ?_
          refine lv_topi (fun x162 ex162 => ?_)
          have ex162 : x162.toInt = v36_3.toInt + (0 : Int) := by rw [ex162]; exact wk_add (show (-2147483648) ≤ v36_3.toInt + (0 : Int) by omega) (show v36_3.toInt + (0 : Int) ≤ 2147483647 by omega)
          refine lv_istore_n (lv' := [(3, .int x162), (0, .ref (ad 0)), (1, .int a1), (2, .int a2), (4, .int v36_4)]) hx hb dX12_ways_66 rfl hl (by decide) rfl (fun ls hl => ?_)
          obtain ⟨x163, ex163⟩ : ∃ y : Int32, y = v36_4 + Int32.ofInt 1 := ⟨_, rfl⟩
          refine lv_iinc (v := x163) (lv' := [(4, .int x163), (3, .int x162), (0, .ref (ad 0)), (1, .int a1), (2, .int a2)]) hx hb dX12_ways_67 hl (k := 4) rfl ex163.symm (by decide) rfl (fun ls hl => ?_)
          have ex163 : x163.toInt = v36_4.toInt + 1 := by rw [ex163]; exact wk_add (y := 1) (show -2147483648 ≤ v36_4.toInt + 1 by omega) (show v36_4.toInt + 1 ≤ 2147483647 by omega)
          refine lv_goto (tgt := 36) hx hb dX12_ways_70 (by decide) ?_
          exact ih36 x162 x163 f36_12_0 H locs ls w130 (show 0 ≤ a1.toInt by omega) (show a1.toInt ≤ 6 by omega) (show 0 ≤ a2.toInt by omega) (show a2.toInt ≤ 1 by omega) (show 0 ≤ x162.toInt by omega) (show x162.toInt ≤ 12 by omega) (show 0 ≤ x163.toInt by omega) (show x163.toInt ≤ 12 by omega) (show 1 ≤ f36_12_0.toInt by omega) (show f36_12_0.toInt ≤ 10 by omega) (show x162.toInt ≤ x163.toInt + 0 by omega) (show (12 - x163.toInt).toNat < n36 by omega) hw hT hF c141 (lv_sub hl [2, 3, 4, 1, 0] rfl)
  refine lv_aload_n hx hb dX12_ways_0 rfl (lv_at hl 0 rfl) ?_
  refine tk_Vi hC hK hw hT hA hE hSR kM_at0 (by decide) rfl (k_X12_isTown_1 l adK adV dC dI cy ad B (by omega) (by omega) qr s1    w0 s.heap.size hT ) (cwV 0 hC.2.2.2.2 gX12_ways_X12_isTown rfl rfl rfl (by decide +kernel) ⟨Nat.le_of_ble_eq_true rfl, Nat.le_of_ble_eq_true rfl⟩) rfl hl.1 rfl (Nat.le_of_ble_eq_true rfl) dX12_ways_1 (fun r164 w166 H locs hp165 hw => ?_)
  obtain ⟨rfl, hg172⟩ := hp165
  rcases hg172 with ⟨rfl, ⟨x168, c169, rx168, tx168⟩⟩ | ⟨rfl, ⟨x170, c171, rx170, tx170⟩⟩
  · refine lv_if_eq (tgt := 29) hx hb dX12_ways_4 (by decide) (fun _ => ?_) (fun c => absurd (by decide) c)
    exact J29 x168 H locs ls w0 (show 0 ≤ x168.toInt by omega) (show x168.toInt ≤ 10 by omega)  hw hT hF c169 (lv_sub hl [0, 1, 2] rfl)
  · refine lv_if_eq (tgt := 29) hx hb dX12_ways_4 (by decide) (fun c => absurd c (by decide)) (fun _ => ?_)
    refine lv_iload_n hx hb dX12_ways_7 rfl (lv_at hl 1 rfl) ?_
    refine lv_i2l hx hb dX12_ways_8 rfl ?_
    refine lv_topl (fun x173 ex173 => ?_)
    have ex173 : x173.toInt = a1.toInt := by rw [ex173]; exact wk_i2l _
    have bx173 := wk_i32 a1
    refine lv_lconst (v := 0) hx hb dX12_ways_9 (by decide) ?_
    refine lv_ldc2 (v := 6) hx hb hC.2.2.2.1 (hC.2.2.2.2 _ (List.mem_of_getElem? (i := 1) rfl)) dX12_ways_10 ?_
    refine tk_Si hC hK hw hT hA hE hSR (k_X12_in_10 l adK adV dC dI cy ad B (by omega) (by omega) qr s1   x173 (show (-2147483648) ≤ x173.toInt by omega) (show x173.toInt ≤ 2147483647 by omega) w0 H.size hT ) (va_cwS 3 hC.2.2.2.2 gX12_ways_X12_in rfl rfl rfl (by decide +kernel) ⟨Nat.le_of_ble_eq_true rfl, Nat.le_of_ble_eq_true rfl⟩) rfl hl.1 rfl (Nat.le_of_ble_eq_true rfl) dX12_ways_13 (fun r174 w176 H locs hp175 hw => ?_)
    obtain ⟨rfl, hg180⟩ := hp175
    rcases hg180 with rfl | ⟨rfl, g178, g179⟩
    · refine lv_if_eq (tgt := 29) hx hb dX12_ways_16 (by decide) (fun _ => ?_) (fun c => absurd (by decide) c)
      exact J29 x170 H locs ls w0 (show 0 ≤ x170.toInt by omega) (show x170.toInt ≤ 10 by omega)  hw hT hF c171 (lv_sub hl [0, 1, 2] rfl)
    · refine lv_if_eq (tgt := 29) hx hb dX12_ways_16 (by decide) (fun c => absurd c (by decide)) (fun _ => ?_)
      refine lv_iload_n hx hb dX12_ways_19 rfl (lv_at hl 2 rfl) ?_
      refine lv_i2l hx hb dX12_ways_20 rfl ?_
      refine lv_topl (fun x181 ex181 => ?_)
      have ex181 : x181.toInt = a2.toInt := by rw [ex181]; exact wk_i2l _
      have bx181 := wk_i32 a2
      refine lv_lconst (v := 0) hx hb dX12_ways_21 (by decide) ?_
      refine lv_lconst (v := 1) hx hb dX12_ways_22 (by decide) ?_
      refine tk_Si hC hK hw hT hA hE hSR (k_X12_in_12 l adK adV dC dI cy ad B (by omega) (by omega) qr s1   x181 (show (-2147483648) ≤ x181.toInt by omega) (show x181.toInt ≤ 2147483647 by omega) w0 H.size hT ) (va_cwS 3 hC.2.2.2.2 gX12_ways_X12_in rfl rfl rfl (by decide +kernel) ⟨Nat.le_of_ble_eq_true rfl, Nat.le_of_ble_eq_true rfl⟩) rfl hl.1 rfl (Nat.le_of_ble_eq_true rfl) dX12_ways_23 (fun r182 w184 H locs hp183 hw => ?_)
      obtain ⟨rfl, hg188⟩ := hp183
      rcases hg188 with rfl | ⟨rfl, g186, g187⟩
      · refine lv_if_ne (tgt := 31) hx hb dX12_ways_26 (by decide) (fun c => absurd (by decide) c) (fun _ => ?_)
        exact J29 x170 H locs ls w0 (show 0 ≤ x170.toInt by omega) (show x170.toInt ≤ 10 by omega)  hw hT hF c171 (lv_sub hl [0, 1, 2] rfl)
      · refine lv_if_ne (tgt := 31) hx hb dX12_ways_26 (by decide) (fun _ => ?_) (fun c => absurd c (by decide))
        refine lv_iconst (v := 0) hx hb dX12_ways_31 (by decide) ?_
        refine lv_istore_n (lv' := [(3, .int 0), (0, .ref (ad 0)), (1, .int a1), (2, .int a2)]) hx hb dX12_ways_32 rfl hl (by decide) rfl (fun ls hl => ?_)
        refine lv_iconst (v := 0) hx hb dX12_ways_33 (by decide) ?_
        refine lv_istore (lv' := [(4, .int 0), (3, .int 0), (0, .ref (ad 0)), (1, .int a1), (2, .int a2)]) hx hb dX12_ways_34 hl (by decide) rfl (fun ls hl => ?_)
        exact L36 ((12 - (0 : Int)).toNat + 1) 0 0 x170 H locs ls w0 (show 0 ≤ a1.toInt by omega) (show a1.toInt ≤ 6 by omega) (show 0 ≤ a2.toInt by omega) (show a2.toInt ≤ 1 by omega) (by decide) (by decide) (by decide) (by decide) (show 1 ≤ x170.toInt by omega) (show x170.toInt ≤ 10 by omega) (show (0 : Int) ≤ (0 : Int) + 0 by omega) (Nat.lt_succ_self _) hw hT hF c171 (lv_sub hl [2, 3, 4, 1, 0] rfl)
abbrev P_X12_sight_1 (ad : Nat → Nat) (cy : Nat → ClassId) (B : Int) (qr : Nat) (s1 : Int) (a1 : Int32) (a2 : Int32) (w0 : va_W) : Int32 → va_W → Prop := fun r u => TW ksM ad cy B qr 12 u ∧ FE ksM [(71, 7, 7), (71, 264, 286), (71, 265, 287)] w0 u ∧ ((r = (-2)) ∨ (0 ≤ r.toInt ∧ r.toInt ≤ 12 ∧ (-1) ≤ a1.toInt ∧ a1.toInt ≤ 11 ∧ (∃ y : Int32, gi u 12 7 = y ∧ 0 ≤ y.toInt ∧ y.toInt ≤ 12)))
set_option maxHeartbeats 4000000 in
set_option maxRecDepth 100000 in
theorem k_X12_sight_1 (l : Launch) (adK adV : Nat → Nat) (dC : Nat → ClassId) (dI : Nat → Nat → Nat) (cy : Nat → ClassId) (ad : Nat → Nat) (B : Int) (hB0 : 100000 ≤ B) (hB1 : B ≤ 1073741824) (qr : Nat) (s1 : Int)  (a1 : Int32) (a2 : Int32) (w0 : va_W) (sz : Nat) (hT : TW ksM ad cy B qr 12 w0)  : Met l yX12_sight wsX12_sight ({ frames := 2, cells := 0, slots := 0, locals := 37 }) (va_Pc [.ref (ad 0), .int a1, .int a2] (wpreS adK adV dC dI cy sz w0)) (va_Qi (P_X12_sight_1 ad cy B qr s1 a1 a2 w0) (fun u : va_W => wpost dC dI cy (va_A w0 sz) u) (va_A w0 sz)) 0 0 (va_A w0 sz) := by
  refine Met.ofW (cc := cX12_sight) (maxL := 3) (ret := (some .int)) (by decide) rfl ?_
  intro p e s m args below meth c s₁ Bk hml hv
  obtain ⟨rfl, ⟨hsz, hP, hK, hD0⟩, hE, hSR⟩ := hv
  have hx := Bk.exec
  have hb := Bk.bytes
  have hr := Bk.returns
  have hlocks := Bk.notSynchronized
  have hC : CallFix p m c cX12_sight 3 s _ wsX12_sight RX12 := ⟨hx, hb, hml, findClass_of_methodNamed Bk.named, atoms_spec (ws := wsX12_sight) Bk.pre⟩
  subst hsz
  have hD := hD0.self (sz := s.heap.size)
  generalize hAe : va_A w0 s.heap.size = A at hD hE ⊢
  have hA : ∀ q : Nat, s.heap.size ≤ q → A q := fun q h => by rw [← hAe]; exact Or.inr h
  have hw : Wd dC dI A s.heap s.heap [] w0 := ⟨hP, hD, va_S.rf⟩
  have hF : FE ksM [(71, 7, 7), (71, 264, 286), (71, 265, 287)] w0 w0 := FE.rf
  have hl := lv_entry ([.ref (ad 0), .int a1, .int a2]) (n := 3) (Nat.le_of_ble_eq_true rfl)
  rw [lg_entry_eq]
  generalize (lg_sl ([.ref (ad 0), .int a1, .int a2]) ++ List.replicate (3 - (lg_sl ([.ref (ad 0), .int a1, .int a2])).length) Slot.unset).toArray = ls at hl ⊢
  have hl : lv_has ls 3 [(0, .ref (ad 0)), (1, .int a1), (2, .int a2)] := hl
  generalize hloc : ([] : List Loc) = locs at hw ⊢
  have hinX12 : ∀ w ∈ u_ws RX12 TX12 42, w ∈ wsX12_sight := fun _ h => List.mem_cons_of_mem _ (List.mem_append_right _ (h))
  have J47 : ∀ (H : Heap) (locs : List Loc) (ls : Array Slot) (w1 : va_W), Wd dC dI A s.heap H locs w1 → TW ksM ad cy B qr 12 w1 → FE ksM [(71, 7, 7), (71, 264, 286), (71, 265, 287)] w0 w1 → lv_has ls 3 [(0, .ref (ad 0)), (1, .int a1), (2, .int a2)] → W p l e ({ frames := 2, cells := 0, slots := 0, locals := 37 }) s m (List.toArray [.ref (ad 0), .int a1, .int a2]) below meth c H locs 0 0 (MQ below (va_Qi (P_X12_sight_1 ad cy B qr s1 a1 a2 w0) (fun u : va_W => wpost dC dI cy A u) A) (List.toArray [.ref (ad 0), .int a1, .int a2]) s 0 0 A) (F0 m 47 ls []) := by
    intro H locs ls w1 hw hT hF hl
    refine lv_bipush (v := (-2)) hx hb dX12_sight_47 (by decide) ?_
    exact tk_iret hC hr hlocks hK ⟨hT, hF, (Or.inl rfl)⟩ hw dX12_sight_49
  refine lv_iload_n hx hb dX12_sight_0 rfl (lv_at hl 1 rfl) ?_
  refine lv_iconst (v := (-1)) hx hb dX12_sight_1 (by decide) ?_
  refine lv_icmp_ne (tgt := 15) hx hb dX12_sight_2 (by decide) (fun c2 => ?_) (fun c2 => ?_)
  · have c2 : ¬ a1.toInt = (-1 : Int) := wk_eqF c2
    refine lv_aload_n hx hb dX12_sight_15 rfl (lv_at hl 0 rfl) ?_
    refine lv_iload_n hx hb dX12_sight_16 rfl (lv_at hl 1 rfl) ?_
    refine tk_Vi hC hK hw hT hA hE hSR kM_at0 (by decide) rfl (k_X12_isStreet_1 l adK adV dC dI cy ad B (by omega) (by omega) qr s1   a1 w0 s.heap.size hT ) (cwV 1 hC.2.2.2.2 gX12_sight_X12_isStreet rfl rfl rfl (by decide +kernel) ⟨Nat.le_of_ble_eq_true rfl, Nat.le_of_ble_eq_true rfl⟩) rfl hl.1 rfl (Nat.le_of_ble_eq_true rfl) dX12_sight_17 (fun r3 w5 H locs hp4 hw => ?_)
    obtain ⟨rfl, hg11⟩ := hp4
    rcases hg11 with rfl | ⟨rfl, g7, g8, ⟨x9, c10, rx9, tx9⟩⟩
    · refine lv_if_eq (tgt := 47) hx hb dX12_sight_20 (by decide) (fun _ => ?_) (fun c => absurd (by decide) c)
      exact J47  H locs ls w0   hw hT hF  (lv_sub hl [0, 1, 2] rfl)
    · refine lv_if_eq (tgt := 47) hx hb dX12_sight_20 (by decide) (fun c => absurd c (by decide)) (fun _ => ?_)
      refine lv_iload_n hx hb dX12_sight_23 rfl (lv_at hl 2 rfl) ?_
      refine lv_i2l hx hb dX12_sight_24 rfl ?_
      refine lv_topl (fun x12 ex12 => ?_)
      have ex12 : x12.toInt = a2.toInt := by rw [ex12]; exact wk_i2l _
      have bx12 := wk_i32 a2
      refine lv_lconst (v := 0) hx hb dX12_sight_25 (by decide) ?_
      refine lv_ldc2 (v := 3) hx hb hC.2.2.2.1 (hC.2.2.2.2 _ (List.mem_of_getElem? (i := 2) rfl)) dX12_sight_26 ?_
      refine tk_Si hC hK hw hT hA hE hSR (k_X12_in_11 l adK adV dC dI cy ad B (by omega) (by omega) qr s1   x12 (show (-2147483648) ≤ x12.toInt by omega) (show x12.toInt ≤ 2147483647 by omega) w0 H.size hT ) (va_cwS 3 hC.2.2.2.2 gX12_sight_X12_in rfl rfl rfl (by decide +kernel) ⟨Nat.le_of_ble_eq_true rfl, Nat.le_of_ble_eq_true rfl⟩) rfl hl.1 rfl (Nat.le_of_ble_eq_true rfl) dX12_sight_29 (fun r13 w15 H locs hp14 hw => ?_)
      obtain ⟨rfl, hg19⟩ := hp14
      rcases hg19 with rfl | ⟨rfl, g17, g18⟩
      · refine lv_if_eq (tgt := 47) hx hb dX12_sight_32 (by decide) (fun _ => ?_) (fun c => absurd (by decide) c)
        exact J47  H locs ls w0   hw hT hF  (lv_sub hl [0, 1, 2] rfl)
      · refine lv_if_eq (tgt := 47) hx hb dX12_sight_32 (by decide) (fun c => absurd c (by decide)) (fun _ => ?_)
        refine lv_aload_n hx hb dX12_sight_35 rfl (lv_at hl 0 rfl) ?_
        refine tk_getA hC hK hw hT hinX12 kM_at0 (by decide) rfl 26 (by decide) (List.mem_of_getElem? (i := 1) rfl) rfl rfl dX12_sight_36 ?_
        refine lv_bipush (v := 7) hx hb dX12_sight_39 (by decide) ?_
        refine tk_ialdR hC hK hw hT kM_at12 rfl (by decide) (by decide) dX12_sight_41 (fun x20 c21 Ex20 => ?_)
        have bx20 := tk_rgI rfl 7 1 1 0 12 (by decide +kernel) ⟨0, by decide, by decide⟩ Ex20
        have c21 : gi w0 12 7 = x20 := c21
        refine lv_bipush (v := 12) hx hb dX12_sight_42 (by decide) ?_
        refine lv_icmp_ne (tgt := 50) hx hb dX12_sight_44 (by decide) (fun c22 => ?_) (fun c22 => ?_)
        · have c22 : ¬ x20.toInt = (12 : Int) := wk_eqF c22
          refine lv_aload_n hx hb dX12_sight_50 rfl (lv_at hl 0 rfl) ?_
          refine tk_getA hC hK hw hT hinX12 kM_at0 (by decide) rfl 26 (by decide) (List.mem_of_getElem? (i := 1) rfl) rfl rfl dX12_sight_51 ?_
          refine lv_sipush (v := 264) hx hb dX12_sight_54 (by decide) ?_
          refine lv_iconst (v := 2) hx hb dX12_sight_57 (by decide) ?_
          refine lv_aload_n hx hb dX12_sight_58 rfl (lv_at hl 0 rfl) ?_
          refine tk_getA hC hK hw hT hinX12 kM_at0 (by decide) rfl 26 (by decide) (List.mem_of_getElem? (i := 1) rfl) rfl rfl dX12_sight_59 ?_
          refine lv_bipush (v := 7) hx hb dX12_sight_62 (by decide) ?_
          refine tk_ialdR hC hK hw hT kM_at12 rfl (by decide) (by decide) dX12_sight_64 (fun x23 c24 Ex23 => ?_)
          refine wk_top x20 (c24.symm.trans c21) ?_
          refine lv_imul hx hb dX12_sight_65 ?_
          refine lv_topi (fun x25 ex25 => ?_)
          have ex25 : x25.toInt = (2 : Int) * x20.toInt := by rw [ex25]; exact wk_mul (show (-2147483648) ≤ (2 : Int) * x20.toInt by omega) (show (2 : Int) * x20.toInt ≤ 2147483647 by omega)
          refine lv_iadd hx hb dX12_sight_66 ?_
          refine lv_topi (fun x26 ex26 => ?_)
          have ex26 : x26.toInt = (264 : Int) + x25.toInt := by rw [ex26]; exact wk_add (show (-2147483648) ≤ (264 : Int) + x25.toInt by omega) (show (264 : Int) + x25.toInt ≤ 2147483647 by omega)
          refine lv_iload_n hx hb dX12_sight_67 rfl (lv_at hl 1 rfl) ?_
          refine tk_iastR hC hK hw hT kM_at12 (by decide) rfl (show 0 ≤ x26.toInt by omega) (show x26.toInt < 296 by omega) (tk_rgS rfl 264 2 12 0 11 (by decide +kernel) ⟨(x20.toInt - 0).toNat, by omega, show x26.toInt.toNat = 264 + 2 * (x20.toInt - 0).toNat by omega⟩ (show 0 ≤ a1.toInt by omega) (show a1.toInt ≤ 11 by omega)) dX12_sight_68 (fun H locs w27 hw hT k29 c28 => ?_)
          have hF := hF.put kM_at12 (inE_of (a := 264) (b := 286) (by decide) (show 264 ≤ x26.toInt.toNat by omega) (show x26.toInt.toNat ≤ 286 by omega)) k29
          have c30 := k29.gi (Or.inr (show 1 ≠ x26.toInt.toNat by omega)) c10
          have c31 := k29.gi (Or.inr (show 7 ≠ x26.toInt.toNat by omega)) c21
          refine lv_aload_n hx hb dX12_sight_69 rfl (lv_at hl 0 rfl) ?_
          refine tk_getA hC hK hw hT hinX12 kM_at0 (by decide) rfl 26 (by decide) (List.mem_of_getElem? (i := 1) rfl) rfl rfl dX12_sight_70 ?_
          refine lv_sipush (v := 264) hx hb dX12_sight_73 (by decide) ?_
          refine lv_iconst (v := 2) hx hb dX12_sight_76 (by decide) ?_
          refine lv_aload_n hx hb dX12_sight_77 rfl (lv_at hl 0 rfl) ?_
          refine tk_getA hC hK hw hT hinX12 kM_at0 (by decide) rfl 26 (by decide) (List.mem_of_getElem? (i := 1) rfl) rfl rfl dX12_sight_78 ?_
          refine lv_bipush (v := 7) hx hb dX12_sight_81 (by decide) ?_
          refine tk_ialdR hC hK hw hT kM_at12 rfl (by decide) (by decide) dX12_sight_83 (fun x32 c33 Ex32 => ?_)
          refine wk_top x20 (c33.symm.trans c31) ?_
          refine lv_imul hx hb dX12_sight_84 ?_
          refine lv_topi (fun x34 ex34 => ?_)
          have ex34 : x34.toInt = (2 : Int) * x20.toInt := by rw [ex34]; exact wk_mul (show (-2147483648) ≤ (2 : Int) * x20.toInt by omega) (show (2 : Int) * x20.toInt ≤ 2147483647 by omega)
          refine lv_iadd hx hb dX12_sight_85 ?_
          refine lv_topi (fun x35 ex35 => ?_)
          have ex35 : x35.toInt = (264 : Int) + x34.toInt := by rw [ex35]; exact wk_add (show (-2147483648) ≤ (264 : Int) + x34.toInt by omega) (show (264 : Int) + x34.toInt ≤ 2147483647 by omega)
          refine lv_iconst (v := 1) hx hb dX12_sight_86 (by decide) ?_
          refine lv_iadd hx hb dX12_sight_87 ?_
          refine lv_topi (fun x36 ex36 => ?_)
          have ex36 : x36.toInt = x35.toInt + (1 : Int) := by rw [ex36]; exact wk_add (show (-2147483648) ≤ x35.toInt + (1 : Int) by omega) (show x35.toInt + (1 : Int) ≤ 2147483647 by omega)
          refine lv_iload_n hx hb dX12_sight_88 rfl (lv_at hl 2 rfl) ?_
          refine tk_iastR hC hK hw hT kM_at12 (by decide) rfl (show 0 ≤ x36.toInt by omega) (show x36.toInt < 296 by omega) (tk_rgS rfl 265 2 12 0 3 (by decide +kernel) ⟨(x20.toInt - 0).toNat, by omega, show x36.toInt.toNat = 265 + 2 * (x20.toInt - 0).toNat by omega⟩ (show 0 ≤ a2.toInt by omega) (show a2.toInt ≤ 3 by omega)) dX12_sight_89 (fun H locs w37 hw hT k39 c38 => ?_)
          have hF := hF.put kM_at12 (inE_of (a := 265) (b := 287) (by decide) (show 265 ≤ x36.toInt.toNat by omega) (show x36.toInt.toNat ≤ 287 by omega)) k39
          have c40 := k39.gi (Or.inr (show 1 ≠ x36.toInt.toNat by omega)) c30
          have c41 := k39.gi (Or.inr (show 7 ≠ x36.toInt.toNat by omega)) c31
          refine lv_aload_n hx hb dX12_sight_90 rfl (lv_at hl 0 rfl) ?_
          refine tk_getA hC hK hw hT hinX12 kM_at0 (by decide) rfl 26 (by decide) (List.mem_of_getElem? (i := 1) rfl) rfl rfl dX12_sight_91 ?_
          refine lv_bipush (v := 7) hx hb dX12_sight_94 (by decide) ?_
          refine lv_dup2_11 hx hb dX12_sight_96 rfl rfl ?_
          refine tk_ialdR hC hK hw hT kM_at12 rfl (by decide) (by decide) dX12_sight_97 (fun x42 c43 Ex42 => ?_)
          refine wk_top x20 (c43.symm.trans c41) ?_
          refine lv_iconst (v := 1) hx hb dX12_sight_98 (by decide) ?_
          refine lv_iadd hx hb dX12_sight_99 ?_
          refine lv_topi (fun x44 ex44 => ?_)
          have ex44 : x44.toInt = x20.toInt + (1 : Int) := by rw [ex44]; exact wk_add (show (-2147483648) ≤ x20.toInt + (1 : Int) by omega) (show x20.toInt + (1 : Int) ≤ 2147483647 by omega)
          refine tk_iastR hC hK hw hT kM_at12 (by decide) rfl (by decide) (by decide) (tk_rgS rfl 7 1 1 1 12 (by decide +kernel) ⟨0, by decide, by decide⟩ (show 1 ≤ x44.toInt by omega) (show x44.toInt ≤ 12 by omega)) dX12_sight_100 (fun H locs w45 hw hT k47 c46 => ?_)
          have hF := hF.put kM_at12 (inE_of (a := 7) (b := 7) (by decide) (by decide) (by decide)) k47
          have c48 := k47.gi (Or.inr (by decide)) c40
          have c46 : gi w45 12 7 = x44 := c46
          refine lv_aload_n hx hb dX12_sight_101 rfl (lv_at hl 0 rfl) ?_
          refine tk_getA hC hK hw hT hinX12 kM_at0 (by decide) rfl 26 (by decide) (List.mem_of_getElem? (i := 1) rfl) rfl rfl dX12_sight_102 ?_
          refine lv_bipush (v := 7) hx hb dX12_sight_105 (by decide) ?_
          refine tk_ialdR hC hK hw hT kM_at12 rfl (by decide) (by decide) dX12_sight_107 (fun x49 c50 Ex49 => ?_)
          refine wk_top x44 (c50.symm.trans c46) ?_
          exact tk_iret hC hr hlocks hK ⟨hT, hF, (Or.inr ⟨(show 0 ≤ x44.toInt by omega), (show x44.toInt ≤ 12 by omega), (show (-1) ≤ a1.toInt by omega), (show a1.toInt ≤ 11 by omega), ⟨x44, c46, (show 0 ≤ x44.toInt by omega), (show x44.toInt ≤ 12 by omega)⟩⟩)⟩ hw dX12_sight_108
        · have c22 : x20.toInt = (12 : Int) := wk_eq.mp c22
          exact J47  H locs ls w0   hw hT hF  (lv_sub hl [0, 1, 2] rfl)
  · have c2 : a1.toInt = (-1 : Int) := wk_eq.mp c2
    refine lv_aload_n hx hb dX12_sight_5 rfl (lv_at hl 0 rfl) ?_
    refine tk_getA hC hK hw hT hinX12 kM_at0 (by decide) rfl 26 (by decide) (List.mem_of_getElem? (i := 1) rfl) rfl rfl dX12_sight_6 ?_
    refine lv_bipush (v := 7) hx hb dX12_sight_9 (by decide) ?_
    refine lv_iconst (v := 0) hx hb dX12_sight_11 (by decide) ?_
    refine tk_iastR hC hK hw hT kM_at12 (by decide) rfl (by decide) (by decide) (tk_rg0 rfl (show 0 ≤ B by omega) (by decide)) dX12_sight_12 (fun H locs w51 hw hT k53 c52 => ?_)
    have hF := hF.put kM_at12 (inE_of (a := 7) (b := 7) (by decide) (by decide) (by decide)) k53
    have c52 : gi w51 12 7 = 0 := c52
    refine lv_iconst (v := 0) hx hb dX12_sight_13 (by decide) ?_
    exact tk_iret hC hr hlocks hK ⟨hT, hF, (Or.inr ⟨(by decide), (by decide), (show (-1) ≤ a1.toInt by omega), (show a1.toInt ≤ 11 by omega), ⟨0, c52, (by decide), (by decide)⟩⟩)⟩ hw dX12_sight_14
abbrev P_X12_fitting_1 (ad : Nat → Nat) (cy : Nat → ClassId) (B : Int) (qr : Nat) (s1 : Int)  (w0 : va_W) : Int32 → va_W → Prop := fun r u => w0 = u ∧ ((0 ≤ r.toInt ∧ r.toInt ≤ 127))
set_option maxHeartbeats 4000000 in
set_option maxRecDepth 100000 in
theorem k_X12_fitting_1 (l : Launch) (adK adV : Nat → Nat) (dC : Nat → ClassId) (dI : Nat → Nat → Nat) (cy : Nat → ClassId) (ad : Nat → Nat) (B : Int) (hB0 : 100000 ≤ B) (hB1 : B ≤ 1073741824) (qr : Nat) (s1 : Int)   (w0 : va_W) (sz : Nat) (hT : TW ksM ad cy B qr 12 w0)  : Met l yX12_fitting wsX12_fitting ({ frames := 2, cells := 0, slots := 0, locals := 34 }) (va_Pc [.ref (ad 0)] (wpreS adK adV dC dI cy sz w0)) (va_Qi (P_X12_fitting_1 ad cy B qr s1  w0) (fun u : va_W => wpost dC dI cy (va_A w0 sz) u) (va_A w0 sz)) 0 0 (va_A w0 sz) := by
  refine Met.ofW (cc := cX12_fitting) (maxL := 5) (ret := (some .int)) (by decide) rfl ?_
  intro p e s m args below meth c s₁ Bk hml hv
  obtain ⟨rfl, ⟨hsz, hP, hK, hD0⟩, hE, hSR⟩ := hv
  have hx := Bk.exec
  have hb := Bk.bytes
  have hr := Bk.returns
  have hlocks := Bk.notSynchronized
  have hC : CallFix p m c cX12_fitting 5 s _ wsX12_fitting RX12 := ⟨hx, hb, hml, findClass_of_methodNamed Bk.named, atoms_spec (ws := wsX12_fitting) Bk.pre⟩
  subst hsz
  have hD := hD0.self (sz := s.heap.size)
  generalize hAe : va_A w0 s.heap.size = A at hD hE ⊢
  have hA : ∀ q : Nat, s.heap.size ≤ q → A q := fun q h => by rw [← hAe]; exact Or.inr h
  have hw : Wd dC dI A s.heap s.heap [] w0 := ⟨hP, hD, va_S.rf⟩
  have hF : FE ksM ([] : List (Nat × Nat × Nat)) w0 w0 := FE.rf
  have hl := lv_entry ([.ref (ad 0)]) (n := 5) (Nat.le_of_ble_eq_true rfl)
  rw [lg_entry_eq]
  generalize (lg_sl ([.ref (ad 0)]) ++ List.replicate (5 - (lg_sl ([.ref (ad 0)])).length) Slot.unset).toArray = ls at hl ⊢
  have hl : lv_has ls 5 [(0, .ref (ad 0))] := hl
  generalize hloc : ([] : List Loc) = locs at hw ⊢
  have hinX12 : ∀ w ∈ u_ws RX12 TX12 42, w ∈ wsX12_fitting := fun _ h => List.mem_cons_of_mem _ (List.mem_append_right _ (h))
  have L4 : ∀ (n4 : Nat) (v4_1 : Int32) (v4_2 : Int32) (H : Heap) (locs : List Loc) (ls : Array Slot), 0 ≤ v4_1.toInt → v4_1.toInt ≤ 127 → 0 ≤ v4_2.toInt → v4_2.toInt ≤ 7 → (7 - v4_2.toInt).toNat < n4 → Wd dC dI A s.heap H locs w0 → lv_has ls 5 [(0, .ref (ad 0)), (1, .int v4_1), (2, .int v4_2)] → W p l e ({ frames := 2, cells := 0, slots := 0, locals := 34 }) s m (List.toArray [.ref (ad 0)]) below meth c H locs 0 0 (MQ below (va_Qi (P_X12_fitting_1 ad cy B qr s1  w0) (fun u : va_W => wpost dC dI cy A u) A) (List.toArray [.ref (ad 0)]) s 0 0 A) (F0 m 4 ls []) := by
    intro n4
    induction n4 with
    | zero => intro v4_1 v4_2 H locs ls r1 t2 r3 t4 hm4 hw hl; omega
    | succ n4 ih4 =>
      intro v4_1 v4_2 H locs ls r1 t2 r3 t4 hm4 hw hl
      have L15 : ∀ (n15 : Nat) (v15_3 : Int32) (v15_4 : Int32) (H : Heap) (locs : List Loc) (ls : Array Slot), 0 ≤ v4_1.toInt → v4_1.toInt ≤ 127 → 0 ≤ v4_2.toInt → v4_2.toInt ≤ 6 → 0 ≤ v15_3.toInt → v15_3.toInt ≤ 1 → 0 ≤ v15_4.toInt → v15_4.toInt ≤ 12 → (12 - v15_4.toInt).toNat < n15 → Wd dC dI A s.heap H locs w0 → lv_has ls 5 [(0, .ref (ad 0)), (1, .int v4_1), (2, .int v4_2), (3, .int v15_3), (4, .int v15_4)] → W p l e ({ frames := 2, cells := 0, slots := 0, locals := 34 }) s m (List.toArray [.ref (ad 0)]) below meth c H locs 0 0 (MQ below (va_Qi (P_X12_fitting_1 ad cy B qr s1  w0) (fun u : va_W => wpost dC dI cy A u) A) (List.toArray [.ref (ad 0)]) s 0 0 A) (F0 m 15 ls []) := by
        intro n15
        induction n15 with
        | zero => intro v15_3 v15_4 H locs ls r5 t6 r7 t8 r9 t10 r11 t12 hm15 hw hl; omega
        | succ n15 ih15 =>
          intro v15_3 v15_4 H locs ls r5 t6 r7 t8 r9 t10 r11 t12 hm15 hw hl
          have J73 : ∀ (f73_12_7 : Int32) (H : Heap) (locs : List Loc) (ls : Array Slot), 0 ≤ v4_1.toInt → v4_1.toInt ≤ 127 → 0 ≤ v4_2.toInt → v4_2.toInt ≤ 6 → 0 ≤ v15_3.toInt → v15_3.toInt ≤ 1 → 0 ≤ v15_4.toInt → v15_4.toInt ≤ 11 → 1 ≤ f73_12_7.toInt → f73_12_7.toInt ≤ 12 → Wd dC dI A s.heap H locs w0 → gi w0 12 7 = f73_12_7 → lv_has ls 5 [(0, .ref (ad 0)), (1, .int v4_1), (2, .int v4_2), (3, .int v15_3), (4, .int v15_4)] → W p l e ({ frames := 2, cells := 0, slots := 0, locals := 34 }) s m (List.toArray [.ref (ad 0)]) below meth c H locs 0 0 (MQ below (va_Qi (P_X12_fitting_1 ad cy B qr s1  w0) (fun u : va_W => wpost dC dI cy A u) A) (List.toArray [.ref (ad 0)]) s 0 0 A) (F0 m 73 ls []) := by
            intro f73_12_7 H locs ls r13 t14 r15 t16 r17 t18 r19 t20 r21 t22 hw c23 hl
            refine lv_iconst (v := 0) hx hb dX12_fitting_73 (by decide) ?_
            refine lv_istore_n (lv' := [(3, .int 0), (0, .ref (ad 0)), (1, .int v4_1), (2, .int v4_2), (4, .int v15_4)]) hx hb dX12_fitting_74 rfl hl (by decide) rfl (fun ls hl => ?_)
            obtain ⟨x24, ex24⟩ : ∃ y : Int32, y = v15_4 + Int32.ofInt 1 := ⟨_, rfl⟩
            refine lv_iinc (v := x24) (lv' := [(4, .int x24), (3, .int 0), (0, .ref (ad 0)), (1, .int v4_1), (2, .int v4_2)]) hx hb dX12_fitting_75 hl (k := 4) rfl ex24.symm (by decide) rfl (fun ls hl => ?_)
            have ex24 : x24.toInt = v15_4.toInt + 1 := by rw [ex24]; exact wk_add (y := 1) (show -2147483648 ≤ v15_4.toInt + 1 by omega) (show v15_4.toInt + 1 ≤ 2147483647 by omega)
            refine lv_goto (tgt := 15) hx hb dX12_fitting_78 (by decide) ?_
            exact ih15 0 x24 H locs ls  (show 0 ≤ v4_1.toInt by omega) (show v4_1.toInt ≤ 127 by omega) (show 0 ≤ v4_2.toInt by omega) (show v4_2.toInt ≤ 6 by omega) (by decide) (by decide) (show 0 ≤ x24.toInt by omega) (show x24.toInt ≤ 12 by omega) (show (12 - x24.toInt).toNat < n15 by omega) hw   (lv_sub hl [2, 3, 4, 1, 0] rfl)
          refine lv_iload hx hb dX12_fitting_15 (lv_at hl 4 rfl) ?_
          refine lv_aload_n hx hb dX12_fitting_17 rfl (lv_at hl 0 rfl) ?_
          refine tk_getA hC hK hw hT hinX12 kM_at0 (by decide) rfl 26 (by decide) (List.mem_of_getElem? (i := 1) rfl) rfl rfl dX12_fitting_18 ?_
          refine lv_bipush (v := 7) hx hb dX12_fitting_21 (by decide) ?_
          refine tk_ialdR hC hK hw hT kM_at12 rfl (by decide) (by decide) dX12_fitting_23 (fun x25 c26 Ex25 => ?_)
          have bx25 := tk_rgI rfl 7 1 1 0 12 (by decide +kernel) ⟨0, by decide, by decide⟩ Ex25
          have c26 : gi w0 12 7 = x25 := c26
          refine lv_icmp_ge (tgt := 81) hx hb dX12_fitting_24 (by decide) (fun c27 => ?_) (fun c27 => ?_)
          · have c27 : x25.toInt ≤ v15_4.toInt := wk_le.mp c27
            refine lv_iload_n hx hb dX12_fitting_81 rfl (lv_at hl 1 rfl) ?_
            refine lv_iload_n hx hb dX12_fitting_82 rfl (lv_at hl 3 rfl) ?_
            refine lv_if_eq (tgt := 92) hx hb dX12_fitting_83 (by decide) (fun c28 => ?_) (fun c28 => ?_)
            · have c28 : v15_3.toInt = (0 : Int) := wk_eq.mp c28
              refine lv_iconst (v := 0) hx hb dX12_fitting_92 (by decide) ?_
              refine lv_ior hx hb dX12_fitting_93 ?_
              refine lv_topi (fun x29 ex29 => ?_)
              have bx29 : 0 ≤ x29.toInt ∧ x29.toInt < 128 := by rw [ex29]; exact wk_or 7 (by decide) (by omega) (by omega) (by decide) (by decide)
              have mx29 : v4_1.toInt ≤ x29.toInt ∧ (0 : Int) ≤ x29.toInt := by rw [ex29]; exact wk_orL 7 (by decide) (by omega) (by omega) (by decide) (by decide)
              refine lv_istore_n (lv' := [(1, .int x29), (0, .ref (ad 0)), (2, .int v4_2), (3, .int v15_3), (4, .int v15_4)]) hx hb dX12_fitting_94 rfl hl (by decide) rfl (fun ls hl => ?_)
              obtain ⟨x30, ex30⟩ : ∃ y : Int32, y = v4_2 + Int32.ofInt 1 := ⟨_, rfl⟩
              refine lv_iinc (v := x30) (lv' := [(2, .int x30), (1, .int x29), (0, .ref (ad 0)), (3, .int v15_3), (4, .int v15_4)]) hx hb dX12_fitting_95 hl (k := 2) rfl ex30.symm (by decide) rfl (fun ls hl => ?_)
              have ex30 : x30.toInt = v4_2.toInt + 1 := by rw [ex30]; exact wk_add (y := 1) (show -2147483648 ≤ v4_2.toInt + 1 by omega) (show v4_2.toInt + 1 ≤ 2147483647 by omega)
              refine lv_goto (tgt := 4) hx hb dX12_fitting_98 (by decide) ?_
              exact ih4 x29 x30 H locs ls  (show 0 ≤ x29.toInt by omega) (show x29.toInt ≤ 127 by omega) (show 0 ≤ x30.toInt by omega) (show x30.toInt ≤ 7 by omega) (show (7 - x30.toInt).toNat < n4 by omega) hw   (lv_sub hl [2, 1, 0] rfl)
            · have c28 : ¬ v15_3.toInt = (0 : Int) := wk_eqF c28
              refine lv_iconst (v := 1) hx hb dX12_fitting_86 (by decide) ?_
              refine lv_iload_n hx hb dX12_fitting_87 rfl (lv_at hl 2 rfl) ?_
              refine lv_ishl hx hb dX12_fitting_88 ?_
              refine lv_topi (fun x31 ex31 => ?_)
              have bx31 : 1 ≤ x31.toInt ∧ x31.toInt ≤ 64 := by rw [ex31]; exact wk_shl1 6 (by decide) (by omega) (by omega)
              refine lv_goto (tgt := 93) hx hb dX12_fitting_89 (by decide) ?_
              refine lv_ior hx hb dX12_fitting_93 ?_
              refine lv_topi (fun x32 ex32 => ?_)
              have bx32 : 0 ≤ x32.toInt ∧ x32.toInt < 128 := by rw [ex32]; exact wk_or 7 (by decide) (by omega) (by omega) (by omega) (by omega)
              have mx32 : v4_1.toInt ≤ x32.toInt ∧ x31.toInt ≤ x32.toInt := by rw [ex32]; exact wk_orL 7 (by decide) (by omega) (by omega) (by omega) (by omega)
              refine lv_istore_n (lv' := [(1, .int x32), (0, .ref (ad 0)), (2, .int v4_2), (3, .int v15_3), (4, .int v15_4)]) hx hb dX12_fitting_94 rfl hl (by decide) rfl (fun ls hl => ?_)
              obtain ⟨x33, ex33⟩ : ∃ y : Int32, y = v4_2 + Int32.ofInt 1 := ⟨_, rfl⟩
              refine lv_iinc (v := x33) (lv' := [(2, .int x33), (1, .int x32), (0, .ref (ad 0)), (3, .int v15_3), (4, .int v15_4)]) hx hb dX12_fitting_95 hl (k := 2) rfl ex33.symm (by decide) rfl (fun ls hl => ?_)
              have ex33 : x33.toInt = v4_2.toInt + 1 := by rw [ex33]; exact wk_add (y := 1) (show -2147483648 ≤ v4_2.toInt + 1 by omega) (show v4_2.toInt + 1 ≤ 2147483647 by omega)
              refine lv_goto (tgt := 4) hx hb dX12_fitting_98 (by decide) ?_
              exact ih4 x32 x33 H locs ls  (show 0 ≤ x32.toInt by omega) (show x32.toInt ≤ 127 by omega) (show 0 ≤ x33.toInt by omega) (show x33.toInt ≤ 7 by omega) (show (7 - x33.toInt).toNat < n4 by omega) hw   (lv_sub hl [2, 1, 0] rfl)
          · have c27 : v15_4.toInt < x25.toInt := wk_leF c27
            refine lv_iload_n hx hb dX12_fitting_27 rfl (lv_at hl 3 rfl) ?_
            refine lv_if_eq (tgt := 73) hx hb dX12_fitting_28 (by decide) (fun c34 => ?_) (fun c34 => ?_)
            · have c34 : v15_3.toInt = (0 : Int) := wk_eq.mp c34
              exact J73 x25 H locs ls  (show 0 ≤ v4_1.toInt by omega) (show v4_1.toInt ≤ 127 by omega) (show 0 ≤ v4_2.toInt by omega) (show v4_2.toInt ≤ 6 by omega) (show 0 ≤ v15_3.toInt by omega) (show v15_3.toInt ≤ 1 by omega) (show 0 ≤ v15_4.toInt by omega) (show v15_4.toInt ≤ 11 by omega) (show 1 ≤ x25.toInt by omega) (show x25.toInt ≤ 12 by omega)  hw  c26 (lv_sub hl [0, 1, 2, 3, 4] rfl)
            · have c34 : ¬ v15_3.toInt = (0 : Int) := wk_eqF c34
              refine lv_aload_n hx hb dX12_fitting_31 rfl (lv_at hl 0 rfl) ?_
              refine lv_aload_n hx hb dX12_fitting_32 rfl (lv_at hl 0 rfl) ?_
              refine tk_getA hC hK hw hT hinX12 kM_at0 (by decide) rfl 26 (by decide) (List.mem_of_getElem? (i := 1) rfl) rfl rfl dX12_fitting_33 ?_
              refine lv_sipush (v := 264) hx hb dX12_fitting_36 (by decide) ?_
              refine lv_iconst (v := 2) hx hb dX12_fitting_39 (by decide) ?_
              refine lv_iload hx hb dX12_fitting_40 (lv_at hl 4 rfl) ?_
              refine lv_imul hx hb dX12_fitting_42 ?_
              refine lv_topi (fun x35 ex35 => ?_)
              have ex35 : x35.toInt = (2 : Int) * v15_4.toInt := by rw [ex35]; exact wk_mul (show (-2147483648) ≤ (2 : Int) * v15_4.toInt by omega) (show (2 : Int) * v15_4.toInt ≤ 2147483647 by omega)
              refine lv_iadd hx hb dX12_fitting_43 ?_
              refine lv_topi (fun x36 ex36 => ?_)
              have ex36 : x36.toInt = (264 : Int) + x35.toInt := by rw [ex36]; exact wk_add (show (-2147483648) ≤ (264 : Int) + x35.toInt by omega) (show (264 : Int) + x35.toInt ≤ 2147483647 by omega)
              refine tk_ialdR hC hK hw hT kM_at12 rfl (show 0 ≤ x36.toInt by omega) (show x36.toInt < 296 by omega) dX12_fitting_44 (fun x37 c38 Ex37 => ?_)
              have c38 : gi w0 12 (2 * v15_4.toInt + 264).toNat = x37 := (congrArg (gi w0 12) (congrArg Int.toNat (show 2 * v15_4.toInt + 264 = x36.toInt by omega))).trans c38
              have bx37 := tk_rgI rfl 264 2 12 0 11 (by decide +kernel) ⟨(v15_4.toInt - 0).toNat, by omega, show x36.toInt.toNat = 264 + 2 * (v15_4.toInt - 0).toNat by omega⟩ Ex37
              refine lv_iconst (v := 3) hx hb dX12_fitting_45 (by decide) ?_
              refine lv_iload_n hx hb dX12_fitting_46 rfl (lv_at hl 2 rfl) ?_
              refine lv_iadd hx hb dX12_fitting_47 ?_
              refine lv_topi (fun x39 ex39 => ?_)
              have ex39 : x39.toInt = (3 : Int) + v4_2.toInt := by rw [ex39]; exact wk_add (show (-2147483648) ≤ (3 : Int) + v4_2.toInt by omega) (show (3 : Int) + v4_2.toInt ≤ 2147483647 by omega)
              refine tk_Vi hC hK hw hT hA hE hSR kM_at0 (by decide) rfl (k_X12_streetOf_4 l adK adV dC dI cy ad B (by omega) (by omega) qr s1   x37 (show 0 ≤ x37.toInt by omega) (show x37.toInt ≤ 11 by omega) x39 (show 3 ≤ x39.toInt by omega) (show x39.toInt ≤ 9 by omega) w0 H.size hT ) (cwV 2 hC.2.2.2.2 gX12_fitting_X12_streetOf rfl rfl rfl (by decide +kernel) ⟨Nat.le_of_ble_eq_true rfl, Nat.le_of_ble_eq_true rfl⟩) rfl hl.1 rfl (Nat.le_of_ble_eq_true rfl) dX12_fitting_48 (fun r40 w42 H locs hp41 hw => ?_)
              obtain ⟨rfl, hg47⟩ := hp41
              obtain ⟨g44, g45, c46⟩ := hg47
              refine lv_aload_n hx hb dX12_fitting_51 rfl (lv_at hl 0 rfl) ?_
              refine tk_getA hC hK hw hT hinX12 kM_at0 (by decide) rfl 26 (by decide) (List.mem_of_getElem? (i := 1) rfl) rfl rfl dX12_fitting_52 ?_
              refine lv_sipush (v := 264) hx hb dX12_fitting_55 (by decide) ?_
              refine lv_iconst (v := 2) hx hb dX12_fitting_58 (by decide) ?_
              refine lv_iload hx hb dX12_fitting_59 (lv_at hl 4 rfl) ?_
              refine lv_imul hx hb dX12_fitting_61 ?_
              refine lv_topi (fun x48 ex48 => ?_)
              have ex48 : x48.toInt = (2 : Int) * v15_4.toInt := by rw [ex48]; exact wk_mul (show (-2147483648) ≤ (2 : Int) * v15_4.toInt by omega) (show (2 : Int) * v15_4.toInt ≤ 2147483647 by omega)
              refine lv_iadd hx hb dX12_fitting_62 ?_
              refine lv_topi (fun x49 ex49 => ?_)
              have ex49 : x49.toInt = (264 : Int) + x48.toInt := by rw [ex49]; exact wk_add (show (-2147483648) ≤ (264 : Int) + x48.toInt by omega) (show (264 : Int) + x48.toInt ≤ 2147483647 by omega)
              refine lv_iconst (v := 1) hx hb dX12_fitting_63 (by decide) ?_
              refine lv_iadd hx hb dX12_fitting_64 ?_
              refine lv_topi (fun x50 ex50 => ?_)
              have ex50 : x50.toInt = x49.toInt + (1 : Int) := by rw [ex50]; exact wk_add (show (-2147483648) ≤ x49.toInt + (1 : Int) by omega) (show x49.toInt + (1 : Int) ≤ 2147483647 by omega)
              refine tk_ialdR hC hK hw hT kM_at12 rfl (show 0 ≤ x50.toInt by omega) (show x50.toInt < 296 by omega) dX12_fitting_65 (fun x51 c52 Ex51 => ?_)
              have c52 : gi w0 12 (2 * v15_4.toInt + 265).toNat = x51 := (congrArg (gi w0 12) (congrArg Int.toNat (show 2 * v15_4.toInt + 265 = x50.toInt by omega))).trans c52
              have bx51 := tk_rgI rfl 265 2 12 0 11 (by decide +kernel) ⟨(v15_4.toInt - 0).toNat, by omega, show x50.toInt.toNat = 265 + 2 * (v15_4.toInt - 0).toNat by omega⟩ Ex51
              refine lv_icmp_ne (tgt := 73) hx hb dX12_fitting_66 (by decide) (fun c53 => ?_) (fun c53 => ?_)
              · have c53 : ¬ r40.toInt = x51.toInt := wk_eqF c53
                exact J73 x25 H locs ls  (show 0 ≤ v4_1.toInt by omega) (show v4_1.toInt ≤ 127 by omega) (show 0 ≤ v4_2.toInt by omega) (show v4_2.toInt ≤ 6 by omega) (show 0 ≤ v15_3.toInt by omega) (show v15_3.toInt ≤ 1 by omega) (show 0 ≤ v15_4.toInt by omega) (show v15_4.toInt ≤ 11 by omega) (show 1 ≤ x25.toInt by omega) (show x25.toInt ≤ 12 by omega)  hw  c26 (lv_sub hl [0, 1, 2, 3, 4] rfl)
              · have c53 : r40.toInt = x51.toInt := wk_eq.mp c53
                refine lv_iconst (v := 1) hx hb dX12_fitting_69 (by decide) ?_
                refine lv_goto (tgt := 74) hx hb dX12_fitting_70 (by decide) ?_
                refine lv_istore_n (lv' := [(3, .int 1), (0, .ref (ad 0)), (1, .int v4_1), (2, .int v4_2), (4, .int v15_4)]) hx hb dX12_fitting_74 rfl hl (by decide) rfl (fun ls hl => ?_)
                obtain ⟨x54, ex54⟩ : ∃ y : Int32, y = v15_4 + Int32.ofInt 1 := ⟨_, rfl⟩
                refine lv_iinc (v := x54) (lv' := [(4, .int x54), (3, .int 1), (0, .ref (ad 0)), (1, .int v4_1), (2, .int v4_2)]) hx hb dX12_fitting_75 hl (k := 4) rfl ex54.symm (by decide) rfl (fun ls hl => ?_)
                have ex54 : x54.toInt = v15_4.toInt + 1 := by rw [ex54]; exact wk_add (y := 1) (show -2147483648 ≤ v15_4.toInt + 1 by omega) (show v15_4.toInt + 1 ≤ 2147483647 by omega)
                refine lv_goto (tgt := 15) hx hb dX12_fitting_78 (by decide) ?_
                exact ih15 1 x54 H locs ls  (show 0 ≤ v4_1.toInt by omega) (show v4_1.toInt ≤ 127 by omega) (show 0 ≤ v4_2.toInt by omega) (show v4_2.toInt ≤ 6 by omega) (by decide) (by decide) (show 0 ≤ x54.toInt by omega) (show x54.toInt ≤ 12 by omega) (show (12 - x54.toInt).toNat < n15 by omega) hw   (lv_sub hl [2, 3, 4, 1, 0] rfl)
      refine lv_iload_n hx hb dX12_fitting_4 rfl (lv_at hl 2 rfl) ?_
      refine lv_bipush (v := 7) hx hb dX12_fitting_5 (by decide) ?_
      refine lv_icmp_ge (tgt := 101) hx hb dX12_fitting_7 (by decide) (fun c55 => ?_) (fun c55 => ?_)
      · have c55 : (7 : Int) ≤ v4_2.toInt := wk_le.mp c55
        refine lv_iload_n hx hb dX12_fitting_101 rfl (lv_at hl 1 rfl) ?_
        exact tk_iret hC hr hlocks hK ⟨rfl, ⟨(show 0 ≤ v4_1.toInt by omega), (show v4_1.toInt ≤ 127 by omega)⟩⟩ hw dX12_fitting_102
      · have c55 : v4_2.toInt < (7 : Int) := wk_leF c55
        refine lv_iconst (v := 1) hx hb dX12_fitting_10 (by decide) ?_
        refine lv_istore_n (lv' := [(3, .int 1), (0, .ref (ad 0)), (1, .int v4_1), (2, .int v4_2)]) hx hb dX12_fitting_11 rfl hl (by decide) rfl (fun ls hl => ?_)
        refine lv_iconst (v := 0) hx hb dX12_fitting_12 (by decide) ?_
        refine lv_istore (lv' := [(4, .int 0), (3, .int 1), (0, .ref (ad 0)), (1, .int v4_1), (2, .int v4_2)]) hx hb dX12_fitting_13 hl (by decide) rfl (fun ls hl => ?_)
        exact L15 ((12 - (0 : Int)).toNat + 1) 1 0 H locs ls  (show 0 ≤ v4_1.toInt by omega) (show v4_1.toInt ≤ 127 by omega) (show 0 ≤ v4_2.toInt by omega) (show v4_2.toInt ≤ 6 by omega) (by decide) (by decide) (by decide) (by decide) (Nat.lt_succ_self _) hw   (lv_sub hl [2, 3, 4, 1, 0] rfl)
  refine lv_iconst (v := 0) hx hb dX12_fitting_0 (by decide) ?_
  refine lv_istore_n (lv' := [(1, .int 0), (0, .ref (ad 0))]) hx hb dX12_fitting_1 rfl hl (by decide) rfl (fun ls hl => ?_)
  refine lv_iconst (v := 0) hx hb dX12_fitting_2 (by decide) ?_
  refine lv_istore_n (lv' := [(2, .int 0), (1, .int 0), (0, .ref (ad 0))]) hx hb dX12_fitting_3 rfl hl (by decide) rfl (fun ls hl => ?_)
  exact L4 ((7 - (0 : Int)).toNat + 1) 0 0 s.heap locs ls  (by decide) (by decide) (by decide) (by decide) (Nat.lt_succ_self _) hw   (lv_sub hl [2, 1, 0] rfl)
abbrev P_X12_isOf_8 (ad : Nat → Nat) (cy : Nat → ClassId) (B : Int) (qr : Nat) (s1 : Int) (a0 : Int32) (a1 : Int32) (w0 : va_W) : Int32 → va_W → Prop := fun r u => w0 = u ∧ ((r = 0 ∧ (¬ mOf a0 a1)) ∨ (r = 1 ∧ (mOf a0 a1)))
set_option maxHeartbeats 4000000 in
set_option maxRecDepth 100000 in
theorem k_X12_isOf_8 (l : Launch) (adK adV : Nat → Nat) (dC : Nat → ClassId) (dI : Nat → Nat → Nat) (cy : Nat → ClassId) (ad : Nat → Nat) (B : Int) (hB0 : 100000 ≤ B) (hB1 : B ≤ 1073741824) (qr : Nat) (s1 : Int)  (a0 : Int32) (ra0 : 1 ≤ a0.toInt) (ta0 : a0.toInt ≤ 127) (a1 : Int32) (ra1 : 0 ≤ a1.toInt) (ta1 : a1.toInt ≤ 6) (w0 : va_W) (sz : Nat) (hT : TW ksM ad cy B qr 12 w0)  : Met l yX12_isOf wsX12_isOf ({ frames := 1, cells := 0, slots := 0, locals := 12 }) (va_Pc [.int a0, .int a1] (wpreS adK adV dC dI cy sz w0)) (va_Qi (P_X12_isOf_8 ad cy B qr s1 a0 a1 w0) (fun u : va_W => wpost dC dI cy (va_A w0 sz) u) (va_A w0 sz)) 0 0 (va_A w0 sz) := by
  refine Met.ofW (cc := cX12_isOf) (maxL := 2) (ret := (some .boolean)) (by decide) rfl ?_
  intro p e s m args below meth c s₁ Bk hml hv
  obtain ⟨rfl, ⟨hsz, hP, hK, hD0⟩, hE, hSR⟩ := hv
  have hx := Bk.exec
  have hb := Bk.bytes
  have hr := Bk.returns
  have hlocks := Bk.notSynchronized
  have hC : CallFix p m c cX12_isOf 2 s _ wsX12_isOf RX12 := ⟨hx, hb, hml, findClass_of_methodNamed Bk.named, atoms_spec (ws := wsX12_isOf) Bk.pre⟩
  subst hsz
  have hD := hD0.self (sz := s.heap.size)
  generalize hAe : va_A w0 s.heap.size = A at hD hE ⊢
  have hA : ∀ q : Nat, s.heap.size ≤ q → A q := fun q h => by rw [← hAe]; exact Or.inr h
  have hw : Wd dC dI A s.heap s.heap [] w0 := ⟨hP, hD, va_S.rf⟩
  have hF : FE ksM ([] : List (Nat × Nat × Nat)) w0 w0 := FE.rf
  have hl := lv_entry ([.int a0, .int a1]) (n := 2) (Nat.le_of_ble_eq_true rfl)
  rw [lg_entry_eq]
  generalize (lg_sl ([.int a0, .int a1]) ++ List.replicate (2 - (lg_sl ([.int a0, .int a1])).length) Slot.unset).toArray = ls at hl ⊢
  have hl : lv_has ls 2 [(0, .int a0), (1, .int a1)] := hl
  generalize hloc : ([] : List Loc) = locs at hw ⊢
  refine lv_iload_n hx hb dX12_isOf_0 rfl (lv_at hl 0 rfl) ?_
  refine lv_iload_n hx hb dX12_isOf_1 rfl (lv_at hl 1 rfl) ?_
  refine lv_ishr hx hb dX12_isOf_2 ?_
  refine lv_topi (fun x1 ex1 => ?_)
  have bx1 : 0 ≤ x1.toInt ∧ x1.toInt ≤ a0.toInt := by rw [ex1]; exact wk_shr (by omega)
  refine lv_iconst (v := 1) hx hb dX12_isOf_3 (by decide) ?_
  refine lv_iand hx hb dX12_isOf_4 ?_
  refine lv_topi (fun x2 ex2 => ?_)
  have bx2 : 0 ≤ x2.toInt ∧ x2.toInt ≤ (1 : Int) := by rw [ex2]; exact wk_and (by decide)
  refine lv_iconst (v := 1) hx hb dX12_isOf_5 (by decide) ?_
  refine lv_icmp_ne (tgt := 13) hx hb dX12_isOf_6 (by decide) (fun c3 => ?_) (fun c3 => ?_)
  · have c3 : ¬ x2.toInt = (1 : Int) := wk_eqF c3
    refine lv_iconst (v := 0) hx hb dX12_isOf_13 (by decide) ?_
    exact tk_zret hC hr rfl hlocks hK ⟨rfl, (Or.inl ⟨rfl, (by unfold mOf; rw [← ex1, ← ex2]; omega)⟩)⟩ hw dX12_isOf_14
  · have c3 : x2.toInt = (1 : Int) := wk_eq.mp c3
    refine lv_iconst (v := 1) hx hb dX12_isOf_9 (by decide) ?_
    refine lv_goto (tgt := 14) hx hb dX12_isOf_10 (by decide) ?_
    exact tk_zret hC hr rfl hlocks hK ⟨rfl, (Or.inr ⟨rfl, (by unfold mOf; rw [← ex1, ← ex2]; omega)⟩)⟩ hw dX12_isOf_14
abbrev P_X12_mostAlike_1 (ad : Nat → Nat) (cy : Nat → ClassId) (B : Int) (qr : Nat) (s1 : Int) (a1 : Int32) (a2 : Int32) (w0 : va_W) : Int32 → va_W → Prop := fun r u => w0 = u ∧ ((0 ≤ r.toInt))
set_option maxHeartbeats 4000000 in
set_option maxRecDepth 100000 in
theorem k_X12_mostAlike_1 (l : Launch) (adK adV : Nat → Nat) (dC : Nat → ClassId) (dI : Nat → Nat → Nat) (cy : Nat → ClassId) (ad : Nat → Nat) (B : Int) (hB0 : 100000 ≤ B) (hB1 : B ≤ 1073741824) (qr : Nat) (s1 : Int)  (a1 : Int32) (ra1 : 0 ≤ a1.toInt) (ta1 : a1.toInt ≤ 11) (a2 : Int32) (ra2 : 1 ≤ a2.toInt) (ta2 : a2.toInt ≤ 127) (w0 : va_W) (sz : Nat) (hT : TW ksM ad cy B qr 12 w0)  : Met l yX12_mostAlike wsX12_mostAlike ({ frames := 2, cells := 0, slots := 0, locals := 34 }) (va_Pc [.ref (ad 0), .int a1, .int a2] (wpreS adK adV dC dI cy sz w0)) (va_Qi (P_X12_mostAlike_1 ad cy B qr s1 a1 a2 w0) (fun u : va_W => wpost dC dI cy (va_A w0 sz) u) (va_A w0 sz)) 0 0 (va_A w0 sz) := by
  refine Met.ofW (cc := cX12_mostAlike) (maxL := 7) (ret := (some .int)) (by decide) rfl ?_
  intro p e s m args below meth c s₁ Bk hml hv
  obtain ⟨rfl, ⟨hsz, hP, hK, hD0⟩, hE, hSR⟩ := hv
  have hx := Bk.exec
  have hb := Bk.bytes
  have hr := Bk.returns
  have hlocks := Bk.notSynchronized
  have hC : CallFix p m c cX12_mostAlike 7 s _ wsX12_mostAlike RX12 := ⟨hx, hb, hml, findClass_of_methodNamed Bk.named, atoms_spec (ws := wsX12_mostAlike) Bk.pre⟩
  subst hsz
  have hD := hD0.self (sz := s.heap.size)
  generalize hAe : va_A w0 s.heap.size = A at hD hE ⊢
  have hA : ∀ q : Nat, s.heap.size ≤ q → A q := fun q h => by rw [← hAe]; exact Or.inr h
  have hw : Wd dC dI A s.heap s.heap [] w0 := ⟨hP, hD, va_S.rf⟩
  have hF : FE ksM ([] : List (Nat × Nat × Nat)) w0 w0 := FE.rf
  have hl := lv_entry ([.ref (ad 0), .int a1, .int a2]) (n := 7) (Nat.le_of_ble_eq_true rfl)
  rw [lg_entry_eq]
  generalize (lg_sl ([.ref (ad 0), .int a1, .int a2]) ++ List.replicate (7 - (lg_sl ([.ref (ad 0), .int a1, .int a2])).length) Slot.unset).toArray = ls at hl ⊢
  have hl : lv_has ls 7 [(0, .ref (ad 0)), (1, .int a1), (2, .int a2)] := hl
  generalize hloc : ([] : List Loc) = locs at hw ⊢
  have L5 : ∀ (n5 : Nat) (v5_3 : Int32) (v5_4 : Int32) (H : Heap) (locs : List Loc) (ls : Array Slot), 0 ≤ a1.toInt → a1.toInt ≤ 11 → 1 ≤ a2.toInt → a2.toInt ≤ 127 → 0 ≤ v5_3.toInt → 0 ≤ v5_4.toInt → v5_4.toInt ≤ 4 → (4 - v5_4.toInt).toNat < n5 → Wd dC dI A s.heap H locs w0 → lv_has ls 7 [(0, .ref (ad 0)), (1, .int a1), (2, .int a2), (3, .int v5_3), (4, .int v5_4)] → W p l e ({ frames := 2, cells := 0, slots := 0, locals := 34 }) s m (List.toArray [.ref (ad 0), .int a1, .int a2]) below meth c H locs 0 0 (MQ below (va_Qi (P_X12_mostAlike_1 ad cy B qr s1 a1 a2 w0) (fun u : va_W => wpost dC dI cy A u) A) (List.toArray [.ref (ad 0), .int a1, .int a2]) s 0 0 A) (F0 m 5 ls []) := by
    intro n5
    induction n5 with
    | zero => intro v5_3 v5_4 H locs ls r1 t2 r3 t4 r5 r6 t7 hm5 hw hl; omega
    | succ n5 ih5 =>
      intro v5_3 v5_4 H locs ls r1 t2 r3 t4 r5 r6 t7 hm5 hw hl
      have L17 : ∀ (n17 : Nat) (v17_5 : Int32) (v17_6 : Int32) (H : Heap) (locs : List Loc) (ls : Array Slot), 0 ≤ a1.toInt → a1.toInt ≤ 11 → 1 ≤ a2.toInt → a2.toInt ≤ 127 → 0 ≤ v5_3.toInt → 0 ≤ v5_4.toInt → v5_4.toInt ≤ 3 → 0 ≤ v17_6.toInt → v17_6.toInt ≤ 7 → (7 - v17_6.toInt).toNat < n17 → Wd dC dI A s.heap H locs w0 → lv_has ls 7 [(0, .ref (ad 0)), (1, .int a1), (2, .int a2), (3, .int v5_3), (4, .int v5_4), (5, .int v17_5), (6, .int v17_6)] → W p l e ({ frames := 2, cells := 0, slots := 0, locals := 34 }) s m (List.toArray [.ref (ad 0), .int a1, .int a2]) below meth c H locs 0 0 (MQ below (va_Qi (P_X12_mostAlike_1 ad cy B qr s1 a1 a2 w0) (fun u : va_W => wpost dC dI cy A u) A) (List.toArray [.ref (ad 0), .int a1, .int a2]) s 0 0 A) (F0 m 17 ls []) := by
        intro n17
        induction n17 with
        | zero => intro v17_5 v17_6 H locs ls r8 t9 r10 t11 r12 r13 t14 r15 t16 hm17 hw hl; omega
        | succ n17 ih17 =>
          intro v17_5 v17_6 H locs ls r8 t9 r10 t11 r12 r13 t14 r15 t16 hm17 hw hl
          refine lv_iload hx hb dX12_mostAlike_17 (lv_at hl 6 rfl) ?_
          refine lv_bipush (v := 7) hx hb dX12_mostAlike_19 (by decide) ?_
          refine lv_icmp_ge (tgt := 63) hx hb dX12_mostAlike_21 (by decide) (fun c17 => ?_) (fun c17 => ?_)
          · have c17 : (7 : Int) ≤ v17_6.toInt := wk_le.mp c17
            refine lv_iload hx hb dX12_mostAlike_63 (lv_at hl 5 rfl) ?_
            refine lv_iload_n hx hb dX12_mostAlike_65 rfl (lv_at hl 3 rfl) ?_
            refine lv_icmp_le (tgt := 74) hx hb dX12_mostAlike_66 (by decide) (fun c18 => ?_) (fun c18 => ?_)
            · have c18 : v17_5.toInt ≤ v5_3.toInt := wk_le.mp c18
              refine lv_iload_n hx hb dX12_mostAlike_74 rfl (lv_at hl 3 rfl) ?_
              refine lv_istore_n (lv' := [(3, .int v5_3), (0, .ref (ad 0)), (1, .int a1), (2, .int a2), (4, .int v5_4), (5, .int v17_5), (6, .int v17_6)]) hx hb dX12_mostAlike_75 rfl hl (by decide) rfl (fun ls hl => ?_)
              obtain ⟨x19, ex19⟩ : ∃ y : Int32, y = v5_4 + Int32.ofInt 1 := ⟨_, rfl⟩
              refine lv_iinc (v := x19) (lv' := [(4, .int x19), (3, .int v5_3), (0, .ref (ad 0)), (1, .int a1), (2, .int a2), (5, .int v17_5), (6, .int v17_6)]) hx hb dX12_mostAlike_76 hl (k := 4) rfl ex19.symm (by decide) rfl (fun ls hl => ?_)
              have ex19 : x19.toInt = v5_4.toInt + 1 := by rw [ex19]; exact wk_add (y := 1) (show -2147483648 ≤ v5_4.toInt + 1 by omega) (show v5_4.toInt + 1 ≤ 2147483647 by omega)
              refine lv_goto (tgt := 5) hx hb dX12_mostAlike_79 (by decide) ?_
              exact ih5 v5_3 x19 H locs ls  (show 0 ≤ a1.toInt by omega) (show a1.toInt ≤ 11 by omega) (show 1 ≤ a2.toInt by omega) (show a2.toInt ≤ 127 by omega) (show 0 ≤ v5_3.toInt by omega) (show 0 ≤ x19.toInt by omega) (show x19.toInt ≤ 4 by omega) (show (4 - x19.toInt).toNat < n5 by omega) hw   (lv_sub hl [2, 3, 4, 1, 0] rfl)
            · have c18 : v5_3.toInt < v17_5.toInt := wk_leF c18
              refine lv_iload hx hb dX12_mostAlike_69 (lv_at hl 5 rfl) ?_
              refine lv_goto (tgt := 75) hx hb dX12_mostAlike_71 (by decide) ?_
              refine lv_istore_n (lv' := [(3, .int v17_5), (0, .ref (ad 0)), (1, .int a1), (2, .int a2), (4, .int v5_4), (5, .int v17_5), (6, .int v17_6)]) hx hb dX12_mostAlike_75 rfl hl (by decide) rfl (fun ls hl => ?_)
              obtain ⟨x20, ex20⟩ : ∃ y : Int32, y = v5_4 + Int32.ofInt 1 := ⟨_, rfl⟩
              refine lv_iinc (v := x20) (lv' := [(4, .int x20), (3, .int v17_5), (0, .ref (ad 0)), (1, .int a1), (2, .int a2), (5, .int v17_5), (6, .int v17_6)]) hx hb dX12_mostAlike_76 hl (k := 4) rfl ex20.symm (by decide) rfl (fun ls hl => ?_)
              have ex20 : x20.toInt = v5_4.toInt + 1 := by rw [ex20]; exact wk_add (y := 1) (show -2147483648 ≤ v5_4.toInt + 1 by omega) (show v5_4.toInt + 1 ≤ 2147483647 by omega)
              refine lv_goto (tgt := 5) hx hb dX12_mostAlike_79 (by decide) ?_
              exact ih5 v17_5 x20 H locs ls  (show 0 ≤ a1.toInt by omega) (show a1.toInt ≤ 11 by omega) (show 1 ≤ a2.toInt by omega) (show a2.toInt ≤ 127 by omega) (show 0 ≤ v17_5.toInt by omega) (show 0 ≤ x20.toInt by omega) (show x20.toInt ≤ 4 by omega) (show (4 - x20.toInt).toNat < n5 by omega) hw   (lv_sub hl [2, 3, 4, 1, 0] rfl)
          · have c17 : v17_6.toInt < (7 : Int) := wk_leF c17
            refine lv_iload hx hb dX12_mostAlike_24 (lv_at hl 5 rfl) ?_
            refine lv_iload_n hx hb dX12_mostAlike_26 rfl (lv_at hl 2 rfl) ?_
            refine lv_iload hx hb dX12_mostAlike_27 (lv_at hl 6 rfl) ?_
            refine tk_Si hC hK hw hT hA hE hSR (k_X12_isOf_8 l adK adV dC dI cy ad B (by omega) (by omega) qr s1   a2 (show 1 ≤ a2.toInt by omega) (show a2.toInt ≤ 127 by omega) v17_6 (show 0 ≤ v17_6.toInt by omega) (show v17_6.toInt ≤ 6 by omega) w0 H.size hT ) (va_cwS 2 hC.2.2.2.2 gX12_mostAlike_X12_isOf rfl rfl rfl (by decide +kernel) ⟨Nat.le_of_ble_eq_true rfl, Nat.le_of_ble_eq_true rfl⟩) rfl hl.1 rfl (Nat.le_of_ble_eq_true rfl) dX12_mostAlike_29 (fun r21 w23 H locs hp22 hw => ?_)
            obtain ⟨rfl, hg27⟩ := hp22
            rcases hg27 with ⟨rfl, hq25⟩ | ⟨rfl, hq26⟩
            · refine lv_if_eq (tgt := 53) hx hb dX12_mostAlike_32 (by decide) (fun _ => ?_) (fun c => absurd (by decide) c)
              refine lv_iconst (v := 0) hx hb dX12_mostAlike_53 (by decide) ?_
              refine lv_iadd hx hb dX12_mostAlike_54 ?_
              have nx28 := wk_i32 v17_5
              refine lv_topi (fun x29 ex29 => ?_)
              have ex29 : x29.toInt = v17_5.toInt + (0 : Int) := by rw [ex29]; exact wk_add (show (-2147483648) ≤ v17_5.toInt + (0 : Int) by omega) (show v17_5.toInt + (0 : Int) ≤ 2147483647 by omega)
              refine lv_istore (lv' := [(5, .int x29), (0, .ref (ad 0)), (1, .int a1), (2, .int a2), (3, .int v5_3), (4, .int v5_4), (6, .int v17_6)]) hx hb dX12_mostAlike_55 hl (by decide) rfl (fun ls hl => ?_)
              obtain ⟨x30, ex30⟩ : ∃ y : Int32, y = v17_6 + Int32.ofInt 1 := ⟨_, rfl⟩
              refine lv_iinc (v := x30) (lv' := [(6, .int x30), (5, .int x29), (0, .ref (ad 0)), (1, .int a1), (2, .int a2), (3, .int v5_3), (4, .int v5_4)]) hx hb dX12_mostAlike_57 hl (k := 6) rfl ex30.symm (by decide) rfl (fun ls hl => ?_)
              have ex30 : x30.toInt = v17_6.toInt + 1 := by rw [ex30]; exact wk_add (y := 1) (show -2147483648 ≤ v17_6.toInt + 1 by omega) (show v17_6.toInt + 1 ≤ 2147483647 by omega)
              refine lv_goto (tgt := 17) hx hb dX12_mostAlike_60 (by decide) ?_
              exact ih17 x29 x30 H locs ls  (show 0 ≤ a1.toInt by omega) (show a1.toInt ≤ 11 by omega) (show 1 ≤ a2.toInt by omega) (show a2.toInt ≤ 127 by omega) (show 0 ≤ v5_3.toInt by omega) (show 0 ≤ v5_4.toInt by omega) (show v5_4.toInt ≤ 3 by omega) (show 0 ≤ x30.toInt by omega) (show x30.toInt ≤ 7 by omega) (show (7 - x30.toInt).toNat < n17 by omega) hw   (lv_sub hl [2, 3, 4, 5, 6, 1, 0] rfl)
            · refine lv_if_eq (tgt := 53) hx hb dX12_mostAlike_32 (by decide) (fun c => absurd c (by decide)) (fun _ => ?_)
              refine lv_aload_n hx hb dX12_mostAlike_35 rfl (lv_at hl 0 rfl) ?_
              refine lv_iload_n hx hb dX12_mostAlike_36 rfl (lv_at hl 1 rfl) ?_
              refine lv_iconst (v := 3) hx hb dX12_mostAlike_37 (by decide) ?_
              refine lv_iload hx hb dX12_mostAlike_38 (lv_at hl 6 rfl) ?_
              refine lv_iadd hx hb dX12_mostAlike_40 ?_
              refine lv_topi (fun x31 ex31 => ?_)
              have ex31 : x31.toInt = (3 : Int) + v17_6.toInt := by rw [ex31]; exact wk_add (show (-2147483648) ≤ (3 : Int) + v17_6.toInt by omega) (show (3 : Int) + v17_6.toInt ≤ 2147483647 by omega)
              refine tk_Vi hC hK hw hT hA hE hSR kM_at0 (by decide) rfl (k_X12_streetOf_4 l adK adV dC dI cy ad B (by omega) (by omega) qr s1   a1 (show 0 ≤ a1.toInt by omega) (show a1.toInt ≤ 11 by omega) x31 (show 3 ≤ x31.toInt by omega) (show x31.toInt ≤ 9 by omega) w0 H.size hT ) (cwV 2 hC.2.2.2.2 gX12_mostAlike_X12_streetOf rfl rfl rfl (by decide +kernel) ⟨Nat.le_of_ble_eq_true rfl, Nat.le_of_ble_eq_true rfl⟩) rfl hl.1 rfl (Nat.le_of_ble_eq_true rfl) dX12_mostAlike_41 (fun r32 w34 H locs hp33 hw => ?_)
              obtain ⟨rfl, hg39⟩ := hp33
              obtain ⟨g36, g37, c38⟩ := hg39
              refine lv_iload hx hb dX12_mostAlike_44 (lv_at hl 4 rfl) ?_
              refine lv_icmp_ne (tgt := 53) hx hb dX12_mostAlike_46 (by decide) (fun c40 => ?_) (fun c40 => ?_)
              · have c40 : ¬ r32.toInt = v5_4.toInt := wk_eqF c40
                refine lv_iconst (v := 0) hx hb dX12_mostAlike_53 (by decide) ?_
                refine lv_iadd hx hb dX12_mostAlike_54 ?_
                have nx41 := wk_i32 v17_5
                refine lv_topi (fun x42 ex42 => ?_)
                have ex42 : x42.toInt = v17_5.toInt + (0 : Int) := by rw [ex42]; exact wk_add (show (-2147483648) ≤ v17_5.toInt + (0 : Int) by omega) (show v17_5.toInt + (0 : Int) ≤ 2147483647 by omega)
                refine lv_istore (lv' := [(5, .int x42), (0, .ref (ad 0)), (1, .int a1), (2, .int a2), (3, .int v5_3), (4, .int v5_4), (6, .int v17_6)]) hx hb dX12_mostAlike_55 hl (by decide) rfl (fun ls hl => ?_)
                obtain ⟨x43, ex43⟩ : ∃ y : Int32, y = v17_6 + Int32.ofInt 1 := ⟨_, rfl⟩
                refine lv_iinc (v := x43) (lv' := [(6, .int x43), (5, .int x42), (0, .ref (ad 0)), (1, .int a1), (2, .int a2), (3, .int v5_3), (4, .int v5_4)]) hx hb dX12_mostAlike_57 hl (k := 6) rfl ex43.symm (by decide) rfl (fun ls hl => ?_)
                have ex43 : x43.toInt = v17_6.toInt + 1 := by rw [ex43]; exact wk_add (y := 1) (show -2147483648 ≤ v17_6.toInt + 1 by omega) (show v17_6.toInt + 1 ≤ 2147483647 by omega)
                refine lv_goto (tgt := 17) hx hb dX12_mostAlike_60 (by decide) ?_
                exact ih17 x42 x43 H locs ls  (show 0 ≤ a1.toInt by omega) (show a1.toInt ≤ 11 by omega) (show 1 ≤ a2.toInt by omega) (show a2.toInt ≤ 127 by omega) (show 0 ≤ v5_3.toInt by omega) (show 0 ≤ v5_4.toInt by omega) (show v5_4.toInt ≤ 3 by omega) (show 0 ≤ x43.toInt by omega) (show x43.toInt ≤ 7 by omega) (show (7 - x43.toInt).toNat < n17 by omega) hw   (lv_sub hl [2, 3, 4, 5, 6, 1, 0] rfl)
              · have c40 : r32.toInt = v5_4.toInt := wk_eq.mp c40
                refine lv_iconst (v := 1) hx hb dX12_mostAlike_49 (by decide) ?_
                refine lv_goto (tgt := 54) hx hb dX12_mostAlike_50 (by decide) ?_
                refine lv_iadd hx hb dX12_mostAlike_54 ?_
                have nx44 := wk_i32 v17_5
                refine lv_topi (fun x45 ex45 => ?_)
                refine lv_istore (lv' := [(5, .int x45), (0, .ref (ad 0)), (1, .int a1), (2, .int a2), (3, .int v5_3), (4, .int v5_4), (6, .int v17_6)]) hx hb dX12_mostAlike_55 hl (by decide) rfl (fun ls hl => ?_)
                obtain ⟨x46, ex46⟩ : ∃ y : Int32, y = v17_6 + Int32.ofInt 1 := ⟨_, rfl⟩
                refine lv_iinc (v := x46) (lv' := [(6, .int x46), (5, .int x45), (0, .ref (ad 0)), (1, .int a1), (2, .int a2), (3, .int v5_3), (4, .int v5_4)]) hx hb dX12_mostAlike_57 hl (k := 6) rfl ex46.symm (by decide) rfl (fun ls hl => ?_)
                have ex46 : x46.toInt = v17_6.toInt + 1 := by rw [ex46]; exact wk_add (y := 1) (show -2147483648 ≤ v17_6.toInt + 1 by omega) (show v17_6.toInt + 1 ≤ 2147483647 by omega)
                refine lv_goto (tgt := 17) hx hb dX12_mostAlike_60 (by decide) ?_
                exact ih17 x45 x46 H locs ls  (show 0 ≤ a1.toInt by omega) (show a1.toInt ≤ 11 by omega) (show 1 ≤ a2.toInt by omega) (show a2.toInt ≤ 127 by omega) (show 0 ≤ v5_3.toInt by omega) (show 0 ≤ v5_4.toInt by omega) (show v5_4.toInt ≤ 3 by omega) (show 0 ≤ x46.toInt by omega) (show x46.toInt ≤ 7 by omega) (show (7 - x46.toInt).toNat < n17 by omega) hw   (lv_sub hl [2, 3, 4, 5, 6, 1, 0] rfl)
      refine lv_iload hx hb dX12_mostAlike_5 (lv_at hl 4 rfl) ?_
      refine lv_iconst (v := 4) hx hb dX12_mostAlike_7 (by decide) ?_
      refine lv_icmp_ge (tgt := 82) hx hb dX12_mostAlike_8 (by decide) (fun c47 => ?_) (fun c47 => ?_)
      · have c47 : (4 : Int) ≤ v5_4.toInt := wk_le.mp c47
        refine lv_iload_n hx hb dX12_mostAlike_82 rfl (lv_at hl 3 rfl) ?_
        exact tk_iret hC hr hlocks hK ⟨rfl, (show 0 ≤ v5_3.toInt by omega)⟩ hw dX12_mostAlike_83
      · have c47 : v5_4.toInt < (4 : Int) := wk_leF c47
        refine lv_iconst (v := 0) hx hb dX12_mostAlike_11 (by decide) ?_
        refine lv_istore (lv' := [(5, .int 0), (0, .ref (ad 0)), (1, .int a1), (2, .int a2), (3, .int v5_3), (4, .int v5_4)]) hx hb dX12_mostAlike_12 hl (by decide) rfl (fun ls hl => ?_)
        refine lv_iconst (v := 0) hx hb dX12_mostAlike_14 (by decide) ?_
        refine lv_istore (lv' := [(6, .int 0), (5, .int 0), (0, .ref (ad 0)), (1, .int a1), (2, .int a2), (3, .int v5_3), (4, .int v5_4)]) hx hb dX12_mostAlike_15 hl (by decide) rfl (fun ls hl => ?_)
        exact L17 ((7 - (0 : Int)).toNat + 1) 0 0 H locs ls  (show 0 ≤ a1.toInt by omega) (show a1.toInt ≤ 11 by omega) (show 1 ≤ a2.toInt by omega) (show a2.toInt ≤ 127 by omega) (show 0 ≤ v5_3.toInt by omega) (show 0 ≤ v5_4.toInt by omega) (show v5_4.toInt ≤ 3 by omega) (by decide) (by decide) (Nat.lt_succ_self _) hw   (lv_sub hl [2, 3, 4, 5, 6, 1, 0] rfl)
  refine lv_iconst (v := 0) hx hb dX12_mostAlike_0 (by decide) ?_
  refine lv_istore_n (lv' := [(3, .int 0), (0, .ref (ad 0)), (1, .int a1), (2, .int a2)]) hx hb dX12_mostAlike_1 rfl hl (by decide) rfl (fun ls hl => ?_)
  refine lv_iconst (v := 0) hx hb dX12_mostAlike_2 (by decide) ?_
  refine lv_istore (lv' := [(4, .int 0), (3, .int 0), (0, .ref (ad 0)), (1, .int a1), (2, .int a2)]) hx hb dX12_mostAlike_3 hl (by decide) rfl (fun ls hl => ?_)
  exact L5 ((4 - (0 : Int)).toNat + 1) 0 0 s.heap locs ls  (show 0 ≤ a1.toInt by omega) (show a1.toInt ≤ 11 by omega) (show 1 ≤ a2.toInt by omega) (show a2.toInt ≤ 127 by omega) (by decide) (by decide) (by decide) (Nat.lt_succ_self _) hw   (lv_sub hl [2, 3, 4, 1, 0] rfl)
abbrev P_X12_streetOf_10 (ad : Nat → Nat) (cy : Nat → ClassId) (B : Int) (qr : Nat) (s1 : Int) (a1 : Int32) (a2 : Int32) (w0 : va_W) : Int32 → va_W → Prop := fun r u => w0 = u ∧ ((0 ≤ r.toInt ∧ r.toInt ≤ 9 ∧ gi u 12 (10 * a1.toInt + 1 * a2.toInt + 10).toNat = r))
set_option maxHeartbeats 4000000 in
set_option maxRecDepth 100000 in
theorem k_X12_streetOf_10 (l : Launch) (adK adV : Nat → Nat) (dC : Nat → ClassId) (dI : Nat → Nat → Nat) (cy : Nat → ClassId) (ad : Nat → Nat) (B : Int) (hB0 : 100000 ≤ B) (hB1 : B ≤ 1073741824) (qr : Nat) (s1 : Int)  (a1 : Int32) (ra1 : 1 ≤ a1.toInt) (ta1 : a1.toInt ≤ 11) (a2 : Int32) (ra2 : 3 ≤ a2.toInt) (ta2 : a2.toInt ≤ 9) (w0 : va_W) (sz : Nat) (hT : TW ksM ad cy B qr 12 w0)  : Met l yX12_streetOf wsX12_streetOf ({ frames := 1, cells := 0, slots := 0, locals := 12 }) (va_Pc [.ref (ad 0), .int a1, .int a2] (wpreS adK adV dC dI cy sz w0)) (va_Qi (P_X12_streetOf_10 ad cy B qr s1 a1 a2 w0) (fun u : va_W => wpost dC dI cy (va_A w0 sz) u) (va_A w0 sz)) 0 0 (va_A w0 sz) := by
  refine Met.ofW (cc := cX12_streetOf) (maxL := 3) (ret := (some .int)) (by decide) rfl ?_
  intro p e s m args below meth c s₁ Bk hml hv
  obtain ⟨rfl, ⟨hsz, hP, hK, hD0⟩, hE, hSR⟩ := hv
  have hx := Bk.exec
  have hb := Bk.bytes
  have hr := Bk.returns
  have hlocks := Bk.notSynchronized
  have hC : CallFix p m c cX12_streetOf 3 s _ wsX12_streetOf RX12 := ⟨hx, hb, hml, findClass_of_methodNamed Bk.named, atoms_spec (ws := wsX12_streetOf) Bk.pre⟩
  subst hsz
  have hD := hD0.self (sz := s.heap.size)
  generalize hAe : va_A w0 s.heap.size = A at hD hE ⊢
  have hA : ∀ q : Nat, s.heap.size ≤ q → A q := fun q h => by rw [← hAe]; exact Or.inr h
  have hw : Wd dC dI A s.heap s.heap [] w0 := ⟨hP, hD, va_S.rf⟩
  have hF : FE ksM ([] : List (Nat × Nat × Nat)) w0 w0 := FE.rf
  have hl := lv_entry ([.ref (ad 0), .int a1, .int a2]) (n := 3) (Nat.le_of_ble_eq_true rfl)
  rw [lg_entry_eq]
  generalize (lg_sl ([.ref (ad 0), .int a1, .int a2]) ++ List.replicate (3 - (lg_sl ([.ref (ad 0), .int a1, .int a2])).length) Slot.unset).toArray = ls at hl ⊢
  have hl : lv_has ls 3 [(0, .ref (ad 0)), (1, .int a1), (2, .int a2)] := hl
  generalize hloc : ([] : List Loc) = locs at hw ⊢
  have hinX12 : ∀ w ∈ u_ws RX12 TX12 42, w ∈ wsX12_streetOf := fun _ h => List.mem_cons_of_mem _ (List.mem_append_right _ (h))
  refine lv_aload_n hx hb dX12_streetOf_0 rfl (lv_at hl 0 rfl) ?_
  refine tk_getA hC hK hw hT hinX12 kM_at0 (by decide) rfl 26 (by decide) (List.mem_of_getElem? (i := 1) rfl) rfl rfl dX12_streetOf_1 ?_
  refine lv_bipush (v := 10) hx hb dX12_streetOf_4 (by decide) ?_
  refine lv_bipush (v := 10) hx hb dX12_streetOf_6 (by decide) ?_
  refine lv_iload_n hx hb dX12_streetOf_8 rfl (lv_at hl 1 rfl) ?_
  refine lv_imul hx hb dX12_streetOf_9 ?_
  refine lv_topi (fun x1 ex1 => ?_)
  have ex1 : x1.toInt = (10 : Int) * a1.toInt := by rw [ex1]; exact wk_mul (show (-2147483648) ≤ (10 : Int) * a1.toInt by omega) (show (10 : Int) * a1.toInt ≤ 2147483647 by omega)
  refine lv_iadd hx hb dX12_streetOf_10 ?_
  refine lv_topi (fun x2 ex2 => ?_)
  have ex2 : x2.toInt = (10 : Int) + x1.toInt := by rw [ex2]; exact wk_add (show (-2147483648) ≤ (10 : Int) + x1.toInt by omega) (show (10 : Int) + x1.toInt ≤ 2147483647 by omega)
  refine lv_iload_n hx hb dX12_streetOf_11 rfl (lv_at hl 2 rfl) ?_
  refine lv_iadd hx hb dX12_streetOf_12 ?_
  refine lv_topi (fun x3 ex3 => ?_)
  have ex3 : x3.toInt = x2.toInt + a2.toInt := by rw [ex3]; exact wk_add (show (-2147483648) ≤ x2.toInt + a2.toInt by omega) (show x2.toInt + a2.toInt ≤ 2147483647 by omega)
  refine tk_ialdR hC hK hw hT kM_at12 rfl (show 0 ≤ x3.toInt by omega) (show x3.toInt < 296 by omega) dX12_streetOf_13 (fun x4 c5 Ex4 => ?_)
  have c5 : gi w0 12 (10 * a1.toInt + 1 * a2.toInt + 10).toNat = x4 := (congrArg (gi w0 12) (congrArg Int.toNat (show 10 * a1.toInt + 1 * a2.toInt + 10 = x3.toInt by omega))).trans c5
  have bx4 := tk_rgI rfl 23 1 107 0 9 (by decide +kernel) ⟨(x3.toInt - 23).toNat, by omega, show x3.toInt.toNat = 23 + 1 * (x3.toInt - 23).toNat by omega⟩ Ex4
  exact tk_iret hC hr hlocks hK ⟨rfl, ⟨(show 0 ≤ x4.toInt by omega), (show x4.toInt ≤ 9 by omega), c5⟩⟩ hw dX12_streetOf_14
abbrev P_X12_mostAlike_2 (ad : Nat → Nat) (cy : Nat → ClassId) (B : Int) (qr : Nat) (s1 : Int) (a1 : Int32) (a2 : Int32) (w0 : va_W) : Int32 → va_W → Prop := fun r u => w0 = u ∧ ((0 ≤ r.toInt))
set_option maxHeartbeats 4000000 in
set_option maxRecDepth 100000 in
theorem k_X12_mostAlike_2 (l : Launch) (adK adV : Nat → Nat) (dC : Nat → ClassId) (dI : Nat → Nat → Nat) (cy : Nat → ClassId) (ad : Nat → Nat) (B : Int) (hB0 : 100000 ≤ B) (hB1 : B ≤ 1073741824) (qr : Nat) (s1 : Int)  (a1 : Int32) (ra1 : 1 ≤ a1.toInt) (ta1 : a1.toInt ≤ 11) (a2 : Int32) (ra2 : 1 ≤ a2.toInt) (ta2 : a2.toInt ≤ 127) (w0 : va_W) (sz : Nat) (hT : TW ksM ad cy B qr 12 w0)  : Met l yX12_mostAlike wsX12_mostAlike ({ frames := 2, cells := 0, slots := 0, locals := 34 }) (va_Pc [.ref (ad 0), .int a1, .int a2] (wpreS adK adV dC dI cy sz w0)) (va_Qi (P_X12_mostAlike_2 ad cy B qr s1 a1 a2 w0) (fun u : va_W => wpost dC dI cy (va_A w0 sz) u) (va_A w0 sz)) 0 0 (va_A w0 sz) := by
  refine Met.ofW (cc := cX12_mostAlike) (maxL := 7) (ret := (some .int)) (by decide) rfl ?_
  intro p e s m args below meth c s₁ Bk hml hv
  obtain ⟨rfl, ⟨hsz, hP, hK, hD0⟩, hE, hSR⟩ := hv
  have hx := Bk.exec
  have hb := Bk.bytes
  have hr := Bk.returns
  have hlocks := Bk.notSynchronized
  have hC : CallFix p m c cX12_mostAlike 7 s _ wsX12_mostAlike RX12 := ⟨hx, hb, hml, findClass_of_methodNamed Bk.named, atoms_spec (ws := wsX12_mostAlike) Bk.pre⟩
  subst hsz
  have hD := hD0.self (sz := s.heap.size)
  generalize hAe : va_A w0 s.heap.size = A at hD hE ⊢
  have hA : ∀ q : Nat, s.heap.size ≤ q → A q := fun q h => by rw [← hAe]; exact Or.inr h
  have hw : Wd dC dI A s.heap s.heap [] w0 := ⟨hP, hD, va_S.rf⟩
  have hF : FE ksM ([] : List (Nat × Nat × Nat)) w0 w0 := FE.rf
  have hl := lv_entry ([.ref (ad 0), .int a1, .int a2]) (n := 7) (Nat.le_of_ble_eq_true rfl)
  rw [lg_entry_eq]
  generalize (lg_sl ([.ref (ad 0), .int a1, .int a2]) ++ List.replicate (7 - (lg_sl ([.ref (ad 0), .int a1, .int a2])).length) Slot.unset).toArray = ls at hl ⊢
  have hl : lv_has ls 7 [(0, .ref (ad 0)), (1, .int a1), (2, .int a2)] := hl
  generalize hloc : ([] : List Loc) = locs at hw ⊢
  have L5 : ∀ (n5 : Nat) (v5_3 : Int32) (v5_4 : Int32) (H : Heap) (locs : List Loc) (ls : Array Slot), 1 ≤ a1.toInt → a1.toInt ≤ 11 → 1 ≤ a2.toInt → a2.toInt ≤ 127 → 0 ≤ v5_3.toInt → 0 ≤ v5_4.toInt → v5_4.toInt ≤ 4 → (4 - v5_4.toInt).toNat < n5 → Wd dC dI A s.heap H locs w0 → lv_has ls 7 [(0, .ref (ad 0)), (1, .int a1), (2, .int a2), (3, .int v5_3), (4, .int v5_4)] → W p l e ({ frames := 2, cells := 0, slots := 0, locals := 34 }) s m (List.toArray [.ref (ad 0), .int a1, .int a2]) below meth c H locs 0 0 (MQ below (va_Qi (P_X12_mostAlike_2 ad cy B qr s1 a1 a2 w0) (fun u : va_W => wpost dC dI cy A u) A) (List.toArray [.ref (ad 0), .int a1, .int a2]) s 0 0 A) (F0 m 5 ls []) := by
    intro n5
    induction n5 with
    | zero => intro v5_3 v5_4 H locs ls r1 t2 r3 t4 r5 r6 t7 hm5 hw hl; omega
    | succ n5 ih5 =>
      intro v5_3 v5_4 H locs ls r1 t2 r3 t4 r5 r6 t7 hm5 hw hl
      have L17 : ∀ (n17 : Nat) (v17_5 : Int32) (v17_6 : Int32) (H : Heap) (locs : List Loc) (ls : Array Slot), 1 ≤ a1.toInt → a1.toInt ≤ 11 → 1 ≤ a2.toInt → a2.toInt ≤ 127 → 0 ≤ v5_3.toInt → 0 ≤ v5_4.toInt → v5_4.toInt ≤ 3 → 0 ≤ v17_6.toInt → v17_6.toInt ≤ 7 → (7 - v17_6.toInt).toNat < n17 → Wd dC dI A s.heap H locs w0 → lv_has ls 7 [(0, .ref (ad 0)), (1, .int a1), (2, .int a2), (3, .int v5_3), (4, .int v5_4), (5, .int v17_5), (6, .int v17_6)] → W p l e ({ frames := 2, cells := 0, slots := 0, locals := 34 }) s m (List.toArray [.ref (ad 0), .int a1, .int a2]) below meth c H locs 0 0 (MQ below (va_Qi (P_X12_mostAlike_2 ad cy B qr s1 a1 a2 w0) (fun u : va_W => wpost dC dI cy A u) A) (List.toArray [.ref (ad 0), .int a1, .int a2]) s 0 0 A) (F0 m 17 ls []) := by
        intro n17
        induction n17 with
        | zero => intro v17_5 v17_6 H locs ls r8 t9 r10 t11 r12 r13 t14 r15 t16 hm17 hw hl; omega
        | succ n17 ih17 =>
          intro v17_5 v17_6 H locs ls r8 t9 r10 t11 r12 r13 t14 r15 t16 hm17 hw hl
          refine lv_iload hx hb dX12_mostAlike_17 (lv_at hl 6 rfl) ?_
          refine lv_bipush (v := 7) hx hb dX12_mostAlike_19 (by decide) ?_
          refine lv_icmp_ge (tgt := 63) hx hb dX12_mostAlike_21 (by decide) (fun c17 => ?_) (fun c17 => ?_)
          · have c17 : (7 : Int) ≤ v17_6.toInt := wk_le.mp c17
            refine lv_iload hx hb dX12_mostAlike_63 (lv_at hl 5 rfl) ?_
            refine lv_iload_n hx hb dX12_mostAlike_65 rfl (lv_at hl 3 rfl) ?_
            refine lv_icmp_le (tgt := 74) hx hb dX12_mostAlike_66 (by decide) (fun c18 => ?_) (fun c18 => ?_)
            · have c18 : v17_5.toInt ≤ v5_3.toInt := wk_le.mp c18
              refine lv_iload_n hx hb dX12_mostAlike_74 rfl (lv_at hl 3 rfl) ?_
              refine lv_istore_n (lv' := [(3, .int v5_3), (0, .ref (ad 0)), (1, .int a1), (2, .int a2), (4, .int v5_4), (5, .int v17_5), (6, .int v17_6)]) hx hb dX12_mostAlike_75 rfl hl (by decide) rfl (fun ls hl => ?_)
              obtain ⟨x19, ex19⟩ : ∃ y : Int32, y = v5_4 + Int32.ofInt 1 := ⟨_, rfl⟩
              refine lv_iinc (v := x19) (lv' := [(4, .int x19), (3, .int v5_3), (0, .ref (ad 0)), (1, .int a1), (2, .int a2), (5, .int v17_5), (6, .int v17_6)]) hx hb dX12_mostAlike_76 hl (k := 4) rfl ex19.symm (by decide) rfl (fun ls hl => ?_)
              have ex19 : x19.toInt = v5_4.toInt + 1 := by rw [ex19]; exact wk_add (y := 1) (show -2147483648 ≤ v5_4.toInt + 1 by omega) (show v5_4.toInt + 1 ≤ 2147483647 by omega)
              refine lv_goto (tgt := 5) hx hb dX12_mostAlike_79 (by decide) ?_
              exact ih5 v5_3 x19 H locs ls  (show 1 ≤ a1.toInt by omega) (show a1.toInt ≤ 11 by omega) (show 1 ≤ a2.toInt by omega) (show a2.toInt ≤ 127 by omega) (show 0 ≤ v5_3.toInt by omega) (show 0 ≤ x19.toInt by omega) (show x19.toInt ≤ 4 by omega) (show (4 - x19.toInt).toNat < n5 by omega) hw   (lv_sub hl [2, 3, 4, 1, 0] rfl)
            · have c18 : v5_3.toInt < v17_5.toInt := wk_leF c18
              refine lv_iload hx hb dX12_mostAlike_69 (lv_at hl 5 rfl) ?_
              refine lv_goto (tgt := 75) hx hb dX12_mostAlike_71 (by decide) ?_
              refine lv_istore_n (lv' := [(3, .int v17_5), (0, .ref (ad 0)), (1, .int a1), (2, .int a2), (4, .int v5_4), (5, .int v17_5), (6, .int v17_6)]) hx hb dX12_mostAlike_75 rfl hl (by decide) rfl (fun ls hl => ?_)
              obtain ⟨x20, ex20⟩ : ∃ y : Int32, y = v5_4 + Int32.ofInt 1 := ⟨_, rfl⟩
              refine lv_iinc (v := x20) (lv' := [(4, .int x20), (3, .int v17_5), (0, .ref (ad 0)), (1, .int a1), (2, .int a2), (5, .int v17_5), (6, .int v17_6)]) hx hb dX12_mostAlike_76 hl (k := 4) rfl ex20.symm (by decide) rfl (fun ls hl => ?_)
              have ex20 : x20.toInt = v5_4.toInt + 1 := by rw [ex20]; exact wk_add (y := 1) (show -2147483648 ≤ v5_4.toInt + 1 by omega) (show v5_4.toInt + 1 ≤ 2147483647 by omega)
              refine lv_goto (tgt := 5) hx hb dX12_mostAlike_79 (by decide) ?_
              exact ih5 v17_5 x20 H locs ls  (show 1 ≤ a1.toInt by omega) (show a1.toInt ≤ 11 by omega) (show 1 ≤ a2.toInt by omega) (show a2.toInt ≤ 127 by omega) (show 0 ≤ v17_5.toInt by omega) (show 0 ≤ x20.toInt by omega) (show x20.toInt ≤ 4 by omega) (show (4 - x20.toInt).toNat < n5 by omega) hw   (lv_sub hl [2, 3, 4, 1, 0] rfl)
          · have c17 : v17_6.toInt < (7 : Int) := wk_leF c17
            refine lv_iload hx hb dX12_mostAlike_24 (lv_at hl 5 rfl) ?_
            refine lv_iload_n hx hb dX12_mostAlike_26 rfl (lv_at hl 2 rfl) ?_
            refine lv_iload hx hb dX12_mostAlike_27 (lv_at hl 6 rfl) ?_
            refine tk_Si hC hK hw hT hA hE hSR (k_X12_isOf_8 l adK adV dC dI cy ad B (by omega) (by omega) qr s1   a2 (show 1 ≤ a2.toInt by omega) (show a2.toInt ≤ 127 by omega) v17_6 (show 0 ≤ v17_6.toInt by omega) (show v17_6.toInt ≤ 6 by omega) w0 H.size hT ) (va_cwS 2 hC.2.2.2.2 gX12_mostAlike_X12_isOf rfl rfl rfl (by decide +kernel) ⟨Nat.le_of_ble_eq_true rfl, Nat.le_of_ble_eq_true rfl⟩) rfl hl.1 rfl (Nat.le_of_ble_eq_true rfl) dX12_mostAlike_29 (fun r21 w23 H locs hp22 hw => ?_)
            obtain ⟨rfl, hg27⟩ := hp22
            rcases hg27 with ⟨rfl, hq25⟩ | ⟨rfl, hq26⟩
            · refine lv_if_eq (tgt := 53) hx hb dX12_mostAlike_32 (by decide) (fun _ => ?_) (fun c => absurd (by decide) c)
              refine lv_iconst (v := 0) hx hb dX12_mostAlike_53 (by decide) ?_
              refine lv_iadd hx hb dX12_mostAlike_54 ?_
              have nx28 := wk_i32 v17_5
              refine lv_topi (fun x29 ex29 => ?_)
              have ex29 : x29.toInt = v17_5.toInt + (0 : Int) := by rw [ex29]; exact wk_add (show (-2147483648) ≤ v17_5.toInt + (0 : Int) by omega) (show v17_5.toInt + (0 : Int) ≤ 2147483647 by omega)
              refine lv_istore (lv' := [(5, .int x29), (0, .ref (ad 0)), (1, .int a1), (2, .int a2), (3, .int v5_3), (4, .int v5_4), (6, .int v17_6)]) hx hb dX12_mostAlike_55 hl (by decide) rfl (fun ls hl => ?_)
              obtain ⟨x30, ex30⟩ : ∃ y : Int32, y = v17_6 + Int32.ofInt 1 := ⟨_, rfl⟩
              refine lv_iinc (v := x30) (lv' := [(6, .int x30), (5, .int x29), (0, .ref (ad 0)), (1, .int a1), (2, .int a2), (3, .int v5_3), (4, .int v5_4)]) hx hb dX12_mostAlike_57 hl (k := 6) rfl ex30.symm (by decide) rfl (fun ls hl => ?_)
              have ex30 : x30.toInt = v17_6.toInt + 1 := by rw [ex30]; exact wk_add (y := 1) (show -2147483648 ≤ v17_6.toInt + 1 by omega) (show v17_6.toInt + 1 ≤ 2147483647 by omega)
              refine lv_goto (tgt := 17) hx hb dX12_mostAlike_60 (by decide) ?_
              exact ih17 x29 x30 H locs ls  (show 1 ≤ a1.toInt by omega) (show a1.toInt ≤ 11 by omega) (show 1 ≤ a2.toInt by omega) (show a2.toInt ≤ 127 by omega) (show 0 ≤ v5_3.toInt by omega) (show 0 ≤ v5_4.toInt by omega) (show v5_4.toInt ≤ 3 by omega) (show 0 ≤ x30.toInt by omega) (show x30.toInt ≤ 7 by omega) (show (7 - x30.toInt).toNat < n17 by omega) hw   (lv_sub hl [2, 3, 4, 5, 6, 1, 0] rfl)
            · refine lv_if_eq (tgt := 53) hx hb dX12_mostAlike_32 (by decide) (fun c => absurd c (by decide)) (fun _ => ?_)
              refine lv_aload_n hx hb dX12_mostAlike_35 rfl (lv_at hl 0 rfl) ?_
              refine lv_iload_n hx hb dX12_mostAlike_36 rfl (lv_at hl 1 rfl) ?_
              refine lv_iconst (v := 3) hx hb dX12_mostAlike_37 (by decide) ?_
              refine lv_iload hx hb dX12_mostAlike_38 (lv_at hl 6 rfl) ?_
              refine lv_iadd hx hb dX12_mostAlike_40 ?_
              refine lv_topi (fun x31 ex31 => ?_)
              have ex31 : x31.toInt = (3 : Int) + v17_6.toInt := by rw [ex31]; exact wk_add (show (-2147483648) ≤ (3 : Int) + v17_6.toInt by omega) (show (3 : Int) + v17_6.toInt ≤ 2147483647 by omega)
              refine tk_Vi hC hK hw hT hA hE hSR kM_at0 (by decide) rfl (k_X12_streetOf_10 l adK adV dC dI cy ad B (by omega) (by omega) qr s1   a1 (show 1 ≤ a1.toInt by omega) (show a1.toInt ≤ 11 by omega) x31 (show 3 ≤ x31.toInt by omega) (show x31.toInt ≤ 9 by omega) w0 H.size hT ) (cwV 2 hC.2.2.2.2 gX12_mostAlike_X12_streetOf rfl rfl rfl (by decide +kernel) ⟨Nat.le_of_ble_eq_true rfl, Nat.le_of_ble_eq_true rfl⟩) rfl hl.1 rfl (Nat.le_of_ble_eq_true rfl) dX12_mostAlike_41 (fun r32 w34 H locs hp33 hw => ?_)
              obtain ⟨rfl, hg39⟩ := hp33
              obtain ⟨g36, g37, c38⟩ := hg39
              refine lv_iload hx hb dX12_mostAlike_44 (lv_at hl 4 rfl) ?_
              refine lv_icmp_ne (tgt := 53) hx hb dX12_mostAlike_46 (by decide) (fun c40 => ?_) (fun c40 => ?_)
              · have c40 : ¬ r32.toInt = v5_4.toInt := wk_eqF c40
                refine lv_iconst (v := 0) hx hb dX12_mostAlike_53 (by decide) ?_
                refine lv_iadd hx hb dX12_mostAlike_54 ?_
                have nx41 := wk_i32 v17_5
                refine lv_topi (fun x42 ex42 => ?_)
                have ex42 : x42.toInt = v17_5.toInt + (0 : Int) := by rw [ex42]; exact wk_add (show (-2147483648) ≤ v17_5.toInt + (0 : Int) by omega) (show v17_5.toInt + (0 : Int) ≤ 2147483647 by omega)
                refine lv_istore (lv' := [(5, .int x42), (0, .ref (ad 0)), (1, .int a1), (2, .int a2), (3, .int v5_3), (4, .int v5_4), (6, .int v17_6)]) hx hb dX12_mostAlike_55 hl (by decide) rfl (fun ls hl => ?_)
                obtain ⟨x43, ex43⟩ : ∃ y : Int32, y = v17_6 + Int32.ofInt 1 := ⟨_, rfl⟩
                refine lv_iinc (v := x43) (lv' := [(6, .int x43), (5, .int x42), (0, .ref (ad 0)), (1, .int a1), (2, .int a2), (3, .int v5_3), (4, .int v5_4)]) hx hb dX12_mostAlike_57 hl (k := 6) rfl ex43.symm (by decide) rfl (fun ls hl => ?_)
                have ex43 : x43.toInt = v17_6.toInt + 1 := by rw [ex43]; exact wk_add (y := 1) (show -2147483648 ≤ v17_6.toInt + 1 by omega) (show v17_6.toInt + 1 ≤ 2147483647 by omega)
                refine lv_goto (tgt := 17) hx hb dX12_mostAlike_60 (by decide) ?_
                exact ih17 x42 x43 H locs ls  (show 1 ≤ a1.toInt by omega) (show a1.toInt ≤ 11 by omega) (show 1 ≤ a2.toInt by omega) (show a2.toInt ≤ 127 by omega) (show 0 ≤ v5_3.toInt by omega) (show 0 ≤ v5_4.toInt by omega) (show v5_4.toInt ≤ 3 by omega) (show 0 ≤ x43.toInt by omega) (show x43.toInt ≤ 7 by omega) (show (7 - x43.toInt).toNat < n17 by omega) hw   (lv_sub hl [2, 3, 4, 5, 6, 1, 0] rfl)
              · have c40 : r32.toInt = v5_4.toInt := wk_eq.mp c40
                refine lv_iconst (v := 1) hx hb dX12_mostAlike_49 (by decide) ?_
                refine lv_goto (tgt := 54) hx hb dX12_mostAlike_50 (by decide) ?_
                refine lv_iadd hx hb dX12_mostAlike_54 ?_
                have nx44 := wk_i32 v17_5
                refine lv_topi (fun x45 ex45 => ?_)
                refine lv_istore (lv' := [(5, .int x45), (0, .ref (ad 0)), (1, .int a1), (2, .int a2), (3, .int v5_3), (4, .int v5_4), (6, .int v17_6)]) hx hb dX12_mostAlike_55 hl (by decide) rfl (fun ls hl => ?_)
                obtain ⟨x46, ex46⟩ : ∃ y : Int32, y = v17_6 + Int32.ofInt 1 := ⟨_, rfl⟩
                refine lv_iinc (v := x46) (lv' := [(6, .int x46), (5, .int x45), (0, .ref (ad 0)), (1, .int a1), (2, .int a2), (3, .int v5_3), (4, .int v5_4)]) hx hb dX12_mostAlike_57 hl (k := 6) rfl ex46.symm (by decide) rfl (fun ls hl => ?_)
                have ex46 : x46.toInt = v17_6.toInt + 1 := by rw [ex46]; exact wk_add (y := 1) (show -2147483648 ≤ v17_6.toInt + 1 by omega) (show v17_6.toInt + 1 ≤ 2147483647 by omega)
                refine lv_goto (tgt := 17) hx hb dX12_mostAlike_60 (by decide) ?_
                exact ih17 x45 x46 H locs ls  (show 1 ≤ a1.toInt by omega) (show a1.toInt ≤ 11 by omega) (show 1 ≤ a2.toInt by omega) (show a2.toInt ≤ 127 by omega) (show 0 ≤ v5_3.toInt by omega) (show 0 ≤ v5_4.toInt by omega) (show v5_4.toInt ≤ 3 by omega) (show 0 ≤ x46.toInt by omega) (show x46.toInt ≤ 7 by omega) (show (7 - x46.toInt).toNat < n17 by omega) hw   (lv_sub hl [2, 3, 4, 5, 6, 1, 0] rfl)
      refine lv_iload hx hb dX12_mostAlike_5 (lv_at hl 4 rfl) ?_
      refine lv_iconst (v := 4) hx hb dX12_mostAlike_7 (by decide) ?_
      refine lv_icmp_ge (tgt := 82) hx hb dX12_mostAlike_8 (by decide) (fun c47 => ?_) (fun c47 => ?_)
      · have c47 : (4 : Int) ≤ v5_4.toInt := wk_le.mp c47
        refine lv_iload_n hx hb dX12_mostAlike_82 rfl (lv_at hl 3 rfl) ?_
        exact tk_iret hC hr hlocks hK ⟨rfl, (show 0 ≤ v5_3.toInt by omega)⟩ hw dX12_mostAlike_83
      · have c47 : v5_4.toInt < (4 : Int) := wk_leF c47
        refine lv_iconst (v := 0) hx hb dX12_mostAlike_11 (by decide) ?_
        refine lv_istore (lv' := [(5, .int 0), (0, .ref (ad 0)), (1, .int a1), (2, .int a2), (3, .int v5_3), (4, .int v5_4)]) hx hb dX12_mostAlike_12 hl (by decide) rfl (fun ls hl => ?_)
        refine lv_iconst (v := 0) hx hb dX12_mostAlike_14 (by decide) ?_
        refine lv_istore (lv' := [(6, .int 0), (5, .int 0), (0, .ref (ad 0)), (1, .int a1), (2, .int a2), (3, .int v5_3), (4, .int v5_4)]) hx hb dX12_mostAlike_15 hl (by decide) rfl (fun ls hl => ?_)
        exact L17 ((7 - (0 : Int)).toNat + 1) 0 0 H locs ls  (show 1 ≤ a1.toInt by omega) (show a1.toInt ≤ 11 by omega) (show 1 ≤ a2.toInt by omega) (show a2.toInt ≤ 127 by omega) (show 0 ≤ v5_3.toInt by omega) (show 0 ≤ v5_4.toInt by omega) (show v5_4.toInt ≤ 3 by omega) (by decide) (by decide) (Nat.lt_succ_self _) hw   (lv_sub hl [2, 3, 4, 5, 6, 1, 0] rfl)
  refine lv_iconst (v := 0) hx hb dX12_mostAlike_0 (by decide) ?_
  refine lv_istore_n (lv' := [(3, .int 0), (0, .ref (ad 0)), (1, .int a1), (2, .int a2)]) hx hb dX12_mostAlike_1 rfl hl (by decide) rfl (fun ls hl => ?_)
  refine lv_iconst (v := 0) hx hb dX12_mostAlike_2 (by decide) ?_
  refine lv_istore (lv' := [(4, .int 0), (3, .int 0), (0, .ref (ad 0)), (1, .int a1), (2, .int a2)]) hx hb dX12_mostAlike_3 hl (by decide) rfl (fun ls hl => ?_)
  exact L5 ((4 - (0 : Int)).toNat + 1) 0 0 s.heap locs ls  (show 1 ≤ a1.toInt by omega) (show a1.toInt ≤ 11 by omega) (show 1 ≤ a2.toInt by omega) (show a2.toInt ≤ 127 by omega) (by decide) (by decide) (by decide) (Nat.lt_succ_self _) hw   (lv_sub hl [2, 3, 4, 1, 0] rfl)
abbrev P_X12_weekdays_1 (ad : Nat → Nat) (cy : Nat → ClassId) (B : Int) (qr : Nat) (s1 : Int) (a1 : Int32) (w0 : va_W) : Int32 → va_W → Prop := fun r u => w0 = u ∧ ((r = (-2) ∧ (∃ y : Int32, gi u 12 0 = y ∧ 1 ≤ y.toInt ∧ y.toInt ≤ 10)) ∨ (0 ≤ r.toInt ∧ r.toInt ≤ 127 ∧ (∃ y : Int32, gi u 12 0 = y ∧ 1 ≤ y.toInt ∧ y.toInt ≤ 10)) ∨ (r = (-1)))
set_option maxHeartbeats 4000000 in
set_option maxRecDepth 100000 in
theorem k_X12_weekdays_1 (l : Launch) (adK adV : Nat → Nat) (dC : Nat → ClassId) (dI : Nat → Nat → Nat) (cy : Nat → ClassId) (ad : Nat → Nat) (B : Int) (hB0 : 100000 ≤ B) (hB1 : B ≤ 1073741824) (qr : Nat) (s1 : Int)  (a1 : Int32) (w0 : va_W) (sz : Nat) (hT : TW ksM ad cy B qr 12 w0)  : Met l yX12_weekdays wsX12_weekdays ({ frames := 3, cells := 0, slots := 0, locals := 60 }) (va_Pc [.ref (ad 0), .int a1] (wpreS adK adV dC dI cy sz w0)) (va_Qi (P_X12_weekdays_1 ad cy B qr s1 a1 w0) (fun u : va_W => wpost dC dI cy (va_A w0 sz) u) (va_A w0 sz)) 0 0 (va_A w0 sz) := by
  refine Met.ofW (cc := cX12_weekdays) (maxL := 5) (ret := (some .int)) (by decide) rfl ?_
  intro p e s m args below meth c s₁ Bk hml hv
  obtain ⟨rfl, ⟨hsz, hP, hK, hD0⟩, hE, hSR⟩ := hv
  have hx := Bk.exec
  have hb := Bk.bytes
  have hr := Bk.returns
  have hlocks := Bk.notSynchronized
  have hC : CallFix p m c cX12_weekdays 5 s _ wsX12_weekdays RX12 := ⟨hx, hb, hml, findClass_of_methodNamed Bk.named, atoms_spec (ws := wsX12_weekdays) Bk.pre⟩
  subst hsz
  have hD := hD0.self (sz := s.heap.size)
  generalize hAe : va_A w0 s.heap.size = A at hD hE ⊢
  have hA : ∀ q : Nat, s.heap.size ≤ q → A q := fun q h => by rw [← hAe]; exact Or.inr h
  have hw : Wd dC dI A s.heap s.heap [] w0 := ⟨hP, hD, va_S.rf⟩
  have hF : FE ksM ([] : List (Nat × Nat × Nat)) w0 w0 := FE.rf
  have hl := lv_entry ([.ref (ad 0), .int a1]) (n := 5) (Nat.le_of_ble_eq_true rfl)
  rw [lg_entry_eq]
  generalize (lg_sl ([.ref (ad 0), .int a1]) ++ List.replicate (5 - (lg_sl ([.ref (ad 0), .int a1])).length) Slot.unset).toArray = ls at hl ⊢
  have hl : lv_has ls 5 [(0, .ref (ad 0)), (1, .int a1)] := hl
  generalize hloc : ([] : List Loc) = locs at hw ⊢
  have hinX12 : ∀ w ∈ u_ws RX12 TX12 42, w ∈ wsX12_weekdays := fun _ h => List.mem_cons_of_mem _ (List.mem_append_right _ (h))
  have J17 : ∀ (f17_12_0 : Int32) (H : Heap) (locs : List Loc) (ls : Array Slot), 0 ≤ f17_12_0.toInt → f17_12_0.toInt ≤ 10 → Wd dC dI A s.heap H locs w0 → gi w0 12 0 = f17_12_0 → lv_has ls 5 [(0, .ref (ad 0)), (1, .int a1)] → W p l e ({ frames := 3, cells := 0, slots := 0, locals := 60 }) s m (List.toArray [.ref (ad 0), .int a1]) below meth c H locs 0 0 (MQ below (va_Qi (P_X12_weekdays_1 ad cy B qr s1 a1 w0) (fun u : va_W => wpost dC dI cy A u) A) (List.toArray [.ref (ad 0), .int a1]) s 0 0 A) (F0 m 17 ls []) := by
    intro f17_12_0 H locs ls r1 t2 hw c3 hl
    refine lv_iconst (v := (-1)) hx hb dX12_weekdays_17 (by decide) ?_
    exact tk_iret hC hr hlocks hK ⟨rfl, (Or.inr (Or.inr rfl))⟩ hw dX12_weekdays_18
  have J43 : ∀ (v43_2 : Int32) (f43_12_0 : Int32) (H : Heap) (locs : List Loc) (ls : Array Slot), 0 ≤ v43_2.toInt → v43_2.toInt ≤ 127 → 1 ≤ f43_12_0.toInt → f43_12_0.toInt ≤ 10 → Wd dC dI A s.heap H locs w0 → gi w0 12 0 = f43_12_0 → lv_has ls 5 [(0, .ref (ad 0)), (1, .int 1), (2, .int v43_2)] → W p l e ({ frames := 3, cells := 0, slots := 0, locals := 60 }) s m (List.toArray [.ref (ad 0), .int a1]) below meth c H locs 0 0 (MQ below (va_Qi (P_X12_weekdays_1 ad cy B qr s1 a1 w0) (fun u : va_W => wpost dC dI cy A u) A) (List.toArray [.ref (ad 0), .int a1]) s 0 0 A) (F0 m 43 ls []) := by
    intro v43_2 f43_12_0 H locs ls r4 t5 r6 t7 hw c8 hl
    refine lv_bipush (v := (-2)) hx hb dX12_weekdays_43 (by decide) ?_
    exact tk_iret hC hr hlocks hK ⟨rfl, (Or.inl ⟨rfl, ⟨f43_12_0, c8, (show 1 ≤ f43_12_0.toInt by omega), (show f43_12_0.toInt ≤ 10 by omega)⟩⟩)⟩ hw dX12_weekdays_45
  have L51 : ∀ (n51 : Nat) (v51_2 : Int32) (v51_3 : Int32) (v51_4 : Int32) (f51_12_0 : Int32) (f51_12_1 : Int32) (H : Heap) (locs : List Loc) (ls : Array Slot), 1 ≤ v51_2.toInt → v51_2.toInt ≤ 127 → 0 ≤ v51_3.toInt → v51_3.toInt ≤ 11 → 1 ≤ v51_4.toInt → v51_4.toInt ≤ 12 → 1 ≤ f51_12_0.toInt → f51_12_0.toInt ≤ 10 → 1 ≤ f51_12_1.toInt → f51_12_1.toInt ≤ 12 → (12 - v51_4.toInt).toNat < n51 → Wd dC dI A s.heap H locs w0 → gi w0 12 0 = f51_12_0 → gi w0 12 1 = f51_12_1 → lv_has ls 5 [(0, .ref (ad 0)), (1, .int 1), (2, .int v51_2), (3, .int v51_3), (4, .int v51_4)] → W p l e ({ frames := 3, cells := 0, slots := 0, locals := 60 }) s m (List.toArray [.ref (ad 0), .int a1]) below meth c H locs 0 0 (MQ below (va_Qi (P_X12_weekdays_1 ad cy B qr s1 a1 w0) (fun u : va_W => wpost dC dI cy A u) A) (List.toArray [.ref (ad 0), .int a1]) s 0 0 A) (F0 m 51 ls []) := by
    intro n51
    induction n51 with
    | zero => intro v51_2 v51_3 v51_4 f51_12_0 f51_12_1 H locs ls r9 t10 r11 t12 r13 t14 r15 t16 r18 t19 hm51 hw c17 c20 hl; omega
    | succ n51 ih51 =>
      intro v51_2 v51_3 v51_4 f51_12_0 f51_12_1 H locs ls r9 t10 r11 t12 r13 t14 r15 t16 r18 t19 hm51 hw c17 c20 hl
      refine lv_iload hx hb dX12_weekdays_51 (lv_at hl 4 rfl) ?_
      refine lv_aload_n hx hb dX12_weekdays_53 rfl (lv_at hl 0 rfl) ?_
      refine tk_getA hC hK hw hT hinX12 kM_at0 (by decide) rfl 26 (by decide) (List.mem_of_getElem? (i := 1) rfl) rfl rfl dX12_weekdays_54 ?_
      refine lv_iconst (v := 1) hx hb dX12_weekdays_57 (by decide) ?_
      refine tk_ialdR hC hK hw hT kM_at12 rfl (by decide) (by decide) dX12_weekdays_58 (fun x21 c22 Ex21 => ?_)
      refine wk_top f51_12_1 (c22.symm.trans c20) ?_
      refine lv_icmp_ge (tgt := 91) hx hb dX12_weekdays_59 (by decide) (fun c23 => ?_) (fun c23 => ?_)
      · have c23 : f51_12_1.toInt ≤ v51_4.toInt := wk_le.mp c23
        refine lv_iload_n hx hb dX12_weekdays_91 rfl (lv_at hl 3 rfl) ?_
        exact tk_iret hC hr hlocks hK ⟨rfl, (Or.inr (Or.inl ⟨(show 0 ≤ v51_3.toInt by omega), (show v51_3.toInt ≤ 127 by omega), ⟨f51_12_0, c17, (show 1 ≤ f51_12_0.toInt by omega), (show f51_12_0.toInt ≤ 10 by omega)⟩⟩))⟩ hw dX12_weekdays_92
      · have c23 : v51_4.toInt < f51_12_1.toInt := wk_leF c23
        refine lv_aload_n hx hb dX12_weekdays_62 rfl (lv_at hl 0 rfl) ?_
        refine lv_iload hx hb dX12_weekdays_63 (lv_at hl 4 rfl) ?_
        refine lv_iload_n hx hb dX12_weekdays_65 rfl (lv_at hl 2 rfl) ?_
        refine tk_Vi hC hK hw hT hA hE hSR kM_at0 (by decide) rfl (k_X12_mostAlike_2 l adK adV dC dI cy ad B (by omega) (by omega) qr s1   v51_4 (show 1 ≤ v51_4.toInt by omega) (show v51_4.toInt ≤ 11 by omega) v51_2 (show 1 ≤ v51_2.toInt by omega) (show v51_2.toInt ≤ 127 by omega) w0 H.size hT ) (cwV 2 hC.2.2.2.2 gX12_weekdays_X12_mostAlike rfl rfl rfl (by decide +kernel) ⟨Nat.le_of_ble_eq_true rfl, Nat.le_of_ble_eq_true rfl⟩) rfl hl.1 rfl (Nat.le_of_ble_eq_true rfl) dX12_weekdays_66 (fun r24 w26 H locs hp25 hw => ?_)
        obtain ⟨rfl, hg29⟩ := hp25
        obtain g28 := hg29
        refine lv_aload_n hx hb dX12_weekdays_69 rfl (lv_at hl 0 rfl) ?_
        refine lv_iload_n hx hb dX12_weekdays_70 rfl (lv_at hl 3 rfl) ?_
        refine lv_iload_n hx hb dX12_weekdays_71 rfl (lv_at hl 2 rfl) ?_
        refine tk_Vi hC hK hw hT hA hE hSR kM_at0 (by decide) rfl (k_X12_mostAlike_1 l adK adV dC dI cy ad B (by omega) (by omega) qr s1   v51_3 (show 0 ≤ v51_3.toInt by omega) (show v51_3.toInt ≤ 11 by omega) v51_2 (show 1 ≤ v51_2.toInt by omega) (show v51_2.toInt ≤ 127 by omega) w0 H.size hT ) (cwV 2 hC.2.2.2.2 gX12_weekdays_X12_mostAlike rfl rfl rfl (by decide +kernel) ⟨Nat.le_of_ble_eq_true rfl, Nat.le_of_ble_eq_true rfl⟩) rfl hl.1 rfl (Nat.le_of_ble_eq_true rfl) dX12_weekdays_72 (fun r30 w32 H locs hp31 hw => ?_)
        obtain ⟨rfl, hg35⟩ := hp31
        obtain g34 := hg35
        refine lv_icmp_ge (tgt := 83) hx hb dX12_weekdays_75 (by decide) (fun c36 => ?_) (fun c36 => ?_)
        · have c36 : r30.toInt ≤ r24.toInt := wk_le.mp c36
          refine lv_iload_n hx hb dX12_weekdays_83 rfl (lv_at hl 3 rfl) ?_
          refine lv_istore_n (lv' := [(3, .int v51_3), (0, .ref (ad 0)), (1, .int 1), (2, .int v51_2), (4, .int v51_4)]) hx hb dX12_weekdays_84 rfl hl (by decide) rfl (fun ls hl => ?_)
          obtain ⟨x37, ex37⟩ : ∃ y : Int32, y = v51_4 + Int32.ofInt 1 := ⟨_, rfl⟩
          refine lv_iinc (v := x37) (lv' := [(4, .int x37), (3, .int v51_3), (0, .ref (ad 0)), (1, .int 1), (2, .int v51_2)]) hx hb dX12_weekdays_85 hl (k := 4) rfl ex37.symm (by decide) rfl (fun ls hl => ?_)
          have ex37 : x37.toInt = v51_4.toInt + 1 := by rw [ex37]; exact wk_add (y := 1) (show -2147483648 ≤ v51_4.toInt + 1 by omega) (show v51_4.toInt + 1 ≤ 2147483647 by omega)
          refine lv_goto (tgt := 51) hx hb dX12_weekdays_88 (by decide) ?_
          exact ih51 v51_2 v51_3 x37 f51_12_0 f51_12_1 H locs ls  (show 1 ≤ v51_2.toInt by omega) (show v51_2.toInt ≤ 127 by omega) (show 0 ≤ v51_3.toInt by omega) (show v51_3.toInt ≤ 11 by omega) (show 1 ≤ x37.toInt by omega) (show x37.toInt ≤ 12 by omega) (show 1 ≤ f51_12_0.toInt by omega) (show f51_12_0.toInt ≤ 10 by omega) (show 1 ≤ f51_12_1.toInt by omega) (show f51_12_1.toInt ≤ 12 by omega) (show (12 - x37.toInt).toNat < n51 by omega) hw  c17 c20 (lv_sub hl [2, 3, 4, 1, 0] rfl)
        · have c36 : r24.toInt < r30.toInt := wk_leF c36
          refine lv_iload hx hb dX12_weekdays_78 (lv_at hl 4 rfl) ?_
          refine lv_goto (tgt := 84) hx hb dX12_weekdays_80 (by decide) ?_
          refine lv_istore_n (lv' := [(3, .int v51_4), (0, .ref (ad 0)), (1, .int 1), (2, .int v51_2), (4, .int v51_4)]) hx hb dX12_weekdays_84 rfl hl (by decide) rfl (fun ls hl => ?_)
          obtain ⟨x38, ex38⟩ : ∃ y : Int32, y = v51_4 + Int32.ofInt 1 := ⟨_, rfl⟩
          refine lv_iinc (v := x38) (lv' := [(4, .int x38), (3, .int v51_4), (0, .ref (ad 0)), (1, .int 1), (2, .int v51_2)]) hx hb dX12_weekdays_85 hl (k := 4) rfl ex38.symm (by decide) rfl (fun ls hl => ?_)
          have ex38 : x38.toInt = v51_4.toInt + 1 := by rw [ex38]; exact wk_add (y := 1) (show -2147483648 ≤ v51_4.toInt + 1 by omega) (show v51_4.toInt + 1 ≤ 2147483647 by omega)
          refine lv_goto (tgt := 51) hx hb dX12_weekdays_88 (by decide) ?_
          exact ih51 v51_2 v51_4 x38 f51_12_0 f51_12_1 H locs ls  (show 1 ≤ v51_2.toInt by omega) (show v51_2.toInt ≤ 127 by omega) (show 0 ≤ v51_4.toInt by omega) (show v51_4.toInt ≤ 11 by omega) (show 1 ≤ x38.toInt by omega) (show x38.toInt ≤ 12 by omega) (show 1 ≤ f51_12_0.toInt by omega) (show f51_12_0.toInt ≤ 10 by omega) (show 1 ≤ f51_12_1.toInt by omega) (show f51_12_1.toInt ≤ 12 by omega) (show (12 - x38.toInt).toNat < n51 by omega) hw  c17 c20 (lv_sub hl [2, 3, 4, 1, 0] rfl)
  refine lv_aload_n hx hb dX12_weekdays_0 rfl (lv_at hl 0 rfl) ?_
  refine tk_Vi hC hK hw hT hA hE hSR kM_at0 (by decide) rfl (k_X12_isTown_1 l adK adV dC dI cy ad B (by omega) (by omega) qr s1    w0 s.heap.size hT ) (cwV 0 hC.2.2.2.2 gX12_weekdays_X12_isTown rfl rfl rfl (by decide +kernel) ⟨Nat.le_of_ble_eq_true rfl, Nat.le_of_ble_eq_true rfl⟩) rfl hl.1 rfl (Nat.le_of_ble_eq_true rfl) dX12_weekdays_1 (fun r39 w41 H locs hp40 hw => ?_)
  obtain ⟨rfl, hg47⟩ := hp40
  rcases hg47 with ⟨rfl, ⟨x43, c44, rx43, tx43⟩⟩ | ⟨rfl, ⟨x45, c46, rx45, tx45⟩⟩
  · refine lv_if_eq (tgt := 17) hx hb dX12_weekdays_4 (by decide) (fun _ => ?_) (fun c => absurd (by decide) c)
    exact J17 x43 H locs ls  (show 0 ≤ x43.toInt by omega) (show x43.toInt ≤ 10 by omega)  hw  c44 (lv_sub hl [0, 1] rfl)
  · refine lv_if_eq (tgt := 17) hx hb dX12_weekdays_4 (by decide) (fun c => absurd c (by decide)) (fun _ => ?_)
    refine lv_iload_n hx hb dX12_weekdays_7 rfl (lv_at hl 1 rfl) ?_
    refine lv_i2l hx hb dX12_weekdays_8 rfl ?_
    refine lv_topl (fun x48 ex48 => ?_)
    have ex48 : x48.toInt = a1.toInt := by rw [ex48]; exact wk_i2l _
    have bx48 := wk_i32 a1
    refine lv_lconst (v := 0) hx hb dX12_weekdays_9 (by decide) ?_
    refine lv_lconst (v := 1) hx hb dX12_weekdays_10 (by decide) ?_
    refine tk_Si hC hK hw hT hA hE hSR (k_X12_in_12 l adK adV dC dI cy ad B (by omega) (by omega) qr s1   x48 (show (-2147483648) ≤ x48.toInt by omega) (show x48.toInt ≤ 2147483647 by omega) w0 H.size hT ) (va_cwS 3 hC.2.2.2.2 gX12_weekdays_X12_in rfl rfl rfl (by decide +kernel) ⟨Nat.le_of_ble_eq_true rfl, Nat.le_of_ble_eq_true rfl⟩) rfl hl.1 rfl (Nat.le_of_ble_eq_true rfl) dX12_weekdays_11 (fun r49 w51 H locs hp50 hw => ?_)
    obtain ⟨rfl, hg55⟩ := hp50
    rcases hg55 with rfl | ⟨rfl, g53, g54⟩
    · refine lv_if_ne (tgt := 19) hx hb dX12_weekdays_14 (by decide) (fun c => absurd (by decide) c) (fun _ => ?_)
      exact J17 x45 H locs ls  (show 0 ≤ x45.toInt by omega) (show x45.toInt ≤ 10 by omega)  hw  c46 (lv_sub hl [0, 1] rfl)
    · refine lv_if_ne (tgt := 19) hx hb dX12_weekdays_14 (by decide) (fun _ => ?_) (fun c => absurd c (by decide))
      refine lv_aload_n hx hb dX12_weekdays_19 rfl (lv_at hl 0 rfl) ?_
      refine tk_Vi hC hK hw hT hA hE hSR kM_at0 (by decide) rfl (k_X12_fitting_1 l adK adV dC dI cy ad B (by omega) (by omega) qr s1    w0 H.size hT ) (cwV 0 hC.2.2.2.2 gX12_weekdays_X12_fitting rfl rfl rfl (by decide +kernel) ⟨Nat.le_of_ble_eq_true rfl, Nat.le_of_ble_eq_true rfl⟩) rfl hl.1 rfl (Nat.le_of_ble_eq_true rfl) dX12_weekdays_20 (fun r56 w58 H locs hp57 hw => ?_)
      obtain ⟨rfl, hg62⟩ := hp57
      obtain ⟨g60, g61⟩ := hg62
      refine lv_istore_n (lv' := [(2, .int r56), (0, .ref (ad 0)), (1, .int a1)]) hx hb dX12_weekdays_23 rfl hl (by decide) rfl (fun ls hl => ?_)
      refine lv_iload_n hx hb dX12_weekdays_24 rfl (lv_at hl 2 rfl) ?_
      refine lv_if_ne (tgt := 30) hx hb dX12_weekdays_25 (by decide) (fun c63 => ?_) (fun c63 => ?_)
      · have c63 : ¬ a1.toInt = (0 : Int) := wk_eqF c63
        refine lv_iload_n hx hb dX12_weekdays_30 rfl (lv_at hl 0 rfl) ?_
        refine lv_if_eq (tgt := 43) hx hb dX12_weekdays_31 (by decide) (fun c64 => ?_) (fun c64 => ?_)
        · have c64 : r56.toInt = (0 : Int) := wk_eq.mp c64
          obtain rfl : a1 = 1 := wk_eq.mpr (show a1.toInt = 1 by omega)
          exact J43 r56 x45 H locs ls  (show 0 ≤ r56.toInt by omega) (show r56.toInt ≤ 127 by omega) (show 1 ≤ x45.toInt by omega) (show x45.toInt ≤ 10 by omega)  hw  c46 (lv_sub hl [1, 2, 0] rfl)
        · have c64 : ¬ r56.toInt = (0 : Int) := wk_eqF c64
          refine lv_aload_n hx hb dX12_weekdays_34 rfl (lv_at hl 1 rfl) ?_
          refine tk_getA hC hK hw hT hinX12 kM_at0 (by decide) rfl 26 (by decide) (List.mem_of_getElem? (i := 1) rfl) rfl rfl dX12_weekdays_35 ?_
          refine lv_iconst (v := 1) hx hb dX12_weekdays_38 (by decide) ?_
          refine tk_ialdR hC hK hw hT kM_at12 rfl (by decide) (by decide) dX12_weekdays_39 (fun x65 c66 Ex65 => ?_)
          have bx65 : 0 ≤ x65.toInt ∧ x65.toInt ≤ 12 := (tk_rg1 rfl).mp Ex65
          have c66 : gi w0 12 1 = x65 := c66
          refine lv_if_ne (tgt := 46) hx hb dX12_weekdays_40 (by decide) (fun c67 => ?_) (fun c67 => ?_)
          · have c67 : ¬ x65.toInt = (0 : Int) := wk_eqF c67
            refine lv_iconst (v := 0) hx hb dX12_weekdays_46 (by decide) ?_
            refine lv_istore_n (lv' := [(3, .int 0), (2, .int r56), (0, .ref (ad 0)), (1, .int a1)]) hx hb dX12_weekdays_47 rfl hl (by decide) rfl (fun ls hl => ?_)
            refine lv_iconst (v := 1) hx hb dX12_weekdays_48 (by decide) ?_
            refine lv_istore (lv' := [(4, .int 1), (3, .int 0), (2, .int r56), (0, .ref (ad 0)), (1, .int a1)]) hx hb dX12_weekdays_49 hl (by decide) rfl (fun ls hl => ?_)
            obtain rfl : a1 = 1 := wk_eq.mpr (show a1.toInt = 1 by omega)
            exact L51 ((12 - (1 : Int)).toNat + 1) r56 0 1 x45 x65 H locs ls  (show 1 ≤ r56.toInt by omega) (show r56.toInt ≤ 127 by omega) (by decide) (by decide) (by decide) (by decide) (show 1 ≤ x45.toInt by omega) (show x45.toInt ≤ 10 by omega) (show 1 ≤ x65.toInt by omega) (show x65.toInt ≤ 12 by omega) (Nat.lt_succ_self _) hw  c46 c66 (lv_sub hl [3, 4, 2, 1, 0] rfl)
          · have c67 : x65.toInt = (0 : Int) := wk_eq.mp c67
            obtain rfl : a1 = 1 := wk_eq.mpr (show a1.toInt = 1 by omega)
            exact J43 r56 x45 H locs ls  (show 0 ≤ r56.toInt by omega) (show r56.toInt ≤ 127 by omega) (show 1 ≤ x45.toInt by omega) (show x45.toInt ≤ 10 by omega)  hw  c46 (lv_sub hl [1, 2, 0] rfl)
      · have c63 : a1.toInt = (0 : Int) := wk_eq.mp c63
        refine lv_iload_n hx hb dX12_weekdays_28 rfl (lv_at hl 0 rfl) ?_
        exact tk_iret hC hr hlocks hK ⟨rfl, (Or.inr (Or.inl ⟨(show 0 ≤ r56.toInt by omega), (show r56.toInt ≤ 127 by omega), ⟨x45, c46, (show 1 ≤ x45.toInt by omega), (show x45.toInt ≤ 10 by omega)⟩⟩))⟩ hw dX12_weekdays_29
abbrev P_X12_came_1 (ad : Nat → Nat) (cy : Nat → ClassId) (B : Int) (qr : Nat) (s1 : Int) (a1 : Int32) (w0 : va_W) : Int32 → va_W → Prop := fun r u => TW ksM ad cy B qr 12 u ∧ FE ksM [(71, 8, 8), (71, 288, 295)] w0 u ∧ ((r = (-2)) ∨ (0 ≤ r.toInt ∧ r.toInt ≤ 8 ∧ (-1) ≤ a1.toInt ∧ a1.toInt ≤ 9 ∧ (∃ y : Int32, gi u 12 8 = y ∧ 0 ≤ y.toInt ∧ y.toInt ≤ 8)))
set_option maxHeartbeats 4000000 in
set_option maxRecDepth 100000 in
theorem k_X12_came_1 (l : Launch) (adK adV : Nat → Nat) (dC : Nat → ClassId) (dI : Nat → Nat → Nat) (cy : Nat → ClassId) (ad : Nat → Nat) (B : Int) (hB0 : 100000 ≤ B) (hB1 : B ≤ 1073741824) (qr : Nat) (s1 : Int)  (a1 : Int32) (w0 : va_W) (sz : Nat) (hT : TW ksM ad cy B qr 12 w0)  : Met l yX12_came wsX12_came ({ frames := 2, cells := 0, slots := 0, locals := 33 }) (va_Pc [.ref (ad 0), .int a1] (wpreS adK adV dC dI cy sz w0)) (va_Qi (P_X12_came_1 ad cy B qr s1 a1 w0) (fun u : va_W => wpost dC dI cy (va_A w0 sz) u) (va_A w0 sz)) 0 0 (va_A w0 sz) := by
  refine Met.ofW (cc := cX12_came) (maxL := 2) (ret := (some .int)) (by decide) rfl ?_
  intro p e s m args below meth c s₁ Bk hml hv
  obtain ⟨rfl, ⟨hsz, hP, hK, hD0⟩, hE, hSR⟩ := hv
  have hx := Bk.exec
  have hb := Bk.bytes
  have hr := Bk.returns
  have hlocks := Bk.notSynchronized
  have hC : CallFix p m c cX12_came 2 s _ wsX12_came RX12 := ⟨hx, hb, hml, findClass_of_methodNamed Bk.named, atoms_spec (ws := wsX12_came) Bk.pre⟩
  subst hsz
  have hD := hD0.self (sz := s.heap.size)
  generalize hAe : va_A w0 s.heap.size = A at hD hE ⊢
  have hA : ∀ q : Nat, s.heap.size ≤ q → A q := fun q h => by rw [← hAe]; exact Or.inr h
  have hw : Wd dC dI A s.heap s.heap [] w0 := ⟨hP, hD, va_S.rf⟩
  have hF : FE ksM [(71, 8, 8), (71, 288, 295)] w0 w0 := FE.rf
  have hl := lv_entry ([.ref (ad 0), .int a1]) (n := 2) (Nat.le_of_ble_eq_true rfl)
  rw [lg_entry_eq]
  generalize (lg_sl ([.ref (ad 0), .int a1]) ++ List.replicate (2 - (lg_sl ([.ref (ad 0), .int a1])).length) Slot.unset).toArray = ls at hl ⊢
  have hl : lv_has ls 2 [(0, .ref (ad 0)), (1, .int a1)] := hl
  generalize hloc : ([] : List Loc) = locs at hw ⊢
  have hinX12 : ∀ w ∈ u_ws RX12 TX12 42, w ∈ wsX12_came := fun _ h => List.mem_cons_of_mem _ (List.mem_append_right _ (h))
  have J35 : ∀ (H : Heap) (locs : List Loc) (ls : Array Slot) (w1 : va_W), Wd dC dI A s.heap H locs w1 → TW ksM ad cy B qr 12 w1 → FE ksM [(71, 8, 8), (71, 288, 295)] w0 w1 → lv_has ls 2 [(0, .ref (ad 0)), (1, .int a1)] → W p l e ({ frames := 2, cells := 0, slots := 0, locals := 33 }) s m (List.toArray [.ref (ad 0), .int a1]) below meth c H locs 0 0 (MQ below (va_Qi (P_X12_came_1 ad cy B qr s1 a1 w0) (fun u : va_W => wpost dC dI cy A u) A) (List.toArray [.ref (ad 0), .int a1]) s 0 0 A) (F0 m 35 ls []) := by
    intro H locs ls w1 hw hT hF hl
    refine lv_bipush (v := (-2)) hx hb dX12_came_35 (by decide) ?_
    exact tk_iret hC hr hlocks hK ⟨hT, hF, (Or.inl rfl)⟩ hw dX12_came_37
  refine lv_iload_n hx hb dX12_came_0 rfl (lv_at hl 1 rfl) ?_
  refine lv_iconst (v := (-1)) hx hb dX12_came_1 (by decide) ?_
  refine lv_icmp_ne (tgt := 15) hx hb dX12_came_2 (by decide) (fun c2 => ?_) (fun c2 => ?_)
  · have c2 : ¬ a1.toInt = (-1 : Int) := wk_eqF c2
    refine lv_aload_n hx hb dX12_came_15 rfl (lv_at hl 0 rfl) ?_
    refine lv_iload_n hx hb dX12_came_16 rfl (lv_at hl 1 rfl) ?_
    refine tk_Vi hC hK hw hT hA hE hSR kM_at0 (by decide) rfl (k_X12_isCorner_1 l adK adV dC dI cy ad B (by omega) (by omega) qr s1   a1 w0 s.heap.size hT ) (cwV 1 hC.2.2.2.2 gX12_came_X12_isCorner rfl rfl rfl (by decide +kernel) ⟨Nat.le_of_ble_eq_true rfl, Nat.le_of_ble_eq_true rfl⟩) rfl hl.1 rfl (Nat.le_of_ble_eq_true rfl) dX12_came_17 (fun r3 w5 H locs hp4 hw => ?_)
    obtain ⟨rfl, hg11⟩ := hp4
    rcases hg11 with rfl | ⟨rfl, g7, g8, ⟨x9, c10, rx9, tx9⟩⟩
    · refine lv_if_eq (tgt := 35) hx hb dX12_came_20 (by decide) (fun _ => ?_) (fun c => absurd (by decide) c)
      exact J35  H locs ls w0   hw hT hF  (lv_sub hl [0, 1] rfl)
    · refine lv_if_eq (tgt := 35) hx hb dX12_came_20 (by decide) (fun c => absurd c (by decide)) (fun _ => ?_)
      refine lv_aload_n hx hb dX12_came_23 rfl (lv_at hl 0 rfl) ?_
      refine tk_getA hC hK hw hT hinX12 kM_at0 (by decide) rfl 26 (by decide) (List.mem_of_getElem? (i := 1) rfl) rfl rfl dX12_came_24 ?_
      refine lv_bipush (v := 8) hx hb dX12_came_27 (by decide) ?_
      refine tk_ialdR hC hK hw hT kM_at12 rfl (by decide) (by decide) dX12_came_29 (fun x12 c13 Ex12 => ?_)
      have bx12 := tk_rgI rfl 8 1 1 0 8 (by decide +kernel) ⟨0, by decide, by decide⟩ Ex12
      have c13 : gi w0 12 8 = x12 := c13
      refine lv_bipush (v := 8) hx hb dX12_came_30 (by decide) ?_
      refine lv_icmp_ne (tgt := 38) hx hb dX12_came_32 (by decide) (fun c14 => ?_) (fun c14 => ?_)
      · have c14 : ¬ x12.toInt = (8 : Int) := wk_eqF c14
        refine lv_aload_n hx hb dX12_came_38 rfl (lv_at hl 0 rfl) ?_
        refine tk_getA hC hK hw hT hinX12 kM_at0 (by decide) rfl 26 (by decide) (List.mem_of_getElem? (i := 1) rfl) rfl rfl dX12_came_39 ?_
        refine lv_sipush (v := 288) hx hb dX12_came_42 (by decide) ?_
        refine lv_aload_n hx hb dX12_came_45 rfl (lv_at hl 0 rfl) ?_
        refine tk_getA hC hK hw hT hinX12 kM_at0 (by decide) rfl 26 (by decide) (List.mem_of_getElem? (i := 1) rfl) rfl rfl dX12_came_46 ?_
        refine lv_bipush (v := 8) hx hb dX12_came_49 (by decide) ?_
        refine tk_ialdR hC hK hw hT kM_at12 rfl (by decide) (by decide) dX12_came_51 (fun x15 c16 Ex15 => ?_)
        refine wk_top x12 (c16.symm.trans c13) ?_
        refine lv_iadd hx hb dX12_came_52 ?_
        refine lv_topi (fun x17 ex17 => ?_)
        have ex17 : x17.toInt = (288 : Int) + x12.toInt := by rw [ex17]; exact wk_add (show (-2147483648) ≤ (288 : Int) + x12.toInt by omega) (show (288 : Int) + x12.toInt ≤ 2147483647 by omega)
        refine lv_iload_n hx hb dX12_came_53 rfl (lv_at hl 1 rfl) ?_
        refine tk_iastR hC hK hw hT kM_at12 (by decide) rfl (show 0 ≤ x17.toInt by omega) (show x17.toInt < 296 by omega) (tk_rgS rfl 288 1 8 0 9 (by decide +kernel) ⟨(x12.toInt - 0).toNat, by omega, show x17.toInt.toNat = 288 + 1 * (x12.toInt - 0).toNat by omega⟩ (show 0 ≤ a1.toInt by omega) (show a1.toInt ≤ 9 by omega)) dX12_came_54 (fun H locs w18 hw hT k20 c19 => ?_)
        have hF := hF.put kM_at12 (inE_of (a := 288) (b := 295) (by decide) (show 288 ≤ x17.toInt.toNat by omega) (show x17.toInt.toNat ≤ 295 by omega)) k20
        have c21 := k20.gi (Or.inr (show 0 ≠ x17.toInt.toNat by omega)) c10
        have c22 := k20.gi (Or.inr (show 8 ≠ x17.toInt.toNat by omega)) c13
        refine lv_aload_n hx hb dX12_came_55 rfl (lv_at hl 0 rfl) ?_
        refine tk_getA hC hK hw hT hinX12 kM_at0 (by decide) rfl 26 (by decide) (List.mem_of_getElem? (i := 1) rfl) rfl rfl dX12_came_56 ?_
        refine lv_bipush (v := 8) hx hb dX12_came_59 (by decide) ?_
        refine lv_dup2_11 hx hb dX12_came_61 rfl rfl ?_
        refine tk_ialdR hC hK hw hT kM_at12 rfl (by decide) (by decide) dX12_came_62 (fun x23 c24 Ex23 => ?_)
        refine wk_top x12 (c24.symm.trans c22) ?_
        refine lv_iconst (v := 1) hx hb dX12_came_63 (by decide) ?_
        refine lv_iadd hx hb dX12_came_64 ?_
        refine lv_topi (fun x25 ex25 => ?_)
        have ex25 : x25.toInt = x12.toInt + (1 : Int) := by rw [ex25]; exact wk_add (show (-2147483648) ≤ x12.toInt + (1 : Int) by omega) (show x12.toInt + (1 : Int) ≤ 2147483647 by omega)
        refine tk_iastR hC hK hw hT kM_at12 (by decide) rfl (by decide) (by decide) (tk_rgS rfl 8 1 1 1 8 (by decide +kernel) ⟨0, by decide, by decide⟩ (show 1 ≤ x25.toInt by omega) (show x25.toInt ≤ 8 by omega)) dX12_came_65 (fun H locs w26 hw hT k28 c27 => ?_)
        have hF := hF.put kM_at12 (inE_of (a := 8) (b := 8) (by decide) (by decide) (by decide)) k28
        have c29 := k28.gi (Or.inr (by decide)) c21
        have c27 : gi w26 12 8 = x25 := c27
        refine lv_aload_n hx hb dX12_came_66 rfl (lv_at hl 0 rfl) ?_
        refine tk_getA hC hK hw hT hinX12 kM_at0 (by decide) rfl 26 (by decide) (List.mem_of_getElem? (i := 1) rfl) rfl rfl dX12_came_67 ?_
        refine lv_bipush (v := 8) hx hb dX12_came_70 (by decide) ?_
        refine tk_ialdR hC hK hw hT kM_at12 rfl (by decide) (by decide) dX12_came_72 (fun x30 c31 Ex30 => ?_)
        refine wk_top x25 (c31.symm.trans c27) ?_
        exact tk_iret hC hr hlocks hK ⟨hT, hF, (Or.inr ⟨(show 0 ≤ x25.toInt by omega), (show x25.toInt ≤ 8 by omega), (show (-1) ≤ a1.toInt by omega), (show a1.toInt ≤ 9 by omega), ⟨x25, c27, (show 0 ≤ x25.toInt by omega), (show x25.toInt ≤ 8 by omega)⟩⟩)⟩ hw dX12_came_73
      · have c14 : x12.toInt = (8 : Int) := wk_eq.mp c14
        exact J35  H locs ls w0   hw hT hF  (lv_sub hl [0, 1] rfl)
  · have c2 : a1.toInt = (-1 : Int) := wk_eq.mp c2
    refine lv_aload_n hx hb dX12_came_5 rfl (lv_at hl 0 rfl) ?_
    refine tk_getA hC hK hw hT hinX12 kM_at0 (by decide) rfl 26 (by decide) (List.mem_of_getElem? (i := 1) rfl) rfl rfl dX12_came_6 ?_
    refine lv_bipush (v := 8) hx hb dX12_came_9 (by decide) ?_
    refine lv_iconst (v := 0) hx hb dX12_came_11 (by decide) ?_
    refine tk_iastR hC hK hw hT kM_at12 (by decide) rfl (by decide) (by decide) (tk_rg0 rfl (show 0 ≤ B by omega) (by decide)) dX12_came_12 (fun H locs w32 hw hT k34 c33 => ?_)
    have hF := hF.put kM_at12 (inE_of (a := 8) (b := 8) (by decide) (by decide) (by decide)) k34
    have c33 : gi w32 12 8 = 0 := c33
    refine lv_iconst (v := 0) hx hb dX12_came_13 (by decide) ?_
    exact tk_iret hC hr hlocks hK ⟨hT, hF, (Or.inr ⟨(by decide), (by decide), (show (-1) ≤ a1.toInt by omega), (show a1.toInt ≤ 9 by omega), ⟨0, c33, (by decide), (by decide)⟩⟩)⟩ hw dX12_came_14
abbrev P_X12_isHis_1 (ad : Nat → Nat) (cy : Nat → ClassId) (B : Int) (qr : Nat) (s1 : Int) (a1 : Int32) (w0 : va_W) : Int32 → va_W → Prop := fun r u => TW ksM ad cy (B + 900) qr 12 u ∧ FE ksM [(12, 24, 24), (12, 31, 31), (69, 0, 64), (70, 0, 10), (71, 216, 243), (71, 220, 247), (71, 221, 248), (71, 222, 249), (71, 223, 250), (71, 224, 251), (72, 0, 12), (73, 0, 10)] w0 u ∧ ((r = 0) ∨ (r = 1))
set_option maxHeartbeats 4000000 in
set_option maxRecDepth 100000 in
theorem k_X12_isHis_1 (l : Launch) (adK adV : Nat → Nat) (dC : Nat → ClassId) (dI : Nat → Nat → Nat) (cy : Nat → ClassId) (ad : Nat → Nat) (B : Int) (hB0 : 100000 ≤ B) (hB1 : B ≤ 1073740924) (qr : Nat) (s1 : Int)  (a1 : Int32) (ra1 : 0 ≤ a1.toInt) (ta1 : a1.toInt ≤ 3) (w0 : va_W) (sz : Nat) (hT : TW ksM ad cy B qr 12 w0) (hRW : RW w0) : Met l yX12_isHis wsX12_isHis ({ frames := 9, cells := 0, slots := 0, locals := 194 }) (va_Pc [.ref (ad 0), .int a1] (wpreS adK adV dC dI cy sz w0)) (va_Qi (P_X12_isHis_1 ad cy B qr s1 a1 w0) (fun u : va_W => wpost dC dI cy (va_A w0 sz) u) (va_A w0 sz)) 0 0 (va_A w0 sz) := by
  refine Met.ofW (cc := cX12_isHis) (maxL := 4) (ret := (some .boolean)) (by decide) rfl ?_
  intro p e s m args below meth c s₁ Bk hml hv
  obtain ⟨rfl, ⟨hsz, hP, hK, hD0⟩, hE, hSR⟩ := hv
  have hx := Bk.exec
  have hb := Bk.bytes
  have hr := Bk.returns
  have hlocks := Bk.notSynchronized
  have hC : CallFix p m c cX12_isHis 4 s _ wsX12_isHis RX12 := ⟨hx, hb, hml, findClass_of_methodNamed Bk.named, atoms_spec (ws := wsX12_isHis) Bk.pre⟩
  subst hsz
  have hD := hD0.self (sz := s.heap.size)
  generalize hAe : va_A w0 s.heap.size = A at hD hE ⊢
  have hA : ∀ q : Nat, s.heap.size ≤ q → A q := fun q h => by rw [← hAe]; exact Or.inr h
  have hw : Wd dC dI A s.heap s.heap [] w0 := ⟨hP, hD, va_S.rf⟩
  have hF : FE ksM [(12, 24, 24), (12, 31, 31), (69, 0, 64), (70, 0, 10), (71, 216, 243), (71, 220, 247), (71, 221, 248), (71, 222, 249), (71, 223, 250), (71, 224, 251), (72, 0, 12), (73, 0, 10)] w0 w0 := FE.rf
  have hl := lv_entry ([.ref (ad 0), .int a1]) (n := 4) (Nat.le_of_ble_eq_true rfl)
  rw [lg_entry_eq]
  generalize (lg_sl ([.ref (ad 0), .int a1]) ++ List.replicate (4 - (lg_sl ([.ref (ad 0), .int a1])).length) Slot.unset).toArray = ls at hl ⊢
  have hl : lv_has ls 4 [(0, .ref (ad 0)), (1, .int a1)] := hl
  generalize hloc : ([] : List Loc) = locs at hw ⊢
  have hinX12 : ∀ w ∈ u_ws RX12 TX12 42, w ∈ wsX12_isHis := fun _ h => List.mem_cons_of_mem _ (List.mem_append_right _ (h))
  have J70 : ∀ (v70_2 : Int32) (v70_3 : Int32) (H : Heap) (locs : List Loc) (ls : Array Slot) (w1 : va_W), 0 ≤ a1.toInt → a1.toInt ≤ 3 → 0 ≤ v70_2.toInt → v70_2.toInt ≤ 8 → 0 ≤ v70_3.toInt → v70_3.toInt ≤ 100 → Wd dC dI A s.heap H locs w1 → TW ksM ad cy (B + 900) qr 12 w1 → FE ksM [(12, 24, 24), (12, 31, 31), (69, 0, 64), (70, 0, 10), (71, 216, 243), (71, 220, 247), (71, 221, 248), (71, 222, 249), (71, 223, 250), (71, 224, 251), (72, 0, 12), (73, 0, 10)] w0 w1 → RW w1 → lv_has ls 4 [(0, .ref (ad 0)), (1, .int a1), (2, .int v70_2), (3, .int v70_3)] → W p l e ({ frames := 9, cells := 0, slots := 0, locals := 194 }) s m (List.toArray [.ref (ad 0), .int a1]) below meth c H locs 0 0 (MQ below (va_Qi (P_X12_isHis_1 ad cy B qr s1 a1 w0) (fun u : va_W => wpost dC dI cy A u) A) (List.toArray [.ref (ad 0), .int a1]) s 0 0 A) (F0 m 70 ls []) := by
    intro v70_2 v70_3 H locs ls w1 r2 t3 r4 t5 r6 t7 hw hT hF hRW hl
    refine lv_iload_n hx hb dX12_isHis_70 rfl (lv_at hl 2 rfl) ?_
    refine lv_aload_n hx hb dX12_isHis_71 rfl (lv_at hl 0 rfl) ?_
    refine tk_getA hC hK hw hT hinX12 kM_at0 (by decide) rfl 26 (by decide) (List.mem_of_getElem? (i := 1) rfl) rfl rfl dX12_isHis_72 ?_
    refine lv_bipush (v := 8) hx hb dX12_isHis_75 (by decide) ?_
    refine tk_ialdR hC hK hw hT kM_at12 rfl (by decide) (by decide) dX12_isHis_77 (fun x8 c9 Ex8 => ?_)
    have bx8 := tk_rgI rfl 8 1 1 0 8 (by decide +kernel) ⟨0, by decide, by decide⟩ Ex8
    have c9 : gi w1 12 8 = x8 := c9
    refine lv_icmp_ne (tgt := 85) hx hb dX12_isHis_78 (by decide) (fun c10 => ?_) (fun c10 => ?_)
    · have c10 : ¬ v70_2.toInt = x8.toInt := wk_eqF c10
      refine lv_iconst (v := 0) hx hb dX12_isHis_85 (by decide) ?_
      exact tk_zret hC hr rfl hlocks hK ⟨hT, hF, (Or.inl rfl)⟩ hw dX12_isHis_86
    · have c10 : v70_2.toInt = x8.toInt := wk_eq.mp c10
      refine lv_iconst (v := 1) hx hb dX12_isHis_81 (by decide) ?_
      refine lv_goto (tgt := 86) hx hb dX12_isHis_82 (by decide) ?_
      exact tk_zret hC hr rfl hlocks hK ⟨hT, hF, (Or.inr rfl)⟩ hw dX12_isHis_86
  have L4 : ∀ (n4 : Nat) (v4_2 : Int32) (v4_3 : Int32) (H : Heap) (locs : List Loc) (ls : Array Slot) (w11 : va_W), 0 ≤ a1.toInt → a1.toInt ≤ 3 → 0 ≤ v4_2.toInt → v4_2.toInt ≤ 8 → 0 ≤ v4_3.toInt → v4_3.toInt ≤ 100 → (100 - v4_3.toInt).toNat < n4 → Wd dC dI A s.heap H locs w11 → TW ksM ad cy (B + 0 + 9 * v4_3.toInt) qr 12 w11 → FE ksM [(12, 24, 24), (12, 31, 31), (69, 0, 64), (70, 0, 10), (71, 216, 243), (71, 220, 247), (71, 221, 248), (71, 222, 249), (71, 223, 250), (71, 224, 251), (72, 0, 12), (73, 0, 10)] w0 w11 → RW w11 → lv_has ls 4 [(0, .ref (ad 0)), (1, .int a1), (2, .int v4_2), (3, .int v4_3)] → W p l e ({ frames := 9, cells := 0, slots := 0, locals := 194 }) s m (List.toArray [.ref (ad 0), .int a1]) below meth c H locs 0 0 (MQ below (va_Qi (P_X12_isHis_1 ad cy B qr s1 a1 w0) (fun u : va_W => wpost dC dI cy A u) A) (List.toArray [.ref (ad 0), .int a1]) s 0 0 A) (F0 m 4 ls []) := by
    intro n4
    induction n4 with
    | zero => intro v4_2 v4_3 H locs ls w11 r12 t13 r14 t15 r16 t17 hm4 hw hT hF hRW hl; omega
    | succ n4 ih4 =>
      intro v4_2 v4_3 H locs ls w11 r12 t13 r14 t15 r16 t17 hm4 hw hT hF hRW hl
      have J64 : ∀ (v64_2 : Int32) (f64_12_8 : Int32) (H : Heap) (locs : List Loc) (ls : Array Slot) (w18 : va_W), 0 ≤ a1.toInt → a1.toInt ≤ 3 → 0 ≤ v64_2.toInt → v64_2.toInt ≤ 8 → 0 ≤ v4_3.toInt → v4_3.toInt ≤ 99 → 1 ≤ f64_12_8.toInt → f64_12_8.toInt ≤ 8 → Wd dC dI A s.heap H locs w18 → TW ksM ad cy (B + 9 + 9 * v4_3.toInt) qr 12 w18 → FE ksM [(12, 24, 24), (12, 31, 31), (69, 0, 64), (70, 0, 10), (71, 216, 243), (71, 220, 247), (71, 221, 248), (71, 222, 249), (71, 223, 250), (71, 224, 251), (72, 0, 12), (73, 0, 10)] w0 w18 → RW w18 → gi w18 12 8 = f64_12_8 → lv_has ls 4 [(0, .ref (ad 0)), (1, .int a1), (2, .int v64_2), (3, .int v4_3)] → W p l e ({ frames := 9, cells := 0, slots := 0, locals := 194 }) s m (List.toArray [.ref (ad 0), .int a1]) below meth c H locs 0 0 (MQ below (va_Qi (P_X12_isHis_1 ad cy B qr s1 a1 w0) (fun u : va_W => wpost dC dI cy A u) A) (List.toArray [.ref (ad 0), .int a1]) s 0 0 A) (F0 m 64 ls []) := by
        intro v64_2 f64_12_8 H locs ls w18 r19 t20 r21 t22 r23 t24 r25 t26 hw hT hF hRW c27 hl
        obtain ⟨x28, ex28⟩ : ∃ y : Int32, y = v4_3 + Int32.ofInt 1 := ⟨_, rfl⟩
        refine lv_iinc (v := x28) (lv' := [(3, .int x28), (0, .ref (ad 0)), (1, .int a1), (2, .int v64_2)]) hx hb dX12_isHis_64 hl (k := 3) rfl ex28.symm (by decide) rfl (fun ls hl => ?_)
        have ex28 : x28.toInt = v4_3.toInt + 1 := by rw [ex28]; exact wk_add (y := 1) (show -2147483648 ≤ v4_3.toInt + 1 by omega) (show v4_3.toInt + 1 ≤ 2147483647 by omega)
        refine lv_goto (tgt := 4) hx hb dX12_isHis_67 (by decide) ?_
        exact ih4 v64_2 x28 H locs ls w18 (show 0 ≤ a1.toInt by omega) (show a1.toInt ≤ 3 by omega) (show 0 ≤ v64_2.toInt by omega) (show v64_2.toInt ≤ 8 by omega) (show 0 ≤ x28.toInt by omega) (show x28.toInt ≤ 100 by omega) (show (100 - x28.toInt).toNat < n4 by omega) hw (hT.up (show (B + 9 + 9 * v4_3.toInt) ≤ (B + 0 + 9 * x28.toInt) by omega)) hF hRW  (lv_sub hl [1, 2, 3, 0] rfl)
      refine lv_iload_n hx hb dX12_isHis_4 rfl (lv_at hl 3 rfl) ?_
      refine lv_bipush (v := 100) hx hb dX12_isHis_5 (by decide) ?_
      refine lv_icmp_ge (tgt := 70) hx hb dX12_isHis_7 (by decide) (fun c29 => ?_) (fun c29 => ?_)
      · have c29 : (100 : Int) ≤ v4_3.toInt := wk_le.mp c29
        exact J70 v4_2 v4_3 H locs ls w11 (show 0 ≤ a1.toInt by omega) (show a1.toInt ≤ 3 by omega) (show 0 ≤ v4_2.toInt by omega) (show v4_2.toInt ≤ 8 by omega) (show 0 ≤ v4_3.toInt by omega) (show v4_3.toInt ≤ 100 by omega)  hw (hT.up (show (B + 0 + 9 * v4_3.toInt) ≤ (B + 900) by omega)) hF hRW  (lv_sub hl [0, 1, 2, 3] rfl)
      · have c29 : v4_3.toInt < (100 : Int) := wk_leF c29
        refine lv_iload_n hx hb dX12_isHis_10 rfl (lv_at hl 2 rfl) ?_
        refine lv_aload_n hx hb dX12_isHis_11 rfl (lv_at hl 0 rfl) ?_
        refine tk_getA hC hK hw hT hinX12 kM_at0 (by decide) rfl 26 (by decide) (List.mem_of_getElem? (i := 1) rfl) rfl rfl dX12_isHis_12 ?_
        refine lv_bipush (v := 8) hx hb dX12_isHis_15 (by decide) ?_
        refine tk_ialdR hC hK hw hT kM_at12 rfl (by decide) (by decide) dX12_isHis_17 (fun x30 c31 Ex30 => ?_)
        have bx30 := tk_rgI rfl 8 1 1 0 8 (by decide +kernel) ⟨0, by decide, by decide⟩ Ex30
        have c31 : gi w11 12 8 = x30 := c31
        refine lv_icmp_ge (tgt := 70) hx hb dX12_isHis_18 (by decide) (fun c32 => ?_) (fun c32 => ?_)
        · have c32 : x30.toInt ≤ v4_2.toInt := wk_le.mp c32
          exact J70 v4_2 v4_3 H locs ls w11 (show 0 ≤ a1.toInt by omega) (show a1.toInt ≤ 3 by omega) (show 0 ≤ v4_2.toInt by omega) (show v4_2.toInt ≤ 8 by omega) (show 0 ≤ v4_3.toInt by omega) (show v4_3.toInt ≤ 100 by omega)  hw (hT.up (show (B + 0 + 9 * v4_3.toInt) ≤ (B + 900) by omega)) hF hRW  (lv_sub hl [0, 1, 2, 3] rfl)
        · have c32 : v4_2.toInt < x30.toInt := wk_leF c32
          refine lv_aload_n hx hb dX12_isHis_21 rfl (lv_at hl 0 rfl) ?_
          refine lv_iload_n hx hb dX12_isHis_22 rfl (lv_at hl 1 rfl) ?_
          refine tk_Vi hC hK hw hT hA hE hSR kM_at0 (by decide) rfl (k_X12_isThere_1 l adK adV dC dI cy ad (B + 0 + 9 * v4_3.toInt) (by omega) (by omega) qr s1   a1 (show 0 ≤ a1.toInt by omega) (show a1.toInt ≤ 3 by omega) w11 H.size hT ) (cwV 1 hC.2.2.2.2 gX12_isHis_X12_isThere rfl rfl rfl (by decide +kernel) ⟨Nat.le_of_ble_eq_true rfl, Nat.le_of_ble_eq_true rfl⟩) rfl hl.1 rfl (Nat.le_of_ble_eq_true rfl) dX12_isHis_23 (fun r33 w35 H locs hp34 hw => ?_)
          obtain ⟨rfl, hg37⟩ := hp34
          rcases hg37 with rfl | rfl
          · refine lv_if_ne (tgt := 70) hx hb dX12_isHis_26 (by decide) (fun c => absurd (by decide) c) (fun _ => ?_)
            refine lv_aload_n hx hb dX12_isHis_29 rfl (lv_at hl 0 rfl) ?_
            refine lv_iload_n hx hb dX12_isHis_30 rfl (lv_at hl 1 rfl) ?_
            refine tk_Vi hC hK hw hT hA hE hSR kM_at0 (by decide) rfl (k_X12_steps_1 l adK adV dC dI cy ad (B + 0 + 9 * v4_3.toInt) (by omega) (by omega) qr s1   a1 (show 0 ≤ a1.toInt by omega) (show a1.toInt ≤ 3 by omega) w11 H.size hT hRW) (cwV 1 hC.2.2.2.2 gX12_isHis_X12_steps rfl rfl rfl (by decide +kernel) ⟨Nat.le_of_ble_eq_true rfl, Nat.le_of_ble_eq_true rfl⟩) rfl hl.1 rfl (Nat.le_of_ble_eq_true rfl) dX12_isHis_31 (fun r38 w40 H locs hp39 hw => ?_)
            obtain ⟨hT, k41, hg42⟩ := hp39
            have hT := hT.up (B' := (B + 9 + 9 * v4_3.toInt)) (by omega)
            have hRW := RW_FE k41 (fun _ => rfl) (fun _ => rfl) (fun _ => rfl) hRW
            have hF := hF.tr k41 (by decide)
            have c43 := k41.gi kM_at12 (by decide) c31
            rcases hg42 with rfl | rfl
            · refine lv_if_ne (tgt := 40) hx hb dX12_isHis_34 (by decide) (fun c => absurd (by decide) c) (fun _ => ?_)
              refine lv_goto (tgt := 64) hx hb dX12_isHis_37 (by decide) ?_
              exact J64 v4_2 x30 H locs ls w40 (show 0 ≤ a1.toInt by omega) (show a1.toInt ≤ 3 by omega) (show 0 ≤ v4_2.toInt by omega) (show v4_2.toInt ≤ 8 by omega) (show 0 ≤ v4_3.toInt by omega) (show v4_3.toInt ≤ 99 by omega) (show 1 ≤ x30.toInt by omega) (show x30.toInt ≤ 8 by omega)  hw hT hF hRW c43 (lv_sub hl [0, 1, 2, 3] rfl)
            · refine lv_if_ne (tgt := 40) hx hb dX12_isHis_34 (by decide) (fun _ => ?_) (fun c => absurd c (by decide))
              refine lv_aload_n hx hb dX12_isHis_40 rfl (lv_at hl 0 rfl) ?_
              refine lv_iload_n hx hb dX12_isHis_41 rfl (lv_at hl 1 rfl) ?_
              refine lv_iconst (v := 0) hx hb dX12_isHis_42 (by decide) ?_
              refine tk_Vi hC hK hw hT hA hE hSR kM_at0 (by decide) rfl (k_X12_walkerOf_2 l adK adV dC dI cy ad (B + 9 + 9 * v4_3.toInt) (by omega) (by omega) qr s1   a1 (show 0 ≤ a1.toInt by omega) (show a1.toInt ≤ 3 by omega) w40 H.size hT ) (cwV 2 hC.2.2.2.2 gX12_isHis_X12_walkerOf rfl rfl rfl (by decide +kernel) ⟨Nat.le_of_ble_eq_true rfl, Nat.le_of_ble_eq_true rfl⟩) rfl hl.1 rfl (Nat.le_of_ble_eq_true rfl) dX12_isHis_43 (fun r44 w46 H locs hp45 hw => ?_)
              obtain ⟨rfl, hg51⟩ := hp45
              obtain ⟨g48, g49, c50⟩ := hg51
              refine lv_aload_n hx hb dX12_isHis_46 rfl (lv_at hl 0 rfl) ?_
              refine tk_getA hC hK hw hT hinX12 kM_at0 (by decide) rfl 26 (by decide) (List.mem_of_getElem? (i := 1) rfl) rfl rfl dX12_isHis_47 ?_
              refine lv_sipush (v := 288) hx hb dX12_isHis_50 (by decide) ?_
              refine lv_iload_n hx hb dX12_isHis_53 rfl (lv_at hl 2 rfl) ?_
              refine lv_iadd hx hb dX12_isHis_54 ?_
              refine lv_topi (fun x52 ex52 => ?_)
              have ex52 : x52.toInt = (288 : Int) + v4_2.toInt := by rw [ex52]; exact wk_add (show (-2147483648) ≤ (288 : Int) + v4_2.toInt by omega) (show (288 : Int) + v4_2.toInt ≤ 2147483647 by omega)
              refine tk_ialdR hC hK hw hT kM_at12 rfl (show 0 ≤ x52.toInt by omega) (show x52.toInt < 296 by omega) dX12_isHis_55 (fun x53 c54 Ex53 => ?_)
              have c54 : gi w40 12 (1 * v4_2.toInt + 288).toNat = x53 := (congrArg (gi w40 12) (congrArg Int.toNat (show 1 * v4_2.toInt + 288 = x52.toInt by omega))).trans c54
              refine lv_icmp_eq (tgt := 61) hx hb dX12_isHis_56 (by decide) (fun c55 => ?_) (fun c55 => ?_)
              · have c55 : r44.toInt = x53.toInt := wk_eq.mp c55
                obtain ⟨x56, ex56⟩ : ∃ y : Int32, y = v4_2 + Int32.ofInt 1 := ⟨_, rfl⟩
                refine lv_iinc (v := x56) (lv' := [(2, .int x56), (0, .ref (ad 0)), (1, .int a1), (3, .int v4_3)]) hx hb dX12_isHis_61 hl (k := 2) rfl ex56.symm (by decide) rfl (fun ls hl => ?_)
                have ex56 : x56.toInt = v4_2.toInt + 1 := by rw [ex56]; exact wk_add (y := 1) (show -2147483648 ≤ v4_2.toInt + 1 by omega) (show v4_2.toInt + 1 ≤ 2147483647 by omega)
                exact J64 x56 x30 H locs ls w40 (show 0 ≤ a1.toInt by omega) (show a1.toInt ≤ 3 by omega) (show 0 ≤ x56.toInt by omega) (show x56.toInt ≤ 8 by omega) (show 0 ≤ v4_3.toInt by omega) (show v4_3.toInt ≤ 99 by omega) (show 1 ≤ x30.toInt by omega) (show x30.toInt ≤ 8 by omega)  hw hT hF hRW c43 (lv_sub hl [1, 2, 0, 3] rfl)
              · have c55 : ¬ r44.toInt = x53.toInt := wk_eqF c55
                refine lv_iconst (v := 0) hx hb dX12_isHis_59 (by decide) ?_
                exact tk_zret hC hr rfl hlocks hK ⟨(hT.up (show (B + 9 + 9 * v4_3.toInt) ≤ (B + 900) by omega)), hF, (Or.inl rfl)⟩ hw dX12_isHis_60
          · refine lv_if_ne (tgt := 70) hx hb dX12_isHis_26 (by decide) (fun _ => ?_) (fun c => absurd c (by decide))
            exact J70 v4_2 v4_3 H locs ls w11 (show 0 ≤ a1.toInt by omega) (show a1.toInt ≤ 3 by omega) (show 0 ≤ v4_2.toInt by omega) (show v4_2.toInt ≤ 8 by omega) (show 0 ≤ v4_3.toInt by omega) (show v4_3.toInt ≤ 100 by omega)  hw (hT.up (show (B + 0 + 9 * v4_3.toInt) ≤ (B + 900) by omega)) hF hRW  (lv_sub hl [0, 1, 2, 3] rfl)
  refine lv_iconst (v := 0) hx hb dX12_isHis_0 (by decide) ?_
  refine lv_istore_n (lv' := [(2, .int 0), (0, .ref (ad 0)), (1, .int a1)]) hx hb dX12_isHis_1 rfl hl (by decide) rfl (fun ls hl => ?_)
  refine lv_iconst (v := 0) hx hb dX12_isHis_2 (by decide) ?_
  refine lv_istore_n (lv' := [(3, .int 0), (2, .int 0), (0, .ref (ad 0)), (1, .int a1)]) hx hb dX12_isHis_3 rfl hl (by decide) rfl (fun ls hl => ?_)
  exact L4 ((100 - (0 : Int)).toNat + 1) 0 0 s.heap locs ls w0 (show 0 ≤ a1.toInt by omega) (show a1.toInt ≤ 3 by omega) (by decide) (by decide) (by decide) (by decide) (Nat.lt_succ_self _) hw (hT.up (show B ≤ (B + 0 + 9 * (0 : Int32).toInt) by rw [show (0 : Int32).toInt = 0 by decide]; omega)) hF hRW  (lv_sub hl [2, 3, 1, 0] rfl)
abbrev P_X12_had_1 (ad : Nat → Nat) (cy : Nat → ClassId) (B : Int) (qr : Nat) (s1 : Int) (a1 : Int32) (w0 : va_W) : Int32 → va_W → Prop := fun r u => TW ksM ad cy (B + 3600) qr 12 u ∧ FE ksM [(12, 24, 24), (12, 31, 31), (69, 0, 64), (70, 0, 10), (71, 0, 295), (71, 216, 243), (71, 218, 245), (71, 220, 247), (71, 221, 248), (71, 222, 249), (71, 223, 250), (71, 224, 251), (72, 0, 12), (73, 0, 10), (74, 0, 296)] w0 u ∧ ((0 ≤ r.toInt ∧ r.toInt ≤ 15 ∧ 0 ≤ a1.toInt ∧ a1.toInt ≤ 3) ∨ (r = (-1)))
set_option maxHeartbeats 4000000 in
set_option maxRecDepth 100000 in
theorem k_X12_had_1 (l : Launch) (adK adV : Nat → Nat) (dC : Nat → ClassId) (dI : Nat → Nat → Nat) (cy : Nat → ClassId) (ad : Nat → Nat) (B : Int) (hB0 : 100000 ≤ B) (hB1 : B ≤ 1073738224) (qr : Nat) (s1 : Int)  (a1 : Int32) (w0 : va_W) (sz : Nat) (hT : TW ksM ad cy B qr 12 w0) (hRW : RW w0) : Met l yX12_had wsX12_had ({ frames := 10, cells := 0, slots := 0, locals := 217 }) (va_Pc [.ref (ad 0), .int a1] (wpreS adK adV dC dI cy sz w0)) (va_Qi (P_X12_had_1 ad cy B qr s1 a1 w0) (fun u : va_W => wpost dC dI cy (va_A w0 sz) u) (va_A w0 sz)) 0 0 (va_A w0 sz) := by
  refine Met.ofW (cc := cX12_had) (maxL := 4) (ret := (some .int)) (by decide) rfl ?_
  intro p e s m args below meth c s₁ Bk hml hv
  obtain ⟨rfl, ⟨hsz, hP, hK, hD0⟩, hE, hSR⟩ := hv
  have hx := Bk.exec
  have hb := Bk.bytes
  have hr := Bk.returns
  have hlocks := Bk.notSynchronized
  have hC : CallFix p m c cX12_had 4 s _ wsX12_had RX12 := ⟨hx, hb, hml, findClass_of_methodNamed Bk.named, atoms_spec (ws := wsX12_had) Bk.pre⟩
  subst hsz
  have hD := hD0.self (sz := s.heap.size)
  generalize hAe : va_A w0 s.heap.size = A at hD hE ⊢
  have hA : ∀ q : Nat, s.heap.size ≤ q → A q := fun q h => by rw [← hAe]; exact Or.inr h
  have hw : Wd dC dI A s.heap s.heap [] w0 := ⟨hP, hD, va_S.rf⟩
  have hF : FE ksM [(12, 24, 24), (12, 31, 31), (69, 0, 64), (70, 0, 10), (71, 0, 295), (71, 216, 243), (71, 218, 245), (71, 220, 247), (71, 221, 248), (71, 222, 249), (71, 223, 250), (71, 224, 251), (72, 0, 12), (73, 0, 10), (74, 0, 296)] w0 w0 := FE.rf
  have hl := lv_entry ([.ref (ad 0), .int a1]) (n := 4) (Nat.le_of_ble_eq_true rfl)
  rw [lg_entry_eq]
  generalize (lg_sl ([.ref (ad 0), .int a1]) ++ List.replicate (4 - (lg_sl ([.ref (ad 0), .int a1])).length) Slot.unset).toArray = ls at hl ⊢
  have hl : lv_has ls 4 [(0, .ref (ad 0)), (1, .int a1)] := hl
  generalize hloc : ([] : List Loc) = locs at hw ⊢
  have hinX12 : ∀ w ∈ u_ws RX12 TX12 42, w ∈ wsX12_had := fun _ h => List.mem_cons_of_mem _ (List.mem_append_right _ (h))
  have L18 : ∀ (n18 : Nat) (v18_2 : Int32) (v18_3 : Int32) (H : Heap) (locs : List Loc) (ls : Array Slot) (w1 : va_W), 0 ≤ a1.toInt → a1.toInt ≤ 3 → 0 ≤ v18_2.toInt → v18_2.toInt ≤ 15 → 0 ≤ v18_3.toInt → v18_3.toInt ≤ 4 → (4 - v18_3.toInt).toNat < n18 → Wd dC dI A s.heap H locs w1 → TW ksM ad cy (B + 0 + 900 * v18_3.toInt) qr 12 w1 → FE ksM [(12, 24, 24), (12, 31, 31), (69, 0, 64), (70, 0, 10), (71, 0, 295), (71, 216, 243), (71, 218, 245), (71, 220, 247), (71, 221, 248), (71, 222, 249), (71, 223, 250), (71, 224, 251), (72, 0, 12), (73, 0, 10), (74, 0, 296)] w0 w1 → RW w1 → lv_has ls 4 [(0, .ref (ad 0)), (1, .int a1), (2, .int v18_2), (3, .int v18_3)] → W p l e ({ frames := 10, cells := 0, slots := 0, locals := 217 }) s m (List.toArray [.ref (ad 0), .int a1]) below meth c H locs 0 0 (MQ below (va_Qi (P_X12_had_1 ad cy B qr s1 a1 w0) (fun u : va_W => wpost dC dI cy A u) A) (List.toArray [.ref (ad 0), .int a1]) s 0 0 A) (F0 m 18 ls []) := by
    intro n18
    induction n18 with
    | zero => intro v18_2 v18_3 H locs ls w1 r2 t3 r4 t5 r6 t7 hm18 hw hT hF hRW hl; omega
    | succ n18 ih18 =>
      intro v18_2 v18_3 H locs ls w1 r2 t3 r4 t5 r6 t7 hm18 hw hT hF hRW hl
      refine lv_iload_n hx hb dX12_had_18 rfl (lv_at hl 3 rfl) ?_
      refine lv_aload_n hx hb dX12_had_19 rfl (lv_at hl 0 rfl) ?_
      refine tk_getA hC hK hw hT hinX12 kM_at0 (by decide) rfl 32 (by decide) (List.mem_of_getElem? (i := 1) rfl) rfl rfl dX12_had_20 ?_
      refine lv_iconst (v := 4) hx hb dX12_had_23 (by decide) ?_
      refine tk_ialdR hC hK hw hT kM_at15 rfl (by decide) (by decide) dX12_had_24 (fun x8 c9 Ex8 => ?_)
      have bx8 := tk_rgI rfl 4 1 1 0 4 (by decide +kernel) ⟨0, by decide, by decide⟩ Ex8
      have c9 : gi w1 15 4 = x8 := c9
      refine lv_icmp_ge (tgt := 72) hx hb dX12_had_25 (by decide) (fun c10 => ?_) (fun c10 => ?_)
      · have c10 : x8.toInt ≤ v18_3.toInt := wk_le.mp c10
        refine lv_iload_n hx hb dX12_had_72 rfl (lv_at hl 2 rfl) ?_
        exact tk_iret hC hr hlocks hK ⟨(hT.up (show (B + 0 + 900 * v18_3.toInt) ≤ (B + 3600) by omega)), hF, (Or.inl ⟨(show 0 ≤ v18_2.toInt by omega), (show v18_2.toInt ≤ 15 by omega), (show 0 ≤ a1.toInt by omega), (show a1.toInt ≤ 3 by omega)⟩)⟩ hw dX12_had_73
      · have c10 : v18_3.toInt < x8.toInt := wk_leF c10
        refine lv_aload_n hx hb dX12_had_28 rfl (lv_at hl 0 rfl) ?_
        refine tk_getA hC hK hw hT hinX12 kM_at0 (by decide) rfl 26 (by decide) (List.mem_of_getElem? (i := 2) rfl) rfl rfl dX12_had_29 ?_
        refine lv_sipush (v := 216) hx hb dX12_had_32 (by decide) ?_
        refine lv_bipush (v := 9) hx hb dX12_had_35 (by decide) ?_
        refine lv_iload_n hx hb dX12_had_37 rfl (lv_at hl 1 rfl) ?_
        refine lv_imul hx hb dX12_had_38 ?_
        refine lv_topi (fun x11 ex11 => ?_)
        have ex11 : x11.toInt = (9 : Int) * a1.toInt := by rw [ex11]; exact wk_mul (show (-2147483648) ≤ (9 : Int) * a1.toInt by omega) (show (9 : Int) * a1.toInt ≤ 2147483647 by omega)
        refine lv_iadd hx hb dX12_had_39 ?_
        refine lv_topi (fun x12 ex12 => ?_)
        have ex12 : x12.toInt = (216 : Int) + x11.toInt := by rw [ex12]; exact wk_add (show (-2147483648) ≤ (216 : Int) + x11.toInt by omega) (show (216 : Int) + x11.toInt ≤ 2147483647 by omega)
        refine lv_iconst (v := 2) hx hb dX12_had_40 (by decide) ?_
        refine lv_iadd hx hb dX12_had_41 ?_
        refine lv_topi (fun x13 ex13 => ?_)
        have ex13 : x13.toInt = x12.toInt + (2 : Int) := by rw [ex13]; exact wk_add (show (-2147483648) ≤ x12.toInt + (2 : Int) by omega) (show x12.toInt + (2 : Int) ≤ 2147483647 by omega)
        refine lv_iload_n hx hb dX12_had_42 rfl (lv_at hl 3 rfl) ?_
        refine tk_iastR hC hK hw hT kM_at12 (by decide) rfl (show 0 ≤ x13.toInt by omega) (show x13.toInt < 296 by omega) (tk_rgS rfl 218 9 4 0 3 (by decide +kernel) ⟨(a1.toInt - 0).toNat, by omega, show x13.toInt.toNat = 218 + 9 * (a1.toInt - 0).toNat by omega⟩ (show 0 ≤ v18_3.toInt by omega) (show v18_3.toInt ≤ 3 by omega)) dX12_had_43 (fun H locs w14 hw hT k16 c15 => ?_)
        have hRW := RW_F1 k16 (by decide) (by decide) (by decide) hRW
        have hF := hF.put kM_at12 (inE_of (a := 218) (b := 245) (by decide) (show 218 ≤ x13.toInt.toNat by omega) (show x13.toInt.toNat ≤ 245 by omega)) k16
        have c17 := k16.gi (Or.inl (tk_ne kM_at15 kM_at12 (by decide))) c9
        refine lv_iload_n hx hb dX12_had_44 rfl (lv_at hl 2 rfl) ?_
        refine lv_aload_n hx hb dX12_had_45 rfl (lv_at hl 0 rfl) ?_
        refine lv_iload_n hx hb dX12_had_46 rfl (lv_at hl 1 rfl) ?_
        refine tk_Vi hC hK hw hT hA hE hSR kM_at0 (by decide) rfl (k_X12_isHis_1 l adK adV dC dI cy ad (B + 0 + 900 * v18_3.toInt) (by omega) (by omega) qr s1   a1 (show 0 ≤ a1.toInt by omega) (show a1.toInt ≤ 3 by omega) w14 H.size hT hRW) (cwV 1 hC.2.2.2.2 gX12_had_X12_isHis rfl rfl rfl (by decide +kernel) ⟨Nat.le_of_ble_eq_true rfl, Nat.le_of_ble_eq_true rfl⟩) rfl hl.1 rfl (Nat.le_of_ble_eq_true rfl) dX12_had_47 (fun r18 w20 H locs hp19 hw => ?_)
        obtain ⟨hT, k21, hg22⟩ := hp19
        have hT := hT.up (B' := (B + 900 + 900 * v18_3.toInt)) (by omega)
        have hRW := RW_FE k21 (fun _ => rfl) (fun _ => rfl) (fun _ => rfl) hRW
        have hF := hF.tr k21 (by decide)
        have c23 := k21.gi kM_at15 (by decide) c17
        rcases hg22 with rfl | rfl
        · refine lv_if_eq (tgt := 59) hx hb dX12_had_50 (by decide) (fun _ => ?_) (fun c => absurd (by decide) c)
          refine lv_iconst (v := 0) hx hb dX12_had_59 (by decide) ?_
          refine lv_ior hx hb dX12_had_60 ?_
          refine lv_topi (fun x24 ex24 => ?_)
          have bx24 : 0 ≤ x24.toInt ∧ x24.toInt < 16 := by rw [ex24]; exact wk_or 4 (by decide) (by omega) (by omega) (by decide) (by decide)
          have mx24 : v18_2.toInt ≤ x24.toInt ∧ (0 : Int) ≤ x24.toInt := by rw [ex24]; exact wk_orL 4 (by decide) (by omega) (by omega) (by decide) (by decide)
          refine lv_istore_n (lv' := [(2, .int x24), (0, .ref (ad 0)), (1, .int a1), (3, .int v18_3)]) hx hb dX12_had_61 rfl hl (by decide) rfl (fun ls hl => ?_)
          refine lv_aload_n hx hb dX12_had_62 rfl (lv_at hl 1 rfl) ?_
          refine tk_Vv hC hK hw hT hA hE hSR kM_at0 (by decide) rfl (k_X12_putsBack_1 l adK adV dC dI cy ad (B + 900 + 900 * v18_3.toInt) (by omega) (by omega) qr s1    w20 H.size hT ) (cwV 0 hC.2.2.2.2 gX12_had_X12_putsBack rfl rfl rfl (by decide +kernel) ⟨Nat.le_of_ble_eq_true rfl, Nat.le_of_ble_eq_true rfl⟩) rfl hl.1 rfl (Nat.le_of_ble_eq_true rfl) dX12_had_63 (fun w27 H locs hp26 hw => ?_)
          obtain ⟨hT, k28, hg32⟩ := hp26
          have hRW := RW_FE k28 (fun _ => rfl) (fun _ => rfl) (fun _ => rfl) hRW
          have hF := hF.tr k28 (by decide)
          have c33 := k28.gi kM_at15 (by decide) c23
          obtain ⟨c29, c30, c31⟩ := hg32
          obtain ⟨x34, ex34⟩ : ∃ y : Int32, y = v18_3 + Int32.ofInt 1 := ⟨_, rfl⟩
          refine lv_iinc (v := x34) (lv' := [(3, .int x34), (2, .int x24), (0, .ref (ad 0)), (1, .int a1)]) hx hb dX12_had_66 hl (k := 3) rfl ex34.symm (by decide) rfl (fun ls hl => ?_)
          have ex34 : x34.toInt = v18_3.toInt + 1 := by rw [ex34]; exact wk_add (y := 1) (show -2147483648 ≤ v18_3.toInt + 1 by omega) (show v18_3.toInt + 1 ≤ 2147483647 by omega)
          refine lv_goto (tgt := 18) hx hb dX12_had_69 (by decide) ?_
          exact ih18 x24 x34 H locs ls w27 (show 0 ≤ a1.toInt by omega) (show a1.toInt ≤ 3 by omega) (show 0 ≤ x24.toInt by omega) (show x24.toInt ≤ 15 by omega) (show 0 ≤ x34.toInt by omega) (show x34.toInt ≤ 4 by omega) (show (4 - x34.toInt).toNat < n18 by omega) hw (hT.up (show (B + 900 + 900 * v18_3.toInt) ≤ (B + 0 + 900 * x34.toInt) by omega)) hF hRW  (lv_sub hl [2, 3, 1, 0] rfl)
        · refine lv_if_eq (tgt := 59) hx hb dX12_had_50 (by decide) (fun c => absurd c (by decide)) (fun _ => ?_)
          refine lv_iconst (v := 1) hx hb dX12_had_53 (by decide) ?_
          refine lv_iload_n hx hb dX12_had_54 rfl (lv_at hl 3 rfl) ?_
          refine lv_ishl hx hb dX12_had_55 ?_
          refine lv_topi (fun x35 ex35 => ?_)
          have bx35 : 1 ≤ x35.toInt ∧ x35.toInt ≤ 8 := by rw [ex35]; exact wk_shl1 3 (by decide) (by omega) (by omega)
          refine lv_goto (tgt := 60) hx hb dX12_had_56 (by decide) ?_
          refine lv_ior hx hb dX12_had_60 ?_
          refine lv_topi (fun x36 ex36 => ?_)
          have bx36 : 0 ≤ x36.toInt ∧ x36.toInt < 16 := by rw [ex36]; exact wk_or 4 (by decide) (by omega) (by omega) (by omega) (by omega)
          have mx36 : v18_2.toInt ≤ x36.toInt ∧ x35.toInt ≤ x36.toInt := by rw [ex36]; exact wk_orL 4 (by decide) (by omega) (by omega) (by omega) (by omega)
          refine lv_istore_n (lv' := [(2, .int x36), (0, .ref (ad 0)), (1, .int a1), (3, .int v18_3)]) hx hb dX12_had_61 rfl hl (by decide) rfl (fun ls hl => ?_)
          refine lv_aload_n hx hb dX12_had_62 rfl (lv_at hl 1 rfl) ?_
          refine tk_Vv hC hK hw hT hA hE hSR kM_at0 (by decide) rfl (k_X12_putsBack_1 l adK adV dC dI cy ad (B + 900 + 900 * v18_3.toInt) (by omega) (by omega) qr s1    w20 H.size hT ) (cwV 0 hC.2.2.2.2 gX12_had_X12_putsBack rfl rfl rfl (by decide +kernel) ⟨Nat.le_of_ble_eq_true rfl, Nat.le_of_ble_eq_true rfl⟩) rfl hl.1 rfl (Nat.le_of_ble_eq_true rfl) dX12_had_63 (fun w39 H locs hp38 hw => ?_)
          obtain ⟨hT, k40, hg44⟩ := hp38
          have hRW := RW_FE k40 (fun _ => rfl) (fun _ => rfl) (fun _ => rfl) hRW
          have hF := hF.tr k40 (by decide)
          have c45 := k40.gi kM_at15 (by decide) c23
          obtain ⟨c41, c42, c43⟩ := hg44
          obtain ⟨x46, ex46⟩ : ∃ y : Int32, y = v18_3 + Int32.ofInt 1 := ⟨_, rfl⟩
          refine lv_iinc (v := x46) (lv' := [(3, .int x46), (2, .int x36), (0, .ref (ad 0)), (1, .int a1)]) hx hb dX12_had_66 hl (k := 3) rfl ex46.symm (by decide) rfl (fun ls hl => ?_)
          have ex46 : x46.toInt = v18_3.toInt + 1 := by rw [ex46]; exact wk_add (y := 1) (show -2147483648 ≤ v18_3.toInt + 1 by omega) (show v18_3.toInt + 1 ≤ 2147483647 by omega)
          refine lv_goto (tgt := 18) hx hb dX12_had_69 (by decide) ?_
          exact ih18 x36 x46 H locs ls w39 (show 0 ≤ a1.toInt by omega) (show a1.toInt ≤ 3 by omega) (show 0 ≤ x36.toInt by omega) (show x36.toInt ≤ 15 by omega) (show 0 ≤ x46.toInt by omega) (show x46.toInt ≤ 4 by omega) (show (4 - x46.toInt).toNat < n18 by omega) hw (hT.up (show (B + 900 + 900 * v18_3.toInt) ≤ (B + 0 + 900 * x46.toInt) by omega)) hF hRW  (lv_sub hl [2, 3, 1, 0] rfl)
  refine lv_aload_n hx hb dX12_had_0 rfl (lv_at hl 0 rfl) ?_
  refine lv_iload_n hx hb dX12_had_1 rfl (lv_at hl 1 rfl) ?_
  refine tk_Vi hC hK hw hT hA hE hSR kM_at0 (by decide) rfl (k_X12_isWalker_1 l adK adV dC dI cy ad B (by omega) (by omega) qr s1   a1 w0 s.heap.size hT ) (cwV 1 hC.2.2.2.2 gX12_had_X12_isWalker rfl rfl rfl (by decide +kernel) ⟨Nat.le_of_ble_eq_true rfl, Nat.le_of_ble_eq_true rfl⟩) rfl hl.1 rfl (Nat.le_of_ble_eq_true rfl) dX12_had_2 (fun r47 w49 H locs hp48 hw => ?_)
  obtain ⟨rfl, hg55⟩ := hp48
  rcases hg55 with rfl | ⟨rfl, g51, g52, ⟨x53, c54, rx53, tx53⟩⟩
  · refine lv_if_ne (tgt := 10) hx hb dX12_had_5 (by decide) (fun c => absurd (by decide) c) (fun _ => ?_)
    refine lv_iconst (v := (-1)) hx hb dX12_had_8 (by decide) ?_
    exact tk_iret hC hr hlocks hK ⟨(hT.up (show B ≤ (B + 3600) by omega)), hF, (Or.inr rfl)⟩ hw dX12_had_9
  · refine lv_if_ne (tgt := 10) hx hb dX12_had_5 (by decide) (fun _ => ?_) (fun c => absurd c (by decide))
    refine lv_iconst (v := 0) hx hb dX12_had_10 (by decide) ?_
    refine lv_istore_n (lv' := [(2, .int 0), (0, .ref (ad 0)), (1, .int a1)]) hx hb dX12_had_11 rfl hl (by decide) rfl (fun ls hl => ?_)
    refine lv_aload_n hx hb dX12_had_12 rfl (lv_at hl 1 rfl) ?_
    refine tk_Vv hC hK hw hT hA hE hSR kM_at0 (by decide) rfl (k_X12_keeps_1 l adK adV dC dI cy ad B (by omega) (by omega) qr s1    w0 H.size hT ) (cwV 0 hC.2.2.2.2 gX12_had_X12_keeps rfl rfl rfl (by decide +kernel) ⟨Nat.le_of_ble_eq_true rfl, Nat.le_of_ble_eq_true rfl⟩) rfl hl.1 rfl (Nat.le_of_ble_eq_true rfl) dX12_had_13 (fun w58 H locs hp57 hw => ?_)
    obtain ⟨hT, k59, hg63⟩ := hp57
    have hRW := RW_FE k59 (fun _ => rfl) (fun _ => rfl) (fun _ => rfl) hRW
    have hF := hF.tr k59 (by decide)
    have c64 := k59.gi kM_at12 (by decide) c54
    obtain ⟨c60, c61, c62⟩ := hg63
    refine lv_iconst (v := 0) hx hb dX12_had_16 (by decide) ?_
    refine lv_istore_n (lv' := [(3, .int 0), (2, .int 0), (0, .ref (ad 0)), (1, .int a1)]) hx hb dX12_had_17 rfl hl (by decide) rfl (fun ls hl => ?_)
    exact L18 ((4 - (0 : Int)).toNat + 1) 0 0 H locs ls w58 (show 0 ≤ a1.toInt by omega) (show a1.toInt ≤ 3 by omega) (by decide) (by decide) (by decide) (by decide) (Nat.lt_succ_self _) hw (hT.up (show B ≤ (B + 0 + 900 * (0 : Int32).toInt) by rw [show (0 : Int32).toInt = 0 by decide]; omega)) hF hRW  (lv_sub hl [2, 3, 1, 0] rfl)
abbrev P_X12_isOf_9 (ad : Nat → Nat) (cy : Nat → ClassId) (B : Int) (qr : Nat) (s1 : Int) (a0 : Int32) (w0 : va_W) : Int32 → va_W → Prop := fun r u => w0 = u ∧ ((r = 0 ∧ (¬ mOf a0 (0 : Int32))) ∨ (r = 1 ∧ (mOf a0 (0 : Int32))))
set_option maxHeartbeats 4000000 in
set_option maxRecDepth 100000 in
theorem k_X12_isOf_9 (l : Launch) (adK adV : Nat → Nat) (dC : Nat → ClassId) (dI : Nat → Nat → Nat) (cy : Nat → ClassId) (ad : Nat → Nat) (B : Int) (hB0 : 100000 ≤ B) (hB1 : B ≤ 1073741824) (qr : Nat) (s1 : Int)  (a0 : Int32) (ra0 : 0 ≤ a0.toInt) (ta0 : a0.toInt ≤ 9) (w0 : va_W) (sz : Nat) (hT : TW ksM ad cy B qr 13 w0)  : Met l yX12_isOf wsX12_isOf ({ frames := 1, cells := 0, slots := 0, locals := 12 }) (va_Pc [.int a0, .int 0] (wpreS adK adV dC dI cy sz w0)) (va_Qi (P_X12_isOf_9 ad cy B qr s1 a0 w0) (fun u : va_W => wpost dC dI cy (va_A w0 sz) u) (va_A w0 sz)) 0 0 (va_A w0 sz) := by
  refine Met.ofW (cc := cX12_isOf) (maxL := 2) (ret := (some .boolean)) (by decide) rfl ?_
  intro p e s m args below meth c s₁ Bk hml hv
  obtain ⟨rfl, ⟨hsz, hP, hK, hD0⟩, hE, hSR⟩ := hv
  have hx := Bk.exec
  have hb := Bk.bytes
  have hr := Bk.returns
  have hlocks := Bk.notSynchronized
  have hC : CallFix p m c cX12_isOf 2 s _ wsX12_isOf RX12 := ⟨hx, hb, hml, findClass_of_methodNamed Bk.named, atoms_spec (ws := wsX12_isOf) Bk.pre⟩
  subst hsz
  have hD := hD0.self (sz := s.heap.size)
  generalize hAe : va_A w0 s.heap.size = A at hD hE ⊢
  have hA : ∀ q : Nat, s.heap.size ≤ q → A q := fun q h => by rw [← hAe]; exact Or.inr h
  have hw : Wd dC dI A s.heap s.heap [] w0 := ⟨hP, hD, va_S.rf⟩
  have hF : FE ksM ([] : List (Nat × Nat × Nat)) w0 w0 := FE.rf
  have hl := lv_entry ([.int a0, .int 0]) (n := 2) (Nat.le_of_ble_eq_true rfl)
  rw [lg_entry_eq]
  generalize (lg_sl ([.int a0, .int 0]) ++ List.replicate (2 - (lg_sl ([.int a0, .int 0])).length) Slot.unset).toArray = ls at hl ⊢
  have hl : lv_has ls 2 [(0, .int a0), (1, .int 0)] := hl
  generalize hloc : ([] : List Loc) = locs at hw ⊢
  refine lv_iload_n hx hb dX12_isOf_0 rfl (lv_at hl 0 rfl) ?_
  refine lv_iload_n hx hb dX12_isOf_1 rfl (lv_at hl 1 rfl) ?_
  refine lv_ishr hx hb dX12_isOf_2 ?_
  refine lv_topi (fun x1 ex1 => ?_)
  have bx1 : 0 ≤ x1.toInt ∧ x1.toInt ≤ a0.toInt := by rw [ex1]; exact wk_shr (by omega)
  refine lv_iconst (v := 1) hx hb dX12_isOf_3 (by decide) ?_
  refine lv_iand hx hb dX12_isOf_4 ?_
  refine lv_topi (fun x2 ex2 => ?_)
  have bx2 : 0 ≤ x2.toInt ∧ x2.toInt ≤ (1 : Int) := by rw [ex2]; exact wk_and (by decide)
  refine lv_iconst (v := 1) hx hb dX12_isOf_5 (by decide) ?_
  refine lv_icmp_ne (tgt := 13) hx hb dX12_isOf_6 (by decide) (fun c3 => ?_) (fun c3 => ?_)
  · have c3 : ¬ x2.toInt = (1 : Int) := wk_eqF c3
    refine lv_iconst (v := 0) hx hb dX12_isOf_13 (by decide) ?_
    exact tk_zret hC hr rfl hlocks hK ⟨rfl, (Or.inl ⟨rfl, (by unfold mOf; rw [← ex1, ← ex2]; omega)⟩)⟩ hw dX12_isOf_14
  · have c3 : x2.toInt = (1 : Int) := wk_eq.mp c3
    refine lv_iconst (v := 1) hx hb dX12_isOf_9 (by decide) ?_
    refine lv_goto (tgt := 14) hx hb dX12_isOf_10 (by decide) ?_
    exact tk_zret hC hr rfl hlocks hK ⟨rfl, (Or.inr ⟨rfl, (by unfold mOf; rw [← ex1, ← ex2]; omega)⟩)⟩ hw dX12_isOf_14
abbrev P_X12_isOf_10 (ad : Nat → Nat) (cy : Nat → ClassId) (B : Int) (qr : Nat) (s1 : Int) (a0 : Int32) (w0 : va_W) : Int32 → va_W → Prop := fun r u => w0 = u ∧ ((r = 0 ∧ (¬ mOf a0 (1 : Int32))) ∨ (r = 1 ∧ (mOf a0 (1 : Int32))))
set_option maxHeartbeats 4000000 in
set_option maxRecDepth 100000 in
theorem k_X12_isOf_10 (l : Launch) (adK adV : Nat → Nat) (dC : Nat → ClassId) (dI : Nat → Nat → Nat) (cy : Nat → ClassId) (ad : Nat → Nat) (B : Int) (hB0 : 100000 ≤ B) (hB1 : B ≤ 1073741824) (qr : Nat) (s1 : Int)  (a0 : Int32) (ra0 : 0 ≤ a0.toInt) (ta0 : a0.toInt ≤ 9) (w0 : va_W) (sz : Nat) (hT : TW ksM ad cy B qr 13 w0)  : Met l yX12_isOf wsX12_isOf ({ frames := 1, cells := 0, slots := 0, locals := 12 }) (va_Pc [.int a0, .int 1] (wpreS adK adV dC dI cy sz w0)) (va_Qi (P_X12_isOf_10 ad cy B qr s1 a0 w0) (fun u : va_W => wpost dC dI cy (va_A w0 sz) u) (va_A w0 sz)) 0 0 (va_A w0 sz) := by
  refine Met.ofW (cc := cX12_isOf) (maxL := 2) (ret := (some .boolean)) (by decide) rfl ?_
  intro p e s m args below meth c s₁ Bk hml hv
  obtain ⟨rfl, ⟨hsz, hP, hK, hD0⟩, hE, hSR⟩ := hv
  have hx := Bk.exec
  have hb := Bk.bytes
  have hr := Bk.returns
  have hlocks := Bk.notSynchronized
  have hC : CallFix p m c cX12_isOf 2 s _ wsX12_isOf RX12 := ⟨hx, hb, hml, findClass_of_methodNamed Bk.named, atoms_spec (ws := wsX12_isOf) Bk.pre⟩
  subst hsz
  have hD := hD0.self (sz := s.heap.size)
  generalize hAe : va_A w0 s.heap.size = A at hD hE ⊢
  have hA : ∀ q : Nat, s.heap.size ≤ q → A q := fun q h => by rw [← hAe]; exact Or.inr h
  have hw : Wd dC dI A s.heap s.heap [] w0 := ⟨hP, hD, va_S.rf⟩
  have hF : FE ksM ([] : List (Nat × Nat × Nat)) w0 w0 := FE.rf
  have hl := lv_entry ([.int a0, .int 1]) (n := 2) (Nat.le_of_ble_eq_true rfl)
  rw [lg_entry_eq]
  generalize (lg_sl ([.int a0, .int 1]) ++ List.replicate (2 - (lg_sl ([.int a0, .int 1])).length) Slot.unset).toArray = ls at hl ⊢
  have hl : lv_has ls 2 [(0, .int a0), (1, .int 1)] := hl
  generalize hloc : ([] : List Loc) = locs at hw ⊢
  refine lv_iload_n hx hb dX12_isOf_0 rfl (lv_at hl 0 rfl) ?_
  refine lv_iload_n hx hb dX12_isOf_1 rfl (lv_at hl 1 rfl) ?_
  refine lv_ishr hx hb dX12_isOf_2 ?_
  refine lv_topi (fun x1 ex1 => ?_)
  have bx1 : 0 ≤ x1.toInt ∧ x1.toInt ≤ a0.toInt := by rw [ex1]; exact wk_shr (by omega)
  refine lv_iconst (v := 1) hx hb dX12_isOf_3 (by decide) ?_
  refine lv_iand hx hb dX12_isOf_4 ?_
  refine lv_topi (fun x2 ex2 => ?_)
  have bx2 : 0 ≤ x2.toInt ∧ x2.toInt ≤ (1 : Int) := by rw [ex2]; exact wk_and (by decide)
  refine lv_iconst (v := 1) hx hb dX12_isOf_5 (by decide) ?_
  refine lv_icmp_ne (tgt := 13) hx hb dX12_isOf_6 (by decide) (fun c3 => ?_) (fun c3 => ?_)
  · have c3 : ¬ x2.toInt = (1 : Int) := wk_eqF c3
    refine lv_iconst (v := 0) hx hb dX12_isOf_13 (by decide) ?_
    exact tk_zret hC hr rfl hlocks hK ⟨rfl, (Or.inl ⟨rfl, (by unfold mOf; rw [← ex1, ← ex2]; omega)⟩)⟩ hw dX12_isOf_14
  · have c3 : x2.toInt = (1 : Int) := wk_eq.mp c3
    refine lv_iconst (v := 1) hx hb dX12_isOf_9 (by decide) ?_
    refine lv_goto (tgt := 14) hx hb dX12_isOf_10 (by decide) ?_
    exact tk_zret hC hr rfl hlocks hK ⟨rfl, (Or.inr ⟨rfl, (by unfold mOf; rw [← ex1, ← ex2]; omega)⟩)⟩ hw dX12_isOf_14
abbrev P_X12_streetOf_11 (ad : Nat → Nat) (cy : Nat → ClassId) (B : Int) (qr : Nat) (s1 : Int) (a1 : Int32) (w0 : va_W) : Int32 → va_W → Prop := fun r u => w0 = u ∧ ((0 ≤ r.toInt ∧ r.toInt ≤ 9 ∧ gi u 12 (10 * a1.toInt + 10).toNat = r))
set_option maxHeartbeats 4000000 in
set_option maxRecDepth 100000 in
theorem k_X12_streetOf_11 (l : Launch) (adK adV : Nat → Nat) (dC : Nat → ClassId) (dI : Nat → Nat → Nat) (cy : Nat → ClassId) (ad : Nat → Nat) (B : Int) (hB0 : 100000 ≤ B) (hB1 : B ≤ 1073741824) (qr : Nat) (s1 : Int)  (a1 : Int32) (ra1 : 0 ≤ a1.toInt) (ta1 : a1.toInt ≤ 12) (w0 : va_W) (sz : Nat) (hT : TW ksM ad cy B qr 13 w0)  : Met l yX12_streetOf wsX12_streetOf ({ frames := 1, cells := 0, slots := 0, locals := 12 }) (va_Pc [.ref (ad 0), .int a1, .int 0] (wpreS adK adV dC dI cy sz w0)) (va_Qi (P_X12_streetOf_11 ad cy B qr s1 a1 w0) (fun u : va_W => wpost dC dI cy (va_A w0 sz) u) (va_A w0 sz)) 0 0 (va_A w0 sz) := by
  refine Met.ofW (cc := cX12_streetOf) (maxL := 3) (ret := (some .int)) (by decide) rfl ?_
  intro p e s m args below meth c s₁ Bk hml hv
  obtain ⟨rfl, ⟨hsz, hP, hK, hD0⟩, hE, hSR⟩ := hv
  have hx := Bk.exec
  have hb := Bk.bytes
  have hr := Bk.returns
  have hlocks := Bk.notSynchronized
  have hC : CallFix p m c cX12_streetOf 3 s _ wsX12_streetOf RX12 := ⟨hx, hb, hml, findClass_of_methodNamed Bk.named, atoms_spec (ws := wsX12_streetOf) Bk.pre⟩
  subst hsz
  have hD := hD0.self (sz := s.heap.size)
  generalize hAe : va_A w0 s.heap.size = A at hD hE ⊢
  have hA : ∀ q : Nat, s.heap.size ≤ q → A q := fun q h => by rw [← hAe]; exact Or.inr h
  have hw : Wd dC dI A s.heap s.heap [] w0 := ⟨hP, hD, va_S.rf⟩
  have hF : FE ksM ([] : List (Nat × Nat × Nat)) w0 w0 := FE.rf
  have hl := lv_entry ([.ref (ad 0), .int a1, .int 0]) (n := 3) (Nat.le_of_ble_eq_true rfl)
  rw [lg_entry_eq]
  generalize (lg_sl ([.ref (ad 0), .int a1, .int 0]) ++ List.replicate (3 - (lg_sl ([.ref (ad 0), .int a1, .int 0])).length) Slot.unset).toArray = ls at hl ⊢
  have hl : lv_has ls 3 [(0, .ref (ad 0)), (1, .int a1), (2, .int 0)] := hl
  generalize hloc : ([] : List Loc) = locs at hw ⊢
  have hinX12 : ∀ w ∈ u_ws RX12 TX12 42, w ∈ wsX12_streetOf := fun _ h => List.mem_cons_of_mem _ (List.mem_append_right _ (h))
  refine lv_aload_n hx hb dX12_streetOf_0 rfl (lv_at hl 0 rfl) ?_
  refine tk_getA hC hK hw hT hinX12 kM_at0 (by decide) rfl 26 (by decide) (List.mem_of_getElem? (i := 1) rfl) rfl rfl dX12_streetOf_1 ?_
  refine lv_bipush (v := 10) hx hb dX12_streetOf_4 (by decide) ?_
  refine lv_bipush (v := 10) hx hb dX12_streetOf_6 (by decide) ?_
  refine lv_iload_n hx hb dX12_streetOf_8 rfl (lv_at hl 1 rfl) ?_
  refine lv_imul hx hb dX12_streetOf_9 ?_
  refine lv_topi (fun x1 ex1 => ?_)
  have ex1 : x1.toInt = (10 : Int) * a1.toInt := by rw [ex1]; exact wk_mul (show (-2147483648) ≤ (10 : Int) * a1.toInt by omega) (show (10 : Int) * a1.toInt ≤ 2147483647 by omega)
  refine lv_iadd hx hb dX12_streetOf_10 ?_
  refine lv_topi (fun x2 ex2 => ?_)
  have ex2 : x2.toInt = (10 : Int) + x1.toInt := by rw [ex2]; exact wk_add (show (-2147483648) ≤ (10 : Int) + x1.toInt by omega) (show (10 : Int) + x1.toInt ≤ 2147483647 by omega)
  refine lv_iload_n hx hb dX12_streetOf_11 rfl (lv_at hl 2 rfl) ?_
  refine lv_iadd hx hb dX12_streetOf_12 ?_
  refine lv_topi (fun x3 ex3 => ?_)
  have ex3 : x3.toInt = x2.toInt + (0 : Int) := by rw [ex3]; exact wk_add (show (-2147483648) ≤ x2.toInt + (0 : Int) by omega) (show x2.toInt + (0 : Int) ≤ 2147483647 by omega)
  refine tk_ialdR hC hK hw hT kM_at12 rfl (show 0 ≤ x3.toInt by omega) (show x3.toInt < 296 by omega) dX12_streetOf_13 (fun x4 c5 Ex4 => ?_)
  have c5 : gi w0 12 (10 * a1.toInt + 10).toNat = x4 := (congrArg (gi w0 12) (congrArg Int.toNat (show 10 * a1.toInt + 10 = x3.toInt by omega))).trans c5
  have bx4 := tk_rgI rfl 10 10 13 0 9 (by decide +kernel) ⟨(a1.toInt - 0).toNat, by omega, show x3.toInt.toNat = 10 + 10 * (a1.toInt - 0).toNat by omega⟩ Ex4
  exact tk_iret hC hr hlocks hK ⟨rfl, ⟨(show 0 ≤ x4.toInt by omega), (show x4.toInt ≤ 9 by omega), c5⟩⟩ hw dX12_streetOf_14
abbrev P_X12_hasSign_3 (ad : Nat → Nat) (cy : Nat → ClassId) (B : Int) (qr : Nat) (s1 : Int) (a1 : Int32) (a2 : Int32) (a3 : Int32) (w0 : va_W) : Int32 → va_W → Prop := fun r u => w0 = u ∧ ((r = 0 ∧ (¬ mSign w0 a1 a2.toInt a3.toInt)) ∨ (r = 0 ∧ gi u 12 (10 * a2.toInt + 10).toNat = a3 ∧ (¬ mSign w0 a1 a2.toInt a3.toInt)) ∨ (r = 1 ∧ (mSign w0 a1 a2.toInt a3.toInt)) ∨ (r = 1 ∧ gi u 12 (10 * a2.toInt + 10).toNat = a3 ∧ (mSign w0 a1 a2.toInt a3.toInt)))
set_option maxHeartbeats 4000000 in
set_option maxRecDepth 100000 in
theorem k_X12_hasSign_3 (l : Launch) (adK adV : Nat → Nat) (dC : Nat → ClassId) (dI : Nat → Nat → Nat) (cy : Nat → ClassId) (ad : Nat → Nat) (B : Int) (hB0 : 100000 ≤ B) (hB1 : B ≤ 1073741824) (qr : Nat) (s1 : Int)  (a1 : Int32) (ra1 : 0 ≤ a1.toInt) (ta1 : a1.toInt ≤ 9) (a2 : Int32) (ra2 : 0 ≤ a2.toInt) (ta2 : a2.toInt ≤ 12) (a3 : Int32) (ra3 : 0 ≤ a3.toInt) (ta3 : a3.toInt ≤ 9) (w0 : va_W) (sz : Nat) (hT : TW ksM ad cy B qr 13 w0)  : Met l yX12_hasSign wsX12_hasSign ({ frames := 2, cells := 0, slots := 0, locals := 34 }) (va_Pc [.ref (ad 0), .int a1, .int a2, .int a3] (wpreS adK adV dC dI cy sz w0)) (va_Qi (P_X12_hasSign_3 ad cy B qr s1 a1 a2 a3 w0) (fun u : va_W => wpost dC dI cy (va_A w0 sz) u) (va_A w0 sz)) 0 0 (va_A w0 sz) := by
  refine Met.ofW (cc := cX12_hasSign) (maxL := 4) (ret := (some .boolean)) (by decide) rfl ?_
  intro p e s m args below meth c s₁ Bk hml hv
  obtain ⟨rfl, ⟨hsz, hP, hK, hD0⟩, hE, hSR⟩ := hv
  have hx := Bk.exec
  have hb := Bk.bytes
  have hr := Bk.returns
  have hlocks := Bk.notSynchronized
  have hC : CallFix p m c cX12_hasSign 4 s _ wsX12_hasSign RX12 := ⟨hx, hb, hml, findClass_of_methodNamed Bk.named, atoms_spec (ws := wsX12_hasSign) Bk.pre⟩
  subst hsz
  have hD := hD0.self (sz := s.heap.size)
  generalize hAe : va_A w0 s.heap.size = A at hD hE ⊢
  have hA : ∀ q : Nat, s.heap.size ≤ q → A q := fun q h => by rw [← hAe]; exact Or.inr h
  have hw : Wd dC dI A s.heap s.heap [] w0 := ⟨hP, hD, va_S.rf⟩
  have hF : FE ksM ([] : List (Nat × Nat × Nat)) w0 w0 := FE.rf
  have hl := lv_entry ([.ref (ad 0), .int a1, .int a2, .int a3]) (n := 4) (Nat.le_of_ble_eq_true rfl)
  rw [lg_entry_eq]
  generalize (lg_sl ([.ref (ad 0), .int a1, .int a2, .int a3]) ++ List.replicate (4 - (lg_sl ([.ref (ad 0), .int a1, .int a2, .int a3])).length) Slot.unset).toArray = ls at hl ⊢
  have hl : lv_has ls 4 [(0, .ref (ad 0)), (1, .int a1), (2, .int a2), (3, .int a3)] := hl
  generalize hloc : ([] : List Loc) = locs at hw ⊢
  refine lv_iload_n hx hb dX12_hasSign_0 rfl (lv_at hl 1 rfl) ?_
  refine lv_aload_n hx hb dX12_hasSign_1 rfl (lv_at hl 0 rfl) ?_
  refine lv_iload_n hx hb dX12_hasSign_2 rfl (lv_at hl 2 rfl) ?_
  refine lv_iconst (v := 0) hx hb dX12_hasSign_3 (by decide) ?_
  refine tk_Vi hC hK hw hT hA hE hSR kM_at0 (by decide) rfl (k_X12_streetOf_11 l adK adV dC dI cy ad B (by omega) (by omega) qr s1   a2 (show 0 ≤ a2.toInt by omega) (show a2.toInt ≤ 12 by omega) w0 s.heap.size hT ) (cwV 2 hC.2.2.2.2 gX12_hasSign_X12_streetOf rfl rfl rfl (by decide +kernel) ⟨Nat.le_of_ble_eq_true rfl, Nat.le_of_ble_eq_true rfl⟩) rfl hl.1 rfl (Nat.le_of_ble_eq_true rfl) dX12_hasSign_4 (fun r1 w3 H locs hp2 hw => ?_)
  obtain ⟨rfl, hg8⟩ := hp2
  obtain ⟨g5, g6, c7⟩ := hg8
  refine lv_iload_n hx hb dX12_hasSign_7 rfl (lv_at hl 3 rfl) ?_
  refine lv_icmp_ne (tgt := 15) hx hb dX12_hasSign_8 (by decide) (fun c9 => ?_) (fun c9 => ?_)
  · have c9 : ¬ r1.toInt = a3.toInt := wk_eqF c9
    refine lv_iconst (v := 1) hx hb dX12_hasSign_15 (by decide) ?_
    refine tk_Si hC hK hw hT hA hE hSR (k_X12_isOf_10 l adK adV dC dI cy ad B (by omega) (by omega) qr s1   a1 (show 0 ≤ a1.toInt by omega) (show a1.toInt ≤ 9 by omega) w0 H.size hT ) (va_cwS 2 hC.2.2.2.2 gX12_hasSign_X12_isOf rfl rfl rfl (by decide +kernel) ⟨Nat.le_of_ble_eq_true rfl, Nat.le_of_ble_eq_true rfl⟩) rfl hl.1 rfl (Nat.le_of_ble_eq_true rfl) dX12_hasSign_16 (fun r10 w12 H locs hp11 hw => ?_)
    obtain ⟨rfl, hg16⟩ := hp11
    rcases hg16 with ⟨rfl, hq14⟩ | ⟨rfl, hq15⟩
    · exact tk_zret hC hr rfl hlocks hK ⟨rfl, (Or.inl ⟨rfl, (by unfold mSign; simp only [c7]; first | exact Or.inl ⟨by omega, by assumption⟩ | exact Or.inr ⟨by omega, by assumption⟩ | (rintro (⟨q1, q2⟩ | ⟨q1, q2⟩) <;> first | omega | contradiction))⟩)⟩ hw dX12_hasSign_19
    · exact tk_zret hC hr rfl hlocks hK ⟨rfl, (Or.inr (Or.inr (Or.inl ⟨rfl, (by unfold mSign; simp only [c7]; first | exact Or.inl ⟨by omega, by assumption⟩ | exact Or.inr ⟨by omega, by assumption⟩ | (rintro (⟨q1, q2⟩ | ⟨q1, q2⟩) <;> first | omega | contradiction))⟩)))⟩ hw dX12_hasSign_19
  · have c9 : r1.toInt = a3.toInt := wk_eq.mp c9
    refine lv_iconst (v := 0) hx hb dX12_hasSign_11 (by decide) ?_
    refine lv_goto (tgt := 16) hx hb dX12_hasSign_12 (by decide) ?_
    refine tk_Si hC hK hw hT hA hE hSR (k_X12_isOf_9 l adK adV dC dI cy ad B (by omega) (by omega) qr s1   a1 (show 0 ≤ a1.toInt by omega) (show a1.toInt ≤ 9 by omega) w0 H.size hT ) (va_cwS 2 hC.2.2.2.2 gX12_hasSign_X12_isOf rfl rfl rfl (by decide +kernel) ⟨Nat.le_of_ble_eq_true rfl, Nat.le_of_ble_eq_true rfl⟩) rfl hl.1 rfl (Nat.le_of_ble_eq_true rfl) dX12_hasSign_16 (fun r17 w19 H locs hp18 hw => ?_)
    obtain ⟨rfl, hg23⟩ := hp18
    rcases hg23 with ⟨rfl, hq21⟩ | ⟨rfl, hq22⟩
    · exact tk_zret hC hr rfl hlocks hK ⟨rfl, (Or.inr (Or.inl ⟨rfl, (c7.trans (wk_eq.mpr (show r1.toInt = a3.toInt by omega))), (by unfold mSign; simp only [c7]; first | exact Or.inl ⟨by omega, by assumption⟩ | exact Or.inr ⟨by omega, by assumption⟩ | (rintro (⟨q1, q2⟩ | ⟨q1, q2⟩) <;> first | omega | contradiction))⟩))⟩ hw dX12_hasSign_19
    · exact tk_zret hC hr rfl hlocks hK ⟨rfl, (Or.inr (Or.inr (Or.inr ⟨rfl, (c7.trans (wk_eq.mpr (show r1.toInt = a3.toInt by omega))), (by unfold mSign; simp only [c7]; first | exact Or.inl ⟨by omega, by assumption⟩ | exact Or.inr ⟨by omega, by assumption⟩ | (rintro (⟨q1, q2⟩ | ⟨q1, q2⟩) <;> first | omega | contradiction))⟩)))⟩ hw dX12_hasSign_19
abbrev P_X12_isClosed_2 (ad : Nat → Nat) (cy : Nat → ClassId) (B : Int) (qr : Nat) (s1 : Int) (a1 : Int32) (a2 : Int32) (w0 : va_W) : Int32 → va_W → Prop := fun r u => w0 = u ∧ ((r = 0 ∧ (¬ mCl w0 a1.toInt a2.toInt)) ∨ (r = 1 ∧ (∃ y : Int32, gi u 0 27 = y ∧ 1 ≤ y.toInt ∧ y.toInt ≤ 1) ∧ (∃ y : Int32, gi u 12 2 = y ∧ 1 ≤ y.toInt ∧ y.toInt ≤ 8) ∧ (mCl w0 a1.toInt a2.toInt)))
set_option maxHeartbeats 4000000 in
set_option maxRecDepth 100000 in
theorem k_X12_isClosed_2 (l : Launch) (adK adV : Nat → Nat) (dC : Nat → ClassId) (dI : Nat → Nat → Nat) (cy : Nat → ClassId) (ad : Nat → Nat) (B : Int) (hB0 : 100000 ≤ B) (hB1 : B ≤ 1073741824) (qr : Nat) (s1 : Int)  (a1 : Int32) (ra1 : 0 ≤ a1.toInt) (ta1 : a1.toInt ≤ 9) (a2 : Int32) (ra2 : 0 ≤ a2.toInt) (ta2 : a2.toInt ≤ 359) (w0 : va_W) (sz : Nat) (hT : TW ksM ad cy B qr 13 w0)  : Met l yX12_isClosed wsX12_isClosed ({ frames := 1, cells := 0, slots := 0, locals := 12 }) (va_Pc [.ref (ad 0), .int a1, .int a2] (wpreS adK adV dC dI cy sz w0)) (va_Qi (P_X12_isClosed_2 ad cy B qr s1 a1 a2 w0) (fun u : va_W => wpost dC dI cy (va_A w0 sz) u) (va_A w0 sz)) 0 0 (va_A w0 sz) := by
  refine Met.ofW (cc := cX12_isClosed) (maxL := 4) (ret := (some .boolean)) (by decide) rfl ?_
  intro p e s m args below meth c s₁ Bk hml hv
  obtain ⟨rfl, ⟨hsz, hP, hK, hD0⟩, hE, hSR⟩ := hv
  have hx := Bk.exec
  have hb := Bk.bytes
  have hr := Bk.returns
  have hlocks := Bk.notSynchronized
  have hC : CallFix p m c cX12_isClosed 4 s _ wsX12_isClosed RX12 := ⟨hx, hb, hml, findClass_of_methodNamed Bk.named, atoms_spec (ws := wsX12_isClosed) Bk.pre⟩
  subst hsz
  have hD := hD0.self (sz := s.heap.size)
  generalize hAe : va_A w0 s.heap.size = A at hD hE ⊢
  have hA : ∀ q : Nat, s.heap.size ≤ q → A q := fun q h => by rw [← hAe]; exact Or.inr h
  have hw : Wd dC dI A s.heap s.heap [] w0 := ⟨hP, hD, va_S.rf⟩
  have hF : FE ksM ([] : List (Nat × Nat × Nat)) w0 w0 := FE.rf
  have hl := lv_entry ([.ref (ad 0), .int a1, .int a2]) (n := 4) (Nat.le_of_ble_eq_true rfl)
  rw [lg_entry_eq]
  generalize (lg_sl ([.ref (ad 0), .int a1, .int a2]) ++ List.replicate (4 - (lg_sl ([.ref (ad 0), .int a1, .int a2])).length) Slot.unset).toArray = ls at hl ⊢
  have hl : lv_has ls 4 [(0, .ref (ad 0)), (1, .int a1), (2, .int a2)] := hl
  generalize hloc : ([] : List Loc) = locs at hw ⊢
  have hinX12 : ∀ w ∈ u_ws RX12 TX12 42, w ∈ wsX12_isClosed := fun _ h => List.mem_cons_of_mem _ (List.mem_append_right _ (h))
  have L2 : ∀ (n2 : Nat) (v2_3 : Int32) (H : Heap) (locs : List Loc) (ls : Array Slot), 0 ≤ a1.toInt → a1.toInt ≤ 9 → 0 ≤ a2.toInt → a2.toInt ≤ 359 → 0 ≤ v2_3.toInt → v2_3.toInt ≤ 8 → (∀ k : Int, 0 ≤ k → k < v2_3.toInt → ¬ mCl1 w0 k a1.toInt a2.toInt) → (8 - v2_3.toInt).toNat < n2 → Wd dC dI A s.heap H locs w0 → lv_has ls 4 [(0, .ref (ad 0)), (1, .int a1), (2, .int a2), (3, .int v2_3)] → W p l e ({ frames := 1, cells := 0, slots := 0, locals := 12 }) s m (List.toArray [.ref (ad 0), .int a1, .int a2]) below meth c H locs 0 0 (MQ below (va_Qi (P_X12_isClosed_2 ad cy B qr s1 a1 a2 w0) (fun u : va_W => wpost dC dI cy A u) A) (List.toArray [.ref (ad 0), .int a1, .int a2]) s 0 0 A) (F0 m 2 ls []) := by
    intro n2
    induction n2 with
    | zero => intro v2_3 H locs ls r1 t2 r3 t4 r5 t6 hcr2_0 hm2 hw hl; omega
    | succ n2 ih2 =>
      intro v2_3 H locs ls r1 t2 r3 t4 r5 t6 hcr2_0 hm2 hw hl
      refine lv_iload_n hx hb dX12_isClosed_2 rfl (lv_at hl 3 rfl) ?_
      refine lv_aload_n hx hb dX12_isClosed_3 rfl (lv_at hl 0 rfl) ?_
      refine tk_getA hC hK hw hT hinX12 kM_at0 (by decide) rfl 26 (by decide) (List.mem_of_getElem? (i := 1) rfl) rfl rfl dX12_isClosed_4 ?_
      refine lv_iconst (v := 2) hx hb dX12_isClosed_7 (by decide) ?_
      refine tk_ialdR hC hK hw hT kM_at12 rfl (by decide) (by decide) dX12_isClosed_8 (fun x7 c8 Ex7 => ?_)
      have bx7 := tk_rgI rfl 2 1 1 0 8 (by decide +kernel) ⟨0, by decide, by decide⟩ Ex7
      have c8 : gi w0 12 2 = x7 := c8
      refine lv_icmp_ge (tgt := 61) hx hb dX12_isClosed_9 (by decide) (fun c9 => ?_) (fun c9 => ?_)
      · have c9 : x7.toInt ≤ v2_3.toInt := wk_le.mp c9
        refine lv_iconst (v := 0) hx hb dX12_isClosed_61 (by decide) ?_
        exact tk_zret hC hr rfl hlocks hK ⟨rfl, (Or.inl ⟨rfl, (by first | exact mCl_no hcr2_0 (by simp only [c8]; omega) | exact mCl_off (by simp only [c8]; omega))⟩)⟩ hw dX12_isClosed_62
      · have c9 : v2_3.toInt < x7.toInt := wk_leF c9
        refine lv_aload_n hx hb dX12_isClosed_12 rfl (lv_at hl 0 rfl) ?_
        refine tk_geti hC hK hw hT hinX12 kM_at0 (by decide) rfl 27 (by decide) (List.mem_of_getElem? (i := 2) rfl) rfl rfl dX12_isClosed_13 (fun x10 c11 rx10 tx10 => ?_)
        refine lv_if_eq (tgt := 61) hx hb dX12_isClosed_16 (by decide) (fun c12 => ?_) (fun c12 => ?_)
        · have c12 : x10.toInt = (0 : Int) := wk_eq.mp c12
          refine lv_iconst (v := 0) hx hb dX12_isClosed_61 (by decide) ?_
          exact tk_zret hC hr rfl hlocks hK ⟨rfl, (Or.inl ⟨rfl, (by first | exact mCl_no hcr2_0 (by simp only [c8, c11]; omega) | exact mCl_off (by simp only [c8, c11]; omega))⟩)⟩ hw dX12_isClosed_62
        · have c12 : ¬ x10.toInt = (0 : Int) := wk_eqF c12
          refine lv_aload_n hx hb dX12_isClosed_19 rfl (lv_at hl 0 rfl) ?_
          refine tk_getA hC hK hw hT hinX12 kM_at0 (by decide) rfl 26 (by decide) (List.mem_of_getElem? (i := 1) rfl) rfl rfl dX12_isClosed_20 ?_
          refine lv_sipush (v := 140) hx hb dX12_isClosed_23 (by decide) ?_
          refine lv_iconst (v := 2) hx hb dX12_isClosed_26 (by decide) ?_
          refine lv_iload_n hx hb dX12_isClosed_27 rfl (lv_at hl 3 rfl) ?_
          refine lv_imul hx hb dX12_isClosed_28 ?_
          refine lv_topi (fun x13 ex13 => ?_)
          have ex13 : x13.toInt = (2 : Int) * v2_3.toInt := by rw [ex13]; exact wk_mul (show (-2147483648) ≤ (2 : Int) * v2_3.toInt by omega) (show (2 : Int) * v2_3.toInt ≤ 2147483647 by omega)
          refine lv_iadd hx hb dX12_isClosed_29 ?_
          refine lv_topi (fun x14 ex14 => ?_)
          have ex14 : x14.toInt = (140 : Int) + x13.toInt := by rw [ex14]; exact wk_add (show (-2147483648) ≤ (140 : Int) + x13.toInt by omega) (show (140 : Int) + x13.toInt ≤ 2147483647 by omega)
          refine tk_ialdR hC hK hw hT kM_at12 rfl (show 0 ≤ x14.toInt by omega) (show x14.toInt < 296 by omega) dX12_isClosed_30 (fun x15 c16 Ex15 => ?_)
          have c16 : gi w0 12 (2 * v2_3.toInt + 140).toNat = x15 := (congrArg (gi w0 12) (congrArg Int.toNat (show 2 * v2_3.toInt + 140 = x14.toInt by omega))).trans c16
          refine lv_iload_n hx hb dX12_isClosed_31 rfl (lv_at hl 1 rfl) ?_
          refine lv_icmp_ne (tgt := 55) hx hb dX12_isClosed_32 (by decide) (fun c17 => ?_) (fun c17 => ?_)
          · have c17 : ¬ x15.toInt = a1.toInt := wk_eqF c17
            obtain ⟨x18, ex18⟩ : ∃ y : Int32, y = v2_3 + Int32.ofInt 1 := ⟨_, rfl⟩
            refine lv_iinc (v := x18) (lv' := [(3, .int x18), (0, .ref (ad 0)), (1, .int a1), (2, .int a2)]) hx hb dX12_isClosed_55 hl (k := 3) rfl ex18.symm (by decide) rfl (fun ls hl => ?_)
            have ex18 : x18.toInt = v2_3.toInt + 1 := by rw [ex18]; exact wk_add (y := 1) (show -2147483648 ≤ v2_3.toInt + 1 by omega) (show v2_3.toInt + 1 ≤ 2147483647 by omega)
            refine lv_goto (tgt := 2) hx hb dX12_isClosed_58 (by decide) ?_
            exact ih2 x18 H locs ls  (show 0 ≤ a1.toInt by omega) (show a1.toInt ≤ 9 by omega) (show 0 ≤ a2.toInt by omega) (show a2.toInt ≤ 359 by omega) (show 0 ≤ x18.toInt by omega) (show x18.toInt ≤ 8 by omega) (show ∀ k : Int, 0 ≤ k → k < x18.toInt → ¬ mCl1 w0 k a1.toInt a2.toInt from all_step hcr2_0 (show ¬ mCl1 w0 v2_3.toInt a1.toInt a2.toInt by unfold mCl1; simp only [c8, c11, c16]; omega) (by omega)) (show (8 - x18.toInt).toNat < n2 by omega) hw   (lv_sub hl [1, 2, 3, 0] rfl)
          · have c17 : x15.toInt = a1.toInt := wk_eq.mp c17
            refine lv_aload_n hx hb dX12_isClosed_35 rfl (lv_at hl 0 rfl) ?_
            refine tk_getA hC hK hw hT hinX12 kM_at0 (by decide) rfl 26 (by decide) (List.mem_of_getElem? (i := 1) rfl) rfl rfl dX12_isClosed_36 ?_
            refine lv_sipush (v := 140) hx hb dX12_isClosed_39 (by decide) ?_
            refine lv_iconst (v := 2) hx hb dX12_isClosed_42 (by decide) ?_
            refine lv_iload_n hx hb dX12_isClosed_43 rfl (lv_at hl 3 rfl) ?_
            refine lv_imul hx hb dX12_isClosed_44 ?_
            refine lv_topi (fun x19 ex19 => ?_)
            have ex19 : x19.toInt = (2 : Int) * v2_3.toInt := by rw [ex19]; exact wk_mul (show (-2147483648) ≤ (2 : Int) * v2_3.toInt by omega) (show (2 : Int) * v2_3.toInt ≤ 2147483647 by omega)
            refine lv_iadd hx hb dX12_isClosed_45 ?_
            refine lv_topi (fun x20 ex20 => ?_)
            have ex20 : x20.toInt = (140 : Int) + x19.toInt := by rw [ex20]; exact wk_add (show (-2147483648) ≤ (140 : Int) + x19.toInt by omega) (show (140 : Int) + x19.toInt ≤ 2147483647 by omega)
            refine lv_iconst (v := 1) hx hb dX12_isClosed_46 (by decide) ?_
            refine lv_iadd hx hb dX12_isClosed_47 ?_
            refine lv_topi (fun x21 ex21 => ?_)
            have ex21 : x21.toInt = x20.toInt + (1 : Int) := by rw [ex21]; exact wk_add (show (-2147483648) ≤ x20.toInt + (1 : Int) by omega) (show x20.toInt + (1 : Int) ≤ 2147483647 by omega)
            refine tk_ialdR hC hK hw hT kM_at12 rfl (show 0 ≤ x21.toInt by omega) (show x21.toInt < 296 by omega) dX12_isClosed_48 (fun x22 c23 Ex22 => ?_)
            have c23 : gi w0 12 (2 * v2_3.toInt + 141).toNat = x22 := (congrArg (gi w0 12) (congrArg Int.toNat (show 2 * v2_3.toInt + 141 = x21.toInt by omega))).trans c23
            refine lv_iload_n hx hb dX12_isClosed_49 rfl (lv_at hl 2 rfl) ?_
            refine lv_icmp_ne (tgt := 55) hx hb dX12_isClosed_50 (by decide) (fun c24 => ?_) (fun c24 => ?_)
            · have c24 : ¬ x22.toInt = a2.toInt := wk_eqF c24
              obtain ⟨x25, ex25⟩ : ∃ y : Int32, y = v2_3 + Int32.ofInt 1 := ⟨_, rfl⟩
              refine lv_iinc (v := x25) (lv' := [(3, .int x25), (0, .ref (ad 0)), (1, .int a1), (2, .int a2)]) hx hb dX12_isClosed_55 hl (k := 3) rfl ex25.symm (by decide) rfl (fun ls hl => ?_)
              have ex25 : x25.toInt = v2_3.toInt + 1 := by rw [ex25]; exact wk_add (y := 1) (show -2147483648 ≤ v2_3.toInt + 1 by omega) (show v2_3.toInt + 1 ≤ 2147483647 by omega)
              refine lv_goto (tgt := 2) hx hb dX12_isClosed_58 (by decide) ?_
              exact ih2 x25 H locs ls  (show 0 ≤ a1.toInt by omega) (show a1.toInt ≤ 9 by omega) (show 0 ≤ a2.toInt by omega) (show a2.toInt ≤ 359 by omega) (show 0 ≤ x25.toInt by omega) (show x25.toInt ≤ 8 by omega) (show ∀ k : Int, 0 ≤ k → k < x25.toInt → ¬ mCl1 w0 k a1.toInt a2.toInt from all_step hcr2_0 (show ¬ mCl1 w0 v2_3.toInt a1.toInt a2.toInt by unfold mCl1; simp only [c8, c11, c16, c23]; omega) (by omega)) (show (8 - x25.toInt).toNat < n2 by omega) hw   (lv_sub hl [1, 2, 3, 0] rfl)
            · have c24 : x22.toInt = a2.toInt := wk_eq.mp c24
              refine lv_iconst (v := 1) hx hb dX12_isClosed_53 (by decide) ?_
              exact tk_zret hC hr rfl hlocks hK ⟨rfl, (Or.inr ⟨rfl, ⟨x10, c11, (show 1 ≤ x10.toInt by omega), (show x10.toInt ≤ 1 by omega)⟩, ⟨x7, c8, (show 1 ≤ x7.toInt by omega), (show x7.toInt ≤ 8 by omega)⟩, (by exact ⟨v2_3.toInt, by omega, by simp only [c8, c11, c16, c23]; omega, by unfold mCl1; simp only [c8, c11, c16, c23]; omega⟩)⟩)⟩ hw dX12_isClosed_54
  refine lv_iconst (v := 0) hx hb dX12_isClosed_0 (by decide) ?_
  refine lv_istore_n (lv' := [(3, .int 0), (0, .ref (ad 0)), (1, .int a1), (2, .int a2)]) hx hb dX12_isClosed_1 rfl hl (by decide) rfl (fun ls hl => ?_)
  exact L2 ((8 - (0 : Int)).toNat + 1) 0 s.heap locs ls  (show 0 ≤ a1.toInt by omega) (show a1.toInt ≤ 9 by omega) (show 0 ≤ a2.toInt by omega) (show a2.toInt ≤ 359 by omega) (by decide) (by decide) (show ∀ k : Int, 0 ≤ k → k < (0 : Int) → ¬ mCl1 w0 k a1.toInt a2.toInt from all_none) (Nat.lt_succ_self _) hw   (lv_sub hl [1, 2, 3, 0] rfl)
abbrev P_X12_streetOf_12 (ad : Nat → Nat) (cy : Nat → ClassId) (B : Int) (qr : Nat) (s1 : Int) (a1 : Int32) (w0 : va_W) : Int32 → va_W → Prop := fun r u => w0 = u ∧ ((0 ≤ r.toInt ∧ r.toInt ≤ 9 ∧ gi u 12 (10 * a1.toInt + 11).toNat = r))
set_option maxHeartbeats 4000000 in
set_option maxRecDepth 100000 in
theorem k_X12_streetOf_12 (l : Launch) (adK adV : Nat → Nat) (dC : Nat → ClassId) (dI : Nat → Nat → Nat) (cy : Nat → ClassId) (ad : Nat → Nat) (B : Int) (hB0 : 100000 ≤ B) (hB1 : B ≤ 1073741824) (qr : Nat) (s1 : Int)  (a1 : Int32) (ra1 : 0 ≤ a1.toInt) (ta1 : a1.toInt ≤ 12) (w0 : va_W) (sz : Nat) (hT : TW ksM ad cy B qr 13 w0)  : Met l yX12_streetOf wsX12_streetOf ({ frames := 1, cells := 0, slots := 0, locals := 12 }) (va_Pc [.ref (ad 0), .int a1, .int 1] (wpreS adK adV dC dI cy sz w0)) (va_Qi (P_X12_streetOf_12 ad cy B qr s1 a1 w0) (fun u : va_W => wpost dC dI cy (va_A w0 sz) u) (va_A w0 sz)) 0 0 (va_A w0 sz) := by
  refine Met.ofW (cc := cX12_streetOf) (maxL := 3) (ret := (some .int)) (by decide) rfl ?_
  intro p e s m args below meth c s₁ Bk hml hv
  obtain ⟨rfl, ⟨hsz, hP, hK, hD0⟩, hE, hSR⟩ := hv
  have hx := Bk.exec
  have hb := Bk.bytes
  have hr := Bk.returns
  have hlocks := Bk.notSynchronized
  have hC : CallFix p m c cX12_streetOf 3 s _ wsX12_streetOf RX12 := ⟨hx, hb, hml, findClass_of_methodNamed Bk.named, atoms_spec (ws := wsX12_streetOf) Bk.pre⟩
  subst hsz
  have hD := hD0.self (sz := s.heap.size)
  generalize hAe : va_A w0 s.heap.size = A at hD hE ⊢
  have hA : ∀ q : Nat, s.heap.size ≤ q → A q := fun q h => by rw [← hAe]; exact Or.inr h
  have hw : Wd dC dI A s.heap s.heap [] w0 := ⟨hP, hD, va_S.rf⟩
  have hF : FE ksM ([] : List (Nat × Nat × Nat)) w0 w0 := FE.rf
  have hl := lv_entry ([.ref (ad 0), .int a1, .int 1]) (n := 3) (Nat.le_of_ble_eq_true rfl)
  rw [lg_entry_eq]
  generalize (lg_sl ([.ref (ad 0), .int a1, .int 1]) ++ List.replicate (3 - (lg_sl ([.ref (ad 0), .int a1, .int 1])).length) Slot.unset).toArray = ls at hl ⊢
  have hl : lv_has ls 3 [(0, .ref (ad 0)), (1, .int a1), (2, .int 1)] := hl
  generalize hloc : ([] : List Loc) = locs at hw ⊢
  have hinX12 : ∀ w ∈ u_ws RX12 TX12 42, w ∈ wsX12_streetOf := fun _ h => List.mem_cons_of_mem _ (List.mem_append_right _ (h))
  refine lv_aload_n hx hb dX12_streetOf_0 rfl (lv_at hl 0 rfl) ?_
  refine tk_getA hC hK hw hT hinX12 kM_at0 (by decide) rfl 26 (by decide) (List.mem_of_getElem? (i := 1) rfl) rfl rfl dX12_streetOf_1 ?_
  refine lv_bipush (v := 10) hx hb dX12_streetOf_4 (by decide) ?_
  refine lv_bipush (v := 10) hx hb dX12_streetOf_6 (by decide) ?_
  refine lv_iload_n hx hb dX12_streetOf_8 rfl (lv_at hl 1 rfl) ?_
  refine lv_imul hx hb dX12_streetOf_9 ?_
  refine lv_topi (fun x1 ex1 => ?_)
  have ex1 : x1.toInt = (10 : Int) * a1.toInt := by rw [ex1]; exact wk_mul (show (-2147483648) ≤ (10 : Int) * a1.toInt by omega) (show (10 : Int) * a1.toInt ≤ 2147483647 by omega)
  refine lv_iadd hx hb dX12_streetOf_10 ?_
  refine lv_topi (fun x2 ex2 => ?_)
  have ex2 : x2.toInt = (10 : Int) + x1.toInt := by rw [ex2]; exact wk_add (show (-2147483648) ≤ (10 : Int) + x1.toInt by omega) (show (10 : Int) + x1.toInt ≤ 2147483647 by omega)
  refine lv_iload_n hx hb dX12_streetOf_11 rfl (lv_at hl 2 rfl) ?_
  refine lv_iadd hx hb dX12_streetOf_12 ?_
  refine lv_topi (fun x3 ex3 => ?_)
  have ex3 : x3.toInt = x2.toInt + (1 : Int) := by rw [ex3]; exact wk_add (show (-2147483648) ≤ x2.toInt + (1 : Int) by omega) (show x2.toInt + (1 : Int) ≤ 2147483647 by omega)
  refine tk_ialdR hC hK hw hT kM_at12 rfl (show 0 ≤ x3.toInt by omega) (show x3.toInt < 296 by omega) dX12_streetOf_13 (fun x4 c5 Ex4 => ?_)
  have c5 : gi w0 12 (10 * a1.toInt + 11).toNat = x4 := (congrArg (gi w0 12) (congrArg Int.toNat (show 10 * a1.toInt + 11 = x3.toInt by omega))).trans c5
  have bx4 := tk_rgI rfl 11 10 13 0 9 (by decide +kernel) ⟨(a1.toInt - 0).toNat, by omega, show x3.toInt.toNat = 11 + 10 * (a1.toInt - 0).toNat by omega⟩ Ex4
  exact tk_iret hC hr hlocks hK ⟨rfl, ⟨(show 0 ≤ x4.toInt by omega), (show x4.toInt ≤ 9 by omega), c5⟩⟩ hw dX12_streetOf_14
abbrev P_X12_streetOf_13 (ad : Nat → Nat) (cy : Nat → ClassId) (B : Int) (qr : Nat) (s1 : Int) (a1 : Int32) (a2 : Int32) (w0 : va_W) : Int32 → va_W → Prop := fun r u => w0 = u ∧ ((0 ≤ r.toInt ∧ r.toInt ≤ 9 ∧ gi u 12 (10 * a1.toInt + 1 * a2.toInt + 10).toNat = r))
set_option maxHeartbeats 4000000 in
set_option maxRecDepth 100000 in
theorem k_X12_streetOf_13 (l : Launch) (adK adV : Nat → Nat) (dC : Nat → ClassId) (dI : Nat → Nat → Nat) (cy : Nat → ClassId) (ad : Nat → Nat) (B : Int) (hB0 : 100000 ≤ B) (hB1 : B ≤ 1073741824) (qr : Nat) (s1 : Int)  (a1 : Int32) (ra1 : 0 ≤ a1.toInt) (ta1 : a1.toInt ≤ 12) (a2 : Int32) (ra2 : 3 ≤ a2.toInt) (ta2 : a2.toInt ≤ 9) (w0 : va_W) (sz : Nat) (hT : TW ksM ad cy B qr 13 w0)  : Met l yX12_streetOf wsX12_streetOf ({ frames := 1, cells := 0, slots := 0, locals := 12 }) (va_Pc [.ref (ad 0), .int a1, .int a2] (wpreS adK adV dC dI cy sz w0)) (va_Qi (P_X12_streetOf_13 ad cy B qr s1 a1 a2 w0) (fun u : va_W => wpost dC dI cy (va_A w0 sz) u) (va_A w0 sz)) 0 0 (va_A w0 sz) := by
  refine Met.ofW (cc := cX12_streetOf) (maxL := 3) (ret := (some .int)) (by decide) rfl ?_
  intro p e s m args below meth c s₁ Bk hml hv
  obtain ⟨rfl, ⟨hsz, hP, hK, hD0⟩, hE, hSR⟩ := hv
  have hx := Bk.exec
  have hb := Bk.bytes
  have hr := Bk.returns
  have hlocks := Bk.notSynchronized
  have hC : CallFix p m c cX12_streetOf 3 s _ wsX12_streetOf RX12 := ⟨hx, hb, hml, findClass_of_methodNamed Bk.named, atoms_spec (ws := wsX12_streetOf) Bk.pre⟩
  subst hsz
  have hD := hD0.self (sz := s.heap.size)
  generalize hAe : va_A w0 s.heap.size = A at hD hE ⊢
  have hA : ∀ q : Nat, s.heap.size ≤ q → A q := fun q h => by rw [← hAe]; exact Or.inr h
  have hw : Wd dC dI A s.heap s.heap [] w0 := ⟨hP, hD, va_S.rf⟩
  have hF : FE ksM ([] : List (Nat × Nat × Nat)) w0 w0 := FE.rf
  have hl := lv_entry ([.ref (ad 0), .int a1, .int a2]) (n := 3) (Nat.le_of_ble_eq_true rfl)
  rw [lg_entry_eq]
  generalize (lg_sl ([.ref (ad 0), .int a1, .int a2]) ++ List.replicate (3 - (lg_sl ([.ref (ad 0), .int a1, .int a2])).length) Slot.unset).toArray = ls at hl ⊢
  have hl : lv_has ls 3 [(0, .ref (ad 0)), (1, .int a1), (2, .int a2)] := hl
  generalize hloc : ([] : List Loc) = locs at hw ⊢
  have hinX12 : ∀ w ∈ u_ws RX12 TX12 42, w ∈ wsX12_streetOf := fun _ h => List.mem_cons_of_mem _ (List.mem_append_right _ (h))
  refine lv_aload_n hx hb dX12_streetOf_0 rfl (lv_at hl 0 rfl) ?_
  refine tk_getA hC hK hw hT hinX12 kM_at0 (by decide) rfl 26 (by decide) (List.mem_of_getElem? (i := 1) rfl) rfl rfl dX12_streetOf_1 ?_
  refine lv_bipush (v := 10) hx hb dX12_streetOf_4 (by decide) ?_
  refine lv_bipush (v := 10) hx hb dX12_streetOf_6 (by decide) ?_
  refine lv_iload_n hx hb dX12_streetOf_8 rfl (lv_at hl 1 rfl) ?_
  refine lv_imul hx hb dX12_streetOf_9 ?_
  refine lv_topi (fun x1 ex1 => ?_)
  have ex1 : x1.toInt = (10 : Int) * a1.toInt := by rw [ex1]; exact wk_mul (show (-2147483648) ≤ (10 : Int) * a1.toInt by omega) (show (10 : Int) * a1.toInt ≤ 2147483647 by omega)
  refine lv_iadd hx hb dX12_streetOf_10 ?_
  refine lv_topi (fun x2 ex2 => ?_)
  have ex2 : x2.toInt = (10 : Int) + x1.toInt := by rw [ex2]; exact wk_add (show (-2147483648) ≤ (10 : Int) + x1.toInt by omega) (show (10 : Int) + x1.toInt ≤ 2147483647 by omega)
  refine lv_iload_n hx hb dX12_streetOf_11 rfl (lv_at hl 2 rfl) ?_
  refine lv_iadd hx hb dX12_streetOf_12 ?_
  refine lv_topi (fun x3 ex3 => ?_)
  have ex3 : x3.toInt = x2.toInt + a2.toInt := by rw [ex3]; exact wk_add (show (-2147483648) ≤ x2.toInt + a2.toInt by omega) (show x2.toInt + a2.toInt ≤ 2147483647 by omega)
  refine tk_ialdR hC hK hw hT kM_at12 rfl (show 0 ≤ x3.toInt by omega) (show x3.toInt < 296 by omega) dX12_streetOf_13 (fun x4 c5 Ex4 => ?_)
  have c5 : gi w0 12 (10 * a1.toInt + 1 * a2.toInt + 10).toNat = x4 := (congrArg (gi w0 12) (congrArg Int.toNat (show 10 * a1.toInt + 1 * a2.toInt + 10 = x3.toInt by omega))).trans c5
  have bx4 := tk_rgI rfl 13 1 127 0 9 (by decide +kernel) ⟨(x3.toInt - 13).toNat, by omega, show x3.toInt.toNat = 13 + 1 * (x3.toInt - 13).toNat by omega⟩ Ex4
  exact tk_iret hC hr hlocks hK ⟨rfl, ⟨(show 0 ≤ x4.toInt by omega), (show x4.toInt ≤ 9 by omega), c5⟩⟩ hw dX12_streetOf_14
abbrev P_X12_isDayFor_6 (ad : Nat → Nat) (cy : Nat → ClassId) (B : Int) (qr : Nat) (s1 : Int) (a1 : Int32) (a2 : Int32) (a3 : Int32) (w0 : va_W) : Int32 → va_W → Prop := fun r u => w0 = u ∧ ((r = 0 ∧ (¬ mDay w0 a1.toInt a2.toInt a3.toInt)) ∨ (r = 0 ∧ gi u 12 (10 * a1.toInt + 10).toNat = a2 ∧ (¬ mDay w0 a1.toInt a2.toInt a3.toInt)) ∨ (r = 1 ∧ (mDay w0 a1.toInt a2.toInt a3.toInt)) ∨ (r = 1 ∧ gi u 12 (10 * a1.toInt + 10).toNat = a2 ∧ (mDay w0 a1.toInt a2.toInt a3.toInt)))
set_option maxHeartbeats 4000000 in
set_option maxRecDepth 100000 in
theorem k_X12_isDayFor_6 (l : Launch) (adK adV : Nat → Nat) (dC : Nat → ClassId) (dI : Nat → Nat → Nat) (cy : Nat → ClassId) (ad : Nat → Nat) (B : Int) (hB0 : 100000 ≤ B) (hB1 : B ≤ 1073741824) (qr : Nat) (s1 : Int)  (a1 : Int32) (ra1 : 0 ≤ a1.toInt) (ta1 : a1.toInt ≤ 12) (a2 : Int32) (ra2 : 0 ≤ a2.toInt) (ta2 : a2.toInt ≤ 9) (a3 : Int32) (ra3 : 0 ≤ a3.toInt) (ta3 : a3.toInt ≤ 4249) (w0 : va_W) (sz : Nat) (hT : TW ksM ad cy B qr 13 w0)  : Met l yX12_isDayFor wsX12_isDayFor ({ frames := 3, cells := 0, slots := 0, locals := 57 }) (va_Pc [.ref (ad 0), .int a1, .int a2, .int a3] (wpreS adK adV dC dI cy sz w0)) (va_Qi (P_X12_isDayFor_6 ad cy B qr s1 a1 a2 a3 w0) (fun u : va_W => wpost dC dI cy (va_A w0 sz) u) (va_A w0 sz)) 0 0 (va_A w0 sz) := by
  refine Met.ofW (cc := cX12_isDayFor) (maxL := 4) (ret := (some .boolean)) (by decide) rfl ?_
  intro p e s m args below meth c s₁ Bk hml hv
  obtain ⟨rfl, ⟨hsz, hP, hK, hD0⟩, hE, hSR⟩ := hv
  have hx := Bk.exec
  have hb := Bk.bytes
  have hr := Bk.returns
  have hlocks := Bk.notSynchronized
  have hC : CallFix p m c cX12_isDayFor 4 s _ wsX12_isDayFor RX12 := ⟨hx, hb, hml, findClass_of_methodNamed Bk.named, atoms_spec (ws := wsX12_isDayFor) Bk.pre⟩
  subst hsz
  have hD := hD0.self (sz := s.heap.size)
  generalize hAe : va_A w0 s.heap.size = A at hD hE ⊢
  have hA : ∀ q : Nat, s.heap.size ≤ q → A q := fun q h => by rw [← hAe]; exact Or.inr h
  have hw : Wd dC dI A s.heap s.heap [] w0 := ⟨hP, hD, va_S.rf⟩
  have hF : FE ksM ([] : List (Nat × Nat × Nat)) w0 w0 := FE.rf
  have hl := lv_entry ([.ref (ad 0), .int a1, .int a2, .int a3]) (n := 4) (Nat.le_of_ble_eq_true rfl)
  rw [lg_entry_eq]
  generalize (lg_sl ([.ref (ad 0), .int a1, .int a2, .int a3]) ++ List.replicate (4 - (lg_sl ([.ref (ad 0), .int a1, .int a2, .int a3])).length) Slot.unset).toArray = ls at hl ⊢
  have hl : lv_has ls 4 [(0, .ref (ad 0)), (1, .int a1), (2, .int a2), (3, .int a3)] := hl
  generalize hloc : ([] : List Loc) = locs at hw ⊢
  refine lv_aload_n hx hb dX12_isDayFor_0 rfl (lv_at hl 0 rfl) ?_
  refine lv_aload_n hx hb dX12_isDayFor_1 rfl (lv_at hl 0 rfl) ?_
  refine lv_iload_n hx hb dX12_isDayFor_2 rfl (lv_at hl 1 rfl) ?_
  refine lv_iconst (v := 3) hx hb dX12_isDayFor_3 (by decide) ?_
  refine lv_iload_n hx hb dX12_isDayFor_4 rfl (lv_at hl 3 rfl) ?_
  refine lv_bipush (v := 7) hx hb dX12_isDayFor_5 (by decide) ?_
  refine lv_irem hx hb dX12_isDayFor_7 (by decide) ?_
  refine lv_topi (fun x1 ex1 => ?_)
  have ex1 : x1.toInt = a3.toInt % (7 : Int) := by rw [ex1]; exact wk_rem (show 0 ≤ a3.toInt by omega) (show 0 < (7 : Int) by decide)
  refine lv_iadd hx hb dX12_isDayFor_8 ?_
  refine lv_topi (fun x2 ex2 => ?_)
  have ex2 : x2.toInt = (3 : Int) + x1.toInt := by rw [ex2]; exact wk_add (show (-2147483648) ≤ (3 : Int) + x1.toInt by omega) (show (3 : Int) + x1.toInt ≤ 2147483647 by omega)
  refine tk_Vi hC hK hw hT hA hE hSR kM_at0 (by decide) rfl (k_X12_streetOf_13 l adK adV dC dI cy ad B (by omega) (by omega) qr s1   a1 (show 0 ≤ a1.toInt by omega) (show a1.toInt ≤ 12 by omega) x2 (show 3 ≤ x2.toInt by omega) (show x2.toInt ≤ 9 by omega) w0 s.heap.size hT ) (cwV 2 hC.2.2.2.2 gX12_isDayFor_X12_streetOf rfl rfl rfl (by decide +kernel) ⟨Nat.le_of_ble_eq_true rfl, Nat.le_of_ble_eq_true rfl⟩) rfl hl.1 rfl (Nat.le_of_ble_eq_true rfl) dX12_isDayFor_9 (fun r3 w5 H locs hp4 hw => ?_)
  obtain ⟨rfl, hg10⟩ := hp4
  obtain ⟨g7, g8, c9⟩ := hg10
  refine lv_iload_n hx hb dX12_isDayFor_12 rfl (lv_at hl 1 rfl) ?_
  refine lv_iload_n hx hb dX12_isDayFor_13 rfl (lv_at hl 2 rfl) ?_
  refine tk_Vi hC hK hw hT hA hE hSR kM_at0 (by decide) rfl (k_X12_hasSign_3 l adK adV dC dI cy ad B (by omega) (by omega) qr s1   r3 (show 0 ≤ r3.toInt by omega) (show r3.toInt ≤ 9 by omega) a1 (show 0 ≤ a1.toInt by omega) (show a1.toInt ≤ 12 by omega) a2 (show 0 ≤ a2.toInt by omega) (show a2.toInt ≤ 9 by omega) w0 H.size hT ) (cwV 3 hC.2.2.2.2 gX12_isDayFor_X12_hasSign rfl rfl rfl (by decide +kernel) ⟨Nat.le_of_ble_eq_true rfl, Nat.le_of_ble_eq_true rfl⟩) rfl hl.1 rfl (Nat.le_of_ble_eq_true rfl) dX12_isDayFor_14 (fun r11 w13 H locs hp12 hw => ?_)
  obtain ⟨rfl, hg21⟩ := hp12
  rcases hg21 with ⟨rfl, hq15⟩ | ⟨rfl, c16, hq17⟩ | ⟨rfl, hq18⟩ | ⟨rfl, c19, hq20⟩
  · refine lv_if_ne (tgt := 22) hx hb dX12_isDayFor_17 (by decide) (fun c => absurd (by decide) c) (fun _ => ?_)
    refine lv_iconst (v := 0) hx hb dX12_isDayFor_20 (by decide) ?_
    exact tk_zret hC hr rfl hlocks hK ⟨rfl, (Or.inl ⟨rfl, (by unfold mDay; rw [show (10 * a1.toInt + (3 + a3.toInt % 7) + 10) = 10 * a1.toInt + 1 * x2.toInt + 10 by omega]; simp only [c9]; first | exact ⟨by assumption, by assumption, by assumption⟩ | (rintro ⟨q1, q2, q3⟩; first | exact absurd q1 (by assumption) | exact q2 (by assumption) | exact q3 (by assumption)))⟩)⟩ hw dX12_isDayFor_21
  · refine lv_if_ne (tgt := 22) hx hb dX12_isDayFor_17 (by decide) (fun c => absurd (by decide) c) (fun _ => ?_)
    refine lv_iconst (v := 0) hx hb dX12_isDayFor_20 (by decide) ?_
    exact tk_zret hC hr rfl hlocks hK ⟨rfl, (Or.inr (Or.inl ⟨rfl, c16, (by unfold mDay; rw [show (10 * a1.toInt + (3 + a3.toInt % 7) + 10) = 10 * a1.toInt + 1 * x2.toInt + 10 by omega]; simp only [c9, c16]; first | exact ⟨by assumption, by assumption, by assumption⟩ | (rintro ⟨q1, q2, q3⟩; first | exact absurd q1 (by assumption) | exact q2 (by assumption) | exact q3 (by assumption)))⟩))⟩ hw dX12_isDayFor_21
  · refine lv_if_ne (tgt := 22) hx hb dX12_isDayFor_17 (by decide) (fun _ => ?_) (fun c => absurd c (by decide))
    refine lv_aload_n hx hb dX12_isDayFor_22 rfl (lv_at hl 0 rfl) ?_
    refine lv_aload_n hx hb dX12_isDayFor_23 rfl (lv_at hl 0 rfl) ?_
    refine lv_iload_n hx hb dX12_isDayFor_24 rfl (lv_at hl 1 rfl) ?_
    refine lv_iconst (v := 0) hx hb dX12_isDayFor_25 (by decide) ?_
    refine tk_Vi hC hK hw hT hA hE hSR kM_at0 (by decide) rfl (k_X12_streetOf_11 l adK adV dC dI cy ad B (by omega) (by omega) qr s1   a1 (show 0 ≤ a1.toInt by omega) (show a1.toInt ≤ 12 by omega) w0 H.size hT ) (cwV 2 hC.2.2.2.2 gX12_isDayFor_X12_streetOf rfl rfl rfl (by decide +kernel) ⟨Nat.le_of_ble_eq_true rfl, Nat.le_of_ble_eq_true rfl⟩) rfl hl.1 rfl (Nat.le_of_ble_eq_true rfl) dX12_isDayFor_26 (fun r22 w24 H locs hp23 hw => ?_)
    obtain ⟨rfl, hg29⟩ := hp23
    obtain ⟨g26, g27, c28⟩ := hg29
    refine lv_iload_n hx hb dX12_isDayFor_29 rfl (lv_at hl 3 rfl) ?_
    refine lv_sipush (v := 360) hx hb dX12_isDayFor_30 (by decide) ?_
    refine lv_irem hx hb dX12_isDayFor_33 (by decide) ?_
    refine lv_topi (fun x30 ex30 => ?_)
    have ex30 : x30.toInt = a3.toInt % (360 : Int) := by rw [ex30]; exact wk_rem (show 0 ≤ a3.toInt by omega) (show 0 < (360 : Int) by decide)
    refine tk_Vi hC hK hw hT hA hE hSR kM_at0 (by decide) rfl (k_X12_isClosed_2 l adK adV dC dI cy ad B (by omega) (by omega) qr s1   r22 (show 0 ≤ r22.toInt by omega) (show r22.toInt ≤ 9 by omega) x30 (show 0 ≤ x30.toInt by omega) (show x30.toInt ≤ 359 by omega) w0 H.size hT ) (cwV 2 hC.2.2.2.2 gX12_isDayFor_X12_isClosed rfl rfl rfl (by decide +kernel) ⟨Nat.le_of_ble_eq_true rfl, Nat.le_of_ble_eq_true rfl⟩) rfl hl.1 rfl (Nat.le_of_ble_eq_true rfl) dX12_isDayFor_34 (fun r31 w33 H locs hp32 hw => ?_)
    obtain ⟨rfl, hg41⟩ := hp32
    rcases hg41 with ⟨rfl, hq35⟩ | ⟨rfl, ⟨x36, c37, rx36, tx36⟩, ⟨x38, c39, rx38, tx38⟩, hq40⟩
    · refine lv_if_ne (tgt := 62) hx hb dX12_isDayFor_37 (by decide) (fun c => absurd (by decide) c) (fun _ => ?_)
      refine lv_aload_n hx hb dX12_isDayFor_40 rfl (lv_at hl 0 rfl) ?_
      refine lv_aload_n hx hb dX12_isDayFor_41 rfl (lv_at hl 0 rfl) ?_
      refine lv_iload_n hx hb dX12_isDayFor_42 rfl (lv_at hl 1 rfl) ?_
      refine lv_iconst (v := 1) hx hb dX12_isDayFor_43 (by decide) ?_
      refine tk_Vi hC hK hw hT hA hE hSR kM_at0 (by decide) rfl (k_X12_streetOf_12 l adK adV dC dI cy ad B (by omega) (by omega) qr s1   a1 (show 0 ≤ a1.toInt by omega) (show a1.toInt ≤ 12 by omega) w0 H.size hT ) (cwV 2 hC.2.2.2.2 gX12_isDayFor_X12_streetOf rfl rfl rfl (by decide +kernel) ⟨Nat.le_of_ble_eq_true rfl, Nat.le_of_ble_eq_true rfl⟩) rfl hl.1 rfl (Nat.le_of_ble_eq_true rfl) dX12_isDayFor_44 (fun r42 w44 H locs hp43 hw => ?_)
      obtain ⟨rfl, hg49⟩ := hp43
      obtain ⟨g46, g47, c48⟩ := hg49
      refine lv_iload_n hx hb dX12_isDayFor_47 rfl (lv_at hl 3 rfl) ?_
      refine lv_sipush (v := 360) hx hb dX12_isDayFor_48 (by decide) ?_
      refine lv_irem hx hb dX12_isDayFor_51 (by decide) ?_
      refine lv_topi (fun x50 ex50 => ?_)
      have ex50 : x50.toInt = a3.toInt % (360 : Int) := by rw [ex50]; exact wk_rem (show 0 ≤ a3.toInt by omega) (show 0 < (360 : Int) by decide)
      refine tk_Vi hC hK hw hT hA hE hSR kM_at0 (by decide) rfl (k_X12_isClosed_2 l adK adV dC dI cy ad B (by omega) (by omega) qr s1   r42 (show 0 ≤ r42.toInt by omega) (show r42.toInt ≤ 9 by omega) x50 (show 0 ≤ x50.toInt by omega) (show x50.toInt ≤ 359 by omega) w0 H.size hT ) (cwV 2 hC.2.2.2.2 gX12_isDayFor_X12_isClosed rfl rfl rfl (by decide +kernel) ⟨Nat.le_of_ble_eq_true rfl, Nat.le_of_ble_eq_true rfl⟩) rfl hl.1 rfl (Nat.le_of_ble_eq_true rfl) dX12_isDayFor_52 (fun r51 w53 H locs hp52 hw => ?_)
      obtain ⟨rfl, hg61⟩ := hp52
      rcases hg61 with ⟨rfl, hq55⟩ | ⟨rfl, ⟨x56, c57, rx56, tx56⟩, ⟨x58, c59, rx58, tx58⟩, hq60⟩
      · refine lv_if_ne (tgt := 62) hx hb dX12_isDayFor_55 (by decide) (fun c => absurd (by decide) c) (fun _ => ?_)
        refine lv_iconst (v := 1) hx hb dX12_isDayFor_58 (by decide) ?_
        refine lv_goto (tgt := 63) hx hb dX12_isDayFor_59 (by decide) ?_
        exact tk_zret hC hr rfl hlocks hK ⟨rfl, (Or.inr (Or.inr (Or.inl ⟨rfl, (by have hq35 := hq35; rw [show x30.toInt = a3.toInt % 360 by omega] at hq35; have hq55 := hq55; rw [show x50.toInt = a3.toInt % 360 by omega] at hq55; unfold mDay; rw [show (10 * a1.toInt + (3 + a3.toInt % 7) + 10) = 10 * a1.toInt + 1 * x2.toInt + 10 by omega]; simp only [c9, c28, c48]; first | exact ⟨by assumption, by assumption, by assumption⟩ | (rintro ⟨q1, q2, q3⟩; first | exact absurd q1 (by assumption) | exact q2 (by assumption) | exact q3 (by assumption)))⟩)))⟩ hw dX12_isDayFor_63
      · refine lv_if_ne (tgt := 62) hx hb dX12_isDayFor_55 (by decide) (fun _ => ?_) (fun c => absurd c (by decide))
        refine lv_iconst (v := 0) hx hb dX12_isDayFor_62 (by decide) ?_
        exact tk_zret hC hr rfl hlocks hK ⟨rfl, (Or.inl ⟨rfl, (by have hq35 := hq35; rw [show x30.toInt = a3.toInt % 360 by omega] at hq35; have hq60 := hq60; rw [show x50.toInt = a3.toInt % 360 by omega] at hq60; unfold mDay; rw [show (10 * a1.toInt + (3 + a3.toInt % 7) + 10) = 10 * a1.toInt + 1 * x2.toInt + 10 by omega]; simp only [c9, c28, c48, c57, c59]; first | exact ⟨by assumption, by assumption, by assumption⟩ | (rintro ⟨q1, q2, q3⟩; first | exact absurd q1 (by assumption) | exact q2 (by assumption) | exact q3 (by assumption)))⟩)⟩ hw dX12_isDayFor_63
    · refine lv_if_ne (tgt := 62) hx hb dX12_isDayFor_37 (by decide) (fun _ => ?_) (fun c => absurd c (by decide))
      refine lv_iconst (v := 0) hx hb dX12_isDayFor_62 (by decide) ?_
      exact tk_zret hC hr rfl hlocks hK ⟨rfl, (Or.inl ⟨rfl, (by have hq40 := hq40; rw [show x30.toInt = a3.toInt % 360 by omega] at hq40; unfold mDay; rw [show (10 * a1.toInt + (3 + a3.toInt % 7) + 10) = 10 * a1.toInt + 1 * x2.toInt + 10 by omega]; simp only [c9, c28, c37, c39]; first | exact ⟨by assumption, by assumption, by assumption⟩ | (rintro ⟨q1, q2, q3⟩; first | exact absurd q1 (by assumption) | exact q2 (by assumption) | exact q3 (by assumption)))⟩)⟩ hw dX12_isDayFor_63
  · refine lv_if_ne (tgt := 22) hx hb dX12_isDayFor_17 (by decide) (fun _ => ?_) (fun c => absurd c (by decide))
    refine lv_aload_n hx hb dX12_isDayFor_22 rfl (lv_at hl 0 rfl) ?_
    refine lv_aload_n hx hb dX12_isDayFor_23 rfl (lv_at hl 0 rfl) ?_
    refine lv_iload_n hx hb dX12_isDayFor_24 rfl (lv_at hl 1 rfl) ?_
    refine lv_iconst (v := 0) hx hb dX12_isDayFor_25 (by decide) ?_
    refine tk_Vi hC hK hw hT hA hE hSR kM_at0 (by decide) rfl (k_X12_streetOf_11 l adK adV dC dI cy ad B (by omega) (by omega) qr s1   a1 (show 0 ≤ a1.toInt by omega) (show a1.toInt ≤ 12 by omega) w0 H.size hT ) (cwV 2 hC.2.2.2.2 gX12_isDayFor_X12_streetOf rfl rfl rfl (by decide +kernel) ⟨Nat.le_of_ble_eq_true rfl, Nat.le_of_ble_eq_true rfl⟩) rfl hl.1 rfl (Nat.le_of_ble_eq_true rfl) dX12_isDayFor_26 (fun r62 w64 H locs hp63 hw => ?_)
    obtain ⟨rfl, hg69⟩ := hp63
    obtain ⟨g66, g67, c68⟩ := hg69
    obtain rfl : a2 = r62 := c19.symm.trans c68
    refine lv_iload_n hx hb dX12_isDayFor_29 rfl (lv_at hl 3 rfl) ?_
    refine lv_sipush (v := 360) hx hb dX12_isDayFor_30 (by decide) ?_
    refine lv_irem hx hb dX12_isDayFor_33 (by decide) ?_
    refine lv_topi (fun x70 ex70 => ?_)
    have ex70 : x70.toInt = a3.toInt % (360 : Int) := by rw [ex70]; exact wk_rem (show 0 ≤ a3.toInt by omega) (show 0 < (360 : Int) by decide)
    refine tk_Vi hC hK hw hT hA hE hSR kM_at0 (by decide) rfl (k_X12_isClosed_2 l adK adV dC dI cy ad B (by omega) (by omega) qr s1   a2 (show 0 ≤ a2.toInt by omega) (show a2.toInt ≤ 9 by omega) x70 (show 0 ≤ x70.toInt by omega) (show x70.toInt ≤ 359 by omega) w0 H.size hT ) (cwV 2 hC.2.2.2.2 gX12_isDayFor_X12_isClosed rfl rfl rfl (by decide +kernel) ⟨Nat.le_of_ble_eq_true rfl, Nat.le_of_ble_eq_true rfl⟩) rfl hl.1 rfl (Nat.le_of_ble_eq_true rfl) dX12_isDayFor_34 (fun r71 w73 H locs hp72 hw => ?_)
    obtain ⟨rfl, hg81⟩ := hp72
    rcases hg81 with ⟨rfl, hq75⟩ | ⟨rfl, ⟨x76, c77, rx76, tx76⟩, ⟨x78, c79, rx78, tx78⟩, hq80⟩
    · refine lv_if_ne (tgt := 62) hx hb dX12_isDayFor_37 (by decide) (fun c => absurd (by decide) c) (fun _ => ?_)
      refine lv_aload_n hx hb dX12_isDayFor_40 rfl (lv_at hl 0 rfl) ?_
      refine lv_aload_n hx hb dX12_isDayFor_41 rfl (lv_at hl 0 rfl) ?_
      refine lv_iload_n hx hb dX12_isDayFor_42 rfl (lv_at hl 1 rfl) ?_
      refine lv_iconst (v := 1) hx hb dX12_isDayFor_43 (by decide) ?_
      refine tk_Vi hC hK hw hT hA hE hSR kM_at0 (by decide) rfl (k_X12_streetOf_12 l adK adV dC dI cy ad B (by omega) (by omega) qr s1   a1 (show 0 ≤ a1.toInt by omega) (show a1.toInt ≤ 12 by omega) w0 H.size hT ) (cwV 2 hC.2.2.2.2 gX12_isDayFor_X12_streetOf rfl rfl rfl (by decide +kernel) ⟨Nat.le_of_ble_eq_true rfl, Nat.le_of_ble_eq_true rfl⟩) rfl hl.1 rfl (Nat.le_of_ble_eq_true rfl) dX12_isDayFor_44 (fun r82 w84 H locs hp83 hw => ?_)
      obtain ⟨rfl, hg89⟩ := hp83
      obtain ⟨g86, g87, c88⟩ := hg89
      refine lv_iload_n hx hb dX12_isDayFor_47 rfl (lv_at hl 3 rfl) ?_
      refine lv_sipush (v := 360) hx hb dX12_isDayFor_48 (by decide) ?_
      refine lv_irem hx hb dX12_isDayFor_51 (by decide) ?_
      refine lv_topi (fun x90 ex90 => ?_)
      have ex90 : x90.toInt = a3.toInt % (360 : Int) := by rw [ex90]; exact wk_rem (show 0 ≤ a3.toInt by omega) (show 0 < (360 : Int) by decide)
      refine tk_Vi hC hK hw hT hA hE hSR kM_at0 (by decide) rfl (k_X12_isClosed_2 l adK adV dC dI cy ad B (by omega) (by omega) qr s1   r82 (show 0 ≤ r82.toInt by omega) (show r82.toInt ≤ 9 by omega) x90 (show 0 ≤ x90.toInt by omega) (show x90.toInt ≤ 359 by omega) w0 H.size hT ) (cwV 2 hC.2.2.2.2 gX12_isDayFor_X12_isClosed rfl rfl rfl (by decide +kernel) ⟨Nat.le_of_ble_eq_true rfl, Nat.le_of_ble_eq_true rfl⟩) rfl hl.1 rfl (Nat.le_of_ble_eq_true rfl) dX12_isDayFor_52 (fun r91 w93 H locs hp92 hw => ?_)
      obtain ⟨rfl, hg101⟩ := hp92
      rcases hg101 with ⟨rfl, hq95⟩ | ⟨rfl, ⟨x96, c97, rx96, tx96⟩, ⟨x98, c99, rx98, tx98⟩, hq100⟩
      · refine lv_if_ne (tgt := 62) hx hb dX12_isDayFor_55 (by decide) (fun c => absurd (by decide) c) (fun _ => ?_)
        refine lv_iconst (v := 1) hx hb dX12_isDayFor_58 (by decide) ?_
        refine lv_goto (tgt := 63) hx hb dX12_isDayFor_59 (by decide) ?_
        exact tk_zret hC hr rfl hlocks hK ⟨rfl, (Or.inr (Or.inr (Or.inr ⟨rfl, c19, (by have hq75 := hq75; rw [show x70.toInt = a3.toInt % 360 by omega] at hq75; have hq95 := hq95; rw [show x90.toInt = a3.toInt % 360 by omega] at hq95; unfold mDay; rw [show (10 * a1.toInt + (3 + a3.toInt % 7) + 10) = 10 * a1.toInt + 1 * x2.toInt + 10 by omega]; simp only [c9, c19, c88]; first | exact ⟨by assumption, by assumption, by assumption⟩ | (rintro ⟨q1, q2, q3⟩; first | exact absurd q1 (by assumption) | exact q2 (by assumption) | exact q3 (by assumption)))⟩)))⟩ hw dX12_isDayFor_63
      · refine lv_if_ne (tgt := 62) hx hb dX12_isDayFor_55 (by decide) (fun _ => ?_) (fun c => absurd c (by decide))
        refine lv_iconst (v := 0) hx hb dX12_isDayFor_62 (by decide) ?_
        exact tk_zret hC hr rfl hlocks hK ⟨rfl, (Or.inr (Or.inl ⟨rfl, c19, (by have hq75 := hq75; rw [show x70.toInt = a3.toInt % 360 by omega] at hq75; have hq100 := hq100; rw [show x90.toInt = a3.toInt % 360 by omega] at hq100; unfold mDay; rw [show (10 * a1.toInt + (3 + a3.toInt % 7) + 10) = 10 * a1.toInt + 1 * x2.toInt + 10 by omega]; simp only [c9, c19, c88, c97, c99]; first | exact ⟨by assumption, by assumption, by assumption⟩ | (rintro ⟨q1, q2, q3⟩; first | exact absurd q1 (by assumption) | exact q2 (by assumption) | exact q3 (by assumption)))⟩))⟩ hw dX12_isDayFor_63
    · refine lv_if_ne (tgt := 62) hx hb dX12_isDayFor_37 (by decide) (fun _ => ?_) (fun c => absurd c (by decide))
      refine lv_iconst (v := 0) hx hb dX12_isDayFor_62 (by decide) ?_
      exact tk_zret hC hr rfl hlocks hK ⟨rfl, (Or.inr (Or.inl ⟨rfl, c19, (by have hq80 := hq80; rw [show x70.toInt = a3.toInt % 360 by omega] at hq80; unfold mDay; rw [show (10 * a1.toInt + (3 + a3.toInt % 7) + 10) = 10 * a1.toInt + 1 * x2.toInt + 10 by omega]; simp only [c9, c19, c77, c79]; first | exact ⟨by assumption, by assumption, by assumption⟩ | (rintro ⟨q1, q2, q3⟩; first | exact absurd q1 (by assumption) | exact q2 (by assumption) | exact q3 (by assumption)))⟩))⟩ hw dX12_isDayFor_63
abbrev P_X12_isLifted_6 (ad : Nat → Nat) (cy : Nat → ClassId) (B : Int) (qr : Nat) (s1 : Int) (a1 : Int32) (a2 : Int32) (w0 : va_W) : Int32 → va_W → Prop := fun r u => w0 = u ∧ ((r = 0 ∧ (¬ mLf w0 a1.toInt a2.toInt)) ∨ (r = 1 ∧ (∃ y : Int32, gi u 12 3 = y ∧ 1 ≤ y.toInt ∧ y.toInt ≤ 4) ∧ (mLf w0 a1.toInt a2.toInt)))
set_option maxHeartbeats 4000000 in
set_option maxRecDepth 100000 in
theorem k_X12_isLifted_6 (l : Launch) (adK adV : Nat → Nat) (dC : Nat → ClassId) (dI : Nat → Nat → Nat) (cy : Nat → ClassId) (ad : Nat → Nat) (B : Int) (hB0 : 100000 ≤ B) (hB1 : B ≤ 1073741824) (qr : Nat) (s1 : Int)  (a1 : Int32) (ra1 : 0 ≤ a1.toInt) (ta1 : a1.toInt ≤ 12) (a2 : Int32) (ra2 : 0 ≤ a2.toInt) (ta2 : a2.toInt ≤ 101999) (w0 : va_W) (sz : Nat) (hT : TW ksM ad cy B qr 13 w0)  : Met l yX12_isLifted wsX12_isLifted ({ frames := 1, cells := 0, slots := 0, locals := 12 }) (va_Pc [.ref (ad 0), .int a1, .int a2] (wpreS adK adV dC dI cy sz w0)) (va_Qi (P_X12_isLifted_6 ad cy B qr s1 a1 a2 w0) (fun u : va_W => wpost dC dI cy (va_A w0 sz) u) (va_A w0 sz)) 0 0 (va_A w0 sz) := by
  refine Met.ofW (cc := cX12_isLifted) (maxL := 5) (ret := (some .boolean)) (by decide) rfl ?_
  intro p e s m args below meth c s₁ Bk hml hv
  obtain ⟨rfl, ⟨hsz, hP, hK, hD0⟩, hE, hSR⟩ := hv
  have hx := Bk.exec
  have hb := Bk.bytes
  have hr := Bk.returns
  have hlocks := Bk.notSynchronized
  have hC : CallFix p m c cX12_isLifted 5 s _ wsX12_isLifted RX12 := ⟨hx, hb, hml, findClass_of_methodNamed Bk.named, atoms_spec (ws := wsX12_isLifted) Bk.pre⟩
  subst hsz
  have hD := hD0.self (sz := s.heap.size)
  generalize hAe : va_A w0 s.heap.size = A at hD hE ⊢
  have hA : ∀ q : Nat, s.heap.size ≤ q → A q := fun q h => by rw [← hAe]; exact Or.inr h
  have hw : Wd dC dI A s.heap s.heap [] w0 := ⟨hP, hD, va_S.rf⟩
  have hF : FE ksM ([] : List (Nat × Nat × Nat)) w0 w0 := FE.rf
  have hl := lv_entry ([.ref (ad 0), .int a1, .int a2]) (n := 5) (Nat.le_of_ble_eq_true rfl)
  rw [lg_entry_eq]
  generalize (lg_sl ([.ref (ad 0), .int a1, .int a2]) ++ List.replicate (5 - (lg_sl ([.ref (ad 0), .int a1, .int a2])).length) Slot.unset).toArray = ls at hl ⊢
  have hl : lv_has ls 5 [(0, .ref (ad 0)), (1, .int a1), (2, .int a2)] := hl
  generalize hloc : ([] : List Loc) = locs at hw ⊢
  have hinX12 : ∀ w ∈ u_ws RX12 TX12 42, w ∈ wsX12_isLifted := fun _ h => List.mem_cons_of_mem _ (List.mem_append_right _ (h))
  have L2 : ∀ (n2 : Nat) (v2_3 : Int32) (H : Heap) (locs : List Loc) (ls : Array Slot), 0 ≤ a1.toInt → a1.toInt ≤ 12 → 0 ≤ a2.toInt → a2.toInt ≤ 101999 → 0 ≤ v2_3.toInt → v2_3.toInt ≤ 4 → (∀ k : Int, 0 ≤ k → k < v2_3.toInt → ¬ mLf1 w0 k a1.toInt a2.toInt) → (4 - v2_3.toInt).toNat < n2 → Wd dC dI A s.heap H locs w0 → lv_has ls 5 [(0, .ref (ad 0)), (1, .int a1), (2, .int a2), (3, .int v2_3)] → W p l e ({ frames := 1, cells := 0, slots := 0, locals := 12 }) s m (List.toArray [.ref (ad 0), .int a1, .int a2]) below meth c H locs 0 0 (MQ below (va_Qi (P_X12_isLifted_6 ad cy B qr s1 a1 a2 w0) (fun u : va_W => wpost dC dI cy A u) A) (List.toArray [.ref (ad 0), .int a1, .int a2]) s 0 0 A) (F0 m 2 ls []) := by
    intro n2
    induction n2 with
    | zero => intro v2_3 H locs ls r1 t2 r3 t4 r5 t6 hcr2_0 hm2 hw hl; omega
    | succ n2 ih2 =>
      intro v2_3 H locs ls r1 t2 r3 t4 r5 t6 hcr2_0 hm2 hw hl
      refine lv_iload_n hx hb dX12_isLifted_2 rfl (lv_at hl 3 rfl) ?_
      refine lv_aload_n hx hb dX12_isLifted_3 rfl (lv_at hl 0 rfl) ?_
      refine tk_getA hC hK hw hT hinX12 kM_at0 (by decide) rfl 26 (by decide) (List.mem_of_getElem? (i := 1) rfl) rfl rfl dX12_isLifted_4 ?_
      refine lv_iconst (v := 3) hx hb dX12_isLifted_7 (by decide) ?_
      refine tk_ialdR hC hK hw hT kM_at12 rfl (by decide) (by decide) dX12_isLifted_8 (fun x7 c8 Ex7 => ?_)
      have bx7 := tk_rgI rfl 3 1 1 0 4 (by decide +kernel) ⟨0, by decide, by decide⟩ Ex7
      have c8 : gi w0 12 3 = x7 := c8
      refine lv_icmp_ge (tgt := 72) hx hb dX12_isLifted_9 (by decide) (fun c9 => ?_) (fun c9 => ?_)
      · have c9 : x7.toInt ≤ v2_3.toInt := wk_le.mp c9
        refine lv_iconst (v := 0) hx hb dX12_isLifted_72 (by decide) ?_
        exact tk_zret hC hr rfl hlocks hK ⟨rfl, (Or.inl ⟨rfl, (by exact mLf_no hcr2_0 (by simp only [c8]; omega))⟩)⟩ hw dX12_isLifted_73
      · have c9 : v2_3.toInt < x7.toInt := wk_leF c9
        refine lv_sipush (v := 156) hx hb dX12_isLifted_12 (by decide) ?_
        refine lv_iconst (v := 3) hx hb dX12_isLifted_15 (by decide) ?_
        refine lv_iload_n hx hb dX12_isLifted_16 rfl (lv_at hl 3 rfl) ?_
        refine lv_imul hx hb dX12_isLifted_17 ?_
        refine lv_topi (fun x10 ex10 => ?_)
        have ex10 : x10.toInt = (3 : Int) * v2_3.toInt := by rw [ex10]; exact wk_mul (show (-2147483648) ≤ (3 : Int) * v2_3.toInt by omega) (show (3 : Int) * v2_3.toInt ≤ 2147483647 by omega)
        refine lv_iadd hx hb dX12_isLifted_18 ?_
        refine lv_topi (fun x11 ex11 => ?_)
        have ex11 : x11.toInt = (156 : Int) + x10.toInt := by rw [ex11]; exact wk_add (show (-2147483648) ≤ (156 : Int) + x10.toInt by omega) (show (156 : Int) + x10.toInt ≤ 2147483647 by omega)
        refine lv_istore (lv' := [(4, .int x11), (0, .ref (ad 0)), (1, .int a1), (2, .int a2), (3, .int v2_3)]) hx hb dX12_isLifted_19 hl (by decide) rfl (fun ls hl => ?_)
        refine lv_aload_n hx hb dX12_isLifted_21 rfl (lv_at hl 1 rfl) ?_
        refine tk_getA hC hK hw hT hinX12 kM_at0 (by decide) rfl 26 (by decide) (List.mem_of_getElem? (i := 1) rfl) rfl rfl dX12_isLifted_22 ?_
        refine lv_iload hx hb dX12_isLifted_25 (lv_at hl 0 rfl) ?_
        refine tk_ialdR hC hK hw hT kM_at12 rfl (show 0 ≤ x11.toInt by omega) (show x11.toInt < 296 by omega) dX12_isLifted_27 (fun x12 c13 Ex12 => ?_)
        have c13 : gi w0 12 (3 * v2_3.toInt + 156).toNat = x12 := (congrArg (gi w0 12) (congrArg Int.toNat (show 3 * v2_3.toInt + 156 = x11.toInt by omega))).trans c13
        refine lv_iload_n hx hb dX12_isLifted_28 rfl (lv_at hl 2 rfl) ?_
        refine lv_icmp_ne (tgt := 66) hx hb dX12_isLifted_29 (by decide) (fun c14 => ?_) (fun c14 => ?_)
        · have c14 : ¬ x12.toInt = a1.toInt := wk_eqF c14
          obtain ⟨x15, ex15⟩ : ∃ y : Int32, y = v2_3 + Int32.ofInt 1 := ⟨_, rfl⟩
          refine lv_iinc (v := x15) (lv' := [(3, .int x15), (4, .int x11), (0, .ref (ad 0)), (1, .int a1), (2, .int a2)]) hx hb dX12_isLifted_66 hl (k := 4) rfl ex15.symm (by decide) rfl (fun ls hl => ?_)
          have ex15 : x15.toInt = v2_3.toInt + 1 := by rw [ex15]; exact wk_add (y := 1) (show -2147483648 ≤ v2_3.toInt + 1 by omega) (show v2_3.toInt + 1 ≤ 2147483647 by omega)
          refine lv_goto (tgt := 2) hx hb dX12_isLifted_69 (by decide) ?_
          exact ih2 x15 H locs ls  (show 0 ≤ a1.toInt by omega) (show a1.toInt ≤ 12 by omega) (show 0 ≤ a2.toInt by omega) (show a2.toInt ≤ 101999 by omega) (show 0 ≤ x15.toInt by omega) (show x15.toInt ≤ 4 by omega) (show ∀ k : Int, 0 ≤ k → k < x15.toInt → ¬ mLf1 w0 k a1.toInt a2.toInt from all_step hcr2_0 (show ¬ mLf1 w0 v2_3.toInt a1.toInt a2.toInt by unfold mLf1; simp only [c8, c13]; omega) (by omega)) (show (4 - x15.toInt).toNat < n2 by omega) hw   (lv_sub hl [2, 3, 4, 0] rfl)
        · have c14 : x12.toInt = a1.toInt := wk_eq.mp c14
          refine lv_iload_n hx hb dX12_isLifted_32 rfl (lv_at hl 3 rfl) ?_
          refine lv_bipush (v := 24) hx hb dX12_isLifted_33 (by decide) ?_
          refine lv_irem hx hb dX12_isLifted_35 (by decide) ?_
          refine lv_topi (fun x16 ex16 => ?_)
          have ex16 : x16.toInt = a2.toInt % (24 : Int) := by rw [ex16]; exact wk_rem (show 0 ≤ a2.toInt by omega) (show 0 < (24 : Int) by decide)
          refine lv_aload_n hx hb dX12_isLifted_36 rfl (lv_at hl 1 rfl) ?_
          refine tk_getA hC hK hw hT hinX12 kM_at0 (by decide) rfl 26 (by decide) (List.mem_of_getElem? (i := 1) rfl) rfl rfl dX12_isLifted_37 ?_
          refine lv_iload hx hb dX12_isLifted_40 (lv_at hl 0 rfl) ?_
          refine lv_iconst (v := 1) hx hb dX12_isLifted_42 (by decide) ?_
          refine lv_iadd hx hb dX12_isLifted_43 ?_
          refine lv_topi (fun x17 ex17 => ?_)
          have ex17 : x17.toInt = x11.toInt + (1 : Int) := by rw [ex17]; exact wk_add (show (-2147483648) ≤ x11.toInt + (1 : Int) by omega) (show x11.toInt + (1 : Int) ≤ 2147483647 by omega)
          refine tk_ialdR hC hK hw hT kM_at12 rfl (show 0 ≤ x17.toInt by omega) (show x17.toInt < 296 by omega) dX12_isLifted_44 (fun x18 c19 Ex18 => ?_)
          have c19 : gi w0 12 (3 * v2_3.toInt + 157).toNat = x18 := (congrArg (gi w0 12) (congrArg Int.toNat (show 3 * v2_3.toInt + 157 = x17.toInt by omega))).trans c19
          refine lv_icmp_lt (tgt := 66) hx hb dX12_isLifted_45 (by decide) (fun c20 => ?_) (fun c20 => ?_)
          · have c20 : x16.toInt < x18.toInt := wk_lt.mp c20
            obtain ⟨x21, ex21⟩ : ∃ y : Int32, y = v2_3 + Int32.ofInt 1 := ⟨_, rfl⟩
            refine lv_iinc (v := x21) (lv' := [(3, .int x21), (4, .int x11), (0, .ref (ad 0)), (1, .int a1), (2, .int a2)]) hx hb dX12_isLifted_66 hl (k := 4) rfl ex21.symm (by decide) rfl (fun ls hl => ?_)
            have ex21 : x21.toInt = v2_3.toInt + 1 := by rw [ex21]; exact wk_add (y := 1) (show -2147483648 ≤ v2_3.toInt + 1 by omega) (show v2_3.toInt + 1 ≤ 2147483647 by omega)
            refine lv_goto (tgt := 2) hx hb dX12_isLifted_69 (by decide) ?_
            exact ih2 x21 H locs ls  (show 0 ≤ a1.toInt by omega) (show a1.toInt ≤ 12 by omega) (show 0 ≤ a2.toInt by omega) (show a2.toInt ≤ 101999 by omega) (show 0 ≤ x21.toInt by omega) (show x21.toInt ≤ 4 by omega) (show ∀ k : Int, 0 ≤ k → k < x21.toInt → ¬ mLf1 w0 k a1.toInt a2.toInt from all_step hcr2_0 (show ¬ mLf1 w0 v2_3.toInt a1.toInt a2.toInt by unfold mLf1; simp only [c8, c13, c19]; omega) (by omega)) (show (4 - x21.toInt).toNat < n2 by omega) hw   (lv_sub hl [2, 3, 4, 0] rfl)
          · have c20 : x18.toInt ≤ x16.toInt := wk_ltF c20
            refine lv_iload_n hx hb dX12_isLifted_48 rfl (lv_at hl 3 rfl) ?_
            refine lv_bipush (v := 24) hx hb dX12_isLifted_49 (by decide) ?_
            refine lv_irem hx hb dX12_isLifted_51 (by decide) ?_
            refine lv_topi (fun x22 ex22 => ?_)
            have ex22 : x22.toInt = a2.toInt % (24 : Int) := by rw [ex22]; exact wk_rem (show 0 ≤ a2.toInt by omega) (show 0 < (24 : Int) by decide)
            refine lv_aload_n hx hb dX12_isLifted_52 rfl (lv_at hl 1 rfl) ?_
            refine tk_getA hC hK hw hT hinX12 kM_at0 (by decide) rfl 26 (by decide) (List.mem_of_getElem? (i := 1) rfl) rfl rfl dX12_isLifted_53 ?_
            refine lv_iload hx hb dX12_isLifted_56 (lv_at hl 0 rfl) ?_
            refine lv_iconst (v := 2) hx hb dX12_isLifted_58 (by decide) ?_
            refine lv_iadd hx hb dX12_isLifted_59 ?_
            refine lv_topi (fun x23 ex23 => ?_)
            have ex23 : x23.toInt = x11.toInt + (2 : Int) := by rw [ex23]; exact wk_add (show (-2147483648) ≤ x11.toInt + (2 : Int) by omega) (show x11.toInt + (2 : Int) ≤ 2147483647 by omega)
            refine tk_ialdR hC hK hw hT kM_at12 rfl (show 0 ≤ x23.toInt by omega) (show x23.toInt < 296 by omega) dX12_isLifted_60 (fun x24 c25 Ex24 => ?_)
            have c25 : gi w0 12 (3 * v2_3.toInt + 158).toNat = x24 := (congrArg (gi w0 12) (congrArg Int.toNat (show 3 * v2_3.toInt + 158 = x23.toInt by omega))).trans c25
            refine lv_icmp_ge (tgt := 66) hx hb dX12_isLifted_61 (by decide) (fun c26 => ?_) (fun c26 => ?_)
            · have c26 : x24.toInt ≤ x22.toInt := wk_le.mp c26
              obtain ⟨x27, ex27⟩ : ∃ y : Int32, y = v2_3 + Int32.ofInt 1 := ⟨_, rfl⟩
              refine lv_iinc (v := x27) (lv' := [(3, .int x27), (4, .int x11), (0, .ref (ad 0)), (1, .int a1), (2, .int a2)]) hx hb dX12_isLifted_66 hl (k := 4) rfl ex27.symm (by decide) rfl (fun ls hl => ?_)
              have ex27 : x27.toInt = v2_3.toInt + 1 := by rw [ex27]; exact wk_add (y := 1) (show -2147483648 ≤ v2_3.toInt + 1 by omega) (show v2_3.toInt + 1 ≤ 2147483647 by omega)
              refine lv_goto (tgt := 2) hx hb dX12_isLifted_69 (by decide) ?_
              exact ih2 x27 H locs ls  (show 0 ≤ a1.toInt by omega) (show a1.toInt ≤ 12 by omega) (show 0 ≤ a2.toInt by omega) (show a2.toInt ≤ 101999 by omega) (show 0 ≤ x27.toInt by omega) (show x27.toInt ≤ 4 by omega) (show ∀ k : Int, 0 ≤ k → k < x27.toInt → ¬ mLf1 w0 k a1.toInt a2.toInt from all_step hcr2_0 (show ¬ mLf1 w0 v2_3.toInt a1.toInt a2.toInt by unfold mLf1; simp only [c8, c13, c19, c25]; omega) (by omega)) (show (4 - x27.toInt).toNat < n2 by omega) hw   (lv_sub hl [2, 3, 4, 0] rfl)
            · have c26 : x22.toInt < x24.toInt := wk_leF c26
              refine lv_iconst (v := 1) hx hb dX12_isLifted_64 (by decide) ?_
              exact tk_zret hC hr rfl hlocks hK ⟨rfl, (Or.inr ⟨rfl, ⟨x7, c8, (show 1 ≤ x7.toInt by omega), (show x7.toInt ≤ 4 by omega)⟩, (by exact ⟨v2_3.toInt, by omega, by simp only [c8, c13, c19, c25]; omega, by unfold mLf1; simp only [c8, c13, c19, c25]; omega⟩)⟩)⟩ hw dX12_isLifted_65
  refine lv_iconst (v := 0) hx hb dX12_isLifted_0 (by decide) ?_
  refine lv_istore_n (lv' := [(3, .int 0), (0, .ref (ad 0)), (1, .int a1), (2, .int a2)]) hx hb dX12_isLifted_1 rfl hl (by decide) rfl (fun ls hl => ?_)
  exact L2 ((4 - (0 : Int)).toNat + 1) 0 s.heap locs ls  (show 0 ≤ a1.toInt by omega) (show a1.toInt ≤ 12 by omega) (show 0 ≤ a2.toInt by omega) (show a2.toInt ≤ 101999 by omega) (by decide) (by decide) (show ∀ k : Int, 0 ≤ k → k < (0 : Int) → ¬ mLf1 w0 k a1.toInt a2.toInt from all_none) (Nat.lt_succ_self _) hw   (lv_sub hl [1, 2, 3, 0] rfl)
