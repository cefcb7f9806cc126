abbrev P_X12_fact_2 (ad : Nat → Nat) (cy : Nat → ClassId) (B : Int) (qr : Nat) (s1 : Int)  (w0 : va_W) : Int32 → va_W → Prop := fun r u => TW ksM ad cy B qr 12 u ∧ FE ksM [(12, 14, 14), (12, 15, 15), (12, 16, 16), (12, 18, 18), (12, 19, 19), (12, 22, 22), (61, 0, 2400), (62, 0, 7), (68, 0, 400)] w0 u ∧ ((r = 0 ∧ (∃ y : Int32, gi u 0 1 = y ∧ 1 ≤ y.toInt ∧ y.toInt ≤ 400) ∧ (∃ y : Int32, gi u 0 15 = y ∧ 1 ≤ y.toInt ∧ y.toInt ≤ 3205) ∧ (∃ y : Int32, gi u 0 17 = y ∧ 1 ≤ y.toInt ∧ y.toInt ≤ 1) ∧ (∃ y : Int32, gi u 0 22 = y ∧ 0 ≤ y.toInt ∧ y.toInt ≤ 399)) ∨ (r = 0 ∧ (∃ y : Int32, gi u 0 1 = y ∧ 0 ≤ y.toInt ∧ y.toInt ≤ 400) ∧ (∃ y : Int32, gi u 0 15 = y ∧ 1 ≤ y.toInt ∧ y.toInt ≤ 3205) ∧ (∃ y : Int32, gi u 0 17 = y ∧ 1 ≤ y.toInt ∧ y.toInt ≤ 1) ∧ (∃ y : Int32, gi u 0 22 = y ∧ 0 ≤ y.toInt ∧ y.toInt ≤ 399)) ∨ (r = 1 ∧ (∃ y : Int32, gi u 0 1 = y ∧ 1 ≤ y.toInt ∧ y.toInt ≤ 400) ∧ (∃ y : Int32, gi u 0 17 = y ∧ 1 ≤ y.toInt ∧ y.toInt ≤ 1) ∧ (∃ y : Int32, gi u 0 18 = y ∧ 1 ≤ y.toInt ∧ y.toInt ≤ 60) ∧ (∃ y : Int32, gi u 0 22 = y ∧ 0 ≤ y.toInt ∧ y.toInt ≤ 390) ∧ (3 * ((gi u 3 1).toInt + (gi u 0 22).toInt) + 3 ≤ 14 * (gi u 0 18).toInt) ∧ ((gi u 0 22).toInt + 3 ≤ (gi u 0 19).toInt + (gi u 0 18).toInt) ∧ ((gi w0 0 18).toInt + 3 ≤ (gi u 0 18).toInt) ∧ ((gi u 3 1).toInt ≤ 280) ∧ ((gi u 0 22).toInt ≤ 280)))
set_option maxHeartbeats 4000000 in
set_option maxRecDepth 100000 in
theorem k_X12_fact_2 (l : Launch) (adK adV : Nat → Nat) (dC : Nat → ClassId) (dI : Nat → Nat → Nat) (cy : Nat → ClassId) (ad : Nat → Nat) (B : Int) (hB0 : 100000 ≤ B) (hB1 : B ≤ 1073741824) (qr : Nat) (s1 : Int)   (w0 : va_W) (sz : Nat) (hT : TW ksM ad cy B qr 12 w0) (cf0_ : gi w0 0 17 = 1) (f1_ : Int32) (cf1_ : gi w0 0 18 = f1_) (rf1_ : 0 ≤ f1_.toInt) (tf1_ : f1_.toInt ≤ 60) (f2_ : Int32) (cf2_ : gi w0 0 19 = f2_) (rf2_ : (-100) ≤ f2_.toInt) (tf2_ : f2_.toInt ≤ 10) (f3_ : Int32) (cf3_ : gi w0 0 22 = f3_) (rf3_ : 0 ≤ f3_.toInt) (tf3_ : f3_.toInt ≤ 400) (f4_ : Int32) (cf4_ : gi w0 3 1 = f4_) (rf4_ : 0 ≤ f4_.toInt) (tf4_ : f4_.toInt ≤ 400) (pr0_ : 3 * (f4_.toInt + f3_.toInt) ≤ 14 * f1_.toInt) (pr1_ : f3_.toInt ≤ f2_.toInt + f1_.toInt) (pr2_ : f4_.toInt ≤ 280) (pr3_ : f3_.toInt ≤ 280) : Met l yX12_fact wsX12_fact ({ frames := 8, cells := 0, slots := 0, locals := 166 }) (va_Pc [.ref (ad 0)] (wpreS adK adV dC dI cy sz w0)) (va_Qi (P_X12_fact_2 ad cy B qr s1  w0) (fun u : va_W => wpost dC dI cy (va_A w0 sz) u) (va_A w0 sz)) 0 0 (va_A w0 sz) := by
  refine Met.ofW (cc := cX12_fact) (maxL := 3) (ret := (some .boolean)) (by decide) rfl ?_
  intro p e s m args below meth c s₁ Bk hml hv
  obtain ⟨rfl, ⟨hsz, hP, hK, hD0⟩, hE, hSR⟩ := hv
  have hx := Bk.exec
  have hb := Bk.bytes
  have hr := Bk.returns
  have hlocks := Bk.notSynchronized
  have hC : CallFix p m c cX12_fact 3 s _ wsX12_fact RX12 := ⟨hx, hb, hml, findClass_of_methodNamed Bk.named, atoms_spec (ws := wsX12_fact) Bk.pre⟩
  subst hsz
  have hD := hD0.self (sz := s.heap.size)
  generalize hAe : va_A w0 s.heap.size = A at hD hE ⊢
  have hA : ∀ q : Nat, s.heap.size ≤ q → A q := fun q h => by rw [← hAe]; exact Or.inr h
  have hw : Wd dC dI A s.heap s.heap [] w0 := ⟨hP, hD, va_S.rf⟩
  have hF : FE ksM [(12, 14, 14), (12, 15, 15), (12, 16, 16), (12, 18, 18), (12, 19, 19), (12, 22, 22), (61, 0, 2400), (62, 0, 7), (68, 0, 400)] w0 w0 := FE.rf
  have hl := lv_entry ([.ref (ad 0)]) (n := 3) (Nat.le_of_ble_eq_true rfl)
  rw [lg_entry_eq]
  generalize (lg_sl ([.ref (ad 0)]) ++ List.replicate (3 - (lg_sl ([.ref (ad 0)])).length) Slot.unset).toArray = ls at hl ⊢
  have hl : lv_has ls 3 [(0, .ref (ad 0))] := hl
  generalize hloc : ([] : List Loc) = locs at hw ⊢
  have hinX12 : ∀ w ∈ u_ws RX12 TX12 42, w ∈ wsX12_fact := fun _ h => List.mem_cons_of_mem _ (List.mem_append_right _ (h))
  have L2 : ∀ (n2 : Nat) (v2_1 : Int32) (f2_0_19 : Int32) (f2_0_22 : Int32) (H : Heap) (locs : List Loc) (ls : Array Slot) (w1 : va_W), 0 ≤ v2_1.toInt → v2_1.toInt ≤ 1 → 0 ≤ f1_.toInt → f1_.toInt ≤ 60 → (-100) ≤ f2_0_19.toInt → f2_0_19.toInt ≤ 10 → 0 ≤ f2_0_22.toInt → f2_0_22.toInt ≤ 390 → 0 ≤ f4_.toInt → f4_.toInt ≤ 280 → (f4_.toInt = f4_.toInt) → (f1_.toInt = f1_.toInt) → (f2_0_22.toInt + f2_.toInt = f3_.toInt + f2_0_19.toInt) → (f2_.toInt ≤ f2_0_19.toInt) → (f4_.toInt ≤ 280) → (f2_0_22.toInt ≤ 390) → (2 * (10 - f2_0_19.toInt) + v2_1.toInt).toNat < n2 → Wd dC dI A s.heap H locs w1 → TW ksM ad cy B qr 12 w1 → FE ksM [(12, 14, 14), (12, 15, 15), (12, 16, 16), (12, 18, 18), (12, 19, 19), (12, 22, 22), (61, 0, 2400), (62, 0, 7), (68, 0, 400)] w0 w1 → gi w1 0 17 = 1 → gi w1 0 18 = f1_ → gi w1 0 19 = f2_0_19 → gi w1 0 22 = f2_0_22 → gi w1 3 1 = f4_ → lv_has ls 3 [(0, .ref (ad 0)), (1, .int v2_1)] → W p l e ({ frames := 8, cells := 0, slots := 0, locals := 166 }) s m (List.toArray [.ref (ad 0)]) below meth c H locs 0 0 (MQ below (va_Qi (P_X12_fact_2 ad cy B qr s1  w0) (fun u : va_W => wpost dC dI cy A u) A) (List.toArray [.ref (ad 0)]) s 0 0 A) (F0 m 2 ls []) := by
    intro n2
    induction n2 with
    | zero => intro v2_1 f2_0_19 f2_0_22 H locs ls w1 r2 t3 r5 t6 r8 t9 r11 t12 r14 t15 hcr2_0 hcr2_1 hcr2_2 hcr2_3 hcr2_4 hcr2_5 hm2 hw hT hF c4 c7 c10 c13 c16 hl; omega
    | succ n2 ih2 =>
      intro v2_1 f2_0_19 f2_0_22 H locs ls w1 r2 t3 r5 t6 r8 t9 r11 t12 r14 t15 hcr2_0 hcr2_1 hcr2_2 hcr2_3 hcr2_4 hcr2_5 hm2 hw hT hF c4 c7 c10 c13 c16 hl
      have J72 : ∀ (v72_1 : Int32) (v72_2 : Int32) (f72_0_1 : Int32) (f72_0_19 : Int32) (f72_0_22 : Int32) (H : Heap) (locs : List Loc) (ls : Array Slot) (w17 : va_W), 0 ≤ v72_1.toInt → v72_1.toInt ≤ 1 → (-1) ≤ v72_2.toInt → v72_2.toInt ≤ 255 → 0 ≤ f72_0_1.toInt → f72_0_1.toInt ≤ 400 → 0 ≤ f1_.toInt → f1_.toInt ≤ 60 → (-100) ≤ f72_0_19.toInt → f72_0_19.toInt ≤ 10 → 0 ≤ f72_0_22.toInt → f72_0_22.toInt ≤ 390 → 0 ≤ f4_.toInt → f4_.toInt ≤ 280 → (f4_.toInt = f4_.toInt) → (f1_.toInt = f1_.toInt) → (f72_0_22.toInt + f2_.toInt = f3_.toInt + f72_0_19.toInt) → (f2_.toInt ≤ f72_0_19.toInt) → (f4_.toInt ≤ 280) → (f72_0_22.toInt ≤ 390) → Wd dC dI A s.heap H locs w17 → TW ksM ad cy B qr 12 w17 → FE ksM [(12, 14, 14), (12, 15, 15), (12, 16, 16), (12, 18, 18), (12, 19, 19), (12, 22, 22), (61, 0, 2400), (62, 0, 7), (68, 0, 400)] w0 w17 → gi w17 0 1 = f72_0_1 → gi w17 0 17 = 1 → gi w17 0 18 = f1_ → gi w17 0 19 = f72_0_19 → gi w17 0 22 = f72_0_22 → gi w17 3 1 = f4_ → lv_has ls 3 [(0, .ref (ad 0)), (1, .int v72_1), (2, .int v72_2)] → W p l e ({ frames := 8, cells := 0, slots := 0, locals := 166 }) s m (List.toArray [.ref (ad 0)]) below meth c H locs 0 0 (MQ below (va_Qi (P_X12_fact_2 ad cy B qr s1  w0) (fun u : va_W => wpost dC dI cy A u) A) (List.toArray [.ref (ad 0)]) s 0 0 A) (F0 m 72 ls []) := by
        intro v72_1 v72_2 f72_0_1 f72_0_19 f72_0_22 H locs ls w17 r18 t19 r20 t21 r22 t23 r26 t27 r29 t30 r32 t33 r35 t36 hcr72_0 hcr72_1 hcr72_2 hcr72_3 hcr72_4 hcr72_5 hw hT hF c24 c25 c28 c31 c34 c37 hl
        refine lv_goto (tgt := 2) hx hb dX12_fact_72 (by decide) ?_
        exact ih2 v72_1 f72_0_19 f72_0_22 H locs ls w17 (show 0 ≤ v72_1.toInt by omega) (show v72_1.toInt ≤ 1 by omega) (show 0 ≤ f1_.toInt by omega) (show f1_.toInt ≤ 60 by omega) (show (-100) ≤ f72_0_19.toInt by omega) (show f72_0_19.toInt ≤ 10 by omega) (show 0 ≤ f72_0_22.toInt by omega) (show f72_0_22.toInt ≤ 390 by omega) (show 0 ≤ f4_.toInt by omega) (show f4_.toInt ≤ 280 by omega) (show f4_.toInt = f4_.toInt by omega) (show f1_.toInt = f1_.toInt by omega) (show f72_0_22.toInt + f2_.toInt = f3_.toInt + f72_0_19.toInt by omega) (show f2_.toInt ≤ f72_0_19.toInt by omega) (show f4_.toInt ≤ 280 by omega) (show f72_0_22.toInt ≤ 390 by omega) (show (2 * (10 - f72_0_19.toInt) + v72_1.toInt).toNat < n2 by omega) hw hT hF c25 c28 c31 c34 c37 (lv_sub hl [0, 1] rfl)
      refine lv_iload_n hx hb dX12_fact_2 rfl (lv_at hl 1 rfl) ?_
      refine lv_if_eq (tgt := 75) hx hb dX12_fact_3 (by decide) (fun c38 => ?_) (fun c38 => ?_)
      · have c38 : v2_1.toInt = (0 : Int) := wk_eq.mp c38
        refine lv_aload_n hx hb dX12_fact_75 rfl (lv_at hl 0 rfl) ?_
        refine tk_Vi hC hK hw hT hA hE hSR kM_at0 (by decide) rfl (k_X12_compare_2 l adK adV dC dI cy ad B (by omega) (by omega) qr s1    w1 H.size hT c4 f1_ c7 (show 0 ≤ f1_.toInt by omega) (show f1_.toInt ≤ 60 by omega) f4_ c16 (show 0 ≤ f4_.toInt by omega) (show f4_.toInt ≤ 400 by omega) (show 3 * f4_.toInt ≤ 14 * f1_.toInt + 30 by omega) (show f4_.toInt ≤ 290 by omega)) (cwV 0 hC.2.2.2.2 gX12_fact_X12_compare rfl rfl rfl (by decide +kernel) ⟨Nat.le_of_ble_eq_true rfl, Nat.le_of_ble_eq_true rfl⟩) rfl hl.1 rfl (Nat.le_of_ble_eq_true rfl) dX12_fact_76 (fun r39 w41 H locs hp40 hw => ?_)
        obtain ⟨hT, k42, hg63⟩ := hp40
        have hF := hF.tr k42 (by decide)
        have c64 := k42.gi kM_at0 (by decide) c4
        have c65 := k42.gi kM_at0 (by decide) c10
        have c66 := k42.gi kM_at0 (by decide) c13
        rcases hg63 with ⟨rfl, ⟨x43, c44, rx43, tx43⟩, ⟨x45, c46, rx45, tx45⟩, ⟨x47, c48, rx47, tx47⟩⟩ | ⟨rfl, ⟨x49, c50, rx49, tx49⟩, ⟨x51, c52, rx51, tx51⟩, ⟨x53, c54, rx53, tx53⟩⟩ | ⟨rfl, ⟨x55, c56, rx55, tx55⟩, ⟨x57, c58, rx57, tx57⟩, ⟨x59, c60, rx59, tx59⟩, g61, g62⟩
        · have ex47 : x47.toInt = (1 : Int) := by rw [show x47 = 1 from c48.symm.trans c64]; decide
          obtain ⟨x67, c68, rx67, tx67⟩ := hT.rda (lo := 0) (hi := 400) (i := 1) kM_at3 rfl rfl (by decide)
          obtain ⟨x69, c70, rx69, tx69⟩ := hT.rdi (lo := 0) (hi := 60) (k := 18) kM_at0 (by decide) rfl
          exact tk_zret hC hr rfl hlocks hK ⟨hT, hF, (Or.inl ⟨rfl, ⟨x43, c44, (show 1 ≤ x43.toInt by omega), (show x43.toInt ≤ 400 by omega)⟩, ⟨x45, c46, (show 1 ≤ x45.toInt by omega), (show x45.toInt ≤ 3205 by omega)⟩, ⟨1, c64, (by decide), (by decide)⟩, ⟨f2_0_22, c66, (show 0 ≤ f2_0_22.toInt by omega), (show f2_0_22.toInt ≤ 399 by omega)⟩⟩)⟩ hw dX12_fact_79
        · have ex53 : x53.toInt = (1 : Int) := by rw [show x53 = 1 from c54.symm.trans c64]; decide
          obtain ⟨x71, c72, rx71, tx71⟩ := hT.rda (lo := 0) (hi := 400) (i := 1) kM_at3 rfl rfl (by decide)
          obtain ⟨x73, c74, rx73, tx73⟩ := hT.rdi (lo := 0) (hi := 60) (k := 18) kM_at0 (by decide) rfl
          exact tk_zret hC hr rfl hlocks hK ⟨hT, hF, (Or.inr (Or.inl ⟨rfl, ⟨x49, c50, (show 0 ≤ x49.toInt by omega), (show x49.toInt ≤ 400 by omega)⟩, ⟨x51, c52, (show 1 ≤ x51.toInt by omega), (show x51.toInt ≤ 3205 by omega)⟩, ⟨1, c64, (by decide), (by decide)⟩, ⟨f2_0_22, c66, (show 0 ≤ f2_0_22.toInt by omega), (show f2_0_22.toInt ≤ 399 by omega)⟩⟩))⟩ hw dX12_fact_79
        · have ex57 : x57.toInt = (1 : Int) := by rw [show x57 = 1 from c58.symm.trans c64]; decide
          obtain ⟨x75, c76, rx75, tx75⟩ := hT.rda (lo := 0) (hi := 400) (i := 1) kM_at3 rfl rfl (by decide)
          have g61 : 3 * x75.toInt + 33 ≤ 3 * f4_.toInt + 14 * (x59.toInt - f1_.toInt) := by have q := g61; simp only [c16, c76, c7, c60] at q; omega
          have g62 : f1_.toInt + 3 ≤ x59.toInt := by have q := g62; simp only [c7, c60] at q; omega
          exact tk_zret hC hr rfl hlocks hK ⟨hT, hF, (Or.inr (Or.inr ⟨rfl, ⟨x55, c56, (show 1 ≤ x55.toInt by omega), (show x55.toInt ≤ 400 by omega)⟩, ⟨1, c64, (by decide), (by decide)⟩, ⟨x59, c60, (show 1 ≤ x59.toInt by omega), (show x59.toInt ≤ 60 by omega)⟩, ⟨f2_0_22, c66, (show 0 ≤ f2_0_22.toInt by omega), (show f2_0_22.toInt ≤ 390 by omega)⟩, (by simp only [c76, c60, c66]; omega), (by simp only [c65, c60, c66]; omega), (by simp only [cf1_, c60]; omega), (by simp only [c76]; omega), (by simp only [c66]; omega)⟩))⟩ hw dX12_fact_79
      · have c38 : ¬ v2_1.toInt = (0 : Int) := wk_eqF c38
        refine lv_iconst (v := 0) hx hb dX12_fact_6 (by decide) ?_
        refine lv_istore_n (lv' := [(1, .int 0), (0, .ref (ad 0))]) hx hb dX12_fact_7 rfl hl (by decide) rfl (fun ls hl => ?_)
        refine lv_aload_n hx hb dX12_fact_8 rfl (lv_at hl 1 rfl) ?_
        obtain ⟨x77, c78, rx77, tx77⟩ := hT.rdi (lo := 0) (hi := 400) (k := 14) kM_at0 (by decide) rfl
        refine tk_Vi hC hK hw hT hA hE hSR kM_at0 (by decide) rfl (k_X12_see_1 l adK adV dC dI cy ad B (by omega) (by omega) qr s1    w1 H.size hT x77 c78 (show 0 ≤ x77.toInt by omega) (show x77.toInt ≤ 400 by omega)) (cwV 0 hC.2.2.2.2 gX12_fact_X12_see rfl rfl rfl (by decide +kernel) ⟨Nat.le_of_ble_eq_true rfl, Nat.le_of_ble_eq_true rfl⟩) rfl hl.1 rfl (Nat.le_of_ble_eq_true rfl) dX12_fact_9 (fun r79 w81 H locs hp80 hw => ?_)
        obtain ⟨hT, k82, hg99⟩ := hp80
        have hF := hF.tr k82 (by decide)
        have c100 := k82.gi kM_at0 (by decide) c4
        have c101 := k82.gi kM_at0 (by decide) c7
        have c102 := k82.gi kM_at0 (by decide) c10
        have c103 := k82.gi kM_at0 (by decide) c13
        have c104 := k82.gi kM_at3 (by decide) c16
        rcases hg99 with ⟨g83, g84, ⟨x85, c86, rx85, tx85⟩, ⟨x87, c88, rx87, tx87⟩, g89, g90⟩ | ⟨rfl, ⟨x91, c92, rx91, tx91⟩, ⟨x93, c94, rx93, tx93⟩, g95⟩ | ⟨rfl, ⟨x96, c97, rx96, tx96⟩, g98⟩
        · have g89 : (gi w81 1 (x87.toInt).toNat).toInt ≠ 32 := by have q := g89; simp only [c88] at q; omega
          have g90 : (x87.toInt = x77.toInt ∨ (gi w1 1 (x77.toInt).toNat).toInt = 32) := by have q := g90; simp only [c78, c88] at q; omega
          refine lv_istore_n (lv' := [(2, .int r79), (1, .int 0), (0, .ref (ad 0))]) hx hb dX12_fact_12 rfl hl (by decide) rfl (fun ls hl => ?_)
          refine lv_aload_n hx hb dX12_fact_13 rfl (lv_at hl 2 rfl) ?_
          refine lv_ldc2 (v := 7237492) hx hb hC.2.2.2.1 (hC.2.2.2.2 _ (List.mem_of_getElem? (i := 1) rfl)) dX12_fact_14 ?_
          refine tk_Vi hC hK hw hT hA hE hSR kM_at0 (by decide) rfl (k_X12_isWord_20 l adK adV dC dI cy ad B (by omega) (by omega) qr s1    w81 H.size hT x87 c88 (show 0 ≤ x87.toInt by omega) (show x87.toInt ≤ 400 by omega)) (cwV 1 hC.2.2.2.2 gX12_fact_X12_isWord rfl rfl rfl (by decide +kernel) ⟨Nat.le_of_ble_eq_true rfl, Nat.le_of_ble_eq_true rfl⟩) rfl hl.1 rfl (Nat.le_of_ble_eq_true rfl) dX12_fact_17 (fun r107 w109 H locs hp108 hw => ?_)
          obtain ⟨hT, k110, hg117⟩ := hp108
          have hF := hF.tr k110 (by decide)
          have c118 := k110.gi kM_at0 (by decide) c100
          have c119 := k110.gi kM_at0 (by decide) c101
          have c120 := k110.gi kM_at0 (by decide) c102
          have c121 := k110.gi kM_at0 (by decide) c103
          have c122 := k110.gi kM_at3 (by decide) c104
          have c123 := k110.gi kM_at0 (by decide) c86
          rcases hg117 with ⟨rfl, ⟨x111, c112, rx111, tx111⟩, g113⟩ | ⟨rfl, ⟨x114, c115, rx114, tx114⟩, g116⟩
          · have ex111 : x111.toInt = x85.toInt := by rw [← c123.symm.trans c112]
            obtain ⟨x124, c125, rx124, tx124⟩ := hT.rdi (lo := 0) (hi := 400) (k := 14) kM_at0 (by decide) rfl
            have g113 : (x124.toInt = x87.toInt ∨ (gi w81 1 (x87.toInt).toNat).toInt = 32) := by have q := g113; simp only [c88, c125] at q; omega
            refine lv_if_eq (tgt := 43) hx hb dX12_fact_20 (by decide) (fun _ => ?_) (fun c => absurd (by decide) c)
            refine lv_iload_n hx hb dX12_fact_43 rfl (lv_at hl 0 rfl) ?_
            refine lv_bipush (v := 91) hx hb dX12_fact_44 (by decide) ?_
            refine lv_icmp_ne (tgt := 72) hx hb dX12_fact_46 (by decide) (fun c128 => ?_) (fun c128 => ?_)
            · have c128 : ¬ r79.toInt = (91 : Int) := wk_eqF c128
              exact J72 0 r79 x85 f2_0_19 f2_0_22 H locs ls w109 (by decide) (by decide) (show (-1) ≤ r79.toInt by omega) (show r79.toInt ≤ 255 by omega) (show 0 ≤ x85.toInt by omega) (show x85.toInt ≤ 400 by omega) (show 0 ≤ f1_.toInt by omega) (show f1_.toInt ≤ 60 by omega) (show (-100) ≤ f2_0_19.toInt by omega) (show f2_0_19.toInt ≤ 10 by omega) (show 0 ≤ f2_0_22.toInt by omega) (show f2_0_22.toInt ≤ 390 by omega) (show 0 ≤ f4_.toInt by omega) (show f4_.toInt ≤ 280 by omega) (show f4_.toInt = f4_.toInt by omega) (show f1_.toInt = f1_.toInt by omega) (show f2_0_22.toInt + f2_.toInt = f3_.toInt + f2_0_19.toInt by omega) (show f2_.toInt ≤ f2_0_19.toInt by omega) (show f4_.toInt ≤ 280 by omega) (show f2_0_22.toInt ≤ 390 by omega)  hw hT hF c123 c118 c119 c120 c121 c122 (lv_sub hl [2, 1, 0] rfl)
            · have c128 : r79.toInt = (91 : Int) := wk_eq.mp c128
              refine lv_aload_n hx hb dX12_fact_49 rfl (lv_at hl 2 rfl) ?_
              refine lv_bipush (v := 91) hx hb dX12_fact_50 (by decide) ?_
              refine tk_Vi hC hK hw hT hA hE hSR kM_at0 (by decide) rfl (k_X12_opens_2 l adK adV dC dI cy ad B (by omega) (by omega) qr s1    w109 H.size hT f2_0_19 c120 (show (-100) ≤ f2_0_19.toInt by omega) (show f2_0_19.toInt ≤ 10 by omega) f2_0_22 c121 (show 0 ≤ f2_0_22.toInt by omega) (show f2_0_22.toInt ≤ 400 by omega) (show f2_0_22.toInt ≤ 399 by omega)) (cwV 1 hC.2.2.2.2 gX12_fact_X12_opens rfl rfl rfl (by decide +kernel) ⟨Nat.le_of_ble_eq_true rfl, Nat.le_of_ble_eq_true rfl⟩) rfl hl.1 rfl (Nat.le_of_ble_eq_true rfl) dX12_fact_52 (fun r129 w131 H locs hp130 hw => ?_)
              obtain ⟨hT, k132, hg145⟩ := hp130
              have hF := hF.tr k132 (by decide)
              have c146 := k132.gi kM_at0 (by decide) c118
              have c147 := k132.gi kM_at0 (by decide) c119
              have c148 := k132.gi kM_at3 (by decide) c122
              have c149 := k132.gi kM_at0 (by decide) c123
              have c150 := k132.gi kM_at0 (by decide) c125
              rcases hg145 with ⟨rfl, ⟨x133, c134, rx133, tx133⟩, ⟨x135, c136, rx135, tx135⟩, ⟨x137, c138, rx137, tx137⟩⟩ | ⟨rfl, ⟨x139, c140, rx139, tx139⟩, ⟨x141, c142, rx141, tx141⟩, g143, g144⟩
              · refine lv_if_ne (tgt := 60) hx hb dX12_fact_55 (by decide) (fun c => absurd (by decide) c) (fun _ => ?_)
                refine lv_iconst (v := 0) hx hb dX12_fact_58 (by decide) ?_
                exact tk_zret hC hr rfl hlocks hK ⟨hT, hF, (Or.inl ⟨rfl, ⟨x85, c149, (show 1 ≤ x85.toInt by omega), (show x85.toInt ≤ 400 by omega)⟩, ⟨x133, c134, (show 1 ≤ x133.toInt by omega), (show x133.toInt ≤ 3205 by omega)⟩, ⟨1, c146, (by decide), (by decide)⟩, ⟨x137, c138, (show 0 ≤ x137.toInt by omega), (show x137.toInt ≤ 399 by omega)⟩⟩)⟩ hw dX12_fact_59
              · have g143 : x141.toInt = f2_0_22.toInt + 1 := by have q := g143; simp only [c121, c142] at q; omega
                have g144 : x139.toInt = f2_0_19.toInt + 1 := by have q := g144; simp only [c120, c140] at q; omega
                refine lv_if_ne (tgt := 60) hx hb dX12_fact_55 (by decide) (fun _ => ?_) (fun c => absurd c (by decide))
                have g151 : x124.toInt ≤ 399 := by omega
                refine lv_aload_n hx hb dX12_fact_60 rfl (lv_at hl 2 rfl) ?_
                refine lv_dup hx hb dX12_fact_61 rfl ?_
                refine tk_geti hC hK hw hT hinX12 kM_at0 (by decide) rfl 14 (by decide) (List.mem_of_getElem? (i := 2) rfl) rfl rfl dX12_fact_62 (fun x152 c153 rx152 tx152 => ?_)
                refine wk_top x124 (c153.symm.trans c150) ?_
                refine lv_iconst (v := 1) hx hb dX12_fact_65 (by decide) ?_
                refine lv_iadd hx hb dX12_fact_66 ?_
                refine lv_topi (fun x154 ex154 => ?_)
                have ex154 : x154.toInt = x124.toInt + (1 : Int) := by rw [ex154]; exact wk_add (show (-2147483648) ≤ x124.toInt + (1 : Int) by omega) (show x124.toInt + (1 : Int) ≤ 2147483647 by omega)
                refine tk_puti hC hK hw hT hinX12 tyX12_ok nmX12 kM_at0 (by decide) rfl rfl 14 (by decide) (List.mem_of_getElem? (i := 2) rfl) rfl rfl rfl rfl (show 0 ≤ x154.toInt by omega) (show x154.toInt ≤ 400 by omega) dX12_fact_67 (fun H locs w155 hw hT k157 c156 => ?_)
                have hF := hF.put kM_at0 (k := 14) (by decide) k157
                have c158 := k157.gi (Or.inr (by decide)) c146
                have c159 := k157.gi (Or.inr (by decide)) c147
                have c160 := k157.gi (Or.inr (by decide)) c148
                have c161 := k157.gi (Or.inr (by decide)) c149
                have c162 := k157.gi (Or.inr (by decide)) c140
                have c163 := k157.gi (Or.inr (by decide)) c142
                refine lv_iconst (v := 1) hx hb dX12_fact_70 (by decide) ?_
                refine lv_istore_n (lv' := [(1, .int 1), (2, .int r79), (0, .ref (ad 0))]) hx hb dX12_fact_71 rfl hl (by decide) rfl (fun ls hl => ?_)
                exact J72 1 r79 x85 x139 x141 H locs ls w155 (by decide) (by decide) (show (-1) ≤ r79.toInt by omega) (show r79.toInt ≤ 255 by omega) (show 0 ≤ x85.toInt by omega) (show x85.toInt ≤ 400 by omega) (show 0 ≤ f1_.toInt by omega) (show f1_.toInt ≤ 60 by omega) (show (-100) ≤ x139.toInt by omega) (show x139.toInt ≤ 10 by omega) (show 0 ≤ x141.toInt by omega) (show x141.toInt ≤ 390 by omega) (show 0 ≤ f4_.toInt by omega) (show f4_.toInt ≤ 280 by omega) (show f4_.toInt = f4_.toInt by omega) (show f1_.toInt = f1_.toInt by omega) (show x141.toInt + f2_.toInt = f3_.toInt + x139.toInt by omega) (show f2_.toInt ≤ x139.toInt by omega) (show f4_.toInt ≤ 280 by omega) (show x141.toInt ≤ 390 by omega)  hw hT hF c161 c158 c159 c162 c163 c160 (lv_sub hl [2, 0, 1] rfl)
          · have ex114 : x114.toInt = x85.toInt := by rw [← c123.symm.trans c115]
            obtain ⟨x126, c127, rx126, tx126⟩ := hT.rdi (lo := 0) (hi := 400) (k := 14) kM_at0 (by decide) rfl
            have g116 : (x126.toInt = x87.toInt ∨ (gi w81 1 (x87.toInt).toNat).toInt = 32) := by have q := g116; simp only [c88, c127] at q; omega
            refine lv_if_eq (tgt := 43) hx hb dX12_fact_20 (by decide) (fun c => absurd c (by decide)) (fun _ => ?_)
            refine lv_aload_n hx hb dX12_fact_23 rfl (lv_at hl 2 rfl) ?_
            refine lv_bipush (v := 11) hx hb dX12_fact_24 (by decide) ?_
            refine tk_Vi hC hK hw hT hA hE hSR kM_at0 (by decide) rfl (k_X12_opens_1 l adK adV dC dI cy ad B (by omega) (by omega) qr s1    w109 H.size hT f2_0_19 c120 (show (-100) ≤ f2_0_19.toInt by omega) (show f2_0_19.toInt ≤ 10 by omega) f2_0_22 c121 (show 0 ≤ f2_0_22.toInt by omega) (show f2_0_22.toInt ≤ 400 by omega) (show f2_0_22.toInt ≤ 399 by omega)) (cwV 1 hC.2.2.2.2 gX12_fact_X12_opens rfl rfl rfl (by decide +kernel) ⟨Nat.le_of_ble_eq_true rfl, Nat.le_of_ble_eq_true rfl⟩) rfl hl.1 rfl (Nat.le_of_ble_eq_true rfl) dX12_fact_26 (fun r164 w166 H locs hp165 hw => ?_)
            obtain ⟨hT, k167, hg180⟩ := hp165
            have hF := hF.tr k167 (by decide)
            have c181 := k167.gi kM_at0 (by decide) c118
            have c182 := k167.gi kM_at0 (by decide) c119
            have c183 := k167.gi kM_at3 (by decide) c122
            have c184 := k167.gi kM_at0 (by decide) c123
            have c185 := k167.gi kM_at0 (by decide) c127
            rcases hg180 with ⟨rfl, ⟨x168, c169, rx168, tx168⟩, ⟨x170, c171, rx170, tx170⟩, ⟨x172, c173, rx172, tx172⟩⟩ | ⟨rfl, ⟨x174, c175, rx174, tx174⟩, ⟨x176, c177, rx176, tx176⟩, g178, g179⟩
            · refine lv_if_ne (tgt := 34) hx hb dX12_fact_29 (by decide) (fun c => absurd (by decide) c) (fun _ => ?_)
              refine lv_iconst (v := 0) hx hb dX12_fact_32 (by decide) ?_
              exact tk_zret hC hr rfl hlocks hK ⟨hT, hF, (Or.inl ⟨rfl, ⟨x85, c184, (show 1 ≤ x85.toInt by omega), (show x85.toInt ≤ 400 by omega)⟩, ⟨x168, c169, (show 1 ≤ x168.toInt by omega), (show x168.toInt ≤ 3205 by omega)⟩, ⟨1, c181, (by decide), (by decide)⟩, ⟨x172, c173, (show 0 ≤ x172.toInt by omega), (show x172.toInt ≤ 399 by omega)⟩⟩)⟩ hw dX12_fact_33
            · have g178 : x176.toInt = f2_0_22.toInt + 1 := by have q := g178; simp only [c121, c177] at q; omega
              have g179 : x174.toInt = f2_0_19.toInt + 1 := by have q := g179; simp only [c120, c175] at q; omega
              refine lv_if_ne (tgt := 34) hx hb dX12_fact_29 (by decide) (fun _ => ?_) (fun c => absurd c (by decide))
              refine lv_aload_n hx hb dX12_fact_34 rfl (lv_at hl 2 rfl) ?_
              refine tk_Vv hC hK hw hT hA hE hSR kM_at0 (by decide) rfl (k_X12_passWord_1 l adK adV dC dI cy ad B (by omega) (by omega) qr s1    w166 H.size hT ) (cwV 0 hC.2.2.2.2 gX12_fact_X12_passWord rfl rfl rfl (by decide +kernel) ⟨Nat.le_of_ble_eq_true rfl, Nat.le_of_ble_eq_true rfl⟩) rfl hl.1 rfl (Nat.le_of_ble_eq_true rfl) dX12_fact_35 (fun w188 H locs hp187 hw => ?_)
              obtain ⟨hT, k189, hg196⟩ := hp187
              have hF := hF.tr k189 (by decide)
              have c197 := k189.gi kM_at0 (by decide) c181
              have c198 := k189.gi kM_at0 (by decide) c182
              have c199 := k189.gi kM_at3 (by decide) c183
              have c200 := k189.gi kM_at0 (by decide) c184
              have c201 := k189.gi kM_at0 (by decide) c175
              have c202 := k189.gi kM_at0 (by decide) c177
              rcases hg196 with ⟨⟨x190, c191, rx190, tx190⟩, ⟨x192, c193, rx192, tx192⟩⟩ | ⟨x194, c195, rx194, tx194⟩
              · have ex190 : x190.toInt = x85.toInt := by rw [← c200.symm.trans c191]
                refine lv_iconst (v := 1) hx hb dX12_fact_38 (by decide) ?_
                refine lv_istore_n (lv' := [(1, .int 1), (2, .int r79), (0, .ref (ad 0))]) hx hb dX12_fact_39 rfl hl (by decide) rfl (fun ls hl => ?_)
                refine lv_goto (tgt := 72) hx hb dX12_fact_40 (by decide) ?_
                exact J72 1 r79 x85 x174 x176 H locs ls w188 (by decide) (by decide) (show (-1) ≤ r79.toInt by omega) (show r79.toInt ≤ 255 by omega) (show 0 ≤ x85.toInt by omega) (show x85.toInt ≤ 400 by omega) (show 0 ≤ f1_.toInt by omega) (show f1_.toInt ≤ 60 by omega) (show (-100) ≤ x174.toInt by omega) (show x174.toInt ≤ 10 by omega) (show 0 ≤ x176.toInt by omega) (show x176.toInt ≤ 390 by omega) (show 0 ≤ f4_.toInt by omega) (show f4_.toInt ≤ 280 by omega) (show f4_.toInt = f4_.toInt by omega) (show f1_.toInt = f1_.toInt by omega) (show x176.toInt + f2_.toInt = f3_.toInt + x174.toInt by omega) (show f2_.toInt ≤ x174.toInt by omega) (show f4_.toInt ≤ 280 by omega) (show x176.toInt ≤ 390 by omega)  hw hT hF c200 c197 c198 c201 c202 c199 (lv_sub hl [2, 0, 1] rfl)
              · have ex194 : x194.toInt = x85.toInt := by rw [← c200.symm.trans c195]
                refine lv_iconst (v := 1) hx hb dX12_fact_38 (by decide) ?_
                refine lv_istore_n (lv' := [(1, .int 1), (2, .int r79), (0, .ref (ad 0))]) hx hb dX12_fact_39 rfl hl (by decide) rfl (fun ls hl => ?_)
                refine lv_goto (tgt := 72) hx hb dX12_fact_40 (by decide) ?_
                exact J72 1 r79 x85 x174 x176 H locs ls w188 (by decide) (by decide) (show (-1) ≤ r79.toInt by omega) (show r79.toInt ≤ 255 by omega) (show 0 ≤ x85.toInt by omega) (show x85.toInt ≤ 400 by omega) (show 0 ≤ f1_.toInt by omega) (show f1_.toInt ≤ 60 by omega) (show (-100) ≤ x174.toInt by omega) (show x174.toInt ≤ 10 by omega) (show 0 ≤ x176.toInt by omega) (show x176.toInt ≤ 390 by omega) (show 0 ≤ f4_.toInt by omega) (show f4_.toInt ≤ 280 by omega) (show f4_.toInt = f4_.toInt by omega) (show f1_.toInt = f1_.toInt by omega) (show x176.toInt + f2_.toInt = f3_.toInt + x174.toInt by omega) (show f2_.toInt ≤ x174.toInt by omega) (show f4_.toInt ≤ 280 by omega) (show x176.toInt ≤ 390 by omega)  hw hT hF c200 c197 c198 c201 c202 c199 (lv_sub hl [2, 0, 1] rfl)
        · have g95 : (x93.toInt = x77.toInt ∨ (gi w1 1 (x77.toInt).toNat).toInt = 32) := by have q := g95; simp only [c78, c94] at q; omega
          refine lv_istore_n (lv' := [(2, .int (-1)), (1, .int 0), (0, .ref (ad 0))]) hx hb dX12_fact_12 rfl hl (by decide) rfl (fun ls hl => ?_)
          refine lv_aload_n hx hb dX12_fact_13 rfl (lv_at hl 2 rfl) ?_
          refine lv_ldc2 (v := 7237492) hx hb hC.2.2.2.1 (hC.2.2.2.2 _ (List.mem_of_getElem? (i := 1) rfl)) dX12_fact_14 ?_
          refine tk_Vi hC hK hw hT hA hE hSR kM_at0 (by decide) rfl (k_X12_isWord_20 l adK adV dC dI cy ad B (by omega) (by omega) qr s1    w81 H.size hT x93 c94 (show 0 ≤ x93.toInt by omega) (show x93.toInt ≤ 400 by omega)) (cwV 1 hC.2.2.2.2 gX12_fact_X12_isWord rfl rfl rfl (by decide +kernel) ⟨Nat.le_of_ble_eq_true rfl, Nat.le_of_ble_eq_true rfl⟩) rfl hl.1 rfl (Nat.le_of_ble_eq_true rfl) dX12_fact_17 (fun r203 w205 H locs hp204 hw => ?_)
          obtain ⟨hT, k206, hg213⟩ := hp204
          have hF := hF.tr k206 (by decide)
          have c214 := k206.gi kM_at0 (by decide) c100
          have c215 := k206.gi kM_at0 (by decide) c101
          have c216 := k206.gi kM_at0 (by decide) c102
          have c217 := k206.gi kM_at0 (by decide) c103
          have c218 := k206.gi kM_at3 (by decide) c104
          have c219 := k206.gi kM_at0 (by decide) c92
          rcases hg213 with ⟨rfl, ⟨x207, c208, rx207, tx207⟩, g209⟩ | ⟨rfl, ⟨x210, c211, rx210, tx210⟩, g212⟩
          · have ex207 : x207.toInt = x91.toInt := by rw [← c219.symm.trans c208]
            obtain ⟨x220, c221, rx220, tx220⟩ := hT.rdi (lo := 0) (hi := 400) (k := 14) kM_at0 (by decide) rfl
            have g209 : (x220.toInt = x93.toInt ∨ (gi w81 1 (x93.toInt).toNat).toInt = 32) := by have q := g209; simp only [c94, c221] at q; omega
            refine lv_if_eq (tgt := 43) hx hb dX12_fact_20 (by decide) (fun _ => ?_) (fun c => absurd (by decide) c)
            refine lv_iload_n hx hb dX12_fact_43 rfl (lv_at hl 0 rfl) ?_
            refine lv_bipush (v := 91) hx hb dX12_fact_44 (by decide) ?_
            refine lv_icmp_ne (tgt := 72) hx hb dX12_fact_46 (by decide) (fun _ => ?_) (fun c => absurd c (by decide))
            exact J72 0 (-1) x91 f2_0_19 f2_0_22 H locs ls w205 (by decide) (by decide) (by decide) (by decide) (show 0 ≤ x91.toInt by omega) (show x91.toInt ≤ 400 by omega) (show 0 ≤ f1_.toInt by omega) (show f1_.toInt ≤ 60 by omega) (show (-100) ≤ f2_0_19.toInt by omega) (show f2_0_19.toInt ≤ 10 by omega) (show 0 ≤ f2_0_22.toInt by omega) (show f2_0_22.toInt ≤ 390 by omega) (show 0 ≤ f4_.toInt by omega) (show f4_.toInt ≤ 280 by omega) (show f4_.toInt = f4_.toInt by omega) (show f1_.toInt = f1_.toInt by omega) (show f2_0_22.toInt + f2_.toInt = f3_.toInt + f2_0_19.toInt by omega) (show f2_.toInt ≤ f2_0_19.toInt by omega) (show f4_.toInt ≤ 280 by omega) (show f2_0_22.toInt ≤ 390 by omega)  hw hT hF c219 c214 c215 c216 c217 c218 (lv_sub hl [2, 1, 0] rfl)
          · have ex210 : x210.toInt = x91.toInt := by rw [← c219.symm.trans c211]
            obtain ⟨x222, c223, rx222, tx222⟩ := hT.rdi (lo := 0) (hi := 400) (k := 14) kM_at0 (by decide) rfl
            have g212 : (x222.toInt = x93.toInt ∨ (gi w81 1 (x93.toInt).toNat).toInt = 32) := by have q := g212; simp only [c94, c223] at q; omega
            refine lv_if_eq (tgt := 43) hx hb dX12_fact_20 (by decide) (fun c => absurd c (by decide)) (fun _ => ?_)
            refine lv_aload_n hx hb dX12_fact_23 rfl (lv_at hl 2 rfl) ?_
            refine lv_bipush (v := 11) hx hb dX12_fact_24 (by decide) ?_
            refine tk_Vi hC hK hw hT hA hE hSR kM_at0 (by decide) rfl (k_X12_opens_1 l adK adV dC dI cy ad B (by omega) (by omega) qr s1    w205 H.size hT f2_0_19 c216 (show (-100) ≤ f2_0_19.toInt by omega) (show f2_0_19.toInt ≤ 10 by omega) f2_0_22 c217 (show 0 ≤ f2_0_22.toInt by omega) (show f2_0_22.toInt ≤ 400 by omega) (show f2_0_22.toInt ≤ 399 by omega)) (cwV 1 hC.2.2.2.2 gX12_fact_X12_opens rfl rfl rfl (by decide +kernel) ⟨Nat.le_of_ble_eq_true rfl, Nat.le_of_ble_eq_true rfl⟩) rfl hl.1 rfl (Nat.le_of_ble_eq_true rfl) dX12_fact_26 (fun r224 w226 H locs hp225 hw => ?_)
            obtain ⟨hT, k227, hg240⟩ := hp225
            have hF := hF.tr k227 (by decide)
            have c241 := k227.gi kM_at0 (by decide) c214
            have c242 := k227.gi kM_at0 (by decide) c215
            have c243 := k227.gi kM_at3 (by decide) c218
            have c244 := k227.gi kM_at0 (by decide) c219
            have c245 := k227.gi kM_at0 (by decide) c223
            rcases hg240 with ⟨rfl, ⟨x228, c229, rx228, tx228⟩, ⟨x230, c231, rx230, tx230⟩, ⟨x232, c233, rx232, tx232⟩⟩ | ⟨rfl, ⟨x234, c235, rx234, tx234⟩, ⟨x236, c237, rx236, tx236⟩, g238, g239⟩
            · refine lv_if_ne (tgt := 34) hx hb dX12_fact_29 (by decide) (fun c => absurd (by decide) c) (fun _ => ?_)
              refine lv_iconst (v := 0) hx hb dX12_fact_32 (by decide) ?_
              exact tk_zret hC hr rfl hlocks hK ⟨hT, hF, (Or.inl ⟨rfl, ⟨x91, c244, (show 1 ≤ x91.toInt by omega), (show x91.toInt ≤ 400 by omega)⟩, ⟨x228, c229, (show 1 ≤ x228.toInt by omega), (show x228.toInt ≤ 3205 by omega)⟩, ⟨1, c241, (by decide), (by decide)⟩, ⟨x232, c233, (show 0 ≤ x232.toInt by omega), (show x232.toInt ≤ 399 by omega)⟩⟩)⟩ hw dX12_fact_33
            · have g238 : x236.toInt = f2_0_22.toInt + 1 := by have q := g238; simp only [c217, c237] at q; omega
              have g239 : x234.toInt = f2_0_19.toInt + 1 := by have q := g239; simp only [c216, c235] at q; omega
              refine lv_if_ne (tgt := 34) hx hb dX12_fact_29 (by decide) (fun _ => ?_) (fun c => absurd c (by decide))
              refine lv_aload_n hx hb dX12_fact_34 rfl (lv_at hl 2 rfl) ?_
              refine tk_Vv hC hK hw hT hA hE hSR kM_at0 (by decide) rfl (k_X12_passWord_1 l adK adV dC dI cy ad B (by omega) (by omega) qr s1    w226 H.size hT ) (cwV 0 hC.2.2.2.2 gX12_fact_X12_passWord rfl rfl rfl (by decide +kernel) ⟨Nat.le_of_ble_eq_true rfl, Nat.le_of_ble_eq_true rfl⟩) rfl hl.1 rfl (Nat.le_of_ble_eq_true rfl) dX12_fact_35 (fun w248 H locs hp247 hw => ?_)
              obtain ⟨hT, k249, hg256⟩ := hp247
              have hF := hF.tr k249 (by decide)
              have c257 := k249.gi kM_at0 (by decide) c241
              have c258 := k249.gi kM_at0 (by decide) c242
              have c259 := k249.gi kM_at3 (by decide) c243
              have c260 := k249.gi kM_at0 (by decide) c244
              have c261 := k249.gi kM_at0 (by decide) c235
              have c262 := k249.gi kM_at0 (by decide) c237
              rcases hg256 with ⟨⟨x250, c251, rx250, tx250⟩, ⟨x252, c253, rx252, tx252⟩⟩ | ⟨x254, c255, rx254, tx254⟩
              · have ex250 : x250.toInt = x91.toInt := by rw [← c260.symm.trans c251]
                refine lv_iconst (v := 1) hx hb dX12_fact_38 (by decide) ?_
                refine lv_istore_n (lv' := [(1, .int 1), (2, .int (-1)), (0, .ref (ad 0))]) hx hb dX12_fact_39 rfl hl (by decide) rfl (fun ls hl => ?_)
                refine lv_goto (tgt := 72) hx hb dX12_fact_40 (by decide) ?_
                exact J72 1 (-1) x91 x234 x236 H locs ls w248 (by decide) (by decide) (by decide) (by decide) (show 0 ≤ x91.toInt by omega) (show x91.toInt ≤ 400 by omega) (show 0 ≤ f1_.toInt by omega) (show f1_.toInt ≤ 60 by omega) (show (-100) ≤ x234.toInt by omega) (show x234.toInt ≤ 10 by omega) (show 0 ≤ x236.toInt by omega) (show x236.toInt ≤ 390 by omega) (show 0 ≤ f4_.toInt by omega) (show f4_.toInt ≤ 280 by omega) (show f4_.toInt = f4_.toInt by omega) (show f1_.toInt = f1_.toInt by omega) (show x236.toInt + f2_.toInt = f3_.toInt + x234.toInt by omega) (show f2_.toInt ≤ x234.toInt by omega) (show f4_.toInt ≤ 280 by omega) (show x236.toInt ≤ 390 by omega)  hw hT hF c260 c257 c258 c261 c262 c259 (lv_sub hl [2, 0, 1] rfl)
              · have ex254 : x254.toInt = x91.toInt := by rw [← c260.symm.trans c255]
                refine lv_iconst (v := 1) hx hb dX12_fact_38 (by decide) ?_
                refine lv_istore_n (lv' := [(1, .int 1), (2, .int (-1)), (0, .ref (ad 0))]) hx hb dX12_fact_39 rfl hl (by decide) rfl (fun ls hl => ?_)
                refine lv_goto (tgt := 72) hx hb dX12_fact_40 (by decide) ?_
                exact J72 1 (-1) x91 x234 x236 H locs ls w248 (by decide) (by decide) (by decide) (by decide) (show 0 ≤ x91.toInt by omega) (show x91.toInt ≤ 400 by omega) (show 0 ≤ f1_.toInt by omega) (show f1_.toInt ≤ 60 by omega) (show (-100) ≤ x234.toInt by omega) (show x234.toInt ≤ 10 by omega) (show 0 ≤ x236.toInt by omega) (show x236.toInt ≤ 390 by omega) (show 0 ≤ f4_.toInt by omega) (show f4_.toInt ≤ 280 by omega) (show f4_.toInt = f4_.toInt by omega) (show f1_.toInt = f1_.toInt by omega) (show x236.toInt + f2_.toInt = f3_.toInt + x234.toInt by omega) (show f2_.toInt ≤ x234.toInt by omega) (show f4_.toInt ≤ 280 by omega) (show x236.toInt ≤ 390 by omega)  hw hT hF c260 c257 c258 c261 c262 c259 (lv_sub hl [2, 0, 1] rfl)
        · obtain ⟨x105, c106, rx105, tx105⟩ := hT.rdi (lo := 0) (hi := 400) (k := 14) kM_at0 (by decide) rfl
          have g98 : (x105.toInt = x77.toInt ∨ (gi w1 1 (x77.toInt).toNat).toInt = 32) := by have q := g98; simp only [c78, c106] at q; omega
          refine lv_istore_n (lv' := [(2, .int (-1)), (1, .int 0), (0, .ref (ad 0))]) hx hb dX12_fact_12 rfl hl (by decide) rfl (fun ls hl => ?_)
          refine lv_aload_n hx hb dX12_fact_13 rfl (lv_at hl 2 rfl) ?_
          refine lv_ldc2 (v := 7237492) hx hb hC.2.2.2.1 (hC.2.2.2.2 _ (List.mem_of_getElem? (i := 1) rfl)) dX12_fact_14 ?_
          refine tk_Vi hC hK hw hT hA hE hSR kM_at0 (by decide) rfl (k_X12_isWord_20 l adK adV dC dI cy ad B (by omega) (by omega) qr s1    w81 H.size hT x105 c106 (show 0 ≤ x105.toInt by omega) (show x105.toInt ≤ 400 by omega)) (cwV 1 hC.2.2.2.2 gX12_fact_X12_isWord rfl rfl rfl (by decide +kernel) ⟨Nat.le_of_ble_eq_true rfl, Nat.le_of_ble_eq_true rfl⟩) rfl hl.1 rfl (Nat.le_of_ble_eq_true rfl) dX12_fact_17 (fun r263 w265 H locs hp264 hw => ?_)
          obtain ⟨hT, k266, hg273⟩ := hp264
          have hF := hF.tr k266 (by decide)
          have c274 := k266.gi kM_at0 (by decide) c100
          have c275 := k266.gi kM_at0 (by decide) c101
          have c276 := k266.gi kM_at0 (by decide) c102
          have c277 := k266.gi kM_at0 (by decide) c103
          have c278 := k266.gi kM_at3 (by decide) c104
          have c279 := k266.gi kM_at0 (by decide) c97
          rcases hg273 with ⟨rfl, ⟨x267, c268, rx267, tx267⟩, g269⟩ | ⟨rfl, ⟨x270, c271, rx270, tx270⟩, g272⟩
          · have ex267 : x267.toInt = x96.toInt := by rw [← c279.symm.trans c268]
            obtain ⟨x280, c281, rx280, tx280⟩ := hT.rdi (lo := 0) (hi := 400) (k := 14) kM_at0 (by decide) rfl
            have g269 : (x280.toInt = x105.toInt ∨ (gi w81 1 (x105.toInt).toNat).toInt = 32) := by have q := g269; simp only [c106, c281] at q; omega
            refine lv_if_eq (tgt := 43) hx hb dX12_fact_20 (by decide) (fun _ => ?_) (fun c => absurd (by decide) c)
            refine lv_iload_n hx hb dX12_fact_43 rfl (lv_at hl 0 rfl) ?_
            refine lv_bipush (v := 91) hx hb dX12_fact_44 (by decide) ?_
            refine lv_icmp_ne (tgt := 72) hx hb dX12_fact_46 (by decide) (fun _ => ?_) (fun c => absurd c (by decide))
            exact J72 0 (-1) x96 f2_0_19 f2_0_22 H locs ls w265 (by decide) (by decide) (by decide) (by decide) (show 0 ≤ x96.toInt by omega) (show x96.toInt ≤ 400 by omega) (show 0 ≤ f1_.toInt by omega) (show f1_.toInt ≤ 60 by omega) (show (-100) ≤ f2_0_19.toInt by omega) (show f2_0_19.toInt ≤ 10 by omega) (show 0 ≤ f2_0_22.toInt by omega) (show f2_0_22.toInt ≤ 390 by omega) (show 0 ≤ f4_.toInt by omega) (show f4_.toInt ≤ 280 by omega) (show f4_.toInt = f4_.toInt by omega) (show f1_.toInt = f1_.toInt by omega) (show f2_0_22.toInt + f2_.toInt = f3_.toInt + f2_0_19.toInt by omega) (show f2_.toInt ≤ f2_0_19.toInt by omega) (show f4_.toInt ≤ 280 by omega) (show f2_0_22.toInt ≤ 390 by omega)  hw hT hF c279 c274 c275 c276 c277 c278 (lv_sub hl [2, 1, 0] rfl)
          · have ex270 : x270.toInt = x96.toInt := by rw [← c279.symm.trans c271]
            obtain ⟨x282, c283, rx282, tx282⟩ := hT.rdi (lo := 0) (hi := 400) (k := 14) kM_at0 (by decide) rfl
            have g272 : (x282.toInt = x105.toInt ∨ (gi w81 1 (x105.toInt).toNat).toInt = 32) := by have q := g272; simp only [c106, c283] at q; omega
            refine lv_if_eq (tgt := 43) hx hb dX12_fact_20 (by decide) (fun c => absurd c (by decide)) (fun _ => ?_)
            refine lv_aload_n hx hb dX12_fact_23 rfl (lv_at hl 2 rfl) ?_
            refine lv_bipush (v := 11) hx hb dX12_fact_24 (by decide) ?_
            refine tk_Vi hC hK hw hT hA hE hSR kM_at0 (by decide) rfl (k_X12_opens_1 l adK adV dC dI cy ad B (by omega) (by omega) qr s1    w265 H.size hT f2_0_19 c276 (show (-100) ≤ f2_0_19.toInt by omega) (show f2_0_19.toInt ≤ 10 by omega) f2_0_22 c277 (show 0 ≤ f2_0_22.toInt by omega) (show f2_0_22.toInt ≤ 400 by omega) (show f2_0_22.toInt ≤ 399 by omega)) (cwV 1 hC.2.2.2.2 gX12_fact_X12_opens rfl rfl rfl (by decide +kernel) ⟨Nat.le_of_ble_eq_true rfl, Nat.le_of_ble_eq_true rfl⟩) rfl hl.1 rfl (Nat.le_of_ble_eq_true rfl) dX12_fact_26 (fun r284 w286 H locs hp285 hw => ?_)
            obtain ⟨hT, k287, hg300⟩ := hp285
            have hF := hF.tr k287 (by decide)
            have c301 := k287.gi kM_at0 (by decide) c274
            have c302 := k287.gi kM_at0 (by decide) c275
            have c303 := k287.gi kM_at3 (by decide) c278
            have c304 := k287.gi kM_at0 (by decide) c279
            have c305 := k287.gi kM_at0 (by decide) c283
            rcases hg300 with ⟨rfl, ⟨x288, c289, rx288, tx288⟩, ⟨x290, c291, rx290, tx290⟩, ⟨x292, c293, rx292, tx292⟩⟩ | ⟨rfl, ⟨x294, c295, rx294, tx294⟩, ⟨x296, c297, rx296, tx296⟩, g298, g299⟩
            · refine lv_if_ne (tgt := 34) hx hb dX12_fact_29 (by decide) (fun c => absurd (by decide) c) (fun _ => ?_)
              refine lv_iconst (v := 0) hx hb dX12_fact_32 (by decide) ?_
              exact tk_zret hC hr rfl hlocks hK ⟨hT, hF, (Or.inr (Or.inl ⟨rfl, ⟨x96, c304, (show 0 ≤ x96.toInt by omega), (show x96.toInt ≤ 400 by omega)⟩, ⟨x288, c289, (show 1 ≤ x288.toInt by omega), (show x288.toInt ≤ 3205 by omega)⟩, ⟨1, c301, (by decide), (by decide)⟩, ⟨x292, c293, (show 0 ≤ x292.toInt by omega), (show x292.toInt ≤ 399 by omega)⟩⟩))⟩ hw dX12_fact_33
            · have g298 : x296.toInt = f2_0_22.toInt + 1 := by have q := g298; simp only [c277, c297] at q; omega
              have g299 : x294.toInt = f2_0_19.toInt + 1 := by have q := g299; simp only [c276, c295] at q; omega
              refine lv_if_ne (tgt := 34) hx hb dX12_fact_29 (by decide) (fun _ => ?_) (fun c => absurd c (by decide))
              refine lv_aload_n hx hb dX12_fact_34 rfl (lv_at hl 2 rfl) ?_
              refine tk_Vv hC hK hw hT hA hE hSR kM_at0 (by decide) rfl (k_X12_passWord_1 l adK adV dC dI cy ad B (by omega) (by omega) qr s1    w286 H.size hT ) (cwV 0 hC.2.2.2.2 gX12_fact_X12_passWord rfl rfl rfl (by decide +kernel) ⟨Nat.le_of_ble_eq_true rfl, Nat.le_of_ble_eq_true rfl⟩) rfl hl.1 rfl (Nat.le_of_ble_eq_true rfl) dX12_fact_35 (fun w308 H locs hp307 hw => ?_)
              obtain ⟨hT, k309, hg316⟩ := hp307
              have hF := hF.tr k309 (by decide)
              have c317 := k309.gi kM_at0 (by decide) c301
              have c318 := k309.gi kM_at0 (by decide) c302
              have c319 := k309.gi kM_at3 (by decide) c303
              have c320 := k309.gi kM_at0 (by decide) c304
              have c321 := k309.gi kM_at0 (by decide) c295
              have c322 := k309.gi kM_at0 (by decide) c297
              rcases hg316 with ⟨⟨x310, c311, rx310, tx310⟩, ⟨x312, c313, rx312, tx312⟩⟩ | ⟨x314, c315, rx314, tx314⟩
              · have ex310 : x310.toInt = x96.toInt := by rw [← c320.symm.trans c311]
                refine lv_iconst (v := 1) hx hb dX12_fact_38 (by decide) ?_
                refine lv_istore_n (lv' := [(1, .int 1), (2, .int (-1)), (0, .ref (ad 0))]) hx hb dX12_fact_39 rfl hl (by decide) rfl (fun ls hl => ?_)
                refine lv_goto (tgt := 72) hx hb dX12_fact_40 (by decide) ?_
                exact J72 1 (-1) x96 x294 x296 H locs ls w308 (by decide) (by decide) (by decide) (by decide) (show 0 ≤ x96.toInt by omega) (show x96.toInt ≤ 400 by omega) (show 0 ≤ f1_.toInt by omega) (show f1_.toInt ≤ 60 by omega) (show (-100) ≤ x294.toInt by omega) (show x294.toInt ≤ 10 by omega) (show 0 ≤ x296.toInt by omega) (show x296.toInt ≤ 390 by omega) (show 0 ≤ f4_.toInt by omega) (show f4_.toInt ≤ 280 by omega) (show f4_.toInt = f4_.toInt by omega) (show f1_.toInt = f1_.toInt by omega) (show x296.toInt + f2_.toInt = f3_.toInt + x294.toInt by omega) (show f2_.toInt ≤ x294.toInt by omega) (show f4_.toInt ≤ 280 by omega) (show x296.toInt ≤ 390 by omega)  hw hT hF c320 c317 c318 c321 c322 c319 (lv_sub hl [2, 0, 1] rfl)
              · have ex314 : x314.toInt = x96.toInt := by rw [← c320.symm.trans c315]
                refine lv_iconst (v := 1) hx hb dX12_fact_38 (by decide) ?_
                refine lv_istore_n (lv' := [(1, .int 1), (2, .int (-1)), (0, .ref (ad 0))]) hx hb dX12_fact_39 rfl hl (by decide) rfl (fun ls hl => ?_)
                refine lv_goto (tgt := 72) hx hb dX12_fact_40 (by decide) ?_
                exact J72 1 (-1) x96 x294 x296 H locs ls w308 (by decide) (by decide) (by decide) (by decide) (show 0 ≤ x96.toInt by omega) (show x96.toInt ≤ 400 by omega) (show 0 ≤ f1_.toInt by omega) (show f1_.toInt ≤ 60 by omega) (show (-100) ≤ x294.toInt by omega) (show x294.toInt ≤ 10 by omega) (show 0 ≤ x296.toInt by omega) (show x296.toInt ≤ 390 by omega) (show 0 ≤ f4_.toInt by omega) (show f4_.toInt ≤ 280 by omega) (show f4_.toInt = f4_.toInt by omega) (show f1_.toInt = f1_.toInt by omega) (show x296.toInt + f2_.toInt = f3_.toInt + x294.toInt by omega) (show f2_.toInt ≤ x294.toInt by omega) (show f4_.toInt ≤ 280 by omega) (show x296.toInt ≤ 390 by omega)  hw hT hF c320 c317 c318 c321 c322 c319 (lv_sub hl [2, 0, 1] rfl)
  refine lv_iconst (v := 1) hx hb dX12_fact_0 (by decide) ?_
  refine lv_istore_n (lv' := [(1, .int 1), (0, .ref (ad 0))]) hx hb dX12_fact_1 rfl hl (by decide) rfl (fun ls hl => ?_)
  exact L2 ((2 * (10 - f2_.toInt) + (1 : Int)).toNat + 1) 1 f2_ f3_ s.heap locs ls w0 (by decide) (by decide) (show 0 ≤ f1_.toInt by omega) (show f1_.toInt ≤ 60 by omega) (show (-100) ≤ f2_.toInt by omega) (show f2_.toInt ≤ 10 by omega) (show 0 ≤ f3_.toInt by omega) (show f3_.toInt ≤ 390 by omega) (show 0 ≤ f4_.toInt by omega) (show f4_.toInt ≤ 280 by omega) (show f4_.toInt = f4_.toInt by omega) (show f1_.toInt = f1_.toInt by omega) (show f3_.toInt + f2_.toInt = f3_.toInt + f2_.toInt by omega) (show f2_.toInt ≤ f2_.toInt by omega) (show f4_.toInt ≤ 280 by omega) (show f3_.toInt ≤ 390 by omega) (Nat.lt_succ_self _) hw hT hF cf0_ cf1_ cf2_ cf3_ cf4_ (lv_sub hl [1, 0] rfl)
abbrev P_X12_settles_6 (ad : Nat → Nat) (cy : Nat → ClassId) (B : Int) (qr : Nat) (s1 : Int)  (w0 : va_W) : va_W → Prop := fun u => TW ksM ad cy B qr 12 u ∧ FE ksM [(12, 19, 19), (12, 22, 22), (61, 0, 2400), (62, 0, 7)] w0 u ∧ (((∃ y : Int32, gi u 0 17 = y ∧ 1 ≤ y.toInt ∧ y.toInt ≤ 1) ∧ (∃ y : Int32, gi u 0 19 = y ∧ (-60) ≤ y.toInt ∧ y.toInt ≤ 10) ∧ (∃ y : Int32, gi u 0 22 = y ∧ 0 ≤ y.toInt ∧ y.toInt ≤ 390) ∧ ((gi u 3 1).toInt + (gi u 0 22).toInt = (gi w0 3 1).toInt + (gi w0 0 22).toInt) ∧ ((gi u 0 22).toInt ≤ (gi w0 0 22).toInt) ∧ ((gi u 0 22).toInt + (gi w0 0 19).toInt ≤ (gi w0 0 22).toInt + (gi u 0 19).toInt) ∧ ((gi u 0 22).toInt ≤ (gi u 0 19).toInt + (gi w0 0 18).toInt) ∧ ((gi u 0 22).toInt ≤ 390) ∧ ((gi u 3 1).toInt ≤ 390) ∧ (brkN w0 ((gi u 0 22).toInt).toNat = brkN w0 ((gi w0 0 22).toInt).toNat)))
set_option maxHeartbeats 4000000 in
set_option maxRecDepth 100000 in
theorem k_X12_settles_6 (l : Launch) (adK adV : Nat → Nat) (dC : Nat → ClassId) (dI : Nat → Nat → Nat) (cy : Nat → ClassId) (ad : Nat → Nat) (B : Int) (hB0 : 100000 ≤ B) (hB1 : B ≤ 1073741824) (qr : Nat) (s1 : Int)   (w0 : va_W) (sz : Nat) (hT : TW ksM ad cy B qr 12 w0) (cf0_ : gi w0 0 17 = 1) (f1_ : Int32) (cf1_ : gi w0 0 18 = f1_) (rf1_ : 0 ≤ f1_.toInt) (tf1_ : f1_.toInt ≤ 60) (f2_ : Int32) (cf2_ : gi w0 0 19 = f2_) (rf2_ : (-100) ≤ f2_.toInt) (tf2_ : f2_.toInt ≤ 10) (f3_ : Int32) (cf3_ : gi w0 0 22 = f3_) (rf3_ : 0 ≤ f3_.toInt) (tf3_ : f3_.toInt ≤ 400) (f4_ : Int32) (cf4_ : gi w0 3 1 = f4_) (rf4_ : 0 ≤ f4_.toInt) (tf4_ : f4_.toInt ≤ 400) (pr0_ : f4_.toInt + f3_.toInt ≤ 390) (pr1_ : f3_.toInt ≤ f2_.toInt + f1_.toInt) (pr2_ : f4_.toInt ≤ 390) (pr3_ : f3_.toInt ≤ 390) : Met l yX12_settles wsX12_settles ({ frames := 2, cells := 0, slots := 0, locals := 34 }) (va_Pc [.ref (ad 0), .int 2] (wpreS adK adV dC dI cy sz w0)) (va_Qv (P_X12_settles_6 ad cy B qr s1  w0) (fun u : va_W => wpost dC dI cy (va_A w0 sz) u) (va_A w0 sz)) 0 0 (va_A w0 sz) := by
  refine Met.ofW (cc := cX12_settles) (maxL := 2) (ret := none) (by decide) rfl ?_
  intro p e s m args below meth c s₁ Bk hml hv
  obtain ⟨rfl, ⟨hsz, hP, hK, hD0⟩, hE, hSR⟩ := hv
  have hx := Bk.exec
  have hb := Bk.bytes
  have hr := Bk.returns
  have hlocks := Bk.notSynchronized
  have hC : CallFix p m c cX12_settles 2 s _ wsX12_settles RX12 := ⟨hx, hb, hml, findClass_of_methodNamed Bk.named, atoms_spec (ws := wsX12_settles) Bk.pre⟩
  subst hsz
  have hD := hD0.self (sz := s.heap.size)
  generalize hAe : va_A w0 s.heap.size = A at hD hE ⊢
  have hA : ∀ q : Nat, s.heap.size ≤ q → A q := fun q h => by rw [← hAe]; exact Or.inr h
  have hw : Wd dC dI A s.heap s.heap [] w0 := ⟨hP, hD, va_S.rf⟩
  have hF : FE ksM [(12, 19, 19), (12, 22, 22), (61, 0, 2400), (62, 0, 7)] w0 w0 := FE.rf
  have hl := lv_entry ([.ref (ad 0), .int 2]) (n := 2) (Nat.le_of_ble_eq_true rfl)
  rw [lg_entry_eq]
  generalize (lg_sl ([.ref (ad 0), .int 2]) ++ List.replicate (2 - (lg_sl ([.ref (ad 0), .int 2])).length) Slot.unset).toArray = ls at hl ⊢
  have hl : lv_has ls 2 [(0, .ref (ad 0)), (1, .int 2)] := hl
  generalize hloc : ([] : List Loc) = locs at hw ⊢
  have hinX12 : ∀ w ∈ u_ws RX12 TX12 42, w ∈ wsX12_settles := fun _ h => List.mem_cons_of_mem _ (List.mem_append_right _ (h))
  have J76 : ∀ (f76_0_19 : Int32) (f76_0_22 : Int32) (f76_3_1 : Int32) (H : Heap) (locs : List Loc) (ls : Array Slot) (w1 : va_W), 0 ≤ f1_.toInt → f1_.toInt ≤ 60 → (-60) ≤ f76_0_19.toInt → f76_0_19.toInt ≤ 10 → 0 ≤ f76_0_22.toInt → f76_0_22.toInt ≤ 390 → 0 ≤ f76_3_1.toInt → f76_3_1.toInt ≤ 390 → (f76_3_1.toInt + f76_0_22.toInt = f4_.toInt + f3_.toInt) → (f76_0_22.toInt ≤ f3_.toInt) → (f76_0_22.toInt + f2_.toInt ≤ f3_.toInt + f76_0_19.toInt) → (f76_0_22.toInt ≤ f76_0_19.toInt + f1_.toInt) → (f76_3_1.toInt ≤ 390) → (f76_0_22.toInt ≤ 390) → (-60 ≤ f76_0_19.toInt) → (brkN w0 (f76_0_22.toInt).toNat = brkN w0 (f3_.toInt).toNat) → Wd dC dI A s.heap H locs w1 → TW ksM ad cy B qr 12 w1 → FE ksM [(12, 19, 19), (12, 22, 22), (61, 0, 2400), (62, 0, 7)] w0 w1 → gi w1 0 17 = 1 → gi w1 0 18 = f1_ → gi w1 0 19 = f76_0_19 → gi w1 0 22 = f76_0_22 → gi w1 3 1 = f76_3_1 → lv_has ls 2 [(0, .ref (ad 0)), (1, .int 2)] → W p l e ({ frames := 2, cells := 0, slots := 0, locals := 34 }) s m (List.toArray [.ref (ad 0), .int 2]) below meth c H locs 0 0 (MQ below (va_Qv (P_X12_settles_6 ad cy B qr s1  w0) (fun u : va_W => wpost dC dI cy A u) A) (List.toArray [.ref (ad 0), .int 2]) s 0 0 A) (F0 m 76 ls []) := by
    intro f76_0_19 f76_0_22 f76_3_1 H locs ls w1 r3 t4 r6 t7 r9 t10 r12 t13 hcr76_0 hcr76_1 hcr76_2 hcr76_3 hcr76_4 hcr76_5 hcr76_6 hcr76_7 hw hT hF c2 c5 c8 c11 c14 hl
    exact tk_vret hC hr hlocks hK ⟨hT, hF, ⟨⟨1, c2, (by decide), (by decide)⟩, ⟨f76_0_19, c8, (show (-60) ≤ f76_0_19.toInt by omega), (show f76_0_19.toInt ≤ 10 by omega)⟩, ⟨f76_0_22, c11, (show 0 ≤ f76_0_22.toInt by omega), (show f76_0_22.toInt ≤ 390 by omega)⟩, (by simp only [cf4_, c14, cf3_, c11]; omega), (by simp only [cf3_, c11]; omega), (by simp only [cf2_, c8, cf3_, c11]; omega), (by simp only [c8, cf1_, c11]; omega), (by simp only [c11]; omega), (by simp only [c14]; omega), (by simp only [cf3_, c11]; omega)⟩⟩ hw dX12_settles_76
  have L0 : ∀ (n0 : Nat) (f0_0_19 : Int32) (f0_0_22 : Int32) (f0_3_1 : Int32) (H : Heap) (locs : List Loc) (ls : Array Slot) (w15 : va_W), 0 ≤ f1_.toInt → f1_.toInt ≤ 60 → (-60) ≤ f0_0_19.toInt → f0_0_19.toInt ≤ 10 → 0 ≤ f0_0_22.toInt → f0_0_22.toInt ≤ 390 → 0 ≤ f0_3_1.toInt → f0_3_1.toInt ≤ 390 → (f0_3_1.toInt + f0_0_22.toInt = f4_.toInt + f3_.toInt) → (f0_0_22.toInt ≤ f3_.toInt) → (f0_0_22.toInt + f2_.toInt ≤ f3_.toInt + f0_0_19.toInt) → (f0_0_22.toInt ≤ f0_0_19.toInt + f1_.toInt) → (f0_3_1.toInt ≤ 390) → (f0_0_22.toInt ≤ 390) → (-60 ≤ f0_0_19.toInt) → (brkN w0 (f0_0_22.toInt).toNat = brkN w0 (f3_.toInt).toNat) → (f0_0_22.toInt - 0).toNat < n0 → Wd dC dI A s.heap H locs w15 → TW ksM ad cy B qr 12 w15 → FE ksM [(12, 19, 19), (12, 22, 22), (61, 0, 2400), (62, 0, 7)] w0 w15 → gi w15 0 17 = 1 → gi w15 0 18 = f1_ → gi w15 0 19 = f0_0_19 → gi w15 0 22 = f0_0_22 → gi w15 3 1 = f0_3_1 → lv_has ls 2 [(0, .ref (ad 0)), (1, .int 2)] → W p l e ({ frames := 2, cells := 0, slots := 0, locals := 34 }) s m (List.toArray [.ref (ad 0), .int 2]) below meth c H locs 0 0 (MQ below (va_Qv (P_X12_settles_6 ad cy B qr s1  w0) (fun u : va_W => wpost dC dI cy A u) A) (List.toArray [.ref (ad 0), .int 2]) s 0 0 A) (F0 m 0 ls []) := by
    intro n0
    induction n0 with
    | zero => intro f0_0_19 f0_0_22 f0_3_1 H locs ls w15 r17 t18 r20 t21 r23 t24 r26 t27 hcr0_0 hcr0_1 hcr0_2 hcr0_3 hcr0_4 hcr0_5 hcr0_6 hcr0_7 hm0 hw hT hF c16 c19 c22 c25 c28 hl; omega
    | succ n0 ih0 =>
      intro f0_0_19 f0_0_22 f0_3_1 H locs ls w15 r17 t18 r20 t21 r23 t24 r26 t27 hcr0_0 hcr0_1 hcr0_2 hcr0_3 hcr0_4 hcr0_5 hcr0_6 hcr0_7 hm0 hw hT hF c16 c19 c22 c25 c28 hl
      refine lv_aload_n hx hb dX12_settles_0 rfl (lv_at hl 0 rfl) ?_
      refine tk_geti hC hK hw hT hinX12 kM_at0 (by decide) rfl 22 (by decide) (List.mem_of_getElem? (i := 1) rfl) rfl rfl dX12_settles_1 (fun x29 c30 rx29 tx29 => ?_)
      refine wk_top f0_0_22 (c30.symm.trans c25) ?_
      refine lv_if_le (tgt := 76) hx hb dX12_settles_4 (by decide) (fun c31 => ?_) (fun c31 => ?_)
      · have c31 : f0_0_22.toInt ≤ (0 : Int) := wk_le.mp c31
        exact J76 f0_0_19 f0_0_22 f0_3_1 H locs ls w15 (show 0 ≤ f1_.toInt by omega) (show f1_.toInt ≤ 60 by omega) (show (-60) ≤ f0_0_19.toInt by omega) (show f0_0_19.toInt ≤ 10 by omega) (show 0 ≤ f0_0_22.toInt by omega) (show f0_0_22.toInt ≤ 390 by omega) (show 0 ≤ f0_3_1.toInt by omega) (show f0_3_1.toInt ≤ 390 by omega) (show f0_3_1.toInt + f0_0_22.toInt = f4_.toInt + f3_.toInt by omega) (show f0_0_22.toInt ≤ f3_.toInt by omega) (show f0_0_22.toInt + f2_.toInt ≤ f3_.toInt + f0_0_19.toInt by omega) (show f0_0_22.toInt ≤ f0_0_19.toInt + f1_.toInt by omega) (show f0_3_1.toInt ≤ 390 by omega) (show f0_0_22.toInt ≤ 390 by omega) (show -60 ≤ f0_0_19.toInt by omega) (show brkN w0 (f0_0_22.toInt).toNat = brkN w0 (f3_.toInt).toNat from hcr0_7)  hw hT hF c16 c19 c22 c25 c28 (lv_sub hl [0, 1] rfl)
      · have c31 : (0 : Int) < f0_0_22.toInt := wk_leF c31
        refine lv_aload_n hx hb dX12_settles_7 rfl (lv_at hl 0 rfl) ?_
        refine tk_getA hC hK hw hT hinX12 kM_at0 (by decide) rfl 21 (by decide) (List.mem_of_getElem? (i := 2) rfl) rfl rfl dX12_settles_8 ?_
        refine lv_aload_n hx hb dX12_settles_11 rfl (lv_at hl 0 rfl) ?_
        refine tk_geti hC hK hw hT hinX12 kM_at0 (by decide) rfl 22 (by decide) (List.mem_of_getElem? (i := 1) rfl) rfl rfl dX12_settles_12 (fun x32 c33 rx32 tx32 => ?_)
        refine wk_top f0_0_22 (c33.symm.trans c25) ?_
        refine lv_iconst (v := 1) hx hb dX12_settles_15 (by decide) ?_
        refine lv_isub hx hb dX12_settles_16 ?_
        refine lv_topi (fun x34 ex34 => ?_)
        have ex34 : x34.toInt = f0_0_22.toInt - (1 : Int) := by rw [ex34]; exact wk_sub (show (-2147483648) ≤ f0_0_22.toInt - (1 : Int) by omega) (show f0_0_22.toInt - (1 : Int) ≤ 2147483647 by omega)
        refine tk_iald hC hK hw hT kM_at9 rfl rfl (show 0 ≤ x34.toInt by omega) (show x34.toInt < 400 by omega) dX12_settles_17 (fun x35 c36 rx35 tx35 => ?_)
        have c36 : gi w15 9 (1 * f0_0_22.toInt + -1).toNat = x35 := (congrArg (gi w15 9) (congrArg Int.toNat (show 1 * f0_0_22.toInt + -1 = x34.toInt by omega))).trans c36
        refine tk_Si hC hK hw hT hA hE hSR (k_X12_strength_1 l adK adV dC dI cy ad B (by omega) (by omega) qr s1   x35 w15 H.size hT ) (va_cwS 1 hC.2.2.2.2 gX12_settles_X12_strength rfl rfl rfl (by decide +kernel) ⟨Nat.le_of_ble_eq_true rfl, Nat.le_of_ble_eq_true rfl⟩) rfl hl.1 rfl (Nat.le_of_ble_eq_true rfl) dX12_settles_18 (fun r37 w39 H locs hp38 hw => ?_)
        obtain ⟨rfl, hg47⟩ := hp38
        rcases hg47 with rfl | ⟨rfl, g41, g42⟩ | ⟨rfl, g43, g44⟩ | ⟨rfl, g45, g46⟩
        · refine lv_iload_n hx hb dX12_settles_21 rfl (lv_at hl 1 rfl) ?_
          refine lv_icmp_lt (tgt := 76) hx hb dX12_settles_22 (by decide) (fun _ => ?_) (fun c => absurd (by decide) c)
          exact J76 f0_0_19 f0_0_22 f0_3_1 H locs ls w15 (show 0 ≤ f1_.toInt by omega) (show f1_.toInt ≤ 60 by omega) (show (-60) ≤ f0_0_19.toInt by omega) (show f0_0_19.toInt ≤ 10 by omega) (show 0 ≤ f0_0_22.toInt by omega) (show f0_0_22.toInt ≤ 390 by omega) (show 0 ≤ f0_3_1.toInt by omega) (show f0_3_1.toInt ≤ 390 by omega) (show f0_3_1.toInt + f0_0_22.toInt = f4_.toInt + f3_.toInt by omega) (show f0_0_22.toInt ≤ f3_.toInt by omega) (show f0_0_22.toInt + f2_.toInt ≤ f3_.toInt + f0_0_19.toInt by omega) (show f0_0_22.toInt ≤ f0_0_19.toInt + f1_.toInt by omega) (show f0_3_1.toInt ≤ 390 by omega) (show f0_0_22.toInt ≤ 390 by omega) (show -60 ≤ f0_0_19.toInt by omega) (show brkN w0 (f0_0_22.toInt).toNat = brkN w0 (f3_.toInt).toNat from hcr0_7)  hw hT hF c16 c19 c22 c25 c28 (lv_sub hl [0, 1] rfl)
        · refine lv_iload_n hx hb dX12_settles_21 rfl (lv_at hl 1 rfl) ?_
          refine lv_icmp_lt (tgt := 76) hx hb dX12_settles_22 (by decide) (fun _ => ?_) (fun c => absurd (by decide) c)
          exact J76 f0_0_19 f0_0_22 f0_3_1 H locs ls w15 (show 0 ≤ f1_.toInt by omega) (show f1_.toInt ≤ 60 by omega) (show (-60) ≤ f0_0_19.toInt by omega) (show f0_0_19.toInt ≤ 10 by omega) (show 0 ≤ f0_0_22.toInt by omega) (show f0_0_22.toInt ≤ 390 by omega) (show 0 ≤ f0_3_1.toInt by omega) (show f0_3_1.toInt ≤ 390 by omega) (show f0_3_1.toInt + f0_0_22.toInt = f4_.toInt + f3_.toInt by omega) (show f0_0_22.toInt ≤ f3_.toInt by omega) (show f0_0_22.toInt + f2_.toInt ≤ f3_.toInt + f0_0_19.toInt by omega) (show f0_0_22.toInt ≤ f0_0_19.toInt + f1_.toInt by omega) (show f0_3_1.toInt ≤ 390 by omega) (show f0_0_22.toInt ≤ 390 by omega) (show -60 ≤ f0_0_19.toInt by omega) (show brkN w0 (f0_0_22.toInt).toNat = brkN w0 (f3_.toInt).toNat from hcr0_7)  hw hT hF c16 c19 c22 c25 c28 (lv_sub hl [0, 1] rfl)
        · refine lv_iload_n hx hb dX12_settles_21 rfl (lv_at hl 1 rfl) ?_
          refine lv_icmp_lt (tgt := 76) hx hb dX12_settles_22 (by decide) (fun c => absurd c (by decide)) (fun _ => ?_)
          refine lv_aload_n hx hb dX12_settles_25 rfl (lv_at hl 0 rfl) ?_
          refine lv_dup hx hb dX12_settles_26 rfl ?_
          refine tk_geti hC hK hw hT hinX12 kM_at0 (by decide) rfl 22 (by decide) (List.mem_of_getElem? (i := 1) rfl) rfl rfl dX12_settles_27 (fun x48 c49 rx48 tx48 => ?_)
          refine wk_top f0_0_22 (c49.symm.trans c25) ?_
          refine lv_iconst (v := 1) hx hb dX12_settles_30 (by decide) ?_
          refine lv_isub hx hb dX12_settles_31 ?_
          refine lv_topi (fun x50 ex50 => ?_)
          have ex50 : x50.toInt = f0_0_22.toInt - (1 : Int) := by rw [ex50]; exact wk_sub (show (-2147483648) ≤ f0_0_22.toInt - (1 : Int) by omega) (show f0_0_22.toInt - (1 : Int) ≤ 2147483647 by omega)
          refine tk_puti hC hK hw hT hinX12 tyX12_ok nmX12 kM_at0 (by decide) rfl rfl 22 (by decide) (List.mem_of_getElem? (i := 1) rfl) rfl rfl rfl rfl (show 0 ≤ x50.toInt by omega) (show x50.toInt ≤ 400 by omega) dX12_settles_32 (fun H locs w51 hw hT k53 c52 => ?_)
          have hF := hF.put kM_at0 (k := 22) (by decide) k53
          have c54 := k53.gi (Or.inr (by decide)) c16
          have c55 := k53.gi (Or.inr (by decide)) c19
          have c56 := k53.gi (Or.inr (by decide)) c22
          have c57 := k53.gi (Or.inr (by decide)) c28
          have c58 := k53.gi (Or.inl (tk_ne kM_at9 kM_at0 (by decide))) c36
          refine lv_aload_n hx hb dX12_settles_35 rfl (lv_at hl 0 rfl) ?_
          refine lv_aload_n hx hb dX12_settles_36 rfl (lv_at hl 0 rfl) ?_
          refine tk_getA hC hK hw hT hinX12 kM_at0 (by decide) rfl 21 (by decide) (List.mem_of_getElem? (i := 2) rfl) rfl rfl dX12_settles_37 ?_
          refine lv_aload_n hx hb dX12_settles_40 rfl (lv_at hl 0 rfl) ?_
          refine tk_geti hC hK hw hT hinX12 kM_at0 (by decide) rfl 22 (by decide) (List.mem_of_getElem? (i := 1) rfl) rfl rfl dX12_settles_41 (fun x59 c60 rx59 tx59 => ?_)
          refine wk_top x50 (c60.symm.trans c52) ?_
          refine tk_iald hC hK hw hT kM_at9 rfl rfl (show 0 ≤ x50.toInt by omega) (show x50.toInt < 400 by omega) dX12_settles_44 (fun x61 c62 rx61 tx61 => ?_)
          have c62 : gi w51 9 (1 * f0_0_22.toInt + -1).toNat = x61 := (congrArg (gi w51 9) (congrArg Int.toNat (show 1 * f0_0_22.toInt + -1 = x50.toInt by omega))).trans c62
          refine wk_top x35 (c62.symm.trans c58) ?_
          refine lv_iconst (v := 0) hx hb dX12_settles_45 (by decide) ?_
          obtain rfl : x35 = 12 := wk_eq.mpr (show x35.toInt = 12 by omega)
          refine tk_Vv hC hK hw hT hA hE hSR kM_at0 (by decide) rfl (k_X12_puts_2 l adK adV dC dI cy ad B (by omega) (by omega) qr s1   12 (by decide) (by decide) 0 w51 H.size hT c54 f0_3_1 c57 (show 0 ≤ f0_3_1.toInt by omega) (show f0_3_1.toInt ≤ 400 by omega) (show f0_3_1.toInt ≤ 399 by omega)) (cwV 2 hC.2.2.2.2 gX12_settles_X12_puts rfl rfl rfl (by decide +kernel) ⟨Nat.le_of_ble_eq_true rfl, Nat.le_of_ble_eq_true rfl⟩) rfl hl.1 rfl (Nat.le_of_ble_eq_true rfl) dX12_settles_46 (fun w65 H locs hp64 hw => ?_)
          obtain ⟨hT, k66, hg70⟩ := hp64
          have hF := hF.tr k66 (by decide)
          have c71 := k66.gi kM_at0 (by decide) c54
          have c72 := k66.gi kM_at0 (by decide) c55
          have c73 := k66.gi kM_at0 (by decide) c56
          have c74 := k66.gi kM_at9 rfl c58
          have c75 := k66.gi kM_at0 (by decide) c52
          obtain ⟨⟨x67, c68, rx67, tx67⟩, g69⟩ := hg70
          have ex67 : x67.toInt = (1 : Int) := by rw [show x67 = 1 from c68.symm.trans c71]; decide
          obtain ⟨x76, c77, rx76, tx76⟩ := hT.rda (lo := 0) (hi := 400) (i := 1) kM_at3 rfl rfl (by decide)
          have g69 : x76.toInt = f0_3_1.toInt + 1 := by have q := g69; simp only [c57, c77] at q; omega
          refine lv_aload_n hx hb dX12_settles_49 rfl (lv_at hl 0 rfl) ?_
          refine tk_getA hC hK hw hT hinX12 kM_at0 (by decide) rfl 21 (by decide) (List.mem_of_getElem? (i := 2) rfl) rfl rfl dX12_settles_50 ?_
          refine lv_aload_n hx hb dX12_settles_53 rfl (lv_at hl 0 rfl) ?_
          refine tk_geti hC hK hw hT hinX12 kM_at0 (by decide) rfl 22 (by decide) (List.mem_of_getElem? (i := 1) rfl) rfl rfl dX12_settles_54 (fun x78 c79 rx78 tx78 => ?_)
          refine wk_top x50 (c79.symm.trans c75) ?_
          refine tk_iald hC hK hw hT kM_at9 rfl rfl (show 0 ≤ x50.toInt by omega) (show x50.toInt < 400 by omega) dX12_settles_57 (fun x80 c81 rx80 tx80 => ?_)
          have c81 : gi w65 9 (1 * f0_0_22.toInt + -1).toNat = x80 := (congrArg (gi w65 9) (congrArg Int.toNat (show 1 * f0_0_22.toInt + -1 = x50.toInt by omega))).trans c81
          refine wk_top 12 (c81.symm.trans c74) ?_
          refine lv_bipush (v := 11) hx hb dX12_settles_58 (by decide) ?_
          refine lv_icmp_ne (tgt := 0) hx hb dX12_settles_60 (by decide) (fun _ => ?_) (fun c => absurd c (by decide))
          exact ih0 f0_0_19 x50 x76 H locs ls w65 (show 0 ≤ f1_.toInt by omega) (show f1_.toInt ≤ 60 by omega) (show (-60) ≤ f0_0_19.toInt by omega) (show f0_0_19.toInt ≤ 10 by omega) (show 0 ≤ x50.toInt by omega) (show x50.toInt ≤ 390 by omega) (show 0 ≤ x76.toInt by omega) (show x76.toInt ≤ 390 by omega) (show x76.toInt + x50.toInt = f4_.toInt + f3_.toInt by omega) (show x50.toInt ≤ f3_.toInt by omega) (show x50.toInt + f2_.toInt ≤ f3_.toInt + f0_0_19.toInt by omega) (show x50.toInt ≤ f0_0_19.toInt + f1_.toInt by omega) (show x76.toInt ≤ 390 by omega) (show x50.toInt ≤ 390 by omega) (show -60 ≤ f0_0_19.toInt by omega) (show brkN w0 (x50.toInt).toNat = brkN w0 (f3_.toInt).toNat from ((brk_step (by omega) (show f0_0_22.toInt = x50.toInt + 1 by omega) (show ¬ (gi w0 9 (x50.toInt).toNat).toInt = 91 by first | (rw [show (x50.toInt) = 1 * f0_0_22.toInt + -1 by omega, ← hF.gi kM_at9 rfl rfl, c74]; omega) | (rw [show (x50.toInt) = 1 * f0_0_22.toInt + -1 by omega, ← hF.gi kM_at9 rfl rfl, c74]; decide))).trans hcr0_7)) (show (x50.toInt - 0).toNat < n0 by omega) hw hT hF c71 c72 c73 c75 c77 (lv_sub hl [0, 1] rfl)
        · refine lv_iload_n hx hb dX12_settles_21 rfl (lv_at hl 1 rfl) ?_
          refine lv_icmp_lt (tgt := 76) hx hb dX12_settles_22 (by decide) (fun c => absurd c (by decide)) (fun _ => ?_)
          refine lv_aload_n hx hb dX12_settles_25 rfl (lv_at hl 0 rfl) ?_
          refine lv_dup hx hb dX12_settles_26 rfl ?_
          refine tk_geti hC hK hw hT hinX12 kM_at0 (by decide) rfl 22 (by decide) (List.mem_of_getElem? (i := 1) rfl) rfl rfl dX12_settles_27 (fun x82 c83 rx82 tx82 => ?_)
          refine wk_top f0_0_22 (c83.symm.trans c25) ?_
          refine lv_iconst (v := 1) hx hb dX12_settles_30 (by decide) ?_
          refine lv_isub hx hb dX12_settles_31 ?_
          refine lv_topi (fun x84 ex84 => ?_)
          have ex84 : x84.toInt = f0_0_22.toInt - (1 : Int) := by rw [ex84]; exact wk_sub (show (-2147483648) ≤ f0_0_22.toInt - (1 : Int) by omega) (show f0_0_22.toInt - (1 : Int) ≤ 2147483647 by omega)
          refine tk_puti hC hK hw hT hinX12 tyX12_ok nmX12 kM_at0 (by decide) rfl rfl 22 (by decide) (List.mem_of_getElem? (i := 1) rfl) rfl rfl rfl rfl (show 0 ≤ x84.toInt by omega) (show x84.toInt ≤ 400 by omega) dX12_settles_32 (fun H locs w85 hw hT k87 c86 => ?_)
          have hF := hF.put kM_at0 (k := 22) (by decide) k87
          have c88 := k87.gi (Or.inr (by decide)) c16
          have c89 := k87.gi (Or.inr (by decide)) c19
          have c90 := k87.gi (Or.inr (by decide)) c22
          have c91 := k87.gi (Or.inr (by decide)) c28
          have c92 := k87.gi (Or.inl (tk_ne kM_at9 kM_at0 (by decide))) c36
          refine lv_aload_n hx hb dX12_settles_35 rfl (lv_at hl 0 rfl) ?_
          refine lv_aload_n hx hb dX12_settles_36 rfl (lv_at hl 0 rfl) ?_
          refine tk_getA hC hK hw hT hinX12 kM_at0 (by decide) rfl 21 (by decide) (List.mem_of_getElem? (i := 2) rfl) rfl rfl dX12_settles_37 ?_
          refine lv_aload_n hx hb dX12_settles_40 rfl (lv_at hl 0 rfl) ?_
          refine tk_geti hC hK hw hT hinX12 kM_at0 (by decide) rfl 22 (by decide) (List.mem_of_getElem? (i := 1) rfl) rfl rfl dX12_settles_41 (fun x93 c94 rx93 tx93 => ?_)
          refine wk_top x84 (c94.symm.trans c86) ?_
          refine tk_iald hC hK hw hT kM_at9 rfl rfl (show 0 ≤ x84.toInt by omega) (show x84.toInt < 400 by omega) dX12_settles_44 (fun x95 c96 rx95 tx95 => ?_)
          have c96 : gi w85 9 (1 * f0_0_22.toInt + -1).toNat = x95 := (congrArg (gi w85 9) (congrArg Int.toNat (show 1 * f0_0_22.toInt + -1 = x84.toInt by omega))).trans c96
          refine wk_top x35 (c96.symm.trans c92) ?_
          refine lv_iconst (v := 0) hx hb dX12_settles_45 (by decide) ?_
          obtain rfl : x35 = 11 := wk_eq.mpr (show x35.toInt = 11 by omega)
          refine tk_Vv hC hK hw hT hA hE hSR kM_at0 (by decide) rfl (k_X12_puts_2 l adK adV dC dI cy ad B (by omega) (by omega) qr s1   11 (by decide) (by decide) 0 w85 H.size hT c88 f0_3_1 c91 (show 0 ≤ f0_3_1.toInt by omega) (show f0_3_1.toInt ≤ 400 by omega) (show f0_3_1.toInt ≤ 399 by omega)) (cwV 2 hC.2.2.2.2 gX12_settles_X12_puts rfl rfl rfl (by decide +kernel) ⟨Nat.le_of_ble_eq_true rfl, Nat.le_of_ble_eq_true rfl⟩) rfl hl.1 rfl (Nat.le_of_ble_eq_true rfl) dX12_settles_46 (fun w99 H locs hp98 hw => ?_)
          obtain ⟨hT, k100, hg104⟩ := hp98
          have hF := hF.tr k100 (by decide)
          have c105 := k100.gi kM_at0 (by decide) c88
          have c106 := k100.gi kM_at0 (by decide) c89
          have c107 := k100.gi kM_at0 (by decide) c90
          have c108 := k100.gi kM_at9 rfl c92
          have c109 := k100.gi kM_at0 (by decide) c86
          obtain ⟨⟨x101, c102, rx101, tx101⟩, g103⟩ := hg104
          have ex101 : x101.toInt = (1 : Int) := by rw [show x101 = 1 from c102.symm.trans c105]; decide
          obtain ⟨x110, c111, rx110, tx110⟩ := hT.rda (lo := 0) (hi := 400) (i := 1) kM_at3 rfl rfl (by decide)
          have g103 : x110.toInt = f0_3_1.toInt + 1 := by have q := g103; simp only [c91, c111] at q; omega
          refine lv_aload_n hx hb dX12_settles_49 rfl (lv_at hl 0 rfl) ?_
          refine tk_getA hC hK hw hT hinX12 kM_at0 (by decide) rfl 21 (by decide) (List.mem_of_getElem? (i := 2) rfl) rfl rfl dX12_settles_50 ?_
          refine lv_aload_n hx hb dX12_settles_53 rfl (lv_at hl 0 rfl) ?_
          refine tk_geti hC hK hw hT hinX12 kM_at0 (by decide) rfl 22 (by decide) (List.mem_of_getElem? (i := 1) rfl) rfl rfl dX12_settles_54 (fun x112 c113 rx112 tx112 => ?_)
          refine wk_top x84 (c113.symm.trans c109) ?_
          refine tk_iald hC hK hw hT kM_at9 rfl rfl (show 0 ≤ x84.toInt by omega) (show x84.toInt < 400 by omega) dX12_settles_57 (fun x114 c115 rx114 tx114 => ?_)
          have c115 : gi w99 9 (1 * f0_0_22.toInt + -1).toNat = x114 := (congrArg (gi w99 9) (congrArg Int.toNat (show 1 * f0_0_22.toInt + -1 = x84.toInt by omega))).trans c115
          refine wk_top 11 (c115.symm.trans c108) ?_
          refine lv_bipush (v := 11) hx hb dX12_settles_58 (by decide) ?_
          refine lv_icmp_ne (tgt := 0) hx hb dX12_settles_60 (by decide) (fun c => absurd (by decide) c) (fun _ => ?_)
          refine lv_aload_n hx hb dX12_settles_63 rfl (lv_at hl 0 rfl) ?_
          refine lv_dup hx hb dX12_settles_64 rfl ?_
          refine tk_geti hC hK hw hT hinX12 kM_at0 (by decide) rfl 19 (by decide) (List.mem_of_getElem? (i := 3) rfl) rfl rfl dX12_settles_65 (fun x116 c117 rx116 tx116 => ?_)
          refine wk_top f0_0_19 (c117.symm.trans c107) ?_
          refine lv_iconst (v := 1) hx hb dX12_settles_68 (by decide) ?_
          refine lv_isub hx hb dX12_settles_69 ?_
          refine lv_topi (fun x118 ex118 => ?_)
          have ex118 : x118.toInt = f0_0_19.toInt - (1 : Int) := by rw [ex118]; exact wk_sub (show (-2147483648) ≤ f0_0_19.toInt - (1 : Int) by omega) (show f0_0_19.toInt - (1 : Int) ≤ 2147483647 by omega)
          refine tk_puti hC hK hw hT hinX12 tyX12_ok nmX12 kM_at0 (by decide) rfl rfl 19 (by decide) (List.mem_of_getElem? (i := 3) rfl) rfl rfl rfl rfl (show (-100) ≤ x118.toInt by omega) (show x118.toInt ≤ 10 by omega) dX12_settles_70 (fun H locs w119 hw hT k121 c120 => ?_)
          have hF := hF.put kM_at0 (k := 19) (by decide) k121
          have c122 := k121.gi (Or.inr (by decide)) c105
          have c123 := k121.gi (Or.inr (by decide)) c106
          have c124 := k121.gi (Or.inl (tk_ne kM_at9 kM_at0 (by decide))) c108
          have c125 := k121.gi (Or.inr (by decide)) c109
          have c126 := k121.gi (Or.inr (by decide)) c111
          refine lv_goto (tgt := 0) hx hb dX12_settles_73 (by decide) ?_
          exact ih0 x118 x84 x110 H locs ls w119 (show 0 ≤ f1_.toInt by omega) (show f1_.toInt ≤ 60 by omega) (show (-60) ≤ x118.toInt by omega) (show x118.toInt ≤ 10 by omega) (show 0 ≤ x84.toInt by omega) (show x84.toInt ≤ 390 by omega) (show 0 ≤ x110.toInt by omega) (show x110.toInt ≤ 390 by omega) (show x110.toInt + x84.toInt = f4_.toInt + f3_.toInt by omega) (show x84.toInt ≤ f3_.toInt by omega) (show x84.toInt + f2_.toInt ≤ f3_.toInt + x118.toInt by omega) (show x84.toInt ≤ x118.toInt + f1_.toInt by omega) (show x110.toInt ≤ 390 by omega) (show x84.toInt ≤ 390 by omega) (show -60 ≤ x118.toInt by omega) (show brkN w0 (x84.toInt).toNat = brkN w0 (f3_.toInt).toNat from ((brk_step (by omega) (show f0_0_22.toInt = x84.toInt + 1 by omega) (show ¬ (gi w0 9 (x84.toInt).toNat).toInt = 91 by first | (rw [show (x84.toInt) = 1 * f0_0_22.toInt + -1 by omega, ← hF.gi kM_at9 rfl rfl, c124]; omega) | (rw [show (x84.toInt) = 1 * f0_0_22.toInt + -1 by omega, ← hF.gi kM_at9 rfl rfl, c124]; decide))).trans hcr0_7)) (show (x84.toInt - 0).toNat < n0 by omega) hw hT hF c122 c123 c120 c125 c126 (lv_sub hl [0, 1] rfl)
  exact L0 ((f3_.toInt - 0).toNat + 1) f2_ f3_ f4_ s.heap locs ls w0 (show 0 ≤ f1_.toInt by omega) (show f1_.toInt ≤ 60 by omega) (show (-60) ≤ f2_.toInt by omega) (show f2_.toInt ≤ 10 by omega) (show 0 ≤ f3_.toInt by omega) (show f3_.toInt ≤ 390 by omega) (show 0 ≤ f4_.toInt by omega) (show f4_.toInt ≤ 390 by omega) (show f4_.toInt + f3_.toInt = f4_.toInt + f3_.toInt by omega) (show f3_.toInt ≤ f3_.toInt by omega) (show f3_.toInt + f2_.toInt ≤ f3_.toInt + f2_.toInt by omega) (show f3_.toInt ≤ f2_.toInt + f1_.toInt by omega) (show f4_.toInt ≤ 390 by omega) (show f3_.toInt ≤ 390 by omega) (show -60 ≤ f2_.toInt by omega) (show brkN w0 (f3_.toInt).toNat = brkN w0 (f3_.toInt).toNat from rfl) (Nat.lt_succ_self _) hw hT hF cf0_ cf1_ cf2_ cf3_ cf4_ (lv_sub hl [0, 1] rfl)
abbrev P_X12_tested_2 (ad : Nat → Nat) (cy : Nat → ClassId) (B : Int) (qr : Nat) (s1 : Int)  (w0 : va_W) : Int32 → va_W → Prop := fun r u => TW ksM ad cy B qr 12 u ∧ FE ksM [(12, 14, 14), (12, 15, 15), (12, 16, 16), (12, 18, 18), (12, 19, 19), (12, 22, 22), (61, 0, 2400), (62, 0, 7), (68, 0, 400)] w0 u ∧ ((r = 0 ∧ (∃ y : Int32, gi u 0 1 = y ∧ 1 ≤ y.toInt ∧ y.toInt ≤ 400) ∧ (∃ y : Int32, gi u 0 15 = y ∧ 1 ≤ y.toInt ∧ y.toInt ≤ 3205) ∧ (∃ y : Int32, gi u 0 17 = y ∧ 1 ≤ y.toInt ∧ y.toInt ≤ 1) ∧ (∃ y : Int32, gi u 0 22 = y ∧ 0 ≤ y.toInt ∧ y.toInt ≤ 399)) ∨ (r = 0 ∧ (∃ y : Int32, gi u 0 1 = y ∧ 0 ≤ y.toInt ∧ y.toInt ≤ 400) ∧ (∃ y : Int32, gi u 0 15 = y ∧ 1 ≤ y.toInt ∧ y.toInt ≤ 3205) ∧ (∃ y : Int32, gi u 0 17 = y ∧ 1 ≤ y.toInt ∧ y.toInt ≤ 1) ∧ (∃ y : Int32, gi u 0 22 = y ∧ 0 ≤ y.toInt ∧ y.toInt ≤ 399)) ∨ (r = 1 ∧ (∃ y : Int32, gi u 0 17 = y ∧ 1 ≤ y.toInt ∧ y.toInt ≤ 1) ∧ (∃ y : Int32, gi u 0 19 = y ∧ (-60) ≤ y.toInt ∧ y.toInt ≤ 10) ∧ (∃ y : Int32, gi u 0 22 = y ∧ 0 ≤ y.toInt ∧ y.toInt ≤ 390) ∧ (3 * (gi u 3 1).toInt ≤ 14 * (gi u 0 18).toInt)))
set_option maxHeartbeats 4000000 in
set_option maxRecDepth 100000 in
theorem k_X12_tested_2 (l : Launch) (adK adV : Nat → Nat) (dC : Nat → ClassId) (dI : Nat → Nat → Nat) (cy : Nat → ClassId) (ad : Nat → Nat) (B : Int) (hB0 : 100000 ≤ B) (hB1 : B ≤ 1073741824) (qr : Nat) (s1 : Int)   (w0 : va_W) (sz : Nat) (hT : TW ksM ad cy B qr 12 w0) (cf0_ : gi w0 0 17 = 1) (f1_ : Int32) (cf1_ : gi w0 0 18 = f1_) (rf1_ : 0 ≤ f1_.toInt) (tf1_ : f1_.toInt ≤ 60) (f2_ : Int32) (cf2_ : gi w0 0 19 = f2_) (rf2_ : (-100) ≤ f2_.toInt) (tf2_ : f2_.toInt ≤ 10) (f3_ : Int32) (cf3_ : gi w0 0 22 = f3_) (rf3_ : 0 ≤ f3_.toInt) (tf3_ : f3_.toInt ≤ 400) (f4_ : Int32) (cf4_ : gi w0 3 1 = f4_) (rf4_ : 0 ≤ f4_.toInt) (tf4_ : f4_.toInt ≤ 400) (pr0_ : 3 * f4_.toInt ≤ 14 * f1_.toInt) (pr1_ : f4_.toInt ≤ 280) : Met l yX12_tested wsX12_tested ({ frames := 9, cells := 0, slots := 0, locals := 188 }) (va_Pc [.ref (ad 0)] (wpreS adK adV dC dI cy sz w0)) (va_Qi (P_X12_tested_2 ad cy B qr s1  w0) (fun u : va_W => wpost dC dI cy (va_A w0 sz) u) (va_A w0 sz)) 0 0 (va_A w0 sz) := by
  refine Met.ofW (cc := cX12_tested) (maxL := 3) (ret := (some .boolean)) (by decide) rfl ?_
  intro p e s m args below meth c s₁ Bk hml hv
  obtain ⟨rfl, ⟨hsz, hP, hK, hD0⟩, hE, hSR⟩ := hv
  have hx := Bk.exec
  have hb := Bk.bytes
  have hr := Bk.returns
  have hlocks := Bk.notSynchronized
  have hC : CallFix p m c cX12_tested 3 s _ wsX12_tested RX12 := ⟨hx, hb, hml, findClass_of_methodNamed Bk.named, atoms_spec (ws := wsX12_tested) Bk.pre⟩
  subst hsz
  have hD := hD0.self (sz := s.heap.size)
  generalize hAe : va_A w0 s.heap.size = A at hD hE ⊢
  have hA : ∀ q : Nat, s.heap.size ≤ q → A q := fun q h => by rw [← hAe]; exact Or.inr h
  have hw : Wd dC dI A s.heap s.heap [] w0 := ⟨hP, hD, va_S.rf⟩
  have hF : FE ksM [(12, 14, 14), (12, 15, 15), (12, 16, 16), (12, 18, 18), (12, 19, 19), (12, 22, 22), (61, 0, 2400), (62, 0, 7), (68, 0, 400)] w0 w0 := FE.rf
  have hl := lv_entry ([.ref (ad 0)]) (n := 3) (Nat.le_of_ble_eq_true rfl)
  rw [lg_entry_eq]
  generalize (lg_sl ([.ref (ad 0)]) ++ List.replicate (3 - (lg_sl ([.ref (ad 0)])).length) Slot.unset).toArray = ls at hl ⊢
  have hl : lv_has ls 3 [(0, .ref (ad 0))] := hl
  generalize hloc : ([] : List Loc) = locs at hw ⊢
  have hinX12 : ∀ w ∈ u_ws RX12 TX12 42, w ∈ wsX12_tested := fun _ h => List.mem_cons_of_mem _ (List.mem_append_right _ (h))
  have L12 : ∀ (n12 : Nat) (v12_1 : Int32) (f12_0_18 : Int32) (f12_0_19 : Int32) (f12_0_22 : Int32) (f12_3_1 : Int32) (H : Heap) (locs : List Loc) (ls : Array Slot) (w1 : va_W), 0 ≤ v12_1.toInt → v12_1.toInt ≤ 1 → 0 ≤ f12_0_18.toInt → f12_0_18.toInt ≤ 60 → (-60) ≤ f12_0_19.toInt → f12_0_19.toInt ≤ 10 → 0 ≤ f12_0_22.toInt → f12_0_22.toInt ≤ 280 → 0 ≤ f12_3_1.toInt → f12_3_1.toInt ≤ 280 → (3 * (f12_3_1.toInt + f12_0_22.toInt) ≤ 14 * f12_0_18.toInt) → (f12_0_22.toInt ≤ f12_0_19.toInt + f12_0_18.toInt) → (f12_3_1.toInt ≤ 280) → (f12_0_22.toInt ≤ 280) → (-60 ≤ f12_0_19.toInt) → (60 - f12_0_18.toInt).toNat < n12 → Wd dC dI A s.heap H locs w1 → TW ksM ad cy B qr 12 w1 → FE ksM [(12, 14, 14), (12, 15, 15), (12, 16, 16), (12, 18, 18), (12, 19, 19), (12, 22, 22), (61, 0, 2400), (62, 0, 7), (68, 0, 400)] w0 w1 → gi w1 0 17 = 1 → gi w1 0 18 = f12_0_18 → gi w1 0 19 = f12_0_19 → gi w1 0 22 = f12_0_22 → gi w1 3 1 = f12_3_1 → lv_has ls 3 [(0, .ref (ad 0)), (1, .int v12_1)] → W p l e ({ frames := 9, cells := 0, slots := 0, locals := 188 }) s m (List.toArray [.ref (ad 0)]) below meth c H locs 0 0 (MQ below (va_Qi (P_X12_tested_2 ad cy B qr s1  w0) (fun u : va_W => wpost dC dI cy A u) A) (List.toArray [.ref (ad 0)]) s 0 0 A) (F0 m 12 ls []) := by
    intro n12
    induction n12 with
    | zero => intro v12_1 f12_0_18 f12_0_19 f12_0_22 f12_3_1 H locs ls w1 r2 t3 r5 t6 r8 t9 r11 t12 r14 t15 hcr12_0 hcr12_1 hcr12_2 hcr12_3 hcr12_4 hm12 hw hT hF c4 c7 c10 c13 c16 hl; omega
    | succ n12 ih12 =>
      intro v12_1 f12_0_18 f12_0_19 f12_0_22 f12_3_1 H locs ls w1 r2 t3 r5 t6 r8 t9 r11 t12 r14 t15 hcr12_0 hcr12_1 hcr12_2 hcr12_3 hcr12_4 hm12 hw hT hF c4 c7 c10 c13 c16 hl
      have J49 : ∀ (f49_0_1 : Int32) (f49_0_14 : Int32) (f49_0_18 : Int32) (f49_0_19 : Int32) (f49_0_22 : Int32) (f49_3_1 : Int32) (H : Heap) (locs : List Loc) (ls : Array Slot) (w17 : va_W), 1 ≤ f49_0_1.toInt → f49_0_1.toInt ≤ 400 → 0 ≤ f49_0_14.toInt → f49_0_14.toInt ≤ 400 → 1 ≤ f49_0_18.toInt → f49_0_18.toInt ≤ 60 → (-60) ≤ f49_0_19.toInt → f49_0_19.toInt ≤ 10 → 0 ≤ f49_0_22.toInt → f49_0_22.toInt ≤ 280 → 0 ≤ f49_3_1.toInt → f49_3_1.toInt ≤ 280 → (3 * (f49_3_1.toInt + f49_0_22.toInt) ≤ 14 * f49_0_18.toInt) → (f49_0_22.toInt ≤ f49_0_19.toInt + f49_0_18.toInt) → (f49_3_1.toInt ≤ 280) → (f49_0_22.toInt ≤ 280) → (-60 ≤ f49_0_19.toInt) → Wd dC dI A s.heap H locs w17 → TW ksM ad cy B qr 12 w17 → FE ksM [(12, 14, 14), (12, 15, 15), (12, 16, 16), (12, 18, 18), (12, 19, 19), (12, 22, 22), (61, 0, 2400), (62, 0, 7), (68, 0, 400)] w0 w17 → gi w17 0 1 = f49_0_1 → gi w17 0 14 = f49_0_14 → gi w17 0 17 = 1 → gi w17 0 18 = f49_0_18 → gi w17 0 19 = f49_0_19 → gi w17 0 22 = f49_0_22 → gi w17 3 1 = f49_3_1 → lv_has ls 3 [(0, .ref (ad 0)), (1, .int 1)] → W p l e ({ frames := 9, cells := 0, slots := 0, locals := 188 }) s m (List.toArray [.ref (ad 0)]) below meth c H locs 0 0 (MQ below (va_Qi (P_X12_tested_2 ad cy B qr s1  w0) (fun u : va_W => wpost dC dI cy A u) A) (List.toArray [.ref (ad 0)]) s 0 0 A) (F0 m 49 ls []) := by
        intro f49_0_1 f49_0_14 f49_0_18 f49_0_19 f49_0_22 f49_3_1 H locs ls w17 r18 t19 r21 t22 r25 t26 r28 t29 r31 t32 r34 t35 hcr49_0 hcr49_1 hcr49_2 hcr49_3 hcr49_4 hw hT hF c20 c23 c24 c27 c30 c33 c36 hl
        refine lv_iconst (v := 1) hx hb dX12_tested_49 (by decide) ?_
        refine lv_goto (tgt := 54) hx hb dX12_tested_50 (by decide) ?_
        refine lv_istore_n (lv' := [(1, .int 1), (0, .ref (ad 0))]) hx hb dX12_tested_54 rfl hl (by decide) rfl (fun ls hl => ?_)
        refine lv_iload_n hx hb dX12_tested_55 rfl (lv_at hl 0 rfl) ?_
        refine lv_if_eq (tgt := 12) hx hb dX12_tested_56 (by decide) (fun c => absurd c (by decide)) (fun _ => ?_)
        refine lv_aload_n hx hb dX12_tested_59 rfl (lv_at hl 1 rfl) ?_
        refine lv_ldc2 (v := 6385252) hx hb hC.2.2.2.1 (hC.2.2.2.2 _ (List.mem_of_getElem? (i := 3) rfl)) dX12_tested_60 ?_
        refine tk_Vi hC hK hw hT hA hE hSR kM_at0 (by decide) rfl (k_X12_isWord_22 l adK adV dC dI cy ad B (by omega) (by omega) qr s1    w17 H.size hT f49_0_14 c23 (show 0 ≤ f49_0_14.toInt by omega) (show f49_0_14.toInt ≤ 400 by omega)) (cwV 1 hC.2.2.2.2 gX12_tested_X12_isWord rfl rfl rfl (by decide +kernel) ⟨Nat.le_of_ble_eq_true rfl, Nat.le_of_ble_eq_true rfl⟩) rfl hl.1 rfl (Nat.le_of_ble_eq_true rfl) dX12_tested_63 (fun r37 w39 H locs hp38 hw => ?_)
        obtain ⟨hT, k40, hg47⟩ := hp38
        have hF := hF.tr k40 (by decide)
        have c48 := k40.gi kM_at0 (by decide) c20
        have c49 := k40.gi kM_at0 (by decide) c24
        have c50 := k40.gi kM_at0 (by decide) c27
        have c51 := k40.gi kM_at0 (by decide) c30
        have c52 := k40.gi kM_at0 (by decide) c33
        have c53 := k40.gi kM_at3 (by decide) c36
        rcases hg47 with ⟨rfl, ⟨x41, c42, rx41, tx41⟩, g43⟩ | ⟨rfl, ⟨x44, c45, rx44, tx44⟩, g46⟩
        · have ex41 : x41.toInt = f49_0_1.toInt := by rw [← c48.symm.trans c42]
          obtain ⟨x54, c55, rx54, tx54⟩ := hT.rdi (lo := 0) (hi := 400) (k := 14) kM_at0 (by decide) rfl
          have g43 : (x54.toInt = f49_0_14.toInt ∨ (gi w17 1 (f49_0_14.toInt).toNat).toInt = 32) := by have q := g43; simp only [c23, c55] at q; omega
          refine lv_if_eq (tgt := 74) hx hb dX12_tested_66 (by decide) (fun _ => ?_) (fun c => absurd (by decide) c)
          refine lv_bipush (v := 13) hx hb dX12_tested_74 (by decide) ?_
          refine lv_istore_n (lv' := [(2, .int 13), (1, .int 1), (0, .ref (ad 0))]) hx hb dX12_tested_76 rfl hl (by decide) rfl (fun ls hl => ?_)
          refine lv_aload_n hx hb dX12_tested_77 rfl (lv_at hl 2 rfl) ?_
          refine tk_Vv hC hK hw hT hA hE hSR kM_at0 (by decide) rfl (k_X12_passWord_1 l adK adV dC dI cy ad B (by omega) (by omega) qr s1    w39 H.size hT ) (cwV 0 hC.2.2.2.2 gX12_tested_X12_passWord rfl rfl rfl (by decide +kernel) ⟨Nat.le_of_ble_eq_true rfl, Nat.le_of_ble_eq_true rfl⟩) rfl hl.1 rfl (Nat.le_of_ble_eq_true rfl) dX12_tested_78 (fun w60 H locs hp59 hw => ?_)
          obtain ⟨hT, k61, hg68⟩ := hp59
          have hF := hF.tr k61 (by decide)
          have c69 := k61.gi kM_at0 (by decide) c48
          have c70 := k61.gi kM_at0 (by decide) c49
          have c71 := k61.gi kM_at0 (by decide) c50
          have c72 := k61.gi kM_at0 (by decide) c51
          have c73 := k61.gi kM_at0 (by decide) c52
          have c74 := k61.gi kM_at3 (by decide) c53
          rcases hg68 with ⟨⟨x62, c63, rx62, tx62⟩, ⟨x64, c65, rx64, tx64⟩⟩ | ⟨x66, c67, rx66, tx66⟩
          · have ex62 : x62.toInt = f49_0_1.toInt := by rw [← c69.symm.trans c63]
            refine lv_aload_n hx hb dX12_tested_81 rfl (lv_at hl 2 rfl) ?_
            refine lv_iload_n hx hb dX12_tested_82 rfl (lv_at hl 0 rfl) ?_
            refine tk_Si hC hK hw hT hA hE hSR (k_X12_strength_3 l adK adV dC dI cy ad B (by omega) (by omega) qr s1    w60 H.size hT ) (va_cwS 1 hC.2.2.2.2 gX12_tested_X12_strength rfl rfl rfl (by decide +kernel) ⟨Nat.le_of_ble_eq_true rfl, Nat.le_of_ble_eq_true rfl⟩) rfl hl.1 rfl (Nat.le_of_ble_eq_true rfl) dX12_tested_83 (fun r75 w77 H locs hp76 hw => ?_)
            obtain ⟨rfl, hg79⟩ := hp76
            obtain rfl := hg79
            refine tk_Vv hC hK hw hT hA hE hSR kM_at0 (by decide) rfl (k_X12_settles_4 l adK adV dC dI cy ad B (by omega) (by omega) qr s1    w60 H.size hT c70 f49_0_18 c71 (show 0 ≤ f49_0_18.toInt by omega) (show f49_0_18.toInt ≤ 60 by omega) f49_0_19 c72 (show (-100) ≤ f49_0_19.toInt by omega) (show f49_0_19.toInt ≤ 10 by omega) f49_0_22 c73 (show 0 ≤ f49_0_22.toInt by omega) (show f49_0_22.toInt ≤ 400 by omega) f49_3_1 c74 (show 0 ≤ f49_3_1.toInt by omega) (show f49_3_1.toInt ≤ 400 by omega) (show f49_3_1.toInt + f49_0_22.toInt ≤ 390 by omega) (show f49_0_22.toInt ≤ f49_0_19.toInt + f49_0_18.toInt by omega) (show f49_3_1.toInt ≤ 390 by omega) (show f49_0_22.toInt ≤ 390 by omega)) (cwV 1 hC.2.2.2.2 gX12_tested_X12_settles rfl rfl rfl (by decide +kernel) ⟨Nat.le_of_ble_eq_true rfl, Nat.le_of_ble_eq_true rfl⟩) rfl hl.1 rfl (Nat.le_of_ble_eq_true rfl) dX12_tested_86 (fun w82 H locs hp81 hw => ?_)
            obtain ⟨hT, k83, hg97⟩ := hp81
            have hF := hF.tr k83 (by decide)
            have c98 := k83.gi kM_at0 (by decide) c69
            have c99 := k83.gi kM_at0 (by decide) c70
            have c100 := k83.gi kM_at0 (by decide) c71
            have c101 := k83.gi kM_at0 (by decide) c65
            obtain ⟨⟨x84, c85, rx84, tx84⟩, ⟨x86, c87, rx86, tx86⟩, ⟨x88, c89, rx88, tx88⟩, g90, g91, g92, g93, g94, g95, g96⟩ := hg97
            have ex84 : x84.toInt = (1 : Int) := by rw [show x84 = 1 from c85.symm.trans c99]; decide
            obtain ⟨x102, c103, rx102, tx102⟩ := hT.rda (lo := 0) (hi := 400) (i := 1) kM_at3 rfl rfl (by decide)
            have g90 : x102.toInt + x88.toInt = f49_3_1.toInt + f49_0_22.toInt := by have q := g90; simp only [c74, c103, c73, c89] at q; omega
            have g91 : x88.toInt ≤ f49_0_22.toInt := by have q := g91; simp only [c73, c89] at q; omega
            have g92 : x88.toInt + f49_0_19.toInt ≤ f49_0_22.toInt + x86.toInt := by have q := g92; simp only [c72, c87, c73, c89] at q; omega
            have g93 : x88.toInt ≤ x86.toInt + f49_0_18.toInt := by have q := g93; simp only [c87, c71, c89] at q; omega
            have g94 : x88.toInt ≤ 390 := by have q := g94; simp only [c89] at q; omega
            have g95 : x102.toInt ≤ 390 := by have q := g95; simp only [c103] at q; omega
            have g96 : brkN w60 (x88.toInt).toNat = brkN w60 (f49_0_22.toInt).toNat := by have q := g96; simp only [c73, c89] at q; omega
            refine lv_aload_n hx hb dX12_tested_89 rfl (lv_at hl 2 rfl) ?_
            refine tk_getA hC hK hw hT hinX12 kM_at0 (by decide) rfl 21 (by decide) (List.mem_of_getElem? (i := 5) rfl) rfl rfl dX12_tested_90 ?_
            refine lv_aload_n hx hb dX12_tested_93 rfl (lv_at hl 2 rfl) ?_
            refine tk_geti hC hK hw hT hinX12 kM_at0 (by decide) rfl 22 (by decide) (List.mem_of_getElem? (i := 1) rfl) rfl rfl dX12_tested_94 (fun x104 c105 rx104 tx104 => ?_)
            refine wk_top x88 (c105.symm.trans c89) ?_
            refine lv_iload_n hx hb dX12_tested_97 rfl (lv_at hl 0 rfl) ?_
            refine tk_iast hC hK hw hT kM_at9 (by decide) rfl rfl (show 0 ≤ x88.toInt by omega) (show x88.toInt < 400 by omega) (by decide) (by decide) dX12_tested_98 (fun H locs w106 hw hT k108 c107 => ?_)
            have hF := hF.put kM_at9 (inE_of (a := 0) (b := 400) (by decide) (show 0 ≤ x88.toInt.toNat by omega) (show x88.toInt.toNat ≤ 400 by omega)) k108
            have c109 := k108.gi (Or.inl (tk_ne kM_at0 kM_at9 (by decide))) c98
            have c110 := k108.gi (Or.inl (tk_ne kM_at0 kM_at9 (by decide))) c99
            have c111 := k108.gi (Or.inl (tk_ne kM_at0 kM_at9 (by decide))) c100
            have c112 := k108.gi (Or.inl (tk_ne kM_at0 kM_at9 (by decide))) c101
            have c113 := k108.gi (Or.inl (tk_ne kM_at0 kM_at9 (by decide))) c87
            have c114 := k108.gi (Or.inl (tk_ne kM_at0 kM_at9 (by decide))) c89
            have c115 := k108.gi (Or.inl (tk_ne kM_at3 kM_at9 (by decide))) c103
            refine lv_aload_n hx hb dX12_tested_99 rfl (lv_at hl 2 rfl) ?_
            refine lv_dup hx hb dX12_tested_100 rfl ?_
            refine tk_geti hC hK hw hT hinX12 kM_at0 (by decide) rfl 22 (by decide) (List.mem_of_getElem? (i := 1) rfl) rfl rfl dX12_tested_101 (fun x116 c117 rx116 tx116 => ?_)
            refine wk_top x88 (c117.symm.trans c114) ?_
            refine lv_iconst (v := 1) hx hb dX12_tested_104 (by decide) ?_
            refine lv_iadd hx hb dX12_tested_105 ?_
            refine lv_topi (fun x118 ex118 => ?_)
            have ex118 : x118.toInt = x88.toInt + (1 : Int) := by rw [ex118]; exact wk_add (show (-2147483648) ≤ x88.toInt + (1 : Int) by omega) (show x88.toInt + (1 : Int) ≤ 2147483647 by omega)
            refine tk_puti hC hK hw hT hinX12 tyX12_ok nmX12 kM_at0 (by decide) rfl rfl 22 (by decide) (List.mem_of_getElem? (i := 1) rfl) rfl rfl rfl rfl (show 0 ≤ x118.toInt by omega) (show x118.toInt ≤ 400 by omega) dX12_tested_106 (fun H locs w119 hw hT k121 c120 => ?_)
            have hF := hF.put kM_at0 (k := 22) (by decide) k121
            have c122 := k121.gi (Or.inr (by decide)) c109
            have c123 := k121.gi (Or.inr (by decide)) c110
            have c124 := k121.gi (Or.inr (by decide)) c111
            have c125 := k121.gi (Or.inr (by decide)) c112
            have c126 := k121.gi (Or.inr (by decide)) c113
            have c127 := k121.gi (Or.inr (by decide)) c115
            refine lv_goto (tgt := 12) hx hb dX12_tested_109 (by decide) ?_
            exact ih12 1 f49_0_18 x86 x118 x102 H locs ls w119 (by decide) (by decide) (show 0 ≤ f49_0_18.toInt by omega) (show f49_0_18.toInt ≤ 60 by omega) (show (-60) ≤ x86.toInt by omega) (show x86.toInt ≤ 10 by omega) (show 0 ≤ x118.toInt by omega) (show x118.toInt ≤ 280 by omega) (show 0 ≤ x102.toInt by omega) (show x102.toInt ≤ 280 by omega) (show 3 * (x102.toInt + x118.toInt) ≤ 14 * f49_0_18.toInt by omega) (show x118.toInt ≤ x86.toInt + f49_0_18.toInt by omega) (show x102.toInt ≤ 280 by omega) (show x118.toInt ≤ 280 by omega) (show -60 ≤ x86.toInt by omega) (show (60 - f49_0_18.toInt).toNat < n12 by omega) hw hT hF c123 c124 c126 c120 c127 (lv_sub hl [2, 1] rfl)
          · have ex66 : x66.toInt = f49_0_1.toInt := by rw [← c69.symm.trans c67]
            refine lv_aload_n hx hb dX12_tested_81 rfl (lv_at hl 2 rfl) ?_
            refine lv_iload_n hx hb dX12_tested_82 rfl (lv_at hl 0 rfl) ?_
            refine tk_Si hC hK hw hT hA hE hSR (k_X12_strength_3 l adK adV dC dI cy ad B (by omega) (by omega) qr s1    w60 H.size hT ) (va_cwS 1 hC.2.2.2.2 gX12_tested_X12_strength rfl rfl rfl (by decide +kernel) ⟨Nat.le_of_ble_eq_true rfl, Nat.le_of_ble_eq_true rfl⟩) rfl hl.1 rfl (Nat.le_of_ble_eq_true rfl) dX12_tested_83 (fun r128 w130 H locs hp129 hw => ?_)
            obtain ⟨rfl, hg132⟩ := hp129
            obtain rfl := hg132
            refine tk_Vv hC hK hw hT hA hE hSR kM_at0 (by decide) rfl (k_X12_settles_4 l adK adV dC dI cy ad B (by omega) (by omega) qr s1    w60 H.size hT c70 f49_0_18 c71 (show 0 ≤ f49_0_18.toInt by omega) (show f49_0_18.toInt ≤ 60 by omega) f49_0_19 c72 (show (-100) ≤ f49_0_19.toInt by omega) (show f49_0_19.toInt ≤ 10 by omega) f49_0_22 c73 (show 0 ≤ f49_0_22.toInt by omega) (show f49_0_22.toInt ≤ 400 by omega) f49_3_1 c74 (show 0 ≤ f49_3_1.toInt by omega) (show f49_3_1.toInt ≤ 400 by omega) (show f49_3_1.toInt + f49_0_22.toInt ≤ 390 by omega) (show f49_0_22.toInt ≤ f49_0_19.toInt + f49_0_18.toInt by omega) (show f49_3_1.toInt ≤ 390 by omega) (show f49_0_22.toInt ≤ 390 by omega)) (cwV 1 hC.2.2.2.2 gX12_tested_X12_settles rfl rfl rfl (by decide +kernel) ⟨Nat.le_of_ble_eq_true rfl, Nat.le_of_ble_eq_true rfl⟩) rfl hl.1 rfl (Nat.le_of_ble_eq_true rfl) dX12_tested_86 (fun w135 H locs hp134 hw => ?_)
            obtain ⟨hT, k136, hg150⟩ := hp134
            have hF := hF.tr k136 (by decide)
            have c151 := k136.gi kM_at0 (by decide) c69
            have c152 := k136.gi kM_at0 (by decide) c70
            have c153 := k136.gi kM_at0 (by decide) c71
            obtain ⟨⟨x137, c138, rx137, tx137⟩, ⟨x139, c140, rx139, tx139⟩, ⟨x141, c142, rx141, tx141⟩, g143, g144, g145, g146, g147, g148, g149⟩ := hg150
            have ex137 : x137.toInt = (1 : Int) := by rw [show x137 = 1 from c138.symm.trans c152]; decide
            obtain ⟨x154, c155, rx154, tx154⟩ := hT.rda (lo := 0) (hi := 400) (i := 1) kM_at3 rfl rfl (by decide)
            have g143 : x154.toInt + x141.toInt = f49_3_1.toInt + f49_0_22.toInt := by have q := g143; simp only [c74, c155, c73, c142] at q; omega
            have g144 : x141.toInt ≤ f49_0_22.toInt := by have q := g144; simp only [c73, c142] at q; omega
            have g145 : x141.toInt + f49_0_19.toInt ≤ f49_0_22.toInt + x139.toInt := by have q := g145; simp only [c72, c140, c73, c142] at q; omega
            have g146 : x141.toInt ≤ x139.toInt + f49_0_18.toInt := by have q := g146; simp only [c140, c71, c142] at q; omega
            have g147 : x141.toInt ≤ 390 := by have q := g147; simp only [c142] at q; omega
            have g148 : x154.toInt ≤ 390 := by have q := g148; simp only [c155] at q; omega
            have g149 : brkN w60 (x141.toInt).toNat = brkN w60 (f49_0_22.toInt).toNat := by have q := g149; simp only [c73, c142] at q; omega
            refine lv_aload_n hx hb dX12_tested_89 rfl (lv_at hl 2 rfl) ?_
            refine tk_getA hC hK hw hT hinX12 kM_at0 (by decide) rfl 21 (by decide) (List.mem_of_getElem? (i := 5) rfl) rfl rfl dX12_tested_90 ?_
            refine lv_aload_n hx hb dX12_tested_93 rfl (lv_at hl 2 rfl) ?_
            refine tk_geti hC hK hw hT hinX12 kM_at0 (by decide) rfl 22 (by decide) (List.mem_of_getElem? (i := 1) rfl) rfl rfl dX12_tested_94 (fun x156 c157 rx156 tx156 => ?_)
            refine wk_top x141 (c157.symm.trans c142) ?_
            refine lv_iload_n hx hb dX12_tested_97 rfl (lv_at hl 0 rfl) ?_
            refine tk_iast hC hK hw hT kM_at9 (by decide) rfl rfl (show 0 ≤ x141.toInt by omega) (show x141.toInt < 400 by omega) (by decide) (by decide) dX12_tested_98 (fun H locs w158 hw hT k160 c159 => ?_)
            have hF := hF.put kM_at9 (inE_of (a := 0) (b := 400) (by decide) (show 0 ≤ x141.toInt.toNat by omega) (show x141.toInt.toNat ≤ 400 by omega)) k160
            have c161 := k160.gi (Or.inl (tk_ne kM_at0 kM_at9 (by decide))) c151
            have c162 := k160.gi (Or.inl (tk_ne kM_at0 kM_at9 (by decide))) c152
            have c163 := k160.gi (Or.inl (tk_ne kM_at0 kM_at9 (by decide))) c153
            have c164 := k160.gi (Or.inl (tk_ne kM_at0 kM_at9 (by decide))) c140
            have c165 := k160.gi (Or.inl (tk_ne kM_at0 kM_at9 (by decide))) c142
            have c166 := k160.gi (Or.inl (tk_ne kM_at3 kM_at9 (by decide))) c155
            refine lv_aload_n hx hb dX12_tested_99 rfl (lv_at hl 2 rfl) ?_
            refine lv_dup hx hb dX12_tested_100 rfl ?_
            refine tk_geti hC hK hw hT hinX12 kM_at0 (by decide) rfl 22 (by decide) (List.mem_of_getElem? (i := 1) rfl) rfl rfl dX12_tested_101 (fun x167 c168 rx167 tx167 => ?_)
            refine wk_top x141 (c168.symm.trans c165) ?_
            refine lv_iconst (v := 1) hx hb dX12_tested_104 (by decide) ?_
            refine lv_iadd hx hb dX12_tested_105 ?_
            refine lv_topi (fun x169 ex169 => ?_)
            have ex169 : x169.toInt = x141.toInt + (1 : Int) := by rw [ex169]; exact wk_add (show (-2147483648) ≤ x141.toInt + (1 : Int) by omega) (show x141.toInt + (1 : Int) ≤ 2147483647 by omega)
            refine tk_puti hC hK hw hT hinX12 tyX12_ok nmX12 kM_at0 (by decide) rfl rfl 22 (by decide) (List.mem_of_getElem? (i := 1) rfl) rfl rfl rfl rfl (show 0 ≤ x169.toInt by omega) (show x169.toInt ≤ 400 by omega) dX12_tested_106 (fun H locs w170 hw hT k172 c171 => ?_)
            have hF := hF.put kM_at0 (k := 22) (by decide) k172
            have c173 := k172.gi (Or.inr (by decide)) c161
            have c174 := k172.gi (Or.inr (by decide)) c162
            have c175 := k172.gi (Or.inr (by decide)) c163
            have c176 := k172.gi (Or.inr (by decide)) c164
            have c177 := k172.gi (Or.inr (by decide)) c166
            refine lv_goto (tgt := 12) hx hb dX12_tested_109 (by decide) ?_
            exact ih12 1 f49_0_18 x139 x169 x154 H locs ls w170 (by decide) (by decide) (show 0 ≤ f49_0_18.toInt by omega) (show f49_0_18.toInt ≤ 60 by omega) (show (-60) ≤ x139.toInt by omega) (show x139.toInt ≤ 10 by omega) (show 0 ≤ x169.toInt by omega) (show x169.toInt ≤ 280 by omega) (show 0 ≤ x154.toInt by omega) (show x154.toInt ≤ 280 by omega) (show 3 * (x154.toInt + x169.toInt) ≤ 14 * f49_0_18.toInt by omega) (show x169.toInt ≤ x139.toInt + f49_0_18.toInt by omega) (show x154.toInt ≤ 280 by omega) (show x169.toInt ≤ 280 by omega) (show -60 ≤ x139.toInt by omega) (show (60 - f49_0_18.toInt).toNat < n12 by omega) hw hT hF c174 c175 c176 c171 c177 (lv_sub hl [2, 1] rfl)
        · have ex44 : x44.toInt = f49_0_1.toInt := by rw [← c48.symm.trans c45]
          obtain ⟨x56, c57, rx56, tx56⟩ := hT.rdi (lo := 0) (hi := 400) (k := 14) kM_at0 (by decide) rfl
          have g46 : (x56.toInt = f49_0_14.toInt ∨ (gi w17 1 (f49_0_14.toInt).toNat).toInt = 32) := by have q := g46; simp only [c23, c57] at q; omega
          refine lv_if_eq (tgt := 74) hx hb dX12_tested_66 (by decide) (fun c => absurd c (by decide)) (fun _ => ?_)
          refine lv_bipush (v := 12) hx hb dX12_tested_69 (by decide) ?_
          refine lv_goto (tgt := 76) hx hb dX12_tested_71 (by decide) ?_
          refine lv_istore_n (lv' := [(2, .int 12), (1, .int 1), (0, .ref (ad 0))]) hx hb dX12_tested_76 rfl hl (by decide) rfl (fun ls hl => ?_)
          refine lv_aload_n hx hb dX12_tested_77 rfl (lv_at hl 2 rfl) ?_
          refine tk_Vv hC hK hw hT hA hE hSR kM_at0 (by decide) rfl (k_X12_passWord_1 l adK adV dC dI cy ad B (by omega) (by omega) qr s1    w39 H.size hT ) (cwV 0 hC.2.2.2.2 gX12_tested_X12_passWord rfl rfl rfl (by decide +kernel) ⟨Nat.le_of_ble_eq_true rfl, Nat.le_of_ble_eq_true rfl⟩) rfl hl.1 rfl (Nat.le_of_ble_eq_true rfl) dX12_tested_78 (fun w180 H locs hp179 hw => ?_)
          obtain ⟨hT, k181, hg188⟩ := hp179
          have hF := hF.tr k181 (by decide)
          have c189 := k181.gi kM_at0 (by decide) c48
          have c190 := k181.gi kM_at0 (by decide) c49
          have c191 := k181.gi kM_at0 (by decide) c50
          have c192 := k181.gi kM_at0 (by decide) c51
          have c193 := k181.gi kM_at0 (by decide) c52
          have c194 := k181.gi kM_at3 (by decide) c53
          rcases hg188 with ⟨⟨x182, c183, rx182, tx182⟩, ⟨x184, c185, rx184, tx184⟩⟩ | ⟨x186, c187, rx186, tx186⟩
          · have ex182 : x182.toInt = f49_0_1.toInt := by rw [← c189.symm.trans c183]
            refine lv_aload_n hx hb dX12_tested_81 rfl (lv_at hl 2 rfl) ?_
            refine lv_iload_n hx hb dX12_tested_82 rfl (lv_at hl 0 rfl) ?_
            refine tk_Si hC hK hw hT hA hE hSR (k_X12_strength_2 l adK adV dC dI cy ad B (by omega) (by omega) qr s1    w180 H.size hT ) (va_cwS 1 hC.2.2.2.2 gX12_tested_X12_strength rfl rfl rfl (by decide +kernel) ⟨Nat.le_of_ble_eq_true rfl, Nat.le_of_ble_eq_true rfl⟩) rfl hl.1 rfl (Nat.le_of_ble_eq_true rfl) dX12_tested_83 (fun r195 w197 H locs hp196 hw => ?_)
            obtain ⟨rfl, hg199⟩ := hp196
            obtain rfl := hg199
            refine tk_Vv hC hK hw hT hA hE hSR kM_at0 (by decide) rfl (k_X12_settles_6 l adK adV dC dI cy ad B (by omega) (by omega) qr s1    w180 H.size hT c190 f49_0_18 c191 (show 0 ≤ f49_0_18.toInt by omega) (show f49_0_18.toInt ≤ 60 by omega) f49_0_19 c192 (show (-100) ≤ f49_0_19.toInt by omega) (show f49_0_19.toInt ≤ 10 by omega) f49_0_22 c193 (show 0 ≤ f49_0_22.toInt by omega) (show f49_0_22.toInt ≤ 400 by omega) f49_3_1 c194 (show 0 ≤ f49_3_1.toInt by omega) (show f49_3_1.toInt ≤ 400 by omega) (show f49_3_1.toInt + f49_0_22.toInt ≤ 390 by omega) (show f49_0_22.toInt ≤ f49_0_19.toInt + f49_0_18.toInt by omega) (show f49_3_1.toInt ≤ 390 by omega) (show f49_0_22.toInt ≤ 390 by omega)) (cwV 1 hC.2.2.2.2 gX12_tested_X12_settles rfl rfl rfl (by decide +kernel) ⟨Nat.le_of_ble_eq_true rfl, Nat.le_of_ble_eq_true rfl⟩) rfl hl.1 rfl (Nat.le_of_ble_eq_true rfl) dX12_tested_86 (fun w202 H locs hp201 hw => ?_)
            obtain ⟨hT, k203, hg217⟩ := hp201
            have hF := hF.tr k203 (by decide)
            have c218 := k203.gi kM_at0 (by decide) c189
            have c219 := k203.gi kM_at0 (by decide) c190
            have c220 := k203.gi kM_at0 (by decide) c191
            have c221 := k203.gi kM_at0 (by decide) c185
            obtain ⟨⟨x204, c205, rx204, tx204⟩, ⟨x206, c207, rx206, tx206⟩, ⟨x208, c209, rx208, tx208⟩, g210, g211, g212, g213, g214, g215, g216⟩ := hg217
            have ex204 : x204.toInt = (1 : Int) := by rw [show x204 = 1 from c205.symm.trans c219]; decide
            obtain ⟨x222, c223, rx222, tx222⟩ := hT.rda (lo := 0) (hi := 400) (i := 1) kM_at3 rfl rfl (by decide)
            have g210 : x222.toInt + x208.toInt = f49_3_1.toInt + f49_0_22.toInt := by have q := g210; simp only [c194, c223, c193, c209] at q; omega
            have g211 : x208.toInt ≤ f49_0_22.toInt := by have q := g211; simp only [c193, c209] at q; omega
            have g212 : x208.toInt + f49_0_19.toInt ≤ f49_0_22.toInt + x206.toInt := by have q := g212; simp only [c192, c207, c193, c209] at q; omega
            have g213 : x208.toInt ≤ x206.toInt + f49_0_18.toInt := by have q := g213; simp only [c207, c191, c209] at q; omega
            have g214 : x208.toInt ≤ 390 := by have q := g214; simp only [c209] at q; omega
            have g215 : x222.toInt ≤ 390 := by have q := g215; simp only [c223] at q; omega
            have g216 : brkN w180 (x208.toInt).toNat = brkN w180 (f49_0_22.toInt).toNat := by have q := g216; simp only [c193, c209] at q; omega
            refine lv_aload_n hx hb dX12_tested_89 rfl (lv_at hl 2 rfl) ?_
            refine tk_getA hC hK hw hT hinX12 kM_at0 (by decide) rfl 21 (by decide) (List.mem_of_getElem? (i := 5) rfl) rfl rfl dX12_tested_90 ?_
            refine lv_aload_n hx hb dX12_tested_93 rfl (lv_at hl 2 rfl) ?_
            refine tk_geti hC hK hw hT hinX12 kM_at0 (by decide) rfl 22 (by decide) (List.mem_of_getElem? (i := 1) rfl) rfl rfl dX12_tested_94 (fun x224 c225 rx224 tx224 => ?_)
            refine wk_top x208 (c225.symm.trans c209) ?_
            refine lv_iload_n hx hb dX12_tested_97 rfl (lv_at hl 0 rfl) ?_
            refine tk_iast hC hK hw hT kM_at9 (by decide) rfl rfl (show 0 ≤ x208.toInt by omega) (show x208.toInt < 400 by omega) (by decide) (by decide) dX12_tested_98 (fun H locs w226 hw hT k228 c227 => ?_)
            have hF := hF.put kM_at9 (inE_of (a := 0) (b := 400) (by decide) (show 0 ≤ x208.toInt.toNat by omega) (show x208.toInt.toNat ≤ 400 by omega)) k228
            have c229 := k228.gi (Or.inl (tk_ne kM_at0 kM_at9 (by decide))) c218
            have c230 := k228.gi (Or.inl (tk_ne kM_at0 kM_at9 (by decide))) c219
            have c231 := k228.gi (Or.inl (tk_ne kM_at0 kM_at9 (by decide))) c220
            have c232 := k228.gi (Or.inl (tk_ne kM_at0 kM_at9 (by decide))) c221
            have c233 := k228.gi (Or.inl (tk_ne kM_at0 kM_at9 (by decide))) c207
            have c234 := k228.gi (Or.inl (tk_ne kM_at0 kM_at9 (by decide))) c209
            have c235 := k228.gi (Or.inl (tk_ne kM_at3 kM_at9 (by decide))) c223
            refine lv_aload_n hx hb dX12_tested_99 rfl (lv_at hl 2 rfl) ?_
            refine lv_dup hx hb dX12_tested_100 rfl ?_
            refine tk_geti hC hK hw hT hinX12 kM_at0 (by decide) rfl 22 (by decide) (List.mem_of_getElem? (i := 1) rfl) rfl rfl dX12_tested_101 (fun x236 c237 rx236 tx236 => ?_)
            refine wk_top x208 (c237.symm.trans c234) ?_
            refine lv_iconst (v := 1) hx hb dX12_tested_104 (by decide) ?_
            refine lv_iadd hx hb dX12_tested_105 ?_
            refine lv_topi (fun x238 ex238 => ?_)
            have ex238 : x238.toInt = x208.toInt + (1 : Int) := by rw [ex238]; exact wk_add (show (-2147483648) ≤ x208.toInt + (1 : Int) by omega) (show x208.toInt + (1 : Int) ≤ 2147483647 by omega)
            refine tk_puti hC hK hw hT hinX12 tyX12_ok nmX12 kM_at0 (by decide) rfl rfl 22 (by decide) (List.mem_of_getElem? (i := 1) rfl) rfl rfl rfl rfl (show 0 ≤ x238.toInt by omega) (show x238.toInt ≤ 400 by omega) dX12_tested_106 (fun H locs w239 hw hT k241 c240 => ?_)
            have hF := hF.put kM_at0 (k := 22) (by decide) k241
            have c242 := k241.gi (Or.inr (by decide)) c229
            have c243 := k241.gi (Or.inr (by decide)) c230
            have c244 := k241.gi (Or.inr (by decide)) c231
            have c245 := k241.gi (Or.inr (by decide)) c232
            have c246 := k241.gi (Or.inr (by decide)) c233
            have c247 := k241.gi (Or.inr (by decide)) c235
            refine lv_goto (tgt := 12) hx hb dX12_tested_109 (by decide) ?_
            exact ih12 1 f49_0_18 x206 x238 x222 H locs ls w239 (by decide) (by decide) (show 0 ≤ f49_0_18.toInt by omega) (show f49_0_18.toInt ≤ 60 by omega) (show (-60) ≤ x206.toInt by omega) (show x206.toInt ≤ 10 by omega) (show 0 ≤ x238.toInt by omega) (show x238.toInt ≤ 280 by omega) (show 0 ≤ x222.toInt by omega) (show x222.toInt ≤ 280 by omega) (show 3 * (x222.toInt + x238.toInt) ≤ 14 * f49_0_18.toInt by omega) (show x238.toInt ≤ x206.toInt + f49_0_18.toInt by omega) (show x222.toInt ≤ 280 by omega) (show x238.toInt ≤ 280 by omega) (show -60 ≤ x206.toInt by omega) (show (60 - f49_0_18.toInt).toNat < n12 by omega) hw hT hF c243 c244 c246 c240 c247 (lv_sub hl [2, 1] rfl)
          · have ex186 : x186.toInt = f49_0_1.toInt := by rw [← c189.symm.trans c187]
            refine lv_aload_n hx hb dX12_tested_81 rfl (lv_at hl 2 rfl) ?_
            refine lv_iload_n hx hb dX12_tested_82 rfl (lv_at hl 0 rfl) ?_
            refine tk_Si hC hK hw hT hA hE hSR (k_X12_strength_2 l adK adV dC dI cy ad B (by omega) (by omega) qr s1    w180 H.size hT ) (va_cwS 1 hC.2.2.2.2 gX12_tested_X12_strength rfl rfl rfl (by decide +kernel) ⟨Nat.le_of_ble_eq_true rfl, Nat.le_of_ble_eq_true rfl⟩) rfl hl.1 rfl (Nat.le_of_ble_eq_true rfl) dX12_tested_83 (fun r248 w250 H locs hp249 hw => ?_)
            obtain ⟨rfl, hg252⟩ := hp249
            obtain rfl := hg252
            refine tk_Vv hC hK hw hT hA hE hSR kM_at0 (by decide) rfl (k_X12_settles_6 l adK adV dC dI cy ad B (by omega) (by omega) qr s1    w180 H.size hT c190 f49_0_18 c191 (show 0 ≤ f49_0_18.toInt by omega) (show f49_0_18.toInt ≤ 60 by omega) f49_0_19 c192 (show (-100) ≤ f49_0_19.toInt by omega) (show f49_0_19.toInt ≤ 10 by omega) f49_0_22 c193 (show 0 ≤ f49_0_22.toInt by omega) (show f49_0_22.toInt ≤ 400 by omega) f49_3_1 c194 (show 0 ≤ f49_3_1.toInt by omega) (show f49_3_1.toInt ≤ 400 by omega) (show f49_3_1.toInt + f49_0_22.toInt ≤ 390 by omega) (show f49_0_22.toInt ≤ f49_0_19.toInt + f49_0_18.toInt by omega) (show f49_3_1.toInt ≤ 390 by omega) (show f49_0_22.toInt ≤ 390 by omega)) (cwV 1 hC.2.2.2.2 gX12_tested_X12_settles rfl rfl rfl (by decide +kernel) ⟨Nat.le_of_ble_eq_true rfl, Nat.le_of_ble_eq_true rfl⟩) rfl hl.1 rfl (Nat.le_of_ble_eq_true rfl) dX12_tested_86 (fun w255 H locs hp254 hw => ?_)
            obtain ⟨hT, k256, hg270⟩ := hp254
            have hF := hF.tr k256 (by decide)
            have c271 := k256.gi kM_at0 (by decide) c189
            have c272 := k256.gi kM_at0 (by decide) c190
            have c273 := k256.gi kM_at0 (by decide) c191
            obtain ⟨⟨x257, c258, rx257, tx257⟩, ⟨x259, c260, rx259, tx259⟩, ⟨x261, c262, rx261, tx261⟩, g263, g264, g265, g266, g267, g268, g269⟩ := hg270
            have ex257 : x257.toInt = (1 : Int) := by rw [show x257 = 1 from c258.symm.trans c272]; decide
            obtain ⟨x274, c275, rx274, tx274⟩ := hT.rda (lo := 0) (hi := 400) (i := 1) kM_at3 rfl rfl (by decide)
            have g263 : x274.toInt + x261.toInt = f49_3_1.toInt + f49_0_22.toInt := by have q := g263; simp only [c194, c275, c193, c262] at q; omega
            have g264 : x261.toInt ≤ f49_0_22.toInt := by have q := g264; simp only [c193, c262] at q; omega
            have g265 : x261.toInt + f49_0_19.toInt ≤ f49_0_22.toInt + x259.toInt := by have q := g265; simp only [c192, c260, c193, c262] at q; omega
            have g266 : x261.toInt ≤ x259.toInt + f49_0_18.toInt := by have q := g266; simp only [c260, c191, c262] at q; omega
            have g267 : x261.toInt ≤ 390 := by have q := g267; simp only [c262] at q; omega
            have g268 : x274.toInt ≤ 390 := by have q := g268; simp only [c275] at q; omega
            have g269 : brkN w180 (x261.toInt).toNat = brkN w180 (f49_0_22.toInt).toNat := by have q := g269; simp only [c193, c262] at q; omega
            refine lv_aload_n hx hb dX12_tested_89 rfl (lv_at hl 2 rfl) ?_
            refine tk_getA hC hK hw hT hinX12 kM_at0 (by decide) rfl 21 (by decide) (List.mem_of_getElem? (i := 5) rfl) rfl rfl dX12_tested_90 ?_
            refine lv_aload_n hx hb dX12_tested_93 rfl (lv_at hl 2 rfl) ?_
            refine tk_geti hC hK hw hT hinX12 kM_at0 (by decide) rfl 22 (by decide) (List.mem_of_getElem? (i := 1) rfl) rfl rfl dX12_tested_94 (fun x276 c277 rx276 tx276 => ?_)
            refine wk_top x261 (c277.symm.trans c262) ?_
            refine lv_iload_n hx hb dX12_tested_97 rfl (lv_at hl 0 rfl) ?_
            refine tk_iast hC hK hw hT kM_at9 (by decide) rfl rfl (show 0 ≤ x261.toInt by omega) (show x261.toInt < 400 by omega) (by decide) (by decide) dX12_tested_98 (fun H locs w278 hw hT k280 c279 => ?_)
            have hF := hF.put kM_at9 (inE_of (a := 0) (b := 400) (by decide) (show 0 ≤ x261.toInt.toNat by omega) (show x261.toInt.toNat ≤ 400 by omega)) k280
            have c281 := k280.gi (Or.inl (tk_ne kM_at0 kM_at9 (by decide))) c271
            have c282 := k280.gi (Or.inl (tk_ne kM_at0 kM_at9 (by decide))) c272
            have c283 := k280.gi (Or.inl (tk_ne kM_at0 kM_at9 (by decide))) c273
            have c284 := k280.gi (Or.inl (tk_ne kM_at0 kM_at9 (by decide))) c260
            have c285 := k280.gi (Or.inl (tk_ne kM_at0 kM_at9 (by decide))) c262
            have c286 := k280.gi (Or.inl (tk_ne kM_at3 kM_at9 (by decide))) c275
            refine lv_aload_n hx hb dX12_tested_99 rfl (lv_at hl 2 rfl) ?_
            refine lv_dup hx hb dX12_tested_100 rfl ?_
            refine tk_geti hC hK hw hT hinX12 kM_at0 (by decide) rfl 22 (by decide) (List.mem_of_getElem? (i := 1) rfl) rfl rfl dX12_tested_101 (fun x287 c288 rx287 tx287 => ?_)
            refine wk_top x261 (c288.symm.trans c285) ?_
            refine lv_iconst (v := 1) hx hb dX12_tested_104 (by decide) ?_
            refine lv_iadd hx hb dX12_tested_105 ?_
            refine lv_topi (fun x289 ex289 => ?_)
            have ex289 : x289.toInt = x261.toInt + (1 : Int) := by rw [ex289]; exact wk_add (show (-2147483648) ≤ x261.toInt + (1 : Int) by omega) (show x261.toInt + (1 : Int) ≤ 2147483647 by omega)
            refine tk_puti hC hK hw hT hinX12 tyX12_ok nmX12 kM_at0 (by decide) rfl rfl 22 (by decide) (List.mem_of_getElem? (i := 1) rfl) rfl rfl rfl rfl (show 0 ≤ x289.toInt by omega) (show x289.toInt ≤ 400 by omega) dX12_tested_106 (fun H locs w290 hw hT k292 c291 => ?_)
            have hF := hF.put kM_at0 (k := 22) (by decide) k292
            have c293 := k292.gi (Or.inr (by decide)) c281
            have c294 := k292.gi (Or.inr (by decide)) c282
            have c295 := k292.gi (Or.inr (by decide)) c283
            have c296 := k292.gi (Or.inr (by decide)) c284
            have c297 := k292.gi (Or.inr (by decide)) c286
            refine lv_goto (tgt := 12) hx hb dX12_tested_109 (by decide) ?_
            exact ih12 1 f49_0_18 x259 x289 x274 H locs ls w290 (by decide) (by decide) (show 0 ≤ f49_0_18.toInt by omega) (show f49_0_18.toInt ≤ 60 by omega) (show (-60) ≤ x259.toInt by omega) (show x259.toInt ≤ 10 by omega) (show 0 ≤ x289.toInt by omega) (show x289.toInt ≤ 280 by omega) (show 0 ≤ x274.toInt by omega) (show x274.toInt ≤ 280 by omega) (show 3 * (x274.toInt + x289.toInt) ≤ 14 * f49_0_18.toInt by omega) (show x289.toInt ≤ x259.toInt + f49_0_18.toInt by omega) (show x274.toInt ≤ 280 by omega) (show x289.toInt ≤ 280 by omega) (show -60 ≤ x259.toInt by omega) (show (60 - f49_0_18.toInt).toNat < n12 by omega) hw hT hF c294 c295 c296 c291 c297 (lv_sub hl [2, 1] rfl)
      refine lv_iload_n hx hb dX12_tested_12 rfl (lv_at hl 1 rfl) ?_
      refine lv_if_eq (tgt := 112) hx hb dX12_tested_13 (by decide) (fun c298 => ?_) (fun c298 => ?_)
      · have c298 : v12_1.toInt = (0 : Int) := wk_eq.mp c298
        refine lv_aload_n hx hb dX12_tested_112 rfl (lv_at hl 0 rfl) ?_
        refine tk_Vi hC hK hw hT hA hE hSR kM_at0 (by decide) rfl (k_X12_isInside_1 l adK adV dC dI cy ad B (by omega) (by omega) qr s1    w1 H.size hT ) (cwV 0 hC.2.2.2.2 gX12_tested_X12_isInside rfl rfl rfl (by decide +kernel) ⟨Nat.le_of_ble_eq_true rfl, Nat.le_of_ble_eq_true rfl⟩) rfl hl.1 rfl (Nat.le_of_ble_eq_true rfl) dX12_tested_113 (fun r299 w301 H locs hp300 hw => ?_)
        obtain ⟨rfl, hg306⟩ := hp300
        rcases hg306 with rfl | ⟨rfl, ⟨x303, c304, rx303, tx303⟩, hq305⟩
        · refine lv_if_eq (tgt := 134) hx hb dX12_tested_116 (by decide) (fun _ => ?_) (fun c => absurd (by decide) c)
          refine lv_aload_n hx hb dX12_tested_134 rfl (lv_at hl 0 rfl) ?_
          refine lv_iconst (v := 1) hx hb dX12_tested_135 (by decide) ?_
          refine tk_Vv hC hK hw hT hA hE hSR kM_at0 (by decide) rfl (k_X12_settles_4 l adK adV dC dI cy ad B (by omega) (by omega) qr s1    w1 H.size hT c4 f12_0_18 c7 (show 0 ≤ f12_0_18.toInt by omega) (show f12_0_18.toInt ≤ 60 by omega) f12_0_19 c10 (show (-100) ≤ f12_0_19.toInt by omega) (show f12_0_19.toInt ≤ 10 by omega) f12_0_22 c13 (show 0 ≤ f12_0_22.toInt by omega) (show f12_0_22.toInt ≤ 400 by omega) f12_3_1 c16 (show 0 ≤ f12_3_1.toInt by omega) (show f12_3_1.toInt ≤ 400 by omega) (show f12_3_1.toInt + f12_0_22.toInt ≤ 390 by omega) (show f12_0_22.toInt ≤ f12_0_19.toInt + f12_0_18.toInt by omega) (show f12_3_1.toInt ≤ 390 by omega) (show f12_0_22.toInt ≤ 390 by omega)) (cwV 1 hC.2.2.2.2 gX12_tested_X12_settles rfl rfl rfl (by decide +kernel) ⟨Nat.le_of_ble_eq_true rfl, Nat.le_of_ble_eq_true rfl⟩) rfl hl.1 rfl (Nat.le_of_ble_eq_true rfl) dX12_tested_136 (fun w309 H locs hp308 hw => ?_)
          obtain ⟨hT, k310, hg324⟩ := hp308
          have hF := hF.tr k310 (by decide)
          have c325 := k310.gi kM_at0 (by decide) c4
          have c326 := k310.gi kM_at0 (by decide) c7
          obtain ⟨⟨x311, c312, rx311, tx311⟩, ⟨x313, c314, rx313, tx313⟩, ⟨x315, c316, rx315, tx315⟩, g317, g318, g319, g320, g321, g322, g323⟩ := hg324
          have ex311 : x311.toInt = (1 : Int) := by rw [show x311 = 1 from c312.symm.trans c325]; decide
          obtain ⟨x327, c328, rx327, tx327⟩ := hT.rda (lo := 0) (hi := 400) (i := 1) kM_at3 rfl rfl (by decide)
          have g317 : x327.toInt + x315.toInt = f12_3_1.toInt + f12_0_22.toInt := by have q := g317; simp only [c16, c328, c13, c316] at q; omega
          have g318 : x315.toInt ≤ f12_0_22.toInt := by have q := g318; simp only [c13, c316] at q; omega
          have g319 : x315.toInt + f12_0_19.toInt ≤ f12_0_22.toInt + x313.toInt := by have q := g319; simp only [c10, c314, c13, c316] at q; omega
          have g320 : x315.toInt ≤ x313.toInt + f12_0_18.toInt := by have q := g320; simp only [c314, c7, c316] at q; omega
          have g321 : x315.toInt ≤ 390 := by have q := g321; simp only [c316] at q; omega
          have g322 : x327.toInt ≤ 390 := by have q := g322; simp only [c328] at q; omega
          have g323 : brkN w1 (x315.toInt).toNat = brkN w1 (f12_0_22.toInt).toNat := by have q := g323; simp only [c13, c316] at q; omega
          refine lv_iconst (v := 1) hx hb dX12_tested_139 (by decide) ?_
          exact tk_zret hC hr rfl hlocks hK ⟨hT, hF, (Or.inr (Or.inr ⟨rfl, ⟨1, c325, (by decide), (by decide)⟩, ⟨x313, c314, (show (-60) ≤ x313.toInt by omega), (show x313.toInt ≤ 10 by omega)⟩, ⟨x315, c316, (show 0 ≤ x315.toInt by omega), (show x315.toInt ≤ 390 by omega)⟩, (by simp only [c328, c326]; omega)⟩))⟩ hw dX12_tested_140
        · have ex303 : x303.toInt = f12_0_22.toInt := by rw [← c13.symm.trans c304]
          refine lv_if_eq (tgt := 134) hx hb dX12_tested_116 (by decide) (fun c => absurd c (by decide)) (fun _ => ?_)
          refine lv_aload_n hx hb dX12_tested_119 rfl (lv_at hl 0 rfl) ?_
          obtain ⟨x329, c330, rx329, tx329⟩ := hT.rdi (lo := 0) (hi := 400) (k := 14) kM_at0 (by decide) rfl
          refine tk_Vi hC hK hw hT hA hE hSR kM_at0 (by decide) rfl (k_X12_see_1 l adK adV dC dI cy ad B (by omega) (by omega) qr s1    w1 H.size hT x329 c330 (show 0 ≤ x329.toInt by omega) (show x329.toInt ≤ 400 by omega)) (cwV 0 hC.2.2.2.2 gX12_tested_X12_see rfl rfl rfl (by decide +kernel) ⟨Nat.le_of_ble_eq_true rfl, Nat.le_of_ble_eq_true rfl⟩) rfl hl.1 rfl (Nat.le_of_ble_eq_true rfl) dX12_tested_120 (fun r331 w333 H locs hp332 hw => ?_)
          obtain ⟨hT, k334, hg351⟩ := hp332
          have hF := hF.tr k334 (by decide)
          have c352 := k334.gi kM_at0 (by decide) c4
          have c353 := k334.gi kM_at0 (by decide) c7
          have c354 := k334.gi kM_at0 (by decide) c10
          have c355 := k334.gi kM_at0 (by decide) c13
          have c356 := k334.gi kM_at3 (by decide) c16
          rcases hg351 with ⟨g335, g336, ⟨x337, c338, rx337, tx337⟩, ⟨x339, c340, rx339, tx339⟩, g341, g342⟩ | ⟨rfl, ⟨x343, c344, rx343, tx343⟩, ⟨x345, c346, rx345, tx345⟩, g347⟩ | ⟨rfl, ⟨x348, c349, rx348, tx348⟩, g350⟩
          · have g341 : (gi w333 1 (x339.toInt).toNat).toInt ≠ 32 := by have q := g341; simp only [c340] at q; omega
            have g342 : (x339.toInt = x329.toInt ∨ (gi w1 1 (x329.toInt).toNat).toInt = 32) := by have q := g342; simp only [c330, c340] at q; omega
            refine lv_pop hx hb dX12_tested_123 rfl ?_
            refine lv_aload_n hx hb dX12_tested_124 rfl (lv_at hl 0 rfl) ?_
            refine lv_iconst (v := 0) hx hb dX12_tested_125 (by decide) ?_
            refine lv_aload_n hx hb dX12_tested_126 rfl (lv_at hl 0 rfl) ?_
            refine tk_geti hC hK hw hT hinX12 kM_at0 (by decide) rfl 14 (by decide) (List.mem_of_getElem? (i := 6) rfl) rfl rfl dX12_tested_127 (fun x359 c360 rx359 tx359 => ?_)
            refine wk_top x339 (c360.symm.trans c340) ?_
            refine tk_Vi hC hK hw hT hA hE hSR kM_at0 (by decide) rfl (k_X12_fails_1 l adK adV dC dI cy ad B (by omega) (by omega) qr s1   0 (by decide) (by decide) x339 (show 0 ≤ x339.toInt by omega) (show x339.toInt ≤ 400 by omega) w333 H.size hT ) (cwV 2 hC.2.2.2.2 gX12_tested_X12_fails rfl rfl rfl (by decide +kernel) ⟨Nat.le_of_ble_eq_true rfl, Nat.le_of_ble_eq_true rfl⟩) rfl hl.1 rfl (Nat.le_of_ble_eq_true rfl) dX12_tested_130 (fun r361 w363 H locs hp362 hw => ?_)
            obtain ⟨hT, k364, hg367⟩ := hp362
            have hF := hF.tr k364 (by decide)
            have c368 := k364.gi kM_at0 (by decide) c352
            have c369 := k364.gi kM_at0 (by decide) c353
            have c370 := k364.gi kM_at0 (by decide) c354
            have c371 := k364.gi kM_at0 (by decide) c355
            have c372 := k364.gi kM_at3 (by decide) c356
            have c373 := k364.gi kM_at0 (by decide) c338
            have c374 := k364.gi kM_at0 (by decide) c340
            obtain ⟨rfl, ⟨x365, c366, rx365, tx365⟩⟩ := hg367
            exact tk_zret hC hr rfl hlocks hK ⟨hT, hF, (Or.inl ⟨rfl, ⟨x337, c373, (show 1 ≤ x337.toInt by omega), (show x337.toInt ≤ 400 by omega)⟩, ⟨x365, c366, (show 1 ≤ x365.toInt by omega), (show x365.toInt ≤ 3205 by omega)⟩, ⟨1, c368, (by decide), (by decide)⟩, ⟨f12_0_22, c371, (show 0 ≤ f12_0_22.toInt by omega), (show f12_0_22.toInt ≤ 399 by omega)⟩⟩)⟩ hw dX12_tested_133
          · have g347 : (x345.toInt = x329.toInt ∨ (gi w1 1 (x329.toInt).toNat).toInt = 32) := by have q := g347; simp only [c330, c346] at q; omega
            refine lv_pop hx hb dX12_tested_123 rfl ?_
            refine lv_aload_n hx hb dX12_tested_124 rfl (lv_at hl 0 rfl) ?_
            refine lv_iconst (v := 0) hx hb dX12_tested_125 (by decide) ?_
            refine lv_aload_n hx hb dX12_tested_126 rfl (lv_at hl 0 rfl) ?_
            refine tk_geti hC hK hw hT hinX12 kM_at0 (by decide) rfl 14 (by decide) (List.mem_of_getElem? (i := 6) rfl) rfl rfl dX12_tested_127 (fun x375 c376 rx375 tx375 => ?_)
            refine wk_top x345 (c376.symm.trans c346) ?_
            refine tk_Vi hC hK hw hT hA hE hSR kM_at0 (by decide) rfl (k_X12_fails_1 l adK adV dC dI cy ad B (by omega) (by omega) qr s1   0 (by decide) (by decide) x345 (show 0 ≤ x345.toInt by omega) (show x345.toInt ≤ 400 by omega) w333 H.size hT ) (cwV 2 hC.2.2.2.2 gX12_tested_X12_fails rfl rfl rfl (by decide +kernel) ⟨Nat.le_of_ble_eq_true rfl, Nat.le_of_ble_eq_true rfl⟩) rfl hl.1 rfl (Nat.le_of_ble_eq_true rfl) dX12_tested_130 (fun r377 w379 H locs hp378 hw => ?_)
            obtain ⟨hT, k380, hg383⟩ := hp378
            have hF := hF.tr k380 (by decide)
            have c384 := k380.gi kM_at0 (by decide) c352
            have c385 := k380.gi kM_at0 (by decide) c353
            have c386 := k380.gi kM_at0 (by decide) c354
            have c387 := k380.gi kM_at0 (by decide) c355
            have c388 := k380.gi kM_at3 (by decide) c356
            have c389 := k380.gi kM_at0 (by decide) c344
            have c390 := k380.gi kM_at0 (by decide) c346
            obtain ⟨rfl, ⟨x381, c382, rx381, tx381⟩⟩ := hg383
            exact tk_zret hC hr rfl hlocks hK ⟨hT, hF, (Or.inl ⟨rfl, ⟨x343, c389, (show 1 ≤ x343.toInt by omega), (show x343.toInt ≤ 400 by omega)⟩, ⟨x381, c382, (show 1 ≤ x381.toInt by omega), (show x381.toInt ≤ 3205 by omega)⟩, ⟨1, c384, (by decide), (by decide)⟩, ⟨f12_0_22, c387, (show 0 ≤ f12_0_22.toInt by omega), (show f12_0_22.toInt ≤ 399 by omega)⟩⟩)⟩ hw dX12_tested_133
          · obtain ⟨x357, c358, rx357, tx357⟩ := hT.rdi (lo := 0) (hi := 400) (k := 14) kM_at0 (by decide) rfl
            have g350 : (x357.toInt = x329.toInt ∨ (gi w1 1 (x329.toInt).toNat).toInt = 32) := by have q := g350; simp only [c330, c358] at q; omega
            refine lv_pop hx hb dX12_tested_123 rfl ?_
            refine lv_aload_n hx hb dX12_tested_124 rfl (lv_at hl 0 rfl) ?_
            refine lv_iconst (v := 0) hx hb dX12_tested_125 (by decide) ?_
            refine lv_aload_n hx hb dX12_tested_126 rfl (lv_at hl 0 rfl) ?_
            refine tk_geti hC hK hw hT hinX12 kM_at0 (by decide) rfl 14 (by decide) (List.mem_of_getElem? (i := 6) rfl) rfl rfl dX12_tested_127 (fun x391 c392 rx391 tx391 => ?_)
            refine wk_top x357 (c392.symm.trans c358) ?_
            refine tk_Vi hC hK hw hT hA hE hSR kM_at0 (by decide) rfl (k_X12_fails_1 l adK adV dC dI cy ad B (by omega) (by omega) qr s1   0 (by decide) (by decide) x357 (show 0 ≤ x357.toInt by omega) (show x357.toInt ≤ 400 by omega) w333 H.size hT ) (cwV 2 hC.2.2.2.2 gX12_tested_X12_fails rfl rfl rfl (by decide +kernel) ⟨Nat.le_of_ble_eq_true rfl, Nat.le_of_ble_eq_true rfl⟩) rfl hl.1 rfl (Nat.le_of_ble_eq_true rfl) dX12_tested_130 (fun r393 w395 H locs hp394 hw => ?_)
            obtain ⟨hT, k396, hg399⟩ := hp394
            have hF := hF.tr k396 (by decide)
            have c400 := k396.gi kM_at0 (by decide) c352
            have c401 := k396.gi kM_at0 (by decide) c353
            have c402 := k396.gi kM_at0 (by decide) c354
            have c403 := k396.gi kM_at0 (by decide) c355
            have c404 := k396.gi kM_at3 (by decide) c356
            have c405 := k396.gi kM_at0 (by decide) c349
            have c406 := k396.gi kM_at0 (by decide) c358
            obtain ⟨rfl, ⟨x397, c398, rx397, tx397⟩⟩ := hg399
            exact tk_zret hC hr rfl hlocks hK ⟨hT, hF, (Or.inr (Or.inl ⟨rfl, ⟨x348, c405, (show 0 ≤ x348.toInt by omega), (show x348.toInt ≤ 400 by omega)⟩, ⟨x397, c398, (show 1 ≤ x397.toInt by omega), (show x397.toInt ≤ 3205 by omega)⟩, ⟨1, c400, (by decide), (by decide)⟩, ⟨f12_0_22, c403, (show 0 ≤ f12_0_22.toInt by omega), (show f12_0_22.toInt ≤ 399 by omega)⟩⟩))⟩ hw dX12_tested_133
      · have c298 : ¬ v12_1.toInt = (0 : Int) := wk_eqF c298
        refine lv_aload_n hx hb dX12_tested_16 rfl (lv_at hl 0 rfl) ?_
        refine tk_Vi hC hK hw hT hA hE hSR kM_at0 (by decide) rfl (k_X12_fact_2 l adK adV dC dI cy ad B (by omega) (by omega) qr s1    w1 H.size hT c4 f12_0_18 c7 (show 0 ≤ f12_0_18.toInt by omega) (show f12_0_18.toInt ≤ 60 by omega) f12_0_19 c10 (show (-100) ≤ f12_0_19.toInt by omega) (show f12_0_19.toInt ≤ 10 by omega) f12_0_22 c13 (show 0 ≤ f12_0_22.toInt by omega) (show f12_0_22.toInt ≤ 400 by omega) f12_3_1 c16 (show 0 ≤ f12_3_1.toInt by omega) (show f12_3_1.toInt ≤ 400 by omega) (show 3 * (f12_3_1.toInt + f12_0_22.toInt) ≤ 14 * f12_0_18.toInt by omega) (show f12_0_22.toInt ≤ f12_0_19.toInt + f12_0_18.toInt by omega) (show f12_3_1.toInt ≤ 280 by omega) (show f12_0_22.toInt ≤ 280 by omega)) (cwV 0 hC.2.2.2.2 gX12_tested_X12_fact rfl rfl rfl (by decide +kernel) ⟨Nat.le_of_ble_eq_true rfl, Nat.le_of_ble_eq_true rfl⟩) rfl hl.1 rfl (Nat.le_of_ble_eq_true rfl) dX12_tested_17 (fun r407 w409 H locs hp408 hw => ?_)
        obtain ⟨hT, k410, hg440⟩ := hp408
        have hF := hF.tr k410 (by decide)
        have c441 := k410.gi kM_at0 (by decide) c4
        rcases hg440 with ⟨rfl, ⟨x411, c412, rx411, tx411⟩, ⟨x413, c414, rx413, tx413⟩, ⟨x415, c416, rx415, tx415⟩, ⟨x417, c418, rx417, tx417⟩⟩ | ⟨rfl, ⟨x419, c420, rx419, tx419⟩, ⟨x421, c422, rx421, tx421⟩, ⟨x423, c424, rx423, tx423⟩, ⟨x425, c426, rx425, tx425⟩⟩ | ⟨rfl, ⟨x427, c428, rx427, tx427⟩, ⟨x429, c430, rx429, tx429⟩, ⟨x431, c432, rx431, tx431⟩, ⟨x433, c434, rx433, tx433⟩, g435, g436, g437, g438, g439⟩
        · have ex415 : x415.toInt = (1 : Int) := by rw [show x415 = 1 from c416.symm.trans c441]; decide
          obtain ⟨x442, c443, rx442, tx442⟩ := hT.rda (lo := 0) (hi := 400) (i := 1) kM_at3 rfl rfl (by decide)
          obtain ⟨x444, c445, rx444, tx444⟩ := hT.rdi (lo := 0) (hi := 60) (k := 18) kM_at0 (by decide) rfl
          obtain ⟨x446, c447, rx446, tx446⟩ := hT.rdi (lo := (-100)) (hi := 10) (k := 19) kM_at0 (by decide) rfl
          refine lv_if_ne (tgt := 25) hx hb dX12_tested_20 (by decide) (fun c => absurd (by decide) c) (fun _ => ?_)
          refine lv_iconst (v := 0) hx hb dX12_tested_23 (by decide) ?_
          exact tk_zret hC hr rfl hlocks hK ⟨hT, hF, (Or.inl ⟨rfl, ⟨x411, c412, (show 1 ≤ x411.toInt by omega), (show x411.toInt ≤ 400 by omega)⟩, ⟨x413, c414, (show 1 ≤ x413.toInt by omega), (show x413.toInt ≤ 3205 by omega)⟩, ⟨1, c441, (by decide), (by decide)⟩, ⟨x417, c418, (show 0 ≤ x417.toInt by omega), (show x417.toInt ≤ 399 by omega)⟩⟩)⟩ hw dX12_tested_24
        · have ex423 : x423.toInt = (1 : Int) := by rw [show x423 = 1 from c424.symm.trans c441]; decide
          obtain ⟨x448, c449, rx448, tx448⟩ := hT.rda (lo := 0) (hi := 400) (i := 1) kM_at3 rfl rfl (by decide)
          obtain ⟨x450, c451, rx450, tx450⟩ := hT.rdi (lo := 0) (hi := 60) (k := 18) kM_at0 (by decide) rfl
          obtain ⟨x452, c453, rx452, tx452⟩ := hT.rdi (lo := (-100)) (hi := 10) (k := 19) kM_at0 (by decide) rfl
          refine lv_if_ne (tgt := 25) hx hb dX12_tested_20 (by decide) (fun c => absurd (by decide) c) (fun _ => ?_)
          refine lv_iconst (v := 0) hx hb dX12_tested_23 (by decide) ?_
          exact tk_zret hC hr rfl hlocks hK ⟨hT, hF, (Or.inr (Or.inl ⟨rfl, ⟨x419, c420, (show 0 ≤ x419.toInt by omega), (show x419.toInt ≤ 400 by omega)⟩, ⟨x421, c422, (show 1 ≤ x421.toInt by omega), (show x421.toInt ≤ 3205 by omega)⟩, ⟨1, c441, (by decide), (by decide)⟩, ⟨x425, c426, (show 0 ≤ x425.toInt by omega), (show x425.toInt ≤ 399 by omega)⟩⟩))⟩ hw dX12_tested_24
        · have ex429 : x429.toInt = (1 : Int) := by rw [show x429 = 1 from c430.symm.trans c441]; decide
          obtain ⟨x454, c455, rx454, tx454⟩ := hT.rda (lo := 0) (hi := 400) (i := 1) kM_at3 rfl rfl (by decide)
          obtain ⟨x456, c457, rx456, tx456⟩ := hT.rdi (lo := (-100)) (hi := 10) (k := 19) kM_at0 (by decide) rfl
          have g435 : 3 * (x454.toInt + x433.toInt) + 3 ≤ 14 * x431.toInt := by have q := g435; simp only [c455, c432, c434] at q; omega
          have g436 : x433.toInt + 3 ≤ x456.toInt + x431.toInt := by have q := g436; simp only [c457, c432, c434] at q; omega
          have g437 : f12_0_18.toInt + 3 ≤ x431.toInt := by have q := g437; simp only [c7, c432] at q; omega
          have g438 : x454.toInt ≤ 280 := by have q := g438; simp only [c455] at q; omega
          have g439 : x433.toInt ≤ 280 := by have q := g439; simp only [c434] at q; omega
          refine lv_if_ne (tgt := 25) hx hb dX12_tested_20 (by decide) (fun _ => ?_) (fun c => absurd c (by decide))
          refine lv_aload_n hx hb dX12_tested_25 rfl (lv_at hl 0 rfl) ?_
          refine tk_Vv hC hK hw hT hA hE hSR kM_at0 (by decide) rfl (k_X12_closes_2 l adK adV dC dI cy ad B (by omega) (by omega) qr s1    w409 H.size hT c441 x431 c432 (show 0 ≤ x431.toInt by omega) (show x431.toInt ≤ 60 by omega) x456 c457 (show (-100) ≤ x456.toInt by omega) (show x456.toInt ≤ 10 by omega) x433 c434 (show 0 ≤ x433.toInt by omega) (show x433.toInt ≤ 400 by omega) x454 c455 (show 0 ≤ x454.toInt by omega) (show x454.toInt ≤ 400 by omega) (show x454.toInt + x433.toInt ≤ 390 by omega) (show x433.toInt ≤ x456.toInt + x431.toInt by omega) (show x454.toInt ≤ 390 by omega) (show x433.toInt ≤ 390 by omega)) (cwV 0 hC.2.2.2.2 gX12_tested_X12_closes rfl rfl rfl (by decide +kernel) ⟨Nat.le_of_ble_eq_true rfl, Nat.le_of_ble_eq_true rfl⟩) rfl hl.1 rfl (Nat.le_of_ble_eq_true rfl) dX12_tested_26 (fun w460 H locs hp459 hw => ?_)
          obtain ⟨hT, k461, hg475⟩ := hp459
          have hF := hF.tr k461 (by decide)
          have c476 := k461.gi kM_at0 (by decide) c441
          have c477 := k461.gi kM_at0 (by decide) c428
          have c478 := k461.gi kM_at0 (by decide) c432
          obtain ⟨⟨x462, c463, rx462, tx462⟩, ⟨x464, c465, rx464, tx464⟩, ⟨x466, c467, rx466, tx466⟩, ⟨x468, c469, rx468, tx468⟩, g470, g471, g472, g473, g474⟩ := hg475
          have ex462 : x462.toInt = x427.toInt := by rw [← c477.symm.trans c463]
          have ex464 : x464.toInt = (1 : Int) := by rw [show x464 = 1 from c465.symm.trans c476]; decide
          obtain ⟨x479, c480, rx479, tx479⟩ := hT.rda (lo := 0) (hi := 400) (i := 1) kM_at3 rfl rfl (by decide)
          have g470 : x479.toInt + x468.toInt ≤ x454.toInt + x433.toInt := by have q := g470; simp only [c455, c480, c434, c469] at q; omega
          have g471 : x468.toInt + x456.toInt ≤ x433.toInt + x466.toInt := by have q := g471; simp only [c457, c467, c434, c469] at q; omega
          have g472 : x468.toInt ≤ x466.toInt + x431.toInt := by have q := g472; simp only [c467, c432, c469] at q; omega
          have g473 : x468.toInt ≤ 390 := by have q := g473; simp only [c469] at q; omega
          have g474 : x479.toInt ≤ 390 := by have q := g474; simp only [c480] at q; omega
          refine lv_aload_n hx hb dX12_tested_29 rfl (lv_at hl 0 rfl) ?_
          refine lv_ldc2 (v := 6385252) hx hb hC.2.2.2.1 (hC.2.2.2.2 _ (List.mem_of_getElem? (i := 3) rfl)) dX12_tested_30 ?_
          obtain ⟨x481, c482, rx481, tx481⟩ := hT.rdi (lo := 0) (hi := 400) (k := 14) kM_at0 (by decide) rfl
          refine tk_Vi hC hK hw hT hA hE hSR kM_at0 (by decide) rfl (k_X12_isWord_22 l adK adV dC dI cy ad B (by omega) (by omega) qr s1    w460 H.size hT x481 c482 (show 0 ≤ x481.toInt by omega) (show x481.toInt ≤ 400 by omega)) (cwV 1 hC.2.2.2.2 gX12_tested_X12_isWord rfl rfl rfl (by decide +kernel) ⟨Nat.le_of_ble_eq_true rfl, Nat.le_of_ble_eq_true rfl⟩) rfl hl.1 rfl (Nat.le_of_ble_eq_true rfl) dX12_tested_33 (fun r483 w485 H locs hp484 hw => ?_)
          obtain ⟨hT, k486, hg493⟩ := hp484
          have hF := hF.tr k486 (by decide)
          have c494 := k486.gi kM_at0 (by decide) c476
          have c495 := k486.gi kM_at0 (by decide) c477
          have c496 := k486.gi kM_at0 (by decide) c478
          have c497 := k486.gi kM_at0 (by decide) c467
          have c498 := k486.gi kM_at0 (by decide) c469
          have c499 := k486.gi kM_at3 (by decide) c480
          rcases hg493 with ⟨rfl, ⟨x487, c488, rx487, tx487⟩, g489⟩ | ⟨rfl, ⟨x490, c491, rx490, tx490⟩, g492⟩
          · have ex487 : x487.toInt = x427.toInt := by rw [← c495.symm.trans c488]
            obtain ⟨x500, c501, rx500, tx500⟩ := hT.rdi (lo := 0) (hi := 400) (k := 14) kM_at0 (by decide) rfl
            have g489 : (x500.toInt = x481.toInt ∨ (gi w460 1 (x481.toInt).toNat).toInt = 32) := by have q := g489; simp only [c482, c501] at q; omega
            refine lv_if_ne (tgt := 49) hx hb dX12_tested_36 (by decide) (fun c => absurd (by decide) c) (fun _ => ?_)
            refine lv_aload_n hx hb dX12_tested_39 rfl (lv_at hl 0 rfl) ?_
            refine lv_ldc2 (v := 28530) hx hb hC.2.2.2.1 (hC.2.2.2.2 _ (List.mem_of_getElem? (i := 4) rfl)) dX12_tested_40 ?_
            refine tk_Vi hC hK hw hT hA hE hSR kM_at0 (by decide) rfl (k_X12_isWord_21 l adK adV dC dI cy ad B (by omega) (by omega) qr s1    w485 H.size hT x500 c501 (show 0 ≤ x500.toInt by omega) (show x500.toInt ≤ 400 by omega)) (cwV 1 hC.2.2.2.2 gX12_tested_X12_isWord rfl rfl rfl (by decide +kernel) ⟨Nat.le_of_ble_eq_true rfl, Nat.le_of_ble_eq_true rfl⟩) rfl hl.1 rfl (Nat.le_of_ble_eq_true rfl) dX12_tested_43 (fun r504 w506 H locs hp505 hw => ?_)
            obtain ⟨hT, k507, hg514⟩ := hp505
            have hF := hF.tr k507 (by decide)
            have c515 := k507.gi kM_at0 (by decide) c494
            have c516 := k507.gi kM_at0 (by decide) c495
            have c517 := k507.gi kM_at0 (by decide) c496
            have c518 := k507.gi kM_at0 (by decide) c497
            have c519 := k507.gi kM_at0 (by decide) c498
            have c520 := k507.gi kM_at3 (by decide) c499
            rcases hg514 with ⟨rfl, ⟨x508, c509, rx508, tx508⟩, g510⟩ | ⟨rfl, ⟨x511, c512, rx511, tx511⟩, g513⟩
            · have ex508 : x508.toInt = x427.toInt := by rw [← c516.symm.trans c509]
              obtain ⟨x521, c522, rx521, tx521⟩ := hT.rdi (lo := 0) (hi := 400) (k := 14) kM_at0 (by decide) rfl
              have g510 : (x521.toInt = x500.toInt ∨ (gi w485 1 (x500.toInt).toNat).toInt = 32) := by have q := g510; simp only [c501, c522] at q; omega
              refine lv_if_eq (tgt := 53) hx hb dX12_tested_46 (by decide) (fun _ => ?_) (fun c => absurd (by decide) c)
              refine lv_iconst (v := 0) hx hb dX12_tested_53 (by decide) ?_
              refine lv_istore_n (lv' := [(1, .int 0), (0, .ref (ad 0))]) hx hb dX12_tested_54 rfl hl (by decide) rfl (fun ls hl => ?_)
              refine lv_iload_n hx hb dX12_tested_55 rfl (lv_at hl 0 rfl) ?_
              refine lv_if_eq (tgt := 12) hx hb dX12_tested_56 (by decide) (fun _ => ?_) (fun c => absurd (by decide) c)
              exact ih12 0 x431 x466 x468 x479 H locs ls w506 (by decide) (by decide) (show 0 ≤ x431.toInt by omega) (show x431.toInt ≤ 60 by omega) (show (-60) ≤ x466.toInt by omega) (show x466.toInt ≤ 10 by omega) (show 0 ≤ x468.toInt by omega) (show x468.toInt ≤ 280 by omega) (show 0 ≤ x479.toInt by omega) (show x479.toInt ≤ 280 by omega) (show 3 * (x479.toInt + x468.toInt) ≤ 14 * x431.toInt by omega) (show x468.toInt ≤ x466.toInt + x431.toInt by omega) (show x479.toInt ≤ 280 by omega) (show x468.toInt ≤ 280 by omega) (show -60 ≤ x466.toInt by omega) (show (60 - x431.toInt).toNat < n12 by omega) hw hT hF c515 c517 c518 c519 c520 (lv_sub hl [1, 0] rfl)
            · have ex511 : x511.toInt = x427.toInt := by rw [← c516.symm.trans c512]
              obtain ⟨x523, c524, rx523, tx523⟩ := hT.rdi (lo := 0) (hi := 400) (k := 14) kM_at0 (by decide) rfl
              have g513 : (x523.toInt = x500.toInt ∨ (gi w485 1 (x500.toInt).toNat).toInt = 32) := by have q := g513; simp only [c501, c524] at q; omega
              refine lv_if_eq (tgt := 53) hx hb dX12_tested_46 (by decide) (fun c => absurd c (by decide)) (fun _ => ?_)
              obtain rfl : v12_1 = 1 := wk_eq.mpr (show v12_1.toInt = 1 by omega)
              exact J49 x427 x523 x431 x466 x468 x479 H locs ls w506 (show 1 ≤ x427.toInt by omega) (show x427.toInt ≤ 400 by omega) (show 0 ≤ x523.toInt by omega) (show x523.toInt ≤ 400 by omega) (show 1 ≤ x431.toInt by omega) (show x431.toInt ≤ 60 by omega) (show (-60) ≤ x466.toInt by omega) (show x466.toInt ≤ 10 by omega) (show 0 ≤ x468.toInt by omega) (show x468.toInt ≤ 280 by omega) (show 0 ≤ x479.toInt by omega) (show x479.toInt ≤ 280 by omega) (show 3 * (x479.toInt + x468.toInt) ≤ 14 * x431.toInt by omega) (show x468.toInt ≤ x466.toInt + x431.toInt by omega) (show x479.toInt ≤ 280 by omega) (show x468.toInt ≤ 280 by omega) (show -60 ≤ x466.toInt by omega)  hw hT hF c516 c524 c515 c517 c518 c519 c520 (lv_sub hl [0, 1] rfl)
          · have ex490 : x490.toInt = x427.toInt := by rw [← c495.symm.trans c491]
            obtain ⟨x502, c503, rx502, tx502⟩ := hT.rdi (lo := 0) (hi := 400) (k := 14) kM_at0 (by decide) rfl
            have g492 : (x502.toInt = x481.toInt ∨ (gi w460 1 (x481.toInt).toNat).toInt = 32) := by have q := g492; simp only [c482, c503] at q; omega
            refine lv_if_ne (tgt := 49) hx hb dX12_tested_36 (by decide) (fun _ => ?_) (fun c => absurd c (by decide))
            obtain rfl : v12_1 = 1 := wk_eq.mpr (show v12_1.toInt = 1 by omega)
            exact J49 x427 x502 x431 x466 x468 x479 H locs ls w485 (show 1 ≤ x427.toInt by omega) (show x427.toInt ≤ 400 by omega) (show 0 ≤ x502.toInt by omega) (show x502.toInt ≤ 400 by omega) (show 1 ≤ x431.toInt by omega) (show x431.toInt ≤ 60 by omega) (show (-60) ≤ x466.toInt by omega) (show x466.toInt ≤ 10 by omega) (show 0 ≤ x468.toInt by omega) (show x468.toInt ≤ 280 by omega) (show 0 ≤ x479.toInt by omega) (show x479.toInt ≤ 280 by omega) (show 3 * (x479.toInt + x468.toInt) ≤ 14 * x431.toInt by omega) (show x468.toInt ≤ x466.toInt + x431.toInt by omega) (show x479.toInt ≤ 280 by omega) (show x468.toInt ≤ 280 by omega) (show -60 ≤ x466.toInt by omega)  hw hT hF c495 c503 c494 c496 c497 c498 c499 (lv_sub hl [0, 1] rfl)
  refine lv_aload_n hx hb dX12_tested_0 rfl (lv_at hl 0 rfl) ?_
  refine lv_iconst (v := 0) hx hb dX12_tested_1 (by decide) ?_
  refine tk_puti hC hK hw hT hinX12 tyX12_ok nmX12 kM_at0 (by decide) rfl rfl 22 (by decide) (List.mem_of_getElem? (i := 1) rfl) rfl rfl rfl rfl (by decide) (by decide) dX12_tested_2 (fun H locs w525 hw hT k527 c526 => ?_)
  have hF := hF.put kM_at0 (k := 22) (by decide) k527
  have c528 := k527.gi (Or.inr (by decide)) cf0_
  have c529 := k527.gi (Or.inr (by decide)) cf1_
  have c530 := k527.gi (Or.inr (by decide)) cf2_
  have c531 := k527.gi (Or.inr (by decide)) cf4_
  refine lv_aload_n hx hb dX12_tested_5 rfl (lv_at hl 0 rfl) ?_
  refine lv_iconst (v := 0) hx hb dX12_tested_6 (by decide) ?_
  refine tk_puti hC hK hw hT hinX12 tyX12_ok nmX12 kM_at0 (by decide) rfl rfl 19 (by decide) (List.mem_of_getElem? (i := 2) rfl) rfl rfl rfl rfl (by decide) (by decide) dX12_tested_7 (fun H locs w532 hw hT k534 c533 => ?_)
  have hF := hF.put kM_at0 (k := 19) (by decide) k534
  have c535 := k534.gi (Or.inr (by decide)) c528
  have c536 := k534.gi (Or.inr (by decide)) c529
  have c537 := k534.gi (Or.inr (by decide)) c531
  have c538 := k534.gi (Or.inr (by decide)) c526
  refine lv_iconst (v := 1) hx hb dX12_tested_10 (by decide) ?_
  refine lv_istore_n (lv' := [(1, .int 1), (0, .ref (ad 0))]) hx hb dX12_tested_11 rfl hl (by decide) rfl (fun ls hl => ?_)
  exact L12 ((60 - f1_.toInt).toNat + 1) 1 f1_ 0 0 f4_ H locs ls w532 (by decide) (by decide) (show 0 ≤ f1_.toInt by omega) (show f1_.toInt ≤ 60 by omega) (by decide) (by decide) (by decide) (by decide) (show 0 ≤ f4_.toInt by omega) (show f4_.toInt ≤ 280 by omega) (show 3 * (f4_.toInt + (0 : Int)) ≤ 14 * f1_.toInt by omega) (show (0 : Int) ≤ (0 : Int) + f1_.toInt by omega) (show f4_.toInt ≤ 280 by omega) (show (0 : Int) ≤ 280 by omega) (show -60 ≤ (0 : Int) by omega) (Nat.lt_succ_self _) hw hT hF c535 c536 c533 c538 c537 (lv_sub hl [1, 0] rfl)
abbrev P_X12_isDoingHere_3 (ad : Nat → Nat) (cy : Nat → ClassId) (B : Int) (qr : Nat) (s1 : Int)  (w0 : va_W) : Int32 → va_W → Prop := fun r u => TW ksM ad cy B qr 12 u ∧ FE ksM [(12, 14, 14), (12, 15, 15), (12, 16, 16), (12, 18, 18), (12, 19, 19), (12, 22, 22), (61, 0, 2400), (62, 0, 7), (63, 0, 216), (64, 0, 6), (68, 0, 400)] w0 u ∧ ((r = 0 ∧ (∃ y : Int32, gi u 0 1 = y ∧ 1 ≤ y.toInt ∧ y.toInt ≤ 400) ∧ (∃ y : Int32, gi u 0 15 = y ∧ 1 ≤ y.toInt ∧ y.toInt ≤ 3205) ∧ (∃ y : Int32, gi u 0 17 = y ∧ 1 ≤ y.toInt ∧ y.toInt ≤ 1) ∧ (∃ y : Int32, gi u 0 22 = y ∧ 0 ≤ y.toInt ∧ y.toInt ≤ 399)) ∨ (r = 0 ∧ (∃ y : Int32, gi u 0 1 = y ∧ 0 ≤ y.toInt ∧ y.toInt ≤ 400) ∧ (∃ y : Int32, gi u 0 15 = y ∧ 1 ≤ y.toInt ∧ y.toInt ≤ 3205) ∧ (∃ y : Int32, gi u 0 17 = y ∧ 1 ≤ y.toInt ∧ y.toInt ≤ 1) ∧ (∃ y : Int32, gi u 0 22 = y ∧ 0 ≤ y.toInt ∧ y.toInt ≤ 399)) ∨ (r = 1 ∧ (∃ y : Int32, gi u 0 1 = y ∧ 0 ≤ y.toInt ∧ y.toInt ≤ 400) ∧ (∃ y : Int32, gi u 0 17 = y ∧ 1 ≤ y.toInt ∧ y.toInt ≤ 1) ∧ (3 * (gi u 3 1).toInt ≤ 14 * (gi u 0 18).toInt) ∧ ((gi u 5 1).toInt = (gi w0 5 1).toInt + 1)))
set_option maxHeartbeats 4000000 in
set_option maxRecDepth 100000 in
theorem k_X12_isDoingHere_3 (l : Launch) (adK adV : Nat → Nat) (dC : Nat → ClassId) (dI : Nat → Nat → Nat) (cy : Nat → ClassId) (ad : Nat → Nat) (B : Int) (hB0 : 100000 ≤ B) (hB1 : B ≤ 1073741824) (qr : Nat) (s1 : Int)   (w0 : va_W) (sz : Nat) (hT : TW ksM ad cy B qr 12 w0) (cf0_ : gi w0 0 17 = 1) (f1_ : Int32) (cf1_ : gi w0 0 18 = f1_) (rf1_ : 0 ≤ f1_.toInt) (tf1_ : f1_.toInt ≤ 60) (f2_ : Int32) (cf2_ : gi w0 3 1 = f2_) (rf2_ : 0 ≤ f2_.toInt) (tf2_ : f2_.toInt ≤ 400) (f3_ : Int32) (cf3_ : gi w0 5 1 = f3_) (rf3_ : 0 ≤ f3_.toInt) (tf3_ : f3_.toInt ≤ 12) (pr0_ : 3 * f2_.toInt ≤ 14 * f1_.toInt) (pr1_ : f2_.toInt ≤ 280) (pr2_ : f3_.toInt ≤ 11) : Met l yX12_isDoingHere wsX12_isDoingHere ({ frames := 10, cells := 0, slots := 0, locals := 210 }) (va_Pc [.ref (ad 0), .int (-1)] (wpreS adK adV dC dI cy sz w0)) (va_Qi (P_X12_isDoingHere_3 ad cy B qr s1  w0) (fun u : va_W => wpost dC dI cy (va_A w0 sz) u) (va_A w0 sz)) 0 0 (va_A w0 sz) := by
  refine Met.ofW (cc := cX12_isDoingHere) (maxL := 3) (ret := (some .boolean)) (by decide) rfl ?_
  intro p e s m args below meth c s₁ Bk hml hv
  obtain ⟨rfl, ⟨hsz, hP, hK, hD0⟩, hE, hSR⟩ := hv
  have hx := Bk.exec
  have hb := Bk.bytes
  have hr := Bk.returns
  have hlocks := Bk.notSynchronized
  have hC : CallFix p m c cX12_isDoingHere 3 s _ wsX12_isDoingHere RX12 := ⟨hx, hb, hml, findClass_of_methodNamed Bk.named, atoms_spec (ws := wsX12_isDoingHere) Bk.pre⟩
  subst hsz
  have hD := hD0.self (sz := s.heap.size)
  generalize hAe : va_A w0 s.heap.size = A at hD hE ⊢
  have hA : ∀ q : Nat, s.heap.size ≤ q → A q := fun q h => by rw [← hAe]; exact Or.inr h
  have hw : Wd dC dI A s.heap s.heap [] w0 := ⟨hP, hD, va_S.rf⟩
  have hF : FE ksM [(12, 14, 14), (12, 15, 15), (12, 16, 16), (12, 18, 18), (12, 19, 19), (12, 22, 22), (61, 0, 2400), (62, 0, 7), (63, 0, 216), (64, 0, 6), (68, 0, 400)] w0 w0 := FE.rf
  have hl := lv_entry ([.ref (ad 0), .int (-1)]) (n := 3) (Nat.le_of_ble_eq_true rfl)
  rw [lg_entry_eq]
  generalize (lg_sl ([.ref (ad 0), .int (-1)]) ++ List.replicate (3 - (lg_sl ([.ref (ad 0), .int (-1)])).length) Slot.unset).toArray = ls at hl ⊢
  have hl : lv_has ls 3 [(0, .ref (ad 0)), (1, .int (-1))] := hl
  generalize hloc : ([] : List Loc) = locs at hw ⊢
  have hinX12 : ∀ w ∈ u_ws RX12 TX12 42, w ∈ wsX12_isDoingHere := fun _ h => List.mem_cons_of_mem _ (List.mem_append_right _ (h))
  have J76 : ∀ (v76_2 : Int32) (f76_0_1 : Int32) (f76_0_18 : Int32) (f76_3_1 : Int32) (H : Heap) (locs : List Loc) (ls : Array Slot) (w1 : va_W), 36 ≤ v76_2.toInt → v76_2.toInt ≤ 69 → v76_2.toInt = 3 * f3_.toInt + 36 → 0 ≤ f76_0_1.toInt → f76_0_1.toInt ≤ 400 → 0 ≤ f76_0_18.toInt → f76_0_18.toInt ≤ 60 → 0 ≤ f76_3_1.toInt → f76_3_1.toInt ≤ 400 → 0 ≤ f3_.toInt → f3_.toInt ≤ 11 → (3 * f76_3_1.toInt ≤ 14 * f76_0_18.toInt) → (f3_.toInt = f3_.toInt) → (f3_.toInt ≤ 11) → Wd dC dI A s.heap H locs w1 → TW ksM ad cy B qr 12 w1 → FE ksM [(12, 14, 14), (12, 15, 15), (12, 16, 16), (12, 18, 18), (12, 19, 19), (12, 22, 22), (61, 0, 2400), (62, 0, 7), (63, 0, 216), (64, 0, 6), (68, 0, 400)] w0 w1 → gi w1 0 1 = f76_0_1 → gi w1 0 17 = 1 → gi w1 0 18 = f76_0_18 → gi w1 3 1 = f76_3_1 → gi w1 5 1 = f3_ → lv_has ls 3 [(0, .ref (ad 0)), (1, .int (-1)), (2, .int v76_2)] → W p l e ({ frames := 10, cells := 0, slots := 0, locals := 210 }) s m (List.toArray [.ref (ad 0), .int (-1)]) below meth c H locs 0 0 (MQ below (va_Qi (P_X12_isDoingHere_3 ad cy B qr s1  w0) (fun u : va_W => wpost dC dI cy A u) A) (List.toArray [.ref (ad 0), .int (-1)]) s 0 0 A) (F0 m 76 ls []) := by
    intro v76_2 f76_0_1 f76_0_18 f76_3_1 H locs ls w1 r2 t3 l4 r5 t6 r9 t10 r12 t13 r15 t16 hcr76_0 hcr76_1 hcr76_2 hw hT hF c7 c8 c11 c14 c17 hl
    refine lv_aload_n hx hb dX12_isDoingHere_76 rfl (lv_at hl 0 rfl) ?_
    refine tk_getA hC hK hw hT hinX12 kM_at0 (by decide) rfl 5 (by decide) (List.mem_of_getElem? (i := 3) rfl) rfl rfl dX12_isDoingHere_77 ?_
    refine lv_iload_n hx hb dX12_isDoingHere_80 rfl (lv_at hl 2 rfl) ?_
    refine lv_iconst (v := 2) hx hb dX12_isDoingHere_81 (by decide) ?_
    refine lv_iadd hx hb dX12_isDoingHere_82 ?_
    refine lv_topi (fun x18 ex18 => ?_)
    have ex18 : x18.toInt = v76_2.toInt + (2 : Int) := by rw [ex18]; exact wk_add (show (-2147483648) ≤ v76_2.toInt + (2 : Int) by omega) (show v76_2.toInt + (2 : Int) ≤ 2147483647 by omega)
    refine lv_aload_n hx hb dX12_isDoingHere_83 rfl (lv_at hl 0 rfl) ?_
    refine tk_getA hC hK hw hT hinX12 kM_at0 (by decide) rfl 4 (by decide) (List.mem_of_getElem? (i := 5) rfl) rfl rfl dX12_isDoingHere_84 ?_
    refine lv_aload_n hx hb dX12_isDoingHere_87 rfl (lv_at hl 0 rfl) ?_
    refine tk_geti hC hK hw hT hinX12 kM_at0 (by decide) rfl 17 (by decide) (List.mem_of_getElem? (i := 1) rfl) rfl rfl dX12_isDoingHere_88 (fun x19 c20 rx19 tx19 => ?_)
    refine wk_top 1 (c20.symm.trans c8) ?_
    refine tk_iald hC hK hw hT kM_at3 rfl rfl (by decide) (by decide) dX12_isDoingHere_91 (fun x21 c22 rx21 tx21 => ?_)
    refine wk_top f76_3_1 (c22.symm.trans c14) ?_
    refine tk_iast hC hK hw hT kM_at4 (by decide) rfl rfl (show 0 ≤ x18.toInt by omega) (show x18.toInt < 216 by omega) (wk_i32 f76_3_1).1 (wk_i32 f76_3_1).2 dX12_isDoingHere_92 (fun H locs w23 hw hT k25 c24 => ?_)
    have hF := hF.put kM_at4 (inE_of (a := 0) (b := 216) (by decide) (show 0 ≤ x18.toInt.toNat by omega) (show x18.toInt.toNat ≤ 216 by omega)) k25
    have c26 := k25.gi (Or.inl (tk_ne kM_at0 kM_at4 (by decide))) c7
    have c27 := k25.gi (Or.inl (tk_ne kM_at0 kM_at4 (by decide))) c8
    have c28 := k25.gi (Or.inl (tk_ne kM_at0 kM_at4 (by decide))) c11
    have c29 := k25.gi (Or.inl (tk_ne kM_at3 kM_at4 (by decide))) c14
    have c30 := k25.gi (Or.inl (tk_ne kM_at5 kM_at4 (by decide))) c17
    refine lv_aload_n hx hb dX12_isDoingHere_93 rfl (lv_at hl 0 rfl) ?_
    refine tk_getA hC hK hw hT hinX12 kM_at0 (by decide) rfl 6 (by decide) (List.mem_of_getElem? (i := 2) rfl) rfl rfl dX12_isDoingHere_94 ?_
    refine lv_aload_n hx hb dX12_isDoingHere_97 rfl (lv_at hl 0 rfl) ?_
    refine tk_geti hC hK hw hT hinX12 kM_at0 (by decide) rfl 17 (by decide) (List.mem_of_getElem? (i := 1) rfl) rfl rfl dX12_isDoingHere_98 (fun x31 c32 rx31 tx31 => ?_)
    refine wk_top 1 (c32.symm.trans c27) ?_
    refine lv_dup2_11 hx hb dX12_isDoingHere_101 rfl rfl ?_
    refine tk_iald hC hK hw hT kM_at5 rfl rfl (by decide) (by decide) dX12_isDoingHere_102 (fun x33 c34 rx33 tx33 => ?_)
    refine wk_top f3_ (c34.symm.trans c30) ?_
    refine lv_iconst (v := 1) hx hb dX12_isDoingHere_103 (by decide) ?_
    refine lv_iadd hx hb dX12_isDoingHere_104 ?_
    refine lv_topi (fun x35 ex35 => ?_)
    have ex35 : x35.toInt = f3_.toInt + (1 : Int) := by rw [ex35]; exact wk_add (show (-2147483648) ≤ f3_.toInt + (1 : Int) by omega) (show f3_.toInt + (1 : Int) ≤ 2147483647 by omega)
    refine tk_iast hC hK hw hT kM_at5 (by decide) rfl rfl (by decide) (by decide) (show 0 ≤ x35.toInt by omega) (show x35.toInt ≤ 12 by omega) dX12_isDoingHere_105 (fun H locs w36 hw hT k38 c37 => ?_)
    have hF := hF.put kM_at5 (inE_of (a := 0) (b := 6) (by decide) (by decide) (by decide)) k38
    have c39 := k38.gi (Or.inl (tk_ne kM_at0 kM_at5 (by decide))) c26
    have c40 := k38.gi (Or.inl (tk_ne kM_at0 kM_at5 (by decide))) c27
    have c41 := k38.gi (Or.inl (tk_ne kM_at0 kM_at5 (by decide))) c28
    have c42 := k38.gi (Or.inl (tk_ne kM_at3 kM_at5 (by decide))) c29
    have c37 : gi w36 5 1 = x35 := c37
    refine lv_iconst (v := 1) hx hb dX12_isDoingHere_106 (by decide) ?_
    exact tk_zret hC hr rfl hlocks hK ⟨hT, hF, (Or.inr (Or.inr ⟨rfl, ⟨f76_0_1, c39, (show 0 ≤ f76_0_1.toInt by omega), (show f76_0_1.toInt ≤ 400 by omega)⟩, ⟨1, c40, (by decide), (by decide)⟩, (by simp only [c42, c41]; omega), (by simp only [cf3_, c37]; omega)⟩))⟩ hw dX12_isDoingHere_107
  refine lv_aload_n hx hb dX12_isDoingHere_0 rfl (lv_at hl 0 rfl) ?_
  refine tk_Vv hC hK hw hT hA hE hSR kM_at0 (by decide) rfl (k_X12_passWord_1 l adK adV dC dI cy ad B (by omega) (by omega) qr s1    w0 s.heap.size hT ) (cwV 0 hC.2.2.2.2 gX12_isDoingHere_X12_passWord rfl rfl rfl (by decide +kernel) ⟨Nat.le_of_ble_eq_true rfl, Nat.le_of_ble_eq_true rfl⟩) rfl hl.1 rfl (Nat.le_of_ble_eq_true rfl) dX12_isDoingHere_1 (fun w45 H locs hp44 hw => ?_)
  obtain ⟨hT, k46, hg53⟩ := hp44
  have hF := hF.tr k46 (by decide)
  have c54 := k46.gi kM_at0 (by decide) cf0_
  have c55 := k46.gi kM_at0 (by decide) cf1_
  have c56 := k46.gi kM_at3 (by decide) cf2_
  have c57 := k46.gi kM_at5 (by decide) cf3_
  rcases hg53 with ⟨⟨x47, c48, rx47, tx47⟩, ⟨x49, c50, rx49, tx49⟩⟩ | ⟨x51, c52, rx51, tx51⟩
  · refine lv_bipush (v := 36) hx hb dX12_isDoingHere_4 (by decide) ?_
    refine lv_aload_n hx hb dX12_isDoingHere_6 rfl (lv_at hl 0 rfl) ?_
    refine tk_geti hC hK hw hT hinX12 kM_at0 (by decide) rfl 17 (by decide) (List.mem_of_getElem? (i := 1) rfl) rfl rfl dX12_isDoingHere_7 (fun x58 c59 rx58 tx58 => ?_)
    refine wk_top 1 (c59.symm.trans c54) ?_
    refine lv_imul hx hb dX12_isDoingHere_10 ?_
    refine wk_top 36 (by decide) ?_
    refine lv_iconst (v := 3) hx hb dX12_isDoingHere_11 (by decide) ?_
    refine lv_aload_n hx hb dX12_isDoingHere_12 rfl (lv_at hl 0 rfl) ?_
    refine tk_getA hC hK hw hT hinX12 kM_at0 (by decide) rfl 6 (by decide) (List.mem_of_getElem? (i := 2) rfl) rfl rfl dX12_isDoingHere_13 ?_
    refine lv_aload_n hx hb dX12_isDoingHere_16 rfl (lv_at hl 0 rfl) ?_
    refine tk_geti hC hK hw hT hinX12 kM_at0 (by decide) rfl 17 (by decide) (List.mem_of_getElem? (i := 1) rfl) rfl rfl dX12_isDoingHere_17 (fun x60 c61 rx60 tx60 => ?_)
    refine wk_top 1 (c61.symm.trans c54) ?_
    refine tk_iald hC hK hw hT kM_at5 rfl rfl (by decide) (by decide) dX12_isDoingHere_20 (fun x62 c63 rx62 tx62 => ?_)
    refine wk_top f3_ (c63.symm.trans c57) ?_
    refine lv_imul hx hb dX12_isDoingHere_21 ?_
    refine lv_topi (fun x64 ex64 => ?_)
    have ex64 : x64.toInt = (3 : Int) * f3_.toInt := by rw [ex64]; exact wk_mul (show (-2147483648) ≤ (3 : Int) * f3_.toInt by omega) (show (3 : Int) * f3_.toInt ≤ 2147483647 by omega)
    refine lv_iadd hx hb dX12_isDoingHere_22 ?_
    refine lv_topi (fun x65 ex65 => ?_)
    have ex65 : x65.toInt = (36 : Int) + x64.toInt := by rw [ex65]; exact wk_add (show (-2147483648) ≤ (36 : Int) + x64.toInt by omega) (show (36 : Int) + x64.toInt ≤ 2147483647 by omega)
    refine lv_istore_n (lv' := [(2, .int x65), (0, .ref (ad 0)), (1, .int (-1))]) hx hb dX12_isDoingHere_23 rfl hl (by decide) rfl (fun ls hl => ?_)
    refine lv_aload_n hx hb dX12_isDoingHere_24 rfl (lv_at hl 1 rfl) ?_
    refine tk_getA hC hK hw hT hinX12 kM_at0 (by decide) rfl 5 (by decide) (List.mem_of_getElem? (i := 3) rfl) rfl rfl dX12_isDoingHere_25 ?_
    refine lv_iload_n hx hb dX12_isDoingHere_28 rfl (lv_at hl 0 rfl) ?_
    refine lv_iload_n hx hb dX12_isDoingHere_29 rfl (lv_at hl 2 rfl) ?_
    refine tk_iast hC hK hw hT kM_at4 (by decide) rfl rfl (show 0 ≤ x65.toInt by omega) (show x65.toInt < 216 by omega) (by decide) (by decide) dX12_isDoingHere_30 (fun H locs w66 hw hT k68 c67 => ?_)
    have hF := hF.put kM_at4 (inE_of (a := 0) (b := 216) (by decide) (show 0 ≤ x65.toInt.toNat by omega) (show x65.toInt.toNat ≤ 216 by omega)) k68
    have c69 := k68.gi (Or.inl (tk_ne kM_at0 kM_at4 (by decide))) c54
    have c70 := k68.gi (Or.inl (tk_ne kM_at0 kM_at4 (by decide))) c55
    have c71 := k68.gi (Or.inl (tk_ne kM_at3 kM_at4 (by decide))) c56
    have c72 := k68.gi (Or.inl (tk_ne kM_at5 kM_at4 (by decide))) c57
    have c73 := k68.gi (Or.inl (tk_ne kM_at0 kM_at4 (by decide))) c48
    have c74 := k68.gi (Or.inl (tk_ne kM_at0 kM_at4 (by decide))) c50
    refine lv_aload_n hx hb dX12_isDoingHere_31 rfl (lv_at hl 1 rfl) ?_
    refine tk_getA hC hK hw hT hinX12 kM_at0 (by decide) rfl 5 (by decide) (List.mem_of_getElem? (i := 3) rfl) rfl rfl dX12_isDoingHere_32 ?_
    refine lv_iload_n hx hb dX12_isDoingHere_35 rfl (lv_at hl 0 rfl) ?_
    refine lv_iconst (v := 1) hx hb dX12_isDoingHere_36 (by decide) ?_
    refine lv_iadd hx hb dX12_isDoingHere_37 ?_
    refine lv_topi (fun x75 ex75 => ?_)
    have ex75 : x75.toInt = x65.toInt + (1 : Int) := by rw [ex75]; exact wk_add (show (-2147483648) ≤ x65.toInt + (1 : Int) by omega) (show x65.toInt + (1 : Int) ≤ 2147483647 by omega)
    refine lv_iconst (v := (-1)) hx hb dX12_isDoingHere_38 (by decide) ?_
    refine tk_iast hC hK hw hT kM_at4 (by decide) rfl rfl (show 0 ≤ x75.toInt by omega) (show x75.toInt < 216 by omega) (by decide) (by decide) dX12_isDoingHere_39 (fun H locs w76 hw hT k78 c77 => ?_)
    have hF := hF.put kM_at4 (inE_of (a := 0) (b := 216) (by decide) (show 0 ≤ x75.toInt.toNat by omega) (show x75.toInt.toNat ≤ 216 by omega)) k78
    have c79 := k78.gi (Or.inl (tk_ne kM_at0 kM_at4 (by decide))) c69
    have c80 := k78.gi (Or.inl (tk_ne kM_at0 kM_at4 (by decide))) c70
    have c81 := k78.gi (Or.inl (tk_ne kM_at3 kM_at4 (by decide))) c71
    have c82 := k78.gi (Or.inl (tk_ne kM_at5 kM_at4 (by decide))) c72
    have c83 := k78.gi (Or.inl (tk_ne kM_at0 kM_at4 (by decide))) c73
    have c84 := k78.gi (Or.inl (tk_ne kM_at0 kM_at4 (by decide))) c74
    refine lv_aload_n hx hb dX12_isDoingHere_40 rfl (lv_at hl 1 rfl) ?_
    refine lv_ldc2 (v := 26982) hx hb hC.2.2.2.1 (hC.2.2.2.2 _ (List.mem_of_getElem? (i := 4) rfl)) dX12_isDoingHere_41 ?_
    refine tk_Vi hC hK hw hT hA hE hSR kM_at0 (by decide) rfl (k_X12_takesWord_1 l adK adV dC dI cy ad B (by omega) (by omega) qr s1    w76 H.size hT ) (cwV 1 hC.2.2.2.2 gX12_isDoingHere_X12_takesWord rfl rfl rfl (by decide +kernel) ⟨Nat.le_of_ble_eq_true rfl, Nat.le_of_ble_eq_true rfl⟩) rfl hl.1 rfl (Nat.le_of_ble_eq_true rfl) dX12_isDoingHere_44 (fun r85 w87 H locs hp86 hw => ?_)
    obtain ⟨hT, k88, hg97⟩ := hp86
    have hF := hF.tr k88 (by decide)
    have c98 := k88.gi kM_at0 (by decide) c79
    have c99 := k88.gi kM_at0 (by decide) c80
    have c100 := k88.gi kM_at3 (by decide) c81
    have c101 := k88.gi kM_at5 (by decide) c82
    have c102 := k88.gi kM_at0 (by decide) c83
    rcases hg97 with ⟨rfl, ⟨x89, c90, rx89, tx89⟩⟩ | ⟨rfl, ⟨x91, c92, rx91, tx91⟩, ⟨x93, c94, rx93, tx93⟩⟩ | ⟨rfl, ⟨x95, c96, rx95, tx95⟩⟩
    · have ex89 : x89.toInt = x47.toInt := by rw [← c102.symm.trans c90]
      refine lv_if_eq (tgt := 76) hx hb dX12_isDoingHere_47 (by decide) (fun _ => ?_) (fun c => absurd (by decide) c)
      exact J76 x65 x47 f1_ f2_ H locs ls w87 (show 36 ≤ x65.toInt by omega) (show x65.toInt ≤ 69 by omega) (show x65.toInt = 3 * f3_.toInt + 36 by omega) (show 0 ≤ x47.toInt by omega) (show x47.toInt ≤ 400 by omega) (show 0 ≤ f1_.toInt by omega) (show f1_.toInt ≤ 60 by omega) (show 0 ≤ f2_.toInt by omega) (show f2_.toInt ≤ 400 by omega) (show 0 ≤ f3_.toInt by omega) (show f3_.toInt ≤ 11 by omega) (show 3 * f2_.toInt ≤ 14 * f1_.toInt by omega) (show f3_.toInt = f3_.toInt by omega) (show f3_.toInt ≤ 11 by omega)  hw hT hF c102 c98 c99 c100 c101 (lv_sub hl [1, 2, 0] rfl)
    · have ex91 : x91.toInt = x47.toInt := by rw [← c102.symm.trans c92]
      refine lv_if_eq (tgt := 76) hx hb dX12_isDoingHere_47 (by decide) (fun c => absurd c (by decide)) (fun _ => ?_)
      refine lv_aload_n hx hb dX12_isDoingHere_50 rfl (lv_at hl 1 rfl) ?_
      refine tk_getA hC hK hw hT hinX12 kM_at0 (by decide) rfl 5 (by decide) (List.mem_of_getElem? (i := 3) rfl) rfl rfl dX12_isDoingHere_51 ?_
      refine lv_iload_n hx hb dX12_isDoingHere_54 rfl (lv_at hl 0 rfl) ?_
      refine lv_iconst (v := 1) hx hb dX12_isDoingHere_55 (by decide) ?_
      refine lv_iadd hx hb dX12_isDoingHere_56 ?_
      refine lv_topi (fun x103 ex103 => ?_)
      have ex103 : x103.toInt = x65.toInt + (1 : Int) := by rw [ex103]; exact wk_add (show (-2147483648) ≤ x65.toInt + (1 : Int) by omega) (show x65.toInt + (1 : Int) ≤ 2147483647 by omega)
      refine lv_aload_n hx hb dX12_isDoingHere_57 rfl (lv_at hl 1 rfl) ?_
      refine tk_getA hC hK hw hT hinX12 kM_at0 (by decide) rfl 4 (by decide) (List.mem_of_getElem? (i := 5) rfl) rfl rfl dX12_isDoingHere_58 ?_
      refine lv_aload_n hx hb dX12_isDoingHere_61 rfl (lv_at hl 1 rfl) ?_
      refine tk_geti hC hK hw hT hinX12 kM_at0 (by decide) rfl 17 (by decide) (List.mem_of_getElem? (i := 1) rfl) rfl rfl dX12_isDoingHere_62 (fun x104 c105 rx104 tx104 => ?_)
      refine wk_top 1 (c105.symm.trans c98) ?_
      refine tk_iald hC hK hw hT kM_at3 rfl rfl (by decide) (by decide) dX12_isDoingHere_65 (fun x106 c107 rx106 tx106 => ?_)
      refine wk_top f2_ (c107.symm.trans c100) ?_
      refine tk_iast hC hK hw hT kM_at4 (by decide) rfl rfl (show 0 ≤ x103.toInt by omega) (show x103.toInt < 216 by omega) (wk_i32 f2_).1 (wk_i32 f2_).2 dX12_isDoingHere_66 (fun H locs w108 hw hT k110 c109 => ?_)
      have hF := hF.put kM_at4 (inE_of (a := 0) (b := 216) (by decide) (show 0 ≤ x103.toInt.toNat by omega) (show x103.toInt.toNat ≤ 216 by omega)) k110
      have c111 := k110.gi (Or.inl (tk_ne kM_at0 kM_at4 (by decide))) c98
      have c112 := k110.gi (Or.inl (tk_ne kM_at0 kM_at4 (by decide))) c99
      have c113 := k110.gi (Or.inl (tk_ne kM_at3 kM_at4 (by decide))) c100
      have c114 := k110.gi (Or.inl (tk_ne kM_at5 kM_at4 (by decide))) c101
      have c115 := k110.gi (Or.inl (tk_ne kM_at0 kM_at4 (by decide))) c102
      have c116 := k110.gi (Or.inl (tk_ne kM_at0 kM_at4 (by decide))) c94
      refine lv_aload_n hx hb dX12_isDoingHere_67 rfl (lv_at hl 1 rfl) ?_
      obtain ⟨x117, c118, rx117, tx117⟩ := hT.rdi (lo := 0) (hi := 400) (k := 22) kM_at0 (by decide) rfl
      obtain ⟨x119, c120, rx119, tx119⟩ := hT.rdi (lo := (-100)) (hi := 10) (k := 19) kM_at0 (by decide) rfl
      refine tk_Vi hC hK hw hT hA hE hSR kM_at0 (by decide) rfl (k_X12_tested_2 l adK adV dC dI cy ad B (by omega) (by omega) qr s1    w108 H.size hT c111 f1_ c112 (show 0 ≤ f1_.toInt by omega) (show f1_.toInt ≤ 60 by omega) x119 c120 (show (-100) ≤ x119.toInt by omega) (show x119.toInt ≤ 10 by omega) x117 c118 (show 0 ≤ x117.toInt by omega) (show x117.toInt ≤ 400 by omega) f2_ c113 (show 0 ≤ f2_.toInt by omega) (show f2_.toInt ≤ 400 by omega) (show 3 * f2_.toInt ≤ 14 * f1_.toInt by omega) (show f2_.toInt ≤ 280 by omega)) (cwV 0 hC.2.2.2.2 gX12_isDoingHere_X12_tested rfl rfl rfl (by decide +kernel) ⟨Nat.le_of_ble_eq_true rfl, Nat.le_of_ble_eq_true rfl⟩) rfl hl.1 rfl (Nat.le_of_ble_eq_true rfl) dX12_isDoingHere_68 (fun r121 w123 H locs hp122 hw => ?_)
      obtain ⟨hT, k124, hg148⟩ := hp122
      have hF := hF.tr k124 (by decide)
      have c149 := k124.gi kM_at0 (by decide) c111
      have c150 := k124.gi kM_at5 (by decide) c114
      have c151 := k124.gi kM_at0 (by decide) c115
      rcases hg148 with ⟨rfl, ⟨x125, c126, rx125, tx125⟩, ⟨x127, c128, rx127, tx127⟩, ⟨x129, c130, rx129, tx129⟩, ⟨x131, c132, rx131, tx131⟩⟩ | ⟨rfl, ⟨x133, c134, rx133, tx133⟩, ⟨x135, c136, rx135, tx135⟩, ⟨x137, c138, rx137, tx137⟩, ⟨x139, c140, rx139, tx139⟩⟩ | ⟨rfl, ⟨x141, c142, rx141, tx141⟩, ⟨x143, c144, rx143, tx143⟩, ⟨x145, c146, rx145, tx145⟩, g147⟩
      · have ex125 : x125.toInt = x47.toInt := by rw [← c151.symm.trans c126]
        have ex129 : x129.toInt = (1 : Int) := by rw [show x129 = 1 from c130.symm.trans c149]; decide
        obtain ⟨x152, c153, rx152, tx152⟩ := hT.rda (lo := 0) (hi := 400) (i := 1) kM_at3 rfl rfl (by decide)
        obtain ⟨x154, c155, rx154, tx154⟩ := hT.rdi (lo := 0) (hi := 60) (k := 18) kM_at0 (by decide) rfl
        obtain ⟨x156, c157, rx156, tx156⟩ := hT.rdi (lo := (-100)) (hi := 10) (k := 19) kM_at0 (by decide) rfl
        refine lv_if_ne (tgt := 76) hx hb dX12_isDoingHere_71 (by decide) (fun c => absurd (by decide) c) (fun _ => ?_)
        refine lv_iconst (v := 0) hx hb dX12_isDoingHere_74 (by decide) ?_
        exact tk_zret hC hr rfl hlocks hK ⟨hT, hF, (Or.inl ⟨rfl, ⟨x47, c151, (show 1 ≤ x47.toInt by omega), (show x47.toInt ≤ 400 by omega)⟩, ⟨x127, c128, (show 1 ≤ x127.toInt by omega), (show x127.toInt ≤ 3205 by omega)⟩, ⟨1, c149, (by decide), (by decide)⟩, ⟨x131, c132, (show 0 ≤ x131.toInt by omega), (show x131.toInt ≤ 399 by omega)⟩⟩)⟩ hw dX12_isDoingHere_75
      · have ex133 : x133.toInt = x47.toInt := by rw [← c151.symm.trans c134]
        have ex137 : x137.toInt = (1 : Int) := by rw [show x137 = 1 from c138.symm.trans c149]; decide
        obtain ⟨x158, c159, rx158, tx158⟩ := hT.rda (lo := 0) (hi := 400) (i := 1) kM_at3 rfl rfl (by decide)
        obtain ⟨x160, c161, rx160, tx160⟩ := hT.rdi (lo := 0) (hi := 60) (k := 18) kM_at0 (by decide) rfl
        obtain ⟨x162, c163, rx162, tx162⟩ := hT.rdi (lo := (-100)) (hi := 10) (k := 19) kM_at0 (by decide) rfl
        refine lv_if_ne (tgt := 76) hx hb dX12_isDoingHere_71 (by decide) (fun c => absurd (by decide) c) (fun _ => ?_)
        refine lv_iconst (v := 0) hx hb dX12_isDoingHere_74 (by decide) ?_
        exact tk_zret hC hr rfl hlocks hK ⟨hT, hF, (Or.inl ⟨rfl, ⟨x47, c151, (show 1 ≤ x47.toInt by omega), (show x47.toInt ≤ 400 by omega)⟩, ⟨x135, c136, (show 1 ≤ x135.toInt by omega), (show x135.toInt ≤ 3205 by omega)⟩, ⟨1, c149, (by decide), (by decide)⟩, ⟨x139, c140, (show 0 ≤ x139.toInt by omega), (show x139.toInt ≤ 399 by omega)⟩⟩)⟩ hw dX12_isDoingHere_75
      · have ex141 : x141.toInt = (1 : Int) := by rw [show x141 = 1 from c142.symm.trans c149]; decide
        obtain ⟨x164, c165, rx164, tx164⟩ := hT.rda (lo := 0) (hi := 400) (i := 1) kM_at3 rfl rfl (by decide)
        obtain ⟨x166, c167, rx166, tx166⟩ := hT.rdi (lo := 0) (hi := 60) (k := 18) kM_at0 (by decide) rfl
        have g147 : 3 * x164.toInt ≤ 14 * x166.toInt := by have q := g147; simp only [c165, c167] at q; omega
        refine lv_if_ne (tgt := 76) hx hb dX12_isDoingHere_71 (by decide) (fun _ => ?_) (fun c => absurd c (by decide))
        exact J76 x65 x47 x166 x164 H locs ls w123 (show 36 ≤ x65.toInt by omega) (show x65.toInt ≤ 69 by omega) (show x65.toInt = 3 * f3_.toInt + 36 by omega) (show 0 ≤ x47.toInt by omega) (show x47.toInt ≤ 400 by omega) (show 0 ≤ x166.toInt by omega) (show x166.toInt ≤ 60 by omega) (show 0 ≤ x164.toInt by omega) (show x164.toInt ≤ 400 by omega) (show 0 ≤ f3_.toInt by omega) (show f3_.toInt ≤ 11 by omega) (show 3 * x164.toInt ≤ 14 * x166.toInt by omega) (show f3_.toInt = f3_.toInt by omega) (show f3_.toInt ≤ 11 by omega)  hw hT hF c151 c149 c167 c165 c150 (lv_sub hl [1, 2, 0] rfl)
    · have ex95 : x95.toInt = x47.toInt := by rw [← c102.symm.trans c96]
      refine lv_if_eq (tgt := 76) hx hb dX12_isDoingHere_47 (by decide) (fun c => absurd c (by decide)) (fun _ => ?_)
      refine lv_aload_n hx hb dX12_isDoingHere_50 rfl (lv_at hl 1 rfl) ?_
      refine tk_getA hC hK hw hT hinX12 kM_at0 (by decide) rfl 5 (by decide) (List.mem_of_getElem? (i := 3) rfl) rfl rfl dX12_isDoingHere_51 ?_
      refine lv_iload_n hx hb dX12_isDoingHere_54 rfl (lv_at hl 0 rfl) ?_
      refine lv_iconst (v := 1) hx hb dX12_isDoingHere_55 (by decide) ?_
      refine lv_iadd hx hb dX12_isDoingHere_56 ?_
      refine lv_topi (fun x168 ex168 => ?_)
      have ex168 : x168.toInt = x65.toInt + (1 : Int) := by rw [ex168]; exact wk_add (show (-2147483648) ≤ x65.toInt + (1 : Int) by omega) (show x65.toInt + (1 : Int) ≤ 2147483647 by omega)
      refine lv_aload_n hx hb dX12_isDoingHere_57 rfl (lv_at hl 1 rfl) ?_
      refine tk_getA hC hK hw hT hinX12 kM_at0 (by decide) rfl 4 (by decide) (List.mem_of_getElem? (i := 5) rfl) rfl rfl dX12_isDoingHere_58 ?_
      refine lv_aload_n hx hb dX12_isDoingHere_61 rfl (lv_at hl 1 rfl) ?_
      refine tk_geti hC hK hw hT hinX12 kM_at0 (by decide) rfl 17 (by decide) (List.mem_of_getElem? (i := 1) rfl) rfl rfl dX12_isDoingHere_62 (fun x169 c170 rx169 tx169 => ?_)
      refine wk_top 1 (c170.symm.trans c98) ?_
      refine tk_iald hC hK hw hT kM_at3 rfl rfl (by decide) (by decide) dX12_isDoingHere_65 (fun x171 c172 rx171 tx171 => ?_)
      refine wk_top f2_ (c172.symm.trans c100) ?_
      refine tk_iast hC hK hw hT kM_at4 (by decide) rfl rfl (show 0 ≤ x168.toInt by omega) (show x168.toInt < 216 by omega) (wk_i32 f2_).1 (wk_i32 f2_).2 dX12_isDoingHere_66 (fun H locs w173 hw hT k175 c174 => ?_)
      have hF := hF.put kM_at4 (inE_of (a := 0) (b := 216) (by decide) (show 0 ≤ x168.toInt.toNat by omega) (show x168.toInt.toNat ≤ 216 by omega)) k175
      have c176 := k175.gi (Or.inl (tk_ne kM_at0 kM_at4 (by decide))) c98
      have c177 := k175.gi (Or.inl (tk_ne kM_at0 kM_at4 (by decide))) c99
      have c178 := k175.gi (Or.inl (tk_ne kM_at3 kM_at4 (by decide))) c100
      have c179 := k175.gi (Or.inl (tk_ne kM_at5 kM_at4 (by decide))) c101
      have c180 := k175.gi (Or.inl (tk_ne kM_at0 kM_at4 (by decide))) c102
      refine lv_aload_n hx hb dX12_isDoingHere_67 rfl (lv_at hl 1 rfl) ?_
      obtain ⟨x181, c182, rx181, tx181⟩ := hT.rdi (lo := 0) (hi := 400) (k := 22) kM_at0 (by decide) rfl
      obtain ⟨x183, c184, rx183, tx183⟩ := hT.rdi (lo := (-100)) (hi := 10) (k := 19) kM_at0 (by decide) rfl
      refine tk_Vi hC hK hw hT hA hE hSR kM_at0 (by decide) rfl (k_X12_tested_2 l adK adV dC dI cy ad B (by omega) (by omega) qr s1    w173 H.size hT c176 f1_ c177 (show 0 ≤ f1_.toInt by omega) (show f1_.toInt ≤ 60 by omega) x183 c184 (show (-100) ≤ x183.toInt by omega) (show x183.toInt ≤ 10 by omega) x181 c182 (show 0 ≤ x181.toInt by omega) (show x181.toInt ≤ 400 by omega) f2_ c178 (show 0 ≤ f2_.toInt by omega) (show f2_.toInt ≤ 400 by omega) (show 3 * f2_.toInt ≤ 14 * f1_.toInt by omega) (show f2_.toInt ≤ 280 by omega)) (cwV 0 hC.2.2.2.2 gX12_isDoingHere_X12_tested rfl rfl rfl (by decide +kernel) ⟨Nat.le_of_ble_eq_true rfl, Nat.le_of_ble_eq_true rfl⟩) rfl hl.1 rfl (Nat.le_of_ble_eq_true rfl) dX12_isDoingHere_68 (fun r185 w187 H locs hp186 hw => ?_)
      obtain ⟨hT, k188, hg212⟩ := hp186
      have hF := hF.tr k188 (by decide)
      have c213 := k188.gi kM_at0 (by decide) c176
      have c214 := k188.gi kM_at5 (by decide) c179
      have c215 := k188.gi kM_at0 (by decide) c180
      rcases hg212 with ⟨rfl, ⟨x189, c190, rx189, tx189⟩, ⟨x191, c192, rx191, tx191⟩, ⟨x193, c194, rx193, tx193⟩, ⟨x195, c196, rx195, tx195⟩⟩ | ⟨rfl, ⟨x197, c198, rx197, tx197⟩, ⟨x199, c200, rx199, tx199⟩, ⟨x201, c202, rx201, tx201⟩, ⟨x203, c204, rx203, tx203⟩⟩ | ⟨rfl, ⟨x205, c206, rx205, tx205⟩, ⟨x207, c208, rx207, tx207⟩, ⟨x209, c210, rx209, tx209⟩, g211⟩
      · have ex189 : x189.toInt = x47.toInt := by rw [← c215.symm.trans c190]
        have ex193 : x193.toInt = (1 : Int) := by rw [show x193 = 1 from c194.symm.trans c213]; decide
        obtain ⟨x216, c217, rx216, tx216⟩ := hT.rda (lo := 0) (hi := 400) (i := 1) kM_at3 rfl rfl (by decide)
        obtain ⟨x218, c219, rx218, tx218⟩ := hT.rdi (lo := 0) (hi := 60) (k := 18) kM_at0 (by decide) rfl
        obtain ⟨x220, c221, rx220, tx220⟩ := hT.rdi (lo := (-100)) (hi := 10) (k := 19) kM_at0 (by decide) rfl
        refine lv_if_ne (tgt := 76) hx hb dX12_isDoingHere_71 (by decide) (fun c => absurd (by decide) c) (fun _ => ?_)
        refine lv_iconst (v := 0) hx hb dX12_isDoingHere_74 (by decide) ?_
        exact tk_zret hC hr rfl hlocks hK ⟨hT, hF, (Or.inl ⟨rfl, ⟨x47, c215, (show 1 ≤ x47.toInt by omega), (show x47.toInt ≤ 400 by omega)⟩, ⟨x191, c192, (show 1 ≤ x191.toInt by omega), (show x191.toInt ≤ 3205 by omega)⟩, ⟨1, c213, (by decide), (by decide)⟩, ⟨x195, c196, (show 0 ≤ x195.toInt by omega), (show x195.toInt ≤ 399 by omega)⟩⟩)⟩ hw dX12_isDoingHere_75
      · have ex197 : x197.toInt = x47.toInt := by rw [← c215.symm.trans c198]
        have ex201 : x201.toInt = (1 : Int) := by rw [show x201 = 1 from c202.symm.trans c213]; decide
        obtain ⟨x222, c223, rx222, tx222⟩ := hT.rda (lo := 0) (hi := 400) (i := 1) kM_at3 rfl rfl (by decide)
        obtain ⟨x224, c225, rx224, tx224⟩ := hT.rdi (lo := 0) (hi := 60) (k := 18) kM_at0 (by decide) rfl
        obtain ⟨x226, c227, rx226, tx226⟩ := hT.rdi (lo := (-100)) (hi := 10) (k := 19) kM_at0 (by decide) rfl
        refine lv_if_ne (tgt := 76) hx hb dX12_isDoingHere_71 (by decide) (fun c => absurd (by decide) c) (fun _ => ?_)
        refine lv_iconst (v := 0) hx hb dX12_isDoingHere_74 (by decide) ?_
        exact tk_zret hC hr rfl hlocks hK ⟨hT, hF, (Or.inl ⟨rfl, ⟨x47, c215, (show 1 ≤ x47.toInt by omega), (show x47.toInt ≤ 400 by omega)⟩, ⟨x199, c200, (show 1 ≤ x199.toInt by omega), (show x199.toInt ≤ 3205 by omega)⟩, ⟨1, c213, (by decide), (by decide)⟩, ⟨x203, c204, (show 0 ≤ x203.toInt by omega), (show x203.toInt ≤ 399 by omega)⟩⟩)⟩ hw dX12_isDoingHere_75
      · have ex205 : x205.toInt = (1 : Int) := by rw [show x205 = 1 from c206.symm.trans c213]; decide
        obtain ⟨x228, c229, rx228, tx228⟩ := hT.rda (lo := 0) (hi := 400) (i := 1) kM_at3 rfl rfl (by decide)
        obtain ⟨x230, c231, rx230, tx230⟩ := hT.rdi (lo := 0) (hi := 60) (k := 18) kM_at0 (by decide) rfl
        have g211 : 3 * x228.toInt ≤ 14 * x230.toInt := by have q := g211; simp only [c229, c231] at q; omega
        refine lv_if_ne (tgt := 76) hx hb dX12_isDoingHere_71 (by decide) (fun _ => ?_) (fun c => absurd c (by decide))
        exact J76 x65 x47 x230 x228 H locs ls w187 (show 36 ≤ x65.toInt by omega) (show x65.toInt ≤ 69 by omega) (show x65.toInt = 3 * f3_.toInt + 36 by omega) (show 0 ≤ x47.toInt by omega) (show x47.toInt ≤ 400 by omega) (show 0 ≤ x230.toInt by omega) (show x230.toInt ≤ 60 by omega) (show 0 ≤ x228.toInt by omega) (show x228.toInt ≤ 400 by omega) (show 0 ≤ f3_.toInt by omega) (show f3_.toInt ≤ 11 by omega) (show 3 * x228.toInt ≤ 14 * x230.toInt by omega) (show f3_.toInt = f3_.toInt by omega) (show f3_.toInt ≤ 11 by omega)  hw hT hF c215 c213 c231 c229 c214 (lv_sub hl [1, 2, 0] rfl)
  · refine lv_bipush (v := 36) hx hb dX12_isDoingHere_4 (by decide) ?_
    refine lv_aload_n hx hb dX12_isDoingHere_6 rfl (lv_at hl 0 rfl) ?_
    refine tk_geti hC hK hw hT hinX12 kM_at0 (by decide) rfl 17 (by decide) (List.mem_of_getElem? (i := 1) rfl) rfl rfl dX12_isDoingHere_7 (fun x232 c233 rx232 tx232 => ?_)
    refine wk_top 1 (c233.symm.trans c54) ?_
    refine lv_imul hx hb dX12_isDoingHere_10 ?_
    refine wk_top 36 (by decide) ?_
    refine lv_iconst (v := 3) hx hb dX12_isDoingHere_11 (by decide) ?_
    refine lv_aload_n hx hb dX12_isDoingHere_12 rfl (lv_at hl 0 rfl) ?_
    refine tk_getA hC hK hw hT hinX12 kM_at0 (by decide) rfl 6 (by decide) (List.mem_of_getElem? (i := 2) rfl) rfl rfl dX12_isDoingHere_13 ?_
    refine lv_aload_n hx hb dX12_isDoingHere_16 rfl (lv_at hl 0 rfl) ?_
    refine tk_geti hC hK hw hT hinX12 kM_at0 (by decide) rfl 17 (by decide) (List.mem_of_getElem? (i := 1) rfl) rfl rfl dX12_isDoingHere_17 (fun x234 c235 rx234 tx234 => ?_)
    refine wk_top 1 (c235.symm.trans c54) ?_
    refine tk_iald hC hK hw hT kM_at5 rfl rfl (by decide) (by decide) dX12_isDoingHere_20 (fun x236 c237 rx236 tx236 => ?_)
    refine wk_top f3_ (c237.symm.trans c57) ?_
    refine lv_imul hx hb dX12_isDoingHere_21 ?_
    refine lv_topi (fun x238 ex238 => ?_)
    have ex238 : x238.toInt = (3 : Int) * f3_.toInt := by rw [ex238]; exact wk_mul (show (-2147483648) ≤ (3 : Int) * f3_.toInt by omega) (show (3 : Int) * f3_.toInt ≤ 2147483647 by omega)
    refine lv_iadd hx hb dX12_isDoingHere_22 ?_
    refine lv_topi (fun x239 ex239 => ?_)
    have ex239 : x239.toInt = (36 : Int) + x238.toInt := by rw [ex239]; exact wk_add (show (-2147483648) ≤ (36 : Int) + x238.toInt by omega) (show (36 : Int) + x238.toInt ≤ 2147483647 by omega)
    refine lv_istore_n (lv' := [(2, .int x239), (0, .ref (ad 0)), (1, .int (-1))]) hx hb dX12_isDoingHere_23 rfl hl (by decide) rfl (fun ls hl => ?_)
    refine lv_aload_n hx hb dX12_isDoingHere_24 rfl (lv_at hl 1 rfl) ?_
    refine tk_getA hC hK hw hT hinX12 kM_at0 (by decide) rfl 5 (by decide) (List.mem_of_getElem? (i := 3) rfl) rfl rfl dX12_isDoingHere_25 ?_
    refine lv_iload_n hx hb dX12_isDoingHere_28 rfl (lv_at hl 0 rfl) ?_
    refine lv_iload_n hx hb dX12_isDoingHere_29 rfl (lv_at hl 2 rfl) ?_
    refine tk_iast hC hK hw hT kM_at4 (by decide) rfl rfl (show 0 ≤ x239.toInt by omega) (show x239.toInt < 216 by omega) (by decide) (by decide) dX12_isDoingHere_30 (fun H locs w240 hw hT k242 c241 => ?_)
    have hF := hF.put kM_at4 (inE_of (a := 0) (b := 216) (by decide) (show 0 ≤ x239.toInt.toNat by omega) (show x239.toInt.toNat ≤ 216 by omega)) k242
    have c243 := k242.gi (Or.inl (tk_ne kM_at0 kM_at4 (by decide))) c54
    have c244 := k242.gi (Or.inl (tk_ne kM_at0 kM_at4 (by decide))) c55
    have c245 := k242.gi (Or.inl (tk_ne kM_at3 kM_at4 (by decide))) c56
    have c246 := k242.gi (Or.inl (tk_ne kM_at5 kM_at4 (by decide))) c57
    have c247 := k242.gi (Or.inl (tk_ne kM_at0 kM_at4 (by decide))) c52
    refine lv_aload_n hx hb dX12_isDoingHere_31 rfl (lv_at hl 1 rfl) ?_
    refine tk_getA hC hK hw hT hinX12 kM_at0 (by decide) rfl 5 (by decide) (List.mem_of_getElem? (i := 3) rfl) rfl rfl dX12_isDoingHere_32 ?_
    refine lv_iload_n hx hb dX12_isDoingHere_35 rfl (lv_at hl 0 rfl) ?_
    refine lv_iconst (v := 1) hx hb dX12_isDoingHere_36 (by decide) ?_
    refine lv_iadd hx hb dX12_isDoingHere_37 ?_
    refine lv_topi (fun x248 ex248 => ?_)
    have ex248 : x248.toInt = x239.toInt + (1 : Int) := by rw [ex248]; exact wk_add (show (-2147483648) ≤ x239.toInt + (1 : Int) by omega) (show x239.toInt + (1 : Int) ≤ 2147483647 by omega)
    refine lv_iconst (v := (-1)) hx hb dX12_isDoingHere_38 (by decide) ?_
    refine tk_iast hC hK hw hT kM_at4 (by decide) rfl rfl (show 0 ≤ x248.toInt by omega) (show x248.toInt < 216 by omega) (by decide) (by decide) dX12_isDoingHere_39 (fun H locs w249 hw hT k251 c250 => ?_)
    have hF := hF.put kM_at4 (inE_of (a := 0) (b := 216) (by decide) (show 0 ≤ x248.toInt.toNat by omega) (show x248.toInt.toNat ≤ 216 by omega)) k251
    have c252 := k251.gi (Or.inl (tk_ne kM_at0 kM_at4 (by decide))) c243
    have c253 := k251.gi (Or.inl (tk_ne kM_at0 kM_at4 (by decide))) c244
    have c254 := k251.gi (Or.inl (tk_ne kM_at3 kM_at4 (by decide))) c245
    have c255 := k251.gi (Or.inl (tk_ne kM_at5 kM_at4 (by decide))) c246
    have c256 := k251.gi (Or.inl (tk_ne kM_at0 kM_at4 (by decide))) c247
    refine lv_aload_n hx hb dX12_isDoingHere_40 rfl (lv_at hl 1 rfl) ?_
    refine lv_ldc2 (v := 26982) hx hb hC.2.2.2.1 (hC.2.2.2.2 _ (List.mem_of_getElem? (i := 4) rfl)) dX12_isDoingHere_41 ?_
    refine tk_Vi hC hK hw hT hA hE hSR kM_at0 (by decide) rfl (k_X12_takesWord_1 l adK adV dC dI cy ad B (by omega) (by omega) qr s1    w249 H.size hT ) (cwV 1 hC.2.2.2.2 gX12_isDoingHere_X12_takesWord rfl rfl rfl (by decide +kernel) ⟨Nat.le_of_ble_eq_true rfl, Nat.le_of_ble_eq_true rfl⟩) rfl hl.1 rfl (Nat.le_of_ble_eq_true rfl) dX12_isDoingHere_44 (fun r257 w259 H locs hp258 hw => ?_)
    obtain ⟨hT, k260, hg269⟩ := hp258
    have hF := hF.tr k260 (by decide)
    have c270 := k260.gi kM_at0 (by decide) c252
    have c271 := k260.gi kM_at0 (by decide) c253
    have c272 := k260.gi kM_at3 (by decide) c254
    have c273 := k260.gi kM_at5 (by decide) c255
    have c274 := k260.gi kM_at0 (by decide) c256
    rcases hg269 with ⟨rfl, ⟨x261, c262, rx261, tx261⟩⟩ | ⟨rfl, ⟨x263, c264, rx263, tx263⟩, ⟨x265, c266, rx265, tx265⟩⟩ | ⟨rfl, ⟨x267, c268, rx267, tx267⟩⟩
    · have ex261 : x261.toInt = x51.toInt := by rw [← c274.symm.trans c262]
      refine lv_if_eq (tgt := 76) hx hb dX12_isDoingHere_47 (by decide) (fun _ => ?_) (fun c => absurd (by decide) c)
      exact J76 x239 x51 f1_ f2_ H locs ls w259 (show 36 ≤ x239.toInt by omega) (show x239.toInt ≤ 69 by omega) (show x239.toInt = 3 * f3_.toInt + 36 by omega) (show 0 ≤ x51.toInt by omega) (show x51.toInt ≤ 400 by omega) (show 0 ≤ f1_.toInt by omega) (show f1_.toInt ≤ 60 by omega) (show 0 ≤ f2_.toInt by omega) (show f2_.toInt ≤ 400 by omega) (show 0 ≤ f3_.toInt by omega) (show f3_.toInt ≤ 11 by omega) (show 3 * f2_.toInt ≤ 14 * f1_.toInt by omega) (show f3_.toInt = f3_.toInt by omega) (show f3_.toInt ≤ 11 by omega)  hw hT hF c274 c270 c271 c272 c273 (lv_sub hl [1, 2, 0] rfl)
    · have ex263 : x263.toInt = x51.toInt := by rw [← c274.symm.trans c264]
      refine lv_if_eq (tgt := 76) hx hb dX12_isDoingHere_47 (by decide) (fun c => absurd c (by decide)) (fun _ => ?_)
      refine lv_aload_n hx hb dX12_isDoingHere_50 rfl (lv_at hl 1 rfl) ?_
      refine tk_getA hC hK hw hT hinX12 kM_at0 (by decide) rfl 5 (by decide) (List.mem_of_getElem? (i := 3) rfl) rfl rfl dX12_isDoingHere_51 ?_
      refine lv_iload_n hx hb dX12_isDoingHere_54 rfl (lv_at hl 0 rfl) ?_
      refine lv_iconst (v := 1) hx hb dX12_isDoingHere_55 (by decide) ?_
      refine lv_iadd hx hb dX12_isDoingHere_56 ?_
      refine lv_topi (fun x275 ex275 => ?_)
      have ex275 : x275.toInt = x239.toInt + (1 : Int) := by rw [ex275]; exact wk_add (show (-2147483648) ≤ x239.toInt + (1 : Int) by omega) (show x239.toInt + (1 : Int) ≤ 2147483647 by omega)
      refine lv_aload_n hx hb dX12_isDoingHere_57 rfl (lv_at hl 1 rfl) ?_
      refine tk_getA hC hK hw hT hinX12 kM_at0 (by decide) rfl 4 (by decide) (List.mem_of_getElem? (i := 5) rfl) rfl rfl dX12_isDoingHere_58 ?_
      refine lv_aload_n hx hb dX12_isDoingHere_61 rfl (lv_at hl 1 rfl) ?_
      refine tk_geti hC hK hw hT hinX12 kM_at0 (by decide) rfl 17 (by decide) (List.mem_of_getElem? (i := 1) rfl) rfl rfl dX12_isDoingHere_62 (fun x276 c277 rx276 tx276 => ?_)
      refine wk_top 1 (c277.symm.trans c270) ?_
      refine tk_iald hC hK hw hT kM_at3 rfl rfl (by decide) (by decide) dX12_isDoingHere_65 (fun x278 c279 rx278 tx278 => ?_)
      refine wk_top f2_ (c279.symm.trans c272) ?_
      refine tk_iast hC hK hw hT kM_at4 (by decide) rfl rfl (show 0 ≤ x275.toInt by omega) (show x275.toInt < 216 by omega) (wk_i32 f2_).1 (wk_i32 f2_).2 dX12_isDoingHere_66 (fun H locs w280 hw hT k282 c281 => ?_)
      have hF := hF.put kM_at4 (inE_of (a := 0) (b := 216) (by decide) (show 0 ≤ x275.toInt.toNat by omega) (show x275.toInt.toNat ≤ 216 by omega)) k282
      have c283 := k282.gi (Or.inl (tk_ne kM_at0 kM_at4 (by decide))) c270
      have c284 := k282.gi (Or.inl (tk_ne kM_at0 kM_at4 (by decide))) c271
      have c285 := k282.gi (Or.inl (tk_ne kM_at3 kM_at4 (by decide))) c272
      have c286 := k282.gi (Or.inl (tk_ne kM_at5 kM_at4 (by decide))) c273
      have c287 := k282.gi (Or.inl (tk_ne kM_at0 kM_at4 (by decide))) c274
      have c288 := k282.gi (Or.inl (tk_ne kM_at0 kM_at4 (by decide))) c266
      refine lv_aload_n hx hb dX12_isDoingHere_67 rfl (lv_at hl 1 rfl) ?_
      obtain ⟨x289, c290, rx289, tx289⟩ := hT.rdi (lo := 0) (hi := 400) (k := 22) kM_at0 (by decide) rfl
      obtain ⟨x291, c292, rx291, tx291⟩ := hT.rdi (lo := (-100)) (hi := 10) (k := 19) kM_at0 (by decide) rfl
      refine tk_Vi hC hK hw hT hA hE hSR kM_at0 (by decide) rfl (k_X12_tested_2 l adK adV dC dI cy ad B (by omega) (by omega) qr s1    w280 H.size hT c283 f1_ c284 (show 0 ≤ f1_.toInt by omega) (show f1_.toInt ≤ 60 by omega) x291 c292 (show (-100) ≤ x291.toInt by omega) (show x291.toInt ≤ 10 by omega) x289 c290 (show 0 ≤ x289.toInt by omega) (show x289.toInt ≤ 400 by omega) f2_ c285 (show 0 ≤ f2_.toInt by omega) (show f2_.toInt ≤ 400 by omega) (show 3 * f2_.toInt ≤ 14 * f1_.toInt by omega) (show f2_.toInt ≤ 280 by omega)) (cwV 0 hC.2.2.2.2 gX12_isDoingHere_X12_tested rfl rfl rfl (by decide +kernel) ⟨Nat.le_of_ble_eq_true rfl, Nat.le_of_ble_eq_true rfl⟩) rfl hl.1 rfl (Nat.le_of_ble_eq_true rfl) dX12_isDoingHere_68 (fun r293 w295 H locs hp294 hw => ?_)
      obtain ⟨hT, k296, hg320⟩ := hp294
      have hF := hF.tr k296 (by decide)
      have c321 := k296.gi kM_at0 (by decide) c283
      have c322 := k296.gi kM_at5 (by decide) c286
      have c323 := k296.gi kM_at0 (by decide) c287
      rcases hg320 with ⟨rfl, ⟨x297, c298, rx297, tx297⟩, ⟨x299, c300, rx299, tx299⟩, ⟨x301, c302, rx301, tx301⟩, ⟨x303, c304, rx303, tx303⟩⟩ | ⟨rfl, ⟨x305, c306, rx305, tx305⟩, ⟨x307, c308, rx307, tx307⟩, ⟨x309, c310, rx309, tx309⟩, ⟨x311, c312, rx311, tx311⟩⟩ | ⟨rfl, ⟨x313, c314, rx313, tx313⟩, ⟨x315, c316, rx315, tx315⟩, ⟨x317, c318, rx317, tx317⟩, g319⟩
      · have ex297 : x297.toInt = x51.toInt := by rw [← c323.symm.trans c298]
        have ex301 : x301.toInt = (1 : Int) := by rw [show x301 = 1 from c302.symm.trans c321]; decide
        obtain ⟨x324, c325, rx324, tx324⟩ := hT.rda (lo := 0) (hi := 400) (i := 1) kM_at3 rfl rfl (by decide)
        obtain ⟨x326, c327, rx326, tx326⟩ := hT.rdi (lo := 0) (hi := 60) (k := 18) kM_at0 (by decide) rfl
        obtain ⟨x328, c329, rx328, tx328⟩ := hT.rdi (lo := (-100)) (hi := 10) (k := 19) kM_at0 (by decide) rfl
        refine lv_if_ne (tgt := 76) hx hb dX12_isDoingHere_71 (by decide) (fun c => absurd (by decide) c) (fun _ => ?_)
        refine lv_iconst (v := 0) hx hb dX12_isDoingHere_74 (by decide) ?_
        exact tk_zret hC hr rfl hlocks hK ⟨hT, hF, (Or.inl ⟨rfl, ⟨x51, c323, (show 1 ≤ x51.toInt by omega), (show x51.toInt ≤ 400 by omega)⟩, ⟨x299, c300, (show 1 ≤ x299.toInt by omega), (show x299.toInt ≤ 3205 by omega)⟩, ⟨1, c321, (by decide), (by decide)⟩, ⟨x303, c304, (show 0 ≤ x303.toInt by omega), (show x303.toInt ≤ 399 by omega)⟩⟩)⟩ hw dX12_isDoingHere_75
      · have ex305 : x305.toInt = x51.toInt := by rw [← c323.symm.trans c306]
        have ex309 : x309.toInt = (1 : Int) := by rw [show x309 = 1 from c310.symm.trans c321]; decide
        obtain ⟨x330, c331, rx330, tx330⟩ := hT.rda (lo := 0) (hi := 400) (i := 1) kM_at3 rfl rfl (by decide)
        obtain ⟨x332, c333, rx332, tx332⟩ := hT.rdi (lo := 0) (hi := 60) (k := 18) kM_at0 (by decide) rfl
        obtain ⟨x334, c335, rx334, tx334⟩ := hT.rdi (lo := (-100)) (hi := 10) (k := 19) kM_at0 (by decide) rfl
        refine lv_if_ne (tgt := 76) hx hb dX12_isDoingHere_71 (by decide) (fun c => absurd (by decide) c) (fun _ => ?_)
        refine lv_iconst (v := 0) hx hb dX12_isDoingHere_74 (by decide) ?_
        exact tk_zret hC hr rfl hlocks hK ⟨hT, hF, (Or.inl ⟨rfl, ⟨x51, c323, (show 1 ≤ x51.toInt by omega), (show x51.toInt ≤ 400 by omega)⟩, ⟨x307, c308, (show 1 ≤ x307.toInt by omega), (show x307.toInt ≤ 3205 by omega)⟩, ⟨1, c321, (by decide), (by decide)⟩, ⟨x311, c312, (show 0 ≤ x311.toInt by omega), (show x311.toInt ≤ 399 by omega)⟩⟩)⟩ hw dX12_isDoingHere_75
      · have ex313 : x313.toInt = (1 : Int) := by rw [show x313 = 1 from c314.symm.trans c321]; decide
        obtain ⟨x336, c337, rx336, tx336⟩ := hT.rda (lo := 0) (hi := 400) (i := 1) kM_at3 rfl rfl (by decide)
        obtain ⟨x338, c339, rx338, tx338⟩ := hT.rdi (lo := 0) (hi := 60) (k := 18) kM_at0 (by decide) rfl
        have g319 : 3 * x336.toInt ≤ 14 * x338.toInt := by have q := g319; simp only [c337, c339] at q; omega
        refine lv_if_ne (tgt := 76) hx hb dX12_isDoingHere_71 (by decide) (fun _ => ?_) (fun c => absurd c (by decide))
        exact J76 x239 x51 x338 x336 H locs ls w295 (show 36 ≤ x239.toInt by omega) (show x239.toInt ≤ 69 by omega) (show x239.toInt = 3 * f3_.toInt + 36 by omega) (show 0 ≤ x51.toInt by omega) (show x51.toInt ≤ 400 by omega) (show 0 ≤ x338.toInt by omega) (show x338.toInt ≤ 60 by omega) (show 0 ≤ x336.toInt by omega) (show x336.toInt ≤ 400 by omega) (show 0 ≤ f3_.toInt by omega) (show f3_.toInt ≤ 11 by omega) (show 3 * x336.toInt ≤ 14 * x338.toInt by omega) (show f3_.toInt = f3_.toInt by omega) (show f3_.toInt ≤ 11 by omega)  hw hT hF c323 c321 c339 c337 c322 (lv_sub hl [1, 2, 0] rfl)
    · have ex267 : x267.toInt = x51.toInt := by rw [← c274.symm.trans c268]
      refine lv_if_eq (tgt := 76) hx hb dX12_isDoingHere_47 (by decide) (fun c => absurd c (by decide)) (fun _ => ?_)
      refine lv_aload_n hx hb dX12_isDoingHere_50 rfl (lv_at hl 1 rfl) ?_
      refine tk_getA hC hK hw hT hinX12 kM_at0 (by decide) rfl 5 (by decide) (List.mem_of_getElem? (i := 3) rfl) rfl rfl dX12_isDoingHere_51 ?_
      refine lv_iload_n hx hb dX12_isDoingHere_54 rfl (lv_at hl 0 rfl) ?_
      refine lv_iconst (v := 1) hx hb dX12_isDoingHere_55 (by decide) ?_
      refine lv_iadd hx hb dX12_isDoingHere_56 ?_
      refine lv_topi (fun x340 ex340 => ?_)
      have ex340 : x340.toInt = x239.toInt + (1 : Int) := by rw [ex340]; exact wk_add (show (-2147483648) ≤ x239.toInt + (1 : Int) by omega) (show x239.toInt + (1 : Int) ≤ 2147483647 by omega)
      refine lv_aload_n hx hb dX12_isDoingHere_57 rfl (lv_at hl 1 rfl) ?_
      refine tk_getA hC hK hw hT hinX12 kM_at0 (by decide) rfl 4 (by decide) (List.mem_of_getElem? (i := 5) rfl) rfl rfl dX12_isDoingHere_58 ?_
      refine lv_aload_n hx hb dX12_isDoingHere_61 rfl (lv_at hl 1 rfl) ?_
      refine tk_geti hC hK hw hT hinX12 kM_at0 (by decide) rfl 17 (by decide) (List.mem_of_getElem? (i := 1) rfl) rfl rfl dX12_isDoingHere_62 (fun x341 c342 rx341 tx341 => ?_)
      refine wk_top 1 (c342.symm.trans c270) ?_
      refine tk_iald hC hK hw hT kM_at3 rfl rfl (by decide) (by decide) dX12_isDoingHere_65 (fun x343 c344 rx343 tx343 => ?_)
      refine wk_top f2_ (c344.symm.trans c272) ?_
      refine tk_iast hC hK hw hT kM_at4 (by decide) rfl rfl (show 0 ≤ x340.toInt by omega) (show x340.toInt < 216 by omega) (wk_i32 f2_).1 (wk_i32 f2_).2 dX12_isDoingHere_66 (fun H locs w345 hw hT k347 c346 => ?_)
      have hF := hF.put kM_at4 (inE_of (a := 0) (b := 216) (by decide) (show 0 ≤ x340.toInt.toNat by omega) (show x340.toInt.toNat ≤ 216 by omega)) k347
      have c348 := k347.gi (Or.inl (tk_ne kM_at0 kM_at4 (by decide))) c270
      have c349 := k347.gi (Or.inl (tk_ne kM_at0 kM_at4 (by decide))) c271
      have c350 := k347.gi (Or.inl (tk_ne kM_at3 kM_at4 (by decide))) c272
      have c351 := k347.gi (Or.inl (tk_ne kM_at5 kM_at4 (by decide))) c273
      have c352 := k347.gi (Or.inl (tk_ne kM_at0 kM_at4 (by decide))) c274
      refine lv_aload_n hx hb dX12_isDoingHere_67 rfl (lv_at hl 1 rfl) ?_
      obtain ⟨x353, c354, rx353, tx353⟩ := hT.rdi (lo := 0) (hi := 400) (k := 22) kM_at0 (by decide) rfl
      obtain ⟨x355, c356, rx355, tx355⟩ := hT.rdi (lo := (-100)) (hi := 10) (k := 19) kM_at0 (by decide) rfl
      refine tk_Vi hC hK hw hT hA hE hSR kM_at0 (by decide) rfl (k_X12_tested_2 l adK adV dC dI cy ad B (by omega) (by omega) qr s1    w345 H.size hT c348 f1_ c349 (show 0 ≤ f1_.toInt by omega) (show f1_.toInt ≤ 60 by omega) x355 c356 (show (-100) ≤ x355.toInt by omega) (show x355.toInt ≤ 10 by omega) x353 c354 (show 0 ≤ x353.toInt by omega) (show x353.toInt ≤ 400 by omega) f2_ c350 (show 0 ≤ f2_.toInt by omega) (show f2_.toInt ≤ 400 by omega) (show 3 * f2_.toInt ≤ 14 * f1_.toInt by omega) (show f2_.toInt ≤ 280 by omega)) (cwV 0 hC.2.2.2.2 gX12_isDoingHere_X12_tested rfl rfl rfl (by decide +kernel) ⟨Nat.le_of_ble_eq_true rfl, Nat.le_of_ble_eq_true rfl⟩) rfl hl.1 rfl (Nat.le_of_ble_eq_true rfl) dX12_isDoingHere_68 (fun r357 w359 H locs hp358 hw => ?_)
      obtain ⟨hT, k360, hg384⟩ := hp358
      have hF := hF.tr k360 (by decide)
      have c385 := k360.gi kM_at0 (by decide) c348
      have c386 := k360.gi kM_at5 (by decide) c351
      have c387 := k360.gi kM_at0 (by decide) c352
      rcases hg384 with ⟨rfl, ⟨x361, c362, rx361, tx361⟩, ⟨x363, c364, rx363, tx363⟩, ⟨x365, c366, rx365, tx365⟩, ⟨x367, c368, rx367, tx367⟩⟩ | ⟨rfl, ⟨x369, c370, rx369, tx369⟩, ⟨x371, c372, rx371, tx371⟩, ⟨x373, c374, rx373, tx373⟩, ⟨x375, c376, rx375, tx375⟩⟩ | ⟨rfl, ⟨x377, c378, rx377, tx377⟩, ⟨x379, c380, rx379, tx379⟩, ⟨x381, c382, rx381, tx381⟩, g383⟩
      · have ex361 : x361.toInt = x51.toInt := by rw [← c387.symm.trans c362]
        have ex365 : x365.toInt = (1 : Int) := by rw [show x365 = 1 from c366.symm.trans c385]; decide
        obtain ⟨x388, c389, rx388, tx388⟩ := hT.rda (lo := 0) (hi := 400) (i := 1) kM_at3 rfl rfl (by decide)
        obtain ⟨x390, c391, rx390, tx390⟩ := hT.rdi (lo := 0) (hi := 60) (k := 18) kM_at0 (by decide) rfl
        obtain ⟨x392, c393, rx392, tx392⟩ := hT.rdi (lo := (-100)) (hi := 10) (k := 19) kM_at0 (by decide) rfl
        refine lv_if_ne (tgt := 76) hx hb dX12_isDoingHere_71 (by decide) (fun c => absurd (by decide) c) (fun _ => ?_)
        refine lv_iconst (v := 0) hx hb dX12_isDoingHere_74 (by decide) ?_
        exact tk_zret hC hr rfl hlocks hK ⟨hT, hF, (Or.inl ⟨rfl, ⟨x51, c387, (show 1 ≤ x51.toInt by omega), (show x51.toInt ≤ 400 by omega)⟩, ⟨x363, c364, (show 1 ≤ x363.toInt by omega), (show x363.toInt ≤ 3205 by omega)⟩, ⟨1, c385, (by decide), (by decide)⟩, ⟨x367, c368, (show 0 ≤ x367.toInt by omega), (show x367.toInt ≤ 399 by omega)⟩⟩)⟩ hw dX12_isDoingHere_75
      · have ex369 : x369.toInt = x51.toInt := by rw [← c387.symm.trans c370]
        have ex373 : x373.toInt = (1 : Int) := by rw [show x373 = 1 from c374.symm.trans c385]; decide
        obtain ⟨x394, c395, rx394, tx394⟩ := hT.rda (lo := 0) (hi := 400) (i := 1) kM_at3 rfl rfl (by decide)
        obtain ⟨x396, c397, rx396, tx396⟩ := hT.rdi (lo := 0) (hi := 60) (k := 18) kM_at0 (by decide) rfl
        obtain ⟨x398, c399, rx398, tx398⟩ := hT.rdi (lo := (-100)) (hi := 10) (k := 19) kM_at0 (by decide) rfl
        refine lv_if_ne (tgt := 76) hx hb dX12_isDoingHere_71 (by decide) (fun c => absurd (by decide) c) (fun _ => ?_)
        refine lv_iconst (v := 0) hx hb dX12_isDoingHere_74 (by decide) ?_
        exact tk_zret hC hr rfl hlocks hK ⟨hT, hF, (Or.inr (Or.inl ⟨rfl, ⟨x51, c387, (show 0 ≤ x51.toInt by omega), (show x51.toInt ≤ 400 by omega)⟩, ⟨x371, c372, (show 1 ≤ x371.toInt by omega), (show x371.toInt ≤ 3205 by omega)⟩, ⟨1, c385, (by decide), (by decide)⟩, ⟨x375, c376, (show 0 ≤ x375.toInt by omega), (show x375.toInt ≤ 399 by omega)⟩⟩))⟩ hw dX12_isDoingHere_75
      · have ex377 : x377.toInt = (1 : Int) := by rw [show x377 = 1 from c378.symm.trans c385]; decide
        obtain ⟨x400, c401, rx400, tx400⟩ := hT.rda (lo := 0) (hi := 400) (i := 1) kM_at3 rfl rfl (by decide)
        obtain ⟨x402, c403, rx402, tx402⟩ := hT.rdi (lo := 0) (hi := 60) (k := 18) kM_at0 (by decide) rfl
        have g383 : 3 * x400.toInt ≤ 14 * x402.toInt := by have q := g383; simp only [c401, c403] at q; omega
        refine lv_if_ne (tgt := 76) hx hb dX12_isDoingHere_71 (by decide) (fun _ => ?_) (fun c => absurd c (by decide))
        exact J76 x239 x51 x402 x400 H locs ls w359 (show 36 ≤ x239.toInt by omega) (show x239.toInt ≤ 69 by omega) (show x239.toInt = 3 * f3_.toInt + 36 by omega) (show 0 ≤ x51.toInt by omega) (show x51.toInt ≤ 400 by omega) (show 0 ≤ x402.toInt by omega) (show x402.toInt ≤ 60 by omega) (show 0 ≤ x400.toInt by omega) (show x400.toInt ≤ 400 by omega) (show 0 ≤ f3_.toInt by omega) (show f3_.toInt ≤ 11 by omega) (show 3 * x400.toInt ≤ 14 * x402.toInt by omega) (show f3_.toInt = f3_.toInt by omega) (show f3_.toInt ≤ 11 by omega)  hw hT hF c387 c385 c403 c401 c386 (lv_sub hl [1, 2, 0] rfl)
abbrev P_X12_isDoingHere_4 (ad : Nat → Nat) (cy : Nat → ClassId) (B : Int) (qr : Nat) (s1 : Int) (a1 : Int32) (w0 : va_W) : Int32 → va_W → Prop := fun r u => TW ksM ad cy B qr 12 u ∧ FE ksM [(12, 14, 14), (12, 15, 15), (12, 16, 16), (12, 18, 18), (12, 19, 19), (12, 22, 22), (61, 0, 2400), (62, 0, 7), (63, 0, 216), (64, 0, 6), (68, 0, 400)] w0 u ∧ ((r = 0 ∧ (∃ y : Int32, gi u 0 1 = y ∧ 1 ≤ y.toInt ∧ y.toInt ≤ 400) ∧ (∃ y : Int32, gi u 0 15 = y ∧ 1 ≤ y.toInt ∧ y.toInt ≤ 3205) ∧ (∃ y : Int32, gi u 0 17 = y ∧ 1 ≤ y.toInt ∧ y.toInt ≤ 1) ∧ (∃ y : Int32, gi u 0 22 = y ∧ 0 ≤ y.toInt ∧ y.toInt ≤ 399)) ∨ (r = 0 ∧ (∃ y : Int32, gi u 0 1 = y ∧ 0 ≤ y.toInt ∧ y.toInt ≤ 400) ∧ (∃ y : Int32, gi u 0 15 = y ∧ 1 ≤ y.toInt ∧ y.toInt ≤ 3205) ∧ (∃ y : Int32, gi u 0 17 = y ∧ 1 ≤ y.toInt ∧ y.toInt ≤ 1) ∧ (∃ y : Int32, gi u 0 22 = y ∧ 0 ≤ y.toInt ∧ y.toInt ≤ 399)) ∨ (r = 1 ∧ (∃ y : Int32, gi u 0 1 = y ∧ 0 ≤ y.toInt ∧ y.toInt ≤ 400) ∧ (∃ y : Int32, gi u 0 17 = y ∧ 1 ≤ y.toInt ∧ y.toInt ≤ 1) ∧ (3 * (gi u 3 1).toInt ≤ 14 * (gi u 0 18).toInt) ∧ ((gi u 5 1).toInt = (gi w0 5 1).toInt + 1)))
set_option maxHeartbeats 4000000 in
set_option maxRecDepth 100000 in
theorem k_X12_isDoingHere_4 (l : Launch) (adK adV : Nat → Nat) (dC : Nat → ClassId) (dI : Nat → Nat → Nat) (cy : Nat → ClassId) (ad : Nat → Nat) (B : Int) (hB0 : 100000 ≤ B) (hB1 : B ≤ 1073741824) (qr : Nat) (s1 : Int)  (a1 : Int32) (ra1 : 0 ≤ a1.toInt) (ta1 : a1.toInt ≤ 3) (w0 : va_W) (sz : Nat) (hT : TW ksM ad cy B qr 12 w0) (cf0_ : gi w0 0 17 = 1) (f1_ : Int32) (cf1_ : gi w0 0 18 = f1_) (rf1_ : 0 ≤ f1_.toInt) (tf1_ : f1_.toInt ≤ 60) (f2_ : Int32) (cf2_ : gi w0 3 1 = f2_) (rf2_ : 0 ≤ f2_.toInt) (tf2_ : f2_.toInt ≤ 400) (f3_ : Int32) (cf3_ : gi w0 5 1 = f3_) (rf3_ : 0 ≤ f3_.toInt) (tf3_ : f3_.toInt ≤ 12) (pr0_ : 3 * f2_.toInt ≤ 14 * f1_.toInt) (pr1_ : f2_.toInt ≤ 280) (pr2_ : f3_.toInt ≤ 11) : Met l yX12_isDoingHere wsX12_isDoingHere ({ frames := 10, cells := 0, slots := 0, locals := 210 }) (va_Pc [.ref (ad 0), .int a1] (wpreS adK adV dC dI cy sz w0)) (va_Qi (P_X12_isDoingHere_4 ad cy B qr s1 a1 w0) (fun u : va_W => wpost dC dI cy (va_A w0 sz) u) (va_A w0 sz)) 0 0 (va_A w0 sz) := by
  refine Met.ofW (cc := cX12_isDoingHere) (maxL := 3) (ret := (some .boolean)) (by decide) rfl ?_
  intro p e s m args below meth c s₁ Bk hml hv
  obtain ⟨rfl, ⟨hsz, hP, hK, hD0⟩, hE, hSR⟩ := hv
  have hx := Bk.exec
  have hb := Bk.bytes
  have hr := Bk.returns
  have hlocks := Bk.notSynchronized
  have hC : CallFix p m c cX12_isDoingHere 3 s _ wsX12_isDoingHere RX12 := ⟨hx, hb, hml, findClass_of_methodNamed Bk.named, atoms_spec (ws := wsX12_isDoingHere) Bk.pre⟩
  subst hsz
  have hD := hD0.self (sz := s.heap.size)
  generalize hAe : va_A w0 s.heap.size = A at hD hE ⊢
  have hA : ∀ q : Nat, s.heap.size ≤ q → A q := fun q h => by rw [← hAe]; exact Or.inr h
  have hw : Wd dC dI A s.heap s.heap [] w0 := ⟨hP, hD, va_S.rf⟩
  have hF : FE ksM [(12, 14, 14), (12, 15, 15), (12, 16, 16), (12, 18, 18), (12, 19, 19), (12, 22, 22), (61, 0, 2400), (62, 0, 7), (63, 0, 216), (64, 0, 6), (68, 0, 400)] w0 w0 := FE.rf
  have hl := lv_entry ([.ref (ad 0), .int a1]) (n := 3) (Nat.le_of_ble_eq_true rfl)
  rw [lg_entry_eq]
  generalize (lg_sl ([.ref (ad 0), .int a1]) ++ List.replicate (3 - (lg_sl ([.ref (ad 0), .int a1])).length) Slot.unset).toArray = ls at hl ⊢
  have hl : lv_has ls 3 [(0, .ref (ad 0)), (1, .int a1)] := hl
  generalize hloc : ([] : List Loc) = locs at hw ⊢
  have hinX12 : ∀ w ∈ u_ws RX12 TX12 42, w ∈ wsX12_isDoingHere := fun _ h => List.mem_cons_of_mem _ (List.mem_append_right _ (h))
  have J76 : ∀ (v76_2 : Int32) (f76_0_1 : Int32) (f76_0_18 : Int32) (f76_3_1 : Int32) (H : Heap) (locs : List Loc) (ls : Array Slot) (w1 : va_W), 0 ≤ a1.toInt → a1.toInt ≤ 3 → 36 ≤ v76_2.toInt → v76_2.toInt ≤ 69 → v76_2.toInt = 3 * f3_.toInt + 36 → 0 ≤ f76_0_1.toInt → f76_0_1.toInt ≤ 400 → 0 ≤ f76_0_18.toInt → f76_0_18.toInt ≤ 60 → 0 ≤ f76_3_1.toInt → f76_3_1.toInt ≤ 400 → 0 ≤ f3_.toInt → f3_.toInt ≤ 11 → (3 * f76_3_1.toInt ≤ 14 * f76_0_18.toInt) → (f3_.toInt = f3_.toInt) → (f3_.toInt ≤ 11) → Wd dC dI A s.heap H locs w1 → TW ksM ad cy B qr 12 w1 → FE ksM [(12, 14, 14), (12, 15, 15), (12, 16, 16), (12, 18, 18), (12, 19, 19), (12, 22, 22), (61, 0, 2400), (62, 0, 7), (63, 0, 216), (64, 0, 6), (68, 0, 400)] w0 w1 → gi w1 0 1 = f76_0_1 → gi w1 0 17 = 1 → gi w1 0 18 = f76_0_18 → gi w1 3 1 = f76_3_1 → gi w1 5 1 = f3_ → lv_has ls 3 [(0, .ref (ad 0)), (1, .int a1), (2, .int v76_2)] → W p l e ({ frames := 10, cells := 0, slots := 0, locals := 210 }) s m (List.toArray [.ref (ad 0), .int a1]) below meth c H locs 0 0 (MQ below (va_Qi (P_X12_isDoingHere_4 ad cy B qr s1 a1 w0) (fun u : va_W => wpost dC dI cy A u) A) (List.toArray [.ref (ad 0), .int a1]) s 0 0 A) (F0 m 76 ls []) := by
    intro v76_2 f76_0_1 f76_0_18 f76_3_1 H locs ls w1 r2 t3 r4 t5 l6 r7 t8 r11 t12 r14 t15 r17 t18 hcr76_0 hcr76_1 hcr76_2 hw hT hF c9 c10 c13 c16 c19 hl
    refine lv_aload_n hx hb dX12_isDoingHere_76 rfl (lv_at hl 0 rfl) ?_
    refine tk_getA hC hK hw hT hinX12 kM_at0 (by decide) rfl 5 (by decide) (List.mem_of_getElem? (i := 3) rfl) rfl rfl dX12_isDoingHere_77 ?_
    refine lv_iload_n hx hb dX12_isDoingHere_80 rfl (lv_at hl 2 rfl) ?_
    refine lv_iconst (v := 2) hx hb dX12_isDoingHere_81 (by decide) ?_
    refine lv_iadd hx hb dX12_isDoingHere_82 ?_
    refine lv_topi (fun x20 ex20 => ?_)
    have ex20 : x20.toInt = v76_2.toInt + (2 : Int) := by rw [ex20]; exact wk_add (show (-2147483648) ≤ v76_2.toInt + (2 : Int) by omega) (show v76_2.toInt + (2 : Int) ≤ 2147483647 by omega)
    refine lv_aload_n hx hb dX12_isDoingHere_83 rfl (lv_at hl 0 rfl) ?_
    refine tk_getA hC hK hw hT hinX12 kM_at0 (by decide) rfl 4 (by decide) (List.mem_of_getElem? (i := 5) rfl) rfl rfl dX12_isDoingHere_84 ?_
    refine lv_aload_n hx hb dX12_isDoingHere_87 rfl (lv_at hl 0 rfl) ?_
    refine tk_geti hC hK hw hT hinX12 kM_at0 (by decide) rfl 17 (by decide) (List.mem_of_getElem? (i := 1) rfl) rfl rfl dX12_isDoingHere_88 (fun x21 c22 rx21 tx21 => ?_)
    refine wk_top 1 (c22.symm.trans c10) ?_
    refine tk_iald hC hK hw hT kM_at3 rfl rfl (by decide) (by decide) dX12_isDoingHere_91 (fun x23 c24 rx23 tx23 => ?_)
    refine wk_top f76_3_1 (c24.symm.trans c16) ?_
    refine tk_iast hC hK hw hT kM_at4 (by decide) rfl rfl (show 0 ≤ x20.toInt by omega) (show x20.toInt < 216 by omega) (wk_i32 f76_3_1).1 (wk_i32 f76_3_1).2 dX12_isDoingHere_92 (fun H locs w25 hw hT k27 c26 => ?_)
    have hF := hF.put kM_at4 (inE_of (a := 0) (b := 216) (by decide) (show 0 ≤ x20.toInt.toNat by omega) (show x20.toInt.toNat ≤ 216 by omega)) k27
    have c28 := k27.gi (Or.inl (tk_ne kM_at0 kM_at4 (by decide))) c9
    have c29 := k27.gi (Or.inl (tk_ne kM_at0 kM_at4 (by decide))) c10
    have c30 := k27.gi (Or.inl (tk_ne kM_at0 kM_at4 (by decide))) c13
    have c31 := k27.gi (Or.inl (tk_ne kM_at3 kM_at4 (by decide))) c16
    have c32 := k27.gi (Or.inl (tk_ne kM_at5 kM_at4 (by decide))) c19
    refine lv_aload_n hx hb dX12_isDoingHere_93 rfl (lv_at hl 0 rfl) ?_
    refine tk_getA hC hK hw hT hinX12 kM_at0 (by decide) rfl 6 (by decide) (List.mem_of_getElem? (i := 2) rfl) rfl rfl dX12_isDoingHere_94 ?_
    refine lv_aload_n hx hb dX12_isDoingHere_97 rfl (lv_at hl 0 rfl) ?_
    refine tk_geti hC hK hw hT hinX12 kM_at0 (by decide) rfl 17 (by decide) (List.mem_of_getElem? (i := 1) rfl) rfl rfl dX12_isDoingHere_98 (fun x33 c34 rx33 tx33 => ?_)
    refine wk_top 1 (c34.symm.trans c29) ?_
    refine lv_dup2_11 hx hb dX12_isDoingHere_101 rfl rfl ?_
    refine tk_iald hC hK hw hT kM_at5 rfl rfl (by decide) (by decide) dX12_isDoingHere_102 (fun x35 c36 rx35 tx35 => ?_)
    refine wk_top f3_ (c36.symm.trans c32) ?_
    refine lv_iconst (v := 1) hx hb dX12_isDoingHere_103 (by decide) ?_
    refine lv_iadd hx hb dX12_isDoingHere_104 ?_
    refine lv_topi (fun x37 ex37 => ?_)
    have ex37 : x37.toInt = f3_.toInt + (1 : Int) := by rw [ex37]; exact wk_add (show (-2147483648) ≤ f3_.toInt + (1 : Int) by omega) (show f3_.toInt + (1 : Int) ≤ 2147483647 by omega)
    refine tk_iast hC hK hw hT kM_at5 (by decide) rfl rfl (by decide) (by decide) (show 0 ≤ x37.toInt by omega) (show x37.toInt ≤ 12 by omega) dX12_isDoingHere_105 (fun H locs w38 hw hT k40 c39 => ?_)
    have hF := hF.put kM_at5 (inE_of (a := 0) (b := 6) (by decide) (by decide) (by decide)) k40
    have c41 := k40.gi (Or.inl (tk_ne kM_at0 kM_at5 (by decide))) c28
    have c42 := k40.gi (Or.inl (tk_ne kM_at0 kM_at5 (by decide))) c29
    have c43 := k40.gi (Or.inl (tk_ne kM_at0 kM_at5 (by decide))) c30
    have c44 := k40.gi (Or.inl (tk_ne kM_at3 kM_at5 (by decide))) c31
    have c39 : gi w38 5 1 = x37 := c39
    refine lv_iconst (v := 1) hx hb dX12_isDoingHere_106 (by decide) ?_
    exact tk_zret hC hr rfl hlocks hK ⟨hT, hF, (Or.inr (Or.inr ⟨rfl, ⟨f76_0_1, c41, (show 0 ≤ f76_0_1.toInt by omega), (show f76_0_1.toInt ≤ 400 by omega)⟩, ⟨1, c42, (by decide), (by decide)⟩, (by simp only [c44, c43]; omega), (by simp only [cf3_, c39]; omega)⟩))⟩ hw dX12_isDoingHere_107
  refine lv_aload_n hx hb dX12_isDoingHere_0 rfl (lv_at hl 0 rfl) ?_
  refine tk_Vv hC hK hw hT hA hE hSR kM_at0 (by decide) rfl (k_X12_passWord_1 l adK adV dC dI cy ad B (by omega) (by omega) qr s1    w0 s.heap.size hT ) (cwV 0 hC.2.2.2.2 gX12_isDoingHere_X12_passWord rfl rfl rfl (by decide +kernel) ⟨Nat.le_of_ble_eq_true rfl, Nat.le_of_ble_eq_true rfl⟩) rfl hl.1 rfl (Nat.le_of_ble_eq_true rfl) dX12_isDoingHere_1 (fun w47 H locs hp46 hw => ?_)
  obtain ⟨hT, k48, hg55⟩ := hp46
  have hF := hF.tr k48 (by decide)
  have c56 := k48.gi kM_at0 (by decide) cf0_
  have c57 := k48.gi kM_at0 (by decide) cf1_
  have c58 := k48.gi kM_at3 (by decide) cf2_
  have c59 := k48.gi kM_at5 (by decide) cf3_
  rcases hg55 with ⟨⟨x49, c50, rx49, tx49⟩, ⟨x51, c52, rx51, tx51⟩⟩ | ⟨x53, c54, rx53, tx53⟩
  · refine lv_bipush (v := 36) hx hb dX12_isDoingHere_4 (by decide) ?_
    refine lv_aload_n hx hb dX12_isDoingHere_6 rfl (lv_at hl 0 rfl) ?_
    refine tk_geti hC hK hw hT hinX12 kM_at0 (by decide) rfl 17 (by decide) (List.mem_of_getElem? (i := 1) rfl) rfl rfl dX12_isDoingHere_7 (fun x60 c61 rx60 tx60 => ?_)
    refine wk_top 1 (c61.symm.trans c56) ?_
    refine lv_imul hx hb dX12_isDoingHere_10 ?_
    refine wk_top 36 (by decide) ?_
    refine lv_iconst (v := 3) hx hb dX12_isDoingHere_11 (by decide) ?_
    refine lv_aload_n hx hb dX12_isDoingHere_12 rfl (lv_at hl 0 rfl) ?_
    refine tk_getA hC hK hw hT hinX12 kM_at0 (by decide) rfl 6 (by decide) (List.mem_of_getElem? (i := 2) rfl) rfl rfl dX12_isDoingHere_13 ?_
    refine lv_aload_n hx hb dX12_isDoingHere_16 rfl (lv_at hl 0 rfl) ?_
    refine tk_geti hC hK hw hT hinX12 kM_at0 (by decide) rfl 17 (by decide) (List.mem_of_getElem? (i := 1) rfl) rfl rfl dX12_isDoingHere_17 (fun x62 c63 rx62 tx62 => ?_)
    refine wk_top 1 (c63.symm.trans c56) ?_
    refine tk_iald hC hK hw hT kM_at5 rfl rfl (by decide) (by decide) dX12_isDoingHere_20 (fun x64 c65 rx64 tx64 => ?_)
    refine wk_top f3_ (c65.symm.trans c59) ?_
    refine lv_imul hx hb dX12_isDoingHere_21 ?_
    refine lv_topi (fun x66 ex66 => ?_)
    have ex66 : x66.toInt = (3 : Int) * f3_.toInt := by rw [ex66]; exact wk_mul (show (-2147483648) ≤ (3 : Int) * f3_.toInt by omega) (show (3 : Int) * f3_.toInt ≤ 2147483647 by omega)
    refine lv_iadd hx hb dX12_isDoingHere_22 ?_
    refine lv_topi (fun x67 ex67 => ?_)
    have ex67 : x67.toInt = (36 : Int) + x66.toInt := by rw [ex67]; exact wk_add (show (-2147483648) ≤ (36 : Int) + x66.toInt by omega) (show (36 : Int) + x66.toInt ≤ 2147483647 by omega)
    refine lv_istore_n (lv' := [(2, .int x67), (0, .ref (ad 0)), (1, .int a1)]) hx hb dX12_isDoingHere_23 rfl hl (by decide) rfl (fun ls hl => ?_)
    refine lv_aload_n hx hb dX12_isDoingHere_24 rfl (lv_at hl 1 rfl) ?_
    refine tk_getA hC hK hw hT hinX12 kM_at0 (by decide) rfl 5 (by decide) (List.mem_of_getElem? (i := 3) rfl) rfl rfl dX12_isDoingHere_25 ?_
    refine lv_iload_n hx hb dX12_isDoingHere_28 rfl (lv_at hl 0 rfl) ?_
    refine lv_iload_n hx hb dX12_isDoingHere_29 rfl (lv_at hl 2 rfl) ?_
    refine tk_iast hC hK hw hT kM_at4 (by decide) rfl rfl (show 0 ≤ x67.toInt by omega) (show x67.toInt < 216 by omega) (wk_i32 a1).1 (wk_i32 a1).2 dX12_isDoingHere_30 (fun H locs w68 hw hT k70 c69 => ?_)
    have hF := hF.put kM_at4 (inE_of (a := 0) (b := 216) (by decide) (show 0 ≤ x67.toInt.toNat by omega) (show x67.toInt.toNat ≤ 216 by omega)) k70
    have c71 := k70.gi (Or.inl (tk_ne kM_at0 kM_at4 (by decide))) c56
    have c72 := k70.gi (Or.inl (tk_ne kM_at0 kM_at4 (by decide))) c57
    have c73 := k70.gi (Or.inl (tk_ne kM_at3 kM_at4 (by decide))) c58
    have c74 := k70.gi (Or.inl (tk_ne kM_at5 kM_at4 (by decide))) c59
    have c75 := k70.gi (Or.inl (tk_ne kM_at0 kM_at4 (by decide))) c50
    have c76 := k70.gi (Or.inl (tk_ne kM_at0 kM_at4 (by decide))) c52
    refine lv_aload_n hx hb dX12_isDoingHere_31 rfl (lv_at hl 1 rfl) ?_
    refine tk_getA hC hK hw hT hinX12 kM_at0 (by decide) rfl 5 (by decide) (List.mem_of_getElem? (i := 3) rfl) rfl rfl dX12_isDoingHere_32 ?_
    refine lv_iload_n hx hb dX12_isDoingHere_35 rfl (lv_at hl 0 rfl) ?_
    refine lv_iconst (v := 1) hx hb dX12_isDoingHere_36 (by decide) ?_
    refine lv_iadd hx hb dX12_isDoingHere_37 ?_
    refine lv_topi (fun x77 ex77 => ?_)
    have ex77 : x77.toInt = x67.toInt + (1 : Int) := by rw [ex77]; exact wk_add (show (-2147483648) ≤ x67.toInt + (1 : Int) by omega) (show x67.toInt + (1 : Int) ≤ 2147483647 by omega)
    refine lv_iconst (v := (-1)) hx hb dX12_isDoingHere_38 (by decide) ?_
    refine tk_iast hC hK hw hT kM_at4 (by decide) rfl rfl (show 0 ≤ x77.toInt by omega) (show x77.toInt < 216 by omega) (by decide) (by decide) dX12_isDoingHere_39 (fun H locs w78 hw hT k80 c79 => ?_)
    have hF := hF.put kM_at4 (inE_of (a := 0) (b := 216) (by decide) (show 0 ≤ x77.toInt.toNat by omega) (show x77.toInt.toNat ≤ 216 by omega)) k80
    have c81 := k80.gi (Or.inl (tk_ne kM_at0 kM_at4 (by decide))) c71
    have c82 := k80.gi (Or.inl (tk_ne kM_at0 kM_at4 (by decide))) c72
    have c83 := k80.gi (Or.inl (tk_ne kM_at3 kM_at4 (by decide))) c73
    have c84 := k80.gi (Or.inl (tk_ne kM_at5 kM_at4 (by decide))) c74
    have c85 := k80.gi (Or.inl (tk_ne kM_at0 kM_at4 (by decide))) c75
    have c86 := k80.gi (Or.inl (tk_ne kM_at0 kM_at4 (by decide))) c76
    refine lv_aload_n hx hb dX12_isDoingHere_40 rfl (lv_at hl 1 rfl) ?_
    refine lv_ldc2 (v := 26982) hx hb hC.2.2.2.1 (hC.2.2.2.2 _ (List.mem_of_getElem? (i := 4) rfl)) dX12_isDoingHere_41 ?_
    refine tk_Vi hC hK hw hT hA hE hSR kM_at0 (by decide) rfl (k_X12_takesWord_1 l adK adV dC dI cy ad B (by omega) (by omega) qr s1    w78 H.size hT ) (cwV 1 hC.2.2.2.2 gX12_isDoingHere_X12_takesWord rfl rfl rfl (by decide +kernel) ⟨Nat.le_of_ble_eq_true rfl, Nat.le_of_ble_eq_true rfl⟩) rfl hl.1 rfl (Nat.le_of_ble_eq_true rfl) dX12_isDoingHere_44 (fun r87 w89 H locs hp88 hw => ?_)
    obtain ⟨hT, k90, hg99⟩ := hp88
    have hF := hF.tr k90 (by decide)
    have c100 := k90.gi kM_at0 (by decide) c81
    have c101 := k90.gi kM_at0 (by decide) c82
    have c102 := k90.gi kM_at3 (by decide) c83
    have c103 := k90.gi kM_at5 (by decide) c84
    have c104 := k90.gi kM_at0 (by decide) c85
    rcases hg99 with ⟨rfl, ⟨x91, c92, rx91, tx91⟩⟩ | ⟨rfl, ⟨x93, c94, rx93, tx93⟩, ⟨x95, c96, rx95, tx95⟩⟩ | ⟨rfl, ⟨x97, c98, rx97, tx97⟩⟩
    · have ex91 : x91.toInt = x49.toInt := by rw [← c104.symm.trans c92]
      refine lv_if_eq (tgt := 76) hx hb dX12_isDoingHere_47 (by decide) (fun _ => ?_) (fun c => absurd (by decide) c)
      exact J76 x67 x49 f1_ f2_ H locs ls w89 (show 0 ≤ a1.toInt by omega) (show a1.toInt ≤ 3 by omega) (show 36 ≤ x67.toInt by omega) (show x67.toInt ≤ 69 by omega) (show x67.toInt = 3 * f3_.toInt + 36 by omega) (show 0 ≤ x49.toInt by omega) (show x49.toInt ≤ 400 by omega) (show 0 ≤ f1_.toInt by omega) (show f1_.toInt ≤ 60 by omega) (show 0 ≤ f2_.toInt by omega) (show f2_.toInt ≤ 400 by omega) (show 0 ≤ f3_.toInt by omega) (show f3_.toInt ≤ 11 by omega) (show 3 * f2_.toInt ≤ 14 * f1_.toInt by omega) (show f3_.toInt = f3_.toInt by omega) (show f3_.toInt ≤ 11 by omega)  hw hT hF c104 c100 c101 c102 c103 (lv_sub hl [1, 2, 0] rfl)
    · have ex93 : x93.toInt = x49.toInt := by rw [← c104.symm.trans c94]
      refine lv_if_eq (tgt := 76) hx hb dX12_isDoingHere_47 (by decide) (fun c => absurd c (by decide)) (fun _ => ?_)
      refine lv_aload_n hx hb dX12_isDoingHere_50 rfl (lv_at hl 1 rfl) ?_
      refine tk_getA hC hK hw hT hinX12 kM_at0 (by decide) rfl 5 (by decide) (List.mem_of_getElem? (i := 3) rfl) rfl rfl dX12_isDoingHere_51 ?_
      refine lv_iload_n hx hb dX12_isDoingHere_54 rfl (lv_at hl 0 rfl) ?_
      refine lv_iconst (v := 1) hx hb dX12_isDoingHere_55 (by decide) ?_
      refine lv_iadd hx hb dX12_isDoingHere_56 ?_
      refine lv_topi (fun x105 ex105 => ?_)
      have ex105 : x105.toInt = x67.toInt + (1 : Int) := by rw [ex105]; exact wk_add (show (-2147483648) ≤ x67.toInt + (1 : Int) by omega) (show x67.toInt + (1 : Int) ≤ 2147483647 by omega)
      refine lv_aload_n hx hb dX12_isDoingHere_57 rfl (lv_at hl 1 rfl) ?_
      refine tk_getA hC hK hw hT hinX12 kM_at0 (by decide) rfl 4 (by decide) (List.mem_of_getElem? (i := 5) rfl) rfl rfl dX12_isDoingHere_58 ?_
      refine lv_aload_n hx hb dX12_isDoingHere_61 rfl (lv_at hl 1 rfl) ?_
      refine tk_geti hC hK hw hT hinX12 kM_at0 (by decide) rfl 17 (by decide) (List.mem_of_getElem? (i := 1) rfl) rfl rfl dX12_isDoingHere_62 (fun x106 c107 rx106 tx106 => ?_)
      refine wk_top 1 (c107.symm.trans c100) ?_
      refine tk_iald hC hK hw hT kM_at3 rfl rfl (by decide) (by decide) dX12_isDoingHere_65 (fun x108 c109 rx108 tx108 => ?_)
      refine wk_top f2_ (c109.symm.trans c102) ?_
      refine tk_iast hC hK hw hT kM_at4 (by decide) rfl rfl (show 0 ≤ x105.toInt by omega) (show x105.toInt < 216 by omega) (wk_i32 f2_).1 (wk_i32 f2_).2 dX12_isDoingHere_66 (fun H locs w110 hw hT k112 c111 => ?_)
      have hF := hF.put kM_at4 (inE_of (a := 0) (b := 216) (by decide) (show 0 ≤ x105.toInt.toNat by omega) (show x105.toInt.toNat ≤ 216 by omega)) k112
      have c113 := k112.gi (Or.inl (tk_ne kM_at0 kM_at4 (by decide))) c100
      have c114 := k112.gi (Or.inl (tk_ne kM_at0 kM_at4 (by decide))) c101
      have c115 := k112.gi (Or.inl (tk_ne kM_at3 kM_at4 (by decide))) c102
      have c116 := k112.gi (Or.inl (tk_ne kM_at5 kM_at4 (by decide))) c103
      have c117 := k112.gi (Or.inl (tk_ne kM_at0 kM_at4 (by decide))) c104
      have c118 := k112.gi (Or.inl (tk_ne kM_at0 kM_at4 (by decide))) c96
      refine lv_aload_n hx hb dX12_isDoingHere_67 rfl (lv_at hl 1 rfl) ?_
      obtain ⟨x119, c120, rx119, tx119⟩ := hT.rdi (lo := 0) (hi := 400) (k := 22) kM_at0 (by decide) rfl
      obtain ⟨x121, c122, rx121, tx121⟩ := hT.rdi (lo := (-100)) (hi := 10) (k := 19) kM_at0 (by decide) rfl
      refine tk_Vi hC hK hw hT hA hE hSR kM_at0 (by decide) rfl (k_X12_tested_2 l adK adV dC dI cy ad B (by omega) (by omega) qr s1    w110 H.size hT c113 f1_ c114 (show 0 ≤ f1_.toInt by omega) (show f1_.toInt ≤ 60 by omega) x121 c122 (show (-100) ≤ x121.toInt by omega) (show x121.toInt ≤ 10 by omega) x119 c120 (show 0 ≤ x119.toInt by omega) (show x119.toInt ≤ 400 by omega) f2_ c115 (show 0 ≤ f2_.toInt by omega) (show f2_.toInt ≤ 400 by omega) (show 3 * f2_.toInt ≤ 14 * f1_.toInt by omega) (show f2_.toInt ≤ 280 by omega)) (cwV 0 hC.2.2.2.2 gX12_isDoingHere_X12_tested rfl rfl rfl (by decide +kernel) ⟨Nat.le_of_ble_eq_true rfl, Nat.le_of_ble_eq_true rfl⟩) rfl hl.1 rfl (Nat.le_of_ble_eq_true rfl) dX12_isDoingHere_68 (fun r123 w125 H locs hp124 hw => ?_)
      obtain ⟨hT, k126, hg150⟩ := hp124
      have hF := hF.tr k126 (by decide)
      have c151 := k126.gi kM_at0 (by decide) c113
      have c152 := k126.gi kM_at5 (by decide) c116
      have c153 := k126.gi kM_at0 (by decide) c117
      rcases hg150 with ⟨rfl, ⟨x127, c128, rx127, tx127⟩, ⟨x129, c130, rx129, tx129⟩, ⟨x131, c132, rx131, tx131⟩, ⟨x133, c134, rx133, tx133⟩⟩ | ⟨rfl, ⟨x135, c136, rx135, tx135⟩, ⟨x137, c138, rx137, tx137⟩, ⟨x139, c140, rx139, tx139⟩, ⟨x141, c142, rx141, tx141⟩⟩ | ⟨rfl, ⟨x143, c144, rx143, tx143⟩, ⟨x145, c146, rx145, tx145⟩, ⟨x147, c148, rx147, tx147⟩, g149⟩
      · have ex127 : x127.toInt = x49.toInt := by rw [← c153.symm.trans c128]
        have ex131 : x131.toInt = (1 : Int) := by rw [show x131 = 1 from c132.symm.trans c151]; decide
        obtain ⟨x154, c155, rx154, tx154⟩ := hT.rda (lo := 0) (hi := 400) (i := 1) kM_at3 rfl rfl (by decide)
        obtain ⟨x156, c157, rx156, tx156⟩ := hT.rdi (lo := 0) (hi := 60) (k := 18) kM_at0 (by decide) rfl
        obtain ⟨x158, c159, rx158, tx158⟩ := hT.rdi (lo := (-100)) (hi := 10) (k := 19) kM_at0 (by decide) rfl
        refine lv_if_ne (tgt := 76) hx hb dX12_isDoingHere_71 (by decide) (fun c => absurd (by decide) c) (fun _ => ?_)
        refine lv_iconst (v := 0) hx hb dX12_isDoingHere_74 (by decide) ?_
        exact tk_zret hC hr rfl hlocks hK ⟨hT, hF, (Or.inl ⟨rfl, ⟨x49, c153, (show 1 ≤ x49.toInt by omega), (show x49.toInt ≤ 400 by omega)⟩, ⟨x129, c130, (show 1 ≤ x129.toInt by omega), (show x129.toInt ≤ 3205 by omega)⟩, ⟨1, c151, (by decide), (by decide)⟩, ⟨x133, c134, (show 0 ≤ x133.toInt by omega), (show x133.toInt ≤ 399 by omega)⟩⟩)⟩ hw dX12_isDoingHere_75
      · have ex135 : x135.toInt = x49.toInt := by rw [← c153.symm.trans c136]
        have ex139 : x139.toInt = (1 : Int) := by rw [show x139 = 1 from c140.symm.trans c151]; decide
        obtain ⟨x160, c161, rx160, tx160⟩ := hT.rda (lo := 0) (hi := 400) (i := 1) kM_at3 rfl rfl (by decide)
        obtain ⟨x162, c163, rx162, tx162⟩ := hT.rdi (lo := 0) (hi := 60) (k := 18) kM_at0 (by decide) rfl
        obtain ⟨x164, c165, rx164, tx164⟩ := hT.rdi (lo := (-100)) (hi := 10) (k := 19) kM_at0 (by decide) rfl
        refine lv_if_ne (tgt := 76) hx hb dX12_isDoingHere_71 (by decide) (fun c => absurd (by decide) c) (fun _ => ?_)
        refine lv_iconst (v := 0) hx hb dX12_isDoingHere_74 (by decide) ?_
        exact tk_zret hC hr rfl hlocks hK ⟨hT, hF, (Or.inl ⟨rfl, ⟨x49, c153, (show 1 ≤ x49.toInt by omega), (show x49.toInt ≤ 400 by omega)⟩, ⟨x137, c138, (show 1 ≤ x137.toInt by omega), (show x137.toInt ≤ 3205 by omega)⟩, ⟨1, c151, (by decide), (by decide)⟩, ⟨x141, c142, (show 0 ≤ x141.toInt by omega), (show x141.toInt ≤ 399 by omega)⟩⟩)⟩ hw dX12_isDoingHere_75
      · have ex143 : x143.toInt = (1 : Int) := by rw [show x143 = 1 from c144.symm.trans c151]; decide
        obtain ⟨x166, c167, rx166, tx166⟩ := hT.rda (lo := 0) (hi := 400) (i := 1) kM_at3 rfl rfl (by decide)
        obtain ⟨x168, c169, rx168, tx168⟩ := hT.rdi (lo := 0) (hi := 60) (k := 18) kM_at0 (by decide) rfl
        have g149 : 3 * x166.toInt ≤ 14 * x168.toInt := by have q := g149; simp only [c167, c169] at q; omega
        refine lv_if_ne (tgt := 76) hx hb dX12_isDoingHere_71 (by decide) (fun _ => ?_) (fun c => absurd c (by decide))
        exact J76 x67 x49 x168 x166 H locs ls w125 (show 0 ≤ a1.toInt by omega) (show a1.toInt ≤ 3 by omega) (show 36 ≤ x67.toInt by omega) (show x67.toInt ≤ 69 by omega) (show x67.toInt = 3 * f3_.toInt + 36 by omega) (show 0 ≤ x49.toInt by omega) (show x49.toInt ≤ 400 by omega) (show 0 ≤ x168.toInt by omega) (show x168.toInt ≤ 60 by omega) (show 0 ≤ x166.toInt by omega) (show x166.toInt ≤ 400 by omega) (show 0 ≤ f3_.toInt by omega) (show f3_.toInt ≤ 11 by omega) (show 3 * x166.toInt ≤ 14 * x168.toInt by omega) (show f3_.toInt = f3_.toInt by omega) (show f3_.toInt ≤ 11 by omega)  hw hT hF c153 c151 c169 c167 c152 (lv_sub hl [1, 2, 0] rfl)
    · have ex97 : x97.toInt = x49.toInt := by rw [← c104.symm.trans c98]
      refine lv_if_eq (tgt := 76) hx hb dX12_isDoingHere_47 (by decide) (fun c => absurd c (by decide)) (fun _ => ?_)
      refine lv_aload_n hx hb dX12_isDoingHere_50 rfl (lv_at hl 1 rfl) ?_
      refine tk_getA hC hK hw hT hinX12 kM_at0 (by decide) rfl 5 (by decide) (List.mem_of_getElem? (i := 3) rfl) rfl rfl dX12_isDoingHere_51 ?_
      refine lv_iload_n hx hb dX12_isDoingHere_54 rfl (lv_at hl 0 rfl) ?_
      refine lv_iconst (v := 1) hx hb dX12_isDoingHere_55 (by decide) ?_
      refine lv_iadd hx hb dX12_isDoingHere_56 ?_
      refine lv_topi (fun x170 ex170 => ?_)
      have ex170 : x170.toInt = x67.toInt + (1 : Int) := by rw [ex170]; exact wk_add (show (-2147483648) ≤ x67.toInt + (1 : Int) by omega) (show x67.toInt + (1 : Int) ≤ 2147483647 by omega)
      refine lv_aload_n hx hb dX12_isDoingHere_57 rfl (lv_at hl 1 rfl) ?_
      refine tk_getA hC hK hw hT hinX12 kM_at0 (by decide) rfl 4 (by decide) (List.mem_of_getElem? (i := 5) rfl) rfl rfl dX12_isDoingHere_58 ?_
      refine lv_aload_n hx hb dX12_isDoingHere_61 rfl (lv_at hl 1 rfl) ?_
      refine tk_geti hC hK hw hT hinX12 kM_at0 (by decide) rfl 17 (by decide) (List.mem_of_getElem? (i := 1) rfl) rfl rfl dX12_isDoingHere_62 (fun x171 c172 rx171 tx171 => ?_)
      refine wk_top 1 (c172.symm.trans c100) ?_
      refine tk_iald hC hK hw hT kM_at3 rfl rfl (by decide) (by decide) dX12_isDoingHere_65 (fun x173 c174 rx173 tx173 => ?_)
      refine wk_top f2_ (c174.symm.trans c102) ?_
      refine tk_iast hC hK hw hT kM_at4 (by decide) rfl rfl (show 0 ≤ x170.toInt by omega) (show x170.toInt < 216 by omega) (wk_i32 f2_).1 (wk_i32 f2_).2 dX12_isDoingHere_66 (fun H locs w175 hw hT k177 c176 => ?_)
      have hF := hF.put kM_at4 (inE_of (a := 0) (b := 216) (by decide) (show 0 ≤ x170.toInt.toNat by omega) (show x170.toInt.toNat ≤ 216 by omega)) k177
      have c178 := k177.gi (Or.inl (tk_ne kM_at0 kM_at4 (by decide))) c100
      have c179 := k177.gi (Or.inl (tk_ne kM_at0 kM_at4 (by decide))) c101
      have c180 := k177.gi (Or.inl (tk_ne kM_at3 kM_at4 (by decide))) c102
      have c181 := k177.gi (Or.inl (tk_ne kM_at5 kM_at4 (by decide))) c103
      have c182 := k177.gi (Or.inl (tk_ne kM_at0 kM_at4 (by decide))) c104
      refine lv_aload_n hx hb dX12_isDoingHere_67 rfl (lv_at hl 1 rfl) ?_
      obtain ⟨x183, c184, rx183, tx183⟩ := hT.rdi (lo := 0) (hi := 400) (k := 22) kM_at0 (by decide) rfl
      obtain ⟨x185, c186, rx185, tx185⟩ := hT.rdi (lo := (-100)) (hi := 10) (k := 19) kM_at0 (by decide) rfl
      refine tk_Vi hC hK hw hT hA hE hSR kM_at0 (by decide) rfl (k_X12_tested_2 l adK adV dC dI cy ad B (by omega) (by omega) qr s1    w175 H.size hT c178 f1_ c179 (show 0 ≤ f1_.toInt by omega) (show f1_.toInt ≤ 60 by omega) x185 c186 (show (-100) ≤ x185.toInt by omega) (show x185.toInt ≤ 10 by omega) x183 c184 (show 0 ≤ x183.toInt by omega) (show x183.toInt ≤ 400 by omega) f2_ c180 (show 0 ≤ f2_.toInt by omega) (show f2_.toInt ≤ 400 by omega) (show 3 * f2_.toInt ≤ 14 * f1_.toInt by omega) (show f2_.toInt ≤ 280 by omega)) (cwV 0 hC.2.2.2.2 gX12_isDoingHere_X12_tested rfl rfl rfl (by decide +kernel) ⟨Nat.le_of_ble_eq_true rfl, Nat.le_of_ble_eq_true rfl⟩) rfl hl.1 rfl (Nat.le_of_ble_eq_true rfl) dX12_isDoingHere_68 (fun r187 w189 H locs hp188 hw => ?_)
      obtain ⟨hT, k190, hg214⟩ := hp188
      have hF := hF.tr k190 (by decide)
      have c215 := k190.gi kM_at0 (by decide) c178
      have c216 := k190.gi kM_at5 (by decide) c181
      have c217 := k190.gi kM_at0 (by decide) c182
      rcases hg214 with ⟨rfl, ⟨x191, c192, rx191, tx191⟩, ⟨x193, c194, rx193, tx193⟩, ⟨x195, c196, rx195, tx195⟩, ⟨x197, c198, rx197, tx197⟩⟩ | ⟨rfl, ⟨x199, c200, rx199, tx199⟩, ⟨x201, c202, rx201, tx201⟩, ⟨x203, c204, rx203, tx203⟩, ⟨x205, c206, rx205, tx205⟩⟩ | ⟨rfl, ⟨x207, c208, rx207, tx207⟩, ⟨x209, c210, rx209, tx209⟩, ⟨x211, c212, rx211, tx211⟩, g213⟩
      · have ex191 : x191.toInt = x49.toInt := by rw [← c217.symm.trans c192]
        have ex195 : x195.toInt = (1 : Int) := by rw [show x195 = 1 from c196.symm.trans c215]; decide
        obtain ⟨x218, c219, rx218, tx218⟩ := hT.rda (lo := 0) (hi := 400) (i := 1) kM_at3 rfl rfl (by decide)
        obtain ⟨x220, c221, rx220, tx220⟩ := hT.rdi (lo := 0) (hi := 60) (k := 18) kM_at0 (by decide) rfl
        obtain ⟨x222, c223, rx222, tx222⟩ := hT.rdi (lo := (-100)) (hi := 10) (k := 19) kM_at0 (by decide) rfl
        refine lv_if_ne (tgt := 76) hx hb dX12_isDoingHere_71 (by decide) (fun c => absurd (by decide) c) (fun _ => ?_)
        refine lv_iconst (v := 0) hx hb dX12_isDoingHere_74 (by decide) ?_
        exact tk_zret hC hr rfl hlocks hK ⟨hT, hF, (Or.inl ⟨rfl, ⟨x49, c217, (show 1 ≤ x49.toInt by omega), (show x49.toInt ≤ 400 by omega)⟩, ⟨x193, c194, (show 1 ≤ x193.toInt by omega), (show x193.toInt ≤ 3205 by omega)⟩, ⟨1, c215, (by decide), (by decide)⟩, ⟨x197, c198, (show 0 ≤ x197.toInt by omega), (show x197.toInt ≤ 399 by omega)⟩⟩)⟩ hw dX12_isDoingHere_75
      · have ex199 : x199.toInt = x49.toInt := by rw [← c217.symm.trans c200]
        have ex203 : x203.toInt = (1 : Int) := by rw [show x203 = 1 from c204.symm.trans c215]; decide
        obtain ⟨x224, c225, rx224, tx224⟩ := hT.rda (lo := 0) (hi := 400) (i := 1) kM_at3 rfl rfl (by decide)
        obtain ⟨x226, c227, rx226, tx226⟩ := hT.rdi (lo := 0) (hi := 60) (k := 18) kM_at0 (by decide) rfl
        obtain ⟨x228, c229, rx228, tx228⟩ := hT.rdi (lo := (-100)) (hi := 10) (k := 19) kM_at0 (by decide) rfl
        refine lv_if_ne (tgt := 76) hx hb dX12_isDoingHere_71 (by decide) (fun c => absurd (by decide) c) (fun _ => ?_)
        refine lv_iconst (v := 0) hx hb dX12_isDoingHere_74 (by decide) ?_
        exact tk_zret hC hr rfl hlocks hK ⟨hT, hF, (Or.inl ⟨rfl, ⟨x49, c217, (show 1 ≤ x49.toInt by omega), (show x49.toInt ≤ 400 by omega)⟩, ⟨x201, c202, (show 1 ≤ x201.toInt by omega), (show x201.toInt ≤ 3205 by omega)⟩, ⟨1, c215, (by decide), (by decide)⟩, ⟨x205, c206, (show 0 ≤ x205.toInt by omega), (show x205.toInt ≤ 399 by omega)⟩⟩)⟩ hw dX12_isDoingHere_75
      · have ex207 : x207.toInt = (1 : Int) := by rw [show x207 = 1 from c208.symm.trans c215]; decide
        obtain ⟨x230, c231, rx230, tx230⟩ := hT.rda (lo := 0) (hi := 400) (i := 1) kM_at3 rfl rfl (by decide)
        obtain ⟨x232, c233, rx232, tx232⟩ := hT.rdi (lo := 0) (hi := 60) (k := 18) kM_at0 (by decide) rfl
        have g213 : 3 * x230.toInt ≤ 14 * x232.toInt := by have q := g213; simp only [c231, c233] at q; omega
        refine lv_if_ne (tgt := 76) hx hb dX12_isDoingHere_71 (by decide) (fun _ => ?_) (fun c => absurd c (by decide))
        exact J76 x67 x49 x232 x230 H locs ls w189 (show 0 ≤ a1.toInt by omega) (show a1.toInt ≤ 3 by omega) (show 36 ≤ x67.toInt by omega) (show x67.toInt ≤ 69 by omega) (show x67.toInt = 3 * f3_.toInt + 36 by omega) (show 0 ≤ x49.toInt by omega) (show x49.toInt ≤ 400 by omega) (show 0 ≤ x232.toInt by omega) (show x232.toInt ≤ 60 by omega) (show 0 ≤ x230.toInt by omega) (show x230.toInt ≤ 400 by omega) (show 0 ≤ f3_.toInt by omega) (show f3_.toInt ≤ 11 by omega) (show 3 * x230.toInt ≤ 14 * x232.toInt by omega) (show f3_.toInt = f3_.toInt by omega) (show f3_.toInt ≤ 11 by omega)  hw hT hF c217 c215 c233 c231 c216 (lv_sub hl [1, 2, 0] rfl)
  · refine lv_bipush (v := 36) hx hb dX12_isDoingHere_4 (by decide) ?_
    refine lv_aload_n hx hb dX12_isDoingHere_6 rfl (lv_at hl 0 rfl) ?_
    refine tk_geti hC hK hw hT hinX12 kM_at0 (by decide) rfl 17 (by decide) (List.mem_of_getElem? (i := 1) rfl) rfl rfl dX12_isDoingHere_7 (fun x234 c235 rx234 tx234 => ?_)
    refine wk_top 1 (c235.symm.trans c56) ?_
    refine lv_imul hx hb dX12_isDoingHere_10 ?_
    refine wk_top 36 (by decide) ?_
    refine lv_iconst (v := 3) hx hb dX12_isDoingHere_11 (by decide) ?_
    refine lv_aload_n hx hb dX12_isDoingHere_12 rfl (lv_at hl 0 rfl) ?_
    refine tk_getA hC hK hw hT hinX12 kM_at0 (by decide) rfl 6 (by decide) (List.mem_of_getElem? (i := 2) rfl) rfl rfl dX12_isDoingHere_13 ?_
    refine lv_aload_n hx hb dX12_isDoingHere_16 rfl (lv_at hl 0 rfl) ?_
    refine tk_geti hC hK hw hT hinX12 kM_at0 (by decide) rfl 17 (by decide) (List.mem_of_getElem? (i := 1) rfl) rfl rfl dX12_isDoingHere_17 (fun x236 c237 rx236 tx236 => ?_)
    refine wk_top 1 (c237.symm.trans c56) ?_
    refine tk_iald hC hK hw hT kM_at5 rfl rfl (by decide) (by decide) dX12_isDoingHere_20 (fun x238 c239 rx238 tx238 => ?_)
    refine wk_top f3_ (c239.symm.trans c59) ?_
    refine lv_imul hx hb dX12_isDoingHere_21 ?_
    refine lv_topi (fun x240 ex240 => ?_)
    have ex240 : x240.toInt = (3 : Int) * f3_.toInt := by rw [ex240]; exact wk_mul (show (-2147483648) ≤ (3 : Int) * f3_.toInt by omega) (show (3 : Int) * f3_.toInt ≤ 2147483647 by omega)
    refine lv_iadd hx hb dX12_isDoingHere_22 ?_
    refine lv_topi (fun x241 ex241 => ?_)
    have ex241 : x241.toInt = (36 : Int) + x240.toInt := by rw [ex241]; exact wk_add (show (-2147483648) ≤ (36 : Int) + x240.toInt by omega) (show (36 : Int) + x240.toInt ≤ 2147483647 by omega)
    refine lv_istore_n (lv' := [(2, .int x241), (0, .ref (ad 0)), (1, .int a1)]) hx hb dX12_isDoingHere_23 rfl hl (by decide) rfl (fun ls hl => ?_)
    refine lv_aload_n hx hb dX12_isDoingHere_24 rfl (lv_at hl 1 rfl) ?_
    refine tk_getA hC hK hw hT hinX12 kM_at0 (by decide) rfl 5 (by decide) (List.mem_of_getElem? (i := 3) rfl) rfl rfl dX12_isDoingHere_25 ?_
    refine lv_iload_n hx hb dX12_isDoingHere_28 rfl (lv_at hl 0 rfl) ?_
    refine lv_iload_n hx hb dX12_isDoingHere_29 rfl (lv_at hl 2 rfl) ?_
    refine tk_iast hC hK hw hT kM_at4 (by decide) rfl rfl (show 0 ≤ x241.toInt by omega) (show x241.toInt < 216 by omega) (wk_i32 a1).1 (wk_i32 a1).2 dX12_isDoingHere_30 (fun H locs w242 hw hT k244 c243 => ?_)
    have hF := hF.put kM_at4 (inE_of (a := 0) (b := 216) (by decide) (show 0 ≤ x241.toInt.toNat by omega) (show x241.toInt.toNat ≤ 216 by omega)) k244
    have c245 := k244.gi (Or.inl (tk_ne kM_at0 kM_at4 (by decide))) c56
    have c246 := k244.gi (Or.inl (tk_ne kM_at0 kM_at4 (by decide))) c57
    have c247 := k244.gi (Or.inl (tk_ne kM_at3 kM_at4 (by decide))) c58
    have c248 := k244.gi (Or.inl (tk_ne kM_at5 kM_at4 (by decide))) c59
    have c249 := k244.gi (Or.inl (tk_ne kM_at0 kM_at4 (by decide))) c54
    refine lv_aload_n hx hb dX12_isDoingHere_31 rfl (lv_at hl 1 rfl) ?_
    refine tk_getA hC hK hw hT hinX12 kM_at0 (by decide) rfl 5 (by decide) (List.mem_of_getElem? (i := 3) rfl) rfl rfl dX12_isDoingHere_32 ?_
    refine lv_iload_n hx hb dX12_isDoingHere_35 rfl (lv_at hl 0 rfl) ?_
    refine lv_iconst (v := 1) hx hb dX12_isDoingHere_36 (by decide) ?_
    refine lv_iadd hx hb dX12_isDoingHere_37 ?_
    refine lv_topi (fun x250 ex250 => ?_)
    have ex250 : x250.toInt = x241.toInt + (1 : Int) := by rw [ex250]; exact wk_add (show (-2147483648) ≤ x241.toInt + (1 : Int) by omega) (show x241.toInt + (1 : Int) ≤ 2147483647 by omega)
    refine lv_iconst (v := (-1)) hx hb dX12_isDoingHere_38 (by decide) ?_
    refine tk_iast hC hK hw hT kM_at4 (by decide) rfl rfl (show 0 ≤ x250.toInt by omega) (show x250.toInt < 216 by omega) (by decide) (by decide) dX12_isDoingHere_39 (fun H locs w251 hw hT k253 c252 => ?_)
    have hF := hF.put kM_at4 (inE_of (a := 0) (b := 216) (by decide) (show 0 ≤ x250.toInt.toNat by omega) (show x250.toInt.toNat ≤ 216 by omega)) k253
    have c254 := k253.gi (Or.inl (tk_ne kM_at0 kM_at4 (by decide))) c245
    have c255 := k253.gi (Or.inl (tk_ne kM_at0 kM_at4 (by decide))) c246
    have c256 := k253.gi (Or.inl (tk_ne kM_at3 kM_at4 (by decide))) c247
    have c257 := k253.gi (Or.inl (tk_ne kM_at5 kM_at4 (by decide))) c248
    have c258 := k253.gi (Or.inl (tk_ne kM_at0 kM_at4 (by decide))) c249
    refine lv_aload_n hx hb dX12_isDoingHere_40 rfl (lv_at hl 1 rfl) ?_
    refine lv_ldc2 (v := 26982) hx hb hC.2.2.2.1 (hC.2.2.2.2 _ (List.mem_of_getElem? (i := 4) rfl)) dX12_isDoingHere_41 ?_
    refine tk_Vi hC hK hw hT hA hE hSR kM_at0 (by decide) rfl (k_X12_takesWord_1 l adK adV dC dI cy ad B (by omega) (by omega) qr s1    w251 H.size hT ) (cwV 1 hC.2.2.2.2 gX12_isDoingHere_X12_takesWord rfl rfl rfl (by decide +kernel) ⟨Nat.le_of_ble_eq_true rfl, Nat.le_of_ble_eq_true rfl⟩) rfl hl.1 rfl (Nat.le_of_ble_eq_true rfl) dX12_isDoingHere_44 (fun r259 w261 H locs hp260 hw => ?_)
    obtain ⟨hT, k262, hg271⟩ := hp260
    have hF := hF.tr k262 (by decide)
    have c272 := k262.gi kM_at0 (by decide) c254
    have c273 := k262.gi kM_at0 (by decide) c255
    have c274 := k262.gi kM_at3 (by decide) c256
    have c275 := k262.gi kM_at5 (by decide) c257
    have c276 := k262.gi kM_at0 (by decide) c258
    rcases hg271 with ⟨rfl, ⟨x263, c264, rx263, tx263⟩⟩ | ⟨rfl, ⟨x265, c266, rx265, tx265⟩, ⟨x267, c268, rx267, tx267⟩⟩ | ⟨rfl, ⟨x269, c270, rx269, tx269⟩⟩
    · have ex263 : x263.toInt = x53.toInt := by rw [← c276.symm.trans c264]
      refine lv_if_eq (tgt := 76) hx hb dX12_isDoingHere_47 (by decide) (fun _ => ?_) (fun c => absurd (by decide) c)
      exact J76 x241 x53 f1_ f2_ H locs ls w261 (show 0 ≤ a1.toInt by omega) (show a1.toInt ≤ 3 by omega) (show 36 ≤ x241.toInt by omega) (show x241.toInt ≤ 69 by omega) (show x241.toInt = 3 * f3_.toInt + 36 by omega) (show 0 ≤ x53.toInt by omega) (show x53.toInt ≤ 400 by omega) (show 0 ≤ f1_.toInt by omega) (show f1_.toInt ≤ 60 by omega) (show 0 ≤ f2_.toInt by omega) (show f2_.toInt ≤ 400 by omega) (show 0 ≤ f3_.toInt by omega) (show f3_.toInt ≤ 11 by omega) (show 3 * f2_.toInt ≤ 14 * f1_.toInt by omega) (show f3_.toInt = f3_.toInt by omega) (show f3_.toInt ≤ 11 by omega)  hw hT hF c276 c272 c273 c274 c275 (lv_sub hl [1, 2, 0] rfl)
    · have ex265 : x265.toInt = x53.toInt := by rw [← c276.symm.trans c266]
      refine lv_if_eq (tgt := 76) hx hb dX12_isDoingHere_47 (by decide) (fun c => absurd c (by decide)) (fun _ => ?_)
      refine lv_aload_n hx hb dX12_isDoingHere_50 rfl (lv_at hl 1 rfl) ?_
      refine tk_getA hC hK hw hT hinX12 kM_at0 (by decide) rfl 5 (by decide) (List.mem_of_getElem? (i := 3) rfl) rfl rfl dX12_isDoingHere_51 ?_
      refine lv_iload_n hx hb dX12_isDoingHere_54 rfl (lv_at hl 0 rfl) ?_
      refine lv_iconst (v := 1) hx hb dX12_isDoingHere_55 (by decide) ?_
      refine lv_iadd hx hb dX12_isDoingHere_56 ?_
      refine lv_topi (fun x277 ex277 => ?_)
      have ex277 : x277.toInt = x241.toInt + (1 : Int) := by rw [ex277]; exact wk_add (show (-2147483648) ≤ x241.toInt + (1 : Int) by omega) (show x241.toInt + (1 : Int) ≤ 2147483647 by omega)
      refine lv_aload_n hx hb dX12_isDoingHere_57 rfl (lv_at hl 1 rfl) ?_
      refine tk_getA hC hK hw hT hinX12 kM_at0 (by decide) rfl 4 (by decide) (List.mem_of_getElem? (i := 5) rfl) rfl rfl dX12_isDoingHere_58 ?_
      refine lv_aload_n hx hb dX12_isDoingHere_61 rfl (lv_at hl 1 rfl) ?_
      refine tk_geti hC hK hw hT hinX12 kM_at0 (by decide) rfl 17 (by decide) (List.mem_of_getElem? (i := 1) rfl) rfl rfl dX12_isDoingHere_62 (fun x278 c279 rx278 tx278 => ?_)
      refine wk_top 1 (c279.symm.trans c272) ?_
      refine tk_iald hC hK hw hT kM_at3 rfl rfl (by decide) (by decide) dX12_isDoingHere_65 (fun x280 c281 rx280 tx280 => ?_)
      refine wk_top f2_ (c281.symm.trans c274) ?_
      refine tk_iast hC hK hw hT kM_at4 (by decide) rfl rfl (show 0 ≤ x277.toInt by omega) (show x277.toInt < 216 by omega) (wk_i32 f2_).1 (wk_i32 f2_).2 dX12_isDoingHere_66 (fun H locs w282 hw hT k284 c283 => ?_)
      have hF := hF.put kM_at4 (inE_of (a := 0) (b := 216) (by decide) (show 0 ≤ x277.toInt.toNat by omega) (show x277.toInt.toNat ≤ 216 by omega)) k284
      have c285 := k284.gi (Or.inl (tk_ne kM_at0 kM_at4 (by decide))) c272
      have c286 := k284.gi (Or.inl (tk_ne kM_at0 kM_at4 (by decide))) c273
      have c287 := k284.gi (Or.inl (tk_ne kM_at3 kM_at4 (by decide))) c274
      have c288 := k284.gi (Or.inl (tk_ne kM_at5 kM_at4 (by decide))) c275
      have c289 := k284.gi (Or.inl (tk_ne kM_at0 kM_at4 (by decide))) c276
      have c290 := k284.gi (Or.inl (tk_ne kM_at0 kM_at4 (by decide))) c268
      refine lv_aload_n hx hb dX12_isDoingHere_67 rfl (lv_at hl 1 rfl) ?_
      obtain ⟨x291, c292, rx291, tx291⟩ := hT.rdi (lo := 0) (hi := 400) (k := 22) kM_at0 (by decide) rfl
      obtain ⟨x293, c294, rx293, tx293⟩ := hT.rdi (lo := (-100)) (hi := 10) (k := 19) kM_at0 (by decide) rfl
      refine tk_Vi hC hK hw hT hA hE hSR kM_at0 (by decide) rfl (k_X12_tested_2 l adK adV dC dI cy ad B (by omega) (by omega) qr s1    w282 H.size hT c285 f1_ c286 (show 0 ≤ f1_.toInt by omega) (show f1_.toInt ≤ 60 by omega) x293 c294 (show (-100) ≤ x293.toInt by omega) (show x293.toInt ≤ 10 by omega) x291 c292 (show 0 ≤ x291.toInt by omega) (show x291.toInt ≤ 400 by omega) f2_ c287 (show 0 ≤ f2_.toInt by omega) (show f2_.toInt ≤ 400 by omega) (show 3 * f2_.toInt ≤ 14 * f1_.toInt by omega) (show f2_.toInt ≤ 280 by omega)) (cwV 0 hC.2.2.2.2 gX12_isDoingHere_X12_tested rfl rfl rfl (by decide +kernel) ⟨Nat.le_of_ble_eq_true rfl, Nat.le_of_ble_eq_true rfl⟩) rfl hl.1 rfl (Nat.le_of_ble_eq_true rfl) dX12_isDoingHere_68 (fun r295 w297 H locs hp296 hw => ?_)
      obtain ⟨hT, k298, hg322⟩ := hp296
      have hF := hF.tr k298 (by decide)
      have c323 := k298.gi kM_at0 (by decide) c285
      have c324 := k298.gi kM_at5 (by decide) c288
      have c325 := k298.gi kM_at0 (by decide) c289
      rcases hg322 with ⟨rfl, ⟨x299, c300, rx299, tx299⟩, ⟨x301, c302, rx301, tx301⟩, ⟨x303, c304, rx303, tx303⟩, ⟨x305, c306, rx305, tx305⟩⟩ | ⟨rfl, ⟨x307, c308, rx307, tx307⟩, ⟨x309, c310, rx309, tx309⟩, ⟨x311, c312, rx311, tx311⟩, ⟨x313, c314, rx313, tx313⟩⟩ | ⟨rfl, ⟨x315, c316, rx315, tx315⟩, ⟨x317, c318, rx317, tx317⟩, ⟨x319, c320, rx319, tx319⟩, g321⟩
      · have ex299 : x299.toInt = x53.toInt := by rw [← c325.symm.trans c300]
        have ex303 : x303.toInt = (1 : Int) := by rw [show x303 = 1 from c304.symm.trans c323]; decide
        obtain ⟨x326, c327, rx326, tx326⟩ := hT.rda (lo := 0) (hi := 400) (i := 1) kM_at3 rfl rfl (by decide)
        obtain ⟨x328, c329, rx328, tx328⟩ := hT.rdi (lo := 0) (hi := 60) (k := 18) kM_at0 (by decide) rfl
        obtain ⟨x330, c331, rx330, tx330⟩ := hT.rdi (lo := (-100)) (hi := 10) (k := 19) kM_at0 (by decide) rfl
        refine lv_if_ne (tgt := 76) hx hb dX12_isDoingHere_71 (by decide) (fun c => absurd (by decide) c) (fun _ => ?_)
        refine lv_iconst (v := 0) hx hb dX12_isDoingHere_74 (by decide) ?_
        exact tk_zret hC hr rfl hlocks hK ⟨hT, hF, (Or.inl ⟨rfl, ⟨x53, c325, (show 1 ≤ x53.toInt by omega), (show x53.toInt ≤ 400 by omega)⟩, ⟨x301, c302, (show 1 ≤ x301.toInt by omega), (show x301.toInt ≤ 3205 by omega)⟩, ⟨1, c323, (by decide), (by decide)⟩, ⟨x305, c306, (show 0 ≤ x305.toInt by omega), (show x305.toInt ≤ 399 by omega)⟩⟩)⟩ hw dX12_isDoingHere_75
      · have ex307 : x307.toInt = x53.toInt := by rw [← c325.symm.trans c308]
        have ex311 : x311.toInt = (1 : Int) := by rw [show x311 = 1 from c312.symm.trans c323]; decide
        obtain ⟨x332, c333, rx332, tx332⟩ := hT.rda (lo := 0) (hi := 400) (i := 1) kM_at3 rfl rfl (by decide)
        obtain ⟨x334, c335, rx334, tx334⟩ := hT.rdi (lo := 0) (hi := 60) (k := 18) kM_at0 (by decide) rfl
        obtain ⟨x336, c337, rx336, tx336⟩ := hT.rdi (lo := (-100)) (hi := 10) (k := 19) kM_at0 (by decide) rfl
        refine lv_if_ne (tgt := 76) hx hb dX12_isDoingHere_71 (by decide) (fun c => absurd (by decide) c) (fun _ => ?_)
        refine lv_iconst (v := 0) hx hb dX12_isDoingHere_74 (by decide) ?_
        exact tk_zret hC hr rfl hlocks hK ⟨hT, hF, (Or.inl ⟨rfl, ⟨x53, c325, (show 1 ≤ x53.toInt by omega), (show x53.toInt ≤ 400 by omega)⟩, ⟨x309, c310, (show 1 ≤ x309.toInt by omega), (show x309.toInt ≤ 3205 by omega)⟩, ⟨1, c323, (by decide), (by decide)⟩, ⟨x313, c314, (show 0 ≤ x313.toInt by omega), (show x313.toInt ≤ 399 by omega)⟩⟩)⟩ hw dX12_isDoingHere_75
      · have ex315 : x315.toInt = (1 : Int) := by rw [show x315 = 1 from c316.symm.trans c323]; decide
        obtain ⟨x338, c339, rx338, tx338⟩ := hT.rda (lo := 0) (hi := 400) (i := 1) kM_at3 rfl rfl (by decide)
        obtain ⟨x340, c341, rx340, tx340⟩ := hT.rdi (lo := 0) (hi := 60) (k := 18) kM_at0 (by decide) rfl
        have g321 : 3 * x338.toInt ≤ 14 * x340.toInt := by have q := g321; simp only [c339, c341] at q; omega
        refine lv_if_ne (tgt := 76) hx hb dX12_isDoingHere_71 (by decide) (fun _ => ?_) (fun c => absurd c (by decide))
        exact J76 x241 x53 x340 x338 H locs ls w297 (show 0 ≤ a1.toInt by omega) (show a1.toInt ≤ 3 by omega) (show 36 ≤ x241.toInt by omega) (show x241.toInt ≤ 69 by omega) (show x241.toInt = 3 * f3_.toInt + 36 by omega) (show 0 ≤ x53.toInt by omega) (show x53.toInt ≤ 400 by omega) (show 0 ≤ x340.toInt by omega) (show x340.toInt ≤ 60 by omega) (show 0 ≤ x338.toInt by omega) (show x338.toInt ≤ 400 by omega) (show 0 ≤ f3_.toInt by omega) (show f3_.toInt ≤ 11 by omega) (show 3 * x338.toInt ≤ 14 * x340.toInt by omega) (show f3_.toInt = f3_.toInt by omega) (show f3_.toInt ≤ 11 by omega)  hw hT hF c325 c323 c341 c339 c324 (lv_sub hl [1, 2, 0] rfl)
    · have ex269 : x269.toInt = x53.toInt := by rw [← c276.symm.trans c270]
      refine lv_if_eq (tgt := 76) hx hb dX12_isDoingHere_47 (by decide) (fun c => absurd c (by decide)) (fun _ => ?_)
      refine lv_aload_n hx hb dX12_isDoingHere_50 rfl (lv_at hl 1 rfl) ?_
      refine tk_getA hC hK hw hT hinX12 kM_at0 (by decide) rfl 5 (by decide) (List.mem_of_getElem? (i := 3) rfl) rfl rfl dX12_isDoingHere_51 ?_
      refine lv_iload_n hx hb dX12_isDoingHere_54 rfl (lv_at hl 0 rfl) ?_
      refine lv_iconst (v := 1) hx hb dX12_isDoingHere_55 (by decide) ?_
      refine lv_iadd hx hb dX12_isDoingHere_56 ?_
      refine lv_topi (fun x342 ex342 => ?_)
      have ex342 : x342.toInt = x241.toInt + (1 : Int) := by rw [ex342]; exact wk_add (show (-2147483648) ≤ x241.toInt + (1 : Int) by omega) (show x241.toInt + (1 : Int) ≤ 2147483647 by omega)
      refine lv_aload_n hx hb dX12_isDoingHere_57 rfl (lv_at hl 1 rfl) ?_
      refine tk_getA hC hK hw hT hinX12 kM_at0 (by decide) rfl 4 (by decide) (List.mem_of_getElem? (i := 5) rfl) rfl rfl dX12_isDoingHere_58 ?_
      refine lv_aload_n hx hb dX12_isDoingHere_61 rfl (lv_at hl 1 rfl) ?_
      refine tk_geti hC hK hw hT hinX12 kM_at0 (by decide) rfl 17 (by decide) (List.mem_of_getElem? (i := 1) rfl) rfl rfl dX12_isDoingHere_62 (fun x343 c344 rx343 tx343 => ?_)
      refine wk_top 1 (c344.symm.trans c272) ?_
      refine tk_iald hC hK hw hT kM_at3 rfl rfl (by decide) (by decide) dX12_isDoingHere_65 (fun x345 c346 rx345 tx345 => ?_)
      refine wk_top f2_ (c346.symm.trans c274) ?_
      refine tk_iast hC hK hw hT kM_at4 (by decide) rfl rfl (show 0 ≤ x342.toInt by omega) (show x342.toInt < 216 by omega) (wk_i32 f2_).1 (wk_i32 f2_).2 dX12_isDoingHere_66 (fun H locs w347 hw hT k349 c348 => ?_)
      have hF := hF.put kM_at4 (inE_of (a := 0) (b := 216) (by decide) (show 0 ≤ x342.toInt.toNat by omega) (show x342.toInt.toNat ≤ 216 by omega)) k349
      have c350 := k349.gi (Or.inl (tk_ne kM_at0 kM_at4 (by decide))) c272
      have c351 := k349.gi (Or.inl (tk_ne kM_at0 kM_at4 (by decide))) c273
      have c352 := k349.gi (Or.inl (tk_ne kM_at3 kM_at4 (by decide))) c274
      have c353 := k349.gi (Or.inl (tk_ne kM_at5 kM_at4 (by decide))) c275
      have c354 := k349.gi (Or.inl (tk_ne kM_at0 kM_at4 (by decide))) c276
      refine lv_aload_n hx hb dX12_isDoingHere_67 rfl (lv_at hl 1 rfl) ?_
      obtain ⟨x355, c356, rx355, tx355⟩ := hT.rdi (lo := 0) (hi := 400) (k := 22) kM_at0 (by decide) rfl
      obtain ⟨x357, c358, rx357, tx357⟩ := hT.rdi (lo := (-100)) (hi := 10) (k := 19) kM_at0 (by decide) rfl
      refine tk_Vi hC hK hw hT hA hE hSR kM_at0 (by decide) rfl (k_X12_tested_2 l adK adV dC dI cy ad B (by omega) (by omega) qr s1    w347 H.size hT c350 f1_ c351 (show 0 ≤ f1_.toInt by omega) (show f1_.toInt ≤ 60 by omega) x357 c358 (show (-100) ≤ x357.toInt by omega) (show x357.toInt ≤ 10 by omega) x355 c356 (show 0 ≤ x355.toInt by omega) (show x355.toInt ≤ 400 by omega) f2_ c352 (show 0 ≤ f2_.toInt by omega) (show f2_.toInt ≤ 400 by omega) (show 3 * f2_.toInt ≤ 14 * f1_.toInt by omega) (show f2_.toInt ≤ 280 by omega)) (cwV 0 hC.2.2.2.2 gX12_isDoingHere_X12_tested rfl rfl rfl (by decide +kernel) ⟨Nat.le_of_ble_eq_true rfl, Nat.le_of_ble_eq_true rfl⟩) rfl hl.1 rfl (Nat.le_of_ble_eq_true rfl) dX12_isDoingHere_68 (fun r359 w361 H locs hp360 hw => ?_)
      obtain ⟨hT, k362, hg386⟩ := hp360
      have hF := hF.tr k362 (by decide)
      have c387 := k362.gi kM_at0 (by decide) c350
      have c388 := k362.gi kM_at5 (by decide) c353
      have c389 := k362.gi kM_at0 (by decide) c354
      rcases hg386 with ⟨rfl, ⟨x363, c364, rx363, tx363⟩, ⟨x365, c366, rx365, tx365⟩, ⟨x367, c368, rx367, tx367⟩, ⟨x369, c370, rx369, tx369⟩⟩ | ⟨rfl, ⟨x371, c372, rx371, tx371⟩, ⟨x373, c374, rx373, tx373⟩, ⟨x375, c376, rx375, tx375⟩, ⟨x377, c378, rx377, tx377⟩⟩ | ⟨rfl, ⟨x379, c380, rx379, tx379⟩, ⟨x381, c382, rx381, tx381⟩, ⟨x383, c384, rx383, tx383⟩, g385⟩
      · have ex363 : x363.toInt = x53.toInt := by rw [← c389.symm.trans c364]
        have ex367 : x367.toInt = (1 : Int) := by rw [show x367 = 1 from c368.symm.trans c387]; decide
        obtain ⟨x390, c391, rx390, tx390⟩ := hT.rda (lo := 0) (hi := 400) (i := 1) kM_at3 rfl rfl (by decide)
        obtain ⟨x392, c393, rx392, tx392⟩ := hT.rdi (lo := 0) (hi := 60) (k := 18) kM_at0 (by decide) rfl
        obtain ⟨x394, c395, rx394, tx394⟩ := hT.rdi (lo := (-100)) (hi := 10) (k := 19) kM_at0 (by decide) rfl
        refine lv_if_ne (tgt := 76) hx hb dX12_isDoingHere_71 (by decide) (fun c => absurd (by decide) c) (fun _ => ?_)
        refine lv_iconst (v := 0) hx hb dX12_isDoingHere_74 (by decide) ?_
        exact tk_zret hC hr rfl hlocks hK ⟨hT, hF, (Or.inl ⟨rfl, ⟨x53, c389, (show 1 ≤ x53.toInt by omega), (show x53.toInt ≤ 400 by omega)⟩, ⟨x365, c366, (show 1 ≤ x365.toInt by omega), (show x365.toInt ≤ 3205 by omega)⟩, ⟨1, c387, (by decide), (by decide)⟩, ⟨x369, c370, (show 0 ≤ x369.toInt by omega), (show x369.toInt ≤ 399 by omega)⟩⟩)⟩ hw dX12_isDoingHere_75
      · have ex371 : x371.toInt = x53.toInt := by rw [← c389.symm.trans c372]
        have ex375 : x375.toInt = (1 : Int) := by rw [show x375 = 1 from c376.symm.trans c387]; decide
        obtain ⟨x396, c397, rx396, tx396⟩ := hT.rda (lo := 0) (hi := 400) (i := 1) kM_at3 rfl rfl (by decide)
        obtain ⟨x398, c399, rx398, tx398⟩ := hT.rdi (lo := 0) (hi := 60) (k := 18) kM_at0 (by decide) rfl
        obtain ⟨x400, c401, rx400, tx400⟩ := hT.rdi (lo := (-100)) (hi := 10) (k := 19) kM_at0 (by decide) rfl
        refine lv_if_ne (tgt := 76) hx hb dX12_isDoingHere_71 (by decide) (fun c => absurd (by decide) c) (fun _ => ?_)
        refine lv_iconst (v := 0) hx hb dX12_isDoingHere_74 (by decide) ?_
        exact tk_zret hC hr rfl hlocks hK ⟨hT, hF, (Or.inr (Or.inl ⟨rfl, ⟨x53, c389, (show 0 ≤ x53.toInt by omega), (show x53.toInt ≤ 400 by omega)⟩, ⟨x373, c374, (show 1 ≤ x373.toInt by omega), (show x373.toInt ≤ 3205 by omega)⟩, ⟨1, c387, (by decide), (by decide)⟩, ⟨x377, c378, (show 0 ≤ x377.toInt by omega), (show x377.toInt ≤ 399 by omega)⟩⟩))⟩ hw dX12_isDoingHere_75
      · have ex379 : x379.toInt = (1 : Int) := by rw [show x379 = 1 from c380.symm.trans c387]; decide
        obtain ⟨x402, c403, rx402, tx402⟩ := hT.rda (lo := 0) (hi := 400) (i := 1) kM_at3 rfl rfl (by decide)
        obtain ⟨x404, c405, rx404, tx404⟩ := hT.rdi (lo := 0) (hi := 60) (k := 18) kM_at0 (by decide) rfl
        have g385 : 3 * x402.toInt ≤ 14 * x404.toInt := by have q := g385; simp only [c403, c405] at q; omega
        refine lv_if_ne (tgt := 76) hx hb dX12_isDoingHere_71 (by decide) (fun _ => ?_) (fun c => absurd c (by decide))
        exact J76 x241 x53 x404 x402 H locs ls w361 (show 0 ≤ a1.toInt by omega) (show a1.toInt ≤ 3 by omega) (show 36 ≤ x241.toInt by omega) (show x241.toInt ≤ 69 by omega) (show x241.toInt = 3 * f3_.toInt + 36 by omega) (show 0 ≤ x53.toInt by omega) (show x53.toInt ≤ 400 by omega) (show 0 ≤ x404.toInt by omega) (show x404.toInt ≤ 60 by omega) (show 0 ≤ x402.toInt by omega) (show x402.toInt ≤ 400 by omega) (show 0 ≤ f3_.toInt by omega) (show f3_.toInt ≤ 11 by omega) (show 3 * x402.toInt ≤ 14 * x404.toInt by omega) (show f3_.toInt = f3_.toInt by omega) (show f3_.toInt ≤ 11 by omega)  hw hT hF c389 c387 c405 c403 c388 (lv_sub hl [1, 2, 0] rfl)
abbrev P_X12_clauseHere_3 (ad : Nat → Nat) (cy : Nat → ClassId) (B : Int) (qr : Nat) (s1 : Int)  (w0 : va_W) : Int32 → va_W → Prop := fun r u => TW ksM ad cy B qr 12 u ∧ FE ksM [(12, 14, 14), (12, 15, 15), (12, 16, 16), (12, 18, 18), (12, 19, 19), (12, 20, 20), (12, 22, 22), (61, 0, 2400), (62, 0, 7), (63, 0, 216), (64, 0, 6), (68, 0, 400)] w0 u ∧ ((r = 0 ∧ (∃ y : Int32, gi u 0 1 = y ∧ 1 ≤ y.toInt ∧ y.toInt ≤ 400) ∧ (∃ y : Int32, gi u 0 15 = y ∧ 1 ≤ y.toInt ∧ y.toInt ≤ 3205) ∧ (∃ y : Int32, gi u 0 17 = y ∧ 1 ≤ y.toInt ∧ y.toInt ≤ 1) ∧ (∃ y : Int32, gi u 0 20 = y ∧ 0 ≤ y.toInt ∧ y.toInt ≤ 12) ∧ ((gi w0 0 20).toInt ≤ (gi u 0 20).toInt) ∧ ((gi u 0 20).toInt ≤ 12)) ∨ (r = 0 ∧ (∃ y : Int32, gi u 0 1 = y ∧ 0 ≤ y.toInt ∧ y.toInt ≤ 400) ∧ (∃ y : Int32, gi u 0 15 = y ∧ 1 ≤ y.toInt ∧ y.toInt ≤ 3205) ∧ (∃ y : Int32, gi u 0 17 = y ∧ 1 ≤ y.toInt ∧ y.toInt ≤ 1) ∧ (∃ y : Int32, gi u 0 20 = y ∧ 0 ≤ y.toInt ∧ y.toInt ≤ 12) ∧ ((gi w0 0 20).toInt ≤ (gi u 0 20).toInt) ∧ ((gi u 0 20).toInt ≤ 12)) ∨ (r = 1 ∧ (∃ y : Int32, gi u 0 1 = y ∧ 1 ≤ y.toInt ∧ y.toInt ≤ 400) ∧ (∃ y : Int32, gi u 0 17 = y ∧ 1 ≤ y.toInt ∧ y.toInt ≤ 1) ∧ (∃ y : Int32, gi u 0 20 = y ∧ 1 ≤ y.toInt ∧ y.toInt ≤ 12) ∧ (3 * (gi u 3 1).toInt ≤ 14 * (gi u 0 18).toInt) ∧ ((gi u 5 1).toInt ≤ (gi u 0 20).toInt) ∧ ((gi u 0 20).toInt = (gi w0 0 20).toInt + 1) ∧ ((gi u 0 20).toInt ≤ 12)) ∨ (r = 1 ∧ (∃ y : Int32, gi u 0 1 = y ∧ 0 ≤ y.toInt ∧ y.toInt ≤ 400) ∧ (∃ y : Int32, gi u 0 17 = y ∧ 1 ≤ y.toInt ∧ y.toInt ≤ 1) ∧ (∃ y : Int32, gi u 0 20 = y ∧ 1 ≤ y.toInt ∧ y.toInt ≤ 12) ∧ (3 * (gi u 3 1).toInt ≤ 14 * (gi u 0 18).toInt) ∧ ((gi u 5 1).toInt ≤ (gi u 0 20).toInt) ∧ ((gi u 0 20).toInt = (gi w0 0 20).toInt + 1) ∧ ((gi u 0 20).toInt ≤ 12)))
set_option maxHeartbeats 4000000 in
set_option maxRecDepth 100000 in
theorem k_X12_clauseHere_3 (l : Launch) (adK adV : Nat → Nat) (dC : Nat → ClassId) (dI : Nat → Nat → Nat) (cy : Nat → ClassId) (ad : Nat → Nat) (B : Int) (hB0 : 100000 ≤ B) (hB1 : B ≤ 1073741824) (qr : Nat) (s1 : Int)   (w0 : va_W) (sz : Nat) (hT : TW ksM ad cy B qr 12 w0) (cf0_ : gi w0 0 17 = 1) (f1_ : Int32) (cf1_ : gi w0 0 18 = f1_) (rf1_ : 0 ≤ f1_.toInt) (tf1_ : f1_.toInt ≤ 60) (f2_ : Int32) (cf2_ : gi w0 0 20 = f2_) (rf2_ : 0 ≤ f2_.toInt) (tf2_ : f2_.toInt ≤ 32) (f3_ : Int32) (cf3_ : gi w0 3 1 = f3_) (rf3_ : 0 ≤ f3_.toInt) (tf3_ : f3_.toInt ≤ 400) (f4_ : Int32) (cf4_ : gi w0 5 1 = f4_) (rf4_ : 0 ≤ f4_.toInt) (tf4_ : f4_.toInt ≤ 12) (pr0_ : 3 * f3_.toInt ≤ 14 * f1_.toInt) (pr1_ : f4_.toInt ≤ f2_.toInt) (pr2_ : f2_.toInt ≤ 12) (pr3_ : f3_.toInt ≤ 280) : Met l yX12_clauseHere wsX12_clauseHere ({ frames := 11, cells := 0, slots := 0, locals := 232 }) (va_Pc [.ref (ad 0)] (wpreS adK adV dC dI cy sz w0)) (va_Qi (P_X12_clauseHere_3 ad cy B qr s1  w0) (fun u : va_W => wpost dC dI cy (va_A w0 sz) u) (va_A w0 sz)) 0 0 (va_A w0 sz) := by
  refine Met.ofW (cc := cX12_clauseHere) (maxL := 4) (ret := (some .boolean)) (by decide) rfl ?_
  intro p e s m args below meth c s₁ Bk hml hv
  obtain ⟨rfl, ⟨hsz, hP, hK, hD0⟩, hE, hSR⟩ := hv
  have hx := Bk.exec
  have hb := Bk.bytes
  have hr := Bk.returns
  have hlocks := Bk.notSynchronized
  have hC : CallFix p m c cX12_clauseHere 4 s _ wsX12_clauseHere RX12 := ⟨hx, hb, hml, findClass_of_methodNamed Bk.named, atoms_spec (ws := wsX12_clauseHere) Bk.pre⟩
  subst hsz
  have hD := hD0.self (sz := s.heap.size)
  generalize hAe : va_A w0 s.heap.size = A at hD hE ⊢
  have hA : ∀ q : Nat, s.heap.size ≤ q → A q := fun q h => by rw [← hAe]; exact Or.inr h
  have hw : Wd dC dI A s.heap s.heap [] w0 := ⟨hP, hD, va_S.rf⟩
  have hF : FE ksM [(12, 14, 14), (12, 15, 15), (12, 16, 16), (12, 18, 18), (12, 19, 19), (12, 20, 20), (12, 22, 22), (61, 0, 2400), (62, 0, 7), (63, 0, 216), (64, 0, 6), (68, 0, 400)] w0 w0 := FE.rf
  have hl := lv_entry ([.ref (ad 0)]) (n := 4) (Nat.le_of_ble_eq_true rfl)
  rw [lg_entry_eq]
  generalize (lg_sl ([.ref (ad 0)]) ++ List.replicate (4 - (lg_sl ([.ref (ad 0)])).length) Slot.unset).toArray = ls at hl ⊢
  have hl : lv_has ls 4 [(0, .ref (ad 0))] := hl
  generalize hloc : ([] : List Loc) = locs at hw ⊢
  have hinX12 : ∀ w ∈ u_ws RX12 TX12 42, w ∈ wsX12_clauseHere := fun _ h => List.mem_cons_of_mem _ (List.mem_append_right _ (h))
  refine lv_aload_n hx hb dX12_clauseHere_0 rfl (lv_at hl 0 rfl) ?_
  obtain ⟨x1, c2, rx1, tx1⟩ := hT.rdi (lo := 0) (hi := 400) (k := 14) kM_at0 (by decide) rfl
  refine tk_Vi hC hK hw hT hA hE hSR kM_at0 (by decide) rfl (k_X12_see_1 l adK adV dC dI cy ad B (by omega) (by omega) qr s1    w0 s.heap.size hT x1 c2 (show 0 ≤ x1.toInt by omega) (show x1.toInt ≤ 400 by omega)) (cwV 0 hC.2.2.2.2 gX12_clauseHere_X12_see rfl rfl rfl (by decide +kernel) ⟨Nat.le_of_ble_eq_true rfl, Nat.le_of_ble_eq_true rfl⟩) rfl hl.1 rfl (Nat.le_of_ble_eq_true rfl) dX12_clauseHere_1 (fun r3 w5 H locs hp4 hw => ?_)
  obtain ⟨hT, k6, hg23⟩ := hp4
  have hF := hF.tr k6 (by decide)
  have c24 := k6.gi kM_at0 (by decide) cf0_
  have c25 := k6.gi kM_at0 (by decide) cf1_
  have c26 := k6.gi kM_at0 (by decide) cf2_
  have c27 := k6.gi kM_at3 (by decide) cf3_
  have c28 := k6.gi kM_at5 (by decide) cf4_
  rcases hg23 with ⟨g7, g8, ⟨x9, c10, rx9, tx9⟩, ⟨x11, c12, rx11, tx11⟩, g13, g14⟩ | ⟨rfl, ⟨x15, c16, rx15, tx15⟩, ⟨x17, c18, rx17, tx17⟩, g19⟩ | ⟨rfl, ⟨x20, c21, rx20, tx20⟩, g22⟩
  · have g13 : (gi w5 1 (x11.toInt).toNat).toInt ≠ 32 := by have q := g13; simp only [c12] at q; omega
    have g14 : (x11.toInt = x1.toInt ∨ (gi w0 1 (x1.toInt).toNat).toInt = 32) := by have q := g14; simp only [c2, c12] at q; omega
    refine lv_pop hx hb dX12_clauseHere_4 rfl ?_
    refine lv_aload_n hx hb dX12_clauseHere_5 rfl (lv_at hl 0 rfl) ?_
    refine tk_geti hC hK hw hT hinX12 kM_at0 (by decide) rfl 14 (by decide) (List.mem_of_getElem? (i := 1) rfl) rfl rfl dX12_clauseHere_6 (fun x31 c32 rx31 tx31 => ?_)
    refine wk_top x11 (c32.symm.trans c12) ?_
    refine lv_istore_n (lv' := [(1, .int x11), (0, .ref (ad 0))]) hx hb dX12_clauseHere_9 rfl hl (by decide) rfl (fun ls hl => ?_)
    refine lv_aload_n hx hb dX12_clauseHere_10 rfl (lv_at hl 1 rfl) ?_
    refine tk_geti hC hK hw hT hinX12 kM_at0 (by decide) rfl 17 (by decide) (List.mem_of_getElem? (i := 2) rfl) rfl rfl dX12_clauseHere_11 (fun x33 c34 rx33 tx33 => ?_)
    refine wk_top 1 (c34.symm.trans c24) ?_
    refine lv_bipush (v := 6) hx hb dX12_clauseHere_14 (by decide) ?_
    refine lv_icmp_ne (tgt := 23) hx hb dX12_clauseHere_16 (by decide) (fun _ => ?_) (fun c => absurd c (by decide))
    refine lv_iconst (v := 0) hx hb dX12_clauseHere_23 (by decide) ?_
    refine lv_istore_n (lv' := [(2, .int 0), (1, .int x11), (0, .ref (ad 0))]) hx hb dX12_clauseHere_24 rfl hl (by decide) rfl (fun ls hl => ?_)
    refine lv_iload_n hx hb dX12_clauseHere_25 rfl (lv_at hl 0 rfl) ?_
    refine lv_if_eq (tgt := 77) hx hb dX12_clauseHere_26 (by decide) (fun _ => ?_) (fun c => absurd (by decide) c)
    refine lv_aload_n hx hb dX12_clauseHere_77 rfl (lv_at hl 2 rfl) ?_
    refine tk_Vi hC hK hw hT hA hE hSR kM_at0 (by decide) rfl (k_X12_doingSort_1 l adK adV dC dI cy ad B (by omega) (by omega) qr s1    w5 H.size hT ) (cwV 0 hC.2.2.2.2 gX12_clauseHere_X12_doingSort rfl rfl rfl (by decide +kernel) ⟨Nat.le_of_ble_eq_true rfl, Nat.le_of_ble_eq_true rfl⟩) rfl hl.1 rfl (Nat.le_of_ble_eq_true rfl) dX12_clauseHere_78 (fun r35 w37 H locs hp36 hw => ?_)
    obtain ⟨hT, k38, hg45⟩ := hp36
    have hF := hF.tr k38 (by decide)
    have c46 := k38.gi kM_at0 (by decide) c24
    have c47 := k38.gi kM_at0 (by decide) c25
    have c48 := k38.gi kM_at0 (by decide) c26
    have c49 := k38.gi kM_at3 (by decide) c27
    have c50 := k38.gi kM_at5 (by decide) c28
    have c51 := k38.gi kM_at0 (by decide) c10
    rcases hg45 with ⟨g39, g40, ⟨x41, c42, rx41, tx41⟩⟩ | ⟨rfl, ⟨x43, c44, rx43, tx43⟩⟩
    · have ex41 : x41.toInt = x9.toInt := by rw [← c51.symm.trans c42]
      refine lv_if_lt (tgt := 88) hx hb dX12_clauseHere_81 (by decide) (fun c => absurd c (fun h => absurd (show r35.toInt < (0 : Int) from wk_lt.mp h) (by omega))) (fun _ => ?_)
      refine lv_iconst (v := 1) hx hb dX12_clauseHere_84 (by decide) ?_
      refine lv_goto (tgt := 89) hx hb dX12_clauseHere_85 (by decide) ?_
      refine lv_istore_n (lv' := [(3, .int 1), (2, .int 0), (1, .int x11), (0, .ref (ad 0))]) hx hb dX12_clauseHere_89 rfl hl (by decide) rfl (fun ls hl => ?_)
      refine lv_iload_n hx hb dX12_clauseHere_90 rfl (lv_at hl 0 rfl) ?_
      refine lv_if_ne (tgt := 101) hx hb dX12_clauseHere_91 (by decide) (fun _ => ?_) (fun c => absurd c (by decide))
      refine lv_aload_n hx hb dX12_clauseHere_101 rfl (lv_at hl 3 rfl) ?_
      refine tk_geti hC hK hw hT hinX12 kM_at0 (by decide) rfl 20 (by decide) (List.mem_of_getElem? (i := 7) rfl) rfl rfl dX12_clauseHere_102 (fun x52 c53 rx52 tx52 => ?_)
      refine wk_top f2_ (c53.symm.trans c48) ?_
      refine lv_iload_n hx hb dX12_clauseHere_105 rfl (lv_at hl 1 rfl) ?_
      refine lv_if_eq (tgt := 114) hx hb dX12_clauseHere_106 (by decide) (fun _ => ?_) (fun c => absurd (by decide) c)
      refine lv_bipush (v := 12) hx hb dX12_clauseHere_114 (by decide) ?_
      refine lv_icmp_ne (tgt := 126) hx hb dX12_clauseHere_116 (by decide) (fun c54 => ?_) (fun c54 => ?_)
      · have c54 : ¬ f2_.toInt = (12 : Int) := wk_eqF c54
        refine lv_aload_n hx hb dX12_clauseHere_126 rfl (lv_at hl 3 rfl) ?_
        refine lv_dup hx hb dX12_clauseHere_127 rfl ?_
        refine tk_geti hC hK hw hT hinX12 kM_at0 (by decide) rfl 20 (by decide) (List.mem_of_getElem? (i := 7) rfl) rfl rfl dX12_clauseHere_128 (fun x55 c56 rx55 tx55 => ?_)
        refine wk_top f2_ (c56.symm.trans c48) ?_
        refine lv_iconst (v := 1) hx hb dX12_clauseHere_131 (by decide) ?_
        refine lv_iadd hx hb dX12_clauseHere_132 ?_
        refine lv_topi (fun x57 ex57 => ?_)
        have ex57 : x57.toInt = f2_.toInt + (1 : Int) := by rw [ex57]; exact wk_add (show (-2147483648) ≤ f2_.toInt + (1 : Int) by omega) (show f2_.toInt + (1 : Int) ≤ 2147483647 by omega)
        refine tk_puti hC hK hw hT hinX12 tyX12_ok nmX12 kM_at0 (by decide) rfl rfl 20 (by decide) (List.mem_of_getElem? (i := 7) rfl) rfl rfl rfl rfl (show 0 ≤ x57.toInt by omega) (show x57.toInt ≤ 32 by omega) dX12_clauseHere_133 (fun H locs w58 hw hT k60 c59 => ?_)
        have hF := hF.put kM_at0 (k := 20) (by decide) k60
        have c61 := k60.gi (Or.inr (by decide)) c46
        have c62 := k60.gi (Or.inr (by decide)) c47
        have c63 := k60.gi (Or.inr (by decide)) c49
        have c64 := k60.gi (Or.inr (by decide)) c50
        have c65 := k60.gi (Or.inr (by decide)) c51
        refine lv_iload_n hx hb dX12_clauseHere_136 rfl (lv_at hl 1 rfl) ?_
        refine lv_if_eq (tgt := 148) hx hb dX12_clauseHere_137 (by decide) (fun _ => ?_) (fun c => absurd (by decide) c)
        refine lv_aload_n hx hb dX12_clauseHere_148 rfl (lv_at hl 3 rfl) ?_
        refine lv_aload_n hx hb dX12_clauseHere_149 rfl (lv_at hl 3 rfl) ?_
        refine tk_Vi hC hK hw hT hA hE hSR kM_at0 (by decide) rfl (k_X12_doingSort_1 l adK adV dC dI cy ad B (by omega) (by omega) qr s1    w58 H.size hT ) (cwV 0 hC.2.2.2.2 gX12_clauseHere_X12_doingSort rfl rfl rfl (by decide +kernel) ⟨Nat.le_of_ble_eq_true rfl, Nat.le_of_ble_eq_true rfl⟩) rfl hl.1 rfl (Nat.le_of_ble_eq_true rfl) dX12_clauseHere_150 (fun r66 w68 H locs hp67 hw => ?_)
        obtain ⟨hT, k69, hg76⟩ := hp67
        have hF := hF.tr k69 (by decide)
        have c77 := k69.gi kM_at0 (by decide) c61
        have c78 := k69.gi kM_at0 (by decide) c62
        have c79 := k69.gi kM_at3 (by decide) c63
        have c80 := k69.gi kM_at5 (by decide) c64
        have c81 := k69.gi kM_at0 (by decide) c65
        have c82 := k69.gi kM_at0 (by decide) c59
        rcases hg76 with ⟨g70, g71, ⟨x72, c73, rx72, tx72⟩⟩ | ⟨rfl, ⟨x74, c75, rx74, tx74⟩⟩
        · have ex72 : x72.toInt = x9.toInt := by rw [← c81.symm.trans c73]
          refine tk_Vi hC hK hw hT hA hE hSR kM_at0 (by decide) rfl (k_X12_isDoingHere_4 l adK adV dC dI cy ad B (by omega) (by omega) qr s1   r66 (show 0 ≤ r66.toInt by omega) (show r66.toInt ≤ 3 by omega) w68 H.size hT c77 f1_ c78 (show 0 ≤ f1_.toInt by omega) (show f1_.toInt ≤ 60 by omega) f3_ c79 (show 0 ≤ f3_.toInt by omega) (show f3_.toInt ≤ 400 by omega) f4_ c80 (show 0 ≤ f4_.toInt by omega) (show f4_.toInt ≤ 12 by omega) (show 3 * f3_.toInt ≤ 14 * f1_.toInt by omega) (show f3_.toInt ≤ 280 by omega) (show f4_.toInt ≤ 11 by omega)) (cwV 1 hC.2.2.2.2 gX12_clauseHere_X12_isDoingHere rfl rfl rfl (by decide +kernel) ⟨Nat.le_of_ble_eq_true rfl, Nat.le_of_ble_eq_true rfl⟩) rfl hl.1 rfl (Nat.le_of_ble_eq_true rfl) dX12_clauseHere_153 (fun r83 w85 H locs hp84 hw => ?_)
          obtain ⟨hT, k86, hg109⟩ := hp84
          have hF := hF.tr k86 (by decide)
          have c110 := k86.gi kM_at0 (by decide) c77
          have c111 := k86.gi kM_at0 (by decide) c81
          have c112 := k86.gi kM_at0 (by decide) c82
          rcases hg109 with ⟨rfl, ⟨x87, c88, rx87, tx87⟩, ⟨x89, c90, rx89, tx89⟩, ⟨x91, c92, rx91, tx91⟩, ⟨x93, c94, rx93, tx93⟩⟩ | ⟨rfl, ⟨x95, c96, rx95, tx95⟩, ⟨x97, c98, rx97, tx97⟩, ⟨x99, c100, rx99, tx99⟩, ⟨x101, c102, rx101, tx101⟩⟩ | ⟨rfl, ⟨x103, c104, rx103, tx103⟩, ⟨x105, c106, rx105, tx105⟩, g107, g108⟩
          · have ex87 : x87.toInt = x9.toInt := by rw [← c111.symm.trans c88]
            have ex91 : x91.toInt = (1 : Int) := by rw [show x91 = 1 from c92.symm.trans c110]; decide
            obtain ⟨x113, c114, rx113, tx113⟩ := hT.rda (lo := 0) (hi := 400) (i := 1) kM_at3 rfl rfl (by decide)
            obtain ⟨x115, c116, rx115, tx115⟩ := hT.rdi (lo := 0) (hi := 60) (k := 18) kM_at0 (by decide) rfl
            obtain ⟨x117, c118, rx117, tx117⟩ := hT.rda (lo := 0) (hi := 12) (i := 1) kM_at5 rfl rfl (by decide)
            exact tk_zret hC hr rfl hlocks hK ⟨hT, hF, (Or.inl ⟨rfl, ⟨x9, c111, (show 1 ≤ x9.toInt by omega), (show x9.toInt ≤ 400 by omega)⟩, ⟨x89, c90, (show 1 ≤ x89.toInt by omega), (show x89.toInt ≤ 3205 by omega)⟩, ⟨1, c110, (by decide), (by decide)⟩, ⟨x57, c112, (show 0 ≤ x57.toInt by omega), (show x57.toInt ≤ 12 by omega)⟩, (by simp only [cf2_, c112]; omega), (by simp only [c112]; omega)⟩)⟩ hw dX12_clauseHere_156
          · have ex95 : x95.toInt = x9.toInt := by rw [← c111.symm.trans c96]
            have ex99 : x99.toInt = (1 : Int) := by rw [show x99 = 1 from c100.symm.trans c110]; decide
            obtain ⟨x119, c120, rx119, tx119⟩ := hT.rda (lo := 0) (hi := 400) (i := 1) kM_at3 rfl rfl (by decide)
            obtain ⟨x121, c122, rx121, tx121⟩ := hT.rdi (lo := 0) (hi := 60) (k := 18) kM_at0 (by decide) rfl
            obtain ⟨x123, c124, rx123, tx123⟩ := hT.rda (lo := 0) (hi := 12) (i := 1) kM_at5 rfl rfl (by decide)
            exact tk_zret hC hr rfl hlocks hK ⟨hT, hF, (Or.inl ⟨rfl, ⟨x9, c111, (show 1 ≤ x9.toInt by omega), (show x9.toInt ≤ 400 by omega)⟩, ⟨x97, c98, (show 1 ≤ x97.toInt by omega), (show x97.toInt ≤ 3205 by omega)⟩, ⟨1, c110, (by decide), (by decide)⟩, ⟨x57, c112, (show 0 ≤ x57.toInt by omega), (show x57.toInt ≤ 12 by omega)⟩, (by simp only [cf2_, c112]; omega), (by simp only [c112]; omega)⟩)⟩ hw dX12_clauseHere_156
          · have ex103 : x103.toInt = x9.toInt := by rw [← c111.symm.trans c104]
            have ex105 : x105.toInt = (1 : Int) := by rw [show x105 = 1 from c106.symm.trans c110]; decide
            obtain ⟨x125, c126, rx125, tx125⟩ := hT.rda (lo := 0) (hi := 400) (i := 1) kM_at3 rfl rfl (by decide)
            obtain ⟨x127, c128, rx127, tx127⟩ := hT.rdi (lo := 0) (hi := 60) (k := 18) kM_at0 (by decide) rfl
            obtain ⟨x129, c130, rx129, tx129⟩ := hT.rda (lo := 0) (hi := 12) (i := 1) kM_at5 rfl rfl (by decide)
            have g107 : 3 * x125.toInt ≤ 14 * x127.toInt := by have q := g107; simp only [c126, c128] at q; omega
            have g108 : x129.toInt = f4_.toInt + 1 := by have q := g108; simp only [c80, c130] at q; omega
            exact tk_zret hC hr rfl hlocks hK ⟨hT, hF, (Or.inr (Or.inr (Or.inl ⟨rfl, ⟨x9, c111, (show 1 ≤ x9.toInt by omega), (show x9.toInt ≤ 400 by omega)⟩, ⟨1, c110, (by decide), (by decide)⟩, ⟨x57, c112, (show 1 ≤ x57.toInt by omega), (show x57.toInt ≤ 12 by omega)⟩, (by simp only [c126, c128]; omega), (by simp only [c130, c112]; omega), (by simp only [cf2_, c112]; omega), (by simp only [c112]; omega)⟩)))⟩ hw dX12_clauseHere_156
        · have ex74 : x74.toInt = x9.toInt := by rw [← c81.symm.trans c75]
          refine tk_Vi hC hK hw hT hA hE hSR kM_at0 (by decide) rfl (k_X12_isDoingHere_3 l adK adV dC dI cy ad B (by omega) (by omega) qr s1    w68 H.size hT c77 f1_ c78 (show 0 ≤ f1_.toInt by omega) (show f1_.toInt ≤ 60 by omega) f3_ c79 (show 0 ≤ f3_.toInt by omega) (show f3_.toInt ≤ 400 by omega) f4_ c80 (show 0 ≤ f4_.toInt by omega) (show f4_.toInt ≤ 12 by omega) (show 3 * f3_.toInt ≤ 14 * f1_.toInt by omega) (show f3_.toInt ≤ 280 by omega) (show f4_.toInt ≤ 11 by omega)) (cwV 1 hC.2.2.2.2 gX12_clauseHere_X12_isDoingHere rfl rfl rfl (by decide +kernel) ⟨Nat.le_of_ble_eq_true rfl, Nat.le_of_ble_eq_true rfl⟩) rfl hl.1 rfl (Nat.le_of_ble_eq_true rfl) dX12_clauseHere_153 (fun r131 w133 H locs hp132 hw => ?_)
          obtain ⟨hT, k134, hg157⟩ := hp132
          have hF := hF.tr k134 (by decide)
          have c158 := k134.gi kM_at0 (by decide) c77
          have c159 := k134.gi kM_at0 (by decide) c81
          have c160 := k134.gi kM_at0 (by decide) c82
          rcases hg157 with ⟨rfl, ⟨x135, c136, rx135, tx135⟩, ⟨x137, c138, rx137, tx137⟩, ⟨x139, c140, rx139, tx139⟩, ⟨x141, c142, rx141, tx141⟩⟩ | ⟨rfl, ⟨x143, c144, rx143, tx143⟩, ⟨x145, c146, rx145, tx145⟩, ⟨x147, c148, rx147, tx147⟩, ⟨x149, c150, rx149, tx149⟩⟩ | ⟨rfl, ⟨x151, c152, rx151, tx151⟩, ⟨x153, c154, rx153, tx153⟩, g155, g156⟩
          · have ex135 : x135.toInt = x9.toInt := by rw [← c159.symm.trans c136]
            have ex139 : x139.toInt = (1 : Int) := by rw [show x139 = 1 from c140.symm.trans c158]; decide
            obtain ⟨x161, c162, rx161, tx161⟩ := hT.rda (lo := 0) (hi := 400) (i := 1) kM_at3 rfl rfl (by decide)
            obtain ⟨x163, c164, rx163, tx163⟩ := hT.rdi (lo := 0) (hi := 60) (k := 18) kM_at0 (by decide) rfl
            obtain ⟨x165, c166, rx165, tx165⟩ := hT.rda (lo := 0) (hi := 12) (i := 1) kM_at5 rfl rfl (by decide)
            exact tk_zret hC hr rfl hlocks hK ⟨hT, hF, (Or.inl ⟨rfl, ⟨x9, c159, (show 1 ≤ x9.toInt by omega), (show x9.toInt ≤ 400 by omega)⟩, ⟨x137, c138, (show 1 ≤ x137.toInt by omega), (show x137.toInt ≤ 3205 by omega)⟩, ⟨1, c158, (by decide), (by decide)⟩, ⟨x57, c160, (show 0 ≤ x57.toInt by omega), (show x57.toInt ≤ 12 by omega)⟩, (by simp only [cf2_, c160]; omega), (by simp only [c160]; omega)⟩)⟩ hw dX12_clauseHere_156
          · have ex143 : x143.toInt = x9.toInt := by rw [← c159.symm.trans c144]
            have ex147 : x147.toInt = (1 : Int) := by rw [show x147 = 1 from c148.symm.trans c158]; decide
            obtain ⟨x167, c168, rx167, tx167⟩ := hT.rda (lo := 0) (hi := 400) (i := 1) kM_at3 rfl rfl (by decide)
            obtain ⟨x169, c170, rx169, tx169⟩ := hT.rdi (lo := 0) (hi := 60) (k := 18) kM_at0 (by decide) rfl
            obtain ⟨x171, c172, rx171, tx171⟩ := hT.rda (lo := 0) (hi := 12) (i := 1) kM_at5 rfl rfl (by decide)
            exact tk_zret hC hr rfl hlocks hK ⟨hT, hF, (Or.inl ⟨rfl, ⟨x9, c159, (show 1 ≤ x9.toInt by omega), (show x9.toInt ≤ 400 by omega)⟩, ⟨x145, c146, (show 1 ≤ x145.toInt by omega), (show x145.toInt ≤ 3205 by omega)⟩, ⟨1, c158, (by decide), (by decide)⟩, ⟨x57, c160, (show 0 ≤ x57.toInt by omega), (show x57.toInt ≤ 12 by omega)⟩, (by simp only [cf2_, c160]; omega), (by simp only [c160]; omega)⟩)⟩ hw dX12_clauseHere_156
          · have ex151 : x151.toInt = x9.toInt := by rw [← c159.symm.trans c152]
            have ex153 : x153.toInt = (1 : Int) := by rw [show x153 = 1 from c154.symm.trans c158]; decide
            obtain ⟨x173, c174, rx173, tx173⟩ := hT.rda (lo := 0) (hi := 400) (i := 1) kM_at3 rfl rfl (by decide)
            obtain ⟨x175, c176, rx175, tx175⟩ := hT.rdi (lo := 0) (hi := 60) (k := 18) kM_at0 (by decide) rfl
            obtain ⟨x177, c178, rx177, tx177⟩ := hT.rda (lo := 0) (hi := 12) (i := 1) kM_at5 rfl rfl (by decide)
            have g155 : 3 * x173.toInt ≤ 14 * x175.toInt := by have q := g155; simp only [c174, c176] at q; omega
            have g156 : x177.toInt = f4_.toInt + 1 := by have q := g156; simp only [c80, c178] at q; omega
            exact tk_zret hC hr rfl hlocks hK ⟨hT, hF, (Or.inr (Or.inr (Or.inl ⟨rfl, ⟨x9, c159, (show 1 ≤ x9.toInt by omega), (show x9.toInt ≤ 400 by omega)⟩, ⟨1, c158, (by decide), (by decide)⟩, ⟨x57, c160, (show 1 ≤ x57.toInt by omega), (show x57.toInt ≤ 12 by omega)⟩, (by simp only [c174, c176]; omega), (by simp only [c178, c160]; omega), (by simp only [cf2_, c160]; omega), (by simp only [c160]; omega)⟩)))⟩ hw dX12_clauseHere_156
      · have c54 : f2_.toInt = (12 : Int) := wk_eq.mp c54
        refine lv_aload_n hx hb dX12_clauseHere_119 rfl (lv_at hl 3 rfl) ?_
        refine lv_iconst (v := 4) hx hb dX12_clauseHere_120 (by decide) ?_
        refine lv_iload_n hx hb dX12_clauseHere_121 rfl (lv_at hl 2 rfl) ?_
        refine tk_Vi hC hK hw hT hA hE hSR kM_at0 (by decide) rfl (k_X12_fails_1 l adK adV dC dI cy ad B (by omega) (by omega) qr s1   4 (by decide) (by decide) x11 (show 0 ≤ x11.toInt by omega) (show x11.toInt ≤ 400 by omega) w37 H.size hT ) (cwV 2 hC.2.2.2.2 gX12_clauseHere_X12_fails rfl rfl rfl (by decide +kernel) ⟨Nat.le_of_ble_eq_true rfl, Nat.le_of_ble_eq_true rfl⟩) rfl hl.1 rfl (Nat.le_of_ble_eq_true rfl) dX12_clauseHere_122 (fun r179 w181 H locs hp180 hw => ?_)
        obtain ⟨hT, k182, hg185⟩ := hp180
        have hF := hF.tr k182 (by decide)
        have c186 := k182.gi kM_at0 (by decide) c46
        have c187 := k182.gi kM_at0 (by decide) c47
        have c188 := k182.gi kM_at0 (by decide) c48
        have c189 := k182.gi kM_at3 (by decide) c49
        have c190 := k182.gi kM_at5 (by decide) c50
        have c191 := k182.gi kM_at0 (by decide) c51
        obtain ⟨rfl, ⟨x183, c184, rx183, tx183⟩⟩ := hg185
        exact tk_zret hC hr rfl hlocks hK ⟨hT, hF, (Or.inl ⟨rfl, ⟨x9, c191, (show 1 ≤ x9.toInt by omega), (show x9.toInt ≤ 400 by omega)⟩, ⟨x183, c184, (show 1 ≤ x183.toInt by omega), (show x183.toInt ≤ 3205 by omega)⟩, ⟨1, c186, (by decide), (by decide)⟩, ⟨f2_, c188, (show 0 ≤ f2_.toInt by omega), (show f2_.toInt ≤ 12 by omega)⟩, (by simp only [cf2_, c188]; omega), (by simp only [c188]; omega)⟩)⟩ hw dX12_clauseHere_125
    · have ex43 : x43.toInt = x9.toInt := by rw [← c51.symm.trans c44]
      refine lv_if_lt (tgt := 88) hx hb dX12_clauseHere_81 (by decide) (fun _ => ?_) (fun c => absurd (by decide) c)
      refine lv_iconst (v := 0) hx hb dX12_clauseHere_88 (by decide) ?_
      refine lv_istore_n (lv' := [(3, .int 0), (2, .int 0), (1, .int x11), (0, .ref (ad 0))]) hx hb dX12_clauseHere_89 rfl hl (by decide) rfl (fun ls hl => ?_)
      refine lv_iload_n hx hb dX12_clauseHere_90 rfl (lv_at hl 0 rfl) ?_
      refine lv_if_ne (tgt := 101) hx hb dX12_clauseHere_91 (by decide) (fun c => absurd (by decide) c) (fun _ => ?_)
      refine lv_aload_n hx hb dX12_clauseHere_94 rfl (lv_at hl 3 rfl) ?_
      refine lv_iconst (v := 0) hx hb dX12_clauseHere_95 (by decide) ?_
      refine lv_iload_n hx hb dX12_clauseHere_96 rfl (lv_at hl 2 rfl) ?_
      refine tk_Vi hC hK hw hT hA hE hSR kM_at0 (by decide) rfl (k_X12_fails_1 l adK adV dC dI cy ad B (by omega) (by omega) qr s1   0 (by decide) (by decide) x11 (show 0 ≤ x11.toInt by omega) (show x11.toInt ≤ 400 by omega) w37 H.size hT ) (cwV 2 hC.2.2.2.2 gX12_clauseHere_X12_fails rfl rfl rfl (by decide +kernel) ⟨Nat.le_of_ble_eq_true rfl, Nat.le_of_ble_eq_true rfl⟩) rfl hl.1 rfl (Nat.le_of_ble_eq_true rfl) dX12_clauseHere_97 (fun r192 w194 H locs hp193 hw => ?_)
      obtain ⟨hT, k195, hg198⟩ := hp193
      have hF := hF.tr k195 (by decide)
      have c199 := k195.gi kM_at0 (by decide) c46
      have c200 := k195.gi kM_at0 (by decide) c47
      have c201 := k195.gi kM_at0 (by decide) c48
      have c202 := k195.gi kM_at3 (by decide) c49
      have c203 := k195.gi kM_at5 (by decide) c50
      have c204 := k195.gi kM_at0 (by decide) c51
      obtain ⟨rfl, ⟨x196, c197, rx196, tx196⟩⟩ := hg198
      exact tk_zret hC hr rfl hlocks hK ⟨hT, hF, (Or.inl ⟨rfl, ⟨x9, c204, (show 1 ≤ x9.toInt by omega), (show x9.toInt ≤ 400 by omega)⟩, ⟨x196, c197, (show 1 ≤ x196.toInt by omega), (show x196.toInt ≤ 3205 by omega)⟩, ⟨1, c199, (by decide), (by decide)⟩, ⟨f2_, c201, (show 0 ≤ f2_.toInt by omega), (show f2_.toInt ≤ 12 by omega)⟩, (by simp only [cf2_, c201]; omega), (by simp only [c201]; omega)⟩)⟩ hw dX12_clauseHere_100
  · have g19 : (x17.toInt = x1.toInt ∨ (gi w0 1 (x1.toInt).toNat).toInt = 32) := by have q := g19; simp only [c2, c18] at q; omega
    refine lv_pop hx hb dX12_clauseHere_4 rfl ?_
    refine lv_aload_n hx hb dX12_clauseHere_5 rfl (lv_at hl 0 rfl) ?_
    refine tk_geti hC hK hw hT hinX12 kM_at0 (by decide) rfl 14 (by decide) (List.mem_of_getElem? (i := 1) rfl) rfl rfl dX12_clauseHere_6 (fun x205 c206 rx205 tx205 => ?_)
    refine wk_top x17 (c206.symm.trans c18) ?_
    refine lv_istore_n (lv' := [(1, .int x17), (0, .ref (ad 0))]) hx hb dX12_clauseHere_9 rfl hl (by decide) rfl (fun ls hl => ?_)
    refine lv_aload_n hx hb dX12_clauseHere_10 rfl (lv_at hl 1 rfl) ?_
    refine tk_geti hC hK hw hT hinX12 kM_at0 (by decide) rfl 17 (by decide) (List.mem_of_getElem? (i := 2) rfl) rfl rfl dX12_clauseHere_11 (fun x207 c208 rx207 tx207 => ?_)
    refine wk_top 1 (c208.symm.trans c24) ?_
    refine lv_bipush (v := 6) hx hb dX12_clauseHere_14 (by decide) ?_
    refine lv_icmp_ne (tgt := 23) hx hb dX12_clauseHere_16 (by decide) (fun _ => ?_) (fun c => absurd c (by decide))
    refine lv_iconst (v := 0) hx hb dX12_clauseHere_23 (by decide) ?_
    refine lv_istore_n (lv' := [(2, .int 0), (1, .int x17), (0, .ref (ad 0))]) hx hb dX12_clauseHere_24 rfl hl (by decide) rfl (fun ls hl => ?_)
    refine lv_iload_n hx hb dX12_clauseHere_25 rfl (lv_at hl 0 rfl) ?_
    refine lv_if_eq (tgt := 77) hx hb dX12_clauseHere_26 (by decide) (fun _ => ?_) (fun c => absurd (by decide) c)
    refine lv_aload_n hx hb dX12_clauseHere_77 rfl (lv_at hl 2 rfl) ?_
    refine tk_Vi hC hK hw hT hA hE hSR kM_at0 (by decide) rfl (k_X12_doingSort_1 l adK adV dC dI cy ad B (by omega) (by omega) qr s1    w5 H.size hT ) (cwV 0 hC.2.2.2.2 gX12_clauseHere_X12_doingSort rfl rfl rfl (by decide +kernel) ⟨Nat.le_of_ble_eq_true rfl, Nat.le_of_ble_eq_true rfl⟩) rfl hl.1 rfl (Nat.le_of_ble_eq_true rfl) dX12_clauseHere_78 (fun r209 w211 H locs hp210 hw => ?_)
    obtain ⟨hT, k212, hg219⟩ := hp210
    have hF := hF.tr k212 (by decide)
    have c220 := k212.gi kM_at0 (by decide) c24
    have c221 := k212.gi kM_at0 (by decide) c25
    have c222 := k212.gi kM_at0 (by decide) c26
    have c223 := k212.gi kM_at3 (by decide) c27
    have c224 := k212.gi kM_at5 (by decide) c28
    have c225 := k212.gi kM_at0 (by decide) c16
    rcases hg219 with ⟨g213, g214, ⟨x215, c216, rx215, tx215⟩⟩ | ⟨rfl, ⟨x217, c218, rx217, tx217⟩⟩
    · have ex215 : x215.toInt = x15.toInt := by rw [← c225.symm.trans c216]
      refine lv_if_lt (tgt := 88) hx hb dX12_clauseHere_81 (by decide) (fun c => absurd c (fun h => absurd (show r209.toInt < (0 : Int) from wk_lt.mp h) (by omega))) (fun _ => ?_)
      refine lv_iconst (v := 1) hx hb dX12_clauseHere_84 (by decide) ?_
      refine lv_goto (tgt := 89) hx hb dX12_clauseHere_85 (by decide) ?_
      refine lv_istore_n (lv' := [(3, .int 1), (2, .int 0), (1, .int x17), (0, .ref (ad 0))]) hx hb dX12_clauseHere_89 rfl hl (by decide) rfl (fun ls hl => ?_)
      refine lv_iload_n hx hb dX12_clauseHere_90 rfl (lv_at hl 0 rfl) ?_
      refine lv_if_ne (tgt := 101) hx hb dX12_clauseHere_91 (by decide) (fun _ => ?_) (fun c => absurd c (by decide))
      refine lv_aload_n hx hb dX12_clauseHere_101 rfl (lv_at hl 3 rfl) ?_
      refine tk_geti hC hK hw hT hinX12 kM_at0 (by decide) rfl 20 (by decide) (List.mem_of_getElem? (i := 7) rfl) rfl rfl dX12_clauseHere_102 (fun x226 c227 rx226 tx226 => ?_)
      refine wk_top f2_ (c227.symm.trans c222) ?_
      refine lv_iload_n hx hb dX12_clauseHere_105 rfl (lv_at hl 1 rfl) ?_
      refine lv_if_eq (tgt := 114) hx hb dX12_clauseHere_106 (by decide) (fun _ => ?_) (fun c => absurd (by decide) c)
      refine lv_bipush (v := 12) hx hb dX12_clauseHere_114 (by decide) ?_
      refine lv_icmp_ne (tgt := 126) hx hb dX12_clauseHere_116 (by decide) (fun c228 => ?_) (fun c228 => ?_)
      · have c228 : ¬ f2_.toInt = (12 : Int) := wk_eqF c228
        refine lv_aload_n hx hb dX12_clauseHere_126 rfl (lv_at hl 3 rfl) ?_
        refine lv_dup hx hb dX12_clauseHere_127 rfl ?_
        refine tk_geti hC hK hw hT hinX12 kM_at0 (by decide) rfl 20 (by decide) (List.mem_of_getElem? (i := 7) rfl) rfl rfl dX12_clauseHere_128 (fun x229 c230 rx229 tx229 => ?_)
        refine wk_top f2_ (c230.symm.trans c222) ?_
        refine lv_iconst (v := 1) hx hb dX12_clauseHere_131 (by decide) ?_
        refine lv_iadd hx hb dX12_clauseHere_132 ?_
        refine lv_topi (fun x231 ex231 => ?_)
        have ex231 : x231.toInt = f2_.toInt + (1 : Int) := by rw [ex231]; exact wk_add (show (-2147483648) ≤ f2_.toInt + (1 : Int) by omega) (show f2_.toInt + (1 : Int) ≤ 2147483647 by omega)
        refine tk_puti hC hK hw hT hinX12 tyX12_ok nmX12 kM_at0 (by decide) rfl rfl 20 (by decide) (List.mem_of_getElem? (i := 7) rfl) rfl rfl rfl rfl (show 0 ≤ x231.toInt by omega) (show x231.toInt ≤ 32 by omega) dX12_clauseHere_133 (fun H locs w232 hw hT k234 c233 => ?_)
        have hF := hF.put kM_at0 (k := 20) (by decide) k234
        have c235 := k234.gi (Or.inr (by decide)) c220
        have c236 := k234.gi (Or.inr (by decide)) c221
        have c237 := k234.gi (Or.inr (by decide)) c223
        have c238 := k234.gi (Or.inr (by decide)) c224
        have c239 := k234.gi (Or.inr (by decide)) c225
        refine lv_iload_n hx hb dX12_clauseHere_136 rfl (lv_at hl 1 rfl) ?_
        refine lv_if_eq (tgt := 148) hx hb dX12_clauseHere_137 (by decide) (fun _ => ?_) (fun c => absurd (by decide) c)
        refine lv_aload_n hx hb dX12_clauseHere_148 rfl (lv_at hl 3 rfl) ?_
        refine lv_aload_n hx hb dX12_clauseHere_149 rfl (lv_at hl 3 rfl) ?_
        refine tk_Vi hC hK hw hT hA hE hSR kM_at0 (by decide) rfl (k_X12_doingSort_1 l adK adV dC dI cy ad B (by omega) (by omega) qr s1    w232 H.size hT ) (cwV 0 hC.2.2.2.2 gX12_clauseHere_X12_doingSort rfl rfl rfl (by decide +kernel) ⟨Nat.le_of_ble_eq_true rfl, Nat.le_of_ble_eq_true rfl⟩) rfl hl.1 rfl (Nat.le_of_ble_eq_true rfl) dX12_clauseHere_150 (fun r240 w242 H locs hp241 hw => ?_)
        obtain ⟨hT, k243, hg250⟩ := hp241
        have hF := hF.tr k243 (by decide)
        have c251 := k243.gi kM_at0 (by decide) c235
        have c252 := k243.gi kM_at0 (by decide) c236
        have c253 := k243.gi kM_at3 (by decide) c237
        have c254 := k243.gi kM_at5 (by decide) c238
        have c255 := k243.gi kM_at0 (by decide) c239
        have c256 := k243.gi kM_at0 (by decide) c233
        rcases hg250 with ⟨g244, g245, ⟨x246, c247, rx246, tx246⟩⟩ | ⟨rfl, ⟨x248, c249, rx248, tx248⟩⟩
        · have ex246 : x246.toInt = x15.toInt := by rw [← c255.symm.trans c247]
          refine tk_Vi hC hK hw hT hA hE hSR kM_at0 (by decide) rfl (k_X12_isDoingHere_4 l adK adV dC dI cy ad B (by omega) (by omega) qr s1   r240 (show 0 ≤ r240.toInt by omega) (show r240.toInt ≤ 3 by omega) w242 H.size hT c251 f1_ c252 (show 0 ≤ f1_.toInt by omega) (show f1_.toInt ≤ 60 by omega) f3_ c253 (show 0 ≤ f3_.toInt by omega) (show f3_.toInt ≤ 400 by omega) f4_ c254 (show 0 ≤ f4_.toInt by omega) (show f4_.toInt ≤ 12 by omega) (show 3 * f3_.toInt ≤ 14 * f1_.toInt by omega) (show f3_.toInt ≤ 280 by omega) (show f4_.toInt ≤ 11 by omega)) (cwV 1 hC.2.2.2.2 gX12_clauseHere_X12_isDoingHere rfl rfl rfl (by decide +kernel) ⟨Nat.le_of_ble_eq_true rfl, Nat.le_of_ble_eq_true rfl⟩) rfl hl.1 rfl (Nat.le_of_ble_eq_true rfl) dX12_clauseHere_153 (fun r257 w259 H locs hp258 hw => ?_)
          obtain ⟨hT, k260, hg283⟩ := hp258
          have hF := hF.tr k260 (by decide)
          have c284 := k260.gi kM_at0 (by decide) c251
          have c285 := k260.gi kM_at0 (by decide) c255
          have c286 := k260.gi kM_at0 (by decide) c256
          rcases hg283 with ⟨rfl, ⟨x261, c262, rx261, tx261⟩, ⟨x263, c264, rx263, tx263⟩, ⟨x265, c266, rx265, tx265⟩, ⟨x267, c268, rx267, tx267⟩⟩ | ⟨rfl, ⟨x269, c270, rx269, tx269⟩, ⟨x271, c272, rx271, tx271⟩, ⟨x273, c274, rx273, tx273⟩, ⟨x275, c276, rx275, tx275⟩⟩ | ⟨rfl, ⟨x277, c278, rx277, tx277⟩, ⟨x279, c280, rx279, tx279⟩, g281, g282⟩
          · have ex261 : x261.toInt = x15.toInt := by rw [← c285.symm.trans c262]
            have ex265 : x265.toInt = (1 : Int) := by rw [show x265 = 1 from c266.symm.trans c284]; decide
            obtain ⟨x287, c288, rx287, tx287⟩ := hT.rda (lo := 0) (hi := 400) (i := 1) kM_at3 rfl rfl (by decide)
            obtain ⟨x289, c290, rx289, tx289⟩ := hT.rdi (lo := 0) (hi := 60) (k := 18) kM_at0 (by decide) rfl
            obtain ⟨x291, c292, rx291, tx291⟩ := hT.rda (lo := 0) (hi := 12) (i := 1) kM_at5 rfl rfl (by decide)
            exact tk_zret hC hr rfl hlocks hK ⟨hT, hF, (Or.inl ⟨rfl, ⟨x15, c285, (show 1 ≤ x15.toInt by omega), (show x15.toInt ≤ 400 by omega)⟩, ⟨x263, c264, (show 1 ≤ x263.toInt by omega), (show x263.toInt ≤ 3205 by omega)⟩, ⟨1, c284, (by decide), (by decide)⟩, ⟨x231, c286, (show 0 ≤ x231.toInt by omega), (show x231.toInt ≤ 12 by omega)⟩, (by simp only [cf2_, c286]; omega), (by simp only [c286]; omega)⟩)⟩ hw dX12_clauseHere_156
          · have ex269 : x269.toInt = x15.toInt := by rw [← c285.symm.trans c270]
            have ex273 : x273.toInt = (1 : Int) := by rw [show x273 = 1 from c274.symm.trans c284]; decide
            obtain ⟨x293, c294, rx293, tx293⟩ := hT.rda (lo := 0) (hi := 400) (i := 1) kM_at3 rfl rfl (by decide)
            obtain ⟨x295, c296, rx295, tx295⟩ := hT.rdi (lo := 0) (hi := 60) (k := 18) kM_at0 (by decide) rfl
            obtain ⟨x297, c298, rx297, tx297⟩ := hT.rda (lo := 0) (hi := 12) (i := 1) kM_at5 rfl rfl (by decide)
            exact tk_zret hC hr rfl hlocks hK ⟨hT, hF, (Or.inl ⟨rfl, ⟨x15, c285, (show 1 ≤ x15.toInt by omega), (show x15.toInt ≤ 400 by omega)⟩, ⟨x271, c272, (show 1 ≤ x271.toInt by omega), (show x271.toInt ≤ 3205 by omega)⟩, ⟨1, c284, (by decide), (by decide)⟩, ⟨x231, c286, (show 0 ≤ x231.toInt by omega), (show x231.toInt ≤ 12 by omega)⟩, (by simp only [cf2_, c286]; omega), (by simp only [c286]; omega)⟩)⟩ hw dX12_clauseHere_156
          · have ex277 : x277.toInt = x15.toInt := by rw [← c285.symm.trans c278]
            have ex279 : x279.toInt = (1 : Int) := by rw [show x279 = 1 from c280.symm.trans c284]; decide
            obtain ⟨x299, c300, rx299, tx299⟩ := hT.rda (lo := 0) (hi := 400) (i := 1) kM_at3 rfl rfl (by decide)
            obtain ⟨x301, c302, rx301, tx301⟩ := hT.rdi (lo := 0) (hi := 60) (k := 18) kM_at0 (by decide) rfl
            obtain ⟨x303, c304, rx303, tx303⟩ := hT.rda (lo := 0) (hi := 12) (i := 1) kM_at5 rfl rfl (by decide)
            have g281 : 3 * x299.toInt ≤ 14 * x301.toInt := by have q := g281; simp only [c300, c302] at q; omega
            have g282 : x303.toInt = f4_.toInt + 1 := by have q := g282; simp only [c254, c304] at q; omega
            exact tk_zret hC hr rfl hlocks hK ⟨hT, hF, (Or.inr (Or.inr (Or.inl ⟨rfl, ⟨x15, c285, (show 1 ≤ x15.toInt by omega), (show x15.toInt ≤ 400 by omega)⟩, ⟨1, c284, (by decide), (by decide)⟩, ⟨x231, c286, (show 1 ≤ x231.toInt by omega), (show x231.toInt ≤ 12 by omega)⟩, (by simp only [c300, c302]; omega), (by simp only [c304, c286]; omega), (by simp only [cf2_, c286]; omega), (by simp only [c286]; omega)⟩)))⟩ hw dX12_clauseHere_156
        · have ex248 : x248.toInt = x15.toInt := by rw [← c255.symm.trans c249]
          refine tk_Vi hC hK hw hT hA hE hSR kM_at0 (by decide) rfl (k_X12_isDoingHere_3 l adK adV dC dI cy ad B (by omega) (by omega) qr s1    w242 H.size hT c251 f1_ c252 (show 0 ≤ f1_.toInt by omega) (show f1_.toInt ≤ 60 by omega) f3_ c253 (show 0 ≤ f3_.toInt by omega) (show f3_.toInt ≤ 400 by omega) f4_ c254 (show 0 ≤ f4_.toInt by omega) (show f4_.toInt ≤ 12 by omega) (show 3 * f3_.toInt ≤ 14 * f1_.toInt by omega) (show f3_.toInt ≤ 280 by omega) (show f4_.toInt ≤ 11 by omega)) (cwV 1 hC.2.2.2.2 gX12_clauseHere_X12_isDoingHere rfl rfl rfl (by decide +kernel) ⟨Nat.le_of_ble_eq_true rfl, Nat.le_of_ble_eq_true rfl⟩) rfl hl.1 rfl (Nat.le_of_ble_eq_true rfl) dX12_clauseHere_153 (fun r305 w307 H locs hp306 hw => ?_)
          obtain ⟨hT, k308, hg331⟩ := hp306
          have hF := hF.tr k308 (by decide)
          have c332 := k308.gi kM_at0 (by decide) c251
          have c333 := k308.gi kM_at0 (by decide) c255
          have c334 := k308.gi kM_at0 (by decide) c256
          rcases hg331 with ⟨rfl, ⟨x309, c310, rx309, tx309⟩, ⟨x311, c312, rx311, tx311⟩, ⟨x313, c314, rx313, tx313⟩, ⟨x315, c316, rx315, tx315⟩⟩ | ⟨rfl, ⟨x317, c318, rx317, tx317⟩, ⟨x319, c320, rx319, tx319⟩, ⟨x321, c322, rx321, tx321⟩, ⟨x323, c324, rx323, tx323⟩⟩ | ⟨rfl, ⟨x325, c326, rx325, tx325⟩, ⟨x327, c328, rx327, tx327⟩, g329, g330⟩
          · have ex309 : x309.toInt = x15.toInt := by rw [← c333.symm.trans c310]
            have ex313 : x313.toInt = (1 : Int) := by rw [show x313 = 1 from c314.symm.trans c332]; decide
            obtain ⟨x335, c336, rx335, tx335⟩ := hT.rda (lo := 0) (hi := 400) (i := 1) kM_at3 rfl rfl (by decide)
            obtain ⟨x337, c338, rx337, tx337⟩ := hT.rdi (lo := 0) (hi := 60) (k := 18) kM_at0 (by decide) rfl
            obtain ⟨x339, c340, rx339, tx339⟩ := hT.rda (lo := 0) (hi := 12) (i := 1) kM_at5 rfl rfl (by decide)
            exact tk_zret hC hr rfl hlocks hK ⟨hT, hF, (Or.inl ⟨rfl, ⟨x15, c333, (show 1 ≤ x15.toInt by omega), (show x15.toInt ≤ 400 by omega)⟩, ⟨x311, c312, (show 1 ≤ x311.toInt by omega), (show x311.toInt ≤ 3205 by omega)⟩, ⟨1, c332, (by decide), (by decide)⟩, ⟨x231, c334, (show 0 ≤ x231.toInt by omega), (show x231.toInt ≤ 12 by omega)⟩, (by simp only [cf2_, c334]; omega), (by simp only [c334]; omega)⟩)⟩ hw dX12_clauseHere_156
          · have ex317 : x317.toInt = x15.toInt := by rw [← c333.symm.trans c318]
            have ex321 : x321.toInt = (1 : Int) := by rw [show x321 = 1 from c322.symm.trans c332]; decide
            obtain ⟨x341, c342, rx341, tx341⟩ := hT.rda (lo := 0) (hi := 400) (i := 1) kM_at3 rfl rfl (by decide)
            obtain ⟨x343, c344, rx343, tx343⟩ := hT.rdi (lo := 0) (hi := 60) (k := 18) kM_at0 (by decide) rfl
            obtain ⟨x345, c346, rx345, tx345⟩ := hT.rda (lo := 0) (hi := 12) (i := 1) kM_at5 rfl rfl (by decide)
            exact tk_zret hC hr rfl hlocks hK ⟨hT, hF, (Or.inl ⟨rfl, ⟨x15, c333, (show 1 ≤ x15.toInt by omega), (show x15.toInt ≤ 400 by omega)⟩, ⟨x319, c320, (show 1 ≤ x319.toInt by omega), (show x319.toInt ≤ 3205 by omega)⟩, ⟨1, c332, (by decide), (by decide)⟩, ⟨x231, c334, (show 0 ≤ x231.toInt by omega), (show x231.toInt ≤ 12 by omega)⟩, (by simp only [cf2_, c334]; omega), (by simp only [c334]; omega)⟩)⟩ hw dX12_clauseHere_156
          · have ex325 : x325.toInt = x15.toInt := by rw [← c333.symm.trans c326]
            have ex327 : x327.toInt = (1 : Int) := by rw [show x327 = 1 from c328.symm.trans c332]; decide
            obtain ⟨x347, c348, rx347, tx347⟩ := hT.rda (lo := 0) (hi := 400) (i := 1) kM_at3 rfl rfl (by decide)
            obtain ⟨x349, c350, rx349, tx349⟩ := hT.rdi (lo := 0) (hi := 60) (k := 18) kM_at0 (by decide) rfl
            obtain ⟨x351, c352, rx351, tx351⟩ := hT.rda (lo := 0) (hi := 12) (i := 1) kM_at5 rfl rfl (by decide)
            have g329 : 3 * x347.toInt ≤ 14 * x349.toInt := by have q := g329; simp only [c348, c350] at q; omega
            have g330 : x351.toInt = f4_.toInt + 1 := by have q := g330; simp only [c254, c352] at q; omega
            exact tk_zret hC hr rfl hlocks hK ⟨hT, hF, (Or.inr (Or.inr (Or.inl ⟨rfl, ⟨x15, c333, (show 1 ≤ x15.toInt by omega), (show x15.toInt ≤ 400 by omega)⟩, ⟨1, c332, (by decide), (by decide)⟩, ⟨x231, c334, (show 1 ≤ x231.toInt by omega), (show x231.toInt ≤ 12 by omega)⟩, (by simp only [c348, c350]; omega), (by simp only [c352, c334]; omega), (by simp only [cf2_, c334]; omega), (by simp only [c334]; omega)⟩)))⟩ hw dX12_clauseHere_156
      · have c228 : f2_.toInt = (12 : Int) := wk_eq.mp c228
        refine lv_aload_n hx hb dX12_clauseHere_119 rfl (lv_at hl 3 rfl) ?_
        refine lv_iconst (v := 4) hx hb dX12_clauseHere_120 (by decide) ?_
        refine lv_iload_n hx hb dX12_clauseHere_121 rfl (lv_at hl 2 rfl) ?_
        refine tk_Vi hC hK hw hT hA hE hSR kM_at0 (by decide) rfl (k_X12_fails_1 l adK adV dC dI cy ad B (by omega) (by omega) qr s1   4 (by decide) (by decide) x17 (show 0 ≤ x17.toInt by omega) (show x17.toInt ≤ 400 by omega) w211 H.size hT ) (cwV 2 hC.2.2.2.2 gX12_clauseHere_X12_fails rfl rfl rfl (by decide +kernel) ⟨Nat.le_of_ble_eq_true rfl, Nat.le_of_ble_eq_true rfl⟩) rfl hl.1 rfl (Nat.le_of_ble_eq_true rfl) dX12_clauseHere_122 (fun r353 w355 H locs hp354 hw => ?_)
        obtain ⟨hT, k356, hg359⟩ := hp354
        have hF := hF.tr k356 (by decide)
        have c360 := k356.gi kM_at0 (by decide) c220
        have c361 := k356.gi kM_at0 (by decide) c221
        have c362 := k356.gi kM_at0 (by decide) c222
        have c363 := k356.gi kM_at3 (by decide) c223
        have c364 := k356.gi kM_at5 (by decide) c224
        have c365 := k356.gi kM_at0 (by decide) c225
        obtain ⟨rfl, ⟨x357, c358, rx357, tx357⟩⟩ := hg359
        exact tk_zret hC hr rfl hlocks hK ⟨hT, hF, (Or.inl ⟨rfl, ⟨x15, c365, (show 1 ≤ x15.toInt by omega), (show x15.toInt ≤ 400 by omega)⟩, ⟨x357, c358, (show 1 ≤ x357.toInt by omega), (show x357.toInt ≤ 3205 by omega)⟩, ⟨1, c360, (by decide), (by decide)⟩, ⟨f2_, c362, (show 0 ≤ f2_.toInt by omega), (show f2_.toInt ≤ 12 by omega)⟩, (by simp only [cf2_, c362]; omega), (by simp only [c362]; omega)⟩)⟩ hw dX12_clauseHere_125
    · have ex217 : x217.toInt = x15.toInt := by rw [← c225.symm.trans c218]
      refine lv_if_lt (tgt := 88) hx hb dX12_clauseHere_81 (by decide) (fun _ => ?_) (fun c => absurd (by decide) c)
      refine lv_iconst (v := 0) hx hb dX12_clauseHere_88 (by decide) ?_
      refine lv_istore_n (lv' := [(3, .int 0), (2, .int 0), (1, .int x17), (0, .ref (ad 0))]) hx hb dX12_clauseHere_89 rfl hl (by decide) rfl (fun ls hl => ?_)
      refine lv_iload_n hx hb dX12_clauseHere_90 rfl (lv_at hl 0 rfl) ?_
      refine lv_if_ne (tgt := 101) hx hb dX12_clauseHere_91 (by decide) (fun c => absurd (by decide) c) (fun _ => ?_)
      refine lv_aload_n hx hb dX12_clauseHere_94 rfl (lv_at hl 3 rfl) ?_
      refine lv_iconst (v := 0) hx hb dX12_clauseHere_95 (by decide) ?_
      refine lv_iload_n hx hb dX12_clauseHere_96 rfl (lv_at hl 2 rfl) ?_
      refine tk_Vi hC hK hw hT hA hE hSR kM_at0 (by decide) rfl (k_X12_fails_1 l adK adV dC dI cy ad B (by omega) (by omega) qr s1   0 (by decide) (by decide) x17 (show 0 ≤ x17.toInt by omega) (show x17.toInt ≤ 400 by omega) w211 H.size hT ) (cwV 2 hC.2.2.2.2 gX12_clauseHere_X12_fails rfl rfl rfl (by decide +kernel) ⟨Nat.le_of_ble_eq_true rfl, Nat.le_of_ble_eq_true rfl⟩) rfl hl.1 rfl (Nat.le_of_ble_eq_true rfl) dX12_clauseHere_97 (fun r366 w368 H locs hp367 hw => ?_)
      obtain ⟨hT, k369, hg372⟩ := hp367
      have hF := hF.tr k369 (by decide)
      have c373 := k369.gi kM_at0 (by decide) c220
      have c374 := k369.gi kM_at0 (by decide) c221
      have c375 := k369.gi kM_at0 (by decide) c222
      have c376 := k369.gi kM_at3 (by decide) c223
      have c377 := k369.gi kM_at5 (by decide) c224
      have c378 := k369.gi kM_at0 (by decide) c225
      obtain ⟨rfl, ⟨x370, c371, rx370, tx370⟩⟩ := hg372
      exact tk_zret hC hr rfl hlocks hK ⟨hT, hF, (Or.inl ⟨rfl, ⟨x15, c378, (show 1 ≤ x15.toInt by omega), (show x15.toInt ≤ 400 by omega)⟩, ⟨x370, c371, (show 1 ≤ x370.toInt by omega), (show x370.toInt ≤ 3205 by omega)⟩, ⟨1, c373, (by decide), (by decide)⟩, ⟨f2_, c375, (show 0 ≤ f2_.toInt by omega), (show f2_.toInt ≤ 12 by omega)⟩, (by simp only [cf2_, c375]; omega), (by simp only [c375]; omega)⟩)⟩ hw dX12_clauseHere_100
  · obtain ⟨x29, c30, rx29, tx29⟩ := hT.rdi (lo := 0) (hi := 400) (k := 14) kM_at0 (by decide) rfl
    have g22 : (x29.toInt = x1.toInt ∨ (gi w0 1 (x1.toInt).toNat).toInt = 32) := by have q := g22; simp only [c2, c30] at q; omega
    refine lv_pop hx hb dX12_clauseHere_4 rfl ?_
    refine lv_aload_n hx hb dX12_clauseHere_5 rfl (lv_at hl 0 rfl) ?_
    refine tk_geti hC hK hw hT hinX12 kM_at0 (by decide) rfl 14 (by decide) (List.mem_of_getElem? (i := 1) rfl) rfl rfl dX12_clauseHere_6 (fun x379 c380 rx379 tx379 => ?_)
    refine wk_top x29 (c380.symm.trans c30) ?_
    refine lv_istore_n (lv' := [(1, .int x29), (0, .ref (ad 0))]) hx hb dX12_clauseHere_9 rfl hl (by decide) rfl (fun ls hl => ?_)
    refine lv_aload_n hx hb dX12_clauseHere_10 rfl (lv_at hl 1 rfl) ?_
    refine tk_geti hC hK hw hT hinX12 kM_at0 (by decide) rfl 17 (by decide) (List.mem_of_getElem? (i := 2) rfl) rfl rfl dX12_clauseHere_11 (fun x381 c382 rx381 tx381 => ?_)
    refine wk_top 1 (c382.symm.trans c24) ?_
    refine lv_bipush (v := 6) hx hb dX12_clauseHere_14 (by decide) ?_
    refine lv_icmp_ne (tgt := 23) hx hb dX12_clauseHere_16 (by decide) (fun _ => ?_) (fun c => absurd c (by decide))
    refine lv_iconst (v := 0) hx hb dX12_clauseHere_23 (by decide) ?_
    refine lv_istore_n (lv' := [(2, .int 0), (1, .int x29), (0, .ref (ad 0))]) hx hb dX12_clauseHere_24 rfl hl (by decide) rfl (fun ls hl => ?_)
    refine lv_iload_n hx hb dX12_clauseHere_25 rfl (lv_at hl 0 rfl) ?_
    refine lv_if_eq (tgt := 77) hx hb dX12_clauseHere_26 (by decide) (fun _ => ?_) (fun c => absurd (by decide) c)
    refine lv_aload_n hx hb dX12_clauseHere_77 rfl (lv_at hl 2 rfl) ?_
    refine tk_Vi hC hK hw hT hA hE hSR kM_at0 (by decide) rfl (k_X12_doingSort_1 l adK adV dC dI cy ad B (by omega) (by omega) qr s1    w5 H.size hT ) (cwV 0 hC.2.2.2.2 gX12_clauseHere_X12_doingSort rfl rfl rfl (by decide +kernel) ⟨Nat.le_of_ble_eq_true rfl, Nat.le_of_ble_eq_true rfl⟩) rfl hl.1 rfl (Nat.le_of_ble_eq_true rfl) dX12_clauseHere_78 (fun r383 w385 H locs hp384 hw => ?_)
    obtain ⟨hT, k386, hg393⟩ := hp384
    have hF := hF.tr k386 (by decide)
    have c394 := k386.gi kM_at0 (by decide) c24
    have c395 := k386.gi kM_at0 (by decide) c25
    have c396 := k386.gi kM_at0 (by decide) c26
    have c397 := k386.gi kM_at3 (by decide) c27
    have c398 := k386.gi kM_at5 (by decide) c28
    have c399 := k386.gi kM_at0 (by decide) c21
    rcases hg393 with ⟨g387, g388, ⟨x389, c390, rx389, tx389⟩⟩ | ⟨rfl, ⟨x391, c392, rx391, tx391⟩⟩
    · have ex389 : x389.toInt = x20.toInt := by rw [← c399.symm.trans c390]
      refine lv_if_lt (tgt := 88) hx hb dX12_clauseHere_81 (by decide) (fun c => absurd c (fun h => absurd (show r383.toInt < (0 : Int) from wk_lt.mp h) (by omega))) (fun _ => ?_)
      refine lv_iconst (v := 1) hx hb dX12_clauseHere_84 (by decide) ?_
      refine lv_goto (tgt := 89) hx hb dX12_clauseHere_85 (by decide) ?_
      refine lv_istore_n (lv' := [(3, .int 1), (2, .int 0), (1, .int x29), (0, .ref (ad 0))]) hx hb dX12_clauseHere_89 rfl hl (by decide) rfl (fun ls hl => ?_)
      refine lv_iload_n hx hb dX12_clauseHere_90 rfl (lv_at hl 0 rfl) ?_
      refine lv_if_ne (tgt := 101) hx hb dX12_clauseHere_91 (by decide) (fun _ => ?_) (fun c => absurd c (by decide))
      refine lv_aload_n hx hb dX12_clauseHere_101 rfl (lv_at hl 3 rfl) ?_
      refine tk_geti hC hK hw hT hinX12 kM_at0 (by decide) rfl 20 (by decide) (List.mem_of_getElem? (i := 7) rfl) rfl rfl dX12_clauseHere_102 (fun x400 c401 rx400 tx400 => ?_)
      refine wk_top f2_ (c401.symm.trans c396) ?_
      refine lv_iload_n hx hb dX12_clauseHere_105 rfl (lv_at hl 1 rfl) ?_
      refine lv_if_eq (tgt := 114) hx hb dX12_clauseHere_106 (by decide) (fun _ => ?_) (fun c => absurd (by decide) c)
      refine lv_bipush (v := 12) hx hb dX12_clauseHere_114 (by decide) ?_
      refine lv_icmp_ne (tgt := 126) hx hb dX12_clauseHere_116 (by decide) (fun c402 => ?_) (fun c402 => ?_)
      · have c402 : ¬ f2_.toInt = (12 : Int) := wk_eqF c402
        refine lv_aload_n hx hb dX12_clauseHere_126 rfl (lv_at hl 3 rfl) ?_
        refine lv_dup hx hb dX12_clauseHere_127 rfl ?_
        refine tk_geti hC hK hw hT hinX12 kM_at0 (by decide) rfl 20 (by decide) (List.mem_of_getElem? (i := 7) rfl) rfl rfl dX12_clauseHere_128 (fun x403 c404 rx403 tx403 => ?_)
        refine wk_top f2_ (c404.symm.trans c396) ?_
        refine lv_iconst (v := 1) hx hb dX12_clauseHere_131 (by decide) ?_
        refine lv_iadd hx hb dX12_clauseHere_132 ?_
        refine lv_topi (fun x405 ex405 => ?_)
        have ex405 : x405.toInt = f2_.toInt + (1 : Int) := by rw [ex405]; exact wk_add (show (-2147483648) ≤ f2_.toInt + (1 : Int) by omega) (show f2_.toInt + (1 : Int) ≤ 2147483647 by omega)
        refine tk_puti hC hK hw hT hinX12 tyX12_ok nmX12 kM_at0 (by decide) rfl rfl 20 (by decide) (List.mem_of_getElem? (i := 7) rfl) rfl rfl rfl rfl (show 0 ≤ x405.toInt by omega) (show x405.toInt ≤ 32 by omega) dX12_clauseHere_133 (fun H locs w406 hw hT k408 c407 => ?_)
        have hF := hF.put kM_at0 (k := 20) (by decide) k408
        have c409 := k408.gi (Or.inr (by decide)) c394
        have c410 := k408.gi (Or.inr (by decide)) c395
        have c411 := k408.gi (Or.inr (by decide)) c397
        have c412 := k408.gi (Or.inr (by decide)) c398
        have c413 := k408.gi (Or.inr (by decide)) c399
        refine lv_iload_n hx hb dX12_clauseHere_136 rfl (lv_at hl 1 rfl) ?_
        refine lv_if_eq (tgt := 148) hx hb dX12_clauseHere_137 (by decide) (fun _ => ?_) (fun c => absurd (by decide) c)
        refine lv_aload_n hx hb dX12_clauseHere_148 rfl (lv_at hl 3 rfl) ?_
        refine lv_aload_n hx hb dX12_clauseHere_149 rfl (lv_at hl 3 rfl) ?_
        refine tk_Vi hC hK hw hT hA hE hSR kM_at0 (by decide) rfl (k_X12_doingSort_1 l adK adV dC dI cy ad B (by omega) (by omega) qr s1    w406 H.size hT ) (cwV 0 hC.2.2.2.2 gX12_clauseHere_X12_doingSort rfl rfl rfl (by decide +kernel) ⟨Nat.le_of_ble_eq_true rfl, Nat.le_of_ble_eq_true rfl⟩) rfl hl.1 rfl (Nat.le_of_ble_eq_true rfl) dX12_clauseHere_150 (fun r414 w416 H locs hp415 hw => ?_)
        obtain ⟨hT, k417, hg424⟩ := hp415
        have hF := hF.tr k417 (by decide)
        have c425 := k417.gi kM_at0 (by decide) c409
        have c426 := k417.gi kM_at0 (by decide) c410
        have c427 := k417.gi kM_at3 (by decide) c411
        have c428 := k417.gi kM_at5 (by decide) c412
        have c429 := k417.gi kM_at0 (by decide) c413
        have c430 := k417.gi kM_at0 (by decide) c407
        rcases hg424 with ⟨g418, g419, ⟨x420, c421, rx420, tx420⟩⟩ | ⟨rfl, ⟨x422, c423, rx422, tx422⟩⟩
        · have ex420 : x420.toInt = x20.toInt := by rw [← c429.symm.trans c421]
          refine tk_Vi hC hK hw hT hA hE hSR kM_at0 (by decide) rfl (k_X12_isDoingHere_4 l adK adV dC dI cy ad B (by omega) (by omega) qr s1   r414 (show 0 ≤ r414.toInt by omega) (show r414.toInt ≤ 3 by omega) w416 H.size hT c425 f1_ c426 (show 0 ≤ f1_.toInt by omega) (show f1_.toInt ≤ 60 by omega) f3_ c427 (show 0 ≤ f3_.toInt by omega) (show f3_.toInt ≤ 400 by omega) f4_ c428 (show 0 ≤ f4_.toInt by omega) (show f4_.toInt ≤ 12 by omega) (show 3 * f3_.toInt ≤ 14 * f1_.toInt by omega) (show f3_.toInt ≤ 280 by omega) (show f4_.toInt ≤ 11 by omega)) (cwV 1 hC.2.2.2.2 gX12_clauseHere_X12_isDoingHere rfl rfl rfl (by decide +kernel) ⟨Nat.le_of_ble_eq_true rfl, Nat.le_of_ble_eq_true rfl⟩) rfl hl.1 rfl (Nat.le_of_ble_eq_true rfl) dX12_clauseHere_153 (fun r431 w433 H locs hp432 hw => ?_)
          obtain ⟨hT, k434, hg457⟩ := hp432
          have hF := hF.tr k434 (by decide)
          have c458 := k434.gi kM_at0 (by decide) c425
          have c459 := k434.gi kM_at0 (by decide) c429
          have c460 := k434.gi kM_at0 (by decide) c430
          rcases hg457 with ⟨rfl, ⟨x435, c436, rx435, tx435⟩, ⟨x437, c438, rx437, tx437⟩, ⟨x439, c440, rx439, tx439⟩, ⟨x441, c442, rx441, tx441⟩⟩ | ⟨rfl, ⟨x443, c444, rx443, tx443⟩, ⟨x445, c446, rx445, tx445⟩, ⟨x447, c448, rx447, tx447⟩, ⟨x449, c450, rx449, tx449⟩⟩ | ⟨rfl, ⟨x451, c452, rx451, tx451⟩, ⟨x453, c454, rx453, tx453⟩, g455, g456⟩
          · have ex435 : x435.toInt = x20.toInt := by rw [← c459.symm.trans c436]
            have ex439 : x439.toInt = (1 : Int) := by rw [show x439 = 1 from c440.symm.trans c458]; decide
            obtain ⟨x461, c462, rx461, tx461⟩ := hT.rda (lo := 0) (hi := 400) (i := 1) kM_at3 rfl rfl (by decide)
            obtain ⟨x463, c464, rx463, tx463⟩ := hT.rdi (lo := 0) (hi := 60) (k := 18) kM_at0 (by decide) rfl
            obtain ⟨x465, c466, rx465, tx465⟩ := hT.rda (lo := 0) (hi := 12) (i := 1) kM_at5 rfl rfl (by decide)
            exact tk_zret hC hr rfl hlocks hK ⟨hT, hF, (Or.inl ⟨rfl, ⟨x20, c459, (show 1 ≤ x20.toInt by omega), (show x20.toInt ≤ 400 by omega)⟩, ⟨x437, c438, (show 1 ≤ x437.toInt by omega), (show x437.toInt ≤ 3205 by omega)⟩, ⟨1, c458, (by decide), (by decide)⟩, ⟨x405, c460, (show 0 ≤ x405.toInt by omega), (show x405.toInt ≤ 12 by omega)⟩, (by simp only [cf2_, c460]; omega), (by simp only [c460]; omega)⟩)⟩ hw dX12_clauseHere_156
          · have ex443 : x443.toInt = x20.toInt := by rw [← c459.symm.trans c444]
            have ex447 : x447.toInt = (1 : Int) := by rw [show x447 = 1 from c448.symm.trans c458]; decide
            obtain ⟨x467, c468, rx467, tx467⟩ := hT.rda (lo := 0) (hi := 400) (i := 1) kM_at3 rfl rfl (by decide)
            obtain ⟨x469, c470, rx469, tx469⟩ := hT.rdi (lo := 0) (hi := 60) (k := 18) kM_at0 (by decide) rfl
            obtain ⟨x471, c472, rx471, tx471⟩ := hT.rda (lo := 0) (hi := 12) (i := 1) kM_at5 rfl rfl (by decide)
            exact tk_zret hC hr rfl hlocks hK ⟨hT, hF, (Or.inr (Or.inl ⟨rfl, ⟨x20, c459, (show 0 ≤ x20.toInt by omega), (show x20.toInt ≤ 400 by omega)⟩, ⟨x445, c446, (show 1 ≤ x445.toInt by omega), (show x445.toInt ≤ 3205 by omega)⟩, ⟨1, c458, (by decide), (by decide)⟩, ⟨x405, c460, (show 0 ≤ x405.toInt by omega), (show x405.toInt ≤ 12 by omega)⟩, (by simp only [cf2_, c460]; omega), (by simp only [c460]; omega)⟩))⟩ hw dX12_clauseHere_156
          · have ex451 : x451.toInt = x20.toInt := by rw [← c459.symm.trans c452]
            have ex453 : x453.toInt = (1 : Int) := by rw [show x453 = 1 from c454.symm.trans c458]; decide
            obtain ⟨x473, c474, rx473, tx473⟩ := hT.rda (lo := 0) (hi := 400) (i := 1) kM_at3 rfl rfl (by decide)
            obtain ⟨x475, c476, rx475, tx475⟩ := hT.rdi (lo := 0) (hi := 60) (k := 18) kM_at0 (by decide) rfl
            obtain ⟨x477, c478, rx477, tx477⟩ := hT.rda (lo := 0) (hi := 12) (i := 1) kM_at5 rfl rfl (by decide)
            have g455 : 3 * x473.toInt ≤ 14 * x475.toInt := by have q := g455; simp only [c474, c476] at q; omega
            have g456 : x477.toInt = f4_.toInt + 1 := by have q := g456; simp only [c428, c478] at q; omega
            exact tk_zret hC hr rfl hlocks hK ⟨hT, hF, (Or.inr (Or.inr (Or.inr ⟨rfl, ⟨x20, c459, (show 0 ≤ x20.toInt by omega), (show x20.toInt ≤ 400 by omega)⟩, ⟨1, c458, (by decide), (by decide)⟩, ⟨x405, c460, (show 1 ≤ x405.toInt by omega), (show x405.toInt ≤ 12 by omega)⟩, (by simp only [c474, c476]; omega), (by simp only [c478, c460]; omega), (by simp only [cf2_, c460]; omega), (by simp only [c460]; omega)⟩)))⟩ hw dX12_clauseHere_156
        · have ex422 : x422.toInt = x20.toInt := by rw [← c429.symm.trans c423]
          refine tk_Vi hC hK hw hT hA hE hSR kM_at0 (by decide) rfl (k_X12_isDoingHere_3 l adK adV dC dI cy ad B (by omega) (by omega) qr s1    w416 H.size hT c425 f1_ c426 (show 0 ≤ f1_.toInt by omega) (show f1_.toInt ≤ 60 by omega) f3_ c427 (show 0 ≤ f3_.toInt by omega) (show f3_.toInt ≤ 400 by omega) f4_ c428 (show 0 ≤ f4_.toInt by omega) (show f4_.toInt ≤ 12 by omega) (show 3 * f3_.toInt ≤ 14 * f1_.toInt by omega) (show f3_.toInt ≤ 280 by omega) (show f4_.toInt ≤ 11 by omega)) (cwV 1 hC.2.2.2.2 gX12_clauseHere_X12_isDoingHere rfl rfl rfl (by decide +kernel) ⟨Nat.le_of_ble_eq_true rfl, Nat.le_of_ble_eq_true rfl⟩) rfl hl.1 rfl (Nat.le_of_ble_eq_true rfl) dX12_clauseHere_153 (fun r479 w481 H locs hp480 hw => ?_)
          obtain ⟨hT, k482, hg505⟩ := hp480
          have hF := hF.tr k482 (by decide)
          have c506 := k482.gi kM_at0 (by decide) c425
          have c507 := k482.gi kM_at0 (by decide) c429
          have c508 := k482.gi kM_at0 (by decide) c430
          rcases hg505 with ⟨rfl, ⟨x483, c484, rx483, tx483⟩, ⟨x485, c486, rx485, tx485⟩, ⟨x487, c488, rx487, tx487⟩, ⟨x489, c490, rx489, tx489⟩⟩ | ⟨rfl, ⟨x491, c492, rx491, tx491⟩, ⟨x493, c494, rx493, tx493⟩, ⟨x495, c496, rx495, tx495⟩, ⟨x497, c498, rx497, tx497⟩⟩ | ⟨rfl, ⟨x499, c500, rx499, tx499⟩, ⟨x501, c502, rx501, tx501⟩, g503, g504⟩
          · have ex483 : x483.toInt = x20.toInt := by rw [← c507.symm.trans c484]
            have ex487 : x487.toInt = (1 : Int) := by rw [show x487 = 1 from c488.symm.trans c506]; decide
            obtain ⟨x509, c510, rx509, tx509⟩ := hT.rda (lo := 0) (hi := 400) (i := 1) kM_at3 rfl rfl (by decide)
            obtain ⟨x511, c512, rx511, tx511⟩ := hT.rdi (lo := 0) (hi := 60) (k := 18) kM_at0 (by decide) rfl
            obtain ⟨x513, c514, rx513, tx513⟩ := hT.rda (lo := 0) (hi := 12) (i := 1) kM_at5 rfl rfl (by decide)
            exact tk_zret hC hr rfl hlocks hK ⟨hT, hF, (Or.inl ⟨rfl, ⟨x20, c507, (show 1 ≤ x20.toInt by omega), (show x20.toInt ≤ 400 by omega)⟩, ⟨x485, c486, (show 1 ≤ x485.toInt by omega), (show x485.toInt ≤ 3205 by omega)⟩, ⟨1, c506, (by decide), (by decide)⟩, ⟨x405, c508, (show 0 ≤ x405.toInt by omega), (show x405.toInt ≤ 12 by omega)⟩, (by simp only [cf2_, c508]; omega), (by simp only [c508]; omega)⟩)⟩ hw dX12_clauseHere_156
          · have ex491 : x491.toInt = x20.toInt := by rw [← c507.symm.trans c492]
            have ex495 : x495.toInt = (1 : Int) := by rw [show x495 = 1 from c496.symm.trans c506]; decide
            obtain ⟨x515, c516, rx515, tx515⟩ := hT.rda (lo := 0) (hi := 400) (i := 1) kM_at3 rfl rfl (by decide)
            obtain ⟨x517, c518, rx517, tx517⟩ := hT.rdi (lo := 0) (hi := 60) (k := 18) kM_at0 (by decide) rfl
            obtain ⟨x519, c520, rx519, tx519⟩ := hT.rda (lo := 0) (hi := 12) (i := 1) kM_at5 rfl rfl (by decide)
            exact tk_zret hC hr rfl hlocks hK ⟨hT, hF, (Or.inr (Or.inl ⟨rfl, ⟨x20, c507, (show 0 ≤ x20.toInt by omega), (show x20.toInt ≤ 400 by omega)⟩, ⟨x493, c494, (show 1 ≤ x493.toInt by omega), (show x493.toInt ≤ 3205 by omega)⟩, ⟨1, c506, (by decide), (by decide)⟩, ⟨x405, c508, (show 0 ≤ x405.toInt by omega), (show x405.toInt ≤ 12 by omega)⟩, (by simp only [cf2_, c508]; omega), (by simp only [c508]; omega)⟩))⟩ hw dX12_clauseHere_156
          · have ex499 : x499.toInt = x20.toInt := by rw [← c507.symm.trans c500]
            have ex501 : x501.toInt = (1 : Int) := by rw [show x501 = 1 from c502.symm.trans c506]; decide
            obtain ⟨x521, c522, rx521, tx521⟩ := hT.rda (lo := 0) (hi := 400) (i := 1) kM_at3 rfl rfl (by decide)
            obtain ⟨x523, c524, rx523, tx523⟩ := hT.rdi (lo := 0) (hi := 60) (k := 18) kM_at0 (by decide) rfl
            obtain ⟨x525, c526, rx525, tx525⟩ := hT.rda (lo := 0) (hi := 12) (i := 1) kM_at5 rfl rfl (by decide)
            have g503 : 3 * x521.toInt ≤ 14 * x523.toInt := by have q := g503; simp only [c522, c524] at q; omega
            have g504 : x525.toInt = f4_.toInt + 1 := by have q := g504; simp only [c428, c526] at q; omega
            exact tk_zret hC hr rfl hlocks hK ⟨hT, hF, (Or.inr (Or.inr (Or.inr ⟨rfl, ⟨x20, c507, (show 0 ≤ x20.toInt by omega), (show x20.toInt ≤ 400 by omega)⟩, ⟨1, c506, (by decide), (by decide)⟩, ⟨x405, c508, (show 1 ≤ x405.toInt by omega), (show x405.toInt ≤ 12 by omega)⟩, (by simp only [c522, c524]; omega), (by simp only [c526, c508]; omega), (by simp only [cf2_, c508]; omega), (by simp only [c508]; omega)⟩)))⟩ hw dX12_clauseHere_156
      · have c402 : f2_.toInt = (12 : Int) := wk_eq.mp c402
        refine lv_aload_n hx hb dX12_clauseHere_119 rfl (lv_at hl 3 rfl) ?_
        refine lv_iconst (v := 4) hx hb dX12_clauseHere_120 (by decide) ?_
        refine lv_iload_n hx hb dX12_clauseHere_121 rfl (lv_at hl 2 rfl) ?_
        refine tk_Vi hC hK hw hT hA hE hSR kM_at0 (by decide) rfl (k_X12_fails_1 l adK adV dC dI cy ad B (by omega) (by omega) qr s1   4 (by decide) (by decide) x29 (show 0 ≤ x29.toInt by omega) (show x29.toInt ≤ 400 by omega) w385 H.size hT ) (cwV 2 hC.2.2.2.2 gX12_clauseHere_X12_fails rfl rfl rfl (by decide +kernel) ⟨Nat.le_of_ble_eq_true rfl, Nat.le_of_ble_eq_true rfl⟩) rfl hl.1 rfl (Nat.le_of_ble_eq_true rfl) dX12_clauseHere_122 (fun r527 w529 H locs hp528 hw => ?_)
        obtain ⟨hT, k530, hg533⟩ := hp528
        have hF := hF.tr k530 (by decide)
        have c534 := k530.gi kM_at0 (by decide) c394
        have c535 := k530.gi kM_at0 (by decide) c395
        have c536 := k530.gi kM_at0 (by decide) c396
        have c537 := k530.gi kM_at3 (by decide) c397
        have c538 := k530.gi kM_at5 (by decide) c398
        have c539 := k530.gi kM_at0 (by decide) c399
        obtain ⟨rfl, ⟨x531, c532, rx531, tx531⟩⟩ := hg533
        exact tk_zret hC hr rfl hlocks hK ⟨hT, hF, (Or.inr (Or.inl ⟨rfl, ⟨x20, c539, (show 0 ≤ x20.toInt by omega), (show x20.toInt ≤ 400 by omega)⟩, ⟨x531, c532, (show 1 ≤ x531.toInt by omega), (show x531.toInt ≤ 3205 by omega)⟩, ⟨1, c534, (by decide), (by decide)⟩, ⟨f2_, c536, (show 0 ≤ f2_.toInt by omega), (show f2_.toInt ≤ 12 by omega)⟩, (by simp only [cf2_, c536]; omega), (by simp only [c536]; omega)⟩))⟩ hw dX12_clauseHere_125
    · have ex391 : x391.toInt = x20.toInt := by rw [← c399.symm.trans c392]
      refine lv_if_lt (tgt := 88) hx hb dX12_clauseHere_81 (by decide) (fun _ => ?_) (fun c => absurd (by decide) c)
      refine lv_iconst (v := 0) hx hb dX12_clauseHere_88 (by decide) ?_
      refine lv_istore_n (lv' := [(3, .int 0), (2, .int 0), (1, .int x29), (0, .ref (ad 0))]) hx hb dX12_clauseHere_89 rfl hl (by decide) rfl (fun ls hl => ?_)
      refine lv_iload_n hx hb dX12_clauseHere_90 rfl (lv_at hl 0 rfl) ?_
      refine lv_if_ne (tgt := 101) hx hb dX12_clauseHere_91 (by decide) (fun c => absurd (by decide) c) (fun _ => ?_)
      refine lv_aload_n hx hb dX12_clauseHere_94 rfl (lv_at hl 3 rfl) ?_
      refine lv_iconst (v := 0) hx hb dX12_clauseHere_95 (by decide) ?_
      refine lv_iload_n hx hb dX12_clauseHere_96 rfl (lv_at hl 2 rfl) ?_
      refine tk_Vi hC hK hw hT hA hE hSR kM_at0 (by decide) rfl (k_X12_fails_1 l adK adV dC dI cy ad B (by omega) (by omega) qr s1   0 (by decide) (by decide) x29 (show 0 ≤ x29.toInt by omega) (show x29.toInt ≤ 400 by omega) w385 H.size hT ) (cwV 2 hC.2.2.2.2 gX12_clauseHere_X12_fails rfl rfl rfl (by decide +kernel) ⟨Nat.le_of_ble_eq_true rfl, Nat.le_of_ble_eq_true rfl⟩) rfl hl.1 rfl (Nat.le_of_ble_eq_true rfl) dX12_clauseHere_97 (fun r540 w542 H locs hp541 hw => ?_)
      obtain ⟨hT, k543, hg546⟩ := hp541
      have hF := hF.tr k543 (by decide)
      have c547 := k543.gi kM_at0 (by decide) c394
      have c548 := k543.gi kM_at0 (by decide) c395
      have c549 := k543.gi kM_at0 (by decide) c396
      have c550 := k543.gi kM_at3 (by decide) c397
      have c551 := k543.gi kM_at5 (by decide) c398
      have c552 := k543.gi kM_at0 (by decide) c399
      obtain ⟨rfl, ⟨x544, c545, rx544, tx544⟩⟩ := hg546
      exact tk_zret hC hr rfl hlocks hK ⟨hT, hF, (Or.inr (Or.inl ⟨rfl, ⟨x20, c552, (show 0 ≤ x20.toInt by omega), (show x20.toInt ≤ 400 by omega)⟩, ⟨x544, c545, (show 1 ≤ x544.toInt by omega), (show x544.toInt ≤ 3205 by omega)⟩, ⟨1, c547, (by decide), (by decide)⟩, ⟨f2_, c549, (show 0 ≤ f2_.toInt by omega), (show f2_.toInt ≤ 12 by omega)⟩, (by simp only [cf2_, c549]; omega), (by simp only [c549]; omega)⟩))⟩ hw dX12_clauseHere_100
abbrev P_X12_readsAll_3 (ad : Nat → Nat) (cy : Nat → ClassId) (B : Int) (qr : Nat) (s1 : Int)  (w0 : va_W) : Int32 → va_W → Prop := fun r u => TW ksM ad cy B qr 12 u ∧ FE ksM [(12, 1, 1), (12, 14, 14), (12, 15, 15), (12, 16, 16), (12, 18, 18), (12, 19, 19), (12, 20, 20), (12, 22, 22), (61, 0, 2400), (62, 0, 7), (63, 0, 216), (64, 0, 6), (68, 0, 400)] w0 u ∧ ((r = 0 ∧ (∃ y : Int32, gi u 0 1 = y ∧ 0 ≤ y.toInt ∧ y.toInt ≤ 0) ∧ (∃ y : Int32, gi u 0 15 = y ∧ 1 ≤ y.toInt ∧ y.toInt ≤ 3205) ∧ (∃ y : Int32, gi u 0 17 = y ∧ 1 ≤ y.toInt ∧ y.toInt ≤ 1) ∧ (∃ y : Int32, gi u 0 20 = y ∧ 0 ≤ y.toInt ∧ y.toInt ≤ 12)) ∨ (r = 1 ∧ (∃ y : Int32, gi u 0 1 = y ∧ 0 ≤ y.toInt ∧ y.toInt ≤ 0) ∧ (∃ y : Int32, gi u 0 15 = y ∧ 0 ≤ y.toInt ∧ y.toInt ≤ 0) ∧ (∃ y : Int32, gi u 0 17 = y ∧ 1 ≤ y.toInt ∧ y.toInt ≤ 1) ∧ (∃ y : Int32, gi u 0 20 = y ∧ 0 ≤ y.toInt ∧ y.toInt ≤ 12)))
set_option maxHeartbeats 4000000 in
set_option maxRecDepth 100000 in
theorem k_X12_readsAll_3 (l : Launch) (adK adV : Nat → Nat) (dC : Nat → ClassId) (dI : Nat → Nat → Nat) (cy : Nat → ClassId) (ad : Nat → Nat) (B : Int) (hB0 : 100000 ≤ B) (hB1 : B ≤ 1073741824) (qr : Nat) (s1 : Int)   (w0 : va_W) (sz : Nat) (hT : TW ksM ad cy B qr 12 w0) (cf0_ : gi w0 0 17 = 1) (f1_ : Int32) (cf1_ : gi w0 0 18 = f1_) (rf1_ : 0 ≤ f1_.toInt) (tf1_ : f1_.toInt ≤ 60) (f2_ : Int32) (cf2_ : gi w0 0 20 = f2_) (rf2_ : 0 ≤ f2_.toInt) (tf2_ : f2_.toInt ≤ 32) (f3_ : Int32) (cf3_ : gi w0 3 1 = f3_) (rf3_ : 0 ≤ f3_.toInt) (tf3_ : f3_.toInt ≤ 400) (f4_ : Int32) (cf4_ : gi w0 5 1 = f4_) (rf4_ : 0 ≤ f4_.toInt) (tf4_ : f4_.toInt ≤ 12) (pr0_ : f4_.toInt ≤ 0) : Met l yX12_readsAll wsX12_readsAll ({ frames := 12, cells := 0, slots := 0, locals := 255 }) (va_Pc [.ref (ad 0)] (wpreS adK adV dC dI cy sz w0)) (va_Qi (P_X12_readsAll_3 ad cy B qr s1  w0) (fun u : va_W => wpost dC dI cy (va_A w0 sz) u) (va_A w0 sz)) 0 0 (va_A w0 sz) := by
  refine Met.ofW (cc := cX12_readsAll) (maxL := 2) (ret := (some .boolean)) (by decide) rfl ?_
  intro p e s m args below meth c s₁ Bk hml hv
  obtain ⟨rfl, ⟨hsz, hP, hK, hD0⟩, hE, hSR⟩ := hv
  have hx := Bk.exec
  have hb := Bk.bytes
  have hr := Bk.returns
  have hlocks := Bk.notSynchronized
  have hC : CallFix p m c cX12_readsAll 2 s _ wsX12_readsAll RX12 := ⟨hx, hb, hml, findClass_of_methodNamed Bk.named, atoms_spec (ws := wsX12_readsAll) Bk.pre⟩
  subst hsz
  have hD := hD0.self (sz := s.heap.size)
  generalize hAe : va_A w0 s.heap.size = A at hD hE ⊢
  have hA : ∀ q : Nat, s.heap.size ≤ q → A q := fun q h => by rw [← hAe]; exact Or.inr h
  have hw : Wd dC dI A s.heap s.heap [] w0 := ⟨hP, hD, va_S.rf⟩
  have hF : FE ksM [(12, 1, 1), (12, 14, 14), (12, 15, 15), (12, 16, 16), (12, 18, 18), (12, 19, 19), (12, 20, 20), (12, 22, 22), (61, 0, 2400), (62, 0, 7), (63, 0, 216), (64, 0, 6), (68, 0, 400)] w0 w0 := FE.rf
  have hl := lv_entry ([.ref (ad 0)]) (n := 2) (Nat.le_of_ble_eq_true rfl)
  rw [lg_entry_eq]
  generalize (lg_sl ([.ref (ad 0)]) ++ List.replicate (2 - (lg_sl ([.ref (ad 0)])).length) Slot.unset).toArray = ls at hl ⊢
  have hl : lv_has ls 2 [(0, .ref (ad 0))] := hl
  generalize hloc : ([] : List Loc) = locs at hw ⊢
  have hinX12 : ∀ w ∈ u_ws RX12 TX12 42, w ∈ wsX12_readsAll := fun _ h => List.mem_cons_of_mem _ (List.mem_append_right _ (h))
  have J88 : ∀ (v88_1 : Int32) (f88_0_1 : Int32) (f88_0_18 : Int32) (f88_0_20 : Int32) (f88_3_1 : Int32) (f88_5_1 : Int32) (H : Heap) (locs : List Loc) (ls : Array Slot) (w1 : va_W), 0 ≤ v88_1.toInt → v88_1.toInt ≤ 1 → 0 ≤ f88_0_1.toInt → f88_0_1.toInt ≤ 400 → 0 ≤ f88_0_18.toInt → f88_0_18.toInt ≤ 60 → 0 ≤ f88_0_20.toInt → f88_0_20.toInt ≤ 12 → 0 ≤ f88_3_1.toInt → f88_3_1.toInt ≤ 400 → 0 ≤ f88_5_1.toInt → f88_5_1.toInt ≤ 12 → ((v88_1.toInt = 0 ∨ 3 * f88_3_1.toInt ≤ 14 * f88_0_18.toInt)) → ((v88_1.toInt = 0 ∨ f88_5_1.toInt ≤ f88_0_20.toInt)) → (f88_0_20.toInt ≤ 12) → Wd dC dI A s.heap H locs w1 → TW ksM ad cy B qr 12 w1 → FE ksM [(12, 1, 1), (12, 14, 14), (12, 15, 15), (12, 16, 16), (12, 18, 18), (12, 19, 19), (12, 20, 20), (12, 22, 22), (61, 0, 2400), (62, 0, 7), (63, 0, 216), (64, 0, 6), (68, 0, 400)] w0 w1 → gi w1 0 1 = f88_0_1 → gi w1 0 17 = 1 → gi w1 0 18 = f88_0_18 → gi w1 0 20 = f88_0_20 → gi w1 3 1 = f88_3_1 → gi w1 5 1 = f88_5_1 → lv_has ls 2 [(0, .ref (ad 0)), (1, .int v88_1)] → W p l e ({ frames := 12, cells := 0, slots := 0, locals := 255 }) s m (List.toArray [.ref (ad 0)]) below meth c H locs 0 0 (MQ below (va_Qi (P_X12_readsAll_3 ad cy B qr s1  w0) (fun u : va_W => wpost dC dI cy A u) A) (List.toArray [.ref (ad 0)]) s 0 0 A) (F0 m 88 ls []) := by
    intro v88_1 f88_0_1 f88_0_18 f88_0_20 f88_3_1 f88_5_1 H locs ls w1 r2 t3 r4 t5 r8 t9 r11 t12 r14 t15 r17 t18 hcr88_0 hcr88_1 hcr88_2 hw hT hF c6 c7 c10 c13 c16 c19 hl
    refine lv_aload_n hx hb dX12_readsAll_88 rfl (lv_at hl 0 rfl) ?_
    refine lv_iconst (v := 0) hx hb dX12_readsAll_89 (by decide) ?_
    refine tk_puti hC hK hw hT hinX12 tyX12_ok nmX12 kM_at0 (by decide) rfl rfl 1 (by decide) (List.mem_of_getElem? (i := 7) rfl) rfl rfl rfl rfl (by decide) (by decide) dX12_readsAll_90 (fun H locs w20 hw hT k22 c21 => ?_)
    have hF := hF.put kM_at0 (k := 1) (by decide) k22
    have c23 := k22.gi (Or.inr (by decide)) c7
    have c24 := k22.gi (Or.inr (by decide)) c10
    have c25 := k22.gi (Or.inr (by decide)) c13
    have c26 := k22.gi (Or.inl (tk_ne kM_at3 kM_at0 (by decide))) c16
    have c27 := k22.gi (Or.inl (tk_ne kM_at5 kM_at0 (by decide))) c19
    refine lv_aload_n hx hb dX12_readsAll_93 rfl (lv_at hl 0 rfl) ?_
    refine tk_geti hC hK hw hT hinX12 kM_at0 (by decide) rfl 15 (by decide) (List.mem_of_getElem? (i := 5) rfl) rfl rfl dX12_readsAll_94 (fun x28 c29 rx28 tx28 => ?_)
    refine lv_if_ne (tgt := 104) hx hb dX12_readsAll_97 (by decide) (fun c30 => ?_) (fun c30 => ?_)
    · have c30 : ¬ x28.toInt = (0 : Int) := wk_eqF c30
      refine lv_iconst (v := 0) hx hb dX12_readsAll_104 (by decide) ?_
      exact tk_zret hC hr rfl hlocks hK ⟨hT, hF, (Or.inl ⟨rfl, ⟨0, c21, (by decide), (by decide)⟩, ⟨x28, c29, (show 1 ≤ x28.toInt by omega), (show x28.toInt ≤ 3205 by omega)⟩, ⟨1, c23, (by decide), (by decide)⟩, ⟨f88_0_20, c25, (show 0 ≤ f88_0_20.toInt by omega), (show f88_0_20.toInt ≤ 12 by omega)⟩⟩)⟩ hw dX12_readsAll_105
    · have c30 : x28.toInt = (0 : Int) := wk_eq.mp c30
      refine lv_iconst (v := 1) hx hb dX12_readsAll_100 (by decide) ?_
      refine lv_goto (tgt := 105) hx hb dX12_readsAll_101 (by decide) ?_
      exact tk_zret hC hr rfl hlocks hK ⟨hT, hF, (Or.inr ⟨rfl, ⟨0, c21, (by decide), (by decide)⟩, ⟨x28, c29, (show 0 ≤ x28.toInt by omega), (show x28.toInt ≤ 0 by omega)⟩, ⟨1, c23, (by decide), (by decide)⟩, ⟨f88_0_20, c25, (show 0 ≤ f88_0_20.toInt by omega), (show f88_0_20.toInt ≤ 12 by omega)⟩⟩)⟩ hw dX12_readsAll_105
  have J66 : ∀ (v66_1 : Int32) (f66_0_1 : Int32) (f66_0_18 : Int32) (f66_0_20 : Int32) (f66_3_1 : Int32) (f66_5_1 : Int32) (H : Heap) (locs : List Loc) (ls : Array Slot) (w31 : va_W), 0 ≤ v66_1.toInt → v66_1.toInt ≤ 1 → 0 ≤ f66_0_1.toInt → f66_0_1.toInt ≤ 400 → 0 ≤ f66_0_18.toInt → f66_0_18.toInt ≤ 60 → 0 ≤ f66_0_20.toInt → f66_0_20.toInt ≤ 12 → 0 ≤ f66_3_1.toInt → f66_3_1.toInt ≤ 400 → 0 ≤ f66_5_1.toInt → f66_5_1.toInt ≤ 12 → ((v66_1.toInt = 0 ∨ 3 * f66_3_1.toInt ≤ 14 * f66_0_18.toInt)) → ((v66_1.toInt = 0 ∨ f66_5_1.toInt ≤ f66_0_20.toInt)) → (f66_0_20.toInt ≤ 12) → Wd dC dI A s.heap H locs w31 → TW ksM ad cy B qr 12 w31 → FE ksM [(12, 1, 1), (12, 14, 14), (12, 15, 15), (12, 16, 16), (12, 18, 18), (12, 19, 19), (12, 20, 20), (12, 22, 22), (61, 0, 2400), (62, 0, 7), (63, 0, 216), (64, 0, 6), (68, 0, 400)] w0 w31 → gi w31 0 1 = f66_0_1 → gi w31 0 17 = 1 → gi w31 0 18 = f66_0_18 → gi w31 0 20 = f66_0_20 → gi w31 3 1 = f66_3_1 → gi w31 5 1 = f66_5_1 → lv_has ls 2 [(0, .ref (ad 0)), (1, .int v66_1)] → W p l e ({ frames := 12, cells := 0, slots := 0, locals := 255 }) s m (List.toArray [.ref (ad 0)]) below meth c H locs 0 0 (MQ below (va_Qi (P_X12_readsAll_3 ad cy B qr s1  w0) (fun u : va_W => wpost dC dI cy A u) A) (List.toArray [.ref (ad 0)]) s 0 0 A) (F0 m 66 ls []) := by
    intro v66_1 f66_0_1 f66_0_18 f66_0_20 f66_3_1 f66_5_1 H locs ls w31 r32 t33 r34 t35 r38 t39 r41 t42 r44 t45 r47 t48 hcr66_0 hcr66_1 hcr66_2 hw hT hF c36 c37 c40 c43 c46 c49 hl
    refine lv_iload_n hx hb dX12_readsAll_66 rfl (lv_at hl 1 rfl) ?_
    refine lv_if_eq (tgt := 88) hx hb dX12_readsAll_67 (by decide) (fun c50 => ?_) (fun c50 => ?_)
    · have c50 : v66_1.toInt = (0 : Int) := wk_eq.mp c50
      exact J88 v66_1 f66_0_1 f66_0_18 f66_0_20 f66_3_1 f66_5_1 H locs ls w31 (show 0 ≤ v66_1.toInt by omega) (show v66_1.toInt ≤ 1 by omega) (show 0 ≤ f66_0_1.toInt by omega) (show f66_0_1.toInt ≤ 400 by omega) (show 0 ≤ f66_0_18.toInt by omega) (show f66_0_18.toInt ≤ 60 by omega) (show 0 ≤ f66_0_20.toInt by omega) (show f66_0_20.toInt ≤ 12 by omega) (show 0 ≤ f66_3_1.toInt by omega) (show f66_3_1.toInt ≤ 400 by omega) (show 0 ≤ f66_5_1.toInt by omega) (show f66_5_1.toInt ≤ 12 by omega) (show (v66_1.toInt = 0 ∨ 3 * f66_3_1.toInt ≤ 14 * f66_0_18.toInt) by omega) (show (v66_1.toInt = 0 ∨ f66_5_1.toInt ≤ f66_0_20.toInt) by omega) (show f66_0_20.toInt ≤ 12 by omega)  hw hT hF c36 c37 c40 c43 c46 c49 (lv_sub hl [0, 1] rfl)
    · have c50 : ¬ v66_1.toInt = (0 : Int) := wk_eqF c50
      refine lv_aload_n hx hb dX12_readsAll_70 rfl (lv_at hl 0 rfl) ?_
      obtain ⟨x51, c52, rx51, tx51⟩ := hT.rdi (lo := 0) (hi := 400) (k := 14) kM_at0 (by decide) rfl
      refine tk_Vi hC hK hw hT hA hE hSR kM_at0 (by decide) rfl (k_X12_see_1 l adK adV dC dI cy ad B (by omega) (by omega) qr s1    w31 H.size hT x51 c52 (show 0 ≤ x51.toInt by omega) (show x51.toInt ≤ 400 by omega)) (cwV 0 hC.2.2.2.2 gX12_readsAll_X12_see rfl rfl rfl (by decide +kernel) ⟨Nat.le_of_ble_eq_true rfl, Nat.le_of_ble_eq_true rfl⟩) rfl hl.1 rfl (Nat.le_of_ble_eq_true rfl) dX12_readsAll_71 (fun r53 w55 H locs hp54 hw => ?_)
      obtain ⟨hT, k56, hg73⟩ := hp54
      have hF := hF.tr k56 (by decide)
      have c74 := k56.gi kM_at0 (by decide) c36
      have c75 := k56.gi kM_at0 (by decide) c37
      have c76 := k56.gi kM_at0 (by decide) c40
      have c77 := k56.gi kM_at0 (by decide) c43
      have c78 := k56.gi kM_at3 (by decide) c46
      have c79 := k56.gi kM_at5 (by decide) c49
      rcases hg73 with ⟨g57, g58, ⟨x59, c60, rx59, tx59⟩, ⟨x61, c62, rx61, tx61⟩, g63, g64⟩ | ⟨rfl, ⟨x65, c66, rx65, tx65⟩, ⟨x67, c68, rx67, tx67⟩, g69⟩ | ⟨rfl, ⟨x70, c71, rx70, tx70⟩, g72⟩
      · have ex59 : x59.toInt = f66_0_1.toInt := by rw [← c74.symm.trans c60]
        have g63 : (gi w55 1 (x61.toInt).toNat).toInt ≠ 32 := by have q := g63; simp only [c62] at q; omega
        have g64 : (x61.toInt = x51.toInt ∨ (gi w31 1 (x51.toInt).toNat).toInt = 32) := by have q := g64; simp only [c52, c62] at q; omega
        refine lv_iconst (v := (-1)) hx hb dX12_readsAll_74 (by decide) ?_
        refine lv_icmp_eq (tgt := 88) hx hb dX12_readsAll_75 (by decide) (fun c => absurd c (fun h => absurd (show r53.toInt = (-1 : Int) from wk_eq.mp h) (by omega))) (fun _ => ?_)
        refine lv_aload_n hx hb dX12_readsAll_78 rfl (lv_at hl 0 rfl) ?_
        refine lv_iconst (v := 0) hx hb dX12_readsAll_79 (by decide) ?_
        refine lv_aload_n hx hb dX12_readsAll_80 rfl (lv_at hl 0 rfl) ?_
        refine tk_geti hC hK hw hT hinX12 kM_at0 (by decide) rfl 14 (by decide) (List.mem_of_getElem? (i := 4) rfl) rfl rfl dX12_readsAll_81 (fun x82 c83 rx82 tx82 => ?_)
        refine wk_top x61 (c83.symm.trans c62) ?_
        refine tk_Vi hC hK hw hT hA hE hSR kM_at0 (by decide) rfl (k_X12_fails_1 l adK adV dC dI cy ad B (by omega) (by omega) qr s1   0 (by decide) (by decide) x61 (show 0 ≤ x61.toInt by omega) (show x61.toInt ≤ 400 by omega) w55 H.size hT ) (cwV 2 hC.2.2.2.2 gX12_readsAll_X12_fails rfl rfl rfl (by decide +kernel) ⟨Nat.le_of_ble_eq_true rfl, Nat.le_of_ble_eq_true rfl⟩) rfl hl.1 rfl (Nat.le_of_ble_eq_true rfl) dX12_readsAll_84 (fun r84 w86 H locs hp85 hw => ?_)
        obtain ⟨hT, k87, hg90⟩ := hp85
        have hF := hF.tr k87 (by decide)
        have c91 := k87.gi kM_at0 (by decide) c74
        have c92 := k87.gi kM_at0 (by decide) c75
        have c93 := k87.gi kM_at0 (by decide) c76
        have c94 := k87.gi kM_at0 (by decide) c77
        have c95 := k87.gi kM_at3 (by decide) c78
        have c96 := k87.gi kM_at5 (by decide) c79
        have c97 := k87.gi kM_at0 (by decide) c62
        obtain ⟨rfl, ⟨x88, c89, rx88, tx88⟩⟩ := hg90
        refine lv_pop hx hb dX12_readsAll_87 rfl ?_
        exact J88 v66_1 f66_0_1 f66_0_18 f66_0_20 f66_3_1 f66_5_1 H locs ls w86 (show 0 ≤ v66_1.toInt by omega) (show v66_1.toInt ≤ 1 by omega) (show 0 ≤ f66_0_1.toInt by omega) (show f66_0_1.toInt ≤ 400 by omega) (show 0 ≤ f66_0_18.toInt by omega) (show f66_0_18.toInt ≤ 60 by omega) (show 0 ≤ f66_0_20.toInt by omega) (show f66_0_20.toInt ≤ 12 by omega) (show 0 ≤ f66_3_1.toInt by omega) (show f66_3_1.toInt ≤ 400 by omega) (show 0 ≤ f66_5_1.toInt by omega) (show f66_5_1.toInt ≤ 12 by omega) (show (v66_1.toInt = 0 ∨ 3 * f66_3_1.toInt ≤ 14 * f66_0_18.toInt) by omega) (show (v66_1.toInt = 0 ∨ f66_5_1.toInt ≤ f66_0_20.toInt) by omega) (show f66_0_20.toInt ≤ 12 by omega)  hw hT hF c91 c92 c93 c94 c95 c96 (lv_sub hl [0, 1] rfl)
      · have ex65 : x65.toInt = f66_0_1.toInt := by rw [← c74.symm.trans c66]
        have g69 : (x67.toInt = x51.toInt ∨ (gi w31 1 (x51.toInt).toNat).toInt = 32) := by have q := g69; simp only [c52, c68] at q; omega
        refine lv_iconst (v := (-1)) hx hb dX12_readsAll_74 (by decide) ?_
        refine lv_icmp_eq (tgt := 88) hx hb dX12_readsAll_75 (by decide) (fun _ => ?_) (fun c => absurd (by decide) c)
        exact J88 v66_1 f66_0_1 f66_0_18 f66_0_20 f66_3_1 f66_5_1 H locs ls w55 (show 0 ≤ v66_1.toInt by omega) (show v66_1.toInt ≤ 1 by omega) (show 0 ≤ f66_0_1.toInt by omega) (show f66_0_1.toInt ≤ 400 by omega) (show 0 ≤ f66_0_18.toInt by omega) (show f66_0_18.toInt ≤ 60 by omega) (show 0 ≤ f66_0_20.toInt by omega) (show f66_0_20.toInt ≤ 12 by omega) (show 0 ≤ f66_3_1.toInt by omega) (show f66_3_1.toInt ≤ 400 by omega) (show 0 ≤ f66_5_1.toInt by omega) (show f66_5_1.toInt ≤ 12 by omega) (show (v66_1.toInt = 0 ∨ 3 * f66_3_1.toInt ≤ 14 * f66_0_18.toInt) by omega) (show (v66_1.toInt = 0 ∨ f66_5_1.toInt ≤ f66_0_20.toInt) by omega) (show f66_0_20.toInt ≤ 12 by omega)  hw hT hF c74 c75 c76 c77 c78 c79 (lv_sub hl [0, 1] rfl)
      · have ex70 : x70.toInt = f66_0_1.toInt := by rw [← c74.symm.trans c71]
        obtain ⟨x80, c81, rx80, tx80⟩ := hT.rdi (lo := 0) (hi := 400) (k := 14) kM_at0 (by decide) rfl
        have g72 : (x80.toInt = x51.toInt ∨ (gi w31 1 (x51.toInt).toNat).toInt = 32) := by have q := g72; simp only [c52, c81] at q; omega
        refine lv_iconst (v := (-1)) hx hb dX12_readsAll_74 (by decide) ?_
        refine lv_icmp_eq (tgt := 88) hx hb dX12_readsAll_75 (by decide) (fun _ => ?_) (fun c => absurd (by decide) c)
        exact J88 v66_1 f66_0_1 f66_0_18 f66_0_20 f66_3_1 f66_5_1 H locs ls w55 (show 0 ≤ v66_1.toInt by omega) (show v66_1.toInt ≤ 1 by omega) (show 0 ≤ f66_0_1.toInt by omega) (show f66_0_1.toInt ≤ 400 by omega) (show 0 ≤ f66_0_18.toInt by omega) (show f66_0_18.toInt ≤ 60 by omega) (show 0 ≤ f66_0_20.toInt by omega) (show f66_0_20.toInt ≤ 12 by omega) (show 0 ≤ f66_3_1.toInt by omega) (show f66_3_1.toInt ≤ 400 by omega) (show 0 ≤ f66_5_1.toInt by omega) (show f66_5_1.toInt ≤ 12 by omega) (show (v66_1.toInt = 0 ∨ 3 * f66_3_1.toInt ≤ 14 * f66_0_18.toInt) by omega) (show (v66_1.toInt = 0 ∨ f66_5_1.toInt ≤ f66_0_20.toInt) by omega) (show f66_0_20.toInt ≤ 12 by omega)  hw hT hF c74 c75 c76 c77 c78 c79 (lv_sub hl [0, 1] rfl)
  have L35 : ∀ (n35 : Nat) (v35_1 : Int32) (f35_0_1 : Int32) (f35_0_18 : Int32) (f35_0_20 : Int32) (f35_3_1 : Int32) (f35_5_1 : Int32) (H : Heap) (locs : List Loc) (ls : Array Slot) (w98 : va_W), 0 ≤ v35_1.toInt → v35_1.toInt ≤ 1 → 0 ≤ f35_0_1.toInt → f35_0_1.toInt ≤ 400 → 0 ≤ f35_0_18.toInt → f35_0_18.toInt ≤ 60 → 0 ≤ f35_0_20.toInt → f35_0_20.toInt ≤ 12 → 0 ≤ f35_3_1.toInt → f35_3_1.toInt ≤ 400 → 0 ≤ f35_5_1.toInt → f35_5_1.toInt ≤ 12 → ((v35_1.toInt = 0 ∨ 3 * f35_3_1.toInt ≤ 14 * f35_0_18.toInt)) → ((v35_1.toInt = 0 ∨ f35_5_1.toInt ≤ f35_0_20.toInt)) → (f35_0_20.toInt ≤ 12) → (2 * (32 - f35_0_20.toInt) + v35_1.toInt).toNat < n35 → Wd dC dI A s.heap H locs w98 → TW ksM ad cy B qr 12 w98 → FE ksM [(12, 1, 1), (12, 14, 14), (12, 15, 15), (12, 16, 16), (12, 18, 18), (12, 19, 19), (12, 20, 20), (12, 22, 22), (61, 0, 2400), (62, 0, 7), (63, 0, 216), (64, 0, 6), (68, 0, 400)] w0 w98 → gi w98 0 1 = f35_0_1 → gi w98 0 17 = 1 → gi w98 0 18 = f35_0_18 → gi w98 0 20 = f35_0_20 → gi w98 3 1 = f35_3_1 → gi w98 5 1 = f35_5_1 → lv_has ls 2 [(0, .ref (ad 0)), (1, .int v35_1)] → W p l e ({ frames := 12, cells := 0, slots := 0, locals := 255 }) s m (List.toArray [.ref (ad 0)]) below meth c H locs 0 0 (MQ below (va_Qi (P_X12_readsAll_3 ad cy B qr s1  w0) (fun u : va_W => wpost dC dI cy A u) A) (List.toArray [.ref (ad 0)]) s 0 0 A) (F0 m 35 ls []) := by
    intro n35
    induction n35 with
    | zero => intro v35_1 f35_0_1 f35_0_18 f35_0_20 f35_3_1 f35_5_1 H locs ls w98 r99 t100 r101 t102 r105 t106 r108 t109 r111 t112 r114 t115 hcr35_0 hcr35_1 hcr35_2 hm35 hw hT hF c103 c104 c107 c110 c113 c116 hl; omega
    | succ n35 ih35 =>
      intro v35_1 f35_0_1 f35_0_18 f35_0_20 f35_3_1 f35_5_1 H locs ls w98 r99 t100 r101 t102 r105 t106 r108 t109 r111 t112 r114 t115 hcr35_0 hcr35_1 hcr35_2 hm35 hw hT hF c103 c104 c107 c110 c113 c116 hl
      refine lv_iload_n hx hb dX12_readsAll_35 rfl (lv_at hl 1 rfl) ?_
      refine lv_if_eq (tgt := 66) hx hb dX12_readsAll_36 (by decide) (fun c117 => ?_) (fun c117 => ?_)
      · have c117 : v35_1.toInt = (0 : Int) := wk_eq.mp c117
        exact J66 v35_1 f35_0_1 f35_0_18 f35_0_20 f35_3_1 f35_5_1 H locs ls w98 (show 0 ≤ v35_1.toInt by omega) (show v35_1.toInt ≤ 1 by omega) (show 0 ≤ f35_0_1.toInt by omega) (show f35_0_1.toInt ≤ 400 by omega) (show 0 ≤ f35_0_18.toInt by omega) (show f35_0_18.toInt ≤ 60 by omega) (show 0 ≤ f35_0_20.toInt by omega) (show f35_0_20.toInt ≤ 12 by omega) (show 0 ≤ f35_3_1.toInt by omega) (show f35_3_1.toInt ≤ 400 by omega) (show 0 ≤ f35_5_1.toInt by omega) (show f35_5_1.toInt ≤ 12 by omega) (show (v35_1.toInt = 0 ∨ 3 * f35_3_1.toInt ≤ 14 * f35_0_18.toInt) by omega) (show (v35_1.toInt = 0 ∨ f35_5_1.toInt ≤ f35_0_20.toInt) by omega) (show f35_0_20.toInt ≤ 12 by omega)  hw hT hF c103 c104 c107 c110 c113 c116 (lv_sub hl [0, 1] rfl)
      · have c117 : ¬ v35_1.toInt = (0 : Int) := wk_eqF c117
        refine lv_aload_n hx hb dX12_readsAll_39 rfl (lv_at hl 0 rfl) ?_
        obtain ⟨x118, c119, rx118, tx118⟩ := hT.rdi (lo := 0) (hi := 400) (k := 14) kM_at0 (by decide) rfl
        refine tk_Vi hC hK hw hT hA hE hSR kM_at0 (by decide) rfl (k_X12_see_1 l adK adV dC dI cy ad B (by omega) (by omega) qr s1    w98 H.size hT x118 c119 (show 0 ≤ x118.toInt by omega) (show x118.toInt ≤ 400 by omega)) (cwV 0 hC.2.2.2.2 gX12_readsAll_X12_see rfl rfl rfl (by decide +kernel) ⟨Nat.le_of_ble_eq_true rfl, Nat.le_of_ble_eq_true rfl⟩) rfl hl.1 rfl (Nat.le_of_ble_eq_true rfl) dX12_readsAll_40 (fun r120 w122 H locs hp121 hw => ?_)
        obtain ⟨hT, k123, hg140⟩ := hp121
        have hF := hF.tr k123 (by decide)
        have c141 := k123.gi kM_at0 (by decide) c103
        have c142 := k123.gi kM_at0 (by decide) c104
        have c143 := k123.gi kM_at0 (by decide) c107
        have c144 := k123.gi kM_at0 (by decide) c110
        have c145 := k123.gi kM_at3 (by decide) c113
        have c146 := k123.gi kM_at5 (by decide) c116
        rcases hg140 with ⟨g124, g125, ⟨x126, c127, rx126, tx126⟩, ⟨x128, c129, rx128, tx128⟩, g130, g131⟩ | ⟨rfl, ⟨x132, c133, rx132, tx132⟩, ⟨x134, c135, rx134, tx134⟩, g136⟩ | ⟨rfl, ⟨x137, c138, rx137, tx137⟩, g139⟩
        · have ex126 : x126.toInt = f35_0_1.toInt := by rw [← c141.symm.trans c127]
          have g130 : (gi w122 1 (x128.toInt).toNat).toInt ≠ 32 := by have q := g130; simp only [c129] at q; omega
          have g131 : (x128.toInt = x118.toInt ∨ (gi w98 1 (x118.toInt).toNat).toInt = 32) := by have q := g131; simp only [c119, c129] at q; omega
          refine lv_bipush (v := 59) hx hb dX12_readsAll_43 (by decide) ?_
          refine lv_icmp_ne (tgt := 66) hx hb dX12_readsAll_45 (by decide) (fun c149 => ?_) (fun c149 => ?_)
          · have c149 : ¬ r120.toInt = (59 : Int) := wk_eqF c149
            exact J66 v35_1 f35_0_1 f35_0_18 f35_0_20 f35_3_1 f35_5_1 H locs ls w122 (show 0 ≤ v35_1.toInt by omega) (show v35_1.toInt ≤ 1 by omega) (show 0 ≤ f35_0_1.toInt by omega) (show f35_0_1.toInt ≤ 400 by omega) (show 0 ≤ f35_0_18.toInt by omega) (show f35_0_18.toInt ≤ 60 by omega) (show 0 ≤ f35_0_20.toInt by omega) (show f35_0_20.toInt ≤ 12 by omega) (show 0 ≤ f35_3_1.toInt by omega) (show f35_3_1.toInt ≤ 400 by omega) (show 0 ≤ f35_5_1.toInt by omega) (show f35_5_1.toInt ≤ 12 by omega) (show (v35_1.toInt = 0 ∨ 3 * f35_3_1.toInt ≤ 14 * f35_0_18.toInt) by omega) (show (v35_1.toInt = 0 ∨ f35_5_1.toInt ≤ f35_0_20.toInt) by omega) (show f35_0_20.toInt ≤ 12 by omega)  hw hT hF c141 c142 c143 c144 c145 c146 (lv_sub hl [0, 1] rfl)
          · have c149 : r120.toInt = (59 : Int) := wk_eq.mp c149
            refine lv_aload_n hx hb dX12_readsAll_48 rfl (lv_at hl 0 rfl) ?_
            refine lv_dup hx hb dX12_readsAll_49 rfl ?_
            refine tk_geti hC hK hw hT hinX12 kM_at0 (by decide) rfl 14 (by decide) (List.mem_of_getElem? (i := 4) rfl) rfl rfl dX12_readsAll_50 (fun x150 c151 rx150 tx150 => ?_)
            refine wk_top x128 (c151.symm.trans c129) ?_
            refine lv_iconst (v := 1) hx hb dX12_readsAll_53 (by decide) ?_
            refine lv_iadd hx hb dX12_readsAll_54 ?_
            refine lv_topi (fun x152 ex152 => ?_)
            have ex152 : x152.toInt = x128.toInt + (1 : Int) := by rw [ex152]; exact wk_add (show (-2147483648) ≤ x128.toInt + (1 : Int) by omega) (show x128.toInt + (1 : Int) ≤ 2147483647 by omega)
            refine tk_puti hC hK hw hT hinX12 tyX12_ok nmX12 kM_at0 (by decide) rfl rfl 14 (by decide) (List.mem_of_getElem? (i := 4) rfl) rfl rfl rfl rfl (show 0 ≤ x152.toInt by omega) (show x152.toInt ≤ 400 by omega) dX12_readsAll_55 (fun H locs w153 hw hT k155 c154 => ?_)
            have hF := hF.put kM_at0 (k := 14) (by decide) k155
            have c156 := k155.gi (Or.inr (by decide)) c141
            have c157 := k155.gi (Or.inr (by decide)) c142
            have c158 := k155.gi (Or.inr (by decide)) c143
            have c159 := k155.gi (Or.inr (by decide)) c144
            have c160 := k155.gi (Or.inr (by decide)) c145
            have c161 := k155.gi (Or.inr (by decide)) c146
            refine lv_aload_n hx hb dX12_readsAll_58 rfl (lv_at hl 0 rfl) ?_
            refine tk_Vi hC hK hw hT hA hE hSR kM_at0 (by decide) rfl (k_X12_clauseHere_3 l adK adV dC dI cy ad B (by omega) (by omega) qr s1    w153 H.size hT c157 f35_0_18 c158 (show 0 ≤ f35_0_18.toInt by omega) (show f35_0_18.toInt ≤ 60 by omega) f35_0_20 c159 (show 0 ≤ f35_0_20.toInt by omega) (show f35_0_20.toInt ≤ 32 by omega) f35_3_1 c160 (show 0 ≤ f35_3_1.toInt by omega) (show f35_3_1.toInt ≤ 400 by omega) f35_5_1 c161 (show 0 ≤ f35_5_1.toInt by omega) (show f35_5_1.toInt ≤ 12 by omega) (show 3 * f35_3_1.toInt ≤ 14 * f35_0_18.toInt by omega) (show f35_5_1.toInt ≤ f35_0_20.toInt by omega) (show f35_0_20.toInt ≤ 12 by omega) (show f35_3_1.toInt ≤ 280 by omega)) (cwV 0 hC.2.2.2.2 gX12_readsAll_X12_clauseHere rfl rfl rfl (by decide +kernel) ⟨Nat.le_of_ble_eq_true rfl, Nat.le_of_ble_eq_true rfl⟩) rfl hl.1 rfl (Nat.le_of_ble_eq_true rfl) dX12_readsAll_59 (fun r162 w164 H locs hp163 hw => ?_)
            obtain ⟨hT, k165, hg206⟩ := hp163
            have hF := hF.tr k165 (by decide)
            have c207 := k165.gi kM_at0 (by decide) c156
            have c208 := k165.gi kM_at0 (by decide) c157
            rcases hg206 with ⟨rfl, ⟨x166, c167, rx166, tx166⟩, ⟨x168, c169, rx168, tx168⟩, ⟨x170, c171, rx170, tx170⟩, ⟨x172, c173, rx172, tx172⟩, g174, g175⟩ | ⟨rfl, ⟨x176, c177, rx176, tx176⟩, ⟨x178, c179, rx178, tx178⟩, ⟨x180, c181, rx180, tx180⟩, ⟨x182, c183, rx182, tx182⟩, g184, g185⟩ | ⟨rfl, ⟨x186, c187, rx186, tx186⟩, ⟨x188, c189, rx188, tx188⟩, ⟨x190, c191, rx190, tx190⟩, g192, g193, g194, g195⟩ | ⟨rfl, ⟨x196, c197, rx196, tx196⟩, ⟨x198, c199, rx198, tx198⟩, ⟨x200, c201, rx200, tx200⟩, g202, g203, g204, g205⟩
            · have ex166 : x166.toInt = f35_0_1.toInt := by rw [← c207.symm.trans c167]
              have ex170 : x170.toInt = (1 : Int) := by rw [show x170 = 1 from c171.symm.trans c208]; decide
              obtain ⟨x209, c210, rx209, tx209⟩ := hT.rda (lo := 0) (hi := 400) (i := 1) kM_at3 rfl rfl (by decide)
              obtain ⟨x211, c212, rx211, tx211⟩ := hT.rdi (lo := 0) (hi := 60) (k := 18) kM_at0 (by decide) rfl
              obtain ⟨x213, c214, rx213, tx213⟩ := hT.rda (lo := 0) (hi := 12) (i := 1) kM_at5 rfl rfl (by decide)
              have g174 : f35_0_20.toInt ≤ x172.toInt := by have q := g174; simp only [c159, c173] at q; omega
              have g175 : x172.toInt ≤ 12 := by have q := g175; simp only [c173] at q; omega
              refine lv_istore_n (lv' := [(1, .int 0), (0, .ref (ad 0))]) hx hb dX12_readsAll_62 rfl hl (by decide) rfl (fun ls hl => ?_)
              refine lv_goto (tgt := 35) hx hb dX12_readsAll_63 (by decide) ?_
              exact ih35 0 f35_0_1 x211 x172 x209 x213 H locs ls w164 (by decide) (by decide) (show 0 ≤ f35_0_1.toInt by omega) (show f35_0_1.toInt ≤ 400 by omega) (show 0 ≤ x211.toInt by omega) (show x211.toInt ≤ 60 by omega) (show 0 ≤ x172.toInt by omega) (show x172.toInt ≤ 12 by omega) (show 0 ≤ x209.toInt by omega) (show x209.toInt ≤ 400 by omega) (show 0 ≤ x213.toInt by omega) (show x213.toInt ≤ 12 by omega) (show ((0 : Int) = 0 ∨ 3 * x209.toInt ≤ 14 * x211.toInt) by omega) (show ((0 : Int) = 0 ∨ x213.toInt ≤ x172.toInt) by omega) (show x172.toInt ≤ 12 by omega) (show (2 * (32 - x172.toInt) + (0 : Int)).toNat < n35 by omega) hw hT hF c207 c208 c212 c173 c210 c214 (lv_sub hl [1, 0] rfl)
            · have ex176 : x176.toInt = f35_0_1.toInt := by rw [← c207.symm.trans c177]
              have ex180 : x180.toInt = (1 : Int) := by rw [show x180 = 1 from c181.symm.trans c208]; decide
              obtain ⟨x215, c216, rx215, tx215⟩ := hT.rda (lo := 0) (hi := 400) (i := 1) kM_at3 rfl rfl (by decide)
              obtain ⟨x217, c218, rx217, tx217⟩ := hT.rdi (lo := 0) (hi := 60) (k := 18) kM_at0 (by decide) rfl
              obtain ⟨x219, c220, rx219, tx219⟩ := hT.rda (lo := 0) (hi := 12) (i := 1) kM_at5 rfl rfl (by decide)
              have g184 : f35_0_20.toInt ≤ x182.toInt := by have q := g184; simp only [c159, c183] at q; omega
              have g185 : x182.toInt ≤ 12 := by have q := g185; simp only [c183] at q; omega
              refine lv_istore_n (lv' := [(1, .int 0), (0, .ref (ad 0))]) hx hb dX12_readsAll_62 rfl hl (by decide) rfl (fun ls hl => ?_)
              refine lv_goto (tgt := 35) hx hb dX12_readsAll_63 (by decide) ?_
              exact ih35 0 f35_0_1 x217 x182 x215 x219 H locs ls w164 (by decide) (by decide) (show 0 ≤ f35_0_1.toInt by omega) (show f35_0_1.toInt ≤ 400 by omega) (show 0 ≤ x217.toInt by omega) (show x217.toInt ≤ 60 by omega) (show 0 ≤ x182.toInt by omega) (show x182.toInt ≤ 12 by omega) (show 0 ≤ x215.toInt by omega) (show x215.toInt ≤ 400 by omega) (show 0 ≤ x219.toInt by omega) (show x219.toInt ≤ 12 by omega) (show ((0 : Int) = 0 ∨ 3 * x215.toInt ≤ 14 * x217.toInt) by omega) (show ((0 : Int) = 0 ∨ x219.toInt ≤ x182.toInt) by omega) (show x182.toInt ≤ 12 by omega) (show (2 * (32 - x182.toInt) + (0 : Int)).toNat < n35 by omega) hw hT hF c207 c208 c218 c183 c216 c220 (lv_sub hl [1, 0] rfl)
            · have ex186 : x186.toInt = f35_0_1.toInt := by rw [← c207.symm.trans c187]
              have ex188 : x188.toInt = (1 : Int) := by rw [show x188 = 1 from c189.symm.trans c208]; decide
              obtain ⟨x221, c222, rx221, tx221⟩ := hT.rda (lo := 0) (hi := 400) (i := 1) kM_at3 rfl rfl (by decide)
              obtain ⟨x223, c224, rx223, tx223⟩ := hT.rdi (lo := 0) (hi := 60) (k := 18) kM_at0 (by decide) rfl
              obtain ⟨x225, c226, rx225, tx225⟩ := hT.rda (lo := 0) (hi := 12) (i := 1) kM_at5 rfl rfl (by decide)
              have g192 : 3 * x221.toInt ≤ 14 * x223.toInt := by have q := g192; simp only [c222, c224] at q; omega
              have g193 : x225.toInt ≤ x190.toInt := by have q := g193; simp only [c226, c191] at q; omega
              have g194 : x190.toInt = f35_0_20.toInt + 1 := by have q := g194; simp only [c159, c191] at q; omega
              have g195 : x190.toInt ≤ 12 := by have q := g195; simp only [c191] at q; omega
              refine lv_istore_n (lv' := [(1, .int 1), (0, .ref (ad 0))]) hx hb dX12_readsAll_62 rfl hl (by decide) rfl (fun ls hl => ?_)
              refine lv_goto (tgt := 35) hx hb dX12_readsAll_63 (by decide) ?_
              exact ih35 1 f35_0_1 x223 x190 x221 x225 H locs ls w164 (by decide) (by decide) (show 0 ≤ f35_0_1.toInt by omega) (show f35_0_1.toInt ≤ 400 by omega) (show 0 ≤ x223.toInt by omega) (show x223.toInt ≤ 60 by omega) (show 0 ≤ x190.toInt by omega) (show x190.toInt ≤ 12 by omega) (show 0 ≤ x221.toInt by omega) (show x221.toInt ≤ 400 by omega) (show 0 ≤ x225.toInt by omega) (show x225.toInt ≤ 12 by omega) (show ((1 : Int) = 0 ∨ 3 * x221.toInt ≤ 14 * x223.toInt) by omega) (show ((1 : Int) = 0 ∨ x225.toInt ≤ x190.toInt) by omega) (show x190.toInt ≤ 12 by omega) (show (2 * (32 - x190.toInt) + (1 : Int)).toNat < n35 by omega) hw hT hF c207 c208 c224 c191 c222 c226 (lv_sub hl [1, 0] rfl)
            · have ex196 : x196.toInt = f35_0_1.toInt := by rw [← c207.symm.trans c197]
              have ex198 : x198.toInt = (1 : Int) := by rw [show x198 = 1 from c199.symm.trans c208]; decide
              obtain ⟨x227, c228, rx227, tx227⟩ := hT.rda (lo := 0) (hi := 400) (i := 1) kM_at3 rfl rfl (by decide)
              obtain ⟨x229, c230, rx229, tx229⟩ := hT.rdi (lo := 0) (hi := 60) (k := 18) kM_at0 (by decide) rfl
              obtain ⟨x231, c232, rx231, tx231⟩ := hT.rda (lo := 0) (hi := 12) (i := 1) kM_at5 rfl rfl (by decide)
              have g202 : 3 * x227.toInt ≤ 14 * x229.toInt := by have q := g202; simp only [c228, c230] at q; omega
              have g203 : x231.toInt ≤ x200.toInt := by have q := g203; simp only [c232, c201] at q; omega
              have g204 : x200.toInt = f35_0_20.toInt + 1 := by have q := g204; simp only [c159, c201] at q; omega
              have g205 : x200.toInt ≤ 12 := by have q := g205; simp only [c201] at q; omega
              refine lv_istore_n (lv' := [(1, .int 1), (0, .ref (ad 0))]) hx hb dX12_readsAll_62 rfl hl (by decide) rfl (fun ls hl => ?_)
              refine lv_goto (tgt := 35) hx hb dX12_readsAll_63 (by decide) ?_
              exact ih35 1 f35_0_1 x229 x200 x227 x231 H locs ls w164 (by decide) (by decide) (show 0 ≤ f35_0_1.toInt by omega) (show f35_0_1.toInt ≤ 400 by omega) (show 0 ≤ x229.toInt by omega) (show x229.toInt ≤ 60 by omega) (show 0 ≤ x200.toInt by omega) (show x200.toInt ≤ 12 by omega) (show 0 ≤ x227.toInt by omega) (show x227.toInt ≤ 400 by omega) (show 0 ≤ x231.toInt by omega) (show x231.toInt ≤ 12 by omega) (show ((1 : Int) = 0 ∨ 3 * x227.toInt ≤ 14 * x229.toInt) by omega) (show ((1 : Int) = 0 ∨ x231.toInt ≤ x200.toInt) by omega) (show x200.toInt ≤ 12 by omega) (show (2 * (32 - x200.toInt) + (1 : Int)).toNat < n35 by omega) hw hT hF c207 c208 c230 c201 c228 c232 (lv_sub hl [1, 0] rfl)
        · have ex132 : x132.toInt = f35_0_1.toInt := by rw [← c141.symm.trans c133]
          have g136 : (x134.toInt = x118.toInt ∨ (gi w98 1 (x118.toInt).toNat).toInt = 32) := by have q := g136; simp only [c119, c135] at q; omega
          refine lv_bipush (v := 59) hx hb dX12_readsAll_43 (by decide) ?_
          refine lv_icmp_ne (tgt := 66) hx hb dX12_readsAll_45 (by decide) (fun _ => ?_) (fun c => absurd c (by decide))
          exact J66 v35_1 f35_0_1 f35_0_18 f35_0_20 f35_3_1 f35_5_1 H locs ls w122 (show 0 ≤ v35_1.toInt by omega) (show v35_1.toInt ≤ 1 by omega) (show 0 ≤ f35_0_1.toInt by omega) (show f35_0_1.toInt ≤ 400 by omega) (show 0 ≤ f35_0_18.toInt by omega) (show f35_0_18.toInt ≤ 60 by omega) (show 0 ≤ f35_0_20.toInt by omega) (show f35_0_20.toInt ≤ 12 by omega) (show 0 ≤ f35_3_1.toInt by omega) (show f35_3_1.toInt ≤ 400 by omega) (show 0 ≤ f35_5_1.toInt by omega) (show f35_5_1.toInt ≤ 12 by omega) (show (v35_1.toInt = 0 ∨ 3 * f35_3_1.toInt ≤ 14 * f35_0_18.toInt) by omega) (show (v35_1.toInt = 0 ∨ f35_5_1.toInt ≤ f35_0_20.toInt) by omega) (show f35_0_20.toInt ≤ 12 by omega)  hw hT hF c141 c142 c143 c144 c145 c146 (lv_sub hl [0, 1] rfl)
        · have ex137 : x137.toInt = f35_0_1.toInt := by rw [← c141.symm.trans c138]
          obtain ⟨x147, c148, rx147, tx147⟩ := hT.rdi (lo := 0) (hi := 400) (k := 14) kM_at0 (by decide) rfl
          have g139 : (x147.toInt = x118.toInt ∨ (gi w98 1 (x118.toInt).toNat).toInt = 32) := by have q := g139; simp only [c119, c148] at q; omega
          refine lv_bipush (v := 59) hx hb dX12_readsAll_43 (by decide) ?_
          refine lv_icmp_ne (tgt := 66) hx hb dX12_readsAll_45 (by decide) (fun _ => ?_) (fun c => absurd c (by decide))
          exact J66 v35_1 f35_0_1 f35_0_18 f35_0_20 f35_3_1 f35_5_1 H locs ls w122 (show 0 ≤ v35_1.toInt by omega) (show v35_1.toInt ≤ 1 by omega) (show 0 ≤ f35_0_1.toInt by omega) (show f35_0_1.toInt ≤ 400 by omega) (show 0 ≤ f35_0_18.toInt by omega) (show f35_0_18.toInt ≤ 60 by omega) (show 0 ≤ f35_0_20.toInt by omega) (show f35_0_20.toInt ≤ 12 by omega) (show 0 ≤ f35_3_1.toInt by omega) (show f35_3_1.toInt ≤ 400 by omega) (show 0 ≤ f35_5_1.toInt by omega) (show f35_5_1.toInt ≤ 12 by omega) (show (v35_1.toInt = 0 ∨ 3 * f35_3_1.toInt ≤ 14 * f35_0_18.toInt) by omega) (show (v35_1.toInt = 0 ∨ f35_5_1.toInt ≤ f35_0_20.toInt) by omega) (show f35_0_20.toInt ≤ 12 by omega)  hw hT hF c141 c142 c143 c144 c145 c146 (lv_sub hl [0, 1] rfl)
  refine lv_aload_n hx hb dX12_readsAll_0 rfl (lv_at hl 0 rfl) ?_
  refine tk_getA hC hK hw hT hinX12 kM_at0 (by decide) rfl 4 (by decide) (List.mem_of_getElem? (i := 1) rfl) rfl rfl dX12_readsAll_1 ?_
  refine lv_aload_n hx hb dX12_readsAll_4 rfl (lv_at hl 0 rfl) ?_
  refine tk_geti hC hK hw hT hinX12 kM_at0 (by decide) rfl 17 (by decide) (List.mem_of_getElem? (i := 2) rfl) rfl rfl dX12_readsAll_5 (fun x233 c234 rx233 tx233 => ?_)
  refine wk_top 1 (c234.symm.trans cf0_) ?_
  refine lv_iconst (v := 0) hx hb dX12_readsAll_8 (by decide) ?_
  refine tk_iast hC hK hw hT kM_at3 (by decide) rfl rfl (by decide) (by decide) (by decide) (by decide) dX12_readsAll_9 (fun H locs w235 hw hT k237 c236 => ?_)
  have hF := hF.put kM_at3 (inE_of (a := 0) (b := 7) (by decide) (by decide) (by decide)) k237
  have c238 := k237.gi (Or.inl (tk_ne kM_at0 kM_at3 (by decide))) cf0_
  have c239 := k237.gi (Or.inl (tk_ne kM_at0 kM_at3 (by decide))) cf1_
  have c240 := k237.gi (Or.inl (tk_ne kM_at0 kM_at3 (by decide))) cf2_
  have c241 := k237.gi (Or.inl (tk_ne kM_at5 kM_at3 (by decide))) cf4_
  have c236 : gi w235 3 1 = 0 := c236
  refine lv_aload_n hx hb dX12_readsAll_10 rfl (lv_at hl 0 rfl) ?_
  refine lv_iconst (v := 0) hx hb dX12_readsAll_11 (by decide) ?_
  refine tk_puti hC hK hw hT hinX12 tyX12_ok nmX12 kM_at0 (by decide) rfl rfl 20 (by decide) (List.mem_of_getElem? (i := 3) rfl) rfl rfl rfl rfl (by decide) (by decide) dX12_readsAll_12 (fun H locs w242 hw hT k244 c243 => ?_)
  have hF := hF.put kM_at0 (k := 20) (by decide) k244
  have c245 := k244.gi (Or.inr (by decide)) c238
  have c246 := k244.gi (Or.inr (by decide)) c239
  have c247 := k244.gi (Or.inr (by decide)) c241
  have c248 := k244.gi (Or.inr (by decide)) c236
  refine lv_aload_n hx hb dX12_readsAll_15 rfl (lv_at hl 0 rfl) ?_
  refine lv_iconst (v := 0) hx hb dX12_readsAll_16 (by decide) ?_
  refine tk_puti hC hK hw hT hinX12 tyX12_ok nmX12 kM_at0 (by decide) rfl rfl 14 (by decide) (List.mem_of_getElem? (i := 4) rfl) rfl rfl rfl rfl (by decide) (by decide) dX12_readsAll_17 (fun H locs w249 hw hT k251 c250 => ?_)
  have hF := hF.put kM_at0 (k := 14) (by decide) k251
  have c252 := k251.gi (Or.inr (by decide)) c245
  have c253 := k251.gi (Or.inr (by decide)) c246
  have c254 := k251.gi (Or.inr (by decide)) c247
  have c255 := k251.gi (Or.inr (by decide)) c248
  have c256 := k251.gi (Or.inr (by decide)) c243
  refine lv_aload_n hx hb dX12_readsAll_20 rfl (lv_at hl 0 rfl) ?_
  refine lv_iconst (v := 0) hx hb dX12_readsAll_21 (by decide) ?_
  refine tk_puti hC hK hw hT hinX12 tyX12_ok nmX12 kM_at0 (by decide) rfl rfl 15 (by decide) (List.mem_of_getElem? (i := 5) rfl) rfl rfl rfl rfl (by decide) (by decide) dX12_readsAll_22 (fun H locs w257 hw hT k259 c258 => ?_)
  have hF := hF.put kM_at0 (k := 15) (by decide) k259
  have c260 := k259.gi (Or.inr (by decide)) c252
  have c261 := k259.gi (Or.inr (by decide)) c253
  have c262 := k259.gi (Or.inr (by decide)) c254
  have c263 := k259.gi (Or.inr (by decide)) c255
  have c264 := k259.gi (Or.inr (by decide)) c256
  have c265 := k259.gi (Or.inr (by decide)) c250
  refine lv_aload_n hx hb dX12_readsAll_25 rfl (lv_at hl 0 rfl) ?_
  refine lv_iconst (v := 0) hx hb dX12_readsAll_26 (by decide) ?_
  refine tk_puti hC hK hw hT hinX12 tyX12_ok nmX12 kM_at0 (by decide) rfl rfl 18 (by decide) (List.mem_of_getElem? (i := 6) rfl) rfl rfl rfl rfl (by decide) (by decide) dX12_readsAll_27 (fun H locs w266 hw hT k268 c267 => ?_)
  have hF := hF.put kM_at0 (k := 18) (by decide) k268
  have c269 := k268.gi (Or.inr (by decide)) c260
  have c270 := k268.gi (Or.inr (by decide)) c262
  have c271 := k268.gi (Or.inr (by decide)) c263
  have c272 := k268.gi (Or.inr (by decide)) c264
  have c273 := k268.gi (Or.inr (by decide)) c265
  have c274 := k268.gi (Or.inr (by decide)) c258
  refine lv_aload_n hx hb dX12_readsAll_30 rfl (lv_at hl 0 rfl) ?_
  refine tk_Vi hC hK hw hT hA hE hSR kM_at0 (by decide) rfl (k_X12_clauseHere_3 l adK adV dC dI cy ad B (by omega) (by omega) qr s1    w266 H.size hT c269 0 c267 (by decide) (by decide) 0 c272 (by decide) (by decide) 0 c271 (by decide) (by decide) f4_ c270 (show 0 ≤ f4_.toInt by omega) (show f4_.toInt ≤ 12 by omega) (show 3 * (0 : Int) ≤ 14 * (0 : Int) by omega) (show f4_.toInt ≤ (0 : Int) by omega) (show (0 : Int) ≤ 12 by omega) (show (0 : Int) ≤ 280 by omega)) (cwV 0 hC.2.2.2.2 gX12_readsAll_X12_clauseHere rfl rfl rfl (by decide +kernel) ⟨Nat.le_of_ble_eq_true rfl, Nat.le_of_ble_eq_true rfl⟩) rfl hl.1 rfl (Nat.le_of_ble_eq_true rfl) dX12_readsAll_31 (fun r275 w277 H locs hp276 hw => ?_)
  obtain ⟨hT, k278, hg319⟩ := hp276
  have hF := hF.tr k278 (by decide)
  have c320 := k278.gi kM_at0 (by decide) c269
  rcases hg319 with ⟨rfl, ⟨x279, c280, rx279, tx279⟩, ⟨x281, c282, rx281, tx281⟩, ⟨x283, c284, rx283, tx283⟩, ⟨x285, c286, rx285, tx285⟩, g287, g288⟩ | ⟨rfl, ⟨x289, c290, rx289, tx289⟩, ⟨x291, c292, rx291, tx291⟩, ⟨x293, c294, rx293, tx293⟩, ⟨x295, c296, rx295, tx295⟩, g297, g298⟩ | ⟨rfl, ⟨x299, c300, rx299, tx299⟩, ⟨x301, c302, rx301, tx301⟩, ⟨x303, c304, rx303, tx303⟩, g305, g306, g307, g308⟩ | ⟨rfl, ⟨x309, c310, rx309, tx309⟩, ⟨x311, c312, rx311, tx311⟩, ⟨x313, c314, rx313, tx313⟩, g315, g316, g317, g318⟩
  · have ex283 : x283.toInt = (1 : Int) := by rw [show x283 = 1 from c284.symm.trans c320]; decide
    obtain ⟨x321, c322, rx321, tx321⟩ := hT.rda (lo := 0) (hi := 400) (i := 1) kM_at3 rfl rfl (by decide)
    obtain ⟨x323, c324, rx323, tx323⟩ := hT.rdi (lo := 0) (hi := 60) (k := 18) kM_at0 (by decide) rfl
    obtain ⟨x325, c326, rx325, tx325⟩ := hT.rda (lo := 0) (hi := 12) (i := 1) kM_at5 rfl rfl (by decide)
    have g287 : (0 : Int) ≤ x285.toInt := by have q := g287; simp only [c272, (show (0 : Int32).toInt = 0 by decide), c286] at q; omega
    have g288 : x285.toInt ≤ 12 := by have q := g288; simp only [c286] at q; omega
    refine lv_istore_n (lv' := [(1, .int 0), (0, .ref (ad 0))]) hx hb dX12_readsAll_34 rfl hl (by decide) rfl (fun ls hl => ?_)
    exact L35 ((2 * (32 - x285.toInt) + (0 : Int)).toNat + 1) 0 x279 x323 x285 x321 x325 H locs ls w277 (by decide) (by decide) (show 0 ≤ x279.toInt by omega) (show x279.toInt ≤ 400 by omega) (show 0 ≤ x323.toInt by omega) (show x323.toInt ≤ 60 by omega) (show 0 ≤ x285.toInt by omega) (show x285.toInt ≤ 12 by omega) (show 0 ≤ x321.toInt by omega) (show x321.toInt ≤ 400 by omega) (show 0 ≤ x325.toInt by omega) (show x325.toInt ≤ 12 by omega) (show ((0 : Int) = 0 ∨ 3 * x321.toInt ≤ 14 * x323.toInt) by omega) (show ((0 : Int) = 0 ∨ x325.toInt ≤ x285.toInt) by omega) (show x285.toInt ≤ 12 by omega) (Nat.lt_succ_self _) hw hT hF c280 c320 c324 c286 c322 c326 (lv_sub hl [1, 0] rfl)
  · have ex293 : x293.toInt = (1 : Int) := by rw [show x293 = 1 from c294.symm.trans c320]; decide
    obtain ⟨x327, c328, rx327, tx327⟩ := hT.rda (lo := 0) (hi := 400) (i := 1) kM_at3 rfl rfl (by decide)
    obtain ⟨x329, c330, rx329, tx329⟩ := hT.rdi (lo := 0) (hi := 60) (k := 18) kM_at0 (by decide) rfl
    obtain ⟨x331, c332, rx331, tx331⟩ := hT.rda (lo := 0) (hi := 12) (i := 1) kM_at5 rfl rfl (by decide)
    have g297 : (0 : Int) ≤ x295.toInt := by have q := g297; simp only [c272, (show (0 : Int32).toInt = 0 by decide), c296] at q; omega
    have g298 : x295.toInt ≤ 12 := by have q := g298; simp only [c296] at q; omega
    refine lv_istore_n (lv' := [(1, .int 0), (0, .ref (ad 0))]) hx hb dX12_readsAll_34 rfl hl (by decide) rfl (fun ls hl => ?_)
    exact L35 ((2 * (32 - x295.toInt) + (0 : Int)).toNat + 1) 0 x289 x329 x295 x327 x331 H locs ls w277 (by decide) (by decide) (show 0 ≤ x289.toInt by omega) (show x289.toInt ≤ 400 by omega) (show 0 ≤ x329.toInt by omega) (show x329.toInt ≤ 60 by omega) (show 0 ≤ x295.toInt by omega) (show x295.toInt ≤ 12 by omega) (show 0 ≤ x327.toInt by omega) (show x327.toInt ≤ 400 by omega) (show 0 ≤ x331.toInt by omega) (show x331.toInt ≤ 12 by omega) (show ((0 : Int) = 0 ∨ 3 * x327.toInt ≤ 14 * x329.toInt) by omega) (show ((0 : Int) = 0 ∨ x331.toInt ≤ x295.toInt) by omega) (show x295.toInt ≤ 12 by omega) (Nat.lt_succ_self _) hw hT hF c290 c320 c330 c296 c328 c332 (lv_sub hl [1, 0] rfl)
  · have ex301 : x301.toInt = (1 : Int) := by rw [show x301 = 1 from c302.symm.trans c320]; decide
    obtain ⟨x333, c334, rx333, tx333⟩ := hT.rda (lo := 0) (hi := 400) (i := 1) kM_at3 rfl rfl (by decide)
    obtain ⟨x335, c336, rx335, tx335⟩ := hT.rdi (lo := 0) (hi := 60) (k := 18) kM_at0 (by decide) rfl
    obtain ⟨x337, c338, rx337, tx337⟩ := hT.rda (lo := 0) (hi := 12) (i := 1) kM_at5 rfl rfl (by decide)
    have g305 : 3 * x333.toInt ≤ 14 * x335.toInt := by have q := g305; simp only [c334, c336] at q; omega
    have g306 : x337.toInt ≤ x303.toInt := by have q := g306; simp only [c338, c304] at q; omega
    have g307 : x303.toInt = (0 : Int) + 1 := by have q := g307; simp only [c272, (show (0 : Int32).toInt = 0 by decide), c304] at q; omega
    have g308 : x303.toInt ≤ 12 := by have q := g308; simp only [c304] at q; omega
    refine lv_istore_n (lv' := [(1, .int 1), (0, .ref (ad 0))]) hx hb dX12_readsAll_34 rfl hl (by decide) rfl (fun ls hl => ?_)
    exact L35 ((2 * (32 - x303.toInt) + (1 : Int)).toNat + 1) 1 x299 x335 x303 x333 x337 H locs ls w277 (by decide) (by decide) (show 0 ≤ x299.toInt by omega) (show x299.toInt ≤ 400 by omega) (show 0 ≤ x335.toInt by omega) (show x335.toInt ≤ 60 by omega) (show 0 ≤ x303.toInt by omega) (show x303.toInt ≤ 12 by omega) (show 0 ≤ x333.toInt by omega) (show x333.toInt ≤ 400 by omega) (show 0 ≤ x337.toInt by omega) (show x337.toInt ≤ 12 by omega) (show ((1 : Int) = 0 ∨ 3 * x333.toInt ≤ 14 * x335.toInt) by omega) (show ((1 : Int) = 0 ∨ x337.toInt ≤ x303.toInt) by omega) (show x303.toInt ≤ 12 by omega) (Nat.lt_succ_self _) hw hT hF c300 c320 c336 c304 c334 c338 (lv_sub hl [1, 0] rfl)
  · have ex311 : x311.toInt = (1 : Int) := by rw [show x311 = 1 from c312.symm.trans c320]; decide
    obtain ⟨x339, c340, rx339, tx339⟩ := hT.rda (lo := 0) (hi := 400) (i := 1) kM_at3 rfl rfl (by decide)
    obtain ⟨x341, c342, rx341, tx341⟩ := hT.rdi (lo := 0) (hi := 60) (k := 18) kM_at0 (by decide) rfl
    obtain ⟨x343, c344, rx343, tx343⟩ := hT.rda (lo := 0) (hi := 12) (i := 1) kM_at5 rfl rfl (by decide)
    have g315 : 3 * x339.toInt ≤ 14 * x341.toInt := by have q := g315; simp only [c340, c342] at q; omega
    have g316 : x343.toInt ≤ x313.toInt := by have q := g316; simp only [c344, c314] at q; omega
    have g317 : x313.toInt = (0 : Int) + 1 := by have q := g317; simp only [c272, (show (0 : Int32).toInt = 0 by decide), c314] at q; omega
    have g318 : x313.toInt ≤ 12 := by have q := g318; simp only [c314] at q; omega
    refine lv_istore_n (lv' := [(1, .int 1), (0, .ref (ad 0))]) hx hb dX12_readsAll_34 rfl hl (by decide) rfl (fun ls hl => ?_)
    exact L35 ((2 * (32 - x313.toInt) + (1 : Int)).toNat + 1) 1 x309 x341 x313 x339 x343 H locs ls w277 (by decide) (by decide) (show 0 ≤ x309.toInt by omega) (show x309.toInt ≤ 400 by omega) (show 0 ≤ x341.toInt by omega) (show x341.toInt ≤ 60 by omega) (show 0 ≤ x313.toInt by omega) (show x313.toInt ≤ 12 by omega) (show 0 ≤ x339.toInt by omega) (show x339.toInt ≤ 400 by omega) (show 0 ≤ x343.toInt by omega) (show x343.toInt ≤ 12 by omega) (show ((1 : Int) = 0 ∨ 3 * x339.toInt ≤ 14 * x341.toInt) by omega) (show ((1 : Int) = 0 ∨ x343.toInt ≤ x313.toInt) by omega) (show x313.toInt ≤ 12 by omega) (Nat.lt_succ_self _) hw hT hF c310 c320 c342 c314 c340 c344 (lv_sub hl [1, 0] rfl)
abbrev P_X12_puts_3 (ad : Nat → Nat) (cy : Nat → ClassId) (B : Int) (qr : Nat) (s1 : Int) (a1 : Int32) (a2 : Int32) (w0 : va_W) : va_W → Prop := fun u => TW ksM ad cy B qr 12 u ∧ FE ksM [(61, 0, 2400), (62, 0, 7)] w0 u ∧ (((∃ y : Int32, gi u 0 17 = y ∧ 2 ≤ y.toInt ∧ y.toInt ≤ 2) ∧ ((gi u 3 2).toInt = (gi w0 3 2).toInt + 1)))
set_option maxHeartbeats 4000000 in
set_option maxRecDepth 100000 in
theorem k_X12_puts_3 (l : Launch) (adK adV : Nat → Nat) (dC : Nat → ClassId) (dI : Nat → Nat → Nat) (cy : Nat → ClassId) (ad : Nat → Nat) (B : Int) (hB0 : 100000 ≤ B) (hB1 : B ≤ 1073741824) (qr : Nat) (s1 : Int)  (a1 : Int32) (ra1 : 0 ≤ a1.toInt) (ta1 : a1.toInt ≤ 400) (a2 : Int32) (w0 : va_W) (sz : Nat) (hT : TW ksM ad cy B qr 12 w0) (cf0_ : gi w0 0 17 = 2) (f1_ : Int32) (cf1_ : gi w0 3 2 = f1_) (rf1_ : 0 ≤ f1_.toInt) (tf1_ : f1_.toInt ≤ 400) (pr0_ : f1_.toInt ≤ 399) : Met l yX12_puts wsX12_puts ({ frames := 1, cells := 0, slots := 0, locals := 12 }) (va_Pc [.ref (ad 0), .int a1, .int a2] (wpreS adK adV dC dI cy sz w0)) (va_Qv (P_X12_puts_3 ad cy B qr s1 a1 a2 w0) (fun u : va_W => wpost dC dI cy (va_A w0 sz) u) (va_A w0 sz)) 0 0 (va_A w0 sz) := by
  refine Met.ofW (cc := cX12_puts) (maxL := 3) (ret := none) (by decide) rfl ?_
  intro p e s m args below meth c s₁ Bk hml hv
  obtain ⟨rfl, ⟨hsz, hP, hK, hD0⟩, hE, hSR⟩ := hv
  have hx := Bk.exec
  have hb := Bk.bytes
  have hr := Bk.returns
  have hlocks := Bk.notSynchronized
  have hC : CallFix p m c cX12_puts 3 s _ wsX12_puts RX12 := ⟨hx, hb, hml, findClass_of_methodNamed Bk.named, atoms_spec (ws := wsX12_puts) Bk.pre⟩
  subst hsz
  have hD := hD0.self (sz := s.heap.size)
  generalize hAe : va_A w0 s.heap.size = A at hD hE ⊢
  have hA : ∀ q : Nat, s.heap.size ≤ q → A q := fun q h => by rw [← hAe]; exact Or.inr h
  have hw : Wd dC dI A s.heap s.heap [] w0 := ⟨hP, hD, va_S.rf⟩
  have hF : FE ksM [(61, 0, 2400), (62, 0, 7)] w0 w0 := FE.rf
  have hl := lv_entry ([.ref (ad 0), .int a1, .int a2]) (n := 3) (Nat.le_of_ble_eq_true rfl)
  rw [lg_entry_eq]
  generalize (lg_sl ([.ref (ad 0), .int a1, .int a2]) ++ List.replicate (3 - (lg_sl ([.ref (ad 0), .int a1, .int a2])).length) Slot.unset).toArray = ls at hl ⊢
  have hl : lv_has ls 3 [(0, .ref (ad 0)), (1, .int a1), (2, .int a2)] := hl
  generalize hloc : ([] : List Loc) = locs at hw ⊢
  have hinX12 : ∀ w ∈ u_ws RX12 TX12 42, w ∈ wsX12_puts := fun _ h => List.mem_cons_of_mem _ (List.mem_append_right _ (h))
  refine lv_aload_n hx hb dX12_puts_0 rfl (lv_at hl 0 rfl) ?_
  refine tk_getA hC hK hw hT hinX12 kM_at0 (by decide) rfl 3 (by decide) (List.mem_of_getElem? (i := 1) rfl) rfl rfl dX12_puts_1 ?_
  refine lv_sipush (v := 400) hx hb dX12_puts_4 (by decide) ?_
  refine lv_aload_n hx hb dX12_puts_7 rfl (lv_at hl 0 rfl) ?_
  refine tk_geti hC hK hw hT hinX12 kM_at0 (by decide) rfl 17 (by decide) (List.mem_of_getElem? (i := 2) rfl) rfl rfl dX12_puts_8 (fun x1 c2 rx1 tx1 => ?_)
  refine wk_top 2 (c2.symm.trans cf0_) ?_
  refine lv_imul hx hb dX12_puts_11 ?_
  refine wk_top 800 (by decide) ?_
  refine lv_aload_n hx hb dX12_puts_12 rfl (lv_at hl 0 rfl) ?_
  refine tk_getA hC hK hw hT hinX12 kM_at0 (by decide) rfl 4 (by decide) (List.mem_of_getElem? (i := 3) rfl) rfl rfl dX12_puts_13 ?_
  refine lv_aload_n hx hb dX12_puts_16 rfl (lv_at hl 0 rfl) ?_
  refine tk_geti hC hK hw hT hinX12 kM_at0 (by decide) rfl 17 (by decide) (List.mem_of_getElem? (i := 2) rfl) rfl rfl dX12_puts_17 (fun x3 c4 rx3 tx3 => ?_)
  refine wk_top 2 (c4.symm.trans cf0_) ?_
  refine tk_iald hC hK hw hT kM_at3 rfl rfl (by decide) (by decide) dX12_puts_20 (fun x5 c6 rx5 tx5 => ?_)
  refine wk_top f1_ (c6.symm.trans cf1_) ?_
  refine lv_iadd hx hb dX12_puts_21 ?_
  refine lv_topi (fun x7 ex7 => ?_)
  have ex7 : x7.toInt = (800 : Int) + f1_.toInt := by rw [ex7]; exact wk_add (show (-2147483648) ≤ (800 : Int) + f1_.toInt by omega) (show (800 : Int) + f1_.toInt ≤ 2147483647 by omega)
  refine lv_iload_n hx hb dX12_puts_22 rfl (lv_at hl 1 rfl) ?_
  refine lv_bipush (v := 16) hx hb dX12_puts_23 (by decide) ?_
  refine lv_iload_n hx hb dX12_puts_25 rfl (lv_at hl 2 rfl) ?_
  refine lv_imul hx hb dX12_puts_26 ?_
  have nx8 := wk_i32 a2
  refine lv_topi (fun x9 ex9 => ?_)
  refine lv_iadd hx hb dX12_puts_27 ?_
  have nx10 := wk_i32 x9
  refine lv_topi (fun x11 ex11 => ?_)
  refine tk_iast hC hK hw hT kM_at2 (by decide) rfl rfl (show 0 ≤ x7.toInt by omega) (show x7.toInt < 2400 by omega) (wk_i32 x11).1 (wk_i32 x11).2 dX12_puts_28 (fun H locs w12 hw hT k14 c13 => ?_)
  have hF := hF.put kM_at2 (inE_of (a := 0) (b := 2400) (by decide) (show 0 ≤ x7.toInt.toNat by omega) (show x7.toInt.toNat ≤ 2400 by omega)) k14
  have c15 := k14.gi (Or.inl (tk_ne kM_at0 kM_at2 (by decide))) cf0_
  have c16 := k14.gi (Or.inl (tk_ne kM_at3 kM_at2 (by decide))) cf1_
  refine lv_aload_n hx hb dX12_puts_29 rfl (lv_at hl 0 rfl) ?_
  refine tk_getA hC hK hw hT hinX12 kM_at0 (by decide) rfl 4 (by decide) (List.mem_of_getElem? (i := 3) rfl) rfl rfl dX12_puts_30 ?_
  refine lv_aload_n hx hb dX12_puts_33 rfl (lv_at hl 0 rfl) ?_
  refine tk_geti hC hK hw hT hinX12 kM_at0 (by decide) rfl 17 (by decide) (List.mem_of_getElem? (i := 2) rfl) rfl rfl dX12_puts_34 (fun x17 c18 rx17 tx17 => ?_)
  refine wk_top 2 (c18.symm.trans c15) ?_
  refine lv_dup2_11 hx hb dX12_puts_37 rfl rfl ?_
  refine tk_iald hC hK hw hT kM_at3 rfl rfl (by decide) (by decide) dX12_puts_38 (fun x19 c20 rx19 tx19 => ?_)
  refine wk_top f1_ (c20.symm.trans c16) ?_
  refine lv_iconst (v := 1) hx hb dX12_puts_39 (by decide) ?_
  refine lv_iadd hx hb dX12_puts_40 ?_
  refine lv_topi (fun x21 ex21 => ?_)
  have ex21 : x21.toInt = f1_.toInt + (1 : Int) := by rw [ex21]; exact wk_add (show (-2147483648) ≤ f1_.toInt + (1 : Int) by omega) (show f1_.toInt + (1 : Int) ≤ 2147483647 by omega)
  refine tk_iast hC hK hw hT kM_at3 (by decide) rfl rfl (by decide) (by decide) (show 0 ≤ x21.toInt by omega) (show x21.toInt ≤ 400 by omega) dX12_puts_41 (fun H locs w22 hw hT k24 c23 => ?_)
  have hF := hF.put kM_at3 (inE_of (a := 0) (b := 7) (by decide) (by decide) (by decide)) k24
  have c25 := k24.gi (Or.inl (tk_ne kM_at0 kM_at3 (by decide))) c15
  have c23 : gi w22 3 2 = x21 := c23
  exact tk_vret hC hr hlocks hK ⟨hT, hF, ⟨⟨2, c25, (by decide), (by decide)⟩, (by simp only [cf1_, c23]; omega)⟩⟩ hw dX12_puts_42
abbrev P_X12_settles_7 (ad : Nat → Nat) (cy : Nat → ClassId) (B : Int) (qr : Nat) (s1 : Int)  (w0 : va_W) : va_W → Prop := fun u => TW ksM ad cy B qr 12 u ∧ FE ksM [(12, 19, 19), (12, 22, 22), (61, 0, 2400), (62, 0, 7)] w0 u ∧ (((∃ y : Int32, gi u 0 17 = y ∧ 2 ≤ y.toInt ∧ y.toInt ≤ 2) ∧ (∃ y : Int32, gi u 0 19 = y ∧ (-60) ≤ y.toInt ∧ y.toInt ≤ 10) ∧ (∃ y : Int32, gi u 0 22 = y ∧ 0 ≤ y.toInt ∧ y.toInt ≤ 390) ∧ ((gi u 3 2).toInt + (gi u 0 22).toInt = (gi w0 3 2).toInt + (gi w0 0 22).toInt) ∧ ((gi u 0 22).toInt ≤ (gi w0 0 22).toInt) ∧ ((gi u 0 22).toInt + (gi w0 0 19).toInt ≤ (gi w0 0 22).toInt + (gi u 0 19).toInt) ∧ ((gi u 0 22).toInt ≤ (gi u 0 19).toInt + (gi w0 0 18).toInt) ∧ ((gi u 0 22).toInt ≤ 390) ∧ ((gi u 3 2).toInt ≤ 390) ∧ (brkN w0 ((gi u 0 22).toInt).toNat = brkN w0 ((gi w0 0 22).toInt).toNat)))
set_option maxHeartbeats 4000000 in
set_option maxRecDepth 100000 in
theorem k_X12_settles_7 (l : Launch) (adK adV : Nat → Nat) (dC : Nat → ClassId) (dI : Nat → Nat → Nat) (cy : Nat → ClassId) (ad : Nat → Nat) (B : Int) (hB0 : 100000 ≤ B) (hB1 : B ≤ 1073741824) (qr : Nat) (s1 : Int)   (w0 : va_W) (sz : Nat) (hT : TW ksM ad cy B qr 12 w0) (cf0_ : gi w0 0 17 = 2) (f1_ : Int32) (cf1_ : gi w0 0 18 = f1_) (rf1_ : 0 ≤ f1_.toInt) (tf1_ : f1_.toInt ≤ 60) (f2_ : Int32) (cf2_ : gi w0 0 19 = f2_) (rf2_ : (-100) ≤ f2_.toInt) (tf2_ : f2_.toInt ≤ 10) (f3_ : Int32) (cf3_ : gi w0 0 22 = f3_) (rf3_ : 0 ≤ f3_.toInt) (tf3_ : f3_.toInt ≤ 400) (f4_ : Int32) (cf4_ : gi w0 3 2 = f4_) (rf4_ : 0 ≤ f4_.toInt) (tf4_ : f4_.toInt ≤ 400) (pr0_ : f4_.toInt + f3_.toInt ≤ 390) (pr1_ : f3_.toInt ≤ f2_.toInt + f1_.toInt) (pr2_ : f4_.toInt ≤ 390) (pr3_ : f3_.toInt ≤ 390) : Met l yX12_settles wsX12_settles ({ frames := 2, cells := 0, slots := 0, locals := 34 }) (va_Pc [.ref (ad 0), .int 1] (wpreS adK adV dC dI cy sz w0)) (va_Qv (P_X12_settles_7 ad cy B qr s1  w0) (fun u : va_W => wpost dC dI cy (va_A w0 sz) u) (va_A w0 sz)) 0 0 (va_A w0 sz) := by
  refine Met.ofW (cc := cX12_settles) (maxL := 2) (ret := none) (by decide) rfl ?_
  intro p e s m args below meth c s₁ Bk hml hv
  obtain ⟨rfl, ⟨hsz, hP, hK, hD0⟩, hE, hSR⟩ := hv
  have hx := Bk.exec
  have hb := Bk.bytes
  have hr := Bk.returns
  have hlocks := Bk.notSynchronized
  have hC : CallFix p m c cX12_settles 2 s _ wsX12_settles RX12 := ⟨hx, hb, hml, findClass_of_methodNamed Bk.named, atoms_spec (ws := wsX12_settles) Bk.pre⟩
  subst hsz
  have hD := hD0.self (sz := s.heap.size)
  generalize hAe : va_A w0 s.heap.size = A at hD hE ⊢
  have hA : ∀ q : Nat, s.heap.size ≤ q → A q := fun q h => by rw [← hAe]; exact Or.inr h
  have hw : Wd dC dI A s.heap s.heap [] w0 := ⟨hP, hD, va_S.rf⟩
  have hF : FE ksM [(12, 19, 19), (12, 22, 22), (61, 0, 2400), (62, 0, 7)] w0 w0 := FE.rf
  have hl := lv_entry ([.ref (ad 0), .int 1]) (n := 2) (Nat.le_of_ble_eq_true rfl)
  rw [lg_entry_eq]
  generalize (lg_sl ([.ref (ad 0), .int 1]) ++ List.replicate (2 - (lg_sl ([.ref (ad 0), .int 1])).length) Slot.unset).toArray = ls at hl ⊢
  have hl : lv_has ls 2 [(0, .ref (ad 0)), (1, .int 1)] := hl
  generalize hloc : ([] : List Loc) = locs at hw ⊢
  have hinX12 : ∀ w ∈ u_ws RX12 TX12 42, w ∈ wsX12_settles := fun _ h => List.mem_cons_of_mem _ (List.mem_append_right _ (h))
  have J76 : ∀ (f76_0_19 : Int32) (f76_0_22 : Int32) (f76_3_2 : Int32) (H : Heap) (locs : List Loc) (ls : Array Slot) (w1 : va_W), 0 ≤ f1_.toInt → f1_.toInt ≤ 60 → (-60) ≤ f76_0_19.toInt → f76_0_19.toInt ≤ 10 → 0 ≤ f76_0_22.toInt → f76_0_22.toInt ≤ 390 → 0 ≤ f76_3_2.toInt → f76_3_2.toInt ≤ 390 → (f76_3_2.toInt + f76_0_22.toInt = f4_.toInt + f3_.toInt) → (f76_0_22.toInt ≤ f3_.toInt) → (f76_0_22.toInt + f2_.toInt ≤ f3_.toInt + f76_0_19.toInt) → (f76_0_22.toInt ≤ f76_0_19.toInt + f1_.toInt) → (f76_3_2.toInt ≤ 390) → (f76_0_22.toInt ≤ 390) → (-60 ≤ f76_0_19.toInt) → (brkN w0 (f76_0_22.toInt).toNat = brkN w0 (f3_.toInt).toNat) → Wd dC dI A s.heap H locs w1 → TW ksM ad cy B qr 12 w1 → FE ksM [(12, 19, 19), (12, 22, 22), (61, 0, 2400), (62, 0, 7)] w0 w1 → gi w1 0 17 = 2 → gi w1 0 18 = f1_ → gi w1 0 19 = f76_0_19 → gi w1 0 22 = f76_0_22 → gi w1 3 2 = f76_3_2 → lv_has ls 2 [(0, .ref (ad 0)), (1, .int 1)] → W p l e ({ frames := 2, cells := 0, slots := 0, locals := 34 }) s m (List.toArray [.ref (ad 0), .int 1]) below meth c H locs 0 0 (MQ below (va_Qv (P_X12_settles_7 ad cy B qr s1  w0) (fun u : va_W => wpost dC dI cy A u) A) (List.toArray [.ref (ad 0), .int 1]) s 0 0 A) (F0 m 76 ls []) := by
    intro f76_0_19 f76_0_22 f76_3_2 H locs ls w1 r3 t4 r6 t7 r9 t10 r12 t13 hcr76_0 hcr76_1 hcr76_2 hcr76_3 hcr76_4 hcr76_5 hcr76_6 hcr76_7 hw hT hF c2 c5 c8 c11 c14 hl
    exact tk_vret hC hr hlocks hK ⟨hT, hF, ⟨⟨2, c2, (by decide), (by decide)⟩, ⟨f76_0_19, c8, (show (-60) ≤ f76_0_19.toInt by omega), (show f76_0_19.toInt ≤ 10 by omega)⟩, ⟨f76_0_22, c11, (show 0 ≤ f76_0_22.toInt by omega), (show f76_0_22.toInt ≤ 390 by omega)⟩, (by simp only [cf4_, c14, cf3_, c11]; omega), (by simp only [cf3_, c11]; omega), (by simp only [cf2_, c8, cf3_, c11]; omega), (by simp only [c8, cf1_, c11]; omega), (by simp only [c11]; omega), (by simp only [c14]; omega), (by simp only [cf3_, c11]; omega)⟩⟩ hw dX12_settles_76
  have L0 : ∀ (n0 : Nat) (f0_0_19 : Int32) (f0_0_22 : Int32) (f0_3_2 : Int32) (H : Heap) (locs : List Loc) (ls : Array Slot) (w15 : va_W), 0 ≤ f1_.toInt → f1_.toInt ≤ 60 → (-60) ≤ f0_0_19.toInt → f0_0_19.toInt ≤ 10 → 0 ≤ f0_0_22.toInt → f0_0_22.toInt ≤ 390 → 0 ≤ f0_3_2.toInt → f0_3_2.toInt ≤ 390 → (f0_3_2.toInt + f0_0_22.toInt = f4_.toInt + f3_.toInt) → (f0_0_22.toInt ≤ f3_.toInt) → (f0_0_22.toInt + f2_.toInt ≤ f3_.toInt + f0_0_19.toInt) → (f0_0_22.toInt ≤ f0_0_19.toInt + f1_.toInt) → (f0_3_2.toInt ≤ 390) → (f0_0_22.toInt ≤ 390) → (-60 ≤ f0_0_19.toInt) → (brkN w0 (f0_0_22.toInt).toNat = brkN w0 (f3_.toInt).toNat) → (f0_0_22.toInt - 0).toNat < n0 → Wd dC dI A s.heap H locs w15 → TW ksM ad cy B qr 12 w15 → FE ksM [(12, 19, 19), (12, 22, 22), (61, 0, 2400), (62, 0, 7)] w0 w15 → gi w15 0 17 = 2 → gi w15 0 18 = f1_ → gi w15 0 19 = f0_0_19 → gi w15 0 22 = f0_0_22 → gi w15 3 2 = f0_3_2 → lv_has ls 2 [(0, .ref (ad 0)), (1, .int 1)] → W p l e ({ frames := 2, cells := 0, slots := 0, locals := 34 }) s m (List.toArray [.ref (ad 0), .int 1]) below meth c H locs 0 0 (MQ below (va_Qv (P_X12_settles_7 ad cy B qr s1  w0) (fun u : va_W => wpost dC dI cy A u) A) (List.toArray [.ref (ad 0), .int 1]) s 0 0 A) (F0 m 0 ls []) := by
    intro n0
    induction n0 with
    | zero => intro f0_0_19 f0_0_22 f0_3_2 H locs ls w15 r17 t18 r20 t21 r23 t24 r26 t27 hcr0_0 hcr0_1 hcr0_2 hcr0_3 hcr0_4 hcr0_5 hcr0_6 hcr0_7 hm0 hw hT hF c16 c19 c22 c25 c28 hl; omega
    | succ n0 ih0 =>
      intro f0_0_19 f0_0_22 f0_3_2 H locs ls w15 r17 t18 r20 t21 r23 t24 r26 t27 hcr0_0 hcr0_1 hcr0_2 hcr0_3 hcr0_4 hcr0_5 hcr0_6 hcr0_7 hm0 hw hT hF c16 c19 c22 c25 c28 hl
      refine lv_aload_n hx hb dX12_settles_0 rfl (lv_at hl 0 rfl) ?_
      refine tk_geti hC hK hw hT hinX12 kM_at0 (by decide) rfl 22 (by decide) (List.mem_of_getElem? (i := 1) rfl) rfl rfl dX12_settles_1 (fun x29 c30 rx29 tx29 => ?_)
      refine wk_top f0_0_22 (c30.symm.trans c25) ?_
      refine lv_if_le (tgt := 76) hx hb dX12_settles_4 (by decide) (fun c31 => ?_) (fun c31 => ?_)
      · have c31 : f0_0_22.toInt ≤ (0 : Int) := wk_le.mp c31
        exact J76 f0_0_19 f0_0_22 f0_3_2 H locs ls w15 (show 0 ≤ f1_.toInt by omega) (show f1_.toInt ≤ 60 by omega) (show (-60) ≤ f0_0_19.toInt by omega) (show f0_0_19.toInt ≤ 10 by omega) (show 0 ≤ f0_0_22.toInt by omega) (show f0_0_22.toInt ≤ 390 by omega) (show 0 ≤ f0_3_2.toInt by omega) (show f0_3_2.toInt ≤ 390 by omega) (show f0_3_2.toInt + f0_0_22.toInt = f4_.toInt + f3_.toInt by omega) (show f0_0_22.toInt ≤ f3_.toInt by omega) (show f0_0_22.toInt + f2_.toInt ≤ f3_.toInt + f0_0_19.toInt by omega) (show f0_0_22.toInt ≤ f0_0_19.toInt + f1_.toInt by omega) (show f0_3_2.toInt ≤ 390 by omega) (show f0_0_22.toInt ≤ 390 by omega) (show -60 ≤ f0_0_19.toInt by omega) (show brkN w0 (f0_0_22.toInt).toNat = brkN w0 (f3_.toInt).toNat from hcr0_7)  hw hT hF c16 c19 c22 c25 c28 (lv_sub hl [0, 1] rfl)
      · have c31 : (0 : Int) < f0_0_22.toInt := wk_leF c31
        refine lv_aload_n hx hb dX12_settles_7 rfl (lv_at hl 0 rfl) ?_
        refine tk_getA hC hK hw hT hinX12 kM_at0 (by decide) rfl 21 (by decide) (List.mem_of_getElem? (i := 2) rfl) rfl rfl dX12_settles_8 ?_
        refine lv_aload_n hx hb dX12_settles_11 rfl (lv_at hl 0 rfl) ?_
        refine tk_geti hC hK hw hT hinX12 kM_at0 (by decide) rfl 22 (by decide) (List.mem_of_getElem? (i := 1) rfl) rfl rfl dX12_settles_12 (fun x32 c33 rx32 tx32 => ?_)
        refine wk_top f0_0_22 (c33.symm.trans c25) ?_
        refine lv_iconst (v := 1) hx hb dX12_settles_15 (by decide) ?_
        refine lv_isub hx hb dX12_settles_16 ?_
        refine lv_topi (fun x34 ex34 => ?_)
        have ex34 : x34.toInt = f0_0_22.toInt - (1 : Int) := by rw [ex34]; exact wk_sub (show (-2147483648) ≤ f0_0_22.toInt - (1 : Int) by omega) (show f0_0_22.toInt - (1 : Int) ≤ 2147483647 by omega)
        refine tk_iald hC hK hw hT kM_at9 rfl rfl (show 0 ≤ x34.toInt by omega) (show x34.toInt < 400 by omega) dX12_settles_17 (fun x35 c36 rx35 tx35 => ?_)
        have c36 : gi w15 9 (1 * f0_0_22.toInt + -1).toNat = x35 := (congrArg (gi w15 9) (congrArg Int.toNat (show 1 * f0_0_22.toInt + -1 = x34.toInt by omega))).trans c36
        refine tk_Si hC hK hw hT hA hE hSR (k_X12_strength_1 l adK adV dC dI cy ad B (by omega) (by omega) qr s1   x35 w15 H.size hT ) (va_cwS 1 hC.2.2.2.2 gX12_settles_X12_strength rfl rfl rfl (by decide +kernel) ⟨Nat.le_of_ble_eq_true rfl, Nat.le_of_ble_eq_true rfl⟩) rfl hl.1 rfl (Nat.le_of_ble_eq_true rfl) dX12_settles_18 (fun r37 w39 H locs hp38 hw => ?_)
        obtain ⟨rfl, hg47⟩ := hp38
        rcases hg47 with rfl | ⟨rfl, g41, g42⟩ | ⟨rfl, g43, g44⟩ | ⟨rfl, g45, g46⟩
        · refine lv_iload_n hx hb dX12_settles_21 rfl (lv_at hl 1 rfl) ?_
          refine lv_icmp_lt (tgt := 76) hx hb dX12_settles_22 (by decide) (fun _ => ?_) (fun c => absurd (by decide) c)
          exact J76 f0_0_19 f0_0_22 f0_3_2 H locs ls w15 (show 0 ≤ f1_.toInt by omega) (show f1_.toInt ≤ 60 by omega) (show (-60) ≤ f0_0_19.toInt by omega) (show f0_0_19.toInt ≤ 10 by omega) (show 0 ≤ f0_0_22.toInt by omega) (show f0_0_22.toInt ≤ 390 by omega) (show 0 ≤ f0_3_2.toInt by omega) (show f0_3_2.toInt ≤ 390 by omega) (show f0_3_2.toInt + f0_0_22.toInt = f4_.toInt + f3_.toInt by omega) (show f0_0_22.toInt ≤ f3_.toInt by omega) (show f0_0_22.toInt + f2_.toInt ≤ f3_.toInt + f0_0_19.toInt by omega) (show f0_0_22.toInt ≤ f0_0_19.toInt + f1_.toInt by omega) (show f0_3_2.toInt ≤ 390 by omega) (show f0_0_22.toInt ≤ 390 by omega) (show -60 ≤ f0_0_19.toInt by omega) (show brkN w0 (f0_0_22.toInt).toNat = brkN w0 (f3_.toInt).toNat from hcr0_7)  hw hT hF c16 c19 c22 c25 c28 (lv_sub hl [0, 1] rfl)
        · refine lv_iload_n hx hb dX12_settles_21 rfl (lv_at hl 1 rfl) ?_
          refine lv_icmp_lt (tgt := 76) hx hb dX12_settles_22 (by decide) (fun c => absurd c (by decide)) (fun _ => ?_)
          refine lv_aload_n hx hb dX12_settles_25 rfl (lv_at hl 0 rfl) ?_
          refine lv_dup hx hb dX12_settles_26 rfl ?_
          refine tk_geti hC hK hw hT hinX12 kM_at0 (by decide) rfl 22 (by decide) (List.mem_of_getElem? (i := 1) rfl) rfl rfl dX12_settles_27 (fun x48 c49 rx48 tx48 => ?_)
          refine wk_top f0_0_22 (c49.symm.trans c25) ?_
          refine lv_iconst (v := 1) hx hb dX12_settles_30 (by decide) ?_
          refine lv_isub hx hb dX12_settles_31 ?_
          refine lv_topi (fun x50 ex50 => ?_)
          have ex50 : x50.toInt = f0_0_22.toInt - (1 : Int) := by rw [ex50]; exact wk_sub (show (-2147483648) ≤ f0_0_22.toInt - (1 : Int) by omega) (show f0_0_22.toInt - (1 : Int) ≤ 2147483647 by omega)
          refine tk_puti hC hK hw hT hinX12 tyX12_ok nmX12 kM_at0 (by decide) rfl rfl 22 (by decide) (List.mem_of_getElem? (i := 1) rfl) rfl rfl rfl rfl (show 0 ≤ x50.toInt by omega) (show x50.toInt ≤ 400 by omega) dX12_settles_32 (fun H locs w51 hw hT k53 c52 => ?_)
          have hF := hF.put kM_at0 (k := 22) (by decide) k53
          have c54 := k53.gi (Or.inr (by decide)) c16
          have c55 := k53.gi (Or.inr (by decide)) c19
          have c56 := k53.gi (Or.inr (by decide)) c22
          have c57 := k53.gi (Or.inr (by decide)) c28
          have c58 := k53.gi (Or.inl (tk_ne kM_at9 kM_at0 (by decide))) c36
          refine lv_aload_n hx hb dX12_settles_35 rfl (lv_at hl 0 rfl) ?_
          refine lv_aload_n hx hb dX12_settles_36 rfl (lv_at hl 0 rfl) ?_
          refine tk_getA hC hK hw hT hinX12 kM_at0 (by decide) rfl 21 (by decide) (List.mem_of_getElem? (i := 2) rfl) rfl rfl dX12_settles_37 ?_
          refine lv_aload_n hx hb dX12_settles_40 rfl (lv_at hl 0 rfl) ?_
          refine tk_geti hC hK hw hT hinX12 kM_at0 (by decide) rfl 22 (by decide) (List.mem_of_getElem? (i := 1) rfl) rfl rfl dX12_settles_41 (fun x59 c60 rx59 tx59 => ?_)
          refine wk_top x50 (c60.symm.trans c52) ?_
          refine tk_iald hC hK hw hT kM_at9 rfl rfl (show 0 ≤ x50.toInt by omega) (show x50.toInt < 400 by omega) dX12_settles_44 (fun x61 c62 rx61 tx61 => ?_)
          have c62 : gi w51 9 (1 * f0_0_22.toInt + -1).toNat = x61 := (congrArg (gi w51 9) (congrArg Int.toNat (show 1 * f0_0_22.toInt + -1 = x50.toInt by omega))).trans c62
          refine wk_top x35 (c62.symm.trans c58) ?_
          refine lv_iconst (v := 0) hx hb dX12_settles_45 (by decide) ?_
          obtain rfl : x35 = 13 := wk_eq.mpr (show x35.toInt = 13 by omega)
          refine tk_Vv hC hK hw hT hA hE hSR kM_at0 (by decide) rfl (k_X12_puts_3 l adK adV dC dI cy ad B (by omega) (by omega) qr s1   13 (by decide) (by decide) 0 w51 H.size hT c54 f0_3_2 c57 (show 0 ≤ f0_3_2.toInt by omega) (show f0_3_2.toInt ≤ 400 by omega) (show f0_3_2.toInt ≤ 399 by omega)) (cwV 2 hC.2.2.2.2 gX12_settles_X12_puts rfl rfl rfl (by decide +kernel) ⟨Nat.le_of_ble_eq_true rfl, Nat.le_of_ble_eq_true rfl⟩) rfl hl.1 rfl (Nat.le_of_ble_eq_true rfl) dX12_settles_46 (fun w65 H locs hp64 hw => ?_)
          obtain ⟨hT, k66, hg70⟩ := hp64
          have hF := hF.tr k66 (by decide)
          have c71 := k66.gi kM_at0 (by decide) c54
          have c72 := k66.gi kM_at0 (by decide) c55
          have c73 := k66.gi kM_at0 (by decide) c56
          have c74 := k66.gi kM_at9 rfl c58
          have c75 := k66.gi kM_at0 (by decide) c52
          obtain ⟨⟨x67, c68, rx67, tx67⟩, g69⟩ := hg70
          have ex67 : x67.toInt = (2 : Int) := by rw [show x67 = 2 from c68.symm.trans c71]; decide
          obtain ⟨x76, c77, rx76, tx76⟩ := hT.rda (lo := 0) (hi := 400) (i := 2) kM_at3 rfl rfl (by decide)
          have g69 : x76.toInt = f0_3_2.toInt + 1 := by have q := g69; simp only [c57, c77] at q; omega
          refine lv_aload_n hx hb dX12_settles_49 rfl (lv_at hl 0 rfl) ?_
          refine tk_getA hC hK hw hT hinX12 kM_at0 (by decide) rfl 21 (by decide) (List.mem_of_getElem? (i := 2) rfl) rfl rfl dX12_settles_50 ?_
          refine lv_aload_n hx hb dX12_settles_53 rfl (lv_at hl 0 rfl) ?_
          refine tk_geti hC hK hw hT hinX12 kM_at0 (by decide) rfl 22 (by decide) (List.mem_of_getElem? (i := 1) rfl) rfl rfl dX12_settles_54 (fun x78 c79 rx78 tx78 => ?_)
          refine wk_top x50 (c79.symm.trans c75) ?_
          refine tk_iald hC hK hw hT kM_at9 rfl rfl (show 0 ≤ x50.toInt by omega) (show x50.toInt < 400 by omega) dX12_settles_57 (fun x80 c81 rx80 tx80 => ?_)
          have c81 : gi w65 9 (1 * f0_0_22.toInt + -1).toNat = x80 := (congrArg (gi w65 9) (congrArg Int.toNat (show 1 * f0_0_22.toInt + -1 = x50.toInt by omega))).trans c81
          refine wk_top 13 (c81.symm.trans c74) ?_
          refine lv_bipush (v := 11) hx hb dX12_settles_58 (by decide) ?_
          refine lv_icmp_ne (tgt := 0) hx hb dX12_settles_60 (by decide) (fun _ => ?_) (fun c => absurd c (by decide))
          exact ih0 f0_0_19 x50 x76 H locs ls w65 (show 0 ≤ f1_.toInt by omega) (show f1_.toInt ≤ 60 by omega) (show (-60) ≤ f0_0_19.toInt by omega) (show f0_0_19.toInt ≤ 10 by omega) (show 0 ≤ x50.toInt by omega) (show x50.toInt ≤ 390 by omega) (show 0 ≤ x76.toInt by omega) (show x76.toInt ≤ 390 by omega) (show x76.toInt + x50.toInt = f4_.toInt + f3_.toInt by omega) (show x50.toInt ≤ f3_.toInt by omega) (show x50.toInt + f2_.toInt ≤ f3_.toInt + f0_0_19.toInt by omega) (show x50.toInt ≤ f0_0_19.toInt + f1_.toInt by omega) (show x76.toInt ≤ 390 by omega) (show x50.toInt ≤ 390 by omega) (show -60 ≤ f0_0_19.toInt by omega) (show brkN w0 (x50.toInt).toNat = brkN w0 (f3_.toInt).toNat from ((brk_step (by omega) (show f0_0_22.toInt = x50.toInt + 1 by omega) (show ¬ (gi w0 9 (x50.toInt).toNat).toInt = 91 by first | (rw [show (x50.toInt) = 1 * f0_0_22.toInt + -1 by omega, ← hF.gi kM_at9 rfl rfl, c74]; omega) | (rw [show (x50.toInt) = 1 * f0_0_22.toInt + -1 by omega, ← hF.gi kM_at9 rfl rfl, c74]; decide))).trans hcr0_7)) (show (x50.toInt - 0).toNat < n0 by omega) hw hT hF c71 c72 c73 c75 c77 (lv_sub hl [0, 1] rfl)
        · refine lv_iload_n hx hb dX12_settles_21 rfl (lv_at hl 1 rfl) ?_
          refine lv_icmp_lt (tgt := 76) hx hb dX12_settles_22 (by decide) (fun c => absurd c (by decide)) (fun _ => ?_)
          refine lv_aload_n hx hb dX12_settles_25 rfl (lv_at hl 0 rfl) ?_
          refine lv_dup hx hb dX12_settles_26 rfl ?_
          refine tk_geti hC hK hw hT hinX12 kM_at0 (by decide) rfl 22 (by decide) (List.mem_of_getElem? (i := 1) rfl) rfl rfl dX12_settles_27 (fun x82 c83 rx82 tx82 => ?_)
          refine wk_top f0_0_22 (c83.symm.trans c25) ?_
          refine lv_iconst (v := 1) hx hb dX12_settles_30 (by decide) ?_
          refine lv_isub hx hb dX12_settles_31 ?_
          refine lv_topi (fun x84 ex84 => ?_)
          have ex84 : x84.toInt = f0_0_22.toInt - (1 : Int) := by rw [ex84]; exact wk_sub (show (-2147483648) ≤ f0_0_22.toInt - (1 : Int) by omega) (show f0_0_22.toInt - (1 : Int) ≤ 2147483647 by omega)
          refine tk_puti hC hK hw hT hinX12 tyX12_ok nmX12 kM_at0 (by decide) rfl rfl 22 (by decide) (List.mem_of_getElem? (i := 1) rfl) rfl rfl rfl rfl (show 0 ≤ x84.toInt by omega) (show x84.toInt ≤ 400 by omega) dX12_settles_32 (fun H locs w85 hw hT k87 c86 => ?_)
          have hF := hF.put kM_at0 (k := 22) (by decide) k87
          have c88 := k87.gi (Or.inr (by decide)) c16
          have c89 := k87.gi (Or.inr (by decide)) c19
          have c90 := k87.gi (Or.inr (by decide)) c22
          have c91 := k87.gi (Or.inr (by decide)) c28
          have c92 := k87.gi (Or.inl (tk_ne kM_at9 kM_at0 (by decide))) c36
          refine lv_aload_n hx hb dX12_settles_35 rfl (lv_at hl 0 rfl) ?_
          refine lv_aload_n hx hb dX12_settles_36 rfl (lv_at hl 0 rfl) ?_
          refine tk_getA hC hK hw hT hinX12 kM_at0 (by decide) rfl 21 (by decide) (List.mem_of_getElem? (i := 2) rfl) rfl rfl dX12_settles_37 ?_
          refine lv_aload_n hx hb dX12_settles_40 rfl (lv_at hl 0 rfl) ?_
          refine tk_geti hC hK hw hT hinX12 kM_at0 (by decide) rfl 22 (by decide) (List.mem_of_getElem? (i := 1) rfl) rfl rfl dX12_settles_41 (fun x93 c94 rx93 tx93 => ?_)
          refine wk_top x84 (c94.symm.trans c86) ?_
          refine tk_iald hC hK hw hT kM_at9 rfl rfl (show 0 ≤ x84.toInt by omega) (show x84.toInt < 400 by omega) dX12_settles_44 (fun x95 c96 rx95 tx95 => ?_)
          have c96 : gi w85 9 (1 * f0_0_22.toInt + -1).toNat = x95 := (congrArg (gi w85 9) (congrArg Int.toNat (show 1 * f0_0_22.toInt + -1 = x84.toInt by omega))).trans c96
          refine wk_top x35 (c96.symm.trans c92) ?_
          refine lv_iconst (v := 0) hx hb dX12_settles_45 (by decide) ?_
          obtain rfl : x35 = 12 := wk_eq.mpr (show x35.toInt = 12 by omega)
          refine tk_Vv hC hK hw hT hA hE hSR kM_at0 (by decide) rfl (k_X12_puts_3 l adK adV dC dI cy ad B (by omega) (by omega) qr s1   12 (by decide) (by decide) 0 w85 H.size hT c88 f0_3_2 c91 (show 0 ≤ f0_3_2.toInt by omega) (show f0_3_2.toInt ≤ 400 by omega) (show f0_3_2.toInt ≤ 399 by omega)) (cwV 2 hC.2.2.2.2 gX12_settles_X12_puts rfl rfl rfl (by decide +kernel) ⟨Nat.le_of_ble_eq_true rfl, Nat.le_of_ble_eq_true rfl⟩) rfl hl.1 rfl (Nat.le_of_ble_eq_true rfl) dX12_settles_46 (fun w99 H locs hp98 hw => ?_)
          obtain ⟨hT, k100, hg104⟩ := hp98
          have hF := hF.tr k100 (by decide)
          have c105 := k100.gi kM_at0 (by decide) c88
          have c106 := k100.gi kM_at0 (by decide) c89
          have c107 := k100.gi kM_at0 (by decide) c90
          have c108 := k100.gi kM_at9 rfl c92
          have c109 := k100.gi kM_at0 (by decide) c86
          obtain ⟨⟨x101, c102, rx101, tx101⟩, g103⟩ := hg104
          have ex101 : x101.toInt = (2 : Int) := by rw [show x101 = 2 from c102.symm.trans c105]; decide
          obtain ⟨x110, c111, rx110, tx110⟩ := hT.rda (lo := 0) (hi := 400) (i := 2) kM_at3 rfl rfl (by decide)
          have g103 : x110.toInt = f0_3_2.toInt + 1 := by have q := g103; simp only [c91, c111] at q; omega
          refine lv_aload_n hx hb dX12_settles_49 rfl (lv_at hl 0 rfl) ?_
          refine tk_getA hC hK hw hT hinX12 kM_at0 (by decide) rfl 21 (by decide) (List.mem_of_getElem? (i := 2) rfl) rfl rfl dX12_settles_50 ?_
          refine lv_aload_n hx hb dX12_settles_53 rfl (lv_at hl 0 rfl) ?_
          refine tk_geti hC hK hw hT hinX12 kM_at0 (by decide) rfl 22 (by decide) (List.mem_of_getElem? (i := 1) rfl) rfl rfl dX12_settles_54 (fun x112 c113 rx112 tx112 => ?_)
          refine wk_top x84 (c113.symm.trans c109) ?_
          refine tk_iald hC hK hw hT kM_at9 rfl rfl (show 0 ≤ x84.toInt by omega) (show x84.toInt < 400 by omega) dX12_settles_57 (fun x114 c115 rx114 tx114 => ?_)
          have c115 : gi w99 9 (1 * f0_0_22.toInt + -1).toNat = x114 := (congrArg (gi w99 9) (congrArg Int.toNat (show 1 * f0_0_22.toInt + -1 = x84.toInt by omega))).trans c115
          refine wk_top 12 (c115.symm.trans c108) ?_
          refine lv_bipush (v := 11) hx hb dX12_settles_58 (by decide) ?_
          refine lv_icmp_ne (tgt := 0) hx hb dX12_settles_60 (by decide) (fun _ => ?_) (fun c => absurd c (by decide))
          exact ih0 f0_0_19 x84 x110 H locs ls w99 (show 0 ≤ f1_.toInt by omega) (show f1_.toInt ≤ 60 by omega) (show (-60) ≤ f0_0_19.toInt by omega) (show f0_0_19.toInt ≤ 10 by omega) (show 0 ≤ x84.toInt by omega) (show x84.toInt ≤ 390 by omega) (show 0 ≤ x110.toInt by omega) (show x110.toInt ≤ 390 by omega) (show x110.toInt + x84.toInt = f4_.toInt + f3_.toInt by omega) (show x84.toInt ≤ f3_.toInt by omega) (show x84.toInt + f2_.toInt ≤ f3_.toInt + f0_0_19.toInt by omega) (show x84.toInt ≤ f0_0_19.toInt + f1_.toInt by omega) (show x110.toInt ≤ 390 by omega) (show x84.toInt ≤ 390 by omega) (show -60 ≤ f0_0_19.toInt by omega) (show brkN w0 (x84.toInt).toNat = brkN w0 (f3_.toInt).toNat from ((brk_step (by omega) (show f0_0_22.toInt = x84.toInt + 1 by omega) (show ¬ (gi w0 9 (x84.toInt).toNat).toInt = 91 by first | (rw [show (x84.toInt) = 1 * f0_0_22.toInt + -1 by omega, ← hF.gi kM_at9 rfl rfl, c108]; omega) | (rw [show (x84.toInt) = 1 * f0_0_22.toInt + -1 by omega, ← hF.gi kM_at9 rfl rfl, c108]; decide))).trans hcr0_7)) (show (x84.toInt - 0).toNat < n0 by omega) hw hT hF c105 c106 c107 c109 c111 (lv_sub hl [0, 1] rfl)
        · refine lv_iload_n hx hb dX12_settles_21 rfl (lv_at hl 1 rfl) ?_
          refine lv_icmp_lt (tgt := 76) hx hb dX12_settles_22 (by decide) (fun c => absurd c (by decide)) (fun _ => ?_)
          refine lv_aload_n hx hb dX12_settles_25 rfl (lv_at hl 0 rfl) ?_
          refine lv_dup hx hb dX12_settles_26 rfl ?_
          refine tk_geti hC hK hw hT hinX12 kM_at0 (by decide) rfl 22 (by decide) (List.mem_of_getElem? (i := 1) rfl) rfl rfl dX12_settles_27 (fun x116 c117 rx116 tx116 => ?_)
          refine wk_top f0_0_22 (c117.symm.trans c25) ?_
          refine lv_iconst (v := 1) hx hb dX12_settles_30 (by decide) ?_
          refine lv_isub hx hb dX12_settles_31 ?_
          refine lv_topi (fun x118 ex118 => ?_)
          have ex118 : x118.toInt = f0_0_22.toInt - (1 : Int) := by rw [ex118]; exact wk_sub (show (-2147483648) ≤ f0_0_22.toInt - (1 : Int) by omega) (show f0_0_22.toInt - (1 : Int) ≤ 2147483647 by omega)
          refine tk_puti hC hK hw hT hinX12 tyX12_ok nmX12 kM_at0 (by decide) rfl rfl 22 (by decide) (List.mem_of_getElem? (i := 1) rfl) rfl rfl rfl rfl (show 0 ≤ x118.toInt by omega) (show x118.toInt ≤ 400 by omega) dX12_settles_32 (fun H locs w119 hw hT k121 c120 => ?_)
          have hF := hF.put kM_at0 (k := 22) (by decide) k121
          have c122 := k121.gi (Or.inr (by decide)) c16
          have c123 := k121.gi (Or.inr (by decide)) c19
          have c124 := k121.gi (Or.inr (by decide)) c22
          have c125 := k121.gi (Or.inr (by decide)) c28
          have c126 := k121.gi (Or.inl (tk_ne kM_at9 kM_at0 (by decide))) c36
          refine lv_aload_n hx hb dX12_settles_35 rfl (lv_at hl 0 rfl) ?_
          refine lv_aload_n hx hb dX12_settles_36 rfl (lv_at hl 0 rfl) ?_
          refine tk_getA hC hK hw hT hinX12 kM_at0 (by decide) rfl 21 (by decide) (List.mem_of_getElem? (i := 2) rfl) rfl rfl dX12_settles_37 ?_
          refine lv_aload_n hx hb dX12_settles_40 rfl (lv_at hl 0 rfl) ?_
          refine tk_geti hC hK hw hT hinX12 kM_at0 (by decide) rfl 22 (by decide) (List.mem_of_getElem? (i := 1) rfl) rfl rfl dX12_settles_41 (fun x127 c128 rx127 tx127 => ?_)
          refine wk_top x118 (c128.symm.trans c120) ?_
          refine tk_iald hC hK hw hT kM_at9 rfl rfl (show 0 ≤ x118.toInt by omega) (show x118.toInt < 400 by omega) dX12_settles_44 (fun x129 c130 rx129 tx129 => ?_)
          have c130 : gi w119 9 (1 * f0_0_22.toInt + -1).toNat = x129 := (congrArg (gi w119 9) (congrArg Int.toNat (show 1 * f0_0_22.toInt + -1 = x118.toInt by omega))).trans c130
          refine wk_top x35 (c130.symm.trans c126) ?_
          refine lv_iconst (v := 0) hx hb dX12_settles_45 (by decide) ?_
          obtain rfl : x35 = 11 := wk_eq.mpr (show x35.toInt = 11 by omega)
          refine tk_Vv hC hK hw hT hA hE hSR kM_at0 (by decide) rfl (k_X12_puts_3 l adK adV dC dI cy ad B (by omega) (by omega) qr s1   11 (by decide) (by decide) 0 w119 H.size hT c122 f0_3_2 c125 (show 0 ≤ f0_3_2.toInt by omega) (show f0_3_2.toInt ≤ 400 by omega) (show f0_3_2.toInt ≤ 399 by omega)) (cwV 2 hC.2.2.2.2 gX12_settles_X12_puts rfl rfl rfl (by decide +kernel) ⟨Nat.le_of_ble_eq_true rfl, Nat.le_of_ble_eq_true rfl⟩) rfl hl.1 rfl (Nat.le_of_ble_eq_true rfl) dX12_settles_46 (fun w133 H locs hp132 hw => ?_)
          obtain ⟨hT, k134, hg138⟩ := hp132
          have hF := hF.tr k134 (by decide)
          have c139 := k134.gi kM_at0 (by decide) c122
          have c140 := k134.gi kM_at0 (by decide) c123
          have c141 := k134.gi kM_at0 (by decide) c124
          have c142 := k134.gi kM_at9 rfl c126
          have c143 := k134.gi kM_at0 (by decide) c120
          obtain ⟨⟨x135, c136, rx135, tx135⟩, g137⟩ := hg138
          have ex135 : x135.toInt = (2 : Int) := by rw [show x135 = 2 from c136.symm.trans c139]; decide
          obtain ⟨x144, c145, rx144, tx144⟩ := hT.rda (lo := 0) (hi := 400) (i := 2) kM_at3 rfl rfl (by decide)
          have g137 : x144.toInt = f0_3_2.toInt + 1 := by have q := g137; simp only [c125, c145] at q; omega
          refine lv_aload_n hx hb dX12_settles_49 rfl (lv_at hl 0 rfl) ?_
          refine tk_getA hC hK hw hT hinX12 kM_at0 (by decide) rfl 21 (by decide) (List.mem_of_getElem? (i := 2) rfl) rfl rfl dX12_settles_50 ?_
          refine lv_aload_n hx hb dX12_settles_53 rfl (lv_at hl 0 rfl) ?_
          refine tk_geti hC hK hw hT hinX12 kM_at0 (by decide) rfl 22 (by decide) (List.mem_of_getElem? (i := 1) rfl) rfl rfl dX12_settles_54 (fun x146 c147 rx146 tx146 => ?_)
          refine wk_top x118 (c147.symm.trans c143) ?_
          refine tk_iald hC hK hw hT kM_at9 rfl rfl (show 0 ≤ x118.toInt by omega) (show x118.toInt < 400 by omega) dX12_settles_57 (fun x148 c149 rx148 tx148 => ?_)
          have c149 : gi w133 9 (1 * f0_0_22.toInt + -1).toNat = x148 := (congrArg (gi w133 9) (congrArg Int.toNat (show 1 * f0_0_22.toInt + -1 = x118.toInt by omega))).trans c149
          refine wk_top 11 (c149.symm.trans c142) ?_
          refine lv_bipush (v := 11) hx hb dX12_settles_58 (by decide) ?_
          refine lv_icmp_ne (tgt := 0) hx hb dX12_settles_60 (by decide) (fun c => absurd (by decide) c) (fun _ => ?_)
          refine lv_aload_n hx hb dX12_settles_63 rfl (lv_at hl 0 rfl) ?_
          refine lv_dup hx hb dX12_settles_64 rfl ?_
          refine tk_geti hC hK hw hT hinX12 kM_at0 (by decide) rfl 19 (by decide) (List.mem_of_getElem? (i := 3) rfl) rfl rfl dX12_settles_65 (fun x150 c151 rx150 tx150 => ?_)
          refine wk_top f0_0_19 (c151.symm.trans c141) ?_
          refine lv_iconst (v := 1) hx hb dX12_settles_68 (by decide) ?_
          refine lv_isub hx hb dX12_settles_69 ?_
          refine lv_topi (fun x152 ex152 => ?_)
          have ex152 : x152.toInt = f0_0_19.toInt - (1 : Int) := by rw [ex152]; exact wk_sub (show (-2147483648) ≤ f0_0_19.toInt - (1 : Int) by omega) (show f0_0_19.toInt - (1 : Int) ≤ 2147483647 by omega)
          refine tk_puti hC hK hw hT hinX12 tyX12_ok nmX12 kM_at0 (by decide) rfl rfl 19 (by decide) (List.mem_of_getElem? (i := 3) rfl) rfl rfl rfl rfl (show (-100) ≤ x152.toInt by omega) (show x152.toInt ≤ 10 by omega) dX12_settles_70 (fun H locs w153 hw hT k155 c154 => ?_)
          have hF := hF.put kM_at0 (k := 19) (by decide) k155
          have c156 := k155.gi (Or.inr (by decide)) c139
          have c157 := k155.gi (Or.inr (by decide)) c140
          have c158 := k155.gi (Or.inl (tk_ne kM_at9 kM_at0 (by decide))) c142
          have c159 := k155.gi (Or.inr (by decide)) c143
          have c160 := k155.gi (Or.inr (by decide)) c145
          refine lv_goto (tgt := 0) hx hb dX12_settles_73 (by decide) ?_
          exact ih0 x152 x118 x144 H locs ls w153 (show 0 ≤ f1_.toInt by omega) (show f1_.toInt ≤ 60 by omega) (show (-60) ≤ x152.toInt by omega) (show x152.toInt ≤ 10 by omega) (show 0 ≤ x118.toInt by omega) (show x118.toInt ≤ 390 by omega) (show 0 ≤ x144.toInt by omega) (show x144.toInt ≤ 390 by omega) (show x144.toInt + x118.toInt = f4_.toInt + f3_.toInt by omega) (show x118.toInt ≤ f3_.toInt by omega) (show x118.toInt + f2_.toInt ≤ f3_.toInt + x152.toInt by omega) (show x118.toInt ≤ x152.toInt + f1_.toInt by omega) (show x144.toInt ≤ 390 by omega) (show x118.toInt ≤ 390 by omega) (show -60 ≤ x152.toInt by omega) (show brkN w0 (x118.toInt).toNat = brkN w0 (f3_.toInt).toNat from ((brk_step (by omega) (show f0_0_22.toInt = x118.toInt + 1 by omega) (show ¬ (gi w0 9 (x118.toInt).toNat).toInt = 91 by first | (rw [show (x118.toInt) = 1 * f0_0_22.toInt + -1 by omega, ← hF.gi kM_at9 rfl rfl, c158]; omega) | (rw [show (x118.toInt) = 1 * f0_0_22.toInt + -1 by omega, ← hF.gi kM_at9 rfl rfl, c158]; decide))).trans hcr0_7)) (show (x118.toInt - 0).toNat < n0 by omega) hw hT hF c156 c157 c154 c159 c160 (lv_sub hl [0, 1] rfl)
  exact L0 ((f3_.toInt - 0).toNat + 1) f2_ f3_ f4_ s.heap locs ls w0 (show 0 ≤ f1_.toInt by omega) (show f1_.toInt ≤ 60 by omega) (show (-60) ≤ f2_.toInt by omega) (show f2_.toInt ≤ 10 by omega) (show 0 ≤ f3_.toInt by omega) (show f3_.toInt ≤ 390 by omega) (show 0 ≤ f4_.toInt by omega) (show f4_.toInt ≤ 390 by omega) (show f4_.toInt + f3_.toInt = f4_.toInt + f3_.toInt by omega) (show f3_.toInt ≤ f3_.toInt by omega) (show f3_.toInt + f2_.toInt ≤ f3_.toInt + f2_.toInt by omega) (show f3_.toInt ≤ f2_.toInt + f1_.toInt by omega) (show f4_.toInt ≤ 390 by omega) (show f3_.toInt ≤ 390 by omega) (show -60 ≤ f2_.toInt by omega) (show brkN w0 (f3_.toInt).toNat = brkN w0 (f3_.toInt).toNat from rfl) (Nat.lt_succ_self _) hw hT hF cf0_ cf1_ cf2_ cf3_ cf4_ (lv_sub hl [0, 1] rfl)
abbrev P_X12_settles_8 (ad : Nat → Nat) (cy : Nat → ClassId) (B : Int) (qr : Nat) (s1 : Int)  (w0 : va_W) : va_W → Prop := fun u => TW ksM ad cy B qr 12 u ∧ FE ksM [(12, 19, 19), (12, 22, 22), (61, 0, 2400), (62, 0, 7)] w0 u ∧ (((∃ y : Int32, gi u 0 17 = y ∧ 2 ≤ y.toInt ∧ y.toInt ≤ 2) ∧ (∃ y : Int32, gi u 0 19 = y ∧ (-60) ≤ y.toInt ∧ y.toInt ≤ 10) ∧ (∃ y : Int32, gi u 0 22 = y ∧ 0 ≤ y.toInt ∧ y.toInt ≤ 390) ∧ ((gi u 3 2).toInt + (gi u 0 22).toInt = (gi w0 3 2).toInt + (gi w0 0 22).toInt) ∧ ((gi u 0 22).toInt ≤ (gi w0 0 22).toInt) ∧ ((gi u 0 22).toInt + (gi w0 0 19).toInt ≤ (gi w0 0 22).toInt + (gi u 0 19).toInt) ∧ ((gi u 0 22).toInt ≤ (gi u 0 19).toInt + (gi w0 0 18).toInt) ∧ ((gi u 0 22).toInt ≤ 390) ∧ ((gi u 3 2).toInt ≤ 390) ∧ (brkN w0 ((gi u 0 22).toInt).toNat = brkN w0 ((gi w0 0 22).toInt).toNat)))
set_option maxHeartbeats 4000000 in
set_option maxRecDepth 100000 in
theorem k_X12_settles_8 (l : Launch) (adK adV : Nat → Nat) (dC : Nat → ClassId) (dI : Nat → Nat → Nat) (cy : Nat → ClassId) (ad : Nat → Nat) (B : Int) (hB0 : 100000 ≤ B) (hB1 : B ≤ 1073741824) (qr : Nat) (s1 : Int)   (w0 : va_W) (sz : Nat) (hT : TW ksM ad cy B qr 12 w0) (cf0_ : gi w0 0 17 = 2) (f1_ : Int32) (cf1_ : gi w0 0 18 = f1_) (rf1_ : 0 ≤ f1_.toInt) (tf1_ : f1_.toInt ≤ 60) (f2_ : Int32) (cf2_ : gi w0 0 19 = f2_) (rf2_ : (-100) ≤ f2_.toInt) (tf2_ : f2_.toInt ≤ 10) (f3_ : Int32) (cf3_ : gi w0 0 22 = f3_) (rf3_ : 0 ≤ f3_.toInt) (tf3_ : f3_.toInt ≤ 400) (f4_ : Int32) (cf4_ : gi w0 3 2 = f4_) (rf4_ : 0 ≤ f4_.toInt) (tf4_ : f4_.toInt ≤ 400) (pr0_ : f4_.toInt + f3_.toInt ≤ 390) (pr1_ : f3_.toInt ≤ f2_.toInt + f1_.toInt) (pr2_ : f4_.toInt ≤ 390) (pr3_ : f3_.toInt ≤ 390) : Met l yX12_settles wsX12_settles ({ frames := 2, cells := 0, slots := 0, locals := 34 }) (va_Pc [.ref (ad 0), .int 3] (wpreS adK adV dC dI cy sz w0)) (va_Qv (P_X12_settles_8 ad cy B qr s1  w0) (fun u : va_W => wpost dC dI cy (va_A w0 sz) u) (va_A w0 sz)) 0 0 (va_A w0 sz) := by
  refine Met.ofW (cc := cX12_settles) (maxL := 2) (ret := none) (by decide) rfl ?_
  intro p e s m args below meth c s₁ Bk hml hv
  obtain ⟨rfl, ⟨hsz, hP, hK, hD0⟩, hE, hSR⟩ := hv
  have hx := Bk.exec
  have hb := Bk.bytes
  have hr := Bk.returns
  have hlocks := Bk.notSynchronized
  have hC : CallFix p m c cX12_settles 2 s _ wsX12_settles RX12 := ⟨hx, hb, hml, findClass_of_methodNamed Bk.named, atoms_spec (ws := wsX12_settles) Bk.pre⟩
  subst hsz
  have hD := hD0.self (sz := s.heap.size)
  generalize hAe : va_A w0 s.heap.size = A at hD hE ⊢
  have hA : ∀ q : Nat, s.heap.size ≤ q → A q := fun q h => by rw [← hAe]; exact Or.inr h
  have hw : Wd dC dI A s.heap s.heap [] w0 := ⟨hP, hD, va_S.rf⟩
  have hF : FE ksM [(12, 19, 19), (12, 22, 22), (61, 0, 2400), (62, 0, 7)] w0 w0 := FE.rf
  have hl := lv_entry ([.ref (ad 0), .int 3]) (n := 2) (Nat.le_of_ble_eq_true rfl)
  rw [lg_entry_eq]
  generalize (lg_sl ([.ref (ad 0), .int 3]) ++ List.replicate (2 - (lg_sl ([.ref (ad 0), .int 3])).length) Slot.unset).toArray = ls at hl ⊢
  have hl : lv_has ls 2 [(0, .ref (ad 0)), (1, .int 3)] := hl
  generalize hloc : ([] : List Loc) = locs at hw ⊢
  have hinX12 : ∀ w ∈ u_ws RX12 TX12 42, w ∈ wsX12_settles := fun _ h => List.mem_cons_of_mem _ (List.mem_append_right _ (h))
  have J76 : ∀ (f76_0_19 : Int32) (f76_0_22 : Int32) (f76_3_2 : Int32) (H : Heap) (locs : List Loc) (ls : Array Slot) (w1 : va_W), 0 ≤ f1_.toInt → f1_.toInt ≤ 60 → (-60) ≤ f76_0_19.toInt → f76_0_19.toInt ≤ 10 → 0 ≤ f76_0_22.toInt → f76_0_22.toInt ≤ 390 → 0 ≤ f76_3_2.toInt → f76_3_2.toInt ≤ 390 → (f76_3_2.toInt + f76_0_22.toInt = f4_.toInt + f3_.toInt) → (f76_0_22.toInt ≤ f3_.toInt) → (f76_0_22.toInt + f2_.toInt ≤ f3_.toInt + f76_0_19.toInt) → (f76_0_22.toInt ≤ f76_0_19.toInt + f1_.toInt) → (f76_3_2.toInt ≤ 390) → (f76_0_22.toInt ≤ 390) → (-60 ≤ f76_0_19.toInt) → (brkN w0 (f76_0_22.toInt).toNat = brkN w0 (f3_.toInt).toNat) → Wd dC dI A s.heap H locs w1 → TW ksM ad cy B qr 12 w1 → FE ksM [(12, 19, 19), (12, 22, 22), (61, 0, 2400), (62, 0, 7)] w0 w1 → gi w1 0 17 = 2 → gi w1 0 18 = f1_ → gi w1 0 19 = f76_0_19 → gi w1 0 22 = f76_0_22 → gi w1 3 2 = f76_3_2 → lv_has ls 2 [(0, .ref (ad 0)), (1, .int 3)] → W p l e ({ frames := 2, cells := 0, slots := 0, locals := 34 }) s m (List.toArray [.ref (ad 0), .int 3]) below meth c H locs 0 0 (MQ below (va_Qv (P_X12_settles_8 ad cy B qr s1  w0) (fun u : va_W => wpost dC dI cy A u) A) (List.toArray [.ref (ad 0), .int 3]) s 0 0 A) (F0 m 76 ls []) := by
    intro f76_0_19 f76_0_22 f76_3_2 H locs ls w1 r3 t4 r6 t7 r9 t10 r12 t13 hcr76_0 hcr76_1 hcr76_2 hcr76_3 hcr76_4 hcr76_5 hcr76_6 hcr76_7 hw hT hF c2 c5 c8 c11 c14 hl
    exact tk_vret hC hr hlocks hK ⟨hT, hF, ⟨⟨2, c2, (by decide), (by decide)⟩, ⟨f76_0_19, c8, (show (-60) ≤ f76_0_19.toInt by omega), (show f76_0_19.toInt ≤ 10 by omega)⟩, ⟨f76_0_22, c11, (show 0 ≤ f76_0_22.toInt by omega), (show f76_0_22.toInt ≤ 390 by omega)⟩, (by simp only [cf4_, c14, cf3_, c11]; omega), (by simp only [cf3_, c11]; omega), (by simp only [cf2_, c8, cf3_, c11]; omega), (by simp only [c8, cf1_, c11]; omega), (by simp only [c11]; omega), (by simp only [c14]; omega), (by simp only [cf3_, c11]; omega)⟩⟩ hw dX12_settles_76
  have L0 : ∀ (n0 : Nat) (f0_0_19 : Int32) (f0_0_22 : Int32) (f0_3_2 : Int32) (H : Heap) (locs : List Loc) (ls : Array Slot) (w15 : va_W), 0 ≤ f1_.toInt → f1_.toInt ≤ 60 → (-60) ≤ f0_0_19.toInt → f0_0_19.toInt ≤ 10 → 0 ≤ f0_0_22.toInt → f0_0_22.toInt ≤ 390 → 0 ≤ f0_3_2.toInt → f0_3_2.toInt ≤ 390 → (f0_3_2.toInt + f0_0_22.toInt = f4_.toInt + f3_.toInt) → (f0_0_22.toInt ≤ f3_.toInt) → (f0_0_22.toInt + f2_.toInt ≤ f3_.toInt + f0_0_19.toInt) → (f0_0_22.toInt ≤ f0_0_19.toInt + f1_.toInt) → (f0_3_2.toInt ≤ 390) → (f0_0_22.toInt ≤ 390) → (-60 ≤ f0_0_19.toInt) → (brkN w0 (f0_0_22.toInt).toNat = brkN w0 (f3_.toInt).toNat) → (f0_0_19.toInt - (-60)).toNat < n0 → Wd dC dI A s.heap H locs w15 → TW ksM ad cy B qr 12 w15 → FE ksM [(12, 19, 19), (12, 22, 22), (61, 0, 2400), (62, 0, 7)] w0 w15 → gi w15 0 17 = 2 → gi w15 0 18 = f1_ → gi w15 0 19 = f0_0_19 → gi w15 0 22 = f0_0_22 → gi w15 3 2 = f0_3_2 → lv_has ls 2 [(0, .ref (ad 0)), (1, .int 3)] → W p l e ({ frames := 2, cells := 0, slots := 0, locals := 34 }) s m (List.toArray [.ref (ad 0), .int 3]) below meth c H locs 0 0 (MQ below (va_Qv (P_X12_settles_8 ad cy B qr s1  w0) (fun u : va_W => wpost dC dI cy A u) A) (List.toArray [.ref (ad 0), .int 3]) s 0 0 A) (F0 m 0 ls []) := by
    intro n0
    induction n0 with
    | zero => intro f0_0_19 f0_0_22 f0_3_2 H locs ls w15 r17 t18 r20 t21 r23 t24 r26 t27 hcr0_0 hcr0_1 hcr0_2 hcr0_3 hcr0_4 hcr0_5 hcr0_6 hcr0_7 hm0 hw hT hF c16 c19 c22 c25 c28 hl; omega
    | succ n0 ih0 =>
      intro f0_0_19 f0_0_22 f0_3_2 H locs ls w15 r17 t18 r20 t21 r23 t24 r26 t27 hcr0_0 hcr0_1 hcr0_2 hcr0_3 hcr0_4 hcr0_5 hcr0_6 hcr0_7 hm0 hw hT hF c16 c19 c22 c25 c28 hl
      refine lv_aload_n hx hb dX12_settles_0 rfl (lv_at hl 0 rfl) ?_
      refine tk_geti hC hK hw hT hinX12 kM_at0 (by decide) rfl 22 (by decide) (List.mem_of_getElem? (i := 1) rfl) rfl rfl dX12_settles_1 (fun x29 c30 rx29 tx29 => ?_)
      refine wk_top f0_0_22 (c30.symm.trans c25) ?_
      refine lv_if_le (tgt := 76) hx hb dX12_settles_4 (by decide) (fun c31 => ?_) (fun c31 => ?_)
      · have c31 : f0_0_22.toInt ≤ (0 : Int) := wk_le.mp c31
        exact J76 f0_0_19 f0_0_22 f0_3_2 H locs ls w15 (show 0 ≤ f1_.toInt by omega) (show f1_.toInt ≤ 60 by omega) (show (-60) ≤ f0_0_19.toInt by omega) (show f0_0_19.toInt ≤ 10 by omega) (show 0 ≤ f0_0_22.toInt by omega) (show f0_0_22.toInt ≤ 390 by omega) (show 0 ≤ f0_3_2.toInt by omega) (show f0_3_2.toInt ≤ 390 by omega) (show f0_3_2.toInt + f0_0_22.toInt = f4_.toInt + f3_.toInt by omega) (show f0_0_22.toInt ≤ f3_.toInt by omega) (show f0_0_22.toInt + f2_.toInt ≤ f3_.toInt + f0_0_19.toInt by omega) (show f0_0_22.toInt ≤ f0_0_19.toInt + f1_.toInt by omega) (show f0_3_2.toInt ≤ 390 by omega) (show f0_0_22.toInt ≤ 390 by omega) (show -60 ≤ f0_0_19.toInt by omega) (show brkN w0 (f0_0_22.toInt).toNat = brkN w0 (f3_.toInt).toNat from hcr0_7)  hw hT hF c16 c19 c22 c25 c28 (lv_sub hl [0, 1] rfl)
      · have c31 : (0 : Int) < f0_0_22.toInt := wk_leF c31
        refine lv_aload_n hx hb dX12_settles_7 rfl (lv_at hl 0 rfl) ?_
        refine tk_getA hC hK hw hT hinX12 kM_at0 (by decide) rfl 21 (by decide) (List.mem_of_getElem? (i := 2) rfl) rfl rfl dX12_settles_8 ?_
        refine lv_aload_n hx hb dX12_settles_11 rfl (lv_at hl 0 rfl) ?_
        refine tk_geti hC hK hw hT hinX12 kM_at0 (by decide) rfl 22 (by decide) (List.mem_of_getElem? (i := 1) rfl) rfl rfl dX12_settles_12 (fun x32 c33 rx32 tx32 => ?_)
        refine wk_top f0_0_22 (c33.symm.trans c25) ?_
        refine lv_iconst (v := 1) hx hb dX12_settles_15 (by decide) ?_
        refine lv_isub hx hb dX12_settles_16 ?_
        refine lv_topi (fun x34 ex34 => ?_)
        have ex34 : x34.toInt = f0_0_22.toInt - (1 : Int) := by rw [ex34]; exact wk_sub (show (-2147483648) ≤ f0_0_22.toInt - (1 : Int) by omega) (show f0_0_22.toInt - (1 : Int) ≤ 2147483647 by omega)
        refine tk_iald hC hK hw hT kM_at9 rfl rfl (show 0 ≤ x34.toInt by omega) (show x34.toInt < 400 by omega) dX12_settles_17 (fun x35 c36 rx35 tx35 => ?_)
        have c36 : gi w15 9 (1 * f0_0_22.toInt + -1).toNat = x35 := (congrArg (gi w15 9) (congrArg Int.toNat (show 1 * f0_0_22.toInt + -1 = x34.toInt by omega))).trans c36
        refine tk_Si hC hK hw hT hA hE hSR (k_X12_strength_1 l adK adV dC dI cy ad B (by omega) (by omega) qr s1   x35 w15 H.size hT ) (va_cwS 1 hC.2.2.2.2 gX12_settles_X12_strength rfl rfl rfl (by decide +kernel) ⟨Nat.le_of_ble_eq_true rfl, Nat.le_of_ble_eq_true rfl⟩) rfl hl.1 rfl (Nat.le_of_ble_eq_true rfl) dX12_settles_18 (fun r37 w39 H locs hp38 hw => ?_)
        obtain ⟨rfl, hg47⟩ := hp38
        rcases hg47 with rfl | ⟨rfl, g41, g42⟩ | ⟨rfl, g43, g44⟩ | ⟨rfl, g45, g46⟩
        · refine lv_iload_n hx hb dX12_settles_21 rfl (lv_at hl 1 rfl) ?_
          refine lv_icmp_lt (tgt := 76) hx hb dX12_settles_22 (by decide) (fun _ => ?_) (fun c => absurd (by decide) c)
          exact J76 f0_0_19 f0_0_22 f0_3_2 H locs ls w15 (show 0 ≤ f1_.toInt by omega) (show f1_.toInt ≤ 60 by omega) (show (-60) ≤ f0_0_19.toInt by omega) (show f0_0_19.toInt ≤ 10 by omega) (show 0 ≤ f0_0_22.toInt by omega) (show f0_0_22.toInt ≤ 390 by omega) (show 0 ≤ f0_3_2.toInt by omega) (show f0_3_2.toInt ≤ 390 by omega) (show f0_3_2.toInt + f0_0_22.toInt = f4_.toInt + f3_.toInt by omega) (show f0_0_22.toInt ≤ f3_.toInt by omega) (show f0_0_22.toInt + f2_.toInt ≤ f3_.toInt + f0_0_19.toInt by omega) (show f0_0_22.toInt ≤ f0_0_19.toInt + f1_.toInt by omega) (show f0_3_2.toInt ≤ 390 by omega) (show f0_0_22.toInt ≤ 390 by omega) (show -60 ≤ f0_0_19.toInt by omega) (show brkN w0 (f0_0_22.toInt).toNat = brkN w0 (f3_.toInt).toNat from hcr0_7)  hw hT hF c16 c19 c22 c25 c28 (lv_sub hl [0, 1] rfl)
        · refine lv_iload_n hx hb dX12_settles_21 rfl (lv_at hl 1 rfl) ?_
          refine lv_icmp_lt (tgt := 76) hx hb dX12_settles_22 (by decide) (fun _ => ?_) (fun c => absurd (by decide) c)
          exact J76 f0_0_19 f0_0_22 f0_3_2 H locs ls w15 (show 0 ≤ f1_.toInt by omega) (show f1_.toInt ≤ 60 by omega) (show (-60) ≤ f0_0_19.toInt by omega) (show f0_0_19.toInt ≤ 10 by omega) (show 0 ≤ f0_0_22.toInt by omega) (show f0_0_22.toInt ≤ 390 by omega) (show 0 ≤ f0_3_2.toInt by omega) (show f0_3_2.toInt ≤ 390 by omega) (show f0_3_2.toInt + f0_0_22.toInt = f4_.toInt + f3_.toInt by omega) (show f0_0_22.toInt ≤ f3_.toInt by omega) (show f0_0_22.toInt + f2_.toInt ≤ f3_.toInt + f0_0_19.toInt by omega) (show f0_0_22.toInt ≤ f0_0_19.toInt + f1_.toInt by omega) (show f0_3_2.toInt ≤ 390 by omega) (show f0_0_22.toInt ≤ 390 by omega) (show -60 ≤ f0_0_19.toInt by omega) (show brkN w0 (f0_0_22.toInt).toNat = brkN w0 (f3_.toInt).toNat from hcr0_7)  hw hT hF c16 c19 c22 c25 c28 (lv_sub hl [0, 1] rfl)
        · refine lv_iload_n hx hb dX12_settles_21 rfl (lv_at hl 1 rfl) ?_
          refine lv_icmp_lt (tgt := 76) hx hb dX12_settles_22 (by decide) (fun _ => ?_) (fun c => absurd (by decide) c)
          exact J76 f0_0_19 f0_0_22 f0_3_2 H locs ls w15 (show 0 ≤ f1_.toInt by omega) (show f1_.toInt ≤ 60 by omega) (show (-60) ≤ f0_0_19.toInt by omega) (show f0_0_19.toInt ≤ 10 by omega) (show 0 ≤ f0_0_22.toInt by omega) (show f0_0_22.toInt ≤ 390 by omega) (show 0 ≤ f0_3_2.toInt by omega) (show f0_3_2.toInt ≤ 390 by omega) (show f0_3_2.toInt + f0_0_22.toInt = f4_.toInt + f3_.toInt by omega) (show f0_0_22.toInt ≤ f3_.toInt by omega) (show f0_0_22.toInt + f2_.toInt ≤ f3_.toInt + f0_0_19.toInt by omega) (show f0_0_22.toInt ≤ f0_0_19.toInt + f1_.toInt by omega) (show f0_3_2.toInt ≤ 390 by omega) (show f0_0_22.toInt ≤ 390 by omega) (show -60 ≤ f0_0_19.toInt by omega) (show brkN w0 (f0_0_22.toInt).toNat = brkN w0 (f3_.toInt).toNat from hcr0_7)  hw hT hF c16 c19 c22 c25 c28 (lv_sub hl [0, 1] rfl)
        · refine lv_iload_n hx hb dX12_settles_21 rfl (lv_at hl 1 rfl) ?_
          refine lv_icmp_lt (tgt := 76) hx hb dX12_settles_22 (by decide) (fun c => absurd c (by decide)) (fun _ => ?_)
          refine lv_aload_n hx hb dX12_settles_25 rfl (lv_at hl 0 rfl) ?_
          refine lv_dup hx hb dX12_settles_26 rfl ?_
          refine tk_geti hC hK hw hT hinX12 kM_at0 (by decide) rfl 22 (by decide) (List.mem_of_getElem? (i := 1) rfl) rfl rfl dX12_settles_27 (fun x48 c49 rx48 tx48 => ?_)
          refine wk_top f0_0_22 (c49.symm.trans c25) ?_
          refine lv_iconst (v := 1) hx hb dX12_settles_30 (by decide) ?_
          refine lv_isub hx hb dX12_settles_31 ?_
          refine lv_topi (fun x50 ex50 => ?_)
          have ex50 : x50.toInt = f0_0_22.toInt - (1 : Int) := by rw [ex50]; exact wk_sub (show (-2147483648) ≤ f0_0_22.toInt - (1 : Int) by omega) (show f0_0_22.toInt - (1 : Int) ≤ 2147483647 by omega)
          refine tk_puti hC hK hw hT hinX12 tyX12_ok nmX12 kM_at0 (by decide) rfl rfl 22 (by decide) (List.mem_of_getElem? (i := 1) rfl) rfl rfl rfl rfl (show 0 ≤ x50.toInt by omega) (show x50.toInt ≤ 400 by omega) dX12_settles_32 (fun H locs w51 hw hT k53 c52 => ?_)
          have hF := hF.put kM_at0 (k := 22) (by decide) k53
          have c54 := k53.gi (Or.inr (by decide)) c16
          have c55 := k53.gi (Or.inr (by decide)) c19
          have c56 := k53.gi (Or.inr (by decide)) c22
          have c57 := k53.gi (Or.inr (by decide)) c28
          have c58 := k53.gi (Or.inl (tk_ne kM_at9 kM_at0 (by decide))) c36
          refine lv_aload_n hx hb dX12_settles_35 rfl (lv_at hl 0 rfl) ?_
          refine lv_aload_n hx hb dX12_settles_36 rfl (lv_at hl 0 rfl) ?_
          refine tk_getA hC hK hw hT hinX12 kM_at0 (by decide) rfl 21 (by decide) (List.mem_of_getElem? (i := 2) rfl) rfl rfl dX12_settles_37 ?_
          refine lv_aload_n hx hb dX12_settles_40 rfl (lv_at hl 0 rfl) ?_
          refine tk_geti hC hK hw hT hinX12 kM_at0 (by decide) rfl 22 (by decide) (List.mem_of_getElem? (i := 1) rfl) rfl rfl dX12_settles_41 (fun x59 c60 rx59 tx59 => ?_)
          refine wk_top x50 (c60.symm.trans c52) ?_
          refine tk_iald hC hK hw hT kM_at9 rfl rfl (show 0 ≤ x50.toInt by omega) (show x50.toInt < 400 by omega) dX12_settles_44 (fun x61 c62 rx61 tx61 => ?_)
          have c62 : gi w51 9 (1 * f0_0_22.toInt + -1).toNat = x61 := (congrArg (gi w51 9) (congrArg Int.toNat (show 1 * f0_0_22.toInt + -1 = x50.toInt by omega))).trans c62
          refine wk_top x35 (c62.symm.trans c58) ?_
          refine lv_iconst (v := 0) hx hb dX12_settles_45 (by decide) ?_
          obtain rfl : x35 = 11 := wk_eq.mpr (show x35.toInt = 11 by omega)
          refine tk_Vv hC hK hw hT hA hE hSR kM_at0 (by decide) rfl (k_X12_puts_3 l adK adV dC dI cy ad B (by omega) (by omega) qr s1   11 (by decide) (by decide) 0 w51 H.size hT c54 f0_3_2 c57 (show 0 ≤ f0_3_2.toInt by omega) (show f0_3_2.toInt ≤ 400 by omega) (show f0_3_2.toInt ≤ 399 by omega)) (cwV 2 hC.2.2.2.2 gX12_settles_X12_puts rfl rfl rfl (by decide +kernel) ⟨Nat.le_of_ble_eq_true rfl, Nat.le_of_ble_eq_true rfl⟩) rfl hl.1 rfl (Nat.le_of_ble_eq_true rfl) dX12_settles_46 (fun w65 H locs hp64 hw => ?_)
          obtain ⟨hT, k66, hg70⟩ := hp64
          have hF := hF.tr k66 (by decide)
          have c71 := k66.gi kM_at0 (by decide) c54
          have c72 := k66.gi kM_at0 (by decide) c55
          have c73 := k66.gi kM_at0 (by decide) c56
          have c74 := k66.gi kM_at9 rfl c58
          have c75 := k66.gi kM_at0 (by decide) c52
          obtain ⟨⟨x67, c68, rx67, tx67⟩, g69⟩ := hg70
          have ex67 : x67.toInt = (2 : Int) := by rw [show x67 = 2 from c68.symm.trans c71]; decide
          obtain ⟨x76, c77, rx76, tx76⟩ := hT.rda (lo := 0) (hi := 400) (i := 2) kM_at3 rfl rfl (by decide)
          have g69 : x76.toInt = f0_3_2.toInt + 1 := by have q := g69; simp only [c57, c77] at q; omega
          refine lv_aload_n hx hb dX12_settles_49 rfl (lv_at hl 0 rfl) ?_
          refine tk_getA hC hK hw hT hinX12 kM_at0 (by decide) rfl 21 (by decide) (List.mem_of_getElem? (i := 2) rfl) rfl rfl dX12_settles_50 ?_
          refine lv_aload_n hx hb dX12_settles_53 rfl (lv_at hl 0 rfl) ?_
          refine tk_geti hC hK hw hT hinX12 kM_at0 (by decide) rfl 22 (by decide) (List.mem_of_getElem? (i := 1) rfl) rfl rfl dX12_settles_54 (fun x78 c79 rx78 tx78 => ?_)
          refine wk_top x50 (c79.symm.trans c75) ?_
          refine tk_iald hC hK hw hT kM_at9 rfl rfl (show 0 ≤ x50.toInt by omega) (show x50.toInt < 400 by omega) dX12_settles_57 (fun x80 c81 rx80 tx80 => ?_)
          have c81 : gi w65 9 (1 * f0_0_22.toInt + -1).toNat = x80 := (congrArg (gi w65 9) (congrArg Int.toNat (show 1 * f0_0_22.toInt + -1 = x50.toInt by omega))).trans c81
          refine wk_top 11 (c81.symm.trans c74) ?_
          refine lv_bipush (v := 11) hx hb dX12_settles_58 (by decide) ?_
          refine lv_icmp_ne (tgt := 0) hx hb dX12_settles_60 (by decide) (fun c => absurd (by decide) c) (fun _ => ?_)
          refine lv_aload_n hx hb dX12_settles_63 rfl (lv_at hl 0 rfl) ?_
          refine lv_dup hx hb dX12_settles_64 rfl ?_
          refine tk_geti hC hK hw hT hinX12 kM_at0 (by decide) rfl 19 (by decide) (List.mem_of_getElem? (i := 3) rfl) rfl rfl dX12_settles_65 (fun x82 c83 rx82 tx82 => ?_)
          refine wk_top f0_0_19 (c83.symm.trans c73) ?_
          refine lv_iconst (v := 1) hx hb dX12_settles_68 (by decide) ?_
          refine lv_isub hx hb dX12_settles_69 ?_
          refine lv_topi (fun x84 ex84 => ?_)
          have ex84 : x84.toInt = f0_0_19.toInt - (1 : Int) := by rw [ex84]; exact wk_sub (show (-2147483648) ≤ f0_0_19.toInt - (1 : Int) by omega) (show f0_0_19.toInt - (1 : Int) ≤ 2147483647 by omega)
          refine tk_puti hC hK hw hT hinX12 tyX12_ok nmX12 kM_at0 (by decide) rfl rfl 19 (by decide) (List.mem_of_getElem? (i := 3) rfl) rfl rfl rfl rfl (show (-100) ≤ x84.toInt by omega) (show x84.toInt ≤ 10 by omega) dX12_settles_70 (fun H locs w85 hw hT k87 c86 => ?_)
          have hF := hF.put kM_at0 (k := 19) (by decide) k87
          have c88 := k87.gi (Or.inr (by decide)) c71
          have c89 := k87.gi (Or.inr (by decide)) c72
          have c90 := k87.gi (Or.inl (tk_ne kM_at9 kM_at0 (by decide))) c74
          have c91 := k87.gi (Or.inr (by decide)) c75
          have c92 := k87.gi (Or.inr (by decide)) c77
          refine lv_goto (tgt := 0) hx hb dX12_settles_73 (by decide) ?_
          exact ih0 x84 x50 x76 H locs ls w85 (show 0 ≤ f1_.toInt by omega) (show f1_.toInt ≤ 60 by omega) (show (-60) ≤ x84.toInt by omega) (show x84.toInt ≤ 10 by omega) (show 0 ≤ x50.toInt by omega) (show x50.toInt ≤ 390 by omega) (show 0 ≤ x76.toInt by omega) (show x76.toInt ≤ 390 by omega) (show x76.toInt + x50.toInt = f4_.toInt + f3_.toInt by omega) (show x50.toInt ≤ f3_.toInt by omega) (show x50.toInt + f2_.toInt ≤ f3_.toInt + x84.toInt by omega) (show x50.toInt ≤ x84.toInt + f1_.toInt by omega) (show x76.toInt ≤ 390 by omega) (show x50.toInt ≤ 390 by omega) (show -60 ≤ x84.toInt by omega) (show brkN w0 (x50.toInt).toNat = brkN w0 (f3_.toInt).toNat from ((brk_step (by omega) (show f0_0_22.toInt = x50.toInt + 1 by omega) (show ¬ (gi w0 9 (x50.toInt).toNat).toInt = 91 by first | (rw [show (x50.toInt) = 1 * f0_0_22.toInt + -1 by omega, ← hF.gi kM_at9 rfl rfl, c90]; omega) | (rw [show (x50.toInt) = 1 * f0_0_22.toInt + -1 by omega, ← hF.gi kM_at9 rfl rfl, c90]; decide))).trans hcr0_7)) (show (x84.toInt - (-60)).toNat < n0 by omega) hw hT hF c88 c89 c86 c91 c92 (lv_sub hl [0, 1] rfl)
  exact L0 ((f2_.toInt - (-60)).toNat + 1) f2_ f3_ f4_ s.heap locs ls w0 (show 0 ≤ f1_.toInt by omega) (show f1_.toInt ≤ 60 by omega) (show (-60) ≤ f2_.toInt by omega) (show f2_.toInt ≤ 10 by omega) (show 0 ≤ f3_.toInt by omega) (show f3_.toInt ≤ 390 by omega) (show 0 ≤ f4_.toInt by omega) (show f4_.toInt ≤ 390 by omega) (show f4_.toInt + f3_.toInt = f4_.toInt + f3_.toInt by omega) (show f3_.toInt ≤ f3_.toInt by omega) (show f3_.toInt + f2_.toInt ≤ f3_.toInt + f2_.toInt by omega) (show f3_.toInt ≤ f2_.toInt + f1_.toInt by omega) (show f4_.toInt ≤ 390 by omega) (show f3_.toInt ≤ 390 by omega) (show -60 ≤ f2_.toInt by omega) (show brkN w0 (f3_.toInt).toNat = brkN w0 (f3_.toInt).toNat from rfl) (Nat.lt_succ_self _) hw hT hF cf0_ cf1_ cf2_ cf3_ cf4_ (lv_sub hl [0, 1] rfl)
