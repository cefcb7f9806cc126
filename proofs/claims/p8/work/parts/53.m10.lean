abbrev P_X12_isOf_6 (ad : Nat → Nat) (cy : Nat → ClassId) (B : Int) (qr : Nat) (s1 : Int) (a0 : Int32) (a1 : Int32) (w0 : va_W) : Int32 → va_W → Prop := fun r u => w0 = u ∧ ((r = 0 ∧ (¬ mOf a0 a1)) ∨ (r = 1 ∧ (mOf a0 a1)))
set_option maxHeartbeats 4000000 in
set_option maxRecDepth 100000 in
theorem k_X12_isOf_6 (l : Launch) (adK adV : Nat → Nat) (dC : Nat → ClassId) (dI : Nat → Nat → Nat) (cy : Nat → ClassId) (ad : Nat → Nat) (B : Int) (hB0 : 100000 ≤ B) (hB1 : B ≤ 1073741824) (qr : Nat) (s1 : Int)  (a0 : Int32) (ra0 : 0 ≤ a0.toInt) (ta0 : a0.toInt ≤ 4095) (a1 : Int32) (w0 : va_W) (sz : Nat) (hT : TW ksM ad cy B qr 12 w0)  : Met l yX12_isOf (wu yX12_isOf cX12_isOf 2 (some .boolean)) ({ frames := 1, cells := 0, slots := 0, locals := 12 }) (va_Pc [.int a0, .int a1] (wpreS adK adV dC dI cy sz w0)) (va_Qi (P_X12_isOf_6 ad cy B qr s1 a0 a1 w0) (fun u : va_W => wpost dC dI cy (va_A w0 sz) u) (va_A w0 sz)) 0 0 (va_A w0 sz) := by
  refine Met.ofW (cc := cX12_isOf) (maxL := 2) (ret := (some .boolean)) (by decide) rfl ?_
  intro p e s m args below meth c s₁ Bk hml hv
  obtain ⟨rfl, ⟨hsz, hP, hK, hD0⟩, hE, hSR⟩ := hv
  have hx := Bk.exec
  have hb := Bk.bytes
  have hr := Bk.returns
  have hlocks := Bk.notSynchronized
  have hC : CallFix p m c cX12_isOf 2 s _ (wu yX12_isOf cX12_isOf 2 (some .boolean)) RX12 := ⟨hx, hb, hml, findClass_of_methodNamed Bk.named, atoms_spec (ws := (wu yX12_isOf cX12_isOf 2 (some .boolean))) Bk.pre⟩
  subst hsz
  have hD := hD0.self (sz := s.heap.size)
  generalize hAe : va_A w0 s.heap.size = A at hD hE ⊢
  have hA : ∀ q : Nat, s.heap.size ≤ q → A q := fun q h => by rw [← hAe]; exact Or.inr h
  have hw : Wd dC dI A s.heap s.heap [] w0 := ⟨hP, hD, va_S.rf⟩
  have hF : FE ksM ([] : List (Nat × Nat × Nat)) w0 w0 := FE.rf
  have hl := lv_entry ([.int a0, .int a1]) (n := 2) (Nat.le_of_ble_eq_true rfl)
  rw [lg_entry_eq]
  generalize (lg_sl ([.int a0, .int a1]) ++ List.replicate (2 - (lg_sl ([.int a0, .int a1])).length) Slot.unset).toArray = ls at hl ⊢
  have hl : lv_has ls 2 [(0, .int a0), (1, .int a1)] := hl
  generalize hloc : ([] : List Loc) = locs at hw ⊢
  refine lv_iload_n hx hb dX12_isOf_0 rfl (lv_at hl 0 rfl) ?_
  refine lv_iload_n hx hb dX12_isOf_1 rfl (lv_at hl 1 rfl) ?_
  refine lv_ishr hx hb dX12_isOf_2 ?_
  refine lv_topi (fun x1 ex1 => ?_)
  have bx1 : 0 ≤ x1.toInt ∧ x1.toInt ≤ a0.toInt := by rw [ex1]; exact wk_shr (by omega)
  refine lv_iconst (v := 1) hx hb dX12_isOf_3 (by decide) ?_
  refine lv_iand hx hb dX12_isOf_4 ?_
  refine lv_topi (fun x2 ex2 => ?_)
  have bx2 : 0 ≤ x2.toInt ∧ x2.toInt ≤ (1 : Int) := by rw [ex2]; exact wk_and (by decide)
  refine lv_iconst (v := 1) hx hb dX12_isOf_5 (by decide) ?_
  refine lv_icmp_ne (tgt := 13) hx hb dX12_isOf_6 (by decide) (fun c3 => ?_) (fun c3 => ?_)
  · have c3 : ¬ x2.toInt = (1 : Int) := wk_eqF c3
    refine lv_iconst (v := 0) hx hb dX12_isOf_13 (by decide) ?_
    exact tk_zret hC hr rfl hlocks hK ⟨rfl, (Or.inl ⟨rfl, (by unfold mOf; rw [← ex1, ← ex2]; omega)⟩)⟩ hw dX12_isOf_14
  · have c3 : x2.toInt = (1 : Int) := wk_eq.mp c3
    refine lv_iconst (v := 1) hx hb dX12_isOf_9 (by decide) ?_
    refine lv_goto (tgt := 14) hx hb dX12_isOf_10 (by decide) ?_
    exact tk_zret hC hr rfl hlocks hK ⟨rfl, (Or.inr ⟨rfl, (by unfold mOf; rw [← ex1, ← ex2]; omega)⟩)⟩ hw dX12_isOf_14
abbrev P_X12_isOf_7 (ad : Nat → Nat) (cy : Nat → ClassId) (B : Int) (qr : Nat) (s1 : Int) (a0 : Int32) (a1 : Int32) (w0 : va_W) : Int32 → va_W → Prop := fun r u => w0 = u ∧ ((r = 0 ∧ (¬ mOf a0 a1)) ∨ (r = 1 ∧ (mOf a0 a1)))
set_option maxHeartbeats 4000000 in
set_option maxRecDepth 100000 in
theorem k_X12_isOf_7 (l : Launch) (adK adV : Nat → Nat) (dC : Nat → ClassId) (dI : Nat → Nat → Nat) (cy : Nat → ClassId) (ad : Nat → Nat) (B : Int) (hB0 : 100000 ≤ B) (hB1 : B ≤ 1073741824) (qr : Nat) (s1 : Int)  (a0 : Int32) (ra0 : 1 ≤ a0.toInt) (ta0 : a0.toInt ≤ 1023) (a1 : Int32) (ra1 : 0 ≤ a1.toInt) (ta1 : a1.toInt ≤ 9) (w0 : va_W) (sz : Nat) (hT : TW ksM ad cy B qr 12 w0)  : Met l yX12_isOf (wu yX12_isOf cX12_isOf 2 (some .boolean)) ({ frames := 1, cells := 0, slots := 0, locals := 12 }) (va_Pc [.int a0, .int a1] (wpreS adK adV dC dI cy sz w0)) (va_Qi (P_X12_isOf_7 ad cy B qr s1 a0 a1 w0) (fun u : va_W => wpost dC dI cy (va_A w0 sz) u) (va_A w0 sz)) 0 0 (va_A w0 sz) := by
  refine Met.ofW (cc := cX12_isOf) (maxL := 2) (ret := (some .boolean)) (by decide) rfl ?_
  intro p e s m args below meth c s₁ Bk hml hv
  obtain ⟨rfl, ⟨hsz, hP, hK, hD0⟩, hE, hSR⟩ := hv
  have hx := Bk.exec
  have hb := Bk.bytes
  have hr := Bk.returns
  have hlocks := Bk.notSynchronized
  have hC : CallFix p m c cX12_isOf 2 s _ (wu yX12_isOf cX12_isOf 2 (some .boolean)) RX12 := ⟨hx, hb, hml, findClass_of_methodNamed Bk.named, atoms_spec (ws := (wu yX12_isOf cX12_isOf 2 (some .boolean))) Bk.pre⟩
  subst hsz
  have hD := hD0.self (sz := s.heap.size)
  generalize hAe : va_A w0 s.heap.size = A at hD hE ⊢
  have hA : ∀ q : Nat, s.heap.size ≤ q → A q := fun q h => by rw [← hAe]; exact Or.inr h
  have hw : Wd dC dI A s.heap s.heap [] w0 := ⟨hP, hD, va_S.rf⟩
  have hF : FE ksM ([] : List (Nat × Nat × Nat)) w0 w0 := FE.rf
  have hl := lv_entry ([.int a0, .int a1]) (n := 2) (Nat.le_of_ble_eq_true rfl)
  rw [lg_entry_eq]
  generalize (lg_sl ([.int a0, .int a1]) ++ List.replicate (2 - (lg_sl ([.int a0, .int a1])).length) Slot.unset).toArray = ls at hl ⊢
  have hl : lv_has ls 2 [(0, .int a0), (1, .int a1)] := hl
  generalize hloc : ([] : List Loc) = locs at hw ⊢
  refine lv_iload_n hx hb dX12_isOf_0 rfl (lv_at hl 0 rfl) ?_
  refine lv_iload_n hx hb dX12_isOf_1 rfl (lv_at hl 1 rfl) ?_
  refine lv_ishr hx hb dX12_isOf_2 ?_
  refine lv_topi (fun x1 ex1 => ?_)
  have bx1 : 0 ≤ x1.toInt ∧ x1.toInt ≤ a0.toInt := by rw [ex1]; exact wk_shr (by omega)
  refine lv_iconst (v := 1) hx hb dX12_isOf_3 (by decide) ?_
  refine lv_iand hx hb dX12_isOf_4 ?_
  refine lv_topi (fun x2 ex2 => ?_)
  have bx2 : 0 ≤ x2.toInt ∧ x2.toInt ≤ (1 : Int) := by rw [ex2]; exact wk_and (by decide)
  refine lv_iconst (v := 1) hx hb dX12_isOf_5 (by decide) ?_
  refine lv_icmp_ne (tgt := 13) hx hb dX12_isOf_6 (by decide) (fun c3 => ?_) (fun c3 => ?_)
  · have c3 : ¬ x2.toInt = (1 : Int) := wk_eqF c3
    refine lv_iconst (v := 0) hx hb dX12_isOf_13 (by decide) ?_
    exact tk_zret hC hr rfl hlocks hK ⟨rfl, (Or.inl ⟨rfl, (by unfold mOf; rw [← ex1, ← ex2]; omega)⟩)⟩ hw dX12_isOf_14
  · have c3 : x2.toInt = (1 : Int) := wk_eq.mp c3
    refine lv_iconst (v := 1) hx hb dX12_isOf_9 (by decide) ?_
    refine lv_goto (tgt := 14) hx hb dX12_isOf_10 (by decide) ?_
    exact tk_zret hC hr rfl hlocks hK ⟨rfl, (Or.inr ⟨rfl, (by unfold mOf; rw [← ex1, ← ex2]; omega)⟩)⟩ hw dX12_isOf_14
abbrev P_X12_comesTo_1 (ad : Nat → Nat) (cy : Nat → ClassId) (B : Int) (qr : Nat) (s1 : Int) (a1 : Int32) (a2 : Int32) (a3 : Int32) (w0 : va_W) : Int32 → va_W → Prop := fun r u => w0 = u ∧ ((1 ≤ r.toInt ∧ r.toInt ≤ 1023))
set_option maxHeartbeats 4000000 in
set_option maxRecDepth 100000 in
theorem k_X12_comesTo_1 (l : Launch) (adK adV : Nat → Nat) (dC : Nat → ClassId) (dI : Nat → Nat → Nat) (cy : Nat → ClassId) (ad : Nat → Nat) (B : Int) (hB0 : 100000 ≤ B) (hB1 : B ≤ 1073741824) (qr : Nat) (s1 : Int)  (a1 : Int32) (ra1 : 0 ≤ a1.toInt) (ta1 : a1.toInt ≤ 6) (a2 : Int32) (ra2 : 0 ≤ a2.toInt) (ta2 : a2.toInt ≤ 4095) (a3 : Int32) (ra3 : 0 ≤ a3.toInt) (ta3 : a3.toInt ≤ 9) (w0 : va_W) (sz : Nat) (hT : TW ksM ad cy B qr 12 w0)  : Met l yX12_comesTo (wu yX12_comesTo cX12_comesTo 9 (some .int)) ({ frames := 2, cells := 0, slots := 0, locals := 34 }) (va_Pc [.ref (ad 0), .int a1, .int a2, .int a3] (wpreS adK adV dC dI cy sz w0)) (va_Qi (P_X12_comesTo_1 ad cy B qr s1 a1 a2 a3 w0) (fun u : va_W => wpost dC dI cy (va_A w0 sz) u) (va_A w0 sz)) 0 0 (va_A w0 sz) := by
  refine Met.ofW (cc := cX12_comesTo) (maxL := 9) (ret := (some .int)) (by decide) rfl ?_
  intro p e s m args below meth c s₁ Bk hml hv
  obtain ⟨rfl, ⟨hsz, hP, hK, hD0⟩, hE, hSR⟩ := hv
  have hx := Bk.exec
  have hb := Bk.bytes
  have hr := Bk.returns
  have hlocks := Bk.notSynchronized
  have hC : CallFix p m c cX12_comesTo 9 s _ (wu yX12_comesTo cX12_comesTo 9 (some .int)) RX12 := ⟨hx, hb, hml, findClass_of_methodNamed Bk.named, atoms_spec (ws := (wu yX12_comesTo cX12_comesTo 9 (some .int))) Bk.pre⟩
  subst hsz
  have hD := hD0.self (sz := s.heap.size)
  generalize hAe : va_A w0 s.heap.size = A at hD hE ⊢
  have hA : ∀ q : Nat, s.heap.size ≤ q → A q := fun q h => by rw [← hAe]; exact Or.inr h
  have hw : Wd dC dI A s.heap s.heap [] w0 := ⟨hP, hD, va_S.rf⟩
  have hF : FE ksM ([] : List (Nat × Nat × Nat)) w0 w0 := FE.rf
  have hl := lv_entry ([.ref (ad 0), .int a1, .int a2, .int a3]) (n := 9) (Nat.le_of_ble_eq_true rfl)
  rw [lg_entry_eq]
  generalize (lg_sl ([.ref (ad 0), .int a1, .int a2, .int a3]) ++ List.replicate (9 - (lg_sl ([.ref (ad 0), .int a1, .int a2, .int a3])).length) Slot.unset).toArray = ls at hl ⊢
  have hl : lv_has ls 9 [(0, .ref (ad 0)), (1, .int a1), (2, .int a2), (3, .int a3)] := hl
  generalize hloc : ([] : List Loc) = locs at hw ⊢
  have hinX12 : ∀ w ∈ u_ws RX12 TX12 42, w ∈ (wu yX12_comesTo cX12_comesTo 9 (some .int)) := fun _ h => List.mem_cons_of_mem _ (up_71 h)
  have L8 : ∀ (n8 : Nat) (v8_4 : Int32) (v8_5 : Int32) (H : Heap) (locs : List Loc) (ls : Array Slot), 0 ≤ a1.toInt → a1.toInt ≤ 6 → 0 ≤ a2.toInt → a2.toInt ≤ 4095 → 0 ≤ a3.toInt → a3.toInt ≤ 9 → 1 ≤ v8_4.toInt → v8_4.toInt ≤ 1023 → 0 ≤ v8_5.toInt → v8_5.toInt ≤ 1023 → v8_5.toInt ≤ v8_4.toInt + 0 → (1023 - v8_5.toInt).toNat < n8 → Wd dC dI A s.heap H locs w0 → lv_has ls 9 [(0, .ref (ad 0)), (1, .int a1), (2, .int a2), (3, .int a3), (4, .int v8_4), (5, .int v8_5)] → W p l e ({ frames := 2, cells := 0, slots := 0, locals := 34 }) s m (List.toArray [.ref (ad 0), .int a1, .int a2, .int a3]) below meth c H locs 0 0 (MQ below (va_Qi (P_X12_comesTo_1 ad cy B qr s1 a1 a2 a3 w0) (fun u : va_W => wpost dC dI cy A u) A) (List.toArray [.ref (ad 0), .int a1, .int a2, .int a3]) s 0 0 A) (F0 m 8 ls []) := by
    intro n8
    induction n8 with
    | zero => intro v8_4 v8_5 H locs ls r1 t2 r3 t4 r5 t6 r7 t8 r9 t10 i11 hm8 hw hl; omega
    | succ n8 ih8 =>
      intro v8_4 v8_5 H locs ls r1 t2 r3 t4 r5 t6 r7 t8 r9 t10 i11 hm8 hw hl
      have L25 : ∀ (n25 : Nat) (v25_4 : Int32) (v25_6 : Int32) (v25_7 : Int32) (H : Heap) (locs : List Loc) (ls : Array Slot), 0 ≤ a1.toInt → a1.toInt ≤ 6 → 0 ≤ a2.toInt → a2.toInt ≤ 4095 → 0 ≤ a3.toInt → a3.toInt ≤ 9 → 1 ≤ v25_4.toInt → v25_4.toInt ≤ 1023 → 1 ≤ v8_4.toInt → v8_4.toInt ≤ 1023 → 0 ≤ v25_7.toInt → v25_7.toInt ≤ 12 → v8_4.toInt ≤ v25_4.toInt + 0 → (v8_5.toInt < v8_4.toInt) → (12 - v25_7.toInt).toNat < n25 → Wd dC dI A s.heap H locs w0 → lv_has ls 9 [(0, .ref (ad 0)), (1, .int a1), (2, .int a2), (3, .int a3), (4, .int v25_4), (5, .int v8_4), (6, .int v25_6), (7, .int v25_7)] → W p l e ({ frames := 2, cells := 0, slots := 0, locals := 34 }) s m (List.toArray [.ref (ad 0), .int a1, .int a2, .int a3]) below meth c H locs 0 0 (MQ below (va_Qi (P_X12_comesTo_1 ad cy B qr s1 a1 a2 a3 w0) (fun u : va_W => wpost dC dI cy A u) A) (List.toArray [.ref (ad 0), .int a1, .int a2, .int a3]) s 0 0 A) (F0 m 25 ls []) := by
        intro n25
        induction n25 with
        | zero => intro v25_4 v25_6 v25_7 H locs ls r12 t13 r14 t15 r16 t17 r18 t19 r20 t21 r22 t23 i24 hcr25_0 hm25 hw hl; omega
        | succ n25 ih25 =>
          intro v25_4 v25_6 v25_7 H locs ls r12 t13 r14 t15 r16 t17 r18 t19 r20 t21 r22 t23 i24 hcr25_0 hm25 hw hl
          have J107 : ∀ (v107_4 : Int32) (v107_6 : Int32) (f107_12_1 : Int32) (H : Heap) (locs : List Loc) (ls : Array Slot), 0 ≤ a1.toInt → a1.toInt ≤ 6 → 0 ≤ a2.toInt → a2.toInt ≤ 4095 → 0 ≤ a3.toInt → a3.toInt ≤ 9 → 1 ≤ v107_4.toInt → v107_4.toInt ≤ 1023 → 1 ≤ v8_4.toInt → v8_4.toInt ≤ 1023 → 0 ≤ v25_7.toInt → v25_7.toInt ≤ 11 → 1 ≤ f107_12_1.toInt → f107_12_1.toInt ≤ 12 → v8_4.toInt ≤ v107_4.toInt + 0 → Wd dC dI A s.heap H locs w0 → gi w0 12 1 = f107_12_1 → lv_has ls 9 [(0, .ref (ad 0)), (1, .int a1), (2, .int a2), (3, .int a3), (4, .int v107_4), (5, .int v8_4), (6, .int v107_6), (7, .int v25_7)] → W p l e ({ frames := 2, cells := 0, slots := 0, locals := 34 }) s m (List.toArray [.ref (ad 0), .int a1, .int a2, .int a3]) below meth c H locs 0 0 (MQ below (va_Qi (P_X12_comesTo_1 ad cy B qr s1 a1 a2 a3 w0) (fun u : va_W => wpost dC dI cy A u) A) (List.toArray [.ref (ad 0), .int a1, .int a2, .int a3]) s 0 0 A) (F0 m 107 ls []) := by
            intro v107_4 v107_6 f107_12_1 H locs ls r25 t26 r27 t28 r29 t30 r31 t32 r33 t34 r35 t36 r37 t38 i40 hw c39 hl
            obtain ⟨x41, ex41⟩ : ∃ y : Int32, y = v25_7 + Int32.ofInt 1 := ⟨_, rfl⟩
            refine lv_iinc (v := x41) (lv' := [(7, .int x41), (0, .ref (ad 0)), (1, .int a1), (2, .int a2), (3, .int a3), (4, .int v107_4), (5, .int v8_4), (6, .int v107_6)]) hx hb dX12_comesTo_107 hl (k := 7) rfl ex41.symm (by decide) rfl (fun ls hl => ?_)
            have ex41 : x41.toInt = v25_7.toInt + 1 := by rw [ex41]; exact wk_add (y := 1) (show -2147483648 ≤ v25_7.toInt + 1 by omega) (show v25_7.toInt + 1 ≤ 2147483647 by omega)
            refine lv_goto (tgt := 25) hx hb dX12_comesTo_110 (by decide) ?_
            exact ih25 v107_4 v107_6 x41 H locs ls  (show 0 ≤ a1.toInt from r25) (show a1.toInt ≤ 6 from t26) (show 0 ≤ a2.toInt from r27) (show a2.toInt ≤ 4095 from t28) (show 0 ≤ a3.toInt from r29) (show a3.toInt ≤ 9 from t30) (show 1 ≤ v107_4.toInt from r31) (show v107_4.toInt ≤ 1023 from t32) (show 1 ≤ v8_4.toInt from r33) (show v8_4.toInt ≤ 1023 from t34) (show 0 ≤ x41.toInt by omega) (show x41.toInt ≤ 12 by omega) (show v8_4.toInt ≤ v107_4.toInt + 0 from i40) (show v8_5.toInt < v8_4.toInt by omega) (show (12 - x41.toInt).toNat < n25 by omega) hw   (lv_sub hl [1, 2, 3, 4, 5, 6, 7, 0] rfl)
          refine lv_iload hx hb dX12_comesTo_25 (lv_at hl 7 rfl) ?_
          refine lv_aload_n hx hb dX12_comesTo_27 rfl (lv_at hl 0 rfl) ?_
          refine tk_getA hC hK hw hT hinX12 kM_at0 (by decide) rfl 26 (by decide) (List.mem_cons_of_mem _ uw_7_1) rfl rfl dX12_comesTo_28 ?_
          refine lv_iconst (v := 1) hx hb dX12_comesTo_31 (by decide) ?_
          refine tk_ialdR hC hK hw hT kM_at12 rfl (by decide) (by decide) dX12_comesTo_32 (fun x42 c43 Ex42 => ?_)
          have bx42 : 0 ≤ x42.toInt ∧ x42.toInt ≤ 12 := (tk_rg1 rfl).mp Ex42
          have c43 : gi w0 12 1 = x42 := c43
          refine lv_icmp_ge (tgt := 113) hx hb dX12_comesTo_33 (by decide) (fun c44 => ?_) (fun c44 => ?_)
          · have c44 : x42.toInt ≤ v25_7.toInt := wk_le.mp c44
            refine lv_goto (tgt := 8) hx hb dX12_comesTo_113 (by decide) ?_
            exact ih8 v25_4 v8_4 H locs ls  (show 0 ≤ a1.toInt from r12) (show a1.toInt ≤ 6 from t13) (show 0 ≤ a2.toInt from r14) (show a2.toInt ≤ 4095 from t15) (show 0 ≤ a3.toInt from r16) (show a3.toInt ≤ 9 from t17) (show 1 ≤ v25_4.toInt from r18) (show v25_4.toInt ≤ 1023 from t19) (show 0 ≤ v8_4.toInt from Int.le_trans (by decide) r20) (show v8_4.toInt ≤ 1023 from t21) (show v8_4.toInt ≤ v25_4.toInt + 0 from i24) (show (1023 - v8_4.toInt).toNat < n8 by omega) hw   (lv_sub hl [0, 1, 2, 3, 4, 5] rfl)
          · have c44 : v25_7.toInt < x42.toInt := wk_leF c44
            refine lv_aload_n hx hb dX12_comesTo_36 rfl (lv_at hl 0 rfl) ?_
            refine lv_iload hx hb dX12_comesTo_37 (lv_at hl 7 rfl) ?_
            refine lv_iconst (v := 3) hx hb dX12_comesTo_39 (by decide) ?_
            refine lv_iload_n hx hb dX12_comesTo_40 rfl (lv_at hl 1 rfl) ?_
            refine lv_iadd hx hb dX12_comesTo_41 ?_
            refine lv_topi (fun x45 ex45 => ?_)
            have ex45 : x45.toInt = (3 : Int) + a1.toInt := by rw [ex45]; exact wk_add (show (-2147483648) ≤ (3 : Int) + a1.toInt by omega) (show (3 : Int) + a1.toInt ≤ 2147483647 by omega)
            refine tk_Vi hC hK hw hT hA hE hSR kM_at0 (by decide) rfl (k_X12_streetOf_4 l adK adV dC dI cy ad B (by omega) (by omega) qr s1   v25_7 (show 0 ≤ v25_7.toInt from r22) (show v25_7.toInt ≤ 11 by omega) x45 (show 3 ≤ x45.toInt by omega) (show x45.toInt ≤ 9 by omega) w0 H.size hT ) (cwV 2 hC.2.2.2.2 uV_RX12_300 rfl rfl rfl (by decide +kernel) ⟨Nat.le_of_ble_eq_true rfl, Nat.le_of_ble_eq_true rfl⟩) rfl hl.1 rfl (Nat.le_of_ble_eq_true rfl) dX12_comesTo_42 (fun r46 w48 H locs hp47 hw => ?_)
            obtain ⟨rfl, hg53⟩ := hp47
            obtain ⟨g50, g51, c52⟩ := hg53
            refine lv_if_ne (tgt := 51) hx hb dX12_comesTo_45 (by decide) (fun c54 => ?_) (fun c54 => ?_)
            · have c54 : ¬ r46.toInt = (0 : Int) := wk_eqF c54
              refine lv_iload_n hx hb dX12_comesTo_51 rfl (lv_at hl 2 rfl) ?_
              refine lv_iload hx hb dX12_comesTo_52 (lv_at hl 6 rfl) ?_
              refine tk_Si hC hK hw hT hA hE hSR (k_X12_isOf_6 l adK adV dC dI cy ad B (by omega) (by omega) qr s1   a2 (show 0 ≤ a2.toInt from r14) (show a2.toInt ≤ 4095 from t15) v25_6 w0 H.size hT ) (va_cwS 2 hC.2.2.2.2 uS_RX12_304 rfl rfl rfl (by decide +kernel) ⟨Nat.le_of_ble_eq_true rfl, Nat.le_of_ble_eq_true rfl⟩) rfl hl.1 rfl (Nat.le_of_ble_eq_true rfl) dX12_comesTo_54 (fun r55 w57 H locs hp56 hw => ?_)
              obtain ⟨rfl, hg61⟩ := hp56
              rcases hg61 with ⟨rfl, hq59⟩ | ⟨rfl, hq60⟩
              · refine lv_if_eq (tgt := 64) hx hb dX12_comesTo_57 (by decide) (fun _ => ?_) (fun c => absurd (by decide) c)
                refine lv_iconst (v := 0) hx hb dX12_comesTo_64 (by decide) ?_
                refine lv_istore (lv' := [(8, .int 0), (0, .ref (ad 0)), (1, .int a1), (2, .int a2), (3, .int a3), (4, .int v25_4), (5, .int v8_4), (6, .int v25_6), (7, .int v25_7)]) hx hb dX12_comesTo_65 hl (by decide) rfl (fun ls hl => ?_)
                refine lv_iload hx hb dX12_comesTo_67 (lv_at hl 5 rfl) ?_
                refine lv_iload hx hb dX12_comesTo_69 (lv_at hl 5 rfl) ?_
                refine lv_aload_n hx hb dX12_comesTo_71 rfl (lv_at hl 1 rfl) ?_
                refine lv_iload hx hb dX12_comesTo_72 (lv_at hl 8 rfl) ?_
                refine lv_iload hx hb dX12_comesTo_74 (lv_at hl 0 rfl) ?_
                refine tk_Vi hC hK hw hT hA hE hSR kM_at0 (by decide) rfl (k_X12_streetOf_2 l adK adV dC dI cy ad B (by omega) (by omega) qr s1   v25_7 (show 0 ≤ v25_7.toInt from r22) (show v25_7.toInt ≤ 11 by omega) w0 H.size hT ) (cwV 2 hC.2.2.2.2 uV_RX12_300 rfl rfl rfl (by decide +kernel) ⟨Nat.le_of_ble_eq_true rfl, Nat.le_of_ble_eq_true rfl⟩) rfl hl.1 rfl (Nat.le_of_ble_eq_true rfl) dX12_comesTo_76 (fun r62 w64 H locs hp63 hw => ?_)
                obtain ⟨rfl, hg69⟩ := hp63
                obtain ⟨g66, g67, c68⟩ := hg69
                refine tk_Si hC hK hw hT hA hE hSR (k_X12_isOf_7 l adK adV dC dI cy ad B (by omega) (by omega) qr s1   v25_4 (show 1 ≤ v25_4.toInt from r18) (show v25_4.toInt ≤ 1023 from t19) r62 (show 0 ≤ r62.toInt by omega) (show r62.toInt ≤ 9 by omega) w0 H.size hT ) (va_cwS 2 hC.2.2.2.2 uS_RX12_304 rfl rfl rfl (by decide +kernel) ⟨Nat.le_of_ble_eq_true rfl, Nat.le_of_ble_eq_true rfl⟩) rfl hl.1 rfl (Nat.le_of_ble_eq_true rfl) dX12_comesTo_79 (fun r70 w72 H locs hp71 hw => ?_)
                obtain ⟨rfl, hg76⟩ := hp71
                rcases hg76 with ⟨rfl, hq74⟩ | ⟨rfl, hq75⟩
                · refine lv_if_eq (tgt := 100) hx hb dX12_comesTo_82 (by decide) (fun _ => ?_) (fun c => absurd (by decide) c)
                  refine lv_iconst (v := 0) hx hb dX12_comesTo_100 (by decide) ?_
                  refine lv_ior hx hb dX12_comesTo_101 ?_
                  refine lv_topi (fun x77 ex77 => ?_)
                  have bx77 : 0 ≤ x77.toInt ∧ x77.toInt < 1024 := by rw [ex77]; exact wk_or 10 (by decide) (by omega) (by omega) (by decide) (by decide)
                  have mx77 : v25_4.toInt ≤ x77.toInt ∧ (0 : Int) ≤ x77.toInt := by rw [ex77]; exact wk_orL 10 (by decide) (by omega) (by omega) (by decide) (by decide)
                  refine lv_istore (lv' := [(4, .int x77), (8, .int 0), (0, .ref (ad 0)), (1, .int a1), (2, .int a2), (3, .int a3), (5, .int v8_4), (6, .int v25_6), (7, .int v25_7)]) hx hb dX12_comesTo_102 hl (by decide) rfl (fun ls hl => ?_)
                  have nx79 := wk_i32 v25_6
                  obtain ⟨x78, ex78⟩ : ∃ y : Int32, y = v25_6 + Int32.ofInt 1 := ⟨_, rfl⟩
                  refine lv_iinc (v := x78) (lv' := [(6, .int x78), (4, .int x77), (8, .int 0), (0, .ref (ad 0)), (1, .int a1), (2, .int a2), (3, .int a3), (5, .int v8_4), (7, .int v25_7)]) hx hb dX12_comesTo_104 hl (k := 7) rfl ex78.symm (by decide) rfl (fun ls hl => ?_)
                  exact J107 x77 x78 x42 H locs ls  (show 0 ≤ a1.toInt from r12) (show a1.toInt ≤ 6 from t13) (show 0 ≤ a2.toInt from r14) (show a2.toInt ≤ 4095 from t15) (show 0 ≤ a3.toInt from r16) (show a3.toInt ≤ 9 from t17) (show 1 ≤ x77.toInt by omega) (show x77.toInt ≤ 1023 by omega) (show 1 ≤ v8_4.toInt from r20) (show v8_4.toInt ≤ 1023 from t21) (show 0 ≤ v25_7.toInt from r22) (show v25_7.toInt ≤ 11 by omega) (show 1 ≤ x42.toInt by omega) (show x42.toInt ≤ 12 by omega) (show v8_4.toInt ≤ x77.toInt + 0 by omega)  hw  c43 (lv_sub hl [3, 4, 5, 6, 1, 7, 0, 8] rfl)
                · refine lv_if_eq (tgt := 100) hx hb dX12_comesTo_82 (by decide) (fun c => absurd c (by decide)) (fun _ => ?_)
                  refine lv_iconst (v := 1) hx hb dX12_comesTo_85 (by decide) ?_
                  refine lv_aload_n hx hb dX12_comesTo_86 rfl (lv_at hl 1 rfl) ?_
                  refine lv_iload hx hb dX12_comesTo_87 (lv_at hl 8 rfl) ?_
                  refine lv_iconst (v := 1) hx hb dX12_comesTo_89 (by decide) ?_
                  refine lv_iload hx hb dX12_comesTo_90 (lv_at hl 0 rfl) ?_
                  refine lv_isub hx hb dX12_comesTo_92 ?_
                  refine wk_top 1 (by decide) ?_
                  refine tk_Vi hC hK hw hT hA hE hSR kM_at0 (by decide) rfl (k_X12_streetOf_3 l adK adV dC dI cy ad B (by omega) (by omega) qr s1   v25_7 (show 0 ≤ v25_7.toInt from r22) (show v25_7.toInt ≤ 11 by omega) w0 H.size hT ) (cwV 2 hC.2.2.2.2 uV_RX12_300 rfl rfl rfl (by decide +kernel) ⟨Nat.le_of_ble_eq_true rfl, Nat.le_of_ble_eq_true rfl⟩) rfl hl.1 rfl (Nat.le_of_ble_eq_true rfl) dX12_comesTo_93 (fun r80 w82 H locs hp81 hw => ?_)
                  obtain ⟨rfl, hg87⟩ := hp81
                  obtain ⟨g84, g85, c86⟩ := hg87
                  refine lv_ishl hx hb dX12_comesTo_96 ?_
                  refine lv_topi (fun x88 ex88 => ?_)
                  have bx88 : 1 ≤ x88.toInt ∧ x88.toInt ≤ 512 := by rw [ex88]; exact wk_shl1 9 (by decide) (by omega) (by omega)
                  refine lv_goto (tgt := 101) hx hb dX12_comesTo_97 (by decide) ?_
                  refine lv_ior hx hb dX12_comesTo_101 ?_
                  refine lv_topi (fun x89 ex89 => ?_)
                  have bx89 : 0 ≤ x89.toInt ∧ x89.toInt < 1024 := by rw [ex89]; exact wk_or 10 (by decide) (by omega) (by omega) (by omega) (by omega)
                  have mx89 : v25_4.toInt ≤ x89.toInt ∧ x88.toInt ≤ x89.toInt := by rw [ex89]; exact wk_orL 10 (by decide) (by omega) (by omega) (by omega) (by omega)
                  refine lv_istore (lv' := [(4, .int x89), (8, .int 0), (0, .ref (ad 0)), (1, .int a1), (2, .int a2), (3, .int a3), (5, .int v8_4), (6, .int v25_6), (7, .int v25_7)]) hx hb dX12_comesTo_102 hl (by decide) rfl (fun ls hl => ?_)
                  have nx91 := wk_i32 v25_6
                  obtain ⟨x90, ex90⟩ : ∃ y : Int32, y = v25_6 + Int32.ofInt 1 := ⟨_, rfl⟩
                  refine lv_iinc (v := x90) (lv' := [(6, .int x90), (4, .int x89), (8, .int 0), (0, .ref (ad 0)), (1, .int a1), (2, .int a2), (3, .int a3), (5, .int v8_4), (7, .int v25_7)]) hx hb dX12_comesTo_104 hl (k := 7) rfl ex90.symm (by decide) rfl (fun ls hl => ?_)
                  exact J107 x89 x90 x42 H locs ls  (show 0 ≤ a1.toInt from r12) (show a1.toInt ≤ 6 from t13) (show 0 ≤ a2.toInt from r14) (show a2.toInt ≤ 4095 from t15) (show 0 ≤ a3.toInt from r16) (show a3.toInt ≤ 9 from t17) (show 1 ≤ x89.toInt by omega) (show x89.toInt ≤ 1023 by omega) (show 1 ≤ v8_4.toInt from r20) (show v8_4.toInt ≤ 1023 from t21) (show 0 ≤ v25_7.toInt from r22) (show v25_7.toInt ≤ 11 by omega) (show 1 ≤ x42.toInt by omega) (show x42.toInt ≤ 12 by omega) (show v8_4.toInt ≤ x89.toInt + 0 by omega)  hw  c43 (lv_sub hl [3, 4, 5, 6, 1, 7, 0, 8] rfl)
              · refine lv_if_eq (tgt := 64) hx hb dX12_comesTo_57 (by decide) (fun c => absurd c (by decide)) (fun _ => ?_)
                refine lv_iconst (v := 1) hx hb dX12_comesTo_60 (by decide) ?_
                refine lv_goto (tgt := 65) hx hb dX12_comesTo_61 (by decide) ?_
                refine lv_istore (lv' := [(8, .int 1), (0, .ref (ad 0)), (1, .int a1), (2, .int a2), (3, .int a3), (4, .int v25_4), (5, .int v8_4), (6, .int v25_6), (7, .int v25_7)]) hx hb dX12_comesTo_65 hl (by decide) rfl (fun ls hl => ?_)
                refine lv_iload hx hb dX12_comesTo_67 (lv_at hl 5 rfl) ?_
                refine lv_iload hx hb dX12_comesTo_69 (lv_at hl 5 rfl) ?_
                refine lv_aload_n hx hb dX12_comesTo_71 rfl (lv_at hl 1 rfl) ?_
                refine lv_iload hx hb dX12_comesTo_72 (lv_at hl 8 rfl) ?_
                refine lv_iload hx hb dX12_comesTo_74 (lv_at hl 0 rfl) ?_
                refine tk_Vi hC hK hw hT hA hE hSR kM_at0 (by decide) rfl (k_X12_streetOf_3 l adK adV dC dI cy ad B (by omega) (by omega) qr s1   v25_7 (show 0 ≤ v25_7.toInt from r22) (show v25_7.toInt ≤ 11 by omega) w0 H.size hT ) (cwV 2 hC.2.2.2.2 uV_RX12_300 rfl rfl rfl (by decide +kernel) ⟨Nat.le_of_ble_eq_true rfl, Nat.le_of_ble_eq_true rfl⟩) rfl hl.1 rfl (Nat.le_of_ble_eq_true rfl) dX12_comesTo_76 (fun r92 w94 H locs hp93 hw => ?_)
                obtain ⟨rfl, hg99⟩ := hp93
                obtain ⟨g96, g97, c98⟩ := hg99
                refine tk_Si hC hK hw hT hA hE hSR (k_X12_isOf_7 l adK adV dC dI cy ad B (by omega) (by omega) qr s1   v25_4 (show 1 ≤ v25_4.toInt from r18) (show v25_4.toInt ≤ 1023 from t19) r92 (show 0 ≤ r92.toInt by omega) (show r92.toInt ≤ 9 by omega) w0 H.size hT ) (va_cwS 2 hC.2.2.2.2 uS_RX12_304 rfl rfl rfl (by decide +kernel) ⟨Nat.le_of_ble_eq_true rfl, Nat.le_of_ble_eq_true rfl⟩) rfl hl.1 rfl (Nat.le_of_ble_eq_true rfl) dX12_comesTo_79 (fun r100 w102 H locs hp101 hw => ?_)
                obtain ⟨rfl, hg106⟩ := hp101
                rcases hg106 with ⟨rfl, hq104⟩ | ⟨rfl, hq105⟩
                · refine lv_if_eq (tgt := 100) hx hb dX12_comesTo_82 (by decide) (fun _ => ?_) (fun c => absurd (by decide) c)
                  refine lv_iconst (v := 0) hx hb dX12_comesTo_100 (by decide) ?_
                  refine lv_ior hx hb dX12_comesTo_101 ?_
                  refine lv_topi (fun x107 ex107 => ?_)
                  have bx107 : 0 ≤ x107.toInt ∧ x107.toInt < 1024 := by rw [ex107]; exact wk_or 10 (by decide) (by omega) (by omega) (by decide) (by decide)
                  have mx107 : v25_4.toInt ≤ x107.toInt ∧ (0 : Int) ≤ x107.toInt := by rw [ex107]; exact wk_orL 10 (by decide) (by omega) (by omega) (by decide) (by decide)
                  refine lv_istore (lv' := [(4, .int x107), (8, .int 1), (0, .ref (ad 0)), (1, .int a1), (2, .int a2), (3, .int a3), (5, .int v8_4), (6, .int v25_6), (7, .int v25_7)]) hx hb dX12_comesTo_102 hl (by decide) rfl (fun ls hl => ?_)
                  have nx109 := wk_i32 v25_6
                  obtain ⟨x108, ex108⟩ : ∃ y : Int32, y = v25_6 + Int32.ofInt 1 := ⟨_, rfl⟩
                  refine lv_iinc (v := x108) (lv' := [(6, .int x108), (4, .int x107), (8, .int 1), (0, .ref (ad 0)), (1, .int a1), (2, .int a2), (3, .int a3), (5, .int v8_4), (7, .int v25_7)]) hx hb dX12_comesTo_104 hl (k := 7) rfl ex108.symm (by decide) rfl (fun ls hl => ?_)
                  exact J107 x107 x108 x42 H locs ls  (show 0 ≤ a1.toInt from r12) (show a1.toInt ≤ 6 from t13) (show 0 ≤ a2.toInt from r14) (show a2.toInt ≤ 4095 from t15) (show 0 ≤ a3.toInt from r16) (show a3.toInt ≤ 9 from t17) (show 1 ≤ x107.toInt by omega) (show x107.toInt ≤ 1023 by omega) (show 1 ≤ v8_4.toInt from r20) (show v8_4.toInt ≤ 1023 from t21) (show 0 ≤ v25_7.toInt from r22) (show v25_7.toInt ≤ 11 by omega) (show 1 ≤ x42.toInt by omega) (show x42.toInt ≤ 12 by omega) (show v8_4.toInt ≤ x107.toInt + 0 by omega)  hw  c43 (lv_sub hl [3, 4, 5, 6, 1, 7, 0, 8] rfl)
                · refine lv_if_eq (tgt := 100) hx hb dX12_comesTo_82 (by decide) (fun c => absurd c (by decide)) (fun _ => ?_)
                  refine lv_iconst (v := 1) hx hb dX12_comesTo_85 (by decide) ?_
                  refine lv_aload_n hx hb dX12_comesTo_86 rfl (lv_at hl 1 rfl) ?_
                  refine lv_iload hx hb dX12_comesTo_87 (lv_at hl 8 rfl) ?_
                  refine lv_iconst (v := 1) hx hb dX12_comesTo_89 (by decide) ?_
                  refine lv_iload hx hb dX12_comesTo_90 (lv_at hl 0 rfl) ?_
                  refine lv_isub hx hb dX12_comesTo_92 ?_
                  refine wk_top 0 (by decide) ?_
                  refine tk_Vi hC hK hw hT hA hE hSR kM_at0 (by decide) rfl (k_X12_streetOf_2 l adK adV dC dI cy ad B (by omega) (by omega) qr s1   v25_7 (show 0 ≤ v25_7.toInt from r22) (show v25_7.toInt ≤ 11 by omega) w0 H.size hT ) (cwV 2 hC.2.2.2.2 uV_RX12_300 rfl rfl rfl (by decide +kernel) ⟨Nat.le_of_ble_eq_true rfl, Nat.le_of_ble_eq_true rfl⟩) rfl hl.1 rfl (Nat.le_of_ble_eq_true rfl) dX12_comesTo_93 (fun r110 w112 H locs hp111 hw => ?_)
                  obtain ⟨rfl, hg117⟩ := hp111
                  obtain ⟨g114, g115, c116⟩ := hg117
                  refine lv_ishl hx hb dX12_comesTo_96 ?_
                  refine lv_topi (fun x118 ex118 => ?_)
                  have bx118 : 1 ≤ x118.toInt ∧ x118.toInt ≤ 512 := by rw [ex118]; exact wk_shl1 9 (by decide) (by omega) (by omega)
                  refine lv_goto (tgt := 101) hx hb dX12_comesTo_97 (by decide) ?_
                  refine lv_ior hx hb dX12_comesTo_101 ?_
                  refine lv_topi (fun x119 ex119 => ?_)
                  have bx119 : 0 ≤ x119.toInt ∧ x119.toInt < 1024 := by rw [ex119]; exact wk_or 10 (by decide) (by omega) (by omega) (by omega) (by omega)
                  have mx119 : v25_4.toInt ≤ x119.toInt ∧ x118.toInt ≤ x119.toInt := by rw [ex119]; exact wk_orL 10 (by decide) (by omega) (by omega) (by omega) (by omega)
                  refine lv_istore (lv' := [(4, .int x119), (8, .int 1), (0, .ref (ad 0)), (1, .int a1), (2, .int a2), (3, .int a3), (5, .int v8_4), (6, .int v25_6), (7, .int v25_7)]) hx hb dX12_comesTo_102 hl (by decide) rfl (fun ls hl => ?_)
                  have nx121 := wk_i32 v25_6
                  obtain ⟨x120, ex120⟩ : ∃ y : Int32, y = v25_6 + Int32.ofInt 1 := ⟨_, rfl⟩
                  refine lv_iinc (v := x120) (lv' := [(6, .int x120), (4, .int x119), (8, .int 1), (0, .ref (ad 0)), (1, .int a1), (2, .int a2), (3, .int a3), (5, .int v8_4), (7, .int v25_7)]) hx hb dX12_comesTo_104 hl (k := 7) rfl ex120.symm (by decide) rfl (fun ls hl => ?_)
                  exact J107 x119 x120 x42 H locs ls  (show 0 ≤ a1.toInt from r12) (show a1.toInt ≤ 6 from t13) (show 0 ≤ a2.toInt from r14) (show a2.toInt ≤ 4095 from t15) (show 0 ≤ a3.toInt from r16) (show a3.toInt ≤ 9 from t17) (show 1 ≤ x119.toInt by omega) (show x119.toInt ≤ 1023 by omega) (show 1 ≤ v8_4.toInt from r20) (show v8_4.toInt ≤ 1023 from t21) (show 0 ≤ v25_7.toInt from r22) (show v25_7.toInt ≤ 11 by omega) (show 1 ≤ x42.toInt by omega) (show x42.toInt ≤ 12 by omega) (show v8_4.toInt ≤ x119.toInt + 0 by omega)  hw  c43 (lv_sub hl [3, 4, 5, 6, 1, 7, 0, 8] rfl)
            · have c54 : r46.toInt = (0 : Int) := wk_eq.mp c54
              refine lv_goto (tgt := 107) hx hb dX12_comesTo_48 (by decide) ?_
              exact J107 v25_4 v25_6 x42 H locs ls  (show 0 ≤ a1.toInt from r12) (show a1.toInt ≤ 6 from t13) (show 0 ≤ a2.toInt from r14) (show a2.toInt ≤ 4095 from t15) (show 0 ≤ a3.toInt from r16) (show a3.toInt ≤ 9 from t17) (show 1 ≤ v25_4.toInt from r18) (show v25_4.toInt ≤ 1023 from t19) (show 1 ≤ v8_4.toInt from r20) (show v8_4.toInt ≤ 1023 from t21) (show 0 ≤ v25_7.toInt from r22) (show v25_7.toInt ≤ 11 by omega) (show 1 ≤ x42.toInt by omega) (show x42.toInt ≤ 12 by omega) (show v8_4.toInt ≤ v25_4.toInt + 0 from i24)  hw  c43 (lv_sub hl [0, 1, 2, 3, 4, 5, 6, 7] rfl)
      refine lv_iload hx hb dX12_comesTo_8 (lv_at hl 4 rfl) ?_
      refine lv_iload hx hb dX12_comesTo_10 (lv_at hl 5 rfl) ?_
      refine lv_icmp_eq (tgt := 116) hx hb dX12_comesTo_12 (by decide) (fun c122 => ?_) (fun c122 => ?_)
      · have c122 : v8_4.toInt = v8_5.toInt := wk_eq.mp c122
        refine lv_iload hx hb dX12_comesTo_116 (lv_at hl 4 rfl) ?_
        exact tk_iret hC hr hlocks hK ⟨rfl, ⟨(show 1 ≤ v8_4.toInt from r7), (show v8_4.toInt ≤ 1023 from t8)⟩⟩ hw dX12_comesTo_118
      · have c122 : ¬ v8_4.toInt = v8_5.toInt := wk_eqF c122
        refine lv_iload hx hb dX12_comesTo_15 (lv_at hl 4 rfl) ?_
        refine lv_istore (lv' := [(5, .int v8_4), (0, .ref (ad 0)), (1, .int a1), (2, .int a2), (3, .int a3), (4, .int v8_4)]) hx hb dX12_comesTo_17 hl (by decide) rfl (fun ls hl => ?_)
        refine lv_iconst (v := 0) hx hb dX12_comesTo_19 (by decide) ?_
        refine lv_istore (lv' := [(6, .int 0), (5, .int v8_4), (0, .ref (ad 0)), (1, .int a1), (2, .int a2), (3, .int a3), (4, .int v8_4)]) hx hb dX12_comesTo_20 hl (by decide) rfl (fun ls hl => ?_)
        refine lv_iconst (v := 0) hx hb dX12_comesTo_22 (by decide) ?_
        refine lv_istore (lv' := [(7, .int 0), (6, .int 0), (5, .int v8_4), (0, .ref (ad 0)), (1, .int a1), (2, .int a2), (3, .int a3), (4, .int v8_4)]) hx hb dX12_comesTo_23 hl (by decide) rfl (fun ls hl => ?_)
        exact L25 ((12 - (0 : Int)).toNat + 1) v8_4 0 0 H locs ls  (show 0 ≤ a1.toInt from r1) (show a1.toInt ≤ 6 from t2) (show 0 ≤ a2.toInt from r3) (show a2.toInt ≤ 4095 from t4) (show 0 ≤ a3.toInt from r5) (show a3.toInt ≤ 9 from t6) (show 1 ≤ v8_4.toInt from r7) (show v8_4.toInt ≤ 1023 from t8) (show 1 ≤ v8_4.toInt from r7) (show v8_4.toInt ≤ 1023 from t8) (by decide) (by decide) (show v8_4.toInt ≤ v8_4.toInt + 0 by omega) (show v8_5.toInt < v8_4.toInt by omega) (Nat.lt_succ_self _) hw   (lv_sub hl [3, 4, 5, 6, 7, 2, 1, 0] rfl)
  refine lv_iconst (v := 1) hx hb dX12_comesTo_0 (by decide) ?_
  refine lv_iload_n hx hb dX12_comesTo_1 rfl (lv_at hl 3 rfl) ?_
  refine lv_ishl hx hb dX12_comesTo_2 ?_
  refine lv_topi (fun x123 ex123 => ?_)
  have bx123 : 1 ≤ x123.toInt ∧ x123.toInt ≤ 512 := by rw [ex123]; exact wk_shl1 9 (by decide) (by omega) (by omega)
  refine lv_istore (lv' := [(4, .int x123), (0, .ref (ad 0)), (1, .int a1), (2, .int a2), (3, .int a3)]) hx hb dX12_comesTo_3 hl (by decide) rfl (fun ls hl => ?_)
  refine lv_iconst (v := 0) hx hb dX12_comesTo_5 (by decide) ?_
  refine lv_istore (lv' := [(5, .int 0), (4, .int x123), (0, .ref (ad 0)), (1, .int a1), (2, .int a2), (3, .int a3)]) hx hb dX12_comesTo_6 hl (by decide) rfl (fun ls hl => ?_)
  exact L8 ((1023 - (0 : Int)).toNat + 1) x123 0 s.heap locs ls  (show 0 ≤ a1.toInt from ra1) (show a1.toInt ≤ 6 from ta1) (show 0 ≤ a2.toInt from ra2) (show a2.toInt ≤ 4095 from ta2) (show 0 ≤ a3.toInt from ra3) (show a3.toInt ≤ 9 from ta3) (show 1 ≤ x123.toInt by omega) (show x123.toInt ≤ 1023 by omega) (by decide) (by decide) (show (0 : Int) ≤ x123.toInt + 0 by omega) (Nat.lt_succ_self _) hw   (lv_sub hl [2, 3, 4, 5, 1, 0] rfl)
abbrev P_X12_doneBy_1 (ad : Nat → Nat) (cy : Nat → ClassId) (B : Int) (qr : Nat) (s1 : Int) (a1 : Int32) (a2 : Int32) (w0 : va_W) : Int32 → va_W → Prop := fun r u => w0 = u ∧ ((0 ≤ r.toInt ∧ r.toInt ≤ 63))
set_option maxHeartbeats 4000000 in
set_option maxRecDepth 100000 in
theorem k_X12_doneBy_1 (l : Launch) (adK adV : Nat → Nat) (dC : Nat → ClassId) (dI : Nat → Nat → Nat) (cy : Nat → ClassId) (ad : Nat → Nat) (B : Int) (hB0 : 100000 ≤ B) (hB1 : B ≤ 1073741824) (qr : Nat) (s1 : Int)  (a1 : Int32) (ra1 : 0 ≤ a1.toInt) (ta1 : a1.toInt ≤ 6) (a2 : Int32) (ra2 : 0 ≤ a2.toInt) (ta2 : a2.toInt ≤ 4095) (w0 : va_W) (sz : Nat) (hT : TW ksM ad cy B qr 12 w0)  : Met l yX12_doneBy (wu yX12_doneBy cX12_doneBy 5 (some .int)) ({ frames := 3, cells := 0, slots := 0, locals := 62 }) (va_Pc [.ref (ad 0), .int a1, .int a2] (wpreS adK adV dC dI cy sz w0)) (va_Qi (P_X12_doneBy_1 ad cy B qr s1 a1 a2 w0) (fun u : va_W => wpost dC dI cy (va_A w0 sz) u) (va_A w0 sz)) 0 0 (va_A w0 sz) := by
  refine Met.ofW (cc := cX12_doneBy) (maxL := 5) (ret := (some .int)) (by decide) rfl ?_
  intro p e s m args below meth c s₁ Bk hml hv
  obtain ⟨rfl, ⟨hsz, hP, hK, hD0⟩, hE, hSR⟩ := hv
  have hx := Bk.exec
  have hb := Bk.bytes
  have hr := Bk.returns
  have hlocks := Bk.notSynchronized
  have hC : CallFix p m c cX12_doneBy 5 s _ (wu yX12_doneBy cX12_doneBy 5 (some .int)) RX12 := ⟨hx, hb, hml, findClass_of_methodNamed Bk.named, atoms_spec (ws := (wu yX12_doneBy cX12_doneBy 5 (some .int))) Bk.pre⟩
  subst hsz
  have hD := hD0.self (sz := s.heap.size)
  generalize hAe : va_A w0 s.heap.size = A at hD hE ⊢
  have hA : ∀ q : Nat, s.heap.size ≤ q → A q := fun q h => by rw [← hAe]; exact Or.inr h
  have hw : Wd dC dI A s.heap s.heap [] w0 := ⟨hP, hD, va_S.rf⟩
  have hF : FE ksM ([] : List (Nat × Nat × Nat)) w0 w0 := FE.rf
  have hl := lv_entry ([.ref (ad 0), .int a1, .int a2]) (n := 5) (Nat.le_of_ble_eq_true rfl)
  rw [lg_entry_eq]
  generalize (lg_sl ([.ref (ad 0), .int a1, .int a2]) ++ List.replicate (5 - (lg_sl ([.ref (ad 0), .int a1, .int a2])).length) Slot.unset).toArray = ls at hl ⊢
  have hl : lv_has ls 5 [(0, .ref (ad 0)), (1, .int a1), (2, .int a2)] := hl
  generalize hloc : ([] : List Loc) = locs at hw ⊢
  have hinX12 : ∀ w ∈ u_ws RX12 TX12 42, w ∈ (wu yX12_doneBy cX12_doneBy 5 (some .int)) := fun _ h => List.mem_cons_of_mem _ (up_71 h)
  have L5 : ∀ (n5 : Nat) (v5_3 : Int32) (v5_4 : Int32) (H : Heap) (locs : List Loc) (ls : Array Slot), 0 ≤ a1.toInt → a1.toInt ≤ 6 → 0 ≤ a2.toInt → a2.toInt ≤ 4095 → 0 ≤ v5_3.toInt → v5_3.toInt ≤ 63 → 0 ≤ v5_4.toInt → v5_4.toInt ≤ 6 → (6 - v5_4.toInt).toNat < n5 → Wd dC dI A s.heap H locs w0 → lv_has ls 5 [(0, .ref (ad 0)), (1, .int a1), (2, .int a2), (3, .int v5_3), (4, .int v5_4)] → W p l e ({ frames := 3, cells := 0, slots := 0, locals := 62 }) s m (List.toArray [.ref (ad 0), .int a1, .int a2]) below meth c H locs 0 0 (MQ below (va_Qi (P_X12_doneBy_1 ad cy B qr s1 a1 a2 w0) (fun u : va_W => wpost dC dI cy A u) A) (List.toArray [.ref (ad 0), .int a1, .int a2]) s 0 0 A) (F0 m 5 ls []) := by
    intro n5
    induction n5 with
    | zero => intro v5_3 v5_4 H locs ls r1 t2 r3 t4 r5 t6 r7 t8 hm5 hw hl; omega
    | succ n5 ih5 =>
      intro v5_3 v5_4 H locs ls r1 t2 r3 t4 r5 t6 r7 t8 hm5 hw hl
      refine lv_iload hx hb dX12_doneBy_5 (lv_at hl 4 rfl) ?_
      refine lv_aload_n hx hb dX12_doneBy_7 rfl (lv_at hl 0 rfl) ?_
      refine tk_getA hC hK hw hT hinX12 kM_at0 (by decide) rfl 26 (by decide) (List.mem_cons_of_mem _ uw_7_1) rfl rfl dX12_doneBy_8 ?_
      refine lv_bipush (v := 6) hx hb dX12_doneBy_11 (by decide) ?_
      refine tk_ialdR hC hK hw hT kM_at12 rfl (by decide) (by decide) dX12_doneBy_13 (fun x9 c10 Ex9 => ?_)
      have bx9 := tk_rgI rfl 6 1 1 0 6 (by decide +kernel) ⟨0, by decide, by decide⟩ Ex9
      have c10 : gi w0 12 6 = x9 := c10
      refine lv_icmp_ge (tgt := 74) hx hb dX12_doneBy_14 (by decide) (fun c11 => ?_) (fun c11 => ?_)
      · have c11 : x9.toInt ≤ v5_4.toInt := wk_le.mp c11
        refine lv_iload_n hx hb dX12_doneBy_74 rfl (lv_at hl 3 rfl) ?_
        exact tk_iret hC hr hlocks hK ⟨rfl, ⟨(show 0 ≤ v5_3.toInt from r5), (show v5_3.toInt ≤ 63 from t6)⟩⟩ hw dX12_doneBy_75
      · have c11 : v5_4.toInt < x9.toInt := wk_leF c11
        refine lv_iload_n hx hb dX12_doneBy_17 rfl (lv_at hl 3 rfl) ?_
        refine lv_aload_n hx hb dX12_doneBy_18 rfl (lv_at hl 0 rfl) ?_
        refine lv_iload_n hx hb dX12_doneBy_19 rfl (lv_at hl 1 rfl) ?_
        refine lv_iload_n hx hb dX12_doneBy_20 rfl (lv_at hl 2 rfl) ?_
        refine lv_aload_n hx hb dX12_doneBy_21 rfl (lv_at hl 0 rfl) ?_
        refine tk_getA hC hK hw hT hinX12 kM_at0 (by decide) rfl 26 (by decide) (List.mem_cons_of_mem _ uw_7_1) rfl rfl dX12_doneBy_22 ?_
        refine lv_sipush (v := 252) hx hb dX12_doneBy_25 (by decide) ?_
        refine lv_iconst (v := 2) hx hb dX12_doneBy_28 (by decide) ?_
        refine lv_iload hx hb dX12_doneBy_29 (lv_at hl 4 rfl) ?_
        refine lv_imul hx hb dX12_doneBy_31 ?_
        refine lv_topi (fun x12 ex12 => ?_)
        have ex12 : x12.toInt = (2 : Int) * v5_4.toInt := by rw [ex12]; exact wk_mul (show (-2147483648) ≤ (2 : Int) * v5_4.toInt by omega) (show (2 : Int) * v5_4.toInt ≤ 2147483647 by omega)
        refine lv_iadd hx hb dX12_doneBy_32 ?_
        refine lv_topi (fun x13 ex13 => ?_)
        have ex13 : x13.toInt = (252 : Int) + x12.toInt := by rw [ex13]; exact wk_add (show (-2147483648) ≤ (252 : Int) + x12.toInt by omega) (show (252 : Int) + x12.toInt ≤ 2147483647 by omega)
        refine tk_ialdR hC hK hw hT kM_at12 rfl (show 0 ≤ x13.toInt by omega) (show x13.toInt < 296 by omega) dX12_doneBy_33 (fun x14 c15 Ex14 => ?_)
        have c15 : gi w0 12 (2 * v5_4.toInt + 252).toNat = x14 := (congrArg (gi w0 12) (congrArg Int.toNat (show 2 * v5_4.toInt + 252 = x13.toInt by omega))).trans c15
        have bx14 := tk_rgI rfl 252 2 6 0 9 (by decide +kernel) ⟨(v5_4.toInt - 0).toNat, by omega, show x13.toInt.toNat = 252 + 2 * (v5_4.toInt - 0).toNat by omega⟩ Ex14
        refine tk_Vi hC hK hw hT hA hE hSR kM_at0 (by decide) rfl (k_X12_comesTo_1 l adK adV dC dI cy ad B (by omega) (by omega) qr s1   a1 (show 0 ≤ a1.toInt from r1) (show a1.toInt ≤ 6 from t2) a2 (show 0 ≤ a2.toInt from r3) (show a2.toInt ≤ 4095 from t4) x14 (show 0 ≤ x14.toInt by omega) (show x14.toInt ≤ 9 by omega) w0 H.size hT ) (cwV 3 hC.2.2.2.2 uV_RX12_468 rfl rfl rfl (by decide +kernel) ⟨Nat.le_of_ble_eq_true rfl, Nat.le_of_ble_eq_true rfl⟩) rfl hl.1 rfl (Nat.le_of_ble_eq_true rfl) dX12_doneBy_34 (fun r16 w18 H locs hp17 hw => ?_)
        obtain ⟨rfl, hg22⟩ := hp17
        obtain ⟨g20, g21⟩ := hg22
        refine lv_aload_n hx hb dX12_doneBy_37 rfl (lv_at hl 0 rfl) ?_
        refine tk_getA hC hK hw hT hinX12 kM_at0 (by decide) rfl 26 (by decide) (List.mem_cons_of_mem _ uw_7_1) rfl rfl dX12_doneBy_38 ?_
        refine lv_sipush (v := 252) hx hb dX12_doneBy_41 (by decide) ?_
        refine lv_iconst (v := 2) hx hb dX12_doneBy_44 (by decide) ?_
        refine lv_iload hx hb dX12_doneBy_45 (lv_at hl 4 rfl) ?_
        refine lv_imul hx hb dX12_doneBy_47 ?_
        refine lv_topi (fun x23 ex23 => ?_)
        have ex23 : x23.toInt = (2 : Int) * v5_4.toInt := by rw [ex23]; exact wk_mul (show (-2147483648) ≤ (2 : Int) * v5_4.toInt by omega) (show (2 : Int) * v5_4.toInt ≤ 2147483647 by omega)
        refine lv_iadd hx hb dX12_doneBy_48 ?_
        refine lv_topi (fun x24 ex24 => ?_)
        have ex24 : x24.toInt = (252 : Int) + x23.toInt := by rw [ex24]; exact wk_add (show (-2147483648) ≤ (252 : Int) + x23.toInt by omega) (show (252 : Int) + x23.toInt ≤ 2147483647 by omega)
        refine lv_iconst (v := 1) hx hb dX12_doneBy_49 (by decide) ?_
        refine lv_iadd hx hb dX12_doneBy_50 ?_
        refine lv_topi (fun x25 ex25 => ?_)
        have ex25 : x25.toInt = x24.toInt + (1 : Int) := by rw [ex25]; exact wk_add (show (-2147483648) ≤ x24.toInt + (1 : Int) by omega) (show x24.toInt + (1 : Int) ≤ 2147483647 by omega)
        refine tk_ialdR hC hK hw hT kM_at12 rfl (show 0 ≤ x25.toInt by omega) (show x25.toInt < 296 by omega) dX12_doneBy_51 (fun x26 c27 Ex26 => ?_)
        have c27 : gi w0 12 (2 * v5_4.toInt + 253).toNat = x26 := (congrArg (gi w0 12) (congrArg Int.toNat (show 2 * v5_4.toInt + 253 = x25.toInt by omega))).trans c27
        have bx26 := tk_rgI rfl 253 2 6 0 9 (by decide +kernel) ⟨(v5_4.toInt - 0).toNat, by omega, show x25.toInt.toNat = 253 + 2 * (v5_4.toInt - 0).toNat by omega⟩ Ex26
        refine tk_Si hC hK hw hT hA hE hSR (k_X12_isOf_7 l adK adV dC dI cy ad B (by omega) (by omega) qr s1   r16 (show 1 ≤ r16.toInt by omega) (show r16.toInt ≤ 1023 by omega) x26 (show 0 ≤ x26.toInt by omega) (show x26.toInt ≤ 9 by omega) w0 H.size hT ) (va_cwS 2 hC.2.2.2.2 uS_RX12_304 rfl rfl rfl (by decide +kernel) ⟨Nat.le_of_ble_eq_true rfl, Nat.le_of_ble_eq_true rfl⟩) rfl hl.1 rfl (Nat.le_of_ble_eq_true rfl) dX12_doneBy_52 (fun r28 w30 H locs hp29 hw => ?_)
        obtain ⟨rfl, hg34⟩ := hp29
        rcases hg34 with ⟨rfl, hq32⟩ | ⟨rfl, hq33⟩
        · refine lv_if_eq (tgt := 65) hx hb dX12_doneBy_55 (by decide) (fun _ => ?_) (fun c => absurd (by decide) c)
          refine lv_iconst (v := 0) hx hb dX12_doneBy_65 (by decide) ?_
          refine lv_ior hx hb dX12_doneBy_66 ?_
          refine lv_topi (fun x35 ex35 => ?_)
          have bx35 : 0 ≤ x35.toInt ∧ x35.toInt < 64 := by rw [ex35]; exact wk_or 6 (by decide) (by omega) (by omega) (by decide) (by decide)
          have mx35 : v5_3.toInt ≤ x35.toInt ∧ (0 : Int) ≤ x35.toInt := by rw [ex35]; exact wk_orL 6 (by decide) (by omega) (by omega) (by decide) (by decide)
          refine lv_istore_n (lv' := [(3, .int x35), (0, .ref (ad 0)), (1, .int a1), (2, .int a2), (4, .int v5_4)]) hx hb dX12_doneBy_67 rfl hl (by decide) rfl (fun ls hl => ?_)
          obtain ⟨x36, ex36⟩ : ∃ y : Int32, y = v5_4 + Int32.ofInt 1 := ⟨_, rfl⟩
          refine lv_iinc (v := x36) (lv' := [(4, .int x36), (3, .int x35), (0, .ref (ad 0)), (1, .int a1), (2, .int a2)]) hx hb dX12_doneBy_68 hl (k := 4) rfl ex36.symm (by decide) rfl (fun ls hl => ?_)
          have ex36 : x36.toInt = v5_4.toInt + 1 := by rw [ex36]; exact wk_add (y := 1) (show -2147483648 ≤ v5_4.toInt + 1 by omega) (show v5_4.toInt + 1 ≤ 2147483647 by omega)
          refine lv_goto (tgt := 5) hx hb dX12_doneBy_71 (by decide) ?_
          exact ih5 x35 x36 H locs ls  (show 0 ≤ a1.toInt from r1) (show a1.toInt ≤ 6 from t2) (show 0 ≤ a2.toInt from r3) (show a2.toInt ≤ 4095 from t4) (show 0 ≤ x35.toInt by omega) (show x35.toInt ≤ 63 by omega) (show 0 ≤ x36.toInt by omega) (show x36.toInt ≤ 6 by omega) (show (6 - x36.toInt).toNat < n5 by omega) hw   (lv_sub hl [2, 3, 4, 1, 0] rfl)
        · refine lv_if_eq (tgt := 65) hx hb dX12_doneBy_55 (by decide) (fun c => absurd c (by decide)) (fun _ => ?_)
          refine lv_iconst (v := 1) hx hb dX12_doneBy_58 (by decide) ?_
          refine lv_iload hx hb dX12_doneBy_59 (lv_at hl 4 rfl) ?_
          refine lv_ishl hx hb dX12_doneBy_61 ?_
          refine lv_topi (fun x37 ex37 => ?_)
          have bx37 : 1 ≤ x37.toInt ∧ x37.toInt ≤ 32 := by rw [ex37]; exact wk_shl1 5 (by decide) (by omega) (by omega)
          refine lv_goto (tgt := 66) hx hb dX12_doneBy_62 (by decide) ?_
          refine lv_ior hx hb dX12_doneBy_66 ?_
          refine lv_topi (fun x38 ex38 => ?_)
          have bx38 : 0 ≤ x38.toInt ∧ x38.toInt < 64 := by rw [ex38]; exact wk_or 6 (by decide) (by omega) (by omega) (by omega) (by omega)
          have mx38 : v5_3.toInt ≤ x38.toInt ∧ x37.toInt ≤ x38.toInt := by rw [ex38]; exact wk_orL 6 (by decide) (by omega) (by omega) (by omega) (by omega)
          refine lv_istore_n (lv' := [(3, .int x38), (0, .ref (ad 0)), (1, .int a1), (2, .int a2), (4, .int v5_4)]) hx hb dX12_doneBy_67 rfl hl (by decide) rfl (fun ls hl => ?_)
          obtain ⟨x39, ex39⟩ : ∃ y : Int32, y = v5_4 + Int32.ofInt 1 := ⟨_, rfl⟩
          refine lv_iinc (v := x39) (lv' := [(4, .int x39), (3, .int x38), (0, .ref (ad 0)), (1, .int a1), (2, .int a2)]) hx hb dX12_doneBy_68 hl (k := 4) rfl ex39.symm (by decide) rfl (fun ls hl => ?_)
          have ex39 : x39.toInt = v5_4.toInt + 1 := by rw [ex39]; exact wk_add (y := 1) (show -2147483648 ≤ v5_4.toInt + 1 by omega) (show v5_4.toInt + 1 ≤ 2147483647 by omega)
          refine lv_goto (tgt := 5) hx hb dX12_doneBy_71 (by decide) ?_
          exact ih5 x38 x39 H locs ls  (show 0 ≤ a1.toInt from r1) (show a1.toInt ≤ 6 from t2) (show 0 ≤ a2.toInt from r3) (show a2.toInt ≤ 4095 from t4) (show 0 ≤ x38.toInt by omega) (show x38.toInt ≤ 63 by omega) (show 0 ≤ x39.toInt by omega) (show x39.toInt ≤ 6 by omega) (show (6 - x39.toInt).toNat < n5 by omega) hw   (lv_sub hl [2, 3, 4, 1, 0] rfl)
  refine lv_iconst (v := 0) hx hb dX12_doneBy_0 (by decide) ?_
  refine lv_istore_n (lv' := [(3, .int 0), (0, .ref (ad 0)), (1, .int a1), (2, .int a2)]) hx hb dX12_doneBy_1 rfl hl (by decide) rfl (fun ls hl => ?_)
  refine lv_iconst (v := 0) hx hb dX12_doneBy_2 (by decide) ?_
  refine lv_istore (lv' := [(4, .int 0), (3, .int 0), (0, .ref (ad 0)), (1, .int a1), (2, .int a2)]) hx hb dX12_doneBy_3 hl (by decide) rfl (fun ls hl => ?_)
  exact L5 ((6 - (0 : Int)).toNat + 1) 0 0 s.heap locs ls  (show 0 ≤ a1.toInt from ra1) (show a1.toInt ≤ 6 from ta1) (show 0 ≤ a2.toInt from ra2) (show a2.toInt ≤ 4095 from ta2) (by decide) (by decide) (by decide) (by decide) (Nat.lt_succ_self _) hw   (lv_sub hl [2, 3, 4, 1, 0] rfl)
abbrev P_X12_isClash_1 (ad : Nat → Nat) (cy : Nat → ClassId) (B : Int) (qr : Nat) (s1 : Int) (a1 : Int32) (a2 : Int32) (w0 : va_W) : Int32 → va_W → Prop := fun r u => w0 = u ∧ ((r = 0) ∨ (r = 1))
set_option maxHeartbeats 4000000 in
set_option maxRecDepth 100000 in
theorem k_X12_isClash_1 (l : Launch) (adK adV : Nat → Nat) (dC : Nat → ClassId) (dI : Nat → Nat → Nat) (cy : Nat → ClassId) (ad : Nat → Nat) (B : Int) (hB0 : 100000 ≤ B) (hB1 : B ≤ 1073741824) (qr : Nat) (s1 : Int)  (a1 : Int32) (ra1 : 1 ≤ a1.toInt) (ta1 : a1.toInt ≤ 63) (a2 : Int32) (ra2 : 0 ≤ a2.toInt) (ta2 : a2.toInt ≤ 63) (w0 : va_W) (sz : Nat) (hT : TW ksM ad cy B qr 12 w0)  : Met l yX12_isClash (wu yX12_isClash cX12_isClash 4 (some .boolean)) ({ frames := 1, cells := 0, slots := 0, locals := 12 }) (va_Pc [.ref (ad 0), .int a1, .int a2] (wpreS adK adV dC dI cy sz w0)) (va_Qi (P_X12_isClash_1 ad cy B qr s1 a1 a2 w0) (fun u : va_W => wpost dC dI cy (va_A w0 sz) u) (va_A w0 sz)) 0 0 (va_A w0 sz) := by
  refine Met.ofW (cc := cX12_isClash) (maxL := 4) (ret := (some .boolean)) (by decide) rfl ?_
  intro p e s m args below meth c s₁ Bk hml hv
  obtain ⟨rfl, ⟨hsz, hP, hK, hD0⟩, hE, hSR⟩ := hv
  have hx := Bk.exec
  have hb := Bk.bytes
  have hr := Bk.returns
  have hlocks := Bk.notSynchronized
  have hC : CallFix p m c cX12_isClash 4 s _ (wu yX12_isClash cX12_isClash 4 (some .boolean)) RX12 := ⟨hx, hb, hml, findClass_of_methodNamed Bk.named, atoms_spec (ws := (wu yX12_isClash cX12_isClash 4 (some .boolean))) Bk.pre⟩
  subst hsz
  have hD := hD0.self (sz := s.heap.size)
  generalize hAe : va_A w0 s.heap.size = A at hD hE ⊢
  have hA : ∀ q : Nat, s.heap.size ≤ q → A q := fun q h => by rw [← hAe]; exact Or.inr h
  have hw : Wd dC dI A s.heap s.heap [] w0 := ⟨hP, hD, va_S.rf⟩
  have hF : FE ksM ([] : List (Nat × Nat × Nat)) w0 w0 := FE.rf
  have hl := lv_entry ([.ref (ad 0), .int a1, .int a2]) (n := 4) (Nat.le_of_ble_eq_true rfl)
  rw [lg_entry_eq]
  generalize (lg_sl ([.ref (ad 0), .int a1, .int a2]) ++ List.replicate (4 - (lg_sl ([.ref (ad 0), .int a1, .int a2])).length) Slot.unset).toArray = ls at hl ⊢
  have hl : lv_has ls 4 [(0, .ref (ad 0)), (1, .int a1), (2, .int a2)] := hl
  generalize hloc : ([] : List Loc) = locs at hw ⊢
  have hinX12 : ∀ w ∈ u_ws RX12 TX12 42, w ∈ (wu yX12_isClash cX12_isClash 4 (some .boolean)) := fun _ h => List.mem_cons_of_mem _ (up_71 h)
  have L2 : ∀ (n2 : Nat) (v2_3 : Int32) (H : Heap) (locs : List Loc) (ls : Array Slot), 1 ≤ a1.toInt → a1.toInt ≤ 63 → 0 ≤ a2.toInt → a2.toInt ≤ 63 → 0 ≤ v2_3.toInt → v2_3.toInt ≤ 64 → (64 - v2_3.toInt).toNat < n2 → Wd dC dI A s.heap H locs w0 → lv_has ls 4 [(0, .ref (ad 0)), (1, .int a1), (2, .int a2), (3, .int v2_3)] → W p l e ({ frames := 1, cells := 0, slots := 0, locals := 12 }) s m (List.toArray [.ref (ad 0), .int a1, .int a2]) below meth c H locs 0 0 (MQ below (va_Qi (P_X12_isClash_1 ad cy B qr s1 a1 a2 w0) (fun u : va_W => wpost dC dI cy A u) A) (List.toArray [.ref (ad 0), .int a1, .int a2]) s 0 0 A) (F0 m 2 ls []) := by
    intro n2
    induction n2 with
    | zero => intro v2_3 H locs ls r1 t2 r3 t4 r5 t6 hm2 hw hl; omega
    | succ n2 ih2 =>
      intro v2_3 H locs ls r1 t2 r3 t4 r5 t6 hm2 hw hl
      have J25 : ∀ (H : Heap) (locs : List Loc) (ls : Array Slot), 1 ≤ a1.toInt → a1.toInt ≤ 63 → 0 ≤ a2.toInt → a2.toInt ≤ 63 → 0 ≤ v2_3.toInt → v2_3.toInt ≤ 63 → Wd dC dI A s.heap H locs w0 → lv_has ls 4 [(0, .ref (ad 0)), (1, .int a1), (2, .int a2), (3, .int v2_3)] → W p l e ({ frames := 1, cells := 0, slots := 0, locals := 12 }) s m (List.toArray [.ref (ad 0), .int a1, .int a2]) below meth c H locs 0 0 (MQ below (va_Qi (P_X12_isClash_1 ad cy B qr s1 a1 a2 w0) (fun u : va_W => wpost dC dI cy A u) A) (List.toArray [.ref (ad 0), .int a1, .int a2]) s 0 0 A) (F0 m 25 ls []) := by
        intro H locs ls r7 t8 r9 t10 r11 t12 hw hl
        obtain ⟨x13, ex13⟩ : ∃ y : Int32, y = v2_3 + Int32.ofInt 1 := ⟨_, rfl⟩
        refine lv_iinc (v := x13) (lv' := [(3, .int x13), (0, .ref (ad 0)), (1, .int a1), (2, .int a2)]) hx hb dX12_isClash_25 hl (k := 3) rfl ex13.symm (by decide) rfl (fun ls hl => ?_)
        have ex13 : x13.toInt = v2_3.toInt + 1 := by rw [ex13]; exact wk_add (y := 1) (show -2147483648 ≤ v2_3.toInt + 1 by omega) (show v2_3.toInt + 1 ≤ 2147483647 by omega)
        refine lv_goto (tgt := 2) hx hb dX12_isClash_28 (by decide) ?_
        exact ih2 x13 H locs ls  (show 1 ≤ a1.toInt from r7) (show a1.toInt ≤ 63 from t8) (show 0 ≤ a2.toInt from r9) (show a2.toInt ≤ 63 from t10) (show 0 ≤ x13.toInt by omega) (show x13.toInt ≤ 64 by omega) (show (64 - x13.toInt).toNat < n2 by omega) hw   (lv_sub hl [1, 2, 3, 0] rfl)
      refine lv_iload_n hx hb dX12_isClash_2 rfl (lv_at hl 3 rfl) ?_
      refine lv_iload_n hx hb dX12_isClash_3 rfl (lv_at hl 2 rfl) ?_
      refine lv_icmp_gt (tgt := 31) hx hb dX12_isClash_4 (by decide) (fun c14 => ?_) (fun c14 => ?_)
      · have c14 : a2.toInt < v2_3.toInt := wk_lt.mp c14
        refine lv_iconst (v := 1) hx hb dX12_isClash_31 (by decide) ?_
        exact tk_zret hC hr rfl hlocks hK ⟨rfl, (Or.inr rfl)⟩ hw dX12_isClash_32
      · have c14 : v2_3.toInt ≤ a2.toInt := wk_ltF c14
        refine lv_aload_n hx hb dX12_isClash_7 rfl (lv_at hl 0 rfl) ?_
        refine tk_getA hC hK hw hT hinX12 kM_at0 (by decide) rfl 38 (by decide) (List.mem_cons_of_mem _ uw_7_10) rfl rfl dX12_isClash_8 ?_
        refine lv_iload_n hx hb dX12_isClash_11 rfl (lv_at hl 3 rfl) ?_
        refine tk_zald hC hK hw hT kM_at20 rfl rfl (show 0 ≤ v2_3.toInt from r5) (show v2_3.toInt < 64 by omega) dX12_isClash_12 (fun x15 c16 rx15 tx15 => ?_)
        refine lv_if_eq (tgt := 25) hx hb dX12_isClash_13 (by decide) (fun c17 => ?_) (fun c17 => ?_)
        · have c17 : x15.toInt = (0 : Int) := wk_eq.mp c17
          exact J25  H locs ls  (show 1 ≤ a1.toInt from r1) (show a1.toInt ≤ 63 from t2) (show 0 ≤ a2.toInt from r3) (show a2.toInt ≤ 63 from t4) (show 0 ≤ v2_3.toInt from r5) (show v2_3.toInt ≤ 63 by omega)  hw   (lv_sub hl [0, 1, 2, 3] rfl)
        · have c17 : ¬ x15.toInt = (0 : Int) := wk_eqF c17
          refine lv_iload_n hx hb dX12_isClash_16 rfl (lv_at hl 3 rfl) ?_
          refine lv_iload_n hx hb dX12_isClash_17 rfl (lv_at hl 1 rfl) ?_
          refine lv_iand hx hb dX12_isClash_18 ?_
          refine lv_topi (fun x18 ex18 => ?_)
          have bx18 : 0 ≤ x18.toInt ∧ x18.toInt ≤ a1.toInt := by rw [ex18]; exact wk_and (by omega)
          refine lv_iload_n hx hb dX12_isClash_19 rfl (lv_at hl 1 rfl) ?_
          refine lv_icmp_ne (tgt := 25) hx hb dX12_isClash_20 (by decide) (fun c19 => ?_) (fun c19 => ?_)
          · have c19 : ¬ x18.toInt = a1.toInt := wk_eqF c19
            exact J25  H locs ls  (show 1 ≤ a1.toInt from r1) (show a1.toInt ≤ 63 from t2) (show 0 ≤ a2.toInt from r3) (show a2.toInt ≤ 63 from t4) (show 0 ≤ v2_3.toInt from r5) (show v2_3.toInt ≤ 63 by omega)  hw   (lv_sub hl [0, 1, 2, 3] rfl)
          · have c19 : x18.toInt = a1.toInt := wk_eq.mp c19
            refine lv_iconst (v := 0) hx hb dX12_isClash_23 (by decide) ?_
            exact tk_zret hC hr rfl hlocks hK ⟨rfl, (Or.inl rfl)⟩ hw dX12_isClash_24
  refine lv_iconst (v := 0) hx hb dX12_isClash_0 (by decide) ?_
  refine lv_istore_n (lv' := [(3, .int 0), (0, .ref (ad 0)), (1, .int a1), (2, .int a2)]) hx hb dX12_isClash_1 rfl hl (by decide) rfl (fun ls hl => ?_)
  exact L2 ((64 - (0 : Int)).toNat + 1) 0 s.heap locs ls  (show 1 ≤ a1.toInt from ra1) (show a1.toInt ≤ 63 from ta1) (show 0 ≤ a2.toInt from ra2) (show a2.toInt ≤ 63 from ta2) (by decide) (by decide) (Nat.lt_succ_self _) hw   (lv_sub hl [1, 2, 3, 0] rfl)
abbrev P_X12_ways_1 (ad : Nat → Nat) (cy : Nat → ClassId) (B : Int) (qr : Nat) (s1 : Int) (a1 : Int32) (a2 : Int32) (w0 : va_W) : Int32 → va_W → Prop := fun r u => TW ksM ad cy B qr 12 u ∧ FE ksM [(79, 0, 64)] w0 u ∧ ((r = (-2) ∧ 0 ≤ a1.toInt ∧ a1.toInt ≤ 6 ∧ 0 ≤ a2.toInt ∧ a2.toInt ≤ 0 ∧ (∃ y : Int32, gi u 12 0 = y ∧ 1 ≤ y.toInt ∧ y.toInt ≤ 10)) ∨ (0 ≤ r.toInt ∧ r.toInt ≤ 4095 ∧ 0 ≤ a1.toInt ∧ a1.toInt ≤ 6 ∧ (∃ y : Int32, gi u 12 0 = y ∧ 1 ≤ y.toInt ∧ y.toInt ≤ 10)) ∨ (r = (-1)))
set_option maxHeartbeats 4000000 in
set_option maxRecDepth 100000 in
theorem k_X12_ways_1 (l : Launch) (adK adV : Nat → Nat) (dC : Nat → ClassId) (dI : Nat → Nat → Nat) (cy : Nat → ClassId) (ad : Nat → Nat) (B : Int) (hB0 : 100000 ≤ B) (hB1 : B ≤ 1073741824) (qr : Nat) (s1 : Int)  (a1 : Int32) (a2 : Int32) (w0 : va_W) (sz : Nat) (hT : TW ksM ad cy B qr 12 w0)  : Met l yX12_ways (wu yX12_ways cX12_ways 7 (some .int)) ({ frames := 4, cells := 0, slots := 0, locals := 86 }) (va_Pc [.ref (ad 0), .int a1, .int a2] (wpreS adK adV dC dI cy sz w0)) (va_Qi (P_X12_ways_1 ad cy B qr s1 a1 a2 w0) (fun u : va_W => wpost dC dI cy (va_A w0 sz) u) (va_A w0 sz)) 0 0 (va_A w0 sz) := by
  refine Met.ofW (cc := cX12_ways) (maxL := 7) (ret := (some .int)) (by decide) rfl ?_
  intro p e s m args below meth c s₁ Bk hml hv
  obtain ⟨rfl, ⟨hsz, hP, hK, hD0⟩, hE, hSR⟩ := hv
  have hx := Bk.exec
  have hb := Bk.bytes
  have hr := Bk.returns
  have hlocks := Bk.notSynchronized
  have hC : CallFix p m c cX12_ways 7 s _ (wu yX12_ways cX12_ways 7 (some .int)) RX12 := ⟨hx, hb, hml, findClass_of_methodNamed Bk.named, atoms_spec (ws := (wu yX12_ways cX12_ways 7 (some .int))) Bk.pre⟩
  subst hsz
  have hD := hD0.self (sz := s.heap.size)
  generalize hAe : va_A w0 s.heap.size = A at hD hE ⊢
  have hA : ∀ q : Nat, s.heap.size ≤ q → A q := fun q h => by rw [← hAe]; exact Or.inr h
  have hw : Wd dC dI A s.heap s.heap [] w0 := ⟨hP, hD, va_S.rf⟩
  have hF : FE ksM [(79, 0, 64)] w0 w0 := FE.rf
  have hl := lv_entry ([.ref (ad 0), .int a1, .int a2]) (n := 7) (Nat.le_of_ble_eq_true rfl)
  rw [lg_entry_eq]
  generalize (lg_sl ([.ref (ad 0), .int a1, .int a2]) ++ List.replicate (7 - (lg_sl ([.ref (ad 0), .int a1, .int a2])).length) Slot.unset).toArray = ls at hl ⊢
  have hl : lv_has ls 7 [(0, .ref (ad 0)), (1, .int a1), (2, .int a2)] := hl
  generalize hloc : ([] : List Loc) = locs at hw ⊢
  have hinX12 : ∀ w ∈ u_ws RX12 TX12 42, w ∈ (wu yX12_ways cX12_ways 7 (some .int)) := fun _ h => List.mem_cons_of_mem _ (up_71 h)
  have J29 : ∀ (f29_12_0 : Int32) (H : Heap) (locs : List Loc) (ls : Array Slot) (w1 : va_W), 0 ≤ f29_12_0.toInt → f29_12_0.toInt ≤ 10 → Wd dC dI A s.heap H locs w1 → TW ksM ad cy B qr 12 w1 → FE ksM [(79, 0, 64)] w0 w1 → gi w1 12 0 = f29_12_0 → lv_has ls 7 [(0, .ref (ad 0)), (1, .int a1), (2, .int a2)] → W p l e ({ frames := 4, cells := 0, slots := 0, locals := 86 }) s m (List.toArray [.ref (ad 0), .int a1, .int a2]) below meth c H locs 0 0 (MQ below (va_Qi (P_X12_ways_1 ad cy B qr s1 a1 a2 w0) (fun u : va_W => wpost dC dI cy A u) A) (List.toArray [.ref (ad 0), .int a1, .int a2]) s 0 0 A) (F0 m 29 ls []) := by
    intro f29_12_0 H locs ls w1 r2 t3 hw hT hF c4 hl
    refine lv_iconst (v := (-1)) hx hb dX12_ways_29 (by decide) ?_
    exact tk_iret hC hr hlocks hK ⟨hT, hF, (Or.inr (Or.inr rfl))⟩ hw dX12_ways_30
  have L177 : ∀ (n177 : Nat) (v177_3 : Int32) (v177_4 : Int32) (v177_5 : Int32) (v177_6 : Int32) (f177_12_0 : Int32) (f177_12_1 : Int32) (f177_12_6 : Int32) (H : Heap) (locs : List Loc) (ls : Array Slot) (w5 : va_W), 0 ≤ a1.toInt → a1.toInt ≤ 6 → 0 ≤ v177_3.toInt → v177_3.toInt ≤ 12 → 0 ≤ v177_4.toInt → v177_4.toInt ≤ 63 → 0 ≤ v177_5.toInt → v177_5.toInt ≤ 63 → 0 ≤ v177_6.toInt → v177_6.toInt ≤ 63 → 1 ≤ f177_12_0.toInt → f177_12_0.toInt ≤ 10 → 0 ≤ f177_12_1.toInt → f177_12_1.toInt ≤ 12 → 0 ≤ f177_12_6.toInt → f177_12_6.toInt ≤ 6 → (v177_6.toInt - 0).toNat < n177 → Wd dC dI A s.heap H locs w5 → TW ksM ad cy B qr 12 w5 → FE ksM [(79, 0, 64)] w0 w5 → gi w5 12 0 = f177_12_0 → gi w5 12 1 = f177_12_1 → gi w5 12 6 = f177_12_6 → lv_has ls 7 [(0, .ref (ad 0)), (1, .int a1), (2, .int 1), (3, .int v177_3), (4, .int v177_4), (5, .int v177_5), (6, .int v177_6)] → W p l e ({ frames := 4, cells := 0, slots := 0, locals := 86 }) s m (List.toArray [.ref (ad 0), .int a1, .int a2]) below meth c H locs 0 0 (MQ below (va_Qi (P_X12_ways_1 ad cy B qr s1 a1 a2 w0) (fun u : va_W => wpost dC dI cy A u) A) (List.toArray [.ref (ad 0), .int a1, .int a2]) s 0 0 A) (F0 m 177 ls []) := by
    intro n177
    induction n177 with
    | zero => intro v177_3 v177_4 v177_5 v177_6 f177_12_0 f177_12_1 f177_12_6 H locs ls w5 r6 t7 r8 t9 r10 t11 r12 t13 r14 t15 r16 t17 r19 t20 r22 t23 hm177 hw hT hF c18 c21 c24 hl; omega
    | succ n177 ih177 =>
      intro v177_3 v177_4 v177_5 v177_6 f177_12_0 f177_12_1 f177_12_6 H locs ls w5 r6 t7 r8 t9 r10 t11 r12 t13 r14 t15 r16 t17 r19 t20 r22 t23 hm177 hw hT hF c18 c21 c24 hl
      have J210 : ∀ (v210_5 : Int32) (H : Heap) (locs : List Loc) (ls : Array Slot) (w25 : va_W), 0 ≤ a1.toInt → a1.toInt ≤ 6 → 0 ≤ v177_3.toInt → v177_3.toInt ≤ 12 → 0 ≤ v177_4.toInt → v177_4.toInt ≤ 63 → 0 ≤ v210_5.toInt → v210_5.toInt ≤ 63 → 1 ≤ v177_6.toInt → v177_6.toInt ≤ 63 → 1 ≤ f177_12_0.toInt → f177_12_0.toInt ≤ 10 → 0 ≤ f177_12_1.toInt → f177_12_1.toInt ≤ 12 → 0 ≤ f177_12_6.toInt → f177_12_6.toInt ≤ 6 → Wd dC dI A s.heap H locs w25 → TW ksM ad cy B qr 12 w25 → FE ksM [(79, 0, 64)] w0 w25 → gi w25 12 0 = f177_12_0 → gi w25 12 1 = f177_12_1 → gi w25 12 6 = f177_12_6 → lv_has ls 7 [(0, .ref (ad 0)), (1, .int a1), (2, .int 1), (3, .int v177_3), (4, .int v177_4), (5, .int v210_5), (6, .int v177_6)] → W p l e ({ frames := 4, cells := 0, slots := 0, locals := 86 }) s m (List.toArray [.ref (ad 0), .int a1, .int a2]) below meth c H locs 0 0 (MQ below (va_Qi (P_X12_ways_1 ad cy B qr s1 a1 a2 w0) (fun u : va_W => wpost dC dI cy A u) A) (List.toArray [.ref (ad 0), .int a1, .int a2]) s 0 0 A) (F0 m 210 ls []) := by
        intro v210_5 H locs ls w25 r26 t27 r28 t29 r30 t31 r32 t33 r34 t35 r36 t37 r39 t40 r42 t43 hw hT hF c38 c41 c44 hl
        obtain ⟨x45, ex45⟩ : ∃ y : Int32, y = v177_6 + Int32.ofInt (-1) := ⟨_, rfl⟩
        refine lv_iinc (v := x45) (lv' := [(6, .int x45), (0, .ref (ad 0)), (1, .int a1), (2, .int 1), (3, .int v177_3), (4, .int v177_4), (5, .int v210_5)]) hx hb dX12_ways_210 hl (k := 6) rfl ex45.symm (by decide) rfl (fun ls hl => ?_)
        have ex45 : x45.toInt = v177_6.toInt + (-1) := by rw [ex45]; exact wk_add (y := (-1)) (show -2147483648 ≤ v177_6.toInt + (-1) by omega) (show v177_6.toInt + (-1) ≤ 2147483647 by omega)
        refine lv_goto (tgt := 177) hx hb dX12_ways_213 (by decide) ?_
        exact ih177 v177_3 v177_4 v210_5 x45 f177_12_0 f177_12_1 f177_12_6 H locs ls w25 (show 0 ≤ a1.toInt from r26) (show a1.toInt ≤ 6 from t27) (show 0 ≤ v177_3.toInt from r28) (show v177_3.toInt ≤ 12 from t29) (show 0 ≤ v177_4.toInt from r30) (show v177_4.toInt ≤ 63 from t31) (show 0 ≤ v210_5.toInt from r32) (show v210_5.toInt ≤ 63 from t33) (show 0 ≤ x45.toInt by omega) (show x45.toInt ≤ 63 by omega) (show 1 ≤ f177_12_0.toInt from r36) (show f177_12_0.toInt ≤ 10 from t37) (show 0 ≤ f177_12_1.toInt from r39) (show f177_12_1.toInt ≤ 12 from t40) (show 0 ≤ f177_12_6.toInt from r42) (show f177_12_6.toInt ≤ 6 from t43) (show (x45.toInt - 0).toNat < n177 by omega) hw hT hF c38 c41 c44 (lv_sub hl [1, 2, 3, 4, 5, 6, 0] rfl)
      refine lv_iload hx hb dX12_ways_177 (lv_at hl 6 rfl) ?_
      refine lv_if_le (tgt := 216) hx hb dX12_ways_179 (by decide) (fun c46 => ?_) (fun c46 => ?_)
      · have c46 : v177_6.toInt ≤ (0 : Int) := wk_le.mp c46
        refine lv_iload hx hb dX12_ways_216 (lv_at hl 5 rfl) ?_
        exact tk_iret hC hr hlocks hK ⟨hT, hF, (Or.inr (Or.inl ⟨(show 0 ≤ v177_5.toInt from r12), (show v177_5.toInt ≤ 4095 from Int.le_trans t13 (by decide)), (show 0 ≤ a1.toInt from r6), (show a1.toInt ≤ 6 from t7), ⟨f177_12_0, c18, (show 1 ≤ f177_12_0.toInt from r16), (show f177_12_0.toInt ≤ 10 from t17)⟩⟩))⟩ hw dX12_ways_218
      · have c46 : (0 : Int) < v177_6.toInt := wk_leF c46
        refine lv_aload_n hx hb dX12_ways_182 rfl (lv_at hl 0 rfl) ?_
        refine lv_iload hx hb dX12_ways_183 (lv_at hl 6 rfl) ?_
        refine lv_iload hx hb dX12_ways_185 (lv_at hl 4 rfl) ?_
        refine tk_Vi hC hK hw hT hA hE hSR kM_at0 (by decide) rfl (k_X12_isClash_1 l adK adV dC dI cy ad B (by omega) (by omega) qr s1   v177_6 (show 1 ≤ v177_6.toInt by omega) (show v177_6.toInt ≤ 63 from t15) v177_4 (show 0 ≤ v177_4.toInt from r10) (show v177_4.toInt ≤ 63 from t11) w5 H.size hT ) (cwV 2 hC.2.2.2.2 uV_RX12_475 rfl rfl rfl (by decide +kernel) ⟨Nat.le_of_ble_eq_true rfl, Nat.le_of_ble_eq_true rfl⟩) rfl hl.1 rfl (Nat.le_of_ble_eq_true rfl) dX12_ways_187 (fun r47 w49 H locs hp48 hw => ?_)
        obtain ⟨rfl, hg51⟩ := hp48
        rcases hg51 with rfl | rfl
        · refine lv_if_eq (tgt := 210) hx hb dX12_ways_190 (by decide) (fun _ => ?_) (fun c => absurd (by decide) c)
          exact J210 v177_5 H locs ls w5 (show 0 ≤ a1.toInt from r6) (show a1.toInt ≤ 6 from t7) (show 0 ≤ v177_3.toInt from r8) (show v177_3.toInt ≤ 12 from t9) (show 0 ≤ v177_4.toInt from r10) (show v177_4.toInt ≤ 63 from t11) (show 0 ≤ v177_5.toInt from r12) (show v177_5.toInt ≤ 63 from t13) (show 1 ≤ v177_6.toInt by omega) (show v177_6.toInt ≤ 63 from t15) (show 1 ≤ f177_12_0.toInt from r16) (show f177_12_0.toInt ≤ 10 from t17) (show 0 ≤ f177_12_1.toInt from r19) (show f177_12_1.toInt ≤ 12 from t20) (show 0 ≤ f177_12_6.toInt from r22) (show f177_12_6.toInt ≤ 6 from t23)  hw hT hF c18 c21 c24 (lv_sub hl [0, 1, 2, 3, 4, 5, 6] rfl)
        · refine lv_if_eq (tgt := 210) hx hb dX12_ways_190 (by decide) (fun c => absurd c (by decide)) (fun _ => ?_)
          refine lv_iload hx hb dX12_ways_193 (lv_at hl 6 rfl) ?_
          refine tk_Si hC hK hw hT hA hE hSR (k_X12_bits_2 l adK adV dC dI cy ad B (by omega) (by omega) qr s1   v177_6 (show 1 ≤ v177_6.toInt by omega) (show v177_6.toInt ≤ 63 from t15) w5 H.size hT ) (va_cwS 1 hC.2.2.2.2 uS_RX12_478 rfl rfl rfl (by decide +kernel) ⟨Nat.le_of_ble_eq_true rfl, Nat.le_of_ble_eq_true rfl⟩) rfl hl.1 rfl (Nat.le_of_ble_eq_true rfl) dX12_ways_195 (fun r52 w54 H locs hp53 hw => ?_)
          obtain ⟨rfl, hg56⟩ := hp53
          clear hg56
          refine lv_iload hx hb dX12_ways_198 (lv_at hl 5 rfl) ?_
          refine tk_Si hC hK hw hT hA hE hSR (k_X12_bits_1 l adK adV dC dI cy ad B (by omega) (by omega) qr s1   v177_5 (show 0 ≤ v177_5.toInt from r12) (show v177_5.toInt ≤ 63 from t13) w5 H.size hT ) (va_cwS 1 hC.2.2.2.2 uS_RX12_478 rfl rfl rfl (by decide +kernel) ⟨Nat.le_of_ble_eq_true rfl, Nat.le_of_ble_eq_true rfl⟩) rfl hl.1 rfl (Nat.le_of_ble_eq_true rfl) dX12_ways_200 (fun r57 w59 H locs hp58 hw => ?_)
          obtain ⟨rfl, hg61⟩ := hp58
          clear hg61
          refine lv_icmp_gt (tgt := 210) hx hb dX12_ways_203 (by decide) (fun c62 => ?_) (fun c62 => ?_)
          · have c62 : r57.toInt < r52.toInt := wk_lt.mp c62
            exact J210 v177_5 H locs ls w5 (show 0 ≤ a1.toInt from r6) (show a1.toInt ≤ 6 from t7) (show 0 ≤ v177_3.toInt from r8) (show v177_3.toInt ≤ 12 from t9) (show 0 ≤ v177_4.toInt from r10) (show v177_4.toInt ≤ 63 from t11) (show 0 ≤ v177_5.toInt from r12) (show v177_5.toInt ≤ 63 from t13) (show 1 ≤ v177_6.toInt by omega) (show v177_6.toInt ≤ 63 from t15) (show 1 ≤ f177_12_0.toInt from r16) (show f177_12_0.toInt ≤ 10 from t17) (show 0 ≤ f177_12_1.toInt from r19) (show f177_12_1.toInt ≤ 12 from t20) (show 0 ≤ f177_12_6.toInt from r22) (show f177_12_6.toInt ≤ 6 from t23)  hw hT hF c18 c21 c24 (lv_sub hl [0, 1, 2, 3, 4, 5, 6] rfl)
          · have c62 : r52.toInt ≤ r57.toInt := wk_ltF c62
            refine lv_iload hx hb dX12_ways_206 (lv_at hl 6 rfl) ?_
            refine lv_istore (lv' := [(5, .int v177_6), (0, .ref (ad 0)), (1, .int a1), (2, .int 1), (3, .int v177_3), (4, .int v177_4), (6, .int v177_6)]) hx hb dX12_ways_208 hl (by decide) rfl (fun ls hl => ?_)
            exact J210 v177_6 H locs ls w5 (show 0 ≤ a1.toInt from r6) (show a1.toInt ≤ 6 from t7) (show 0 ≤ v177_3.toInt from r8) (show v177_3.toInt ≤ 12 from t9) (show 0 ≤ v177_4.toInt from r10) (show v177_4.toInt ≤ 63 from t11) (show 0 ≤ v177_6.toInt from r14) (show v177_6.toInt ≤ 63 from t15) (show 1 ≤ v177_6.toInt by omega) (show v177_6.toInt ≤ 63 from t15) (show 1 ≤ f177_12_0.toInt from r16) (show f177_12_0.toInt ≤ 10 from t17) (show 0 ≤ f177_12_1.toInt from r19) (show f177_12_1.toInt ≤ 12 from t20) (show 0 ≤ f177_12_6.toInt from r22) (show f177_12_6.toInt ≤ 6 from t23)  hw hT hF c18 c21 c24 (lv_sub hl [1, 2, 3, 4, 5, 0, 6] rfl)
  have L113 : ∀ (n113 : Nat) (v113_3 : Int32) (v113_4 : Int32) (v113_5 : Int32) (f113_12_0 : Int32) (f113_12_1 : Int32) (f113_12_6 : Int32) (H : Heap) (locs : List Loc) (ls : Array Slot) (w63 : va_W), 0 ≤ a1.toInt → a1.toInt ≤ 6 → 0 ≤ a2.toInt → a2.toInt ≤ 1 → 0 ≤ v113_3.toInt → v113_3.toInt ≤ 12 → 0 ≤ v113_4.toInt → v113_4.toInt ≤ 63 → 0 ≤ v113_5.toInt → v113_5.toInt ≤ 4096 → 1 ≤ f113_12_0.toInt → f113_12_0.toInt ≤ 10 → 0 ≤ f113_12_1.toInt → f113_12_1.toInt ≤ 12 → 0 ≤ f113_12_6.toInt → f113_12_6.toInt ≤ 6 → (4096 - v113_5.toInt).toNat < n113 → Wd dC dI A s.heap H locs w63 → TW ksM ad cy B qr 12 w63 → FE ksM [(79, 0, 64)] w0 w63 → gi w63 12 0 = f113_12_0 → gi w63 12 1 = f113_12_1 → gi w63 12 6 = f113_12_6 → lv_has ls 7 [(0, .ref (ad 0)), (1, .int a1), (2, .int a2), (3, .int v113_3), (4, .int v113_4), (5, .int v113_5)] → W p l e ({ frames := 4, cells := 0, slots := 0, locals := 86 }) s m (List.toArray [.ref (ad 0), .int a1, .int a2]) below meth c H locs 0 0 (MQ below (va_Qi (P_X12_ways_1 ad cy B qr s1 a1 a2 w0) (fun u : va_W => wpost dC dI cy A u) A) (List.toArray [.ref (ad 0), .int a1, .int a2]) s 0 0 A) (F0 m 113 ls []) := by
    intro n113
    induction n113 with
    | zero => intro v113_3 v113_4 v113_5 f113_12_0 f113_12_1 f113_12_6 H locs ls w63 r64 t65 r66 t67 r68 t69 r70 t71 r72 t73 r74 t75 r77 t78 r80 t81 hm113 hw hT hF c76 c79 c82 hl; omega
    | succ n113 ih113 =>
      intro v113_3 v113_4 v113_5 f113_12_0 f113_12_1 f113_12_6 H locs ls w63 r64 t65 r66 t67 r68 t69 r70 t71 r72 t73 r74 t75 r77 t78 r80 t81 hm113 hw hT hF c76 c79 c82 hl
      refine lv_iload hx hb dX12_ways_113 (lv_at hl 5 rfl) ?_
      refine lv_iconst (v := 1) hx hb dX12_ways_115 (by decide) ?_
      refine lv_iload_n hx hb dX12_ways_116 rfl (lv_at hl 3 rfl) ?_
      refine lv_ishl hx hb dX12_ways_117 ?_
      refine lv_topi (fun x83 ex83 => ?_)
      have bx83 : 1 ≤ x83.toInt ∧ x83.toInt ≤ 4096 := by rw [ex83]; exact wk_shl1 12 (by decide) (by omega) (by omega)
      refine lv_icmp_ge (tgt := 162) hx hb dX12_ways_118 (by decide) (fun c84 => ?_) (fun c84 => ?_)
      · have c84 : x83.toInt ≤ v113_5.toInt := wk_le.mp c84
        refine lv_iload_n hx hb dX12_ways_162 rfl (lv_at hl 2 rfl) ?_
        refine lv_if_ne (tgt := 169) hx hb dX12_ways_163 (by decide) (fun c85 => ?_) (fun c85 => ?_)
        · have c85 : ¬ a2.toInt = (0 : Int) := wk_eqF c85
          refine lv_iload hx hb dX12_ways_169 (lv_at hl 4 rfl) ?_
          refine lv_istore (lv' := [(5, .int v113_4), (0, .ref (ad 0)), (1, .int a1), (2, .int a2), (3, .int v113_3), (4, .int v113_4)]) hx hb dX12_ways_171 hl (by decide) rfl (fun ls hl => ?_)
          refine lv_iload hx hb dX12_ways_173 (lv_at hl 5 rfl) ?_
          refine lv_istore (lv' := [(6, .int v113_4), (5, .int v113_4), (0, .ref (ad 0)), (1, .int a1), (2, .int a2), (3, .int v113_3), (4, .int v113_4)]) hx hb dX12_ways_175 hl (by decide) rfl (fun ls hl => ?_)
          obtain rfl : a2 = 1 := wk_eq.mpr (show a2.toInt = 1 by omega)
          exact L177 ((v113_4.toInt - 0).toNat + 1) v113_3 v113_4 v113_4 v113_4 f113_12_0 f113_12_1 f113_12_6 H locs ls w63 (show 0 ≤ a1.toInt from r64) (show a1.toInt ≤ 6 from t65) (show 0 ≤ v113_3.toInt from r68) (show v113_3.toInt ≤ 12 from t69) (show 0 ≤ v113_4.toInt from r70) (show v113_4.toInt ≤ 63 from t71) (show 0 ≤ v113_4.toInt from r70) (show v113_4.toInt ≤ 63 from t71) (show 0 ≤ v113_4.toInt from r70) (show v113_4.toInt ≤ 63 from t71) (show 1 ≤ f113_12_0.toInt from r74) (show f113_12_0.toInt ≤ 10 from t75) (show 0 ≤ f113_12_1.toInt from r77) (show f113_12_1.toInt ≤ 12 from t78) (show 0 ≤ f113_12_6.toInt from r80) (show f113_12_6.toInt ≤ 6 from t81) (Nat.lt_succ_self _) hw hT hF c76 c79 c82 (lv_sub hl [2, 3, 4, 5, 6, 1, 0] rfl)
        · have c85 : a2.toInt = (0 : Int) := wk_eq.mp c85
          refine lv_bipush (v := (-2)) hx hb dX12_ways_166 (by decide) ?_
          exact tk_iret hC hr hlocks hK ⟨hT, hF, (Or.inl ⟨rfl, (show 0 ≤ a1.toInt from r64), (show a1.toInt ≤ 6 from t65), (show 0 ≤ a2.toInt from r66), (show a2.toInt ≤ 0 by omega), ⟨f113_12_0, c76, (show 1 ≤ f113_12_0.toInt from r74), (show f113_12_0.toInt ≤ 10 from t75)⟩⟩)⟩ hw dX12_ways_168
      · have c84 : v113_5.toInt < x83.toInt := wk_leF c84
        refine lv_aload_n hx hb dX12_ways_121 rfl (lv_at hl 0 rfl) ?_
        refine lv_iload_n hx hb dX12_ways_122 rfl (lv_at hl 1 rfl) ?_
        refine lv_iload hx hb dX12_ways_123 (lv_at hl 5 rfl) ?_
        refine tk_Vi hC hK hw hT hA hE hSR kM_at0 (by decide) rfl (k_X12_doneBy_1 l adK adV dC dI cy ad B (by omega) (by omega) qr s1   a1 (show 0 ≤ a1.toInt from r64) (show a1.toInt ≤ 6 from t65) v113_5 (show 0 ≤ v113_5.toInt from r72) (show v113_5.toInt ≤ 4095 by omega) w63 H.size hT ) (cwV 2 hC.2.2.2.2 uV_RX12_472 rfl rfl rfl (by decide +kernel) ⟨Nat.le_of_ble_eq_true rfl, Nat.le_of_ble_eq_true rfl⟩) rfl hl.1 rfl (Nat.le_of_ble_eq_true rfl) dX12_ways_125 (fun r86 w88 H locs hp87 hw => ?_)
        obtain ⟨rfl, hg92⟩ := hp87
        obtain ⟨g90, g91⟩ := hg92
        refine lv_istore (lv' := [(6, .int r86), (0, .ref (ad 0)), (1, .int a1), (2, .int a2), (3, .int v113_3), (4, .int v113_4), (5, .int v113_5)]) hx hb dX12_ways_128 hl (by decide) rfl (fun ls hl => ?_)
        refine lv_iload hx hb dX12_ways_130 (lv_at hl 0 rfl) ?_
        refine lv_iload hx hb dX12_ways_132 (lv_at hl 5 rfl) ?_
        refine lv_icmp_ne (tgt := 148) hx hb dX12_ways_134 (by decide) (fun c93 => ?_) (fun c93 => ?_)
        · have c93 : ¬ r86.toInt = v113_4.toInt := wk_eqF c93
          refine lv_aload_n hx hb dX12_ways_148 rfl (lv_at hl 1 rfl) ?_
          refine tk_getA hC hK hw hT hinX12 kM_at0 (by decide) rfl 38 (by decide) (List.mem_cons_of_mem _ uw_7_10) rfl rfl dX12_ways_149 ?_
          refine lv_iload hx hb dX12_ways_152 (lv_at hl 0 rfl) ?_
          refine lv_iconst (v := 1) hx hb dX12_ways_154 (by decide) ?_
          refine tk_zast hC hK hw hT kM_at20 (by decide) rfl rfl (show 0 ≤ r86.toInt by omega) (show r86.toInt < 64 by omega) (by decide) (by decide) dX12_ways_155 (fun H locs w94 hw hT k96 c95 => ?_)
          have hF := hF.put kM_at20 (inE_of (a := 0) (b := 64) (by decide) (show 0 ≤ r86.toInt.toNat by omega) (show r86.toInt.toNat ≤ 64 by omega)) k96
          have c97 := k96.gi (Or.inl (tk_ne kM_at12 kM_at20 (by decide))) c76
          have c98 := k96.gi (Or.inl (tk_ne kM_at12 kM_at20 (by decide))) c79
          have c99 := k96.gi (Or.inl (tk_ne kM_at12 kM_at20 (by decide))) c82
          obtain ⟨x100, ex100⟩ : ∃ y : Int32, y = v113_5 + Int32.ofInt 1 := ⟨_, rfl⟩
          refine lv_iinc (v := x100) (lv' := [(5, .int x100), (6, .int r86), (0, .ref (ad 0)), (1, .int a1), (2, .int a2), (3, .int v113_3), (4, .int v113_4)]) hx hb dX12_ways_156 hl (k := 6) rfl ex100.symm (by decide) rfl (fun ls hl => ?_)
          have ex100 : x100.toInt = v113_5.toInt + 1 := by rw [ex100]; exact wk_add (y := 1) (show -2147483648 ≤ v113_5.toInt + 1 by omega) (show v113_5.toInt + 1 ≤ 2147483647 by omega)
          refine lv_goto (tgt := 113) hx hb dX12_ways_159 (by decide) ?_
          exact ih113 v113_3 v113_4 x100 f113_12_0 f113_12_1 f113_12_6 H locs ls w94 (show 0 ≤ a1.toInt from r64) (show a1.toInt ≤ 6 from t65) (show 0 ≤ a2.toInt from r66) (show a2.toInt ≤ 1 from t67) (show 0 ≤ v113_3.toInt from r68) (show v113_3.toInt ≤ 12 from t69) (show 0 ≤ v113_4.toInt from r70) (show v113_4.toInt ≤ 63 from t71) (show 0 ≤ x100.toInt by omega) (show x100.toInt ≤ 4096 by omega) (show 1 ≤ f113_12_0.toInt from r74) (show f113_12_0.toInt ≤ 10 from t75) (show 0 ≤ f113_12_1.toInt from r77) (show f113_12_1.toInt ≤ 12 from t78) (show 0 ≤ f113_12_6.toInt from r80) (show f113_12_6.toInt ≤ 6 from t81) (show (4096 - x100.toInt).toNat < n113 by omega) hw hT hF c97 c98 c99 (lv_sub hl [2, 3, 4, 5, 6, 0] rfl)
        · have c93 : r86.toInt = v113_4.toInt := wk_eq.mp c93
          refine lv_iload_n hx hb dX12_ways_137 rfl (lv_at hl 3 rfl) ?_
          refine lv_if_ne (tgt := 146) hx hb dX12_ways_138 (by decide) (fun c101 => ?_) (fun c101 => ?_)
          · have c101 : ¬ a2.toInt = (0 : Int) := wk_eqF c101
            refine lv_iconst (v := 0) hx hb dX12_ways_146 (by decide) ?_
            exact tk_iret hC hr hlocks hK ⟨hT, hF, (Or.inr (Or.inl ⟨(by decide), (by decide), (show 0 ≤ a1.toInt from r64), (show a1.toInt ≤ 6 from t65), ⟨f113_12_0, c76, (show 1 ≤ f113_12_0.toInt from r74), (show f113_12_0.toInt ≤ 10 from t75)⟩⟩))⟩ hw dX12_ways_147
          · have c101 : a2.toInt = (0 : Int) := wk_eq.mp c101
            refine lv_iload hx hb dX12_ways_141 (lv_at hl 6 rfl) ?_
            refine lv_goto (tgt := 147) hx hb dX12_ways_143 (by decide) ?_
            exact tk_iret hC hr hlocks hK ⟨hT, hF, (Or.inr (Or.inl ⟨(show 0 ≤ v113_5.toInt from r72), (show v113_5.toInt ≤ 4095 by omega), (show 0 ≤ a1.toInt from r64), (show a1.toInt ≤ 6 from t65), ⟨f113_12_0, c76, (show 1 ≤ f113_12_0.toInt from r74), (show f113_12_0.toInt ≤ 10 from t75)⟩⟩))⟩ hw dX12_ways_147
  have L89 : ∀ (n89 : Nat) (v89_3 : Int32) (v89_4 : Int32) (v89_5 : Int32) (f89_12_0 : Int32) (f89_12_1 : Int32) (f89_12_6 : Int32) (H : Heap) (locs : List Loc) (ls : Array Slot) (w102 : va_W), 0 ≤ a1.toInt → a1.toInt ≤ 6 → 0 ≤ a2.toInt → a2.toInt ≤ 1 → 0 ≤ v89_3.toInt → v89_3.toInt ≤ 12 → 0 ≤ v89_4.toInt → v89_4.toInt ≤ 63 → 0 ≤ v89_5.toInt → v89_5.toInt ≤ 64 → 1 ≤ f89_12_0.toInt → f89_12_0.toInt ≤ 10 → 0 ≤ f89_12_1.toInt → f89_12_1.toInt ≤ 12 → 0 ≤ f89_12_6.toInt → f89_12_6.toInt ≤ 6 → (64 - v89_5.toInt).toNat < n89 → Wd dC dI A s.heap H locs w102 → TW ksM ad cy B qr 12 w102 → FE ksM [(79, 0, 64)] w0 w102 → gi w102 12 0 = f89_12_0 → gi w102 12 1 = f89_12_1 → gi w102 12 6 = f89_12_6 → lv_has ls 7 [(0, .ref (ad 0)), (1, .int a1), (2, .int a2), (3, .int v89_3), (4, .int v89_4), (5, .int v89_5)] → W p l e ({ frames := 4, cells := 0, slots := 0, locals := 86 }) s m (List.toArray [.ref (ad 0), .int a1, .int a2]) below meth c H locs 0 0 (MQ below (va_Qi (P_X12_ways_1 ad cy B qr s1 a1 a2 w0) (fun u : va_W => wpost dC dI cy A u) A) (List.toArray [.ref (ad 0), .int a1, .int a2]) s 0 0 A) (F0 m 89 ls []) := by
    intro n89
    induction n89 with
    | zero => intro v89_3 v89_4 v89_5 f89_12_0 f89_12_1 f89_12_6 H locs ls w102 r103 t104 r105 t106 r107 t108 r109 t110 r111 t112 r113 t114 r116 t117 r119 t120 hm89 hw hT hF c115 c118 c121 hl; omega
    | succ n89 ih89 =>
      intro v89_3 v89_4 v89_5 f89_12_0 f89_12_1 f89_12_6 H locs ls w102 r103 t104 r105 t106 r107 t108 r109 t110 r111 t112 r113 t114 r116 t117 r119 t120 hm89 hw hT hF c115 c118 c121 hl
      refine lv_iload hx hb dX12_ways_89 (lv_at hl 5 rfl) ?_
      refine lv_bipush (v := 64) hx hb dX12_ways_91 (by decide) ?_
      refine lv_icmp_ge (tgt := 110) hx hb dX12_ways_93 (by decide) (fun c122 => ?_) (fun c122 => ?_)
      · have c122 : (64 : Int) ≤ v89_5.toInt := wk_le.mp c122
        refine lv_iconst (v := 0) hx hb dX12_ways_110 (by decide) ?_
        refine lv_istore (lv' := [(5, .int 0), (0, .ref (ad 0)), (1, .int a1), (2, .int a2), (3, .int v89_3), (4, .int v89_4)]) hx hb dX12_ways_111 hl (by decide) rfl (fun ls hl => ?_)
        exact L113 ((4096 - (0 : Int)).toNat + 1) v89_3 v89_4 0 f89_12_0 f89_12_1 f89_12_6 H locs ls w102 (show 0 ≤ a1.toInt from r103) (show a1.toInt ≤ 6 from t104) (show 0 ≤ a2.toInt from r105) (show a2.toInt ≤ 1 from t106) (show 0 ≤ v89_3.toInt from r107) (show v89_3.toInt ≤ 12 from t108) (show 0 ≤ v89_4.toInt from r109) (show v89_4.toInt ≤ 63 from t110) (by decide) (by decide) (show 1 ≤ f89_12_0.toInt from r113) (show f89_12_0.toInt ≤ 10 from t114) (show 0 ≤ f89_12_1.toInt from r116) (show f89_12_1.toInt ≤ 12 from t117) (show 0 ≤ f89_12_6.toInt from r119) (show f89_12_6.toInt ≤ 6 from t120) (Nat.lt_succ_self _) hw hT hF c115 c118 c121 (lv_sub hl [1, 2, 3, 4, 5, 0] rfl)
      · have c122 : v89_5.toInt < (64 : Int) := wk_leF c122
        refine lv_aload_n hx hb dX12_ways_96 rfl (lv_at hl 0 rfl) ?_
        refine tk_getA hC hK hw hT hinX12 kM_at0 (by decide) rfl 38 (by decide) (List.mem_cons_of_mem _ uw_7_10) rfl rfl dX12_ways_97 ?_
        refine lv_iload hx hb dX12_ways_100 (lv_at hl 5 rfl) ?_
        refine lv_iconst (v := 0) hx hb dX12_ways_102 (by decide) ?_
        refine tk_zast hC hK hw hT kM_at20 (by decide) rfl rfl (show 0 ≤ v89_5.toInt from r111) (show v89_5.toInt < 64 from c122) (by decide) (by decide) dX12_ways_103 (fun H locs w123 hw hT k125 c124 => ?_)
        have hF := hF.put kM_at20 (inE_of (a := 0) (b := 64) (by decide) (show 0 ≤ v89_5.toInt.toNat by omega) (show v89_5.toInt.toNat ≤ 64 by omega)) k125
        have c126 := k125.gi (Or.inl (tk_ne kM_at12 kM_at20 (by decide))) c115
        have c127 := k125.gi (Or.inl (tk_ne kM_at12 kM_at20 (by decide))) c118
        have c128 := k125.gi (Or.inl (tk_ne kM_at12 kM_at20 (by decide))) c121
        obtain ⟨x129, ex129⟩ : ∃ y : Int32, y = v89_5 + Int32.ofInt 1 := ⟨_, rfl⟩
        refine lv_iinc (v := x129) (lv' := [(5, .int x129), (0, .ref (ad 0)), (1, .int a1), (2, .int a2), (3, .int v89_3), (4, .int v89_4)]) hx hb dX12_ways_104 hl (k := 5) rfl ex129.symm (by decide) rfl (fun ls hl => ?_)
        have ex129 : x129.toInt = v89_5.toInt + 1 := by rw [ex129]; exact wk_add (y := 1) (show -2147483648 ≤ v89_5.toInt + 1 by omega) (show v89_5.toInt + 1 ≤ 2147483647 by omega)
        refine lv_goto (tgt := 89) hx hb dX12_ways_107 (by decide) ?_
        exact ih89 v89_3 v89_4 x129 f89_12_0 f89_12_1 f89_12_6 H locs ls w123 (show 0 ≤ a1.toInt from r103) (show a1.toInt ≤ 6 from t104) (show 0 ≤ a2.toInt from r105) (show a2.toInt ≤ 1 from t106) (show 0 ≤ v89_3.toInt from r107) (show v89_3.toInt ≤ 12 from t108) (show 0 ≤ v89_4.toInt from r109) (show v89_4.toInt ≤ 63 from t110) (show 0 ≤ x129.toInt by omega) (show x129.toInt ≤ 64 by omega) (show 1 ≤ f89_12_0.toInt from r113) (show f89_12_0.toInt ≤ 10 from t114) (show 0 ≤ f89_12_1.toInt from r116) (show f89_12_1.toInt ≤ 12 from t117) (show 0 ≤ f89_12_6.toInt from r119) (show f89_12_6.toInt ≤ 6 from t120) (show (64 - x129.toInt).toNat < n89 by omega) hw hT hF c126 c127 c128 (lv_sub hl [1, 2, 3, 4, 5, 0] rfl)
  have L36 : ∀ (n36 : Nat) (v36_3 : Int32) (v36_4 : Int32) (f36_12_0 : Int32) (H : Heap) (locs : List Loc) (ls : Array Slot) (w130 : va_W), 0 ≤ a1.toInt → a1.toInt ≤ 6 → 0 ≤ a2.toInt → a2.toInt ≤ 1 → 0 ≤ v36_3.toInt → v36_3.toInt ≤ 12 → 0 ≤ v36_4.toInt → v36_4.toInt ≤ 12 → 1 ≤ f36_12_0.toInt → f36_12_0.toInt ≤ 10 → v36_3.toInt ≤ v36_4.toInt + 0 → (12 - v36_4.toInt).toNat < n36 → Wd dC dI A s.heap H locs w130 → TW ksM ad cy B qr 12 w130 → FE ksM [(79, 0, 64)] w0 w130 → gi w130 12 0 = f36_12_0 → lv_has ls 7 [(0, .ref (ad 0)), (1, .int a1), (2, .int a2), (3, .int v36_3), (4, .int v36_4)] → W p l e ({ frames := 4, cells := 0, slots := 0, locals := 86 }) s m (List.toArray [.ref (ad 0), .int a1, .int a2]) below meth c H locs 0 0 (MQ below (va_Qi (P_X12_ways_1 ad cy B qr s1 a1 a2 w0) (fun u : va_W => wpost dC dI cy A u) A) (List.toArray [.ref (ad 0), .int a1, .int a2]) s 0 0 A) (F0 m 36 ls []) := by
    intro n36
    induction n36 with
    | zero => intro v36_3 v36_4 f36_12_0 H locs ls w130 r131 t132 r133 t134 r135 t136 r137 t138 r139 t140 i142 hm36 hw hT hF c141 hl; omega
    | succ n36 ih36 =>
      intro v36_3 v36_4 f36_12_0 H locs ls w130 r131 t132 r133 t134 r135 t136 r137 t138 r139 t140 i142 hm36 hw hT hF c141 hl
      refine lv_iload hx hb dX12_ways_36 (lv_at hl 4 rfl) ?_
      refine lv_aload_n hx hb dX12_ways_38 rfl (lv_at hl 0 rfl) ?_
      refine tk_getA hC hK hw hT hinX12 kM_at0 (by decide) rfl 26 (by decide) (List.mem_cons_of_mem _ uw_7_1) rfl rfl dX12_ways_39 ?_
      refine lv_iconst (v := 1) hx hb dX12_ways_42 (by decide) ?_
      refine tk_ialdR hC hK hw hT kM_at12 rfl (by decide) (by decide) dX12_ways_43 (fun x143 c144 Ex143 => ?_)
      have bx143 : 0 ≤ x143.toInt ∧ x143.toInt ≤ 12 := (tk_rg1 rfl).mp Ex143
      have c144 : gi w130 12 1 = x143 := c144
      refine lv_icmp_ge (tgt := 73) hx hb dX12_ways_44 (by decide) (fun c145 => ?_) (fun c145 => ?_)
      · have c145 : x143.toInt ≤ v36_4.toInt := wk_le.mp c145
        refine lv_iconst (v := 1) hx hb dX12_ways_73 (by decide) ?_
        refine lv_aload_n hx hb dX12_ways_74 rfl (lv_at hl 0 rfl) ?_
        refine tk_getA hC hK hw hT hinX12 kM_at0 (by decide) rfl 26 (by decide) (List.mem_cons_of_mem _ uw_7_1) rfl rfl dX12_ways_75 ?_
        refine lv_bipush (v := 6) hx hb dX12_ways_78 (by decide) ?_
        refine tk_ialdR hC hK hw hT kM_at12 rfl (by decide) (by decide) dX12_ways_80 (fun x146 c147 Ex146 => ?_)
        have bx146 := tk_rgI rfl 6 1 1 0 6 (by decide +kernel) ⟨0, by decide, by decide⟩ Ex146
        have c147 : gi w130 12 6 = x146 := c147
        refine lv_ishl hx hb dX12_ways_81 ?_
        refine lv_topi (fun x148 ex148 => ?_)
        have bx148 : 1 ≤ x148.toInt ∧ x148.toInt ≤ 64 := by rw [ex148]; exact wk_shl1 6 (by decide) (by omega) (by omega)
        refine lv_iconst (v := 1) hx hb dX12_ways_82 (by decide) ?_
        refine lv_isub hx hb dX12_ways_83 ?_
        refine lv_topi (fun x149 ex149 => ?_)
        have ex149 : x149.toInt = x148.toInt - (1 : Int) := by rw [ex149]; exact wk_sub (show (-2147483648) ≤ x148.toInt - (1 : Int) by omega) (show x148.toInt - (1 : Int) ≤ 2147483647 by omega)
        refine lv_istore (lv' := [(4, .int x149), (0, .ref (ad 0)), (1, .int a1), (2, .int a2), (3, .int v36_3)]) hx hb dX12_ways_84 hl (by decide) rfl (fun ls hl => ?_)
        refine lv_iconst (v := 0) hx hb dX12_ways_86 (by decide) ?_
        refine lv_istore (lv' := [(5, .int 0), (4, .int x149), (0, .ref (ad 0)), (1, .int a1), (2, .int a2), (3, .int v36_3)]) hx hb dX12_ways_87 hl (by decide) rfl (fun ls hl => ?_)
        exact L89 ((64 - (0 : Int)).toNat + 1) v36_3 x149 0 f36_12_0 x143 x146 H locs ls w130 (show 0 ≤ a1.toInt from r131) (show a1.toInt ≤ 6 from t132) (show 0 ≤ a2.toInt from r133) (show a2.toInt ≤ 1 from t134) (show 0 ≤ v36_3.toInt from r135) (show v36_3.toInt ≤ 12 from t136) (show 0 ≤ x149.toInt by omega) (show x149.toInt ≤ 63 by omega) (by decide) (by decide) (show 1 ≤ f36_12_0.toInt from r139) (show f36_12_0.toInt ≤ 10 from t140) (show 0 ≤ x143.toInt by omega) (show x143.toInt ≤ 12 by omega) (show 0 ≤ x146.toInt by omega) (show x146.toInt ≤ 6 by omega) (Nat.lt_succ_self _) hw hT hF c141 c144 c147 (lv_sub hl [2, 3, 4, 5, 1, 0] rfl)
      · have c145 : v36_4.toInt < x143.toInt := wk_leF c145
        refine lv_iload_n hx hb dX12_ways_47 rfl (lv_at hl 3 rfl) ?_
        refine lv_aload_n hx hb dX12_ways_48 rfl (lv_at hl 0 rfl) ?_
        refine lv_iload hx hb dX12_ways_49 (lv_at hl 4 rfl) ?_
        refine lv_iconst (v := 3) hx hb dX12_ways_51 (by decide) ?_
        refine lv_iload_n hx hb dX12_ways_52 rfl (lv_at hl 1 rfl) ?_
        refine lv_iadd hx hb dX12_ways_53 ?_
        refine lv_topi (fun x150 ex150 => ?_)
        have ex150 : x150.toInt = (3 : Int) + a1.toInt := by rw [ex150]; exact wk_add (show (-2147483648) ≤ (3 : Int) + a1.toInt by omega) (show (3 : Int) + a1.toInt ≤ 2147483647 by omega)
        refine tk_Vi hC hK hw hT hA hE hSR kM_at0 (by decide) rfl (k_X12_streetOf_4 l adK adV dC dI cy ad B (by omega) (by omega) qr s1   v36_4 (show 0 ≤ v36_4.toInt from r137) (show v36_4.toInt ≤ 11 by omega) x150 (show 3 ≤ x150.toInt by omega) (show x150.toInt ≤ 9 by omega) w130 H.size hT ) (cwV 2 hC.2.2.2.2 uV_RX12_300 rfl rfl rfl (by decide +kernel) ⟨Nat.le_of_ble_eq_true rfl, Nat.le_of_ble_eq_true rfl⟩) rfl hl.1 rfl (Nat.le_of_ble_eq_true rfl) dX12_ways_54 (fun r151 w153 H locs hp152 hw => ?_)
        obtain ⟨rfl, hg158⟩ := hp152
        obtain ⟨g155, g156, c157⟩ := hg158
        refine lv_if_ne (tgt := 64) hx hb dX12_ways_57 (by decide) (fun c159 => ?_) (fun c159 => ?_)
        · have c159 : ¬ r151.toInt = (0 : Int) := wk_eqF c159
          refine lv_iconst (v := 1) hx hb dX12_ways_64 (by decide) ?_
          refine lv_iadd hx hb dX12_ways_65 ?_
          refine lv_topi (fun x160 ex160 => ?_)
          have ex160 : x160.toInt = v36_3.toInt + (1 : Int) := by rw [ex160]; exact wk_add (show (-2147483648) ≤ v36_3.toInt + (1 : Int) by omega) (show v36_3.toInt + (1 : Int) ≤ 2147483647 by omega)
          refine lv_istore_n (lv' := [(3, .int x160), (0, .ref (ad 0)), (1, .int a1), (2, .int a2), (4, .int v36_4)]) hx hb dX12_ways_66 rfl hl (by decide) rfl (fun ls hl => ?_)
          obtain ⟨x161, ex161⟩ : ∃ y : Int32, y = v36_4 + Int32.ofInt 1 := ⟨_, rfl⟩
          refine lv_iinc (v := x161) (lv' := [(4, .int x161), (3, .int x160), (0, .ref (ad 0)), (1, .int a1), (2, .int a2)]) hx hb dX12_ways_67 hl (k := 4) rfl ex161.symm (by decide) rfl (fun ls hl => ?_)
          have ex161 : x161.toInt = v36_4.toInt + 1 := by rw [ex161]; exact wk_add (y := 1) (show -2147483648 ≤ v36_4.toInt + 1 by omega) (show v36_4.toInt + 1 ≤ 2147483647 by omega)
          refine lv_goto (tgt := 36) hx hb dX12_ways_70 (by decide) ?_
          exact ih36 x160 x161 f36_12_0 H locs ls w130 (show 0 ≤ a1.toInt from r131) (show a1.toInt ≤ 6 from t132) (show 0 ≤ a2.toInt from r133) (show a2.toInt ≤ 1 from t134) (show 0 ≤ x160.toInt by omega) (show x160.toInt ≤ 12 by omega) (show 0 ≤ x161.toInt by omega) (show x161.toInt ≤ 12 by omega) (show 1 ≤ f36_12_0.toInt from r139) (show f36_12_0.toInt ≤ 10 from t140) (show x160.toInt ≤ x161.toInt + 0 by omega) (show (12 - x161.toInt).toNat < n36 by omega) hw hT hF c141 (lv_sub hl [2, 3, 4, 1, 0] rfl)
        · have c159 : r151.toInt = (0 : Int) := wk_eq.mp c159
          refine lv_iconst (v := 0) hx hb dX12_ways_60 (by decide) ?_
          refine lv_goto (tgt := 65) hx hb dX12_ways_61 (by decide) ?_
          refine lv_iadd hx hb dX12_ways_65 ?_
          refine lv_topi (fun x162 ex162 => ?_)
          have ex162 : x162.toInt = v36_3.toInt + (0 : Int) := by rw [ex162]; exact wk_add (show (-2147483648) ≤ v36_3.toInt + (0 : Int) by omega) (show v36_3.toInt + (0 : Int) ≤ 2147483647 by omega)
          refine lv_istore_n (lv' := [(3, .int x162), (0, .ref (ad 0)), (1, .int a1), (2, .int a2), (4, .int v36_4)]) hx hb dX12_ways_66 rfl hl (by decide) rfl (fun ls hl => ?_)
          obtain ⟨x163, ex163⟩ : ∃ y : Int32, y = v36_4 + Int32.ofInt 1 := ⟨_, rfl⟩
          refine lv_iinc (v := x163) (lv' := [(4, .int x163), (3, .int x162), (0, .ref (ad 0)), (1, .int a1), (2, .int a2)]) hx hb dX12_ways_67 hl (k := 4) rfl ex163.symm (by decide) rfl (fun ls hl => ?_)
          have ex163 : x163.toInt = v36_4.toInt + 1 := by rw [ex163]; exact wk_add (y := 1) (show -2147483648 ≤ v36_4.toInt + 1 by omega) (show v36_4.toInt + 1 ≤ 2147483647 by omega)
          refine lv_goto (tgt := 36) hx hb dX12_ways_70 (by decide) ?_
          exact ih36 x162 x163 f36_12_0 H locs ls w130 (show 0 ≤ a1.toInt from r131) (show a1.toInt ≤ 6 from t132) (show 0 ≤ a2.toInt from r133) (show a2.toInt ≤ 1 from t134) (show 0 ≤ x162.toInt by omega) (show x162.toInt ≤ 12 by omega) (show 0 ≤ x163.toInt by omega) (show x163.toInt ≤ 12 by omega) (show 1 ≤ f36_12_0.toInt from r139) (show f36_12_0.toInt ≤ 10 from t140) (show x162.toInt ≤ x163.toInt + 0 by omega) (show (12 - x163.toInt).toNat < n36 by omega) hw hT hF c141 (lv_sub hl [2, 3, 4, 1, 0] rfl)
  refine lv_aload_n hx hb dX12_ways_0 rfl (lv_at hl 0 rfl) ?_
  refine tk_Vi hC hK hw hT hA hE hSR kM_at0 (by decide) rfl (k_X12_isTown_1 l adK adV dC dI cy ad B (by omega) (by omega) qr s1    w0 s.heap.size hT ) (cwV 0 hC.2.2.2.2 uV_RX12_337 rfl rfl rfl (by decide +kernel) ⟨Nat.le_of_ble_eq_true rfl, Nat.le_of_ble_eq_true rfl⟩) rfl hl.1 rfl (Nat.le_of_ble_eq_true rfl) dX12_ways_1 (fun r164 w166 H locs hp165 hw => ?_)
  obtain ⟨rfl, hg172⟩ := hp165
  rcases hg172 with ⟨rfl, ⟨x168, c169, rx168, tx168⟩⟩ | ⟨rfl, ⟨x170, c171, rx170, tx170⟩⟩
  · refine lv_if_eq (tgt := 29) hx hb dX12_ways_4 (by decide) (fun _ => ?_) (fun c => absurd (by decide) c)
    exact J29 x168 H locs ls w0 (show 0 ≤ x168.toInt by omega) (show x168.toInt ≤ 10 by omega)  hw hT hF c169 (lv_sub hl [0, 1, 2] rfl)
  · refine lv_if_eq (tgt := 29) hx hb dX12_ways_4 (by decide) (fun c => absurd c (by decide)) (fun _ => ?_)
    refine lv_iload_n hx hb dX12_ways_7 rfl (lv_at hl 1 rfl) ?_
    refine lv_i2l hx hb dX12_ways_8 rfl ?_
    refine lv_topl (fun x173 ex173 => ?_)
    have ex173 : x173.toInt = a1.toInt := by rw [ex173]; exact wk_i2l _
    have bx173 := wk_i32 a1
    refine lv_lconst (v := 0) hx hb dX12_ways_9 (by decide) ?_
    refine lv_ldc2 (v := 6) hx hb hC.2.2.2.1 (hC.2.2.2.2 _ (List.mem_cons_of_mem _ uw_34_6)) dX12_ways_10 ?_
    refine tk_Si hC hK hw hT hA hE hSR (k_X12_in_10 l adK adV dC dI cy ad B (by omega) (by omega) qr s1   x173 (show (-2147483648) ≤ x173.toInt by omega) (show x173.toInt ≤ 2147483647 by omega) w0 H.size hT ) (va_cwS 3 hC.2.2.2.2 uS_RX12_122 rfl rfl rfl (by decide +kernel) ⟨Nat.le_of_ble_eq_true rfl, Nat.le_of_ble_eq_true rfl⟩) rfl hl.1 rfl (Nat.le_of_ble_eq_true rfl) dX12_ways_13 (fun r174 w176 H locs hp175 hw => ?_)
    obtain ⟨rfl, hg180⟩ := hp175
    rcases hg180 with rfl | ⟨rfl, g178, g179⟩
    · refine lv_if_eq (tgt := 29) hx hb dX12_ways_16 (by decide) (fun _ => ?_) (fun c => absurd (by decide) c)
      exact J29 x170 H locs ls w0 (show 0 ≤ x170.toInt by omega) (show x170.toInt ≤ 10 by omega)  hw hT hF c171 (lv_sub hl [0, 1, 2] rfl)
    · refine lv_if_eq (tgt := 29) hx hb dX12_ways_16 (by decide) (fun c => absurd c (by decide)) (fun _ => ?_)
      refine lv_iload_n hx hb dX12_ways_19 rfl (lv_at hl 2 rfl) ?_
      refine lv_i2l hx hb dX12_ways_20 rfl ?_
      refine lv_topl (fun x181 ex181 => ?_)
      have ex181 : x181.toInt = a2.toInt := by rw [ex181]; exact wk_i2l _
      have bx181 := wk_i32 a2
      refine lv_lconst (v := 0) hx hb dX12_ways_21 (by decide) ?_
      refine lv_lconst (v := 1) hx hb dX12_ways_22 (by decide) ?_
      refine tk_Si hC hK hw hT hA hE hSR (k_X12_in_12 l adK adV dC dI cy ad B (by omega) (by omega) qr s1   x181 (show (-2147483648) ≤ x181.toInt by omega) (show x181.toInt ≤ 2147483647 by omega) w0 H.size hT ) (va_cwS 3 hC.2.2.2.2 uS_RX12_122 rfl rfl rfl (by decide +kernel) ⟨Nat.le_of_ble_eq_true rfl, Nat.le_of_ble_eq_true rfl⟩) rfl hl.1 rfl (Nat.le_of_ble_eq_true rfl) dX12_ways_23 (fun r182 w184 H locs hp183 hw => ?_)
      obtain ⟨rfl, hg188⟩ := hp183
      rcases hg188 with rfl | ⟨rfl, g186, g187⟩
      · refine lv_if_ne (tgt := 31) hx hb dX12_ways_26 (by decide) (fun c => absurd (by decide) c) (fun _ => ?_)
        exact J29 x170 H locs ls w0 (show 0 ≤ x170.toInt by omega) (show x170.toInt ≤ 10 by omega)  hw hT hF c171 (lv_sub hl [0, 1, 2] rfl)
      · refine lv_if_ne (tgt := 31) hx hb dX12_ways_26 (by decide) (fun _ => ?_) (fun c => absurd c (by decide))
        refine lv_iconst (v := 0) hx hb dX12_ways_31 (by decide) ?_
        refine lv_istore_n (lv' := [(3, .int 0), (0, .ref (ad 0)), (1, .int a1), (2, .int a2)]) hx hb dX12_ways_32 rfl hl (by decide) rfl (fun ls hl => ?_)
        refine lv_iconst (v := 0) hx hb dX12_ways_33 (by decide) ?_
        refine lv_istore (lv' := [(4, .int 0), (3, .int 0), (0, .ref (ad 0)), (1, .int a1), (2, .int a2)]) hx hb dX12_ways_34 hl (by decide) rfl (fun ls hl => ?_)
        exact L36 ((12 - (0 : Int)).toNat + 1) 0 0 x170 H locs ls w0 (show 0 ≤ a1.toInt by omega) (show a1.toInt ≤ 6 by omega) (show 0 ≤ a2.toInt by omega) (show a2.toInt ≤ 1 by omega) (by decide) (by decide) (by decide) (by decide) (show 1 ≤ x170.toInt by omega) (show x170.toInt ≤ 10 by omega) (show (0 : Int) ≤ (0 : Int) + 0 by omega) (Nat.lt_succ_self _) hw hT hF c171 (lv_sub hl [2, 3, 4, 1, 0] rfl)
abbrev P_X12_fitting_1 (ad : Nat → Nat) (cy : Nat → ClassId) (B : Int) (qr : Nat) (s1 : Int)  (w0 : va_W) : Int32 → va_W → Prop := fun r u => w0 = u ∧ ((0 ≤ r.toInt ∧ r.toInt ≤ 127))
set_option maxHeartbeats 4000000 in
set_option maxRecDepth 100000 in
theorem k_X12_fitting_1 (l : Launch) (adK adV : Nat → Nat) (dC : Nat → ClassId) (dI : Nat → Nat → Nat) (cy : Nat → ClassId) (ad : Nat → Nat) (B : Int) (hB0 : 100000 ≤ B) (hB1 : B ≤ 1073741824) (qr : Nat) (s1 : Int)   (w0 : va_W) (sz : Nat) (hT : TW ksM ad cy B qr 12 w0)  : Met l yX12_fitting (wu yX12_fitting cX12_fitting 5 (some .int)) ({ frames := 2, cells := 0, slots := 0, locals := 34 }) (va_Pc [.ref (ad 0)] (wpreS adK adV dC dI cy sz w0)) (va_Qi (P_X12_fitting_1 ad cy B qr s1  w0) (fun u : va_W => wpost dC dI cy (va_A w0 sz) u) (va_A w0 sz)) 0 0 (va_A w0 sz) := by
  refine Met.ofW (cc := cX12_fitting) (maxL := 5) (ret := (some .int)) (by decide) rfl ?_
  intro p e s m args below meth c s₁ Bk hml hv
  obtain ⟨rfl, ⟨hsz, hP, hK, hD0⟩, hE, hSR⟩ := hv
  have hx := Bk.exec
  have hb := Bk.bytes
  have hr := Bk.returns
  have hlocks := Bk.notSynchronized
  have hC : CallFix p m c cX12_fitting 5 s _ (wu yX12_fitting cX12_fitting 5 (some .int)) RX12 := ⟨hx, hb, hml, findClass_of_methodNamed Bk.named, atoms_spec (ws := (wu yX12_fitting cX12_fitting 5 (some .int))) Bk.pre⟩
  subst hsz
  have hD := hD0.self (sz := s.heap.size)
  generalize hAe : va_A w0 s.heap.size = A at hD hE ⊢
  have hA : ∀ q : Nat, s.heap.size ≤ q → A q := fun q h => by rw [← hAe]; exact Or.inr h
  have hw : Wd dC dI A s.heap s.heap [] w0 := ⟨hP, hD, va_S.rf⟩
  have hF : FE ksM ([] : List (Nat × Nat × Nat)) w0 w0 := FE.rf
  have hl := lv_entry ([.ref (ad 0)]) (n := 5) (Nat.le_of_ble_eq_true rfl)
  rw [lg_entry_eq]
  generalize (lg_sl ([.ref (ad 0)]) ++ List.replicate (5 - (lg_sl ([.ref (ad 0)])).length) Slot.unset).toArray = ls at hl ⊢
  have hl : lv_has ls 5 [(0, .ref (ad 0))] := hl
  generalize hloc : ([] : List Loc) = locs at hw ⊢
  have hinX12 : ∀ w ∈ u_ws RX12 TX12 42, w ∈ (wu yX12_fitting cX12_fitting 5 (some .int)) := fun _ h => List.mem_cons_of_mem _ (up_71 h)
  have L4 : ∀ (n4 : Nat) (v4_1 : Int32) (v4_2 : Int32) (H : Heap) (locs : List Loc) (ls : Array Slot), 0 ≤ v4_1.toInt → v4_1.toInt ≤ 127 → 0 ≤ v4_2.toInt → v4_2.toInt ≤ 7 → (7 - v4_2.toInt).toNat < n4 → Wd dC dI A s.heap H locs w0 → lv_has ls 5 [(0, .ref (ad 0)), (1, .int v4_1), (2, .int v4_2)] → W p l e ({ frames := 2, cells := 0, slots := 0, locals := 34 }) s m (List.toArray [.ref (ad 0)]) below meth c H locs 0 0 (MQ below (va_Qi (P_X12_fitting_1 ad cy B qr s1  w0) (fun u : va_W => wpost dC dI cy A u) A) (List.toArray [.ref (ad 0)]) s 0 0 A) (F0 m 4 ls []) := by
    intro n4
    induction n4 with
    | zero => intro v4_1 v4_2 H locs ls r1 t2 r3 t4 hm4 hw hl; omega
    | succ n4 ih4 =>
      intro v4_1 v4_2 H locs ls r1 t2 r3 t4 hm4 hw hl
      have L15 : ∀ (n15 : Nat) (v15_3 : Int32) (v15_4 : Int32) (H : Heap) (locs : List Loc) (ls : Array Slot), 0 ≤ v4_1.toInt → v4_1.toInt ≤ 127 → 0 ≤ v4_2.toInt → v4_2.toInt ≤ 6 → 0 ≤ v15_3.toInt → v15_3.toInt ≤ 1 → 0 ≤ v15_4.toInt → v15_4.toInt ≤ 12 → (12 - v15_4.toInt).toNat < n15 → Wd dC dI A s.heap H locs w0 → lv_has ls 5 [(0, .ref (ad 0)), (1, .int v4_1), (2, .int v4_2), (3, .int v15_3), (4, .int v15_4)] → W p l e ({ frames := 2, cells := 0, slots := 0, locals := 34 }) s m (List.toArray [.ref (ad 0)]) below meth c H locs 0 0 (MQ below (va_Qi (P_X12_fitting_1 ad cy B qr s1  w0) (fun u : va_W => wpost dC dI cy A u) A) (List.toArray [.ref (ad 0)]) s 0 0 A) (F0 m 15 ls []) := by
        intro n15
        induction n15 with
        | zero => intro v15_3 v15_4 H locs ls r5 t6 r7 t8 r9 t10 r11 t12 hm15 hw hl; omega
        | succ n15 ih15 =>
          intro v15_3 v15_4 H locs ls r5 t6 r7 t8 r9 t10 r11 t12 hm15 hw hl
          have J73 : ∀ (f73_12_7 : Int32) (H : Heap) (locs : List Loc) (ls : Array Slot), 0 ≤ v4_1.toInt → v4_1.toInt ≤ 127 → 0 ≤ v4_2.toInt → v4_2.toInt ≤ 6 → 0 ≤ v15_3.toInt → v15_3.toInt ≤ 1 → 0 ≤ v15_4.toInt → v15_4.toInt ≤ 11 → 1 ≤ f73_12_7.toInt → f73_12_7.toInt ≤ 12 → Wd dC dI A s.heap H locs w0 → gi w0 12 7 = f73_12_7 → lv_has ls 5 [(0, .ref (ad 0)), (1, .int v4_1), (2, .int v4_2), (3, .int v15_3), (4, .int v15_4)] → W p l e ({ frames := 2, cells := 0, slots := 0, locals := 34 }) s m (List.toArray [.ref (ad 0)]) below meth c H locs 0 0 (MQ below (va_Qi (P_X12_fitting_1 ad cy B qr s1  w0) (fun u : va_W => wpost dC dI cy A u) A) (List.toArray [.ref (ad 0)]) s 0 0 A) (F0 m 73 ls []) := by
            intro f73_12_7 H locs ls r13 t14 r15 t16 r17 t18 r19 t20 r21 t22 hw c23 hl
            refine lv_iconst (v := 0) hx hb dX12_fitting_73 (by decide) ?_
            refine lv_istore_n (lv' := [(3, .int 0), (0, .ref (ad 0)), (1, .int v4_1), (2, .int v4_2), (4, .int v15_4)]) hx hb dX12_fitting_74 rfl hl (by decide) rfl (fun ls hl => ?_)
            obtain ⟨x24, ex24⟩ : ∃ y : Int32, y = v15_4 + Int32.ofInt 1 := ⟨_, rfl⟩
            refine lv_iinc (v := x24) (lv' := [(4, .int x24), (3, .int 0), (0, .ref (ad 0)), (1, .int v4_1), (2, .int v4_2)]) hx hb dX12_fitting_75 hl (k := 4) rfl ex24.symm (by decide) rfl (fun ls hl => ?_)
            have ex24 : x24.toInt = v15_4.toInt + 1 := by rw [ex24]; exact wk_add (y := 1) (show -2147483648 ≤ v15_4.toInt + 1 by omega) (show v15_4.toInt + 1 ≤ 2147483647 by omega)
            refine lv_goto (tgt := 15) hx hb dX12_fitting_78 (by decide) ?_
            exact ih15 0 x24 H locs ls  (show 0 ≤ v4_1.toInt from r13) (show v4_1.toInt ≤ 127 from t14) (show 0 ≤ v4_2.toInt from r15) (show v4_2.toInt ≤ 6 from t16) (by decide) (by decide) (show 0 ≤ x24.toInt by omega) (show x24.toInt ≤ 12 by omega) (show (12 - x24.toInt).toNat < n15 by omega) hw   (lv_sub hl [2, 3, 4, 1, 0] rfl)
          refine lv_iload hx hb dX12_fitting_15 (lv_at hl 4 rfl) ?_
          refine lv_aload_n hx hb dX12_fitting_17 rfl (lv_at hl 0 rfl) ?_
          refine tk_getA hC hK hw hT hinX12 kM_at0 (by decide) rfl 26 (by decide) (List.mem_cons_of_mem _ uw_7_1) rfl rfl dX12_fitting_18 ?_
          refine lv_bipush (v := 7) hx hb dX12_fitting_21 (by decide) ?_
          refine tk_ialdR hC hK hw hT kM_at12 rfl (by decide) (by decide) dX12_fitting_23 (fun x25 c26 Ex25 => ?_)
          have bx25 := tk_rgI rfl 7 1 1 0 12 (by decide +kernel) ⟨0, by decide, by decide⟩ Ex25
          have c26 : gi w0 12 7 = x25 := c26
          refine lv_icmp_ge (tgt := 81) hx hb dX12_fitting_24 (by decide) (fun c27 => ?_) (fun c27 => ?_)
          · have c27 : x25.toInt ≤ v15_4.toInt := wk_le.mp c27
            refine lv_iload_n hx hb dX12_fitting_81 rfl (lv_at hl 1 rfl) ?_
            refine lv_iload_n hx hb dX12_fitting_82 rfl (lv_at hl 3 rfl) ?_
            refine lv_if_eq (tgt := 92) hx hb dX12_fitting_83 (by decide) (fun c28 => ?_) (fun c28 => ?_)
            · have c28 : v15_3.toInt = (0 : Int) := wk_eq.mp c28
              refine lv_iconst (v := 0) hx hb dX12_fitting_92 (by decide) ?_
              refine lv_ior hx hb dX12_fitting_93 ?_
              refine lv_topi (fun x29 ex29 => ?_)
              have bx29 : 0 ≤ x29.toInt ∧ x29.toInt < 128 := by rw [ex29]; exact wk_or 7 (by decide) (by omega) (by omega) (by decide) (by decide)
              have mx29 : v4_1.toInt ≤ x29.toInt ∧ (0 : Int) ≤ x29.toInt := by rw [ex29]; exact wk_orL 7 (by decide) (by omega) (by omega) (by decide) (by decide)
              refine lv_istore_n (lv' := [(1, .int x29), (0, .ref (ad 0)), (2, .int v4_2), (3, .int v15_3), (4, .int v15_4)]) hx hb dX12_fitting_94 rfl hl (by decide) rfl (fun ls hl => ?_)
              obtain ⟨x30, ex30⟩ : ∃ y : Int32, y = v4_2 + Int32.ofInt 1 := ⟨_, rfl⟩
              refine lv_iinc (v := x30) (lv' := [(2, .int x30), (1, .int x29), (0, .ref (ad 0)), (3, .int v15_3), (4, .int v15_4)]) hx hb dX12_fitting_95 hl (k := 2) rfl ex30.symm (by decide) rfl (fun ls hl => ?_)
              have ex30 : x30.toInt = v4_2.toInt + 1 := by rw [ex30]; exact wk_add (y := 1) (show -2147483648 ≤ v4_2.toInt + 1 by omega) (show v4_2.toInt + 1 ≤ 2147483647 by omega)
              refine lv_goto (tgt := 4) hx hb dX12_fitting_98 (by decide) ?_
              exact ih4 x29 x30 H locs ls  (show 0 ≤ x29.toInt by omega) (show x29.toInt ≤ 127 by omega) (show 0 ≤ x30.toInt by omega) (show x30.toInt ≤ 7 by omega) (show (7 - x30.toInt).toNat < n4 by omega) hw   (lv_sub hl [2, 1, 0] rfl)
            · have c28 : ¬ v15_3.toInt = (0 : Int) := wk_eqF c28
              refine lv_iconst (v := 1) hx hb dX12_fitting_86 (by decide) ?_
              refine lv_iload_n hx hb dX12_fitting_87 rfl (lv_at hl 2 rfl) ?_
              refine lv_ishl hx hb dX12_fitting_88 ?_
              refine lv_topi (fun x31 ex31 => ?_)
              have bx31 : 1 ≤ x31.toInt ∧ x31.toInt ≤ 64 := by rw [ex31]; exact wk_shl1 6 (by decide) (by omega) (by omega)
              refine lv_goto (tgt := 93) hx hb dX12_fitting_89 (by decide) ?_
              refine lv_ior hx hb dX12_fitting_93 ?_
              refine lv_topi (fun x32 ex32 => ?_)
              have bx32 : 0 ≤ x32.toInt ∧ x32.toInt < 128 := by rw [ex32]; exact wk_or 7 (by decide) (by omega) (by omega) (by omega) (by omega)
              have mx32 : v4_1.toInt ≤ x32.toInt ∧ x31.toInt ≤ x32.toInt := by rw [ex32]; exact wk_orL 7 (by decide) (by omega) (by omega) (by omega) (by omega)
              refine lv_istore_n (lv' := [(1, .int x32), (0, .ref (ad 0)), (2, .int v4_2), (3, .int v15_3), (4, .int v15_4)]) hx hb dX12_fitting_94 rfl hl (by decide) rfl (fun ls hl => ?_)
              obtain ⟨x33, ex33⟩ : ∃ y : Int32, y = v4_2 + Int32.ofInt 1 := ⟨_, rfl⟩
              refine lv_iinc (v := x33) (lv' := [(2, .int x33), (1, .int x32), (0, .ref (ad 0)), (3, .int v15_3), (4, .int v15_4)]) hx hb dX12_fitting_95 hl (k := 2) rfl ex33.symm (by decide) rfl (fun ls hl => ?_)
              have ex33 : x33.toInt = v4_2.toInt + 1 := by rw [ex33]; exact wk_add (y := 1) (show -2147483648 ≤ v4_2.toInt + 1 by omega) (show v4_2.toInt + 1 ≤ 2147483647 by omega)
              refine lv_goto (tgt := 4) hx hb dX12_fitting_98 (by decide) ?_
              exact ih4 x32 x33 H locs ls  (show 0 ≤ x32.toInt by omega) (show x32.toInt ≤ 127 by omega) (show 0 ≤ x33.toInt by omega) (show x33.toInt ≤ 7 by omega) (show (7 - x33.toInt).toNat < n4 by omega) hw   (lv_sub hl [2, 1, 0] rfl)
          · have c27 : v15_4.toInt < x25.toInt := wk_leF c27
            refine lv_iload_n hx hb dX12_fitting_27 rfl (lv_at hl 3 rfl) ?_
            refine lv_if_eq (tgt := 73) hx hb dX12_fitting_28 (by decide) (fun c34 => ?_) (fun c34 => ?_)
            · have c34 : v15_3.toInt = (0 : Int) := wk_eq.mp c34
              exact J73 x25 H locs ls  (show 0 ≤ v4_1.toInt from r5) (show v4_1.toInt ≤ 127 from t6) (show 0 ≤ v4_2.toInt from r7) (show v4_2.toInt ≤ 6 from t8) (show 0 ≤ v15_3.toInt from r9) (show v15_3.toInt ≤ 1 from t10) (show 0 ≤ v15_4.toInt from r11) (show v15_4.toInt ≤ 11 by omega) (show 1 ≤ x25.toInt by omega) (show x25.toInt ≤ 12 by omega)  hw  c26 (lv_sub hl [0, 1, 2, 3, 4] rfl)
            · have c34 : ¬ v15_3.toInt = (0 : Int) := wk_eqF c34
              refine lv_aload_n hx hb dX12_fitting_31 rfl (lv_at hl 0 rfl) ?_
              refine lv_aload_n hx hb dX12_fitting_32 rfl (lv_at hl 0 rfl) ?_
              refine tk_getA hC hK hw hT hinX12 kM_at0 (by decide) rfl 26 (by decide) (List.mem_cons_of_mem _ uw_7_1) rfl rfl dX12_fitting_33 ?_
              refine lv_sipush (v := 264) hx hb dX12_fitting_36 (by decide) ?_
              refine lv_iconst (v := 2) hx hb dX12_fitting_39 (by decide) ?_
              refine lv_iload hx hb dX12_fitting_40 (lv_at hl 4 rfl) ?_
              refine lv_imul hx hb dX12_fitting_42 ?_
              refine lv_topi (fun x35 ex35 => ?_)
              have ex35 : x35.toInt = (2 : Int) * v15_4.toInt := by rw [ex35]; exact wk_mul (show (-2147483648) ≤ (2 : Int) * v15_4.toInt by omega) (show (2 : Int) * v15_4.toInt ≤ 2147483647 by omega)
              refine lv_iadd hx hb dX12_fitting_43 ?_
              refine lv_topi (fun x36 ex36 => ?_)
              have ex36 : x36.toInt = (264 : Int) + x35.toInt := by rw [ex36]; exact wk_add (show (-2147483648) ≤ (264 : Int) + x35.toInt by omega) (show (264 : Int) + x35.toInt ≤ 2147483647 by omega)
              refine tk_ialdR hC hK hw hT kM_at12 rfl (show 0 ≤ x36.toInt by omega) (show x36.toInt < 296 by omega) dX12_fitting_44 (fun x37 c38 Ex37 => ?_)
              have c38 : gi w0 12 (2 * v15_4.toInt + 264).toNat = x37 := (congrArg (gi w0 12) (congrArg Int.toNat (show 2 * v15_4.toInt + 264 = x36.toInt by omega))).trans c38
              have bx37 := tk_rgI rfl 264 2 12 0 11 (by decide +kernel) ⟨(v15_4.toInt - 0).toNat, by omega, show x36.toInt.toNat = 264 + 2 * (v15_4.toInt - 0).toNat by omega⟩ Ex37
              refine lv_iconst (v := 3) hx hb dX12_fitting_45 (by decide) ?_
              refine lv_iload_n hx hb dX12_fitting_46 rfl (lv_at hl 2 rfl) ?_
              refine lv_iadd hx hb dX12_fitting_47 ?_
              refine lv_topi (fun x39 ex39 => ?_)
              have ex39 : x39.toInt = (3 : Int) + v4_2.toInt := by rw [ex39]; exact wk_add (show (-2147483648) ≤ (3 : Int) + v4_2.toInt by omega) (show (3 : Int) + v4_2.toInt ≤ 2147483647 by omega)
              refine tk_Vi hC hK hw hT hA hE hSR kM_at0 (by decide) rfl (k_X12_streetOf_4 l adK adV dC dI cy ad B (by omega) (by omega) qr s1   x37 (show 0 ≤ x37.toInt by omega) (show x37.toInt ≤ 11 by omega) x39 (show 3 ≤ x39.toInt by omega) (show x39.toInt ≤ 9 by omega) w0 H.size hT ) (cwV 2 hC.2.2.2.2 uV_RX12_300 rfl rfl rfl (by decide +kernel) ⟨Nat.le_of_ble_eq_true rfl, Nat.le_of_ble_eq_true rfl⟩) rfl hl.1 rfl (Nat.le_of_ble_eq_true rfl) dX12_fitting_48 (fun r40 w42 H locs hp41 hw => ?_)
              obtain ⟨rfl, hg47⟩ := hp41
              obtain ⟨g44, g45, c46⟩ := hg47
              refine lv_aload_n hx hb dX12_fitting_51 rfl (lv_at hl 0 rfl) ?_
              refine tk_getA hC hK hw hT hinX12 kM_at0 (by decide) rfl 26 (by decide) (List.mem_cons_of_mem _ uw_7_1) rfl rfl dX12_fitting_52 ?_
              refine lv_sipush (v := 264) hx hb dX12_fitting_55 (by decide) ?_
              refine lv_iconst (v := 2) hx hb dX12_fitting_58 (by decide) ?_
              refine lv_iload hx hb dX12_fitting_59 (lv_at hl 4 rfl) ?_
              refine lv_imul hx hb dX12_fitting_61 ?_
              refine lv_topi (fun x48 ex48 => ?_)
              have ex48 : x48.toInt = (2 : Int) * v15_4.toInt := by rw [ex48]; exact wk_mul (show (-2147483648) ≤ (2 : Int) * v15_4.toInt by omega) (show (2 : Int) * v15_4.toInt ≤ 2147483647 by omega)
              refine lv_iadd hx hb dX12_fitting_62 ?_
              refine lv_topi (fun x49 ex49 => ?_)
              have ex49 : x49.toInt = (264 : Int) + x48.toInt := by rw [ex49]; exact wk_add (show (-2147483648) ≤ (264 : Int) + x48.toInt by omega) (show (264 : Int) + x48.toInt ≤ 2147483647 by omega)
              refine lv_iconst (v := 1) hx hb dX12_fitting_63 (by decide) ?_
              refine lv_iadd hx hb dX12_fitting_64 ?_
              refine lv_topi (fun x50 ex50 => ?_)
              have ex50 : x50.toInt = x49.toInt + (1 : Int) := by rw [ex50]; exact wk_add (show (-2147483648) ≤ x49.toInt + (1 : Int) by omega) (show x49.toInt + (1 : Int) ≤ 2147483647 by omega)
              refine tk_ialdR hC hK hw hT kM_at12 rfl (show 0 ≤ x50.toInt by omega) (show x50.toInt < 296 by omega) dX12_fitting_65 (fun x51 c52 Ex51 => ?_)
              have c52 : gi w0 12 (2 * v15_4.toInt + 265).toNat = x51 := (congrArg (gi w0 12) (congrArg Int.toNat (show 2 * v15_4.toInt + 265 = x50.toInt by omega))).trans c52
              have bx51 := tk_rgI rfl 265 2 12 0 11 (by decide +kernel) ⟨(v15_4.toInt - 0).toNat, by omega, show x50.toInt.toNat = 265 + 2 * (v15_4.toInt - 0).toNat by omega⟩ Ex51
              refine lv_icmp_ne (tgt := 73) hx hb dX12_fitting_66 (by decide) (fun c53 => ?_) (fun c53 => ?_)
              · have c53 : ¬ r40.toInt = x51.toInt := wk_eqF c53
                exact J73 x25 H locs ls  (show 0 ≤ v4_1.toInt from r5) (show v4_1.toInt ≤ 127 from t6) (show 0 ≤ v4_2.toInt from r7) (show v4_2.toInt ≤ 6 from t8) (show 0 ≤ v15_3.toInt from r9) (show v15_3.toInt ≤ 1 from t10) (show 0 ≤ v15_4.toInt from r11) (show v15_4.toInt ≤ 11 by omega) (show 1 ≤ x25.toInt by omega) (show x25.toInt ≤ 12 by omega)  hw  c26 (lv_sub hl [0, 1, 2, 3, 4] rfl)
              · have c53 : r40.toInt = x51.toInt := wk_eq.mp c53
                refine lv_iconst (v := 1) hx hb dX12_fitting_69 (by decide) ?_
                refine lv_goto (tgt := 74) hx hb dX12_fitting_70 (by decide) ?_
                refine lv_istore_n (lv' := [(3, .int 1), (0, .ref (ad 0)), (1, .int v4_1), (2, .int v4_2), (4, .int v15_4)]) hx hb dX12_fitting_74 rfl hl (by decide) rfl (fun ls hl => ?_)
                obtain ⟨x54, ex54⟩ : ∃ y : Int32, y = v15_4 + Int32.ofInt 1 := ⟨_, rfl⟩
                refine lv_iinc (v := x54) (lv' := [(4, .int x54), (3, .int 1), (0, .ref (ad 0)), (1, .int v4_1), (2, .int v4_2)]) hx hb dX12_fitting_75 hl (k := 4) rfl ex54.symm (by decide) rfl (fun ls hl => ?_)
                have ex54 : x54.toInt = v15_4.toInt + 1 := by rw [ex54]; exact wk_add (y := 1) (show -2147483648 ≤ v15_4.toInt + 1 by omega) (show v15_4.toInt + 1 ≤ 2147483647 by omega)
                refine lv_goto (tgt := 15) hx hb dX12_fitting_78 (by decide) ?_
                exact ih15 1 x54 H locs ls  (show 0 ≤ v4_1.toInt from r5) (show v4_1.toInt ≤ 127 from t6) (show 0 ≤ v4_2.toInt from r7) (show v4_2.toInt ≤ 6 from t8) (by decide) (by decide) (show 0 ≤ x54.toInt by omega) (show x54.toInt ≤ 12 by omega) (show (12 - x54.toInt).toNat < n15 by omega) hw   (lv_sub hl [2, 3, 4, 1, 0] rfl)
      refine lv_iload_n hx hb dX12_fitting_4 rfl (lv_at hl 2 rfl) ?_
      refine lv_bipush (v := 7) hx hb dX12_fitting_5 (by decide) ?_
      refine lv_icmp_ge (tgt := 101) hx hb dX12_fitting_7 (by decide) (fun c55 => ?_) (fun c55 => ?_)
      · have c55 : (7 : Int) ≤ v4_2.toInt := wk_le.mp c55
        refine lv_iload_n hx hb dX12_fitting_101 rfl (lv_at hl 1 rfl) ?_
        exact tk_iret hC hr hlocks hK ⟨rfl, ⟨(show 0 ≤ v4_1.toInt from r1), (show v4_1.toInt ≤ 127 from t2)⟩⟩ hw dX12_fitting_102
      · have c55 : v4_2.toInt < (7 : Int) := wk_leF c55
        refine lv_iconst (v := 1) hx hb dX12_fitting_10 (by decide) ?_
        refine lv_istore_n (lv' := [(3, .int 1), (0, .ref (ad 0)), (1, .int v4_1), (2, .int v4_2)]) hx hb dX12_fitting_11 rfl hl (by decide) rfl (fun ls hl => ?_)
        refine lv_iconst (v := 0) hx hb dX12_fitting_12 (by decide) ?_
        refine lv_istore (lv' := [(4, .int 0), (3, .int 1), (0, .ref (ad 0)), (1, .int v4_1), (2, .int v4_2)]) hx hb dX12_fitting_13 hl (by decide) rfl (fun ls hl => ?_)
        exact L15 ((12 - (0 : Int)).toNat + 1) 1 0 H locs ls  (show 0 ≤ v4_1.toInt from r1) (show v4_1.toInt ≤ 127 from t2) (show 0 ≤ v4_2.toInt from r3) (show v4_2.toInt ≤ 6 by omega) (by decide) (by decide) (by decide) (by decide) (Nat.lt_succ_self _) hw   (lv_sub hl [2, 3, 4, 1, 0] rfl)
  refine lv_iconst (v := 0) hx hb dX12_fitting_0 (by decide) ?_
  refine lv_istore_n (lv' := [(1, .int 0), (0, .ref (ad 0))]) hx hb dX12_fitting_1 rfl hl (by decide) rfl (fun ls hl => ?_)
  refine lv_iconst (v := 0) hx hb dX12_fitting_2 (by decide) ?_
  refine lv_istore_n (lv' := [(2, .int 0), (1, .int 0), (0, .ref (ad 0))]) hx hb dX12_fitting_3 rfl hl (by decide) rfl (fun ls hl => ?_)
  exact L4 ((7 - (0 : Int)).toNat + 1) 0 0 s.heap locs ls  (by decide) (by decide) (by decide) (by decide) (Nat.lt_succ_self _) hw   (lv_sub hl [2, 1, 0] rfl)
abbrev P_X12_isOf_8 (ad : Nat → Nat) (cy : Nat → ClassId) (B : Int) (qr : Nat) (s1 : Int) (a0 : Int32) (a1 : Int32) (w0 : va_W) : Int32 → va_W → Prop := fun r u => w0 = u ∧ ((r = 0 ∧ (¬ mOf a0 a1)) ∨ (r = 1 ∧ (mOf a0 a1)))
set_option maxHeartbeats 4000000 in
set_option maxRecDepth 100000 in
theorem k_X12_isOf_8 (l : Launch) (adK adV : Nat → Nat) (dC : Nat → ClassId) (dI : Nat → Nat → Nat) (cy : Nat → ClassId) (ad : Nat → Nat) (B : Int) (hB0 : 100000 ≤ B) (hB1 : B ≤ 1073741824) (qr : Nat) (s1 : Int)  (a0 : Int32) (ra0 : 1 ≤ a0.toInt) (ta0 : a0.toInt ≤ 127) (a1 : Int32) (ra1 : 0 ≤ a1.toInt) (ta1 : a1.toInt ≤ 6) (w0 : va_W) (sz : Nat) (hT : TW ksM ad cy B qr 12 w0)  : Met l yX12_isOf (wu yX12_isOf cX12_isOf 2 (some .boolean)) ({ frames := 1, cells := 0, slots := 0, locals := 12 }) (va_Pc [.int a0, .int a1] (wpreS adK adV dC dI cy sz w0)) (va_Qi (P_X12_isOf_8 ad cy B qr s1 a0 a1 w0) (fun u : va_W => wpost dC dI cy (va_A w0 sz) u) (va_A w0 sz)) 0 0 (va_A w0 sz) := by
  refine Met.ofW (cc := cX12_isOf) (maxL := 2) (ret := (some .boolean)) (by decide) rfl ?_
  intro p e s m args below meth c s₁ Bk hml hv
  obtain ⟨rfl, ⟨hsz, hP, hK, hD0⟩, hE, hSR⟩ := hv
  have hx := Bk.exec
  have hb := Bk.bytes
  have hr := Bk.returns
  have hlocks := Bk.notSynchronized
  have hC : CallFix p m c cX12_isOf 2 s _ (wu yX12_isOf cX12_isOf 2 (some .boolean)) RX12 := ⟨hx, hb, hml, findClass_of_methodNamed Bk.named, atoms_spec (ws := (wu yX12_isOf cX12_isOf 2 (some .boolean))) Bk.pre⟩
  subst hsz
  have hD := hD0.self (sz := s.heap.size)
  generalize hAe : va_A w0 s.heap.size = A at hD hE ⊢
  have hA : ∀ q : Nat, s.heap.size ≤ q → A q := fun q h => by rw [← hAe]; exact Or.inr h
  have hw : Wd dC dI A s.heap s.heap [] w0 := ⟨hP, hD, va_S.rf⟩
  have hF : FE ksM ([] : List (Nat × Nat × Nat)) w0 w0 := FE.rf
  have hl := lv_entry ([.int a0, .int a1]) (n := 2) (Nat.le_of_ble_eq_true rfl)
  rw [lg_entry_eq]
  generalize (lg_sl ([.int a0, .int a1]) ++ List.replicate (2 - (lg_sl ([.int a0, .int a1])).length) Slot.unset).toArray = ls at hl ⊢
  have hl : lv_has ls 2 [(0, .int a0), (1, .int a1)] := hl
  generalize hloc : ([] : List Loc) = locs at hw ⊢
  refine lv_iload_n hx hb dX12_isOf_0 rfl (lv_at hl 0 rfl) ?_
  refine lv_iload_n hx hb dX12_isOf_1 rfl (lv_at hl 1 rfl) ?_
  refine lv_ishr hx hb dX12_isOf_2 ?_
  refine lv_topi (fun x1 ex1 => ?_)
  have bx1 : 0 ≤ x1.toInt ∧ x1.toInt ≤ a0.toInt := by rw [ex1]; exact wk_shr (by omega)
  refine lv_iconst (v := 1) hx hb dX12_isOf_3 (by decide) ?_
  refine lv_iand hx hb dX12_isOf_4 ?_
  refine lv_topi (fun x2 ex2 => ?_)
  have bx2 : 0 ≤ x2.toInt ∧ x2.toInt ≤ (1 : Int) := by rw [ex2]; exact wk_and (by decide)
  refine lv_iconst (v := 1) hx hb dX12_isOf_5 (by decide) ?_
  refine lv_icmp_ne (tgt := 13) hx hb dX12_isOf_6 (by decide) (fun c3 => ?_) (fun c3 => ?_)
  · have c3 : ¬ x2.toInt = (1 : Int) := wk_eqF c3
    refine lv_iconst (v := 0) hx hb dX12_isOf_13 (by decide) ?_
    exact tk_zret hC hr rfl hlocks hK ⟨rfl, (Or.inl ⟨rfl, (by unfold mOf; rw [← ex1, ← ex2]; omega)⟩)⟩ hw dX12_isOf_14
  · have c3 : x2.toInt = (1 : Int) := wk_eq.mp c3
    refine lv_iconst (v := 1) hx hb dX12_isOf_9 (by decide) ?_
    refine lv_goto (tgt := 14) hx hb dX12_isOf_10 (by decide) ?_
    exact tk_zret hC hr rfl hlocks hK ⟨rfl, (Or.inr ⟨rfl, (by unfold mOf; rw [← ex1, ← ex2]; omega)⟩)⟩ hw dX12_isOf_14
abbrev P_X12_mostAlike_1 (ad : Nat → Nat) (cy : Nat → ClassId) (B : Int) (qr : Nat) (s1 : Int) (a1 : Int32) (a2 : Int32) (w0 : va_W) : Int32 → va_W → Prop := fun r u => w0 = u ∧ ((0 ≤ r.toInt))
set_option maxHeartbeats 4000000 in
set_option maxRecDepth 100000 in
theorem k_X12_mostAlike_1 (l : Launch) (adK adV : Nat → Nat) (dC : Nat → ClassId) (dI : Nat → Nat → Nat) (cy : Nat → ClassId) (ad : Nat → Nat) (B : Int) (hB0 : 100000 ≤ B) (hB1 : B ≤ 1073741824) (qr : Nat) (s1 : Int)  (a1 : Int32) (ra1 : 0 ≤ a1.toInt) (ta1 : a1.toInt ≤ 11) (a2 : Int32) (ra2 : 1 ≤ a2.toInt) (ta2 : a2.toInt ≤ 127) (w0 : va_W) (sz : Nat) (hT : TW ksM ad cy B qr 12 w0)  : Met l yX12_mostAlike (wu yX12_mostAlike cX12_mostAlike 7 (some .int)) ({ frames := 2, cells := 0, slots := 0, locals := 34 }) (va_Pc [.ref (ad 0), .int a1, .int a2] (wpreS adK adV dC dI cy sz w0)) (va_Qi (P_X12_mostAlike_1 ad cy B qr s1 a1 a2 w0) (fun u : va_W => wpost dC dI cy (va_A w0 sz) u) (va_A w0 sz)) 0 0 (va_A w0 sz) := by
  refine Met.ofW (cc := cX12_mostAlike) (maxL := 7) (ret := (some .int)) (by decide) rfl ?_
  intro p e s m args below meth c s₁ Bk hml hv
  obtain ⟨rfl, ⟨hsz, hP, hK, hD0⟩, hE, hSR⟩ := hv
  have hx := Bk.exec
  have hb := Bk.bytes
  have hr := Bk.returns
  have hlocks := Bk.notSynchronized
  have hC : CallFix p m c cX12_mostAlike 7 s _ (wu yX12_mostAlike cX12_mostAlike 7 (some .int)) RX12 := ⟨hx, hb, hml, findClass_of_methodNamed Bk.named, atoms_spec (ws := (wu yX12_mostAlike cX12_mostAlike 7 (some .int))) Bk.pre⟩
  subst hsz
  have hD := hD0.self (sz := s.heap.size)
  generalize hAe : va_A w0 s.heap.size = A at hD hE ⊢
  have hA : ∀ q : Nat, s.heap.size ≤ q → A q := fun q h => by rw [← hAe]; exact Or.inr h
  have hw : Wd dC dI A s.heap s.heap [] w0 := ⟨hP, hD, va_S.rf⟩
  have hF : FE ksM ([] : List (Nat × Nat × Nat)) w0 w0 := FE.rf
  have hl := lv_entry ([.ref (ad 0), .int a1, .int a2]) (n := 7) (Nat.le_of_ble_eq_true rfl)
  rw [lg_entry_eq]
  generalize (lg_sl ([.ref (ad 0), .int a1, .int a2]) ++ List.replicate (7 - (lg_sl ([.ref (ad 0), .int a1, .int a2])).length) Slot.unset).toArray = ls at hl ⊢
  have hl : lv_has ls 7 [(0, .ref (ad 0)), (1, .int a1), (2, .int a2)] := hl
  generalize hloc : ([] : List Loc) = locs at hw ⊢
  have L5 : ∀ (n5 : Nat) (v5_3 : Int32) (v5_4 : Int32) (H : Heap) (locs : List Loc) (ls : Array Slot), 0 ≤ a1.toInt → a1.toInt ≤ 11 → 1 ≤ a2.toInt → a2.toInt ≤ 127 → 0 ≤ v5_3.toInt → 0 ≤ v5_4.toInt → v5_4.toInt ≤ 4 → (4 - v5_4.toInt).toNat < n5 → Wd dC dI A s.heap H locs w0 → lv_has ls 7 [(0, .ref (ad 0)), (1, .int a1), (2, .int a2), (3, .int v5_3), (4, .int v5_4)] → W p l e ({ frames := 2, cells := 0, slots := 0, locals := 34 }) s m (List.toArray [.ref (ad 0), .int a1, .int a2]) below meth c H locs 0 0 (MQ below (va_Qi (P_X12_mostAlike_1 ad cy B qr s1 a1 a2 w0) (fun u : va_W => wpost dC dI cy A u) A) (List.toArray [.ref (ad 0), .int a1, .int a2]) s 0 0 A) (F0 m 5 ls []) := by
    intro n5
    induction n5 with
    | zero => intro v5_3 v5_4 H locs ls r1 t2 r3 t4 r5 r6 t7 hm5 hw hl; omega
    | succ n5 ih5 =>
      intro v5_3 v5_4 H locs ls r1 t2 r3 t4 r5 r6 t7 hm5 hw hl
      have L17 : ∀ (n17 : Nat) (v17_5 : Int32) (v17_6 : Int32) (H : Heap) (locs : List Loc) (ls : Array Slot), 0 ≤ a1.toInt → a1.toInt ≤ 11 → 1 ≤ a2.toInt → a2.toInt ≤ 127 → 0 ≤ v5_3.toInt → 0 ≤ v5_4.toInt → v5_4.toInt ≤ 3 → 0 ≤ v17_6.toInt → v17_6.toInt ≤ 7 → (7 - v17_6.toInt).toNat < n17 → Wd dC dI A s.heap H locs w0 → lv_has ls 7 [(0, .ref (ad 0)), (1, .int a1), (2, .int a2), (3, .int v5_3), (4, .int v5_4), (5, .int v17_5), (6, .int v17_6)] → W p l e ({ frames := 2, cells := 0, slots := 0, locals := 34 }) s m (List.toArray [.ref (ad 0), .int a1, .int a2]) below meth c H locs 0 0 (MQ below (va_Qi (P_X12_mostAlike_1 ad cy B qr s1 a1 a2 w0) (fun u : va_W => wpost dC dI cy A u) A) (List.toArray [.ref (ad 0), .int a1, .int a2]) s 0 0 A) (F0 m 17 ls []) := by
        intro n17
        induction n17 with
        | zero => intro v17_5 v17_6 H locs ls r8 t9 r10 t11 r12 r13 t14 r15 t16 hm17 hw hl; omega
        | succ n17 ih17 =>
          intro v17_5 v17_6 H locs ls r8 t9 r10 t11 r12 r13 t14 r15 t16 hm17 hw hl
          refine lv_iload hx hb dX12_mostAlike_17 (lv_at hl 6 rfl) ?_
          refine lv_bipush (v := 7) hx hb dX12_mostAlike_19 (by decide) ?_
          refine lv_icmp_ge (tgt := 63) hx hb dX12_mostAlike_21 (by decide) (fun c17 => ?_) (fun c17 => ?_)
          · have c17 : (7 : Int) ≤ v17_6.toInt := wk_le.mp c17
            refine lv_iload hx hb dX12_mostAlike_63 (lv_at hl 5 rfl) ?_
            refine lv_iload_n hx hb dX12_mostAlike_65 rfl (lv_at hl 3 rfl) ?_
            refine lv_icmp_le (tgt := 74) hx hb dX12_mostAlike_66 (by decide) (fun c18 => ?_) (fun c18 => ?_)
            · have c18 : v17_5.toInt ≤ v5_3.toInt := wk_le.mp c18
              refine lv_iload_n hx hb dX12_mostAlike_74 rfl (lv_at hl 3 rfl) ?_
              refine lv_istore_n (lv' := [(3, .int v5_3), (0, .ref (ad 0)), (1, .int a1), (2, .int a2), (4, .int v5_4), (5, .int v17_5), (6, .int v17_6)]) hx hb dX12_mostAlike_75 rfl hl (by decide) rfl (fun ls hl => ?_)
              obtain ⟨x19, ex19⟩ : ∃ y : Int32, y = v5_4 + Int32.ofInt 1 := ⟨_, rfl⟩
              refine lv_iinc (v := x19) (lv' := [(4, .int x19), (3, .int v5_3), (0, .ref (ad 0)), (1, .int a1), (2, .int a2), (5, .int v17_5), (6, .int v17_6)]) hx hb dX12_mostAlike_76 hl (k := 4) rfl ex19.symm (by decide) rfl (fun ls hl => ?_)
              have ex19 : x19.toInt = v5_4.toInt + 1 := by rw [ex19]; exact wk_add (y := 1) (show -2147483648 ≤ v5_4.toInt + 1 by omega) (show v5_4.toInt + 1 ≤ 2147483647 by omega)
              refine lv_goto (tgt := 5) hx hb dX12_mostAlike_79 (by decide) ?_
              exact ih5 v5_3 x19 H locs ls  (show 0 ≤ a1.toInt from r8) (show a1.toInt ≤ 11 from t9) (show 1 ≤ a2.toInt from r10) (show a2.toInt ≤ 127 from t11) (show 0 ≤ v5_3.toInt from r12) (show 0 ≤ x19.toInt by omega) (show x19.toInt ≤ 4 by omega) (show (4 - x19.toInt).toNat < n5 by omega) hw   (lv_sub hl [2, 3, 4, 1, 0] rfl)
            · have c18 : v5_3.toInt < v17_5.toInt := wk_leF c18
              refine lv_iload hx hb dX12_mostAlike_69 (lv_at hl 5 rfl) ?_
              refine lv_goto (tgt := 75) hx hb dX12_mostAlike_71 (by decide) ?_
              refine lv_istore_n (lv' := [(3, .int v17_5), (0, .ref (ad 0)), (1, .int a1), (2, .int a2), (4, .int v5_4), (5, .int v17_5), (6, .int v17_6)]) hx hb dX12_mostAlike_75 rfl hl (by decide) rfl (fun ls hl => ?_)
              obtain ⟨x20, ex20⟩ : ∃ y : Int32, y = v5_4 + Int32.ofInt 1 := ⟨_, rfl⟩
              refine lv_iinc (v := x20) (lv' := [(4, .int x20), (3, .int v17_5), (0, .ref (ad 0)), (1, .int a1), (2, .int a2), (5, .int v17_5), (6, .int v17_6)]) hx hb dX12_mostAlike_76 hl (k := 4) rfl ex20.symm (by decide) rfl (fun ls hl => ?_)
              have ex20 : x20.toInt = v5_4.toInt + 1 := by rw [ex20]; exact wk_add (y := 1) (show -2147483648 ≤ v5_4.toInt + 1 by omega) (show v5_4.toInt + 1 ≤ 2147483647 by omega)
              refine lv_goto (tgt := 5) hx hb dX12_mostAlike_79 (by decide) ?_
              exact ih5 v17_5 x20 H locs ls  (show 0 ≤ a1.toInt from r8) (show a1.toInt ≤ 11 from t9) (show 1 ≤ a2.toInt from r10) (show a2.toInt ≤ 127 from t11) (show 0 ≤ v17_5.toInt by omega) (show 0 ≤ x20.toInt by omega) (show x20.toInt ≤ 4 by omega) (show (4 - x20.toInt).toNat < n5 by omega) hw   (lv_sub hl [2, 3, 4, 1, 0] rfl)
          · have c17 : v17_6.toInt < (7 : Int) := wk_leF c17
            refine lv_iload hx hb dX12_mostAlike_24 (lv_at hl 5 rfl) ?_
            refine lv_iload_n hx hb dX12_mostAlike_26 rfl (lv_at hl 2 rfl) ?_
            refine lv_iload hx hb dX12_mostAlike_27 (lv_at hl 6 rfl) ?_
            refine tk_Si hC hK hw hT hA hE hSR (k_X12_isOf_8 l adK adV dC dI cy ad B (by omega) (by omega) qr s1   a2 (show 1 ≤ a2.toInt from r10) (show a2.toInt ≤ 127 from t11) v17_6 (show 0 ≤ v17_6.toInt from r15) (show v17_6.toInt ≤ 6 by omega) w0 H.size hT ) (va_cwS 2 hC.2.2.2.2 uS_RX12_304 rfl rfl rfl (by decide +kernel) ⟨Nat.le_of_ble_eq_true rfl, Nat.le_of_ble_eq_true rfl⟩) rfl hl.1 rfl (Nat.le_of_ble_eq_true rfl) dX12_mostAlike_29 (fun r21 w23 H locs hp22 hw => ?_)
            obtain ⟨rfl, hg27⟩ := hp22
            rcases hg27 with ⟨rfl, hq25⟩ | ⟨rfl, hq26⟩
            · refine lv_if_eq (tgt := 53) hx hb dX12_mostAlike_32 (by decide) (fun _ => ?_) (fun c => absurd (by decide) c)
              refine lv_iconst (v := 0) hx hb dX12_mostAlike_53 (by decide) ?_
              refine lv_iadd hx hb dX12_mostAlike_54 ?_
              have nx28 := wk_i32 v17_5
              refine lv_topi (fun x29 ex29 => ?_)
              have ex29 : x29.toInt = v17_5.toInt + (0 : Int) := by rw [ex29]; exact wk_add (show (-2147483648) ≤ v17_5.toInt + (0 : Int) by omega) (show v17_5.toInt + (0 : Int) ≤ 2147483647 by omega)
              refine lv_istore (lv' := [(5, .int x29), (0, .ref (ad 0)), (1, .int a1), (2, .int a2), (3, .int v5_3), (4, .int v5_4), (6, .int v17_6)]) hx hb dX12_mostAlike_55 hl (by decide) rfl (fun ls hl => ?_)
              obtain ⟨x30, ex30⟩ : ∃ y : Int32, y = v17_6 + Int32.ofInt 1 := ⟨_, rfl⟩
              refine lv_iinc (v := x30) (lv' := [(6, .int x30), (5, .int x29), (0, .ref (ad 0)), (1, .int a1), (2, .int a2), (3, .int v5_3), (4, .int v5_4)]) hx hb dX12_mostAlike_57 hl (k := 6) rfl ex30.symm (by decide) rfl (fun ls hl => ?_)
              have ex30 : x30.toInt = v17_6.toInt + 1 := by rw [ex30]; exact wk_add (y := 1) (show -2147483648 ≤ v17_6.toInt + 1 by omega) (show v17_6.toInt + 1 ≤ 2147483647 by omega)
              refine lv_goto (tgt := 17) hx hb dX12_mostAlike_60 (by decide) ?_
              exact ih17 x29 x30 H locs ls  (show 0 ≤ a1.toInt from r8) (show a1.toInt ≤ 11 from t9) (show 1 ≤ a2.toInt from r10) (show a2.toInt ≤ 127 from t11) (show 0 ≤ v5_3.toInt from r12) (show 0 ≤ v5_4.toInt from r13) (show v5_4.toInt ≤ 3 from t14) (show 0 ≤ x30.toInt by omega) (show x30.toInt ≤ 7 by omega) (show (7 - x30.toInt).toNat < n17 by omega) hw   (lv_sub hl [2, 3, 4, 5, 6, 1, 0] rfl)
            · refine lv_if_eq (tgt := 53) hx hb dX12_mostAlike_32 (by decide) (fun c => absurd c (by decide)) (fun _ => ?_)
              refine lv_aload_n hx hb dX12_mostAlike_35 rfl (lv_at hl 0 rfl) ?_
              refine lv_iload_n hx hb dX12_mostAlike_36 rfl (lv_at hl 1 rfl) ?_
              refine lv_iconst (v := 3) hx hb dX12_mostAlike_37 (by decide) ?_
              refine lv_iload hx hb dX12_mostAlike_38 (lv_at hl 6 rfl) ?_
              refine lv_iadd hx hb dX12_mostAlike_40 ?_
              refine lv_topi (fun x31 ex31 => ?_)
              have ex31 : x31.toInt = (3 : Int) + v17_6.toInt := by rw [ex31]; exact wk_add (show (-2147483648) ≤ (3 : Int) + v17_6.toInt by omega) (show (3 : Int) + v17_6.toInt ≤ 2147483647 by omega)
              refine tk_Vi hC hK hw hT hA hE hSR kM_at0 (by decide) rfl (k_X12_streetOf_4 l adK adV dC dI cy ad B (by omega) (by omega) qr s1   a1 (show 0 ≤ a1.toInt from r8) (show a1.toInt ≤ 11 from t9) x31 (show 3 ≤ x31.toInt by omega) (show x31.toInt ≤ 9 by omega) w0 H.size hT ) (cwV 2 hC.2.2.2.2 uV_RX12_300 rfl rfl rfl (by decide +kernel) ⟨Nat.le_of_ble_eq_true rfl, Nat.le_of_ble_eq_true rfl⟩) rfl hl.1 rfl (Nat.le_of_ble_eq_true rfl) dX12_mostAlike_41 (fun r32 w34 H locs hp33 hw => ?_)
              obtain ⟨rfl, hg39⟩ := hp33
              obtain ⟨g36, g37, c38⟩ := hg39
              refine lv_iload hx hb dX12_mostAlike_44 (lv_at hl 4 rfl) ?_
              refine lv_icmp_ne (tgt := 53) hx hb dX12_mostAlike_46 (by decide) (fun c40 => ?_) (fun c40 => ?_)
              · have c40 : ¬ r32.toInt = v5_4.toInt := wk_eqF c40
                refine lv_iconst (v := 0) hx hb dX12_mostAlike_53 (by decide) ?_
                refine lv_iadd hx hb dX12_mostAlike_54 ?_
                have nx41 := wk_i32 v17_5
                refine lv_topi (fun x42 ex42 => ?_)
                have ex42 : x42.toInt = v17_5.toInt + (0 : Int) := by rw [ex42]; exact wk_add (show (-2147483648) ≤ v17_5.toInt + (0 : Int) by omega) (show v17_5.toInt + (0 : Int) ≤ 2147483647 by omega)
                refine lv_istore (lv' := [(5, .int x42), (0, .ref (ad 0)), (1, .int a1), (2, .int a2), (3, .int v5_3), (4, .int v5_4), (6, .int v17_6)]) hx hb dX12_mostAlike_55 hl (by decide) rfl (fun ls hl => ?_)
                obtain ⟨x43, ex43⟩ : ∃ y : Int32, y = v17_6 + Int32.ofInt 1 := ⟨_, rfl⟩
                refine lv_iinc (v := x43) (lv' := [(6, .int x43), (5, .int x42), (0, .ref (ad 0)), (1, .int a1), (2, .int a2), (3, .int v5_3), (4, .int v5_4)]) hx hb dX12_mostAlike_57 hl (k := 6) rfl ex43.symm (by decide) rfl (fun ls hl => ?_)
                have ex43 : x43.toInt = v17_6.toInt + 1 := by rw [ex43]; exact wk_add (y := 1) (show -2147483648 ≤ v17_6.toInt + 1 by omega) (show v17_6.toInt + 1 ≤ 2147483647 by omega)
                refine lv_goto (tgt := 17) hx hb dX12_mostAlike_60 (by decide) ?_
                exact ih17 x42 x43 H locs ls  (show 0 ≤ a1.toInt from r8) (show a1.toInt ≤ 11 from t9) (show 1 ≤ a2.toInt from r10) (show a2.toInt ≤ 127 from t11) (show 0 ≤ v5_3.toInt from r12) (show 0 ≤ v5_4.toInt from r13) (show v5_4.toInt ≤ 3 from t14) (show 0 ≤ x43.toInt by omega) (show x43.toInt ≤ 7 by omega) (show (7 - x43.toInt).toNat < n17 by omega) hw   (lv_sub hl [2, 3, 4, 5, 6, 1, 0] rfl)
              · have c40 : r32.toInt = v5_4.toInt := wk_eq.mp c40
                refine lv_iconst (v := 1) hx hb dX12_mostAlike_49 (by decide) ?_
                refine lv_goto (tgt := 54) hx hb dX12_mostAlike_50 (by decide) ?_
                refine lv_iadd hx hb dX12_mostAlike_54 ?_
                have nx44 := wk_i32 v17_5
                refine lv_topi (fun x45 ex45 => ?_)
                refine lv_istore (lv' := [(5, .int x45), (0, .ref (ad 0)), (1, .int a1), (2, .int a2), (3, .int v5_3), (4, .int v5_4), (6, .int v17_6)]) hx hb dX12_mostAlike_55 hl (by decide) rfl (fun ls hl => ?_)
                obtain ⟨x46, ex46⟩ : ∃ y : Int32, y = v17_6 + Int32.ofInt 1 := ⟨_, rfl⟩
                refine lv_iinc (v := x46) (lv' := [(6, .int x46), (5, .int x45), (0, .ref (ad 0)), (1, .int a1), (2, .int a2), (3, .int v5_3), (4, .int v5_4)]) hx hb dX12_mostAlike_57 hl (k := 6) rfl ex46.symm (by decide) rfl (fun ls hl => ?_)
                have ex46 : x46.toInt = v17_6.toInt + 1 := by rw [ex46]; exact wk_add (y := 1) (show -2147483648 ≤ v17_6.toInt + 1 by omega) (show v17_6.toInt + 1 ≤ 2147483647 by omega)
                refine lv_goto (tgt := 17) hx hb dX12_mostAlike_60 (by decide) ?_
                exact ih17 x45 x46 H locs ls  (show 0 ≤ a1.toInt from r8) (show a1.toInt ≤ 11 from t9) (show 1 ≤ a2.toInt from r10) (show a2.toInt ≤ 127 from t11) (show 0 ≤ v5_3.toInt from r12) (show 0 ≤ v5_4.toInt from r13) (show v5_4.toInt ≤ 3 from t14) (show 0 ≤ x46.toInt by omega) (show x46.toInt ≤ 7 by omega) (show (7 - x46.toInt).toNat < n17 by omega) hw   (lv_sub hl [2, 3, 4, 5, 6, 1, 0] rfl)
      refine lv_iload hx hb dX12_mostAlike_5 (lv_at hl 4 rfl) ?_
      refine lv_iconst (v := 4) hx hb dX12_mostAlike_7 (by decide) ?_
      refine lv_icmp_ge (tgt := 82) hx hb dX12_mostAlike_8 (by decide) (fun c47 => ?_) (fun c47 => ?_)
      · have c47 : (4 : Int) ≤ v5_4.toInt := wk_le.mp c47
        refine lv_iload_n hx hb dX12_mostAlike_82 rfl (lv_at hl 3 rfl) ?_
        exact tk_iret hC hr hlocks hK ⟨rfl, (show 0 ≤ v5_3.toInt from r5)⟩ hw dX12_mostAlike_83
      · have c47 : v5_4.toInt < (4 : Int) := wk_leF c47
        refine lv_iconst (v := 0) hx hb dX12_mostAlike_11 (by decide) ?_
        refine lv_istore (lv' := [(5, .int 0), (0, .ref (ad 0)), (1, .int a1), (2, .int a2), (3, .int v5_3), (4, .int v5_4)]) hx hb dX12_mostAlike_12 hl (by decide) rfl (fun ls hl => ?_)
        refine lv_iconst (v := 0) hx hb dX12_mostAlike_14 (by decide) ?_
        refine lv_istore (lv' := [(6, .int 0), (5, .int 0), (0, .ref (ad 0)), (1, .int a1), (2, .int a2), (3, .int v5_3), (4, .int v5_4)]) hx hb dX12_mostAlike_15 hl (by decide) rfl (fun ls hl => ?_)
        exact L17 ((7 - (0 : Int)).toNat + 1) 0 0 H locs ls  (show 0 ≤ a1.toInt from r1) (show a1.toInt ≤ 11 from t2) (show 1 ≤ a2.toInt from r3) (show a2.toInt ≤ 127 from t4) (show 0 ≤ v5_3.toInt from r5) (show 0 ≤ v5_4.toInt from r6) (show v5_4.toInt ≤ 3 by omega) (by decide) (by decide) (Nat.lt_succ_self _) hw   (lv_sub hl [2, 3, 4, 5, 6, 1, 0] rfl)
  refine lv_iconst (v := 0) hx hb dX12_mostAlike_0 (by decide) ?_
  refine lv_istore_n (lv' := [(3, .int 0), (0, .ref (ad 0)), (1, .int a1), (2, .int a2)]) hx hb dX12_mostAlike_1 rfl hl (by decide) rfl (fun ls hl => ?_)
  refine lv_iconst (v := 0) hx hb dX12_mostAlike_2 (by decide) ?_
  refine lv_istore (lv' := [(4, .int 0), (3, .int 0), (0, .ref (ad 0)), (1, .int a1), (2, .int a2)]) hx hb dX12_mostAlike_3 hl (by decide) rfl (fun ls hl => ?_)
  exact L5 ((4 - (0 : Int)).toNat + 1) 0 0 s.heap locs ls  (show 0 ≤ a1.toInt from ra1) (show a1.toInt ≤ 11 from ta1) (show 1 ≤ a2.toInt from ra2) (show a2.toInt ≤ 127 from ta2) (by decide) (by decide) (by decide) (Nat.lt_succ_self _) hw   (lv_sub hl [2, 3, 4, 1, 0] rfl)
abbrev P_X12_streetOf_10 (ad : Nat → Nat) (cy : Nat → ClassId) (B : Int) (qr : Nat) (s1 : Int) (a1 : Int32) (a2 : Int32) (w0 : va_W) : Int32 → va_W → Prop := fun r u => w0 = u ∧ ((0 ≤ r.toInt ∧ r.toInt ≤ 9 ∧ gi u 12 (10 * a1.toInt + 1 * a2.toInt + 10).toNat = r))
set_option maxHeartbeats 4000000 in
set_option maxRecDepth 100000 in
theorem k_X12_streetOf_10 (l : Launch) (adK adV : Nat → Nat) (dC : Nat → ClassId) (dI : Nat → Nat → Nat) (cy : Nat → ClassId) (ad : Nat → Nat) (B : Int) (hB0 : 100000 ≤ B) (hB1 : B ≤ 1073741824) (qr : Nat) (s1 : Int)  (a1 : Int32) (ra1 : 1 ≤ a1.toInt) (ta1 : a1.toInt ≤ 11) (a2 : Int32) (ra2 : 3 ≤ a2.toInt) (ta2 : a2.toInt ≤ 9) (w0 : va_W) (sz : Nat) (hT : TW ksM ad cy B qr 12 w0)  : Met l yX12_streetOf (wu yX12_streetOf cX12_streetOf 3 (some .int)) ({ frames := 1, cells := 0, slots := 0, locals := 12 }) (va_Pc [.ref (ad 0), .int a1, .int a2] (wpreS adK adV dC dI cy sz w0)) (va_Qi (P_X12_streetOf_10 ad cy B qr s1 a1 a2 w0) (fun u : va_W => wpost dC dI cy (va_A w0 sz) u) (va_A w0 sz)) 0 0 (va_A w0 sz) := by
  refine Met.ofW (cc := cX12_streetOf) (maxL := 3) (ret := (some .int)) (by decide) rfl ?_
  intro p e s m args below meth c s₁ Bk hml hv
  obtain ⟨rfl, ⟨hsz, hP, hK, hD0⟩, hE, hSR⟩ := hv
  have hx := Bk.exec
  have hb := Bk.bytes
  have hr := Bk.returns
  have hlocks := Bk.notSynchronized
  have hC : CallFix p m c cX12_streetOf 3 s _ (wu yX12_streetOf cX12_streetOf 3 (some .int)) RX12 := ⟨hx, hb, hml, findClass_of_methodNamed Bk.named, atoms_spec (ws := (wu yX12_streetOf cX12_streetOf 3 (some .int))) Bk.pre⟩
  subst hsz
  have hD := hD0.self (sz := s.heap.size)
  generalize hAe : va_A w0 s.heap.size = A at hD hE ⊢
  have hA : ∀ q : Nat, s.heap.size ≤ q → A q := fun q h => by rw [← hAe]; exact Or.inr h
  have hw : Wd dC dI A s.heap s.heap [] w0 := ⟨hP, hD, va_S.rf⟩
  have hF : FE ksM ([] : List (Nat × Nat × Nat)) w0 w0 := FE.rf
  have hl := lv_entry ([.ref (ad 0), .int a1, .int a2]) (n := 3) (Nat.le_of_ble_eq_true rfl)
  rw [lg_entry_eq]
  generalize (lg_sl ([.ref (ad 0), .int a1, .int a2]) ++ List.replicate (3 - (lg_sl ([.ref (ad 0), .int a1, .int a2])).length) Slot.unset).toArray = ls at hl ⊢
  have hl : lv_has ls 3 [(0, .ref (ad 0)), (1, .int a1), (2, .int a2)] := hl
  generalize hloc : ([] : List Loc) = locs at hw ⊢
  have hinX12 : ∀ w ∈ u_ws RX12 TX12 42, w ∈ (wu yX12_streetOf cX12_streetOf 3 (some .int)) := fun _ h => List.mem_cons_of_mem _ (up_71 h)
  refine lv_aload_n hx hb dX12_streetOf_0 rfl (lv_at hl 0 rfl) ?_
  refine tk_getA hC hK hw hT hinX12 kM_at0 (by decide) rfl 26 (by decide) (List.mem_cons_of_mem _ uw_7_1) rfl rfl dX12_streetOf_1 ?_
  refine lv_bipush (v := 10) hx hb dX12_streetOf_4 (by decide) ?_
  refine lv_bipush (v := 10) hx hb dX12_streetOf_6 (by decide) ?_
  refine lv_iload_n hx hb dX12_streetOf_8 rfl (lv_at hl 1 rfl) ?_
  refine lv_imul hx hb dX12_streetOf_9 ?_
  refine lv_topi (fun x1 ex1 => ?_)
  have ex1 : x1.toInt = (10 : Int) * a1.toInt := by rw [ex1]; exact wk_mul (show (-2147483648) ≤ (10 : Int) * a1.toInt by omega) (show (10 : Int) * a1.toInt ≤ 2147483647 by omega)
  refine lv_iadd hx hb dX12_streetOf_10 ?_
  refine lv_topi (fun x2 ex2 => ?_)
  have ex2 : x2.toInt = (10 : Int) + x1.toInt := by rw [ex2]; exact wk_add (show (-2147483648) ≤ (10 : Int) + x1.toInt by omega) (show (10 : Int) + x1.toInt ≤ 2147483647 by omega)
  refine lv_iload_n hx hb dX12_streetOf_11 rfl (lv_at hl 2 rfl) ?_
  refine lv_iadd hx hb dX12_streetOf_12 ?_
  refine lv_topi (fun x3 ex3 => ?_)
  have ex3 : x3.toInt = x2.toInt + a2.toInt := by rw [ex3]; exact wk_add (show (-2147483648) ≤ x2.toInt + a2.toInt by omega) (show x2.toInt + a2.toInt ≤ 2147483647 by omega)
  refine tk_ialdR hC hK hw hT kM_at12 rfl (show 0 ≤ x3.toInt by omega) (show x3.toInt < 296 by omega) dX12_streetOf_13 (fun x4 c5 Ex4 => ?_)
  have c5 : gi w0 12 (10 * a1.toInt + 1 * a2.toInt + 10).toNat = x4 := (congrArg (gi w0 12) (congrArg Int.toNat (show 10 * a1.toInt + 1 * a2.toInt + 10 = x3.toInt by omega))).trans c5
  have bx4 := tk_rgI rfl 23 1 107 0 9 (by decide +kernel) ⟨(x3.toInt - 23).toNat, by omega, show x3.toInt.toNat = 23 + 1 * (x3.toInt - 23).toNat by omega⟩ Ex4
  exact tk_iret hC hr hlocks hK ⟨rfl, ⟨(show 0 ≤ x4.toInt by omega), (show x4.toInt ≤ 9 by omega), c5⟩⟩ hw dX12_streetOf_14
abbrev P_X12_mostAlike_2 (ad : Nat → Nat) (cy : Nat → ClassId) (B : Int) (qr : Nat) (s1 : Int) (a1 : Int32) (a2 : Int32) (w0 : va_W) : Int32 → va_W → Prop := fun r u => w0 = u ∧ ((0 ≤ r.toInt))
set_option maxHeartbeats 4000000 in
set_option maxRecDepth 100000 in
theorem k_X12_mostAlike_2 (l : Launch) (adK adV : Nat → Nat) (dC : Nat → ClassId) (dI : Nat → Nat → Nat) (cy : Nat → ClassId) (ad : Nat → Nat) (B : Int) (hB0 : 100000 ≤ B) (hB1 : B ≤ 1073741824) (qr : Nat) (s1 : Int)  (a1 : Int32) (ra1 : 1 ≤ a1.toInt) (ta1 : a1.toInt ≤ 11) (a2 : Int32) (ra2 : 1 ≤ a2.toInt) (ta2 : a2.toInt ≤ 127) (w0 : va_W) (sz : Nat) (hT : TW ksM ad cy B qr 12 w0)  : Met l yX12_mostAlike (wu yX12_mostAlike cX12_mostAlike 7 (some .int)) ({ frames := 2, cells := 0, slots := 0, locals := 34 }) (va_Pc [.ref (ad 0), .int a1, .int a2] (wpreS adK adV dC dI cy sz w0)) (va_Qi (P_X12_mostAlike_2 ad cy B qr s1 a1 a2 w0) (fun u : va_W => wpost dC dI cy (va_A w0 sz) u) (va_A w0 sz)) 0 0 (va_A w0 sz) := by
  refine Met.ofW (cc := cX12_mostAlike) (maxL := 7) (ret := (some .int)) (by decide) rfl ?_
  intro p e s m args below meth c s₁ Bk hml hv
  obtain ⟨rfl, ⟨hsz, hP, hK, hD0⟩, hE, hSR⟩ := hv
  have hx := Bk.exec
  have hb := Bk.bytes
  have hr := Bk.returns
  have hlocks := Bk.notSynchronized
  have hC : CallFix p m c cX12_mostAlike 7 s _ (wu yX12_mostAlike cX12_mostAlike 7 (some .int)) RX12 := ⟨hx, hb, hml, findClass_of_methodNamed Bk.named, atoms_spec (ws := (wu yX12_mostAlike cX12_mostAlike 7 (some .int))) Bk.pre⟩
  subst hsz
  have hD := hD0.self (sz := s.heap.size)
  generalize hAe : va_A w0 s.heap.size = A at hD hE ⊢
  have hA : ∀ q : Nat, s.heap.size ≤ q → A q := fun q h => by rw [← hAe]; exact Or.inr h
  have hw : Wd dC dI A s.heap s.heap [] w0 := ⟨hP, hD, va_S.rf⟩
  have hF : FE ksM ([] : List (Nat × Nat × Nat)) w0 w0 := FE.rf
  have hl := lv_entry ([.ref (ad 0), .int a1, .int a2]) (n := 7) (Nat.le_of_ble_eq_true rfl)
  rw [lg_entry_eq]
  generalize (lg_sl ([.ref (ad 0), .int a1, .int a2]) ++ List.replicate (7 - (lg_sl ([.ref (ad 0), .int a1, .int a2])).length) Slot.unset).toArray = ls at hl ⊢
  have hl : lv_has ls 7 [(0, .ref (ad 0)), (1, .int a1), (2, .int a2)] := hl
  generalize hloc : ([] : List Loc) = locs at hw ⊢
  have L5 : ∀ (n5 : Nat) (v5_3 : Int32) (v5_4 : Int32) (H : Heap) (locs : List Loc) (ls : Array Slot), 1 ≤ a1.toInt → a1.toInt ≤ 11 → 1 ≤ a2.toInt → a2.toInt ≤ 127 → 0 ≤ v5_3.toInt → 0 ≤ v5_4.toInt → v5_4.toInt ≤ 4 → (4 - v5_4.toInt).toNat < n5 → Wd dC dI A s.heap H locs w0 → lv_has ls 7 [(0, .ref (ad 0)), (1, .int a1), (2, .int a2), (3, .int v5_3), (4, .int v5_4)] → W p l e ({ frames := 2, cells := 0, slots := 0, locals := 34 }) s m (List.toArray [.ref (ad 0), .int a1, .int a2]) below meth c H locs 0 0 (MQ below (va_Qi (P_X12_mostAlike_2 ad cy B qr s1 a1 a2 w0) (fun u : va_W => wpost dC dI cy A u) A) (List.toArray [.ref (ad 0), .int a1, .int a2]) s 0 0 A) (F0 m 5 ls []) := by
    intro n5
    induction n5 with
    | zero => intro v5_3 v5_4 H locs ls r1 t2 r3 t4 r5 r6 t7 hm5 hw hl; omega
    | succ n5 ih5 =>
      intro v5_3 v5_4 H locs ls r1 t2 r3 t4 r5 r6 t7 hm5 hw hl
      have L17 : ∀ (n17 : Nat) (v17_5 : Int32) (v17_6 : Int32) (H : Heap) (locs : List Loc) (ls : Array Slot), 1 ≤ a1.toInt → a1.toInt ≤ 11 → 1 ≤ a2.toInt → a2.toInt ≤ 127 → 0 ≤ v5_3.toInt → 0 ≤ v5_4.toInt → v5_4.toInt ≤ 3 → 0 ≤ v17_6.toInt → v17_6.toInt ≤ 7 → (7 - v17_6.toInt).toNat < n17 → Wd dC dI A s.heap H locs w0 → lv_has ls 7 [(0, .ref (ad 0)), (1, .int a1), (2, .int a2), (3, .int v5_3), (4, .int v5_4), (5, .int v17_5), (6, .int v17_6)] → W p l e ({ frames := 2, cells := 0, slots := 0, locals := 34 }) s m (List.toArray [.ref (ad 0), .int a1, .int a2]) below meth c H locs 0 0 (MQ below (va_Qi (P_X12_mostAlike_2 ad cy B qr s1 a1 a2 w0) (fun u : va_W => wpost dC dI cy A u) A) (List.toArray [.ref (ad 0), .int a1, .int a2]) s 0 0 A) (F0 m 17 ls []) := by
        intro n17
        induction n17 with
        | zero => intro v17_5 v17_6 H locs ls r8 t9 r10 t11 r12 r13 t14 r15 t16 hm17 hw hl; omega
        | succ n17 ih17 =>
          intro v17_5 v17_6 H locs ls r8 t9 r10 t11 r12 r13 t14 r15 t16 hm17 hw hl
          refine lv_iload hx hb dX12_mostAlike_17 (lv_at hl 6 rfl) ?_
          refine lv_bipush (v := 7) hx hb dX12_mostAlike_19 (by decide) ?_
          refine lv_icmp_ge (tgt := 63) hx hb dX12_mostAlike_21 (by decide) (fun c17 => ?_) (fun c17 => ?_)
          · have c17 : (7 : Int) ≤ v17_6.toInt := wk_le.mp c17
            refine lv_iload hx hb dX12_mostAlike_63 (lv_at hl 5 rfl) ?_
            refine lv_iload_n hx hb dX12_mostAlike_65 rfl (lv_at hl 3 rfl) ?_
            refine lv_icmp_le (tgt := 74) hx hb dX12_mostAlike_66 (by decide) (fun c18 => ?_) (fun c18 => ?_)
            · have c18 : v17_5.toInt ≤ v5_3.toInt := wk_le.mp c18
              refine lv_iload_n hx hb dX12_mostAlike_74 rfl (lv_at hl 3 rfl) ?_
              refine lv_istore_n (lv' := [(3, .int v5_3), (0, .ref (ad 0)), (1, .int a1), (2, .int a2), (4, .int v5_4), (5, .int v17_5), (6, .int v17_6)]) hx hb dX12_mostAlike_75 rfl hl (by decide) rfl (fun ls hl => ?_)
              obtain ⟨x19, ex19⟩ : ∃ y : Int32, y = v5_4 + Int32.ofInt 1 := ⟨_, rfl⟩
              refine lv_iinc (v := x19) (lv' := [(4, .int x19), (3, .int v5_3), (0, .ref (ad 0)), (1, .int a1), (2, .int a2), (5, .int v17_5), (6, .int v17_6)]) hx hb dX12_mostAlike_76 hl (k := 4) rfl ex19.symm (by decide) rfl (fun ls hl => ?_)
              have ex19 : x19.toInt = v5_4.toInt + 1 := by rw [ex19]; exact wk_add (y := 1) (show -2147483648 ≤ v5_4.toInt + 1 by omega) (show v5_4.toInt + 1 ≤ 2147483647 by omega)
              refine lv_goto (tgt := 5) hx hb dX12_mostAlike_79 (by decide) ?_
              exact ih5 v5_3 x19 H locs ls  (show 1 ≤ a1.toInt from r8) (show a1.toInt ≤ 11 from t9) (show 1 ≤ a2.toInt from r10) (show a2.toInt ≤ 127 from t11) (show 0 ≤ v5_3.toInt from r12) (show 0 ≤ x19.toInt by omega) (show x19.toInt ≤ 4 by omega) (show (4 - x19.toInt).toNat < n5 by omega) hw   (lv_sub hl [2, 3, 4, 1, 0] rfl)
            · have c18 : v5_3.toInt < v17_5.toInt := wk_leF c18
              refine lv_iload hx hb dX12_mostAlike_69 (lv_at hl 5 rfl) ?_
              refine lv_goto (tgt := 75) hx hb dX12_mostAlike_71 (by decide) ?_
              refine lv_istore_n (lv' := [(3, .int v17_5), (0, .ref (ad 0)), (1, .int a1), (2, .int a2), (4, .int v5_4), (5, .int v17_5), (6, .int v17_6)]) hx hb dX12_mostAlike_75 rfl hl (by decide) rfl (fun ls hl => ?_)
              obtain ⟨x20, ex20⟩ : ∃ y : Int32, y = v5_4 + Int32.ofInt 1 := ⟨_, rfl⟩
              refine lv_iinc (v := x20) (lv' := [(4, .int x20), (3, .int v17_5), (0, .ref (ad 0)), (1, .int a1), (2, .int a2), (5, .int v17_5), (6, .int v17_6)]) hx hb dX12_mostAlike_76 hl (k := 4) rfl ex20.symm (by decide) rfl (fun ls hl => ?_)
              have ex20 : x20.toInt = v5_4.toInt + 1 := by rw [ex20]; exact wk_add (y := 1) (show -2147483648 ≤ v5_4.toInt + 1 by omega) (show v5_4.toInt + 1 ≤ 2147483647 by omega)
              refine lv_goto (tgt := 5) hx hb dX12_mostAlike_79 (by decide) ?_
              exact ih5 v17_5 x20 H locs ls  (show 1 ≤ a1.toInt from r8) (show a1.toInt ≤ 11 from t9) (show 1 ≤ a2.toInt from r10) (show a2.toInt ≤ 127 from t11) (show 0 ≤ v17_5.toInt by omega) (show 0 ≤ x20.toInt by omega) (show x20.toInt ≤ 4 by omega) (show (4 - x20.toInt).toNat < n5 by omega) hw   (lv_sub hl [2, 3, 4, 1, 0] rfl)
          · have c17 : v17_6.toInt < (7 : Int) := wk_leF c17
            refine lv_iload hx hb dX12_mostAlike_24 (lv_at hl 5 rfl) ?_
            refine lv_iload_n hx hb dX12_mostAlike_26 rfl (lv_at hl 2 rfl) ?_
            refine lv_iload hx hb dX12_mostAlike_27 (lv_at hl 6 rfl) ?_
            refine tk_Si hC hK hw hT hA hE hSR (k_X12_isOf_8 l adK adV dC dI cy ad B (by omega) (by omega) qr s1   a2 (show 1 ≤ a2.toInt from r10) (show a2.toInt ≤ 127 from t11) v17_6 (show 0 ≤ v17_6.toInt from r15) (show v17_6.toInt ≤ 6 by omega) w0 H.size hT ) (va_cwS 2 hC.2.2.2.2 uS_RX12_304 rfl rfl rfl (by decide +kernel) ⟨Nat.le_of_ble_eq_true rfl, Nat.le_of_ble_eq_true rfl⟩) rfl hl.1 rfl (Nat.le_of_ble_eq_true rfl) dX12_mostAlike_29 (fun r21 w23 H locs hp22 hw => ?_)
            obtain ⟨rfl, hg27⟩ := hp22
            rcases hg27 with ⟨rfl, hq25⟩ | ⟨rfl, hq26⟩
            · refine lv_if_eq (tgt := 53) hx hb dX12_mostAlike_32 (by decide) (fun _ => ?_) (fun c => absurd (by decide) c)
              refine lv_iconst (v := 0) hx hb dX12_mostAlike_53 (by decide) ?_
              refine lv_iadd hx hb dX12_mostAlike_54 ?_
              have nx28 := wk_i32 v17_5
              refine lv_topi (fun x29 ex29 => ?_)
              have ex29 : x29.toInt = v17_5.toInt + (0 : Int) := by rw [ex29]; exact wk_add (show (-2147483648) ≤ v17_5.toInt + (0 : Int) by omega) (show v17_5.toInt + (0 : Int) ≤ 2147483647 by omega)
              refine lv_istore (lv' := [(5, .int x29), (0, .ref (ad 0)), (1, .int a1), (2, .int a2), (3, .int v5_3), (4, .int v5_4), (6, .int v17_6)]) hx hb dX12_mostAlike_55 hl (by decide) rfl (fun ls hl => ?_)
              obtain ⟨x30, ex30⟩ : ∃ y : Int32, y = v17_6 + Int32.ofInt 1 := ⟨_, rfl⟩
              refine lv_iinc (v := x30) (lv' := [(6, .int x30), (5, .int x29), (0, .ref (ad 0)), (1, .int a1), (2, .int a2), (3, .int v5_3), (4, .int v5_4)]) hx hb dX12_mostAlike_57 hl (k := 6) rfl ex30.symm (by decide) rfl (fun ls hl => ?_)
              have ex30 : x30.toInt = v17_6.toInt + 1 := by rw [ex30]; exact wk_add (y := 1) (show -2147483648 ≤ v17_6.toInt + 1 by omega) (show v17_6.toInt + 1 ≤ 2147483647 by omega)
              refine lv_goto (tgt := 17) hx hb dX12_mostAlike_60 (by decide) ?_
              exact ih17 x29 x30 H locs ls  (show 1 ≤ a1.toInt from r8) (show a1.toInt ≤ 11 from t9) (show 1 ≤ a2.toInt from r10) (show a2.toInt ≤ 127 from t11) (show 0 ≤ v5_3.toInt from r12) (show 0 ≤ v5_4.toInt from r13) (show v5_4.toInt ≤ 3 from t14) (show 0 ≤ x30.toInt by omega) (show x30.toInt ≤ 7 by omega) (show (7 - x30.toInt).toNat < n17 by omega) hw   (lv_sub hl [2, 3, 4, 5, 6, 1, 0] rfl)
            · refine lv_if_eq (tgt := 53) hx hb dX12_mostAlike_32 (by decide) (fun c => absurd c (by decide)) (fun _ => ?_)
              refine lv_aload_n hx hb dX12_mostAlike_35 rfl (lv_at hl 0 rfl) ?_
              refine lv_iload_n hx hb dX12_mostAlike_36 rfl (lv_at hl 1 rfl) ?_
              refine lv_iconst (v := 3) hx hb dX12_mostAlike_37 (by decide) ?_
              refine lv_iload hx hb dX12_mostAlike_38 (lv_at hl 6 rfl) ?_
              refine lv_iadd hx hb dX12_mostAlike_40 ?_
              refine lv_topi (fun x31 ex31 => ?_)
              have ex31 : x31.toInt = (3 : Int) + v17_6.toInt := by rw [ex31]; exact wk_add (show (-2147483648) ≤ (3 : Int) + v17_6.toInt by omega) (show (3 : Int) + v17_6.toInt ≤ 2147483647 by omega)
              refine tk_Vi hC hK hw hT hA hE hSR kM_at0 (by decide) rfl (k_X12_streetOf_10 l adK adV dC dI cy ad B (by omega) (by omega) qr s1   a1 (show 1 ≤ a1.toInt from r8) (show a1.toInt ≤ 11 from t9) x31 (show 3 ≤ x31.toInt by omega) (show x31.toInt ≤ 9 by omega) w0 H.size hT ) (cwV 2 hC.2.2.2.2 uV_RX12_300 rfl rfl rfl (by decide +kernel) ⟨Nat.le_of_ble_eq_true rfl, Nat.le_of_ble_eq_true rfl⟩) rfl hl.1 rfl (Nat.le_of_ble_eq_true rfl) dX12_mostAlike_41 (fun r32 w34 H locs hp33 hw => ?_)
              obtain ⟨rfl, hg39⟩ := hp33
              obtain ⟨g36, g37, c38⟩ := hg39
              refine lv_iload hx hb dX12_mostAlike_44 (lv_at hl 4 rfl) ?_
              refine lv_icmp_ne (tgt := 53) hx hb dX12_mostAlike_46 (by decide) (fun c40 => ?_) (fun c40 => ?_)
              · have c40 : ¬ r32.toInt = v5_4.toInt := wk_eqF c40
                refine lv_iconst (v := 0) hx hb dX12_mostAlike_53 (by decide) ?_
                refine lv_iadd hx hb dX12_mostAlike_54 ?_
                have nx41 := wk_i32 v17_5
                refine lv_topi (fun x42 ex42 => ?_)
                have ex42 : x42.toInt = v17_5.toInt + (0 : Int) := by rw [ex42]; exact wk_add (show (-2147483648) ≤ v17_5.toInt + (0 : Int) by omega) (show v17_5.toInt + (0 : Int) ≤ 2147483647 by omega)
                refine lv_istore (lv' := [(5, .int x42), (0, .ref (ad 0)), (1, .int a1), (2, .int a2), (3, .int v5_3), (4, .int v5_4), (6, .int v17_6)]) hx hb dX12_mostAlike_55 hl (by decide) rfl (fun ls hl => ?_)
                obtain ⟨x43, ex43⟩ : ∃ y : Int32, y = v17_6 + Int32.ofInt 1 := ⟨_, rfl⟩
                refine lv_iinc (v := x43) (lv' := [(6, .int x43), (5, .int x42), (0, .ref (ad 0)), (1, .int a1), (2, .int a2), (3, .int v5_3), (4, .int v5_4)]) hx hb dX12_mostAlike_57 hl (k := 6) rfl ex43.symm (by decide) rfl (fun ls hl => ?_)
                have ex43 : x43.toInt = v17_6.toInt + 1 := by rw [ex43]; exact wk_add (y := 1) (show -2147483648 ≤ v17_6.toInt + 1 by omega) (show v17_6.toInt + 1 ≤ 2147483647 by omega)
                refine lv_goto (tgt := 17) hx hb dX12_mostAlike_60 (by decide) ?_
                exact ih17 x42 x43 H locs ls  (show 1 ≤ a1.toInt from r8) (show a1.toInt ≤ 11 from t9) (show 1 ≤ a2.toInt from r10) (show a2.toInt ≤ 127 from t11) (show 0 ≤ v5_3.toInt from r12) (show 0 ≤ v5_4.toInt from r13) (show v5_4.toInt ≤ 3 from t14) (show 0 ≤ x43.toInt by omega) (show x43.toInt ≤ 7 by omega) (show (7 - x43.toInt).toNat < n17 by omega) hw   (lv_sub hl [2, 3, 4, 5, 6, 1, 0] rfl)
              · have c40 : r32.toInt = v5_4.toInt := wk_eq.mp c40
                refine lv_iconst (v := 1) hx hb dX12_mostAlike_49 (by decide) ?_
                refine lv_goto (tgt := 54) hx hb dX12_mostAlike_50 (by decide) ?_
                refine lv_iadd hx hb dX12_mostAlike_54 ?_
                have nx44 := wk_i32 v17_5
                refine lv_topi (fun x45 ex45 => ?_)
                refine lv_istore (lv' := [(5, .int x45), (0, .ref (ad 0)), (1, .int a1), (2, .int a2), (3, .int v5_3), (4, .int v5_4), (6, .int v17_6)]) hx hb dX12_mostAlike_55 hl (by decide) rfl (fun ls hl => ?_)
                obtain ⟨x46, ex46⟩ : ∃ y : Int32, y = v17_6 + Int32.ofInt 1 := ⟨_, rfl⟩
                refine lv_iinc (v := x46) (lv' := [(6, .int x46), (5, .int x45), (0, .ref (ad 0)), (1, .int a1), (2, .int a2), (3, .int v5_3), (4, .int v5_4)]) hx hb dX12_mostAlike_57 hl (k := 6) rfl ex46.symm (by decide) rfl (fun ls hl => ?_)
                have ex46 : x46.toInt = v17_6.toInt + 1 := by rw [ex46]; exact wk_add (y := 1) (show -2147483648 ≤ v17_6.toInt + 1 by omega) (show v17_6.toInt + 1 ≤ 2147483647 by omega)
                refine lv_goto (tgt := 17) hx hb dX12_mostAlike_60 (by decide) ?_
                exact ih17 x45 x46 H locs ls  (show 1 ≤ a1.toInt from r8) (show a1.toInt ≤ 11 from t9) (show 1 ≤ a2.toInt from r10) (show a2.toInt ≤ 127 from t11) (show 0 ≤ v5_3.toInt from r12) (show 0 ≤ v5_4.toInt from r13) (show v5_4.toInt ≤ 3 from t14) (show 0 ≤ x46.toInt by omega) (show x46.toInt ≤ 7 by omega) (show (7 - x46.toInt).toNat < n17 by omega) hw   (lv_sub hl [2, 3, 4, 5, 6, 1, 0] rfl)
      refine lv_iload hx hb dX12_mostAlike_5 (lv_at hl 4 rfl) ?_
      refine lv_iconst (v := 4) hx hb dX12_mostAlike_7 (by decide) ?_
      refine lv_icmp_ge (tgt := 82) hx hb dX12_mostAlike_8 (by decide) (fun c47 => ?_) (fun c47 => ?_)
      · have c47 : (4 : Int) ≤ v5_4.toInt := wk_le.mp c47
        refine lv_iload_n hx hb dX12_mostAlike_82 rfl (lv_at hl 3 rfl) ?_
        exact tk_iret hC hr hlocks hK ⟨rfl, (show 0 ≤ v5_3.toInt from r5)⟩ hw dX12_mostAlike_83
      · have c47 : v5_4.toInt < (4 : Int) := wk_leF c47
        refine lv_iconst (v := 0) hx hb dX12_mostAlike_11 (by decide) ?_
        refine lv_istore (lv' := [(5, .int 0), (0, .ref (ad 0)), (1, .int a1), (2, .int a2), (3, .int v5_3), (4, .int v5_4)]) hx hb dX12_mostAlike_12 hl (by decide) rfl (fun ls hl => ?_)
        refine lv_iconst (v := 0) hx hb dX12_mostAlike_14 (by decide) ?_
        refine lv_istore (lv' := [(6, .int 0), (5, .int 0), (0, .ref (ad 0)), (1, .int a1), (2, .int a2), (3, .int v5_3), (4, .int v5_4)]) hx hb dX12_mostAlike_15 hl (by decide) rfl (fun ls hl => ?_)
        exact L17 ((7 - (0 : Int)).toNat + 1) 0 0 H locs ls  (show 1 ≤ a1.toInt from r1) (show a1.toInt ≤ 11 from t2) (show 1 ≤ a2.toInt from r3) (show a2.toInt ≤ 127 from t4) (show 0 ≤ v5_3.toInt from r5) (show 0 ≤ v5_4.toInt from r6) (show v5_4.toInt ≤ 3 by omega) (by decide) (by decide) (Nat.lt_succ_self _) hw   (lv_sub hl [2, 3, 4, 5, 6, 1, 0] rfl)
  refine lv_iconst (v := 0) hx hb dX12_mostAlike_0 (by decide) ?_
  refine lv_istore_n (lv' := [(3, .int 0), (0, .ref (ad 0)), (1, .int a1), (2, .int a2)]) hx hb dX12_mostAlike_1 rfl hl (by decide) rfl (fun ls hl => ?_)
  refine lv_iconst (v := 0) hx hb dX12_mostAlike_2 (by decide) ?_
  refine lv_istore (lv' := [(4, .int 0), (3, .int 0), (0, .ref (ad 0)), (1, .int a1), (2, .int a2)]) hx hb dX12_mostAlike_3 hl (by decide) rfl (fun ls hl => ?_)
  exact L5 ((4 - (0 : Int)).toNat + 1) 0 0 s.heap locs ls  (show 1 ≤ a1.toInt from ra1) (show a1.toInt ≤ 11 from ta1) (show 1 ≤ a2.toInt from ra2) (show a2.toInt ≤ 127 from ta2) (by decide) (by decide) (by decide) (Nat.lt_succ_self _) hw   (lv_sub hl [2, 3, 4, 1, 0] rfl)
abbrev P_X12_weekdays_1 (ad : Nat → Nat) (cy : Nat → ClassId) (B : Int) (qr : Nat) (s1 : Int) (a1 : Int32) (w0 : va_W) : Int32 → va_W → Prop := fun r u => w0 = u ∧ ((r = (-2) ∧ (∃ y : Int32, gi u 12 0 = y ∧ 1 ≤ y.toInt ∧ y.toInt ≤ 10)) ∨ (0 ≤ r.toInt ∧ r.toInt ≤ 127 ∧ (∃ y : Int32, gi u 12 0 = y ∧ 1 ≤ y.toInt ∧ y.toInt ≤ 10)) ∨ (r = (-1)))
set_option maxHeartbeats 4000000 in
set_option maxRecDepth 100000 in
theorem k_X12_weekdays_1 (l : Launch) (adK adV : Nat → Nat) (dC : Nat → ClassId) (dI : Nat → Nat → Nat) (cy : Nat → ClassId) (ad : Nat → Nat) (B : Int) (hB0 : 100000 ≤ B) (hB1 : B ≤ 1073741824) (qr : Nat) (s1 : Int)  (a1 : Int32) (w0 : va_W) (sz : Nat) (hT : TW ksM ad cy B qr 12 w0)  : Met l yX12_weekdays (wu yX12_weekdays cX12_weekdays 5 (some .int)) ({ frames := 3, cells := 0, slots := 0, locals := 60 }) (va_Pc [.ref (ad 0), .int a1] (wpreS adK adV dC dI cy sz w0)) (va_Qi (P_X12_weekdays_1 ad cy B qr s1 a1 w0) (fun u : va_W => wpost dC dI cy (va_A w0 sz) u) (va_A w0 sz)) 0 0 (va_A w0 sz) := by
  refine Met.ofW (cc := cX12_weekdays) (maxL := 5) (ret := (some .int)) (by decide) rfl ?_
  intro p e s m args below meth c s₁ Bk hml hv
  obtain ⟨rfl, ⟨hsz, hP, hK, hD0⟩, hE, hSR⟩ := hv
  have hx := Bk.exec
  have hb := Bk.bytes
  have hr := Bk.returns
  have hlocks := Bk.notSynchronized
  have hC : CallFix p m c cX12_weekdays 5 s _ (wu yX12_weekdays cX12_weekdays 5 (some .int)) RX12 := ⟨hx, hb, hml, findClass_of_methodNamed Bk.named, atoms_spec (ws := (wu yX12_weekdays cX12_weekdays 5 (some .int))) Bk.pre⟩
  subst hsz
  have hD := hD0.self (sz := s.heap.size)
  generalize hAe : va_A w0 s.heap.size = A at hD hE ⊢
  have hA : ∀ q : Nat, s.heap.size ≤ q → A q := fun q h => by rw [← hAe]; exact Or.inr h
  have hw : Wd dC dI A s.heap s.heap [] w0 := ⟨hP, hD, va_S.rf⟩
  have hF : FE ksM ([] : List (Nat × Nat × Nat)) w0 w0 := FE.rf
  have hl := lv_entry ([.ref (ad 0), .int a1]) (n := 5) (Nat.le_of_ble_eq_true rfl)
  rw [lg_entry_eq]
  generalize (lg_sl ([.ref (ad 0), .int a1]) ++ List.replicate (5 - (lg_sl ([.ref (ad 0), .int a1])).length) Slot.unset).toArray = ls at hl ⊢
  have hl : lv_has ls 5 [(0, .ref (ad 0)), (1, .int a1)] := hl
  generalize hloc : ([] : List Loc) = locs at hw ⊢
  have hinX12 : ∀ w ∈ u_ws RX12 TX12 42, w ∈ (wu yX12_weekdays cX12_weekdays 5 (some .int)) := fun _ h => List.mem_cons_of_mem _ (up_71 h)
  have J17 : ∀ (f17_12_0 : Int32) (H : Heap) (locs : List Loc) (ls : Array Slot), 0 ≤ f17_12_0.toInt → f17_12_0.toInt ≤ 10 → Wd dC dI A s.heap H locs w0 → gi w0 12 0 = f17_12_0 → lv_has ls 5 [(0, .ref (ad 0)), (1, .int a1)] → W p l e ({ frames := 3, cells := 0, slots := 0, locals := 60 }) s m (List.toArray [.ref (ad 0), .int a1]) below meth c H locs 0 0 (MQ below (va_Qi (P_X12_weekdays_1 ad cy B qr s1 a1 w0) (fun u : va_W => wpost dC dI cy A u) A) (List.toArray [.ref (ad 0), .int a1]) s 0 0 A) (F0 m 17 ls []) := by
    intro f17_12_0 H locs ls r1 t2 hw c3 hl
    refine lv_iconst (v := (-1)) hx hb dX12_weekdays_17 (by decide) ?_
    exact tk_iret hC hr hlocks hK ⟨rfl, (Or.inr (Or.inr rfl))⟩ hw dX12_weekdays_18
  have J43 : ∀ (v43_2 : Int32) (f43_12_0 : Int32) (H : Heap) (locs : List Loc) (ls : Array Slot), 0 ≤ v43_2.toInt → v43_2.toInt ≤ 127 → 1 ≤ f43_12_0.toInt → f43_12_0.toInt ≤ 10 → Wd dC dI A s.heap H locs w0 → gi w0 12 0 = f43_12_0 → lv_has ls 5 [(0, .ref (ad 0)), (1, .int 1), (2, .int v43_2)] → W p l e ({ frames := 3, cells := 0, slots := 0, locals := 60 }) s m (List.toArray [.ref (ad 0), .int a1]) below meth c H locs 0 0 (MQ below (va_Qi (P_X12_weekdays_1 ad cy B qr s1 a1 w0) (fun u : va_W => wpost dC dI cy A u) A) (List.toArray [.ref (ad 0), .int a1]) s 0 0 A) (F0 m 43 ls []) := by
    intro v43_2 f43_12_0 H locs ls r4 t5 r6 t7 hw c8 hl
    refine lv_bipush (v := (-2)) hx hb dX12_weekdays_43 (by decide) ?_
    exact tk_iret hC hr hlocks hK ⟨rfl, (Or.inl ⟨rfl, ⟨f43_12_0, c8, (show 1 ≤ f43_12_0.toInt from r6), (show f43_12_0.toInt ≤ 10 from t7)⟩⟩)⟩ hw dX12_weekdays_45
  have L51 : ∀ (n51 : Nat) (v51_2 : Int32) (v51_3 : Int32) (v51_4 : Int32) (f51_12_0 : Int32) (f51_12_1 : Int32) (H : Heap) (locs : List Loc) (ls : Array Slot), 1 ≤ v51_2.toInt → v51_2.toInt ≤ 127 → 0 ≤ v51_3.toInt → v51_3.toInt ≤ 11 → 1 ≤ v51_4.toInt → v51_4.toInt ≤ 12 → 1 ≤ f51_12_0.toInt → f51_12_0.toInt ≤ 10 → 1 ≤ f51_12_1.toInt → f51_12_1.toInt ≤ 12 → (12 - v51_4.toInt).toNat < n51 → Wd dC dI A s.heap H locs w0 → gi w0 12 0 = f51_12_0 → gi w0 12 1 = f51_12_1 → lv_has ls 5 [(0, .ref (ad 0)), (1, .int 1), (2, .int v51_2), (3, .int v51_3), (4, .int v51_4)] → W p l e ({ frames := 3, cells := 0, slots := 0, locals := 60 }) s m (List.toArray [.ref (ad 0), .int a1]) below meth c H locs 0 0 (MQ below (va_Qi (P_X12_weekdays_1 ad cy B qr s1 a1 w0) (fun u : va_W => wpost dC dI cy A u) A) (List.toArray [.ref (ad 0), .int a1]) s 0 0 A) (F0 m 51 ls []) := by
    intro n51
    induction n51 with
    | zero => intro v51_2 v51_3 v51_4 f51_12_0 f51_12_1 H locs ls r9 t10 r11 t12 r13 t14 r15 t16 r18 t19 hm51 hw c17 c20 hl; omega
    | succ n51 ih51 =>
      intro v51_2 v51_3 v51_4 f51_12_0 f51_12_1 H locs ls r9 t10 r11 t12 r13 t14 r15 t16 r18 t19 hm51 hw c17 c20 hl
      refine lv_iload hx hb dX12_weekdays_51 (lv_at hl 4 rfl) ?_
      refine lv_aload_n hx hb dX12_weekdays_53 rfl (lv_at hl 0 rfl) ?_
      refine tk_getA hC hK hw hT hinX12 kM_at0 (by decide) rfl 26 (by decide) (List.mem_cons_of_mem _ uw_7_1) rfl rfl dX12_weekdays_54 ?_
      refine lv_iconst (v := 1) hx hb dX12_weekdays_57 (by decide) ?_
      refine tk_ialdR hC hK hw hT kM_at12 rfl (by decide) (by decide) dX12_weekdays_58 (fun x21 c22 Ex21 => ?_)
      refine wk_top f51_12_1 (c22.symm.trans c20) ?_
      refine lv_icmp_ge (tgt := 91) hx hb dX12_weekdays_59 (by decide) (fun c23 => ?_) (fun c23 => ?_)
      · have c23 : f51_12_1.toInt ≤ v51_4.toInt := wk_le.mp c23
        refine lv_iload_n hx hb dX12_weekdays_91 rfl (lv_at hl 3 rfl) ?_
        exact tk_iret hC hr hlocks hK ⟨rfl, (Or.inr (Or.inl ⟨(show 0 ≤ v51_3.toInt from r11), (show v51_3.toInt ≤ 127 from Int.le_trans t12 (by decide)), ⟨f51_12_0, c17, (show 1 ≤ f51_12_0.toInt from r15), (show f51_12_0.toInt ≤ 10 from t16)⟩⟩))⟩ hw dX12_weekdays_92
      · have c23 : v51_4.toInt < f51_12_1.toInt := wk_leF c23
        refine lv_aload_n hx hb dX12_weekdays_62 rfl (lv_at hl 0 rfl) ?_
        refine lv_iload hx hb dX12_weekdays_63 (lv_at hl 4 rfl) ?_
        refine lv_iload_n hx hb dX12_weekdays_65 rfl (lv_at hl 2 rfl) ?_
        refine tk_Vi hC hK hw hT hA hE hSR kM_at0 (by decide) rfl (k_X12_mostAlike_2 l adK adV dC dI cy ad B (by omega) (by omega) qr s1   v51_4 (show 1 ≤ v51_4.toInt from r13) (show v51_4.toInt ≤ 11 by omega) v51_2 (show 1 ≤ v51_2.toInt from r9) (show v51_2.toInt ≤ 127 from t10) w0 H.size hT ) (cwV 2 hC.2.2.2.2 uV_RX12_484 rfl rfl rfl (by decide +kernel) ⟨Nat.le_of_ble_eq_true rfl, Nat.le_of_ble_eq_true rfl⟩) rfl hl.1 rfl (Nat.le_of_ble_eq_true rfl) dX12_weekdays_66 (fun r24 w26 H locs hp25 hw => ?_)
        obtain ⟨rfl, hg29⟩ := hp25
        obtain g28 := hg29
        refine lv_aload_n hx hb dX12_weekdays_69 rfl (lv_at hl 0 rfl) ?_
        refine lv_iload_n hx hb dX12_weekdays_70 rfl (lv_at hl 3 rfl) ?_
        refine lv_iload_n hx hb dX12_weekdays_71 rfl (lv_at hl 2 rfl) ?_
        refine tk_Vi hC hK hw hT hA hE hSR kM_at0 (by decide) rfl (k_X12_mostAlike_1 l adK adV dC dI cy ad B (by omega) (by omega) qr s1   v51_3 (show 0 ≤ v51_3.toInt from r11) (show v51_3.toInt ≤ 11 from t12) v51_2 (show 1 ≤ v51_2.toInt from r9) (show v51_2.toInt ≤ 127 from t10) w0 H.size hT ) (cwV 2 hC.2.2.2.2 uV_RX12_484 rfl rfl rfl (by decide +kernel) ⟨Nat.le_of_ble_eq_true rfl, Nat.le_of_ble_eq_true rfl⟩) rfl hl.1 rfl (Nat.le_of_ble_eq_true rfl) dX12_weekdays_72 (fun r30 w32 H locs hp31 hw => ?_)
        obtain ⟨rfl, hg35⟩ := hp31
        obtain g34 := hg35
        refine lv_icmp_ge (tgt := 83) hx hb dX12_weekdays_75 (by decide) (fun c36 => ?_) (fun c36 => ?_)
        · have c36 : r30.toInt ≤ r24.toInt := wk_le.mp c36
          refine lv_iload_n hx hb dX12_weekdays_83 rfl (lv_at hl 3 rfl) ?_
          refine lv_istore_n (lv' := [(3, .int v51_3), (0, .ref (ad 0)), (1, .int 1), (2, .int v51_2), (4, .int v51_4)]) hx hb dX12_weekdays_84 rfl hl (by decide) rfl (fun ls hl => ?_)
          obtain ⟨x37, ex37⟩ : ∃ y : Int32, y = v51_4 + Int32.ofInt 1 := ⟨_, rfl⟩
          refine lv_iinc (v := x37) (lv' := [(4, .int x37), (3, .int v51_3), (0, .ref (ad 0)), (1, .int 1), (2, .int v51_2)]) hx hb dX12_weekdays_85 hl (k := 4) rfl ex37.symm (by decide) rfl (fun ls hl => ?_)
          have ex37 : x37.toInt = v51_4.toInt + 1 := by rw [ex37]; exact wk_add (y := 1) (show -2147483648 ≤ v51_4.toInt + 1 by omega) (show v51_4.toInt + 1 ≤ 2147483647 by omega)
          refine lv_goto (tgt := 51) hx hb dX12_weekdays_88 (by decide) ?_
          exact ih51 v51_2 v51_3 x37 f51_12_0 f51_12_1 H locs ls  (show 1 ≤ v51_2.toInt from r9) (show v51_2.toInt ≤ 127 from t10) (show 0 ≤ v51_3.toInt from r11) (show v51_3.toInt ≤ 11 from t12) (show 1 ≤ x37.toInt by omega) (show x37.toInt ≤ 12 by omega) (show 1 ≤ f51_12_0.toInt from r15) (show f51_12_0.toInt ≤ 10 from t16) (show 1 ≤ f51_12_1.toInt from r18) (show f51_12_1.toInt ≤ 12 from t19) (show (12 - x37.toInt).toNat < n51 by omega) hw  c17 c20 (lv_sub hl [2, 3, 4, 1, 0] rfl)
        · have c36 : r24.toInt < r30.toInt := wk_leF c36
          refine lv_iload hx hb dX12_weekdays_78 (lv_at hl 4 rfl) ?_
          refine lv_goto (tgt := 84) hx hb dX12_weekdays_80 (by decide) ?_
          refine lv_istore_n (lv' := [(3, .int v51_4), (0, .ref (ad 0)), (1, .int 1), (2, .int v51_2), (4, .int v51_4)]) hx hb dX12_weekdays_84 rfl hl (by decide) rfl (fun ls hl => ?_)
          obtain ⟨x38, ex38⟩ : ∃ y : Int32, y = v51_4 + Int32.ofInt 1 := ⟨_, rfl⟩
          refine lv_iinc (v := x38) (lv' := [(4, .int x38), (3, .int v51_4), (0, .ref (ad 0)), (1, .int 1), (2, .int v51_2)]) hx hb dX12_weekdays_85 hl (k := 4) rfl ex38.symm (by decide) rfl (fun ls hl => ?_)
          have ex38 : x38.toInt = v51_4.toInt + 1 := by rw [ex38]; exact wk_add (y := 1) (show -2147483648 ≤ v51_4.toInt + 1 by omega) (show v51_4.toInt + 1 ≤ 2147483647 by omega)
          refine lv_goto (tgt := 51) hx hb dX12_weekdays_88 (by decide) ?_
          exact ih51 v51_2 v51_4 x38 f51_12_0 f51_12_1 H locs ls  (show 1 ≤ v51_2.toInt from r9) (show v51_2.toInt ≤ 127 from t10) (show 0 ≤ v51_4.toInt from Int.le_trans (by decide) r13) (show v51_4.toInt ≤ 11 by omega) (show 1 ≤ x38.toInt by omega) (show x38.toInt ≤ 12 by omega) (show 1 ≤ f51_12_0.toInt from r15) (show f51_12_0.toInt ≤ 10 from t16) (show 1 ≤ f51_12_1.toInt from r18) (show f51_12_1.toInt ≤ 12 from t19) (show (12 - x38.toInt).toNat < n51 by omega) hw  c17 c20 (lv_sub hl [2, 3, 4, 1, 0] rfl)
  refine lv_aload_n hx hb dX12_weekdays_0 rfl (lv_at hl 0 rfl) ?_
  refine tk_Vi hC hK hw hT hA hE hSR kM_at0 (by decide) rfl (k_X12_isTown_1 l adK adV dC dI cy ad B (by omega) (by omega) qr s1    w0 s.heap.size hT ) (cwV 0 hC.2.2.2.2 uV_RX12_337 rfl rfl rfl (by decide +kernel) ⟨Nat.le_of_ble_eq_true rfl, Nat.le_of_ble_eq_true rfl⟩) rfl hl.1 rfl (Nat.le_of_ble_eq_true rfl) dX12_weekdays_1 (fun r39 w41 H locs hp40 hw => ?_)
  obtain ⟨rfl, hg47⟩ := hp40
  rcases hg47 with ⟨rfl, ⟨x43, c44, rx43, tx43⟩⟩ | ⟨rfl, ⟨x45, c46, rx45, tx45⟩⟩
  · refine lv_if_eq (tgt := 17) hx hb dX12_weekdays_4 (by decide) (fun _ => ?_) (fun c => absurd (by decide) c)
    exact J17 x43 H locs ls  (show 0 ≤ x43.toInt by omega) (show x43.toInt ≤ 10 by omega)  hw  c44 (lv_sub hl [0, 1] rfl)
  · refine lv_if_eq (tgt := 17) hx hb dX12_weekdays_4 (by decide) (fun c => absurd c (by decide)) (fun _ => ?_)
    refine lv_iload_n hx hb dX12_weekdays_7 rfl (lv_at hl 1 rfl) ?_
    refine lv_i2l hx hb dX12_weekdays_8 rfl ?_
    refine lv_topl (fun x48 ex48 => ?_)
    have ex48 : x48.toInt = a1.toInt := by rw [ex48]; exact wk_i2l _
    have bx48 := wk_i32 a1
    refine lv_lconst (v := 0) hx hb dX12_weekdays_9 (by decide) ?_
    refine lv_lconst (v := 1) hx hb dX12_weekdays_10 (by decide) ?_
    refine tk_Si hC hK hw hT hA hE hSR (k_X12_in_12 l adK adV dC dI cy ad B (by omega) (by omega) qr s1   x48 (show (-2147483648) ≤ x48.toInt by omega) (show x48.toInt ≤ 2147483647 by omega) w0 H.size hT ) (va_cwS 3 hC.2.2.2.2 uS_RX12_122 rfl rfl rfl (by decide +kernel) ⟨Nat.le_of_ble_eq_true rfl, Nat.le_of_ble_eq_true rfl⟩) rfl hl.1 rfl (Nat.le_of_ble_eq_true rfl) dX12_weekdays_11 (fun r49 w51 H locs hp50 hw => ?_)
    obtain ⟨rfl, hg55⟩ := hp50
    rcases hg55 with rfl | ⟨rfl, g53, g54⟩
    · refine lv_if_ne (tgt := 19) hx hb dX12_weekdays_14 (by decide) (fun c => absurd (by decide) c) (fun _ => ?_)
      exact J17 x45 H locs ls  (show 0 ≤ x45.toInt by omega) (show x45.toInt ≤ 10 by omega)  hw  c46 (lv_sub hl [0, 1] rfl)
    · refine lv_if_ne (tgt := 19) hx hb dX12_weekdays_14 (by decide) (fun _ => ?_) (fun c => absurd c (by decide))
      refine lv_aload_n hx hb dX12_weekdays_19 rfl (lv_at hl 0 rfl) ?_
      refine tk_Vi hC hK hw hT hA hE hSR kM_at0 (by decide) rfl (k_X12_fitting_1 l adK adV dC dI cy ad B (by omega) (by omega) qr s1    w0 H.size hT ) (cwV 0 hC.2.2.2.2 uV_RX12_481 rfl rfl rfl (by decide +kernel) ⟨Nat.le_of_ble_eq_true rfl, Nat.le_of_ble_eq_true rfl⟩) rfl hl.1 rfl (Nat.le_of_ble_eq_true rfl) dX12_weekdays_20 (fun r56 w58 H locs hp57 hw => ?_)
      obtain ⟨rfl, hg62⟩ := hp57
      obtain ⟨g60, g61⟩ := hg62
      refine lv_istore_n (lv' := [(2, .int r56), (0, .ref (ad 0)), (1, .int a1)]) hx hb dX12_weekdays_23 rfl hl (by decide) rfl (fun ls hl => ?_)
      refine lv_iload_n hx hb dX12_weekdays_24 rfl (lv_at hl 2 rfl) ?_
      refine lv_if_ne (tgt := 30) hx hb dX12_weekdays_25 (by decide) (fun c63 => ?_) (fun c63 => ?_)
      · have c63 : ¬ a1.toInt = (0 : Int) := wk_eqF c63
        refine lv_iload_n hx hb dX12_weekdays_30 rfl (lv_at hl 0 rfl) ?_
        refine lv_if_eq (tgt := 43) hx hb dX12_weekdays_31 (by decide) (fun c64 => ?_) (fun c64 => ?_)
        · have c64 : r56.toInt = (0 : Int) := wk_eq.mp c64
          obtain rfl : a1 = 1 := wk_eq.mpr (show a1.toInt = 1 by omega)
          exact J43 r56 x45 H locs ls  (show 0 ≤ r56.toInt by omega) (show r56.toInt ≤ 127 by omega) (show 1 ≤ x45.toInt by omega) (show x45.toInt ≤ 10 by omega)  hw  c46 (lv_sub hl [1, 2, 0] rfl)
        · have c64 : ¬ r56.toInt = (0 : Int) := wk_eqF c64
          refine lv_aload_n hx hb dX12_weekdays_34 rfl (lv_at hl 1 rfl) ?_
          refine tk_getA hC hK hw hT hinX12 kM_at0 (by decide) rfl 26 (by decide) (List.mem_cons_of_mem _ uw_7_1) rfl rfl dX12_weekdays_35 ?_
          refine lv_iconst (v := 1) hx hb dX12_weekdays_38 (by decide) ?_
          refine tk_ialdR hC hK hw hT kM_at12 rfl (by decide) (by decide) dX12_weekdays_39 (fun x65 c66 Ex65 => ?_)
          have bx65 : 0 ≤ x65.toInt ∧ x65.toInt ≤ 12 := (tk_rg1 rfl).mp Ex65
          have c66 : gi w0 12 1 = x65 := c66
          refine lv_if_ne (tgt := 46) hx hb dX12_weekdays_40 (by decide) (fun c67 => ?_) (fun c67 => ?_)
          · have c67 : ¬ x65.toInt = (0 : Int) := wk_eqF c67
            refine lv_iconst (v := 0) hx hb dX12_weekdays_46 (by decide) ?_
            refine lv_istore_n (lv' := [(3, .int 0), (2, .int r56), (0, .ref (ad 0)), (1, .int a1)]) hx hb dX12_weekdays_47 rfl hl (by decide) rfl (fun ls hl => ?_)
            refine lv_iconst (v := 1) hx hb dX12_weekdays_48 (by decide) ?_
            refine lv_istore (lv' := [(4, .int 1), (3, .int 0), (2, .int r56), (0, .ref (ad 0)), (1, .int a1)]) hx hb dX12_weekdays_49 hl (by decide) rfl (fun ls hl => ?_)
            obtain rfl : a1 = 1 := wk_eq.mpr (show a1.toInt = 1 by omega)
            exact L51 ((12 - (1 : Int)).toNat + 1) r56 0 1 x45 x65 H locs ls  (show 1 ≤ r56.toInt by omega) (show r56.toInt ≤ 127 by omega) (by decide) (by decide) (by decide) (by decide) (show 1 ≤ x45.toInt by omega) (show x45.toInt ≤ 10 by omega) (show 1 ≤ x65.toInt by omega) (show x65.toInt ≤ 12 by omega) (Nat.lt_succ_self _) hw  c46 c66 (lv_sub hl [3, 4, 2, 1, 0] rfl)
          · have c67 : x65.toInt = (0 : Int) := wk_eq.mp c67
            obtain rfl : a1 = 1 := wk_eq.mpr (show a1.toInt = 1 by omega)
            exact J43 r56 x45 H locs ls  (show 0 ≤ r56.toInt by omega) (show r56.toInt ≤ 127 by omega) (show 1 ≤ x45.toInt by omega) (show x45.toInt ≤ 10 by omega)  hw  c46 (lv_sub hl [1, 2, 0] rfl)
      · have c63 : a1.toInt = (0 : Int) := wk_eq.mp c63
        refine lv_iload_n hx hb dX12_weekdays_28 rfl (lv_at hl 0 rfl) ?_
        exact tk_iret hC hr hlocks hK ⟨rfl, (Or.inr (Or.inl ⟨(show 0 ≤ r56.toInt by omega), (show r56.toInt ≤ 127 by omega), ⟨x45, c46, (show 1 ≤ x45.toInt by omega), (show x45.toInt ≤ 10 by omega)⟩⟩))⟩ hw dX12_weekdays_29
abbrev P_X12_isHis_1 (ad : Nat → Nat) (cy : Nat → ClassId) (B : Int) (qr : Nat) (s1 : Int) (a1 : Int32) (w0 : va_W) : Int32 → va_W → Prop := fun r u => TW ksM ad cy (B + 900) qr 12 u ∧ FE ksM [(12, 24, 24), (12, 31, 31), (69, 0, 64), (70, 0, 10), (71, 216, 243), (71, 220, 247), (71, 221, 248), (71, 222, 249), (71, 223, 250), (71, 224, 251), (72, 0, 12), (73, 0, 10)] w0 u ∧ ((r = 0) ∨ (r = 1))
set_option maxHeartbeats 4000000 in
set_option maxRecDepth 100000 in
theorem k_X12_isHis_1 (l : Launch) (adK adV : Nat → Nat) (dC : Nat → ClassId) (dI : Nat → Nat → Nat) (cy : Nat → ClassId) (ad : Nat → Nat) (B : Int) (hB0 : 100000 ≤ B) (hB1 : B ≤ 1073740924) (qr : Nat) (s1 : Int)  (a1 : Int32) (ra1 : 0 ≤ a1.toInt) (ta1 : a1.toInt ≤ 3) (w0 : va_W) (sz : Nat) (hT : TW ksM ad cy B qr 12 w0) (hRW : RW w0) : Met l yX12_isHis (wu yX12_isHis cX12_isHis 4 (some .boolean)) ({ frames := 9, cells := 0, slots := 0, locals := 194 }) (va_Pc [.ref (ad 0), .int a1] (wpreS adK adV dC dI cy sz w0)) (va_Qi (P_X12_isHis_1 ad cy B qr s1 a1 w0) (fun u : va_W => wpost dC dI cy (va_A w0 sz) u) (va_A w0 sz)) 0 0 (va_A w0 sz) := by
  refine Met.ofW (cc := cX12_isHis) (maxL := 4) (ret := (some .boolean)) (by decide) rfl ?_
  intro p e s m args below meth c s₁ Bk hml hv
  obtain ⟨rfl, ⟨hsz, hP, hK, hD0⟩, hE, hSR⟩ := hv
  have hx := Bk.exec
  have hb := Bk.bytes
  have hr := Bk.returns
  have hlocks := Bk.notSynchronized
  have hC : CallFix p m c cX12_isHis 4 s _ (wu yX12_isHis cX12_isHis 4 (some .boolean)) RX12 := ⟨hx, hb, hml, findClass_of_methodNamed Bk.named, atoms_spec (ws := (wu yX12_isHis cX12_isHis 4 (some .boolean))) Bk.pre⟩
  subst hsz
  have hD := hD0.self (sz := s.heap.size)
  generalize hAe : va_A w0 s.heap.size = A at hD hE ⊢
  have hA : ∀ q : Nat, s.heap.size ≤ q → A q := fun q h => by rw [← hAe]; exact Or.inr h
  have hw : Wd dC dI A s.heap s.heap [] w0 := ⟨hP, hD, va_S.rf⟩
  have hF : FE ksM [(12, 24, 24), (12, 31, 31), (69, 0, 64), (70, 0, 10), (71, 216, 243), (71, 220, 247), (71, 221, 248), (71, 222, 249), (71, 223, 250), (71, 224, 251), (72, 0, 12), (73, 0, 10)] w0 w0 := FE.rf
  have hl := lv_entry ([.ref (ad 0), .int a1]) (n := 4) (Nat.le_of_ble_eq_true rfl)
  rw [lg_entry_eq]
  generalize (lg_sl ([.ref (ad 0), .int a1]) ++ List.replicate (4 - (lg_sl ([.ref (ad 0), .int a1])).length) Slot.unset).toArray = ls at hl ⊢
  have hl : lv_has ls 4 [(0, .ref (ad 0)), (1, .int a1)] := hl
  generalize hloc : ([] : List Loc) = locs at hw ⊢
  have hinX12 : ∀ w ∈ u_ws RX12 TX12 42, w ∈ (wu yX12_isHis cX12_isHis 4 (some .boolean)) := fun _ h => List.mem_cons_of_mem _ (up_71 h)
  have J70 : ∀ (v70_2 : Int32) (v70_3 : Int32) (H : Heap) (locs : List Loc) (ls : Array Slot) (w1 : va_W), 0 ≤ a1.toInt → a1.toInt ≤ 3 → 0 ≤ v70_2.toInt → v70_2.toInt ≤ 8 → 0 ≤ v70_3.toInt → v70_3.toInt ≤ 100 → Wd dC dI A s.heap H locs w1 → TW ksM ad cy (B + 900) qr 12 w1 → FE ksM [(12, 24, 24), (12, 31, 31), (69, 0, 64), (70, 0, 10), (71, 216, 243), (71, 220, 247), (71, 221, 248), (71, 222, 249), (71, 223, 250), (71, 224, 251), (72, 0, 12), (73, 0, 10)] w0 w1 → RW w1 → lv_has ls 4 [(0, .ref (ad 0)), (1, .int a1), (2, .int v70_2), (3, .int v70_3)] → W p l e ({ frames := 9, cells := 0, slots := 0, locals := 194 }) s m (List.toArray [.ref (ad 0), .int a1]) below meth c H locs 0 0 (MQ below (va_Qi (P_X12_isHis_1 ad cy B qr s1 a1 w0) (fun u : va_W => wpost dC dI cy A u) A) (List.toArray [.ref (ad 0), .int a1]) s 0 0 A) (F0 m 70 ls []) := by
    intro v70_2 v70_3 H locs ls w1 r2 t3 r4 t5 r6 t7 hw hT hF hRW hl
    refine lv_iload_n hx hb dX12_isHis_70 rfl (lv_at hl 2 rfl) ?_
    refine lv_aload_n hx hb dX12_isHis_71 rfl (lv_at hl 0 rfl) ?_
    refine tk_getA hC hK hw hT hinX12 kM_at0 (by decide) rfl 26 (by decide) (List.mem_cons_of_mem _ uw_7_1) rfl rfl dX12_isHis_72 ?_
    refine lv_bipush (v := 8) hx hb dX12_isHis_75 (by decide) ?_
    refine tk_ialdR hC hK hw hT kM_at12 rfl (by decide) (by decide) dX12_isHis_77 (fun x8 c9 Ex8 => ?_)
    have bx8 := tk_rgI rfl 8 1 1 0 8 (by decide +kernel) ⟨0, by decide, by decide⟩ Ex8
    have c9 : gi w1 12 8 = x8 := c9
    refine lv_icmp_ne (tgt := 85) hx hb dX12_isHis_78 (by decide) (fun c10 => ?_) (fun c10 => ?_)
    · have c10 : ¬ v70_2.toInt = x8.toInt := wk_eqF c10
      refine lv_iconst (v := 0) hx hb dX12_isHis_85 (by decide) ?_
      exact tk_zret hC hr rfl hlocks hK ⟨hT, hF, (Or.inl rfl)⟩ hw dX12_isHis_86
    · have c10 : v70_2.toInt = x8.toInt := wk_eq.mp c10
      refine lv_iconst (v := 1) hx hb dX12_isHis_81 (by decide) ?_
      refine lv_goto (tgt := 86) hx hb dX12_isHis_82 (by decide) ?_
      exact tk_zret hC hr rfl hlocks hK ⟨hT, hF, (Or.inr rfl)⟩ hw dX12_isHis_86
  have L4 : ∀ (n4 : Nat) (v4_2 : Int32) (v4_3 : Int32) (H : Heap) (locs : List Loc) (ls : Array Slot) (w11 : va_W), 0 ≤ a1.toInt → a1.toInt ≤ 3 → 0 ≤ v4_2.toInt → v4_2.toInt ≤ 8 → 0 ≤ v4_3.toInt → v4_3.toInt ≤ 100 → (100 - v4_3.toInt).toNat < n4 → Wd dC dI A s.heap H locs w11 → TW ksM ad cy (B + 0 + 9 * v4_3.toInt) qr 12 w11 → FE ksM [(12, 24, 24), (12, 31, 31), (69, 0, 64), (70, 0, 10), (71, 216, 243), (71, 220, 247), (71, 221, 248), (71, 222, 249), (71, 223, 250), (71, 224, 251), (72, 0, 12), (73, 0, 10)] w0 w11 → RW w11 → lv_has ls 4 [(0, .ref (ad 0)), (1, .int a1), (2, .int v4_2), (3, .int v4_3)] → W p l e ({ frames := 9, cells := 0, slots := 0, locals := 194 }) s m (List.toArray [.ref (ad 0), .int a1]) below meth c H locs 0 0 (MQ below (va_Qi (P_X12_isHis_1 ad cy B qr s1 a1 w0) (fun u : va_W => wpost dC dI cy A u) A) (List.toArray [.ref (ad 0), .int a1]) s 0 0 A) (F0 m 4 ls []) := by
    intro n4
    induction n4 with
    | zero => intro v4_2 v4_3 H locs ls w11 r12 t13 r14 t15 r16 t17 hm4 hw hT hF hRW hl; omega
    | succ n4 ih4 =>
      intro v4_2 v4_3 H locs ls w11 r12 t13 r14 t15 r16 t17 hm4 hw hT hF hRW hl
      have J64 : ∀ (v64_2 : Int32) (f64_12_8 : Int32) (H : Heap) (locs : List Loc) (ls : Array Slot) (w18 : va_W), 0 ≤ a1.toInt → a1.toInt ≤ 3 → 0 ≤ v64_2.toInt → v64_2.toInt ≤ 8 → 0 ≤ v4_3.toInt → v4_3.toInt ≤ 99 → 1 ≤ f64_12_8.toInt → f64_12_8.toInt ≤ 8 → Wd dC dI A s.heap H locs w18 → TW ksM ad cy (B + 9 + 9 * v4_3.toInt) qr 12 w18 → FE ksM [(12, 24, 24), (12, 31, 31), (69, 0, 64), (70, 0, 10), (71, 216, 243), (71, 220, 247), (71, 221, 248), (71, 222, 249), (71, 223, 250), (71, 224, 251), (72, 0, 12), (73, 0, 10)] w0 w18 → RW w18 → gi w18 12 8 = f64_12_8 → lv_has ls 4 [(0, .ref (ad 0)), (1, .int a1), (2, .int v64_2), (3, .int v4_3)] → W p l e ({ frames := 9, cells := 0, slots := 0, locals := 194 }) s m (List.toArray [.ref (ad 0), .int a1]) below meth c H locs 0 0 (MQ below (va_Qi (P_X12_isHis_1 ad cy B qr s1 a1 w0) (fun u : va_W => wpost dC dI cy A u) A) (List.toArray [.ref (ad 0), .int a1]) s 0 0 A) (F0 m 64 ls []) := by
        intro v64_2 f64_12_8 H locs ls w18 r19 t20 r21 t22 r23 t24 r25 t26 hw hT hF hRW c27 hl
        obtain ⟨x28, ex28⟩ : ∃ y : Int32, y = v4_3 + Int32.ofInt 1 := ⟨_, rfl⟩
        refine lv_iinc (v := x28) (lv' := [(3, .int x28), (0, .ref (ad 0)), (1, .int a1), (2, .int v64_2)]) hx hb dX12_isHis_64 hl (k := 3) rfl ex28.symm (by decide) rfl (fun ls hl => ?_)
        have ex28 : x28.toInt = v4_3.toInt + 1 := by rw [ex28]; exact wk_add (y := 1) (show -2147483648 ≤ v4_3.toInt + 1 by omega) (show v4_3.toInt + 1 ≤ 2147483647 by omega)
        refine lv_goto (tgt := 4) hx hb dX12_isHis_67 (by decide) ?_
        exact ih4 v64_2 x28 H locs ls w18 (show 0 ≤ a1.toInt from r19) (show a1.toInt ≤ 3 from t20) (show 0 ≤ v64_2.toInt from r21) (show v64_2.toInt ≤ 8 from t22) (show 0 ≤ x28.toInt by omega) (show x28.toInt ≤ 100 by omega) (show (100 - x28.toInt).toNat < n4 by omega) hw (hT.up (show (B + 9 + 9 * v4_3.toInt) ≤ (B + 0 + 9 * x28.toInt) by omega)) hF hRW  (lv_sub hl [1, 2, 3, 0] rfl)
      refine lv_iload_n hx hb dX12_isHis_4 rfl (lv_at hl 3 rfl) ?_
      refine lv_bipush (v := 100) hx hb dX12_isHis_5 (by decide) ?_
      refine lv_icmp_ge (tgt := 70) hx hb dX12_isHis_7 (by decide) (fun c29 => ?_) (fun c29 => ?_)
      · have c29 : (100 : Int) ≤ v4_3.toInt := wk_le.mp c29
        exact J70 v4_2 v4_3 H locs ls w11 (show 0 ≤ a1.toInt from r12) (show a1.toInt ≤ 3 from t13) (show 0 ≤ v4_2.toInt from r14) (show v4_2.toInt ≤ 8 from t15) (show 0 ≤ v4_3.toInt from r16) (show v4_3.toInt ≤ 100 from t17)  hw (hT.up (show (B + 0 + 9 * v4_3.toInt) ≤ (B + 900) by omega)) hF hRW  (lv_sub hl [0, 1, 2, 3] rfl)
      · have c29 : v4_3.toInt < (100 : Int) := wk_leF c29
        refine lv_iload_n hx hb dX12_isHis_10 rfl (lv_at hl 2 rfl) ?_
        refine lv_aload_n hx hb dX12_isHis_11 rfl (lv_at hl 0 rfl) ?_
        refine tk_getA hC hK hw hT hinX12 kM_at0 (by decide) rfl 26 (by decide) (List.mem_cons_of_mem _ uw_7_1) rfl rfl dX12_isHis_12 ?_
        refine lv_bipush (v := 8) hx hb dX12_isHis_15 (by decide) ?_
        refine tk_ialdR hC hK hw hT kM_at12 rfl (by decide) (by decide) dX12_isHis_17 (fun x30 c31 Ex30 => ?_)
        have bx30 := tk_rgI rfl 8 1 1 0 8 (by decide +kernel) ⟨0, by decide, by decide⟩ Ex30
        have c31 : gi w11 12 8 = x30 := c31
        refine lv_icmp_ge (tgt := 70) hx hb dX12_isHis_18 (by decide) (fun c32 => ?_) (fun c32 => ?_)
        · have c32 : x30.toInt ≤ v4_2.toInt := wk_le.mp c32
          exact J70 v4_2 v4_3 H locs ls w11 (show 0 ≤ a1.toInt from r12) (show a1.toInt ≤ 3 from t13) (show 0 ≤ v4_2.toInt from r14) (show v4_2.toInt ≤ 8 from t15) (show 0 ≤ v4_3.toInt from r16) (show v4_3.toInt ≤ 100 from t17)  hw (hT.up (show (B + 0 + 9 * v4_3.toInt) ≤ (B + 900) by omega)) hF hRW  (lv_sub hl [0, 1, 2, 3] rfl)
        · have c32 : v4_2.toInt < x30.toInt := wk_leF c32
          refine lv_aload_n hx hb dX12_isHis_21 rfl (lv_at hl 0 rfl) ?_
          refine lv_iload_n hx hb dX12_isHis_22 rfl (lv_at hl 1 rfl) ?_
          refine tk_Vi hC hK hw hT hA hE hSR kM_at0 (by decide) rfl (k_X12_isThere_1 l adK adV dC dI cy ad (B + 0 + 9 * v4_3.toInt) (by omega) (by omega) qr s1   a1 (show 0 ≤ a1.toInt from r12) (show a1.toInt ≤ 3 from t13) w11 H.size hT ) (cwV 1 hC.2.2.2.2 uV_RX12_416 rfl rfl rfl (by decide +kernel) ⟨Nat.le_of_ble_eq_true rfl, Nat.le_of_ble_eq_true rfl⟩) rfl hl.1 rfl (Nat.le_of_ble_eq_true rfl) dX12_isHis_23 (fun r33 w35 H locs hp34 hw => ?_)
          obtain ⟨rfl, hg37⟩ := hp34
          rcases hg37 with rfl | rfl
          · refine lv_if_ne (tgt := 70) hx hb dX12_isHis_26 (by decide) (fun c => absurd (by decide) c) (fun _ => ?_)
            refine lv_aload_n hx hb dX12_isHis_29 rfl (lv_at hl 0 rfl) ?_
            refine lv_iload_n hx hb dX12_isHis_30 rfl (lv_at hl 1 rfl) ?_
            refine tk_Vi hC hK hw hT hA hE hSR kM_at0 (by decide) rfl (k_X12_steps_1 l adK adV dC dI cy ad (B + 0 + 9 * v4_3.toInt) (by omega) (by omega) qr s1   a1 (show 0 ≤ a1.toInt from r12) (show a1.toInt ≤ 3 from t13) w11 H.size hT hRW) (cwV 1 hC.2.2.2.2 uV_RX12_419 rfl rfl rfl (by decide +kernel) ⟨Nat.le_of_ble_eq_true rfl, Nat.le_of_ble_eq_true rfl⟩) rfl hl.1 rfl (Nat.le_of_ble_eq_true rfl) dX12_isHis_31 (fun r38 w40 H locs hp39 hw => ?_)
            obtain ⟨hT, k41, hg42⟩ := hp39
            have hT := hT.up (B' := (B + 9 + 9 * v4_3.toInt)) (by omega)
            have hRW := RW_FE k41 (fun _ => rfl) (fun _ => rfl) (fun _ => rfl) hRW
            have hF := hF.tr k41 (by decide)
            have c43 := k41.gi kM_at12 (by decide) c31
            rcases hg42 with rfl | rfl
            · refine lv_if_ne (tgt := 40) hx hb dX12_isHis_34 (by decide) (fun c => absurd (by decide) c) (fun _ => ?_)
              refine lv_goto (tgt := 64) hx hb dX12_isHis_37 (by decide) ?_
              exact J64 v4_2 x30 H locs ls w40 (show 0 ≤ a1.toInt from r12) (show a1.toInt ≤ 3 from t13) (show 0 ≤ v4_2.toInt from r14) (show v4_2.toInt ≤ 8 from t15) (show 0 ≤ v4_3.toInt from r16) (show v4_3.toInt ≤ 99 by omega) (show 1 ≤ x30.toInt by omega) (show x30.toInt ≤ 8 by omega)  hw hT hF hRW c43 (lv_sub hl [0, 1, 2, 3] rfl)
            · refine lv_if_ne (tgt := 40) hx hb dX12_isHis_34 (by decide) (fun _ => ?_) (fun c => absurd c (by decide))
              refine lv_aload_n hx hb dX12_isHis_40 rfl (lv_at hl 0 rfl) ?_
              refine lv_iload_n hx hb dX12_isHis_41 rfl (lv_at hl 1 rfl) ?_
              refine lv_iconst (v := 0) hx hb dX12_isHis_42 (by decide) ?_
              refine tk_Vi hC hK hw hT hA hE hSR kM_at0 (by decide) rfl (k_X12_walkerOf_2 l adK adV dC dI cy ad (B + 9 + 9 * v4_3.toInt) (by omega) (by omega) qr s1   a1 (show 0 ≤ a1.toInt from r12) (show a1.toInt ≤ 3 from t13) w40 H.size hT ) (cwV 2 hC.2.2.2.2 uV_RX12_372 rfl rfl rfl (by decide +kernel) ⟨Nat.le_of_ble_eq_true rfl, Nat.le_of_ble_eq_true rfl⟩) rfl hl.1 rfl (Nat.le_of_ble_eq_true rfl) dX12_isHis_43 (fun r44 w46 H locs hp45 hw => ?_)
              obtain ⟨rfl, hg51⟩ := hp45
              obtain ⟨g48, g49, c50⟩ := hg51
              refine lv_aload_n hx hb dX12_isHis_46 rfl (lv_at hl 0 rfl) ?_
              refine tk_getA hC hK hw hT hinX12 kM_at0 (by decide) rfl 26 (by decide) (List.mem_cons_of_mem _ uw_7_1) rfl rfl dX12_isHis_47 ?_
              refine lv_sipush (v := 288) hx hb dX12_isHis_50 (by decide) ?_
              refine lv_iload_n hx hb dX12_isHis_53 rfl (lv_at hl 2 rfl) ?_
              refine lv_iadd hx hb dX12_isHis_54 ?_
              refine lv_topi (fun x52 ex52 => ?_)
              have ex52 : x52.toInt = (288 : Int) + v4_2.toInt := by rw [ex52]; exact wk_add (show (-2147483648) ≤ (288 : Int) + v4_2.toInt by omega) (show (288 : Int) + v4_2.toInt ≤ 2147483647 by omega)
              refine tk_ialdR hC hK hw hT kM_at12 rfl (show 0 ≤ x52.toInt by omega) (show x52.toInt < 296 by omega) dX12_isHis_55 (fun x53 c54 Ex53 => ?_)
              have c54 : gi w40 12 (1 * v4_2.toInt + 288).toNat = x53 := (congrArg (gi w40 12) (congrArg Int.toNat (show 1 * v4_2.toInt + 288 = x52.toInt by omega))).trans c54
              refine lv_icmp_eq (tgt := 61) hx hb dX12_isHis_56 (by decide) (fun c55 => ?_) (fun c55 => ?_)
              · have c55 : r44.toInt = x53.toInt := wk_eq.mp c55
                obtain ⟨x56, ex56⟩ : ∃ y : Int32, y = v4_2 + Int32.ofInt 1 := ⟨_, rfl⟩
                refine lv_iinc (v := x56) (lv' := [(2, .int x56), (0, .ref (ad 0)), (1, .int a1), (3, .int v4_3)]) hx hb dX12_isHis_61 hl (k := 2) rfl ex56.symm (by decide) rfl (fun ls hl => ?_)
                have ex56 : x56.toInt = v4_2.toInt + 1 := by rw [ex56]; exact wk_add (y := 1) (show -2147483648 ≤ v4_2.toInt + 1 by omega) (show v4_2.toInt + 1 ≤ 2147483647 by omega)
                exact J64 x56 x30 H locs ls w40 (show 0 ≤ a1.toInt from r12) (show a1.toInt ≤ 3 from t13) (show 0 ≤ x56.toInt by omega) (show x56.toInt ≤ 8 by omega) (show 0 ≤ v4_3.toInt from r16) (show v4_3.toInt ≤ 99 by omega) (show 1 ≤ x30.toInt by omega) (show x30.toInt ≤ 8 by omega)  hw hT hF hRW c43 (lv_sub hl [1, 2, 0, 3] rfl)
              · have c55 : ¬ r44.toInt = x53.toInt := wk_eqF c55
                refine lv_iconst (v := 0) hx hb dX12_isHis_59 (by decide) ?_
                exact tk_zret hC hr rfl hlocks hK ⟨(hT.up (show (B + 9 + 9 * v4_3.toInt) ≤ (B + 900) by omega)), hF, (Or.inl rfl)⟩ hw dX12_isHis_60
          · refine lv_if_ne (tgt := 70) hx hb dX12_isHis_26 (by decide) (fun _ => ?_) (fun c => absurd c (by decide))
            exact J70 v4_2 v4_3 H locs ls w11 (show 0 ≤ a1.toInt from r12) (show a1.toInt ≤ 3 from t13) (show 0 ≤ v4_2.toInt from r14) (show v4_2.toInt ≤ 8 from t15) (show 0 ≤ v4_3.toInt from r16) (show v4_3.toInt ≤ 100 from t17)  hw (hT.up (show (B + 0 + 9 * v4_3.toInt) ≤ (B + 900) by omega)) hF hRW  (lv_sub hl [0, 1, 2, 3] rfl)
  refine lv_iconst (v := 0) hx hb dX12_isHis_0 (by decide) ?_
  refine lv_istore_n (lv' := [(2, .int 0), (0, .ref (ad 0)), (1, .int a1)]) hx hb dX12_isHis_1 rfl hl (by decide) rfl (fun ls hl => ?_)
  refine lv_iconst (v := 0) hx hb dX12_isHis_2 (by decide) ?_
  refine lv_istore_n (lv' := [(3, .int 0), (2, .int 0), (0, .ref (ad 0)), (1, .int a1)]) hx hb dX12_isHis_3 rfl hl (by decide) rfl (fun ls hl => ?_)
  exact L4 ((100 - (0 : Int)).toNat + 1) 0 0 s.heap locs ls w0 (show 0 ≤ a1.toInt from ra1) (show a1.toInt ≤ 3 from ta1) (by decide) (by decide) (by decide) (by decide) (Nat.lt_succ_self _) hw (hT.up (show B ≤ (B + 0 + 9 * (0 : Int32).toInt) by rw [show (0 : Int32).toInt = 0 by decide]; omega)) hF hRW  (lv_sub hl [2, 3, 1, 0] rfl)
abbrev P_X12_had_1 (ad : Nat → Nat) (cy : Nat → ClassId) (B : Int) (qr : Nat) (s1 : Int) (a1 : Int32) (w0 : va_W) : Int32 → va_W → Prop := fun r u => TW ksM ad cy (B + 3600) qr 12 u ∧ FE ksM [(12, 24, 24), (12, 31, 31), (69, 0, 64), (70, 0, 10), (71, 0, 295), (71, 216, 243), (71, 218, 245), (71, 220, 247), (71, 221, 248), (71, 222, 249), (71, 223, 250), (71, 224, 251), (72, 0, 12), (73, 0, 10), (74, 0, 296)] w0 u ∧ ((0 ≤ r.toInt ∧ r.toInt ≤ 15 ∧ 0 ≤ a1.toInt ∧ a1.toInt ≤ 3 ∧ (SA w0 u)) ∨ (r = (-1) ∧ (SA w0 u)))
set_option maxHeartbeats 4000000 in
set_option maxRecDepth 100000 in
theorem k_X12_had_1 (l : Launch) (adK adV : Nat → Nat) (dC : Nat → ClassId) (dI : Nat → Nat → Nat) (cy : Nat → ClassId) (ad : Nat → Nat) (B : Int) (hB0 : 100000 ≤ B) (hB1 : B ≤ 1073738224) (qr : Nat) (s1 : Int)  (a1 : Int32) (w0 : va_W) (sz : Nat) (hT : TW ksM ad cy B qr 12 w0) (hRW : RW w0) : Met l yX12_had (wu yX12_had cX12_had 4 (some .int)) ({ frames := 10, cells := 0, slots := 0, locals := 217 }) (va_Pc [.ref (ad 0), .int a1] (wpreS adK adV dC dI cy sz w0)) (va_Qi (P_X12_had_1 ad cy B qr s1 a1 w0) (fun u : va_W => wpost dC dI cy (va_A w0 sz) u) (va_A w0 sz)) 0 0 (va_A w0 sz) := by
  refine Met.ofW (cc := cX12_had) (maxL := 4) (ret := (some .int)) (by decide) rfl ?_
  intro p e s m args below meth c s₁ Bk hml hv
  obtain ⟨rfl, ⟨hsz, hP, hK, hD0⟩, hE, hSR⟩ := hv
  have hx := Bk.exec
  have hb := Bk.bytes
  have hr := Bk.returns
  have hlocks := Bk.notSynchronized
  have hC : CallFix p m c cX12_had 4 s _ (wu yX12_had cX12_had 4 (some .int)) RX12 := ⟨hx, hb, hml, findClass_of_methodNamed Bk.named, atoms_spec (ws := (wu yX12_had cX12_had 4 (some .int))) Bk.pre⟩
  subst hsz
  have hD := hD0.self (sz := s.heap.size)
  generalize hAe : va_A w0 s.heap.size = A at hD hE ⊢
  have hA : ∀ q : Nat, s.heap.size ≤ q → A q := fun q h => by rw [← hAe]; exact Or.inr h
  have hw : Wd dC dI A s.heap s.heap [] w0 := ⟨hP, hD, va_S.rf⟩
  have hF : FE ksM [(12, 24, 24), (12, 31, 31), (69, 0, 64), (70, 0, 10), (71, 0, 295), (71, 216, 243), (71, 218, 245), (71, 220, 247), (71, 221, 248), (71, 222, 249), (71, 223, 250), (71, 224, 251), (72, 0, 12), (73, 0, 10), (74, 0, 296)] w0 w0 := FE.rf
  have hSA : SA w0 w0 := fun _ _ => rfl
  have hl := lv_entry ([.ref (ad 0), .int a1]) (n := 4) (Nat.le_of_ble_eq_true rfl)
  rw [lg_entry_eq]
  generalize (lg_sl ([.ref (ad 0), .int a1]) ++ List.replicate (4 - (lg_sl ([.ref (ad 0), .int a1])).length) Slot.unset).toArray = ls at hl ⊢
  have hl : lv_has ls 4 [(0, .ref (ad 0)), (1, .int a1)] := hl
  generalize hloc : ([] : List Loc) = locs at hw ⊢
  have hinX12 : ∀ w ∈ u_ws RX12 TX12 42, w ∈ (wu yX12_had cX12_had 4 (some .int)) := fun _ h => List.mem_cons_of_mem _ (up_71 h)
  have L18 : ∀ (n18 : Nat) (v18_2 : Int32) (v18_3 : Int32) (H : Heap) (locs : List Loc) (ls : Array Slot) (w1 : va_W), 0 ≤ a1.toInt → a1.toInt ≤ 3 → 0 ≤ v18_2.toInt → v18_2.toInt ≤ 15 → 0 ≤ v18_3.toInt → v18_3.toInt ≤ 4 → (4 - v18_3.toInt).toNat < n18 → Wd dC dI A s.heap H locs w1 → TW ksM ad cy (B + 0 + 900 * v18_3.toInt) qr 12 w1 → FE ksM [(12, 24, 24), (12, 31, 31), (69, 0, 64), (70, 0, 10), (71, 0, 295), (71, 216, 243), (71, 218, 245), (71, 220, 247), (71, 221, 248), (71, 222, 249), (71, 223, 250), (71, 224, 251), (72, 0, 12), (73, 0, 10), (74, 0, 296)] w0 w1 → RW w1 → SA w0 w1 → KBk w0 w1 → lv_has ls 4 [(0, .ref (ad 0)), (1, .int a1), (2, .int v18_2), (3, .int v18_3)] → W p l e ({ frames := 10, cells := 0, slots := 0, locals := 217 }) s m (List.toArray [.ref (ad 0), .int a1]) below meth c H locs 0 0 (MQ below (va_Qi (P_X12_had_1 ad cy B qr s1 a1 w0) (fun u : va_W => wpost dC dI cy A u) A) (List.toArray [.ref (ad 0), .int a1]) s 0 0 A) (F0 m 18 ls []) := by
    intro n18
    induction n18 with
    | zero => intro v18_2 v18_3 H locs ls w1 r2 t3 r4 t5 r6 t7 hm18 hw hT hF hRW hSA hKB hl; omega
    | succ n18 ih18 =>
      intro v18_2 v18_3 H locs ls w1 r2 t3 r4 t5 r6 t7 hm18 hw hT hF hRW hSA hKB hl
      refine lv_iload_n hx hb dX12_had_18 rfl (lv_at hl 3 rfl) ?_
      refine lv_aload_n hx hb dX12_had_19 rfl (lv_at hl 0 rfl) ?_
      refine tk_getA hC hK hw hT hinX12 kM_at0 (by decide) rfl 32 (by decide) (List.mem_cons_of_mem _ uw_7_5) rfl rfl dX12_had_20 ?_
      refine lv_iconst (v := 4) hx hb dX12_had_23 (by decide) ?_
      refine tk_ialdR hC hK hw hT kM_at15 rfl (by decide) (by decide) dX12_had_24 (fun x8 c9 Ex8 => ?_)
      have bx8 := tk_rgI rfl 4 1 1 0 4 (by decide +kernel) ⟨0, by decide, by decide⟩ Ex8
      have c9 : gi w1 15 4 = x8 := c9
      refine lv_icmp_ge (tgt := 72) hx hb dX12_had_25 (by decide) (fun c10 => ?_) (fun c10 => ?_)
      · have c10 : x8.toInt ≤ v18_3.toInt := wk_le.mp c10
        refine lv_iload_n hx hb dX12_had_72 rfl (lv_at hl 2 rfl) ?_
        exact tk_iret hC hr hlocks hK ⟨(hT.up (show (B + 0 + 900 * v18_3.toInt) ≤ (B + 3600) by omega)), hF, (Or.inl ⟨(show 0 ≤ v18_2.toInt from r4), (show v18_2.toInt ≤ 15 from t5), (show 0 ≤ a1.toInt from r2), (show a1.toInt ≤ 3 from t3), (by exact hSA)⟩)⟩ hw dX12_had_73
      · have c10 : v18_3.toInt < x8.toInt := wk_leF c10
        refine lv_aload_n hx hb dX12_had_28 rfl (lv_at hl 0 rfl) ?_
        refine tk_getA hC hK hw hT hinX12 kM_at0 (by decide) rfl 26 (by decide) (List.mem_cons_of_mem _ uw_7_1) rfl rfl dX12_had_29 ?_
        refine lv_sipush (v := 216) hx hb dX12_had_32 (by decide) ?_
        refine lv_bipush (v := 9) hx hb dX12_had_35 (by decide) ?_
        refine lv_iload_n hx hb dX12_had_37 rfl (lv_at hl 1 rfl) ?_
        refine lv_imul hx hb dX12_had_38 ?_
        refine lv_topi (fun x11 ex11 => ?_)
        have ex11 : x11.toInt = (9 : Int) * a1.toInt := by rw [ex11]; exact wk_mul (show (-2147483648) ≤ (9 : Int) * a1.toInt by omega) (show (9 : Int) * a1.toInt ≤ 2147483647 by omega)
        refine lv_iadd hx hb dX12_had_39 ?_
        refine lv_topi (fun x12 ex12 => ?_)
        have ex12 : x12.toInt = (216 : Int) + x11.toInt := by rw [ex12]; exact wk_add (show (-2147483648) ≤ (216 : Int) + x11.toInt by omega) (show (216 : Int) + x11.toInt ≤ 2147483647 by omega)
        refine lv_iconst (v := 2) hx hb dX12_had_40 (by decide) ?_
        refine lv_iadd hx hb dX12_had_41 ?_
        refine lv_topi (fun x13 ex13 => ?_)
        have ex13 : x13.toInt = x12.toInt + (2 : Int) := by rw [ex13]; exact wk_add (show (-2147483648) ≤ x12.toInt + (2 : Int) by omega) (show x12.toInt + (2 : Int) ≤ 2147483647 by omega)
        refine lv_iload_n hx hb dX12_had_42 rfl (lv_at hl 3 rfl) ?_
        refine tk_iastR hC hK hw hT kM_at12 (by decide) rfl (show 0 ≤ x13.toInt by omega) (show x13.toInt < 296 by omega) (tk_rgS rfl 218 9 4 0 3 (by decide +kernel) ⟨(a1.toInt - 0).toNat, by omega, show x13.toInt.toNat = 218 + 9 * (a1.toInt - 0).toNat by omega⟩ (show 0 ≤ v18_3.toInt from r6) (show v18_3.toInt ≤ 3 by omega)) dX12_had_43 (fun H locs w14 hw hT k16 c15 => ?_)
        have hRW := RW_F1 k16 (by decide) (by decide) (by decide) hRW
        have hKB := KB_F1 k16 (by decide) hKB
        have hF := hF.put kM_at12 (inE_of (a := 218) (b := 245) (by decide) (show 218 ≤ x13.toInt.toNat by omega) (show x13.toInt.toNat ≤ 245 by omega)) k16
        have c17 := k16.gi (Or.inl (tk_ne kM_at15 kM_at12 (by decide))) c9
        refine lv_iload_n hx hb dX12_had_44 rfl (lv_at hl 2 rfl) ?_
        refine lv_aload_n hx hb dX12_had_45 rfl (lv_at hl 0 rfl) ?_
        refine lv_iload_n hx hb dX12_had_46 rfl (lv_at hl 1 rfl) ?_
        refine tk_Vi hC hK hw hT hA hE hSR kM_at0 (by decide) rfl (k_X12_isHis_1 l adK adV dC dI cy ad (B + 0 + 900 * v18_3.toInt) (by omega) (by omega) qr s1   a1 (show 0 ≤ a1.toInt from r2) (show a1.toInt ≤ 3 from t3) w14 H.size hT hRW) (cwV 1 hC.2.2.2.2 uV_RX12_487 rfl rfl rfl (by decide +kernel) ⟨Nat.le_of_ble_eq_true rfl, Nat.le_of_ble_eq_true rfl⟩) rfl hl.1 rfl (Nat.le_of_ble_eq_true rfl) dX12_had_47 (fun r18 w20 H locs hp19 hw => ?_)
        obtain ⟨hT, k21, hg22⟩ := hp19
        have hT := hT.up (B' := (B + 900 + 900 * v18_3.toInt)) (by omega)
        have hKB := KB_FE k21 (fun _ => rfl) hKB
        have hRW := RW_FE k21 (fun _ => rfl) (fun _ => rfl) (fun _ => rfl) hRW
        have hF := hF.tr k21 (by decide)
        have c23 := k21.gi kM_at15 (by decide) c17
        rcases hg22 with rfl | rfl
        · refine lv_if_eq (tgt := 59) hx hb dX12_had_50 (by decide) (fun _ => ?_) (fun c => absurd (by decide) c)
          refine lv_iconst (v := 0) hx hb dX12_had_59 (by decide) ?_
          refine lv_ior hx hb dX12_had_60 ?_
          refine lv_topi (fun x24 ex24 => ?_)
          have bx24 : 0 ≤ x24.toInt ∧ x24.toInt < 16 := by rw [ex24]; exact wk_or 4 (by decide) (by omega) (by omega) (by decide) (by decide)
          have mx24 : v18_2.toInt ≤ x24.toInt ∧ (0 : Int) ≤ x24.toInt := by rw [ex24]; exact wk_orL 4 (by decide) (by omega) (by omega) (by decide) (by decide)
          refine lv_istore_n (lv' := [(2, .int x24), (0, .ref (ad 0)), (1, .int a1), (3, .int v18_3)]) hx hb dX12_had_61 rfl hl (by decide) rfl (fun ls hl => ?_)
          refine lv_aload_n hx hb dX12_had_62 rfl (lv_at hl 1 rfl) ?_
          refine tk_Vv hC hK hw hT hA hE hSR kM_at0 (by decide) rfl (k_X12_putsBack_1 l adK adV dC dI cy ad (B + 900 + 900 * v18_3.toInt) (by omega) (by omega) qr s1    w20 H.size hT ) (cwV 0 hC.2.2.2.2 uV_RX12_429 rfl rfl rfl (by decide +kernel) ⟨Nat.le_of_ble_eq_true rfl, Nat.le_of_ble_eq_true rfl⟩) rfl hl.1 rfl (Nat.le_of_ble_eq_true rfl) dX12_had_63 (fun w27 H locs hp26 hw => ?_)
          obtain ⟨hT, k28, hg33⟩ := hp26
          have hKB := KB_FE k28 (fun _ => rfl) hKB
          have hRW := RW_FE k28 (fun _ => rfl) (fun _ => rfl) (fun _ => rfl) hRW
          have hF := hF.tr k28 (by decide)
          have c34 := k28.gi kM_at15 (by decide) c23
          obtain ⟨c29, c30, c31, hq32⟩ := hg33
          have hSA : SA w0 w27 := fun j hj => (hq32 j hj).trans ((k28.gi kM_at15 rfl rfl).symm.trans (hKB j hj))
          obtain ⟨x35, ex35⟩ : ∃ y : Int32, y = v18_3 + Int32.ofInt 1 := ⟨_, rfl⟩
          refine lv_iinc (v := x35) (lv' := [(3, .int x35), (2, .int x24), (0, .ref (ad 0)), (1, .int a1)]) hx hb dX12_had_66 hl (k := 3) rfl ex35.symm (by decide) rfl (fun ls hl => ?_)
          have ex35 : x35.toInt = v18_3.toInt + 1 := by rw [ex35]; exact wk_add (y := 1) (show -2147483648 ≤ v18_3.toInt + 1 by omega) (show v18_3.toInt + 1 ≤ 2147483647 by omega)
          refine lv_goto (tgt := 18) hx hb dX12_had_69 (by decide) ?_
          exact ih18 x24 x35 H locs ls w27 (show 0 ≤ a1.toInt from r2) (show a1.toInt ≤ 3 from t3) (show 0 ≤ x24.toInt by omega) (show x24.toInt ≤ 15 by omega) (show 0 ≤ x35.toInt by omega) (show x35.toInt ≤ 4 by omega) (show (4 - x35.toInt).toNat < n18 by omega) hw (hT.up (show (B + 900 + 900 * v18_3.toInt) ≤ (B + 0 + 900 * x35.toInt) by omega)) hF hRW hSA hKB  (lv_sub hl [2, 3, 1, 0] rfl)
        · refine lv_if_eq (tgt := 59) hx hb dX12_had_50 (by decide) (fun c => absurd c (by decide)) (fun _ => ?_)
          refine lv_iconst (v := 1) hx hb dX12_had_53 (by decide) ?_
          refine lv_iload_n hx hb dX12_had_54 rfl (lv_at hl 3 rfl) ?_
          refine lv_ishl hx hb dX12_had_55 ?_
          refine lv_topi (fun x36 ex36 => ?_)
          have bx36 : 1 ≤ x36.toInt ∧ x36.toInt ≤ 8 := by rw [ex36]; exact wk_shl1 3 (by decide) (by omega) (by omega)
          refine lv_goto (tgt := 60) hx hb dX12_had_56 (by decide) ?_
          refine lv_ior hx hb dX12_had_60 ?_
          refine lv_topi (fun x37 ex37 => ?_)
          have bx37 : 0 ≤ x37.toInt ∧ x37.toInt < 16 := by rw [ex37]; exact wk_or 4 (by decide) (by omega) (by omega) (by omega) (by omega)
          have mx37 : v18_2.toInt ≤ x37.toInt ∧ x36.toInt ≤ x37.toInt := by rw [ex37]; exact wk_orL 4 (by decide) (by omega) (by omega) (by omega) (by omega)
          refine lv_istore_n (lv' := [(2, .int x37), (0, .ref (ad 0)), (1, .int a1), (3, .int v18_3)]) hx hb dX12_had_61 rfl hl (by decide) rfl (fun ls hl => ?_)
          refine lv_aload_n hx hb dX12_had_62 rfl (lv_at hl 1 rfl) ?_
          refine tk_Vv hC hK hw hT hA hE hSR kM_at0 (by decide) rfl (k_X12_putsBack_1 l adK adV dC dI cy ad (B + 900 + 900 * v18_3.toInt) (by omega) (by omega) qr s1    w20 H.size hT ) (cwV 0 hC.2.2.2.2 uV_RX12_429 rfl rfl rfl (by decide +kernel) ⟨Nat.le_of_ble_eq_true rfl, Nat.le_of_ble_eq_true rfl⟩) rfl hl.1 rfl (Nat.le_of_ble_eq_true rfl) dX12_had_63 (fun w40 H locs hp39 hw => ?_)
          obtain ⟨hT, k41, hg46⟩ := hp39
          have hKB := KB_FE k41 (fun _ => rfl) hKB
          have hRW := RW_FE k41 (fun _ => rfl) (fun _ => rfl) (fun _ => rfl) hRW
          have hF := hF.tr k41 (by decide)
          have c47 := k41.gi kM_at15 (by decide) c23
          obtain ⟨c42, c43, c44, hq45⟩ := hg46
          have hSA : SA w0 w40 := fun j hj => (hq45 j hj).trans ((k41.gi kM_at15 rfl rfl).symm.trans (hKB j hj))
          obtain ⟨x48, ex48⟩ : ∃ y : Int32, y = v18_3 + Int32.ofInt 1 := ⟨_, rfl⟩
          refine lv_iinc (v := x48) (lv' := [(3, .int x48), (2, .int x37), (0, .ref (ad 0)), (1, .int a1)]) hx hb dX12_had_66 hl (k := 3) rfl ex48.symm (by decide) rfl (fun ls hl => ?_)
          have ex48 : x48.toInt = v18_3.toInt + 1 := by rw [ex48]; exact wk_add (y := 1) (show -2147483648 ≤ v18_3.toInt + 1 by omega) (show v18_3.toInt + 1 ≤ 2147483647 by omega)
          refine lv_goto (tgt := 18) hx hb dX12_had_69 (by decide) ?_
          exact ih18 x37 x48 H locs ls w40 (show 0 ≤ a1.toInt from r2) (show a1.toInt ≤ 3 from t3) (show 0 ≤ x37.toInt by omega) (show x37.toInt ≤ 15 by omega) (show 0 ≤ x48.toInt by omega) (show x48.toInt ≤ 4 by omega) (show (4 - x48.toInt).toNat < n18 by omega) hw (hT.up (show (B + 900 + 900 * v18_3.toInt) ≤ (B + 0 + 900 * x48.toInt) by omega)) hF hRW hSA hKB  (lv_sub hl [2, 3, 1, 0] rfl)
  refine lv_aload_n hx hb dX12_had_0 rfl (lv_at hl 0 rfl) ?_
  refine lv_iload_n hx hb dX12_had_1 rfl (lv_at hl 1 rfl) ?_
  refine tk_Vi hC hK hw hT hA hE hSR kM_at0 (by decide) rfl (k_X12_isWalker_1 l adK adV dC dI cy ad B (by omega) (by omega) qr s1   a1 w0 s.heap.size hT ) (cwV 1 hC.2.2.2.2 uV_RX12_367 rfl rfl rfl (by decide +kernel) ⟨Nat.le_of_ble_eq_true rfl, Nat.le_of_ble_eq_true rfl⟩) rfl hl.1 rfl (Nat.le_of_ble_eq_true rfl) dX12_had_2 (fun r49 w51 H locs hp50 hw => ?_)
  obtain ⟨rfl, hg57⟩ := hp50
  rcases hg57 with rfl | ⟨rfl, g53, g54, ⟨x55, c56, rx55, tx55⟩⟩
  · refine lv_if_ne (tgt := 10) hx hb dX12_had_5 (by decide) (fun c => absurd (by decide) c) (fun _ => ?_)
    refine lv_iconst (v := (-1)) hx hb dX12_had_8 (by decide) ?_
    exact tk_iret hC hr hlocks hK ⟨(hT.up (show B ≤ (B + 3600) by omega)), hF, (Or.inr ⟨rfl, (by exact hSA)⟩)⟩ hw dX12_had_9
  · refine lv_if_ne (tgt := 10) hx hb dX12_had_5 (by decide) (fun _ => ?_) (fun c => absurd c (by decide))
    refine lv_iconst (v := 0) hx hb dX12_had_10 (by decide) ?_
    refine lv_istore_n (lv' := [(2, .int 0), (0, .ref (ad 0)), (1, .int a1)]) hx hb dX12_had_11 rfl hl (by decide) rfl (fun ls hl => ?_)
    refine lv_aload_n hx hb dX12_had_12 rfl (lv_at hl 1 rfl) ?_
    refine tk_Vv hC hK hw hT hA hE hSR kM_at0 (by decide) rfl (k_X12_keeps_1 l adK adV dC dI cy ad B (by omega) (by omega) qr s1    w0 H.size hT ) (cwV 0 hC.2.2.2.2 uV_RX12_426 rfl rfl rfl (by decide +kernel) ⟨Nat.le_of_ble_eq_true rfl, Nat.le_of_ble_eq_true rfl⟩) rfl hl.1 rfl (Nat.le_of_ble_eq_true rfl) dX12_had_13 (fun w60 H locs hp59 hw => ?_)
    obtain ⟨hT, k61, hg66⟩ := hp59
    have hSA := SA_FE k61 (fun _ => rfl) hSA
    have hRW := RW_FE k61 (fun _ => rfl) (fun _ => rfl) (fun _ => rfl) hRW
    have hF := hF.tr k61 (by decide)
    have c67 := k61.gi kM_at12 (by decide) c56
    obtain ⟨c62, c63, c64, hq65⟩ := hg66
    have hKB : KBk w0 w60 := fun j hj => (hq65 j hj).trans ((k61.gi kM_at12 rfl rfl).symm.trans (hSA j hj))
    refine lv_iconst (v := 0) hx hb dX12_had_16 (by decide) ?_
    refine lv_istore_n (lv' := [(3, .int 0), (2, .int 0), (0, .ref (ad 0)), (1, .int a1)]) hx hb dX12_had_17 rfl hl (by decide) rfl (fun ls hl => ?_)
    exact L18 ((4 - (0 : Int)).toNat + 1) 0 0 H locs ls w60 (show 0 ≤ a1.toInt by omega) (show a1.toInt ≤ 3 by omega) (by decide) (by decide) (by decide) (by decide) (Nat.lt_succ_self _) hw (hT.up (show B ≤ (B + 0 + 900 * (0 : Int32).toInt) by rw [show (0 : Int32).toInt = 0 by decide]; omega)) hF hRW hSA hKB  (lv_sub hl [2, 3, 1, 0] rfl)
abbrev P_X12_seed_1 (ad : Nat → Nat) (cy : Nat → ClassId) (B : Int) (qr : Nat) (s1 : Int) (a1 : Int32) (w0 : va_W) : Int32 → va_W → Prop := fun r u => TW ksM ad cy B qr 12 u ∧ FE ksM [(71, 9, 9)] w0 u ∧ ((0 ≤ r.toInt ∧ 0 ≤ a1.toInt) ∨ (r = (-1) ∧ a1.toInt ≤ (-1)))
set_option maxHeartbeats 4000000 in
set_option maxRecDepth 100000 in
theorem k_X12_seed_1 (l : Launch) (adK adV : Nat → Nat) (dC : Nat → ClassId) (dI : Nat → Nat → Nat) (cy : Nat → ClassId) (ad : Nat → Nat) (B : Int) (hB0 : 100000 ≤ B) (hB1 : B ≤ 1073741824) (qr : Nat) (s1 : Int)  (a1 : Int32) (w0 : va_W) (sz : Nat) (hT : TW ksM ad cy B qr 12 w0)  : Met l yX12_seed (wu yX12_seed cX12_seed 3 (some .int)) ({ frames := 1, cells := 0, slots := 0, locals := 12 }) (va_Pc [.ref (ad 0), .int a1] (wpreS adK adV dC dI cy sz w0)) (va_Qi (P_X12_seed_1 ad cy B qr s1 a1 w0) (fun u : va_W => wpost dC dI cy (va_A w0 sz) u) (va_A w0 sz)) 0 0 (va_A w0 sz) := by
  refine Met.ofW (cc := cX12_seed) (maxL := 3) (ret := (some .int)) (by decide) rfl ?_
  intro p e s m args below meth c s₁ Bk hml hv
  obtain ⟨rfl, ⟨hsz, hP, hK, hD0⟩, hE, hSR⟩ := hv
  have hx := Bk.exec
  have hb := Bk.bytes
  have hr := Bk.returns
  have hlocks := Bk.notSynchronized
  have hC : CallFix p m c cX12_seed 3 s _ (wu yX12_seed cX12_seed 3 (some .int)) RX12 := ⟨hx, hb, hml, findClass_of_methodNamed Bk.named, atoms_spec (ws := (wu yX12_seed cX12_seed 3 (some .int))) Bk.pre⟩
  subst hsz
  have hD := hD0.self (sz := s.heap.size)
  generalize hAe : va_A w0 s.heap.size = A at hD hE ⊢
  have hA : ∀ q : Nat, s.heap.size ≤ q → A q := fun q h => by rw [← hAe]; exact Or.inr h
  have hw : Wd dC dI A s.heap s.heap [] w0 := ⟨hP, hD, va_S.rf⟩
  have hF : FE ksM [(71, 9, 9)] w0 w0 := FE.rf
  have hl := lv_entry ([.ref (ad 0), .int a1]) (n := 3) (Nat.le_of_ble_eq_true rfl)
  rw [lg_entry_eq]
  generalize (lg_sl ([.ref (ad 0), .int a1]) ++ List.replicate (3 - (lg_sl ([.ref (ad 0), .int a1])).length) Slot.unset).toArray = ls at hl ⊢
  have hl : lv_has ls 3 [(0, .ref (ad 0)), (1, .int a1)] := hl
  generalize hloc : ([] : List Loc) = locs at hw ⊢
  have hinX12 : ∀ w ∈ u_ws RX12 TX12 42, w ∈ (wu yX12_seed cX12_seed 3 (some .int)) := fun _ h => List.mem_cons_of_mem _ (up_71 h)
  refine lv_iload_n hx hb dX12_seed_0 rfl (lv_at hl 1 rfl) ?_
  refine lv_if_ge (tgt := 6) hx hb dX12_seed_1 (by decide) (fun c1 => ?_) (fun c1 => ?_)
  · have c1 : (0 : Int) ≤ a1.toInt := wk_le.mp c1
    refine lv_aload_n hx hb dX12_seed_6 rfl (lv_at hl 0 rfl) ?_
    refine tk_getA hC hK hw hT hinX12 kM_at0 (by decide) rfl 26 (by decide) (List.mem_cons_of_mem _ uw_7_1) rfl rfl dX12_seed_7 ?_
    refine lv_bipush (v := 9) hx hb dX12_seed_10 (by decide) ?_
    refine tk_ialdR hC hK hw hT kM_at12 rfl (by decide) (by decide) dX12_seed_12 (fun x2 c3 Ex2 => ?_)
    have bx2 := tk_rgI rfl 9 1 1 0 2147483647 (by decide +kernel) ⟨0, by decide, by decide⟩ Ex2
    have c3 : gi w0 12 9 = x2 := c3
    refine lv_istore_n (lv' := [(2, .int x2), (0, .ref (ad 0)), (1, .int a1)]) hx hb dX12_seed_13 rfl hl (by decide) rfl (fun ls hl => ?_)
    refine lv_aload_n hx hb dX12_seed_14 rfl (lv_at hl 1 rfl) ?_
    refine tk_getA hC hK hw hT hinX12 kM_at0 (by decide) rfl 26 (by decide) (List.mem_cons_of_mem _ uw_7_1) rfl rfl dX12_seed_15 ?_
    refine lv_bipush (v := 9) hx hb dX12_seed_18 (by decide) ?_
    refine lv_iload_n hx hb dX12_seed_20 rfl (lv_at hl 2 rfl) ?_
    refine tk_iastR hC hK hw hT kM_at12 (by decide) rfl (by decide) (by decide) (tk_rgS rfl 9 1 1 0 2147483647 (by decide +kernel) ⟨0, by decide, by decide⟩ (show 0 ≤ a1.toInt from c1) (wk_i32 a1).2) dX12_seed_21 (fun H locs w4 hw hT k6 c5 => ?_)
    have hF := hF.put kM_at12 (inE_of (a := 9) (b := 9) (by decide) (by decide) (by decide)) k6
    have c5 : gi w4 12 9 = a1 := c5
    refine lv_iload_n hx hb dX12_seed_22 rfl (lv_at hl 0 rfl) ?_
    exact tk_iret hC hr hlocks hK ⟨hT, hF, (Or.inl ⟨(show 0 ≤ x2.toInt by omega), (show 0 ≤ a1.toInt from c1)⟩)⟩ hw dX12_seed_23
  · have c1 : a1.toInt < (0 : Int) := wk_leF c1
    refine lv_iconst (v := (-1)) hx hb dX12_seed_4 (by decide) ?_
    exact tk_iret hC hr hlocks hK ⟨hT, hF, (Or.inr ⟨rfl, (show a1.toInt ≤ (-1) by omega)⟩)⟩ hw dX12_seed_5
abbrev P_X12_draw_1 (ad : Nat → Nat) (cy : Nat → ClassId) (B : Int) (qr : Nat) (s1 : Int) (a1 : Int32) (w0 : va_W) : Int32 → va_W → Prop := fun r u => TW ksM ad cy B qr 12 u ∧ FE ksM [(12, 39, 39)] w0 u ∧ ((0 ≤ r.toInt ∧ r.toInt ≤ 9))
set_option maxHeartbeats 4000000 in
set_option maxRecDepth 100000 in
theorem k_X12_draw_1 (l : Launch) (adK adV : Nat → Nat) (dC : Nat → ClassId) (dI : Nat → Nat → Nat) (cy : Nat → ClassId) (ad : Nat → Nat) (B : Int) (hB0 : 100000 ≤ B) (hB1 : B ≤ 1073741824) (qr : Nat) (s1 : Int)  (a1 : Int32) (ra1 : 1 ≤ a1.toInt) (ta1 : a1.toInt ≤ 10) (w0 : va_W) (sz : Nat) (hT : TW ksM ad cy B qr 12 w0)  : Met l yX12_draw (wu yX12_draw cX12_draw 2 (some .int)) ({ frames := 1, cells := 0, slots := 0, locals := 12 }) (va_Pc [.ref (ad 0), .int a1] (wpreS adK adV dC dI cy sz w0)) (va_Qi (P_X12_draw_1 ad cy B qr s1 a1 w0) (fun u : va_W => wpost dC dI cy (va_A w0 sz) u) (va_A w0 sz)) 0 0 (va_A w0 sz) := by
  refine Met.ofW (cc := cX12_draw) (maxL := 2) (ret := (some .int)) (by decide) rfl ?_
  intro p e s m args below meth c s₁ Bk hml hv
  obtain ⟨rfl, ⟨hsz, hP, hK, hD0⟩, hE, hSR⟩ := hv
  have hx := Bk.exec
  have hb := Bk.bytes
  have hr := Bk.returns
  have hlocks := Bk.notSynchronized
  have hC : CallFix p m c cX12_draw 2 s _ (wu yX12_draw cX12_draw 2 (some .int)) RX12 := ⟨hx, hb, hml, findClass_of_methodNamed Bk.named, atoms_spec (ws := (wu yX12_draw cX12_draw 2 (some .int))) Bk.pre⟩
  subst hsz
  have hD := hD0.self (sz := s.heap.size)
  generalize hAe : va_A w0 s.heap.size = A at hD hE ⊢
  have hA : ∀ q : Nat, s.heap.size ≤ q → A q := fun q h => by rw [← hAe]; exact Or.inr h
  have hw : Wd dC dI A s.heap s.heap [] w0 := ⟨hP, hD, va_S.rf⟩
  have hF : FE ksM [(12, 39, 39)] w0 w0 := FE.rf
  have hl := lv_entry ([.ref (ad 0), .int a1]) (n := 2) (Nat.le_of_ble_eq_true rfl)
  rw [lg_entry_eq]
  generalize (lg_sl ([.ref (ad 0), .int a1]) ++ List.replicate (2 - (lg_sl ([.ref (ad 0), .int a1])).length) Slot.unset).toArray = ls at hl ⊢
  have hl : lv_has ls 2 [(0, .ref (ad 0)), (1, .int a1)] := hl
  generalize hloc : ([] : List Loc) = locs at hw ⊢
  have hinX12 : ∀ w ∈ u_ws RX12 TX12 42, w ∈ (wu yX12_draw cX12_draw 2 (some .int)) := fun _ h => List.mem_cons_of_mem _ (up_71 h)
  refine lv_aload_n hx hb dX12_draw_0 rfl (lv_at hl 0 rfl) ?_
  refine lv_aload_n hx hb dX12_draw_1 rfl (lv_at hl 0 rfl) ?_
  refine tk_getl hC hK hw hT hinX12 kM_at0 (by decide) rfl 39 (by decide) (List.mem_cons_of_mem _ uw_68_4) rfl rfl dX12_draw_2 (fun x1 c2 rx1 tx1 => ?_)
  refine lv_ldc2 (v := 1103515245) hx hb hC.2.2.2.1 (hC.2.2.2.2 _ (List.mem_cons_of_mem _ uw_68_9)) dX12_draw_5 ?_
  refine lv_lmul hx hb dX12_draw_8 ?_
  refine lv_topl (fun x3 ex3 => ?_)
  have ex3 : x3.toInt = x1.toInt * (1103515245 : Int) := by rw [ex3]; exact wk_mull (show (-9223372036854775808) ≤ x1.toInt * (1103515245 : Int) by omega) (show x1.toInt * (1103515245 : Int) ≤ 9223372036854775807 by omega)
  refine lv_ldc2 (v := 12345) hx hb hC.2.2.2.1 (hC.2.2.2.2 _ (List.mem_cons_of_mem _ uw_68_10)) dX12_draw_9 ?_
  refine lv_ladd hx hb dX12_draw_12 ?_
  refine lv_topl (fun x4 ex4 => ?_)
  have ex4 : x4.toInt = x3.toInt + (12345 : Int) := by rw [ex4]; exact wk_addl (show (-9223372036854775808) ≤ x3.toInt + (12345 : Int) by omega) (show x3.toInt + (12345 : Int) ≤ 9223372036854775807 by omega)
  refine lv_ldc2 (v := 2147483648) hx hb hC.2.2.2.1 (hC.2.2.2.2 _ (List.mem_cons_of_mem _ uw_68_11)) dX12_draw_13 ?_
  refine lv_lrem hx hb dX12_draw_16 (by decide) ?_
  refine lv_topl (fun x5 ex5 => ?_)
  have ex5 : x5.toInt = x4.toInt % (2147483648 : Int) := by rw [ex5]; exact wk_reml (show 0 ≤ x4.toInt by omega) (show 0 < (2147483648 : Int) by decide)
  refine tk_putl hC hK hw hT hinX12 tyX12_ok nmX12 kM_at0 (by decide) rfl rfl 39 (by decide) (List.mem_cons_of_mem _ uw_68_4) rfl rfl rfl rfl (show 0 ≤ x5.toInt by omega) (show x5.toInt ≤ 2147483648 by omega) dX12_draw_17 (fun H locs w6 hw hT k8 c7 => ?_)
  have hF := hF.put kM_at0 (k := 39) (by decide) k8
  refine lv_aload_n hx hb dX12_draw_20 rfl (lv_at hl 0 rfl) ?_
  refine tk_getl hC hK hw hT hinX12 kM_at0 (by decide) rfl 39 (by decide) (List.mem_cons_of_mem _ uw_68_4) rfl rfl dX12_draw_21 (fun x9 c10 rx9 tx9 => ?_)
  refine wk_topl x5 (c10.symm.trans c7) ?_
  refine lv_ldc2 (v := 65536) hx hb hC.2.2.2.1 (hC.2.2.2.2 _ (List.mem_cons_of_mem _ uw_68_12)) dX12_draw_24 ?_
  refine lv_ldiv hx hb dX12_draw_27 (by decide) ?_
  refine lv_topl (fun x11 ex11 => ?_)
  have ex11 : x11.toInt = x5.toInt / (65536 : Int) := by rw [ex11]; exact wk_divl (show 0 ≤ x5.toInt by omega) (show 0 < (65536 : Int) by decide)
  refine lv_iload_n hx hb dX12_draw_28 rfl (lv_at hl 1 rfl) ?_
  refine lv_i2l hx hb dX12_draw_29 rfl ?_
  refine lv_topl (fun x12 ex12 => ?_)
  have ex12 : x12.toInt = a1.toInt := by rw [ex12]; exact wk_i2l _
  have bx12 := wk_i32 a1
  refine lv_lrem hx hb dX12_draw_30 (fun h => absurd (show x12.toInt = 0 from wk_eql.mp h) (by omega)) ?_
  refine lv_topl (fun x13 ex13 => ?_)
  have bx13 : 0 ≤ x13.toInt ∧ x13.toInt < x12.toInt := by rw [ex13]; exact wk_remRl (by omega) (by omega)
  refine lv_l2i hx hb dX12_draw_31 rfl ?_
  refine lv_topi (fun x14 ex14 => ?_)
  have ex14 : x14.toInt = x13.toInt := by rw [ex14]; exact wk_l2i (by omega) (by omega)
  exact tk_iret hC hr hlocks hK ⟨hT, hF, ⟨(show 0 ≤ x14.toInt by omega), (show x14.toInt ≤ 9 by omega)⟩⟩ hw dX12_draw_32
abbrev P_X12_draw_2 (ad : Nat → Nat) (cy : Nat → ClassId) (B : Int) (qr : Nat) (s1 : Int) (a1 : Int32) (w0 : va_W) : Int32 → va_W → Prop := fun r u => TW ksM ad cy B qr 12 u ∧ FE ksM [(12, 39, 39)] w0 u ∧ ((0 ≤ r.toInt ∧ r.toInt ≤ 3))
set_option maxHeartbeats 4000000 in
set_option maxRecDepth 100000 in
theorem k_X12_draw_2 (l : Launch) (adK adV : Nat → Nat) (dC : Nat → ClassId) (dI : Nat → Nat → Nat) (cy : Nat → ClassId) (ad : Nat → Nat) (B : Int) (hB0 : 100000 ≤ B) (hB1 : B ≤ 1073741824) (qr : Nat) (s1 : Int)  (a1 : Int32) (ra1 : 1 ≤ a1.toInt) (ta1 : a1.toInt ≤ 4) (w0 : va_W) (sz : Nat) (hT : TW ksM ad cy B qr 12 w0)  : Met l yX12_draw (wu yX12_draw cX12_draw 2 (some .int)) ({ frames := 1, cells := 0, slots := 0, locals := 12 }) (va_Pc [.ref (ad 0), .int a1] (wpreS adK adV dC dI cy sz w0)) (va_Qi (P_X12_draw_2 ad cy B qr s1 a1 w0) (fun u : va_W => wpost dC dI cy (va_A w0 sz) u) (va_A w0 sz)) 0 0 (va_A w0 sz) := by
  refine Met.ofW (cc := cX12_draw) (maxL := 2) (ret := (some .int)) (by decide) rfl ?_
  intro p e s m args below meth c s₁ Bk hml hv
  obtain ⟨rfl, ⟨hsz, hP, hK, hD0⟩, hE, hSR⟩ := hv
  have hx := Bk.exec
  have hb := Bk.bytes
  have hr := Bk.returns
  have hlocks := Bk.notSynchronized
  have hC : CallFix p m c cX12_draw 2 s _ (wu yX12_draw cX12_draw 2 (some .int)) RX12 := ⟨hx, hb, hml, findClass_of_methodNamed Bk.named, atoms_spec (ws := (wu yX12_draw cX12_draw 2 (some .int))) Bk.pre⟩
  subst hsz
  have hD := hD0.self (sz := s.heap.size)
  generalize hAe : va_A w0 s.heap.size = A at hD hE ⊢
  have hA : ∀ q : Nat, s.heap.size ≤ q → A q := fun q h => by rw [← hAe]; exact Or.inr h
  have hw : Wd dC dI A s.heap s.heap [] w0 := ⟨hP, hD, va_S.rf⟩
  have hF : FE ksM [(12, 39, 39)] w0 w0 := FE.rf
  have hl := lv_entry ([.ref (ad 0), .int a1]) (n := 2) (Nat.le_of_ble_eq_true rfl)
  rw [lg_entry_eq]
  generalize (lg_sl ([.ref (ad 0), .int a1]) ++ List.replicate (2 - (lg_sl ([.ref (ad 0), .int a1])).length) Slot.unset).toArray = ls at hl ⊢
  have hl : lv_has ls 2 [(0, .ref (ad 0)), (1, .int a1)] := hl
  generalize hloc : ([] : List Loc) = locs at hw ⊢
  have hinX12 : ∀ w ∈ u_ws RX12 TX12 42, w ∈ (wu yX12_draw cX12_draw 2 (some .int)) := fun _ h => List.mem_cons_of_mem _ (up_71 h)
  refine lv_aload_n hx hb dX12_draw_0 rfl (lv_at hl 0 rfl) ?_
  refine lv_aload_n hx hb dX12_draw_1 rfl (lv_at hl 0 rfl) ?_
  refine tk_getl hC hK hw hT hinX12 kM_at0 (by decide) rfl 39 (by decide) (List.mem_cons_of_mem _ uw_68_4) rfl rfl dX12_draw_2 (fun x1 c2 rx1 tx1 => ?_)
  refine lv_ldc2 (v := 1103515245) hx hb hC.2.2.2.1 (hC.2.2.2.2 _ (List.mem_cons_of_mem _ uw_68_9)) dX12_draw_5 ?_
  refine lv_lmul hx hb dX12_draw_8 ?_
  refine lv_topl (fun x3 ex3 => ?_)
  have ex3 : x3.toInt = x1.toInt * (1103515245 : Int) := by rw [ex3]; exact wk_mull (show (-9223372036854775808) ≤ x1.toInt * (1103515245 : Int) by omega) (show x1.toInt * (1103515245 : Int) ≤ 9223372036854775807 by omega)
  refine lv_ldc2 (v := 12345) hx hb hC.2.2.2.1 (hC.2.2.2.2 _ (List.mem_cons_of_mem _ uw_68_10)) dX12_draw_9 ?_
  refine lv_ladd hx hb dX12_draw_12 ?_
  refine lv_topl (fun x4 ex4 => ?_)
  have ex4 : x4.toInt = x3.toInt + (12345 : Int) := by rw [ex4]; exact wk_addl (show (-9223372036854775808) ≤ x3.toInt + (12345 : Int) by omega) (show x3.toInt + (12345 : Int) ≤ 9223372036854775807 by omega)
  refine lv_ldc2 (v := 2147483648) hx hb hC.2.2.2.1 (hC.2.2.2.2 _ (List.mem_cons_of_mem _ uw_68_11)) dX12_draw_13 ?_
  refine lv_lrem hx hb dX12_draw_16 (by decide) ?_
  refine lv_topl (fun x5 ex5 => ?_)
  have ex5 : x5.toInt = x4.toInt % (2147483648 : Int) := by rw [ex5]; exact wk_reml (show 0 ≤ x4.toInt by omega) (show 0 < (2147483648 : Int) by decide)
  refine tk_putl hC hK hw hT hinX12 tyX12_ok nmX12 kM_at0 (by decide) rfl rfl 39 (by decide) (List.mem_cons_of_mem _ uw_68_4) rfl rfl rfl rfl (show 0 ≤ x5.toInt by omega) (show x5.toInt ≤ 2147483648 by omega) dX12_draw_17 (fun H locs w6 hw hT k8 c7 => ?_)
  have hF := hF.put kM_at0 (k := 39) (by decide) k8
  refine lv_aload_n hx hb dX12_draw_20 rfl (lv_at hl 0 rfl) ?_
  refine tk_getl hC hK hw hT hinX12 kM_at0 (by decide) rfl 39 (by decide) (List.mem_cons_of_mem _ uw_68_4) rfl rfl dX12_draw_21 (fun x9 c10 rx9 tx9 => ?_)
  refine wk_topl x5 (c10.symm.trans c7) ?_
  refine lv_ldc2 (v := 65536) hx hb hC.2.2.2.1 (hC.2.2.2.2 _ (List.mem_cons_of_mem _ uw_68_12)) dX12_draw_24 ?_
  refine lv_ldiv hx hb dX12_draw_27 (by decide) ?_
  refine lv_topl (fun x11 ex11 => ?_)
  have ex11 : x11.toInt = x5.toInt / (65536 : Int) := by rw [ex11]; exact wk_divl (show 0 ≤ x5.toInt by omega) (show 0 < (65536 : Int) by decide)
  refine lv_iload_n hx hb dX12_draw_28 rfl (lv_at hl 1 rfl) ?_
  refine lv_i2l hx hb dX12_draw_29 rfl ?_
  refine lv_topl (fun x12 ex12 => ?_)
  have ex12 : x12.toInt = a1.toInt := by rw [ex12]; exact wk_i2l _
  have bx12 := wk_i32 a1
  refine lv_lrem hx hb dX12_draw_30 (fun h => absurd (show x12.toInt = 0 from wk_eql.mp h) (by omega)) ?_
  refine lv_topl (fun x13 ex13 => ?_)
  have bx13 : 0 ≤ x13.toInt ∧ x13.toInt < x12.toInt := by rw [ex13]; exact wk_remRl (by omega) (by omega)
  refine lv_l2i hx hb dX12_draw_31 rfl ?_
  refine lv_topi (fun x14 ex14 => ?_)
  have ex14 : x14.toInt = x13.toInt := by rw [ex14]; exact wk_l2i (by omega) (by omega)
  exact tk_iret hC hr hlocks hK ⟨hT, hF, ⟨(show 0 ≤ x14.toInt by omega), (show x14.toInt ≤ 3 by omega)⟩⟩ hw dX12_draw_32
abbrev P_X12_draw_3 (ad : Nat → Nat) (cy : Nat → ClassId) (B : Int) (qr : Nat) (s1 : Int)  (w0 : va_W) : Int32 → va_W → Prop := fun r u => TW ksM ad cy B qr 12 u ∧ FE ksM [(12, 39, 39)] w0 u ∧ ((0 ≤ r.toInt ∧ r.toInt ≤ 167))
set_option maxHeartbeats 4000000 in
set_option maxRecDepth 100000 in
theorem k_X12_draw_3 (l : Launch) (adK adV : Nat → Nat) (dC : Nat → ClassId) (dI : Nat → Nat → Nat) (cy : Nat → ClassId) (ad : Nat → Nat) (B : Int) (hB0 : 100000 ≤ B) (hB1 : B ≤ 1073741824) (qr : Nat) (s1 : Int)   (w0 : va_W) (sz : Nat) (hT : TW ksM ad cy B qr 12 w0)  : Met l yX12_draw (wu yX12_draw cX12_draw 2 (some .int)) ({ frames := 1, cells := 0, slots := 0, locals := 12 }) (va_Pc [.ref (ad 0), .int 168] (wpreS adK adV dC dI cy sz w0)) (va_Qi (P_X12_draw_3 ad cy B qr s1  w0) (fun u : va_W => wpost dC dI cy (va_A w0 sz) u) (va_A w0 sz)) 0 0 (va_A w0 sz) := by
  refine Met.ofW (cc := cX12_draw) (maxL := 2) (ret := (some .int)) (by decide) rfl ?_
  intro p e s m args below meth c s₁ Bk hml hv
  obtain ⟨rfl, ⟨hsz, hP, hK, hD0⟩, hE, hSR⟩ := hv
  have hx := Bk.exec
  have hb := Bk.bytes
  have hr := Bk.returns
  have hlocks := Bk.notSynchronized
  have hC : CallFix p m c cX12_draw 2 s _ (wu yX12_draw cX12_draw 2 (some .int)) RX12 := ⟨hx, hb, hml, findClass_of_methodNamed Bk.named, atoms_spec (ws := (wu yX12_draw cX12_draw 2 (some .int))) Bk.pre⟩
  subst hsz
  have hD := hD0.self (sz := s.heap.size)
  generalize hAe : va_A w0 s.heap.size = A at hD hE ⊢
  have hA : ∀ q : Nat, s.heap.size ≤ q → A q := fun q h => by rw [← hAe]; exact Or.inr h
  have hw : Wd dC dI A s.heap s.heap [] w0 := ⟨hP, hD, va_S.rf⟩
  have hF : FE ksM [(12, 39, 39)] w0 w0 := FE.rf
  have hl := lv_entry ([.ref (ad 0), .int 168]) (n := 2) (Nat.le_of_ble_eq_true rfl)
  rw [lg_entry_eq]
  generalize (lg_sl ([.ref (ad 0), .int 168]) ++ List.replicate (2 - (lg_sl ([.ref (ad 0), .int 168])).length) Slot.unset).toArray = ls at hl ⊢
  have hl : lv_has ls 2 [(0, .ref (ad 0)), (1, .int 168)] := hl
  generalize hloc : ([] : List Loc) = locs at hw ⊢
  have hinX12 : ∀ w ∈ u_ws RX12 TX12 42, w ∈ (wu yX12_draw cX12_draw 2 (some .int)) := fun _ h => List.mem_cons_of_mem _ (up_71 h)
  refine lv_aload_n hx hb dX12_draw_0 rfl (lv_at hl 0 rfl) ?_
  refine lv_aload_n hx hb dX12_draw_1 rfl (lv_at hl 0 rfl) ?_
  refine tk_getl hC hK hw hT hinX12 kM_at0 (by decide) rfl 39 (by decide) (List.mem_cons_of_mem _ uw_68_4) rfl rfl dX12_draw_2 (fun x1 c2 rx1 tx1 => ?_)
  refine lv_ldc2 (v := 1103515245) hx hb hC.2.2.2.1 (hC.2.2.2.2 _ (List.mem_cons_of_mem _ uw_68_9)) dX12_draw_5 ?_
  refine lv_lmul hx hb dX12_draw_8 ?_
  refine lv_topl (fun x3 ex3 => ?_)
  have ex3 : x3.toInt = x1.toInt * (1103515245 : Int) := by rw [ex3]; exact wk_mull (show (-9223372036854775808) ≤ x1.toInt * (1103515245 : Int) by omega) (show x1.toInt * (1103515245 : Int) ≤ 9223372036854775807 by omega)
  refine lv_ldc2 (v := 12345) hx hb hC.2.2.2.1 (hC.2.2.2.2 _ (List.mem_cons_of_mem _ uw_68_10)) dX12_draw_9 ?_
  refine lv_ladd hx hb dX12_draw_12 ?_
  refine lv_topl (fun x4 ex4 => ?_)
  have ex4 : x4.toInt = x3.toInt + (12345 : Int) := by rw [ex4]; exact wk_addl (show (-9223372036854775808) ≤ x3.toInt + (12345 : Int) by omega) (show x3.toInt + (12345 : Int) ≤ 9223372036854775807 by omega)
  refine lv_ldc2 (v := 2147483648) hx hb hC.2.2.2.1 (hC.2.2.2.2 _ (List.mem_cons_of_mem _ uw_68_11)) dX12_draw_13 ?_
  refine lv_lrem hx hb dX12_draw_16 (by decide) ?_
  refine lv_topl (fun x5 ex5 => ?_)
  have ex5 : x5.toInt = x4.toInt % (2147483648 : Int) := by rw [ex5]; exact wk_reml (show 0 ≤ x4.toInt by omega) (show 0 < (2147483648 : Int) by decide)
  refine tk_putl hC hK hw hT hinX12 tyX12_ok nmX12 kM_at0 (by decide) rfl rfl 39 (by decide) (List.mem_cons_of_mem _ uw_68_4) rfl rfl rfl rfl (show 0 ≤ x5.toInt by omega) (show x5.toInt ≤ 2147483648 by omega) dX12_draw_17 (fun H locs w6 hw hT k8 c7 => ?_)
  have hF := hF.put kM_at0 (k := 39) (by decide) k8
  refine lv_aload_n hx hb dX12_draw_20 rfl (lv_at hl 0 rfl) ?_
  refine tk_getl hC hK hw hT hinX12 kM_at0 (by decide) rfl 39 (by decide) (List.mem_cons_of_mem _ uw_68_4) rfl rfl dX12_draw_21 (fun x9 c10 rx9 tx9 => ?_)
  refine wk_topl x5 (c10.symm.trans c7) ?_
  refine lv_ldc2 (v := 65536) hx hb hC.2.2.2.1 (hC.2.2.2.2 _ (List.mem_cons_of_mem _ uw_68_12)) dX12_draw_24 ?_
  refine lv_ldiv hx hb dX12_draw_27 (by decide) ?_
  refine lv_topl (fun x11 ex11 => ?_)
  have ex11 : x11.toInt = x5.toInt / (65536 : Int) := by rw [ex11]; exact wk_divl (show 0 ≤ x5.toInt by omega) (show 0 < (65536 : Int) by decide)
  refine lv_iload_n hx hb dX12_draw_28 rfl (lv_at hl 1 rfl) ?_
  refine lv_i2l hx hb dX12_draw_29 rfl ?_
  refine wk_topl 168 (by decide) ?_
  refine lv_lrem hx hb dX12_draw_30 (by decide) ?_
  refine lv_topl (fun x12 ex12 => ?_)
  have ex12 : x12.toInt = x11.toInt % (168 : Int) := by rw [ex12]; exact wk_reml (show 0 ≤ x11.toInt by omega) (show 0 < (168 : Int) by decide)
  refine lv_l2i hx hb dX12_draw_31 rfl ?_
  refine lv_topi (fun x13 ex13 => ?_)
  have ex13 : x13.toInt = x12.toInt := by rw [ex13]; exact wk_l2i (by omega) (by omega)
  exact tk_iret hC hr hlocks hK ⟨hT, hF, ⟨(show 0 ≤ x13.toInt by omega), (show x13.toInt ≤ 167 by omega)⟩⟩ hw dX12_draw_32
abbrev P_X12_in_18 (ad : Nat → Nat) (cy : Nat → ClassId) (B : Int) (qr : Nat) (s1 : Int) (a0 : Int64) (w0 : va_W) : Int32 → va_W → Prop := fun r u => w0 = u ∧ ((r = 0) ∨ (r = 1 ∧ 1 ≤ a0.toInt ∧ a0.toInt ≤ 30))
set_option maxHeartbeats 4000000 in
set_option maxRecDepth 100000 in
theorem k_X12_in_18 (l : Launch) (adK adV : Nat → Nat) (dC : Nat → ClassId) (dI : Nat → Nat → Nat) (cy : Nat → ClassId) (ad : Nat → Nat) (B : Int) (hB0 : 100000 ≤ B) (hB1 : B ≤ 1073741824) (qr : Nat) (s1 : Int)  (a0 : Int64) (ra0 : (-2147483648) ≤ a0.toInt) (ta0 : a0.toInt ≤ 2147483647) (w0 : va_W) (sz : Nat) (hT : TW ksM ad cy B qr 12 w0)  : Met l yX12_in (wu yX12_in cX12_in 6 (some .boolean)) ({ frames := 1, cells := 0, slots := 0, locals := 12 }) (va_Pc [.long a0, .long 1, .long 30] (wpreS adK adV dC dI cy sz w0)) (va_Qi (P_X12_in_18 ad cy B qr s1 a0 w0) (fun u : va_W => wpost dC dI cy (va_A w0 sz) u) (va_A w0 sz)) 0 0 (va_A w0 sz) := by
  refine Met.ofW (cc := cX12_in) (maxL := 6) (ret := (some .boolean)) (by decide) rfl ?_
  intro p e s m args below meth c s₁ Bk hml hv
  obtain ⟨rfl, ⟨hsz, hP, hK, hD0⟩, hE, hSR⟩ := hv
  have hx := Bk.exec
  have hb := Bk.bytes
  have hr := Bk.returns
  have hlocks := Bk.notSynchronized
  have hC : CallFix p m c cX12_in 6 s _ (wu yX12_in cX12_in 6 (some .boolean)) RX12 := ⟨hx, hb, hml, findClass_of_methodNamed Bk.named, atoms_spec (ws := (wu yX12_in cX12_in 6 (some .boolean))) Bk.pre⟩
  subst hsz
  have hD := hD0.self (sz := s.heap.size)
  generalize hAe : va_A w0 s.heap.size = A at hD hE ⊢
  have hA : ∀ q : Nat, s.heap.size ≤ q → A q := fun q h => by rw [← hAe]; exact Or.inr h
  have hw : Wd dC dI A s.heap s.heap [] w0 := ⟨hP, hD, va_S.rf⟩
  have hF : FE ksM ([] : List (Nat × Nat × Nat)) w0 w0 := FE.rf
  have hl := lv_entry ([.long a0, .long 1, .long 30]) (n := 6) (Nat.le_of_ble_eq_true rfl)
  rw [lg_entry_eq]
  generalize (lg_sl ([.long a0, .long 1, .long 30]) ++ List.replicate (6 - (lg_sl ([.long a0, .long 1, .long 30])).length) Slot.unset).toArray = ls at hl ⊢
  have hl : lv_has ls 6 [(0, .long a0), (2, .long 1), (4, .long 30)] := hl
  generalize hloc : ([] : List Loc) = locs at hw ⊢
  have J17 : ∀ (H : Heap) (locs : List Loc) (ls : Array Slot), (-2147483648) ≤ a0.toInt → a0.toInt ≤ 2147483647 → Wd dC dI A s.heap H locs w0 → lv_has ls 6 [(0, .long a0), (2, .long 1), (4, .long 30)] → W p l e ({ frames := 1, cells := 0, slots := 0, locals := 12 }) s m (List.toArray [.long a0, .long 1, .long 30]) below meth c H locs 0 0 (MQ below (va_Qi (P_X12_in_18 ad cy B qr s1 a0 w0) (fun u : va_W => wpost dC dI cy A u) A) (List.toArray [.long a0, .long 1, .long 30]) s 0 0 A) (F0 m 17 ls []) := by
    intro H locs ls r1 t2 hw hl
    refine lv_iconst (v := 0) hx hb dX12_in_17 (by decide) ?_
    exact tk_zret hC hr rfl hlocks hK ⟨rfl, (Or.inl rfl)⟩ hw dX12_in_18
  refine lv_lload_n hx hb dX12_in_0 rfl (lv_at hl 0 rfl) ?_
  refine lv_lload_n hx hb dX12_in_1 rfl (lv_at hl 1 rfl) ?_
  refine W.lcmp hx hb dX12_in_2 ?_
  refine lv_if_lt (tgt := 17) hx hb dX12_in_3 (by decide) (fun c3 => ?_) (fun c3 => ?_)
  · have c3 : a0.toInt < (1 : Int) := wk_cltT c3
    exact J17  s.heap locs ls  (show (-2147483648) ≤ a0.toInt from ra0) (show a0.toInt ≤ 2147483647 from ta0)  hw   (lv_sub hl [0, 1, 2] rfl)
  · have c3 : (1 : Int) ≤ a0.toInt := wk_cltF c3
    refine lv_lload_n hx hb dX12_in_6 rfl (lv_at hl 0 rfl) ?_
    refine lv_lload hx hb dX12_in_7 (lv_at hl 2 rfl) ?_
    refine W.lcmp hx hb dX12_in_9 ?_
    refine lv_if_gt (tgt := 17) hx hb dX12_in_10 (by decide) (fun c4 => ?_) (fun c4 => ?_)
    · have c4 : (30 : Int) < a0.toInt := wk_cgtT c4
      exact J17  s.heap locs ls  (show (-2147483648) ≤ a0.toInt from ra0) (show a0.toInt ≤ 2147483647 from ta0)  hw   (lv_sub hl [0, 1, 2] rfl)
    · have c4 : a0.toInt ≤ (30 : Int) := wk_cgtF c4
      refine lv_iconst (v := 1) hx hb dX12_in_13 (by decide) ?_
      refine lv_goto (tgt := 18) hx hb dX12_in_14 (by decide) ?_
      exact tk_zret hC hr rfl hlocks hK ⟨rfl, (Or.inr ⟨rfl, (show 1 ≤ a0.toInt from c3), (show a0.toInt ≤ 30 from c4)⟩)⟩ hw dX12_in_18
abbrev P_X12_walkerOf_11 (ad : Nat → Nat) (cy : Nat → ClassId) (B : Int) (qr : Nat) (s1 : Int)  (w0 : va_W) : Int32 → va_W → Prop := fun r u => w0 = u ∧ ((0 ≤ r.toInt ∧ r.toInt ≤ 9 ∧ gi u 12 216 = r))
set_option maxHeartbeats 4000000 in
set_option maxRecDepth 100000 in
theorem k_X12_walkerOf_11 (l : Launch) (adK adV : Nat → Nat) (dC : Nat → ClassId) (dI : Nat → Nat → Nat) (cy : Nat → ClassId) (ad : Nat → Nat) (B : Int) (hB0 : 100000 ≤ B) (hB1 : B ≤ 1073741824) (qr : Nat) (s1 : Int)   (w0 : va_W) (sz : Nat) (hT : TW ksM ad cy B qr 12 w0)  : Met l yX12_walkerOf (wu yX12_walkerOf cX12_walkerOf 3 (some .int)) ({ frames := 1, cells := 0, slots := 0, locals := 12 }) (va_Pc [.ref (ad 0), .int 0, .int 0] (wpreS adK adV dC dI cy sz w0)) (va_Qi (P_X12_walkerOf_11 ad cy B qr s1  w0) (fun u : va_W => wpost dC dI cy (va_A w0 sz) u) (va_A w0 sz)) 0 0 (va_A w0 sz) := by
  refine Met.ofW (cc := cX12_walkerOf) (maxL := 3) (ret := (some .int)) (by decide) rfl ?_
  intro p e s m args below meth c s₁ Bk hml hv
  obtain ⟨rfl, ⟨hsz, hP, hK, hD0⟩, hE, hSR⟩ := hv
  have hx := Bk.exec
  have hb := Bk.bytes
  have hr := Bk.returns
  have hlocks := Bk.notSynchronized
  have hC : CallFix p m c cX12_walkerOf 3 s _ (wu yX12_walkerOf cX12_walkerOf 3 (some .int)) RX12 := ⟨hx, hb, hml, findClass_of_methodNamed Bk.named, atoms_spec (ws := (wu yX12_walkerOf cX12_walkerOf 3 (some .int))) Bk.pre⟩
  subst hsz
  have hD := hD0.self (sz := s.heap.size)
  generalize hAe : va_A w0 s.heap.size = A at hD hE ⊢
  have hA : ∀ q : Nat, s.heap.size ≤ q → A q := fun q h => by rw [← hAe]; exact Or.inr h
  have hw : Wd dC dI A s.heap s.heap [] w0 := ⟨hP, hD, va_S.rf⟩
  have hF : FE ksM ([] : List (Nat × Nat × Nat)) w0 w0 := FE.rf
  have hl := lv_entry ([.ref (ad 0), .int 0, .int 0]) (n := 3) (Nat.le_of_ble_eq_true rfl)
  rw [lg_entry_eq]
  generalize (lg_sl ([.ref (ad 0), .int 0, .int 0]) ++ List.replicate (3 - (lg_sl ([.ref (ad 0), .int 0, .int 0])).length) Slot.unset).toArray = ls at hl ⊢
  have hl : lv_has ls 3 [(0, .ref (ad 0)), (1, .int 0), (2, .int 0)] := hl
  generalize hloc : ([] : List Loc) = locs at hw ⊢
  have hinX12 : ∀ w ∈ u_ws RX12 TX12 42, w ∈ (wu yX12_walkerOf cX12_walkerOf 3 (some .int)) := fun _ h => List.mem_cons_of_mem _ (up_71 h)
  refine lv_aload_n hx hb dX12_walkerOf_0 rfl (lv_at hl 0 rfl) ?_
  refine tk_getA hC hK hw hT hinX12 kM_at0 (by decide) rfl 26 (by decide) (List.mem_cons_of_mem _ uw_7_1) rfl rfl dX12_walkerOf_1 ?_
  refine lv_sipush (v := 216) hx hb dX12_walkerOf_4 (by decide) ?_
  refine lv_bipush (v := 9) hx hb dX12_walkerOf_7 (by decide) ?_
  refine lv_iload_n hx hb dX12_walkerOf_9 rfl (lv_at hl 1 rfl) ?_
  refine lv_imul hx hb dX12_walkerOf_10 ?_
  refine wk_top 0 (by decide) ?_
  refine lv_iadd hx hb dX12_walkerOf_11 ?_
  refine wk_top 216 (by decide) ?_
  refine lv_iload_n hx hb dX12_walkerOf_12 rfl (lv_at hl 2 rfl) ?_
  refine lv_iadd hx hb dX12_walkerOf_13 ?_
  refine wk_top 216 (by decide) ?_
  refine tk_ialdR hC hK hw hT kM_at12 rfl (by decide) (by decide) dX12_walkerOf_14 (fun x1 c2 Ex1 => ?_)
  have bx1 := tk_rgI rfl 216 1 1 0 9 (by decide +kernel) ⟨0, by decide, by decide⟩ Ex1
  have c2 : gi w0 12 216 = x1 := c2
  exact tk_iret hC hr hlocks hK ⟨rfl, ⟨(show 0 ≤ x1.toInt by omega), (show x1.toInt ≤ 9 by omega), c2⟩⟩ hw dX12_walkerOf_15
abbrev P_X12_walkerOf_12 (ad : Nat → Nat) (cy : Nat → ClassId) (B : Int) (qr : Nat) (s1 : Int)  (w0 : va_W) : Int32 → va_W → Prop := fun r u => w0 = u ∧ ((0 ≤ r.toInt ∧ r.toInt ≤ 9 ∧ gi u 12 217 = r))
set_option maxHeartbeats 4000000 in
set_option maxRecDepth 100000 in
theorem k_X12_walkerOf_12 (l : Launch) (adK adV : Nat → Nat) (dC : Nat → ClassId) (dI : Nat → Nat → Nat) (cy : Nat → ClassId) (ad : Nat → Nat) (B : Int) (hB0 : 100000 ≤ B) (hB1 : B ≤ 1073741824) (qr : Nat) (s1 : Int)   (w0 : va_W) (sz : Nat) (hT : TW ksM ad cy B qr 12 w0)  : Met l yX12_walkerOf (wu yX12_walkerOf cX12_walkerOf 3 (some .int)) ({ frames := 1, cells := 0, slots := 0, locals := 12 }) (va_Pc [.ref (ad 0), .int 0, .int 1] (wpreS adK adV dC dI cy sz w0)) (va_Qi (P_X12_walkerOf_12 ad cy B qr s1  w0) (fun u : va_W => wpost dC dI cy (va_A w0 sz) u) (va_A w0 sz)) 0 0 (va_A w0 sz) := by
  refine Met.ofW (cc := cX12_walkerOf) (maxL := 3) (ret := (some .int)) (by decide) rfl ?_
  intro p e s m args below meth c s₁ Bk hml hv
  obtain ⟨rfl, ⟨hsz, hP, hK, hD0⟩, hE, hSR⟩ := hv
  have hx := Bk.exec
  have hb := Bk.bytes
  have hr := Bk.returns
  have hlocks := Bk.notSynchronized
  have hC : CallFix p m c cX12_walkerOf 3 s _ (wu yX12_walkerOf cX12_walkerOf 3 (some .int)) RX12 := ⟨hx, hb, hml, findClass_of_methodNamed Bk.named, atoms_spec (ws := (wu yX12_walkerOf cX12_walkerOf 3 (some .int))) Bk.pre⟩
  subst hsz
  have hD := hD0.self (sz := s.heap.size)
  generalize hAe : va_A w0 s.heap.size = A at hD hE ⊢
  have hA : ∀ q : Nat, s.heap.size ≤ q → A q := fun q h => by rw [← hAe]; exact Or.inr h
  have hw : Wd dC dI A s.heap s.heap [] w0 := ⟨hP, hD, va_S.rf⟩
  have hF : FE ksM ([] : List (Nat × Nat × Nat)) w0 w0 := FE.rf
  have hl := lv_entry ([.ref (ad 0), .int 0, .int 1]) (n := 3) (Nat.le_of_ble_eq_true rfl)
  rw [lg_entry_eq]
  generalize (lg_sl ([.ref (ad 0), .int 0, .int 1]) ++ List.replicate (3 - (lg_sl ([.ref (ad 0), .int 0, .int 1])).length) Slot.unset).toArray = ls at hl ⊢
  have hl : lv_has ls 3 [(0, .ref (ad 0)), (1, .int 0), (2, .int 1)] := hl
  generalize hloc : ([] : List Loc) = locs at hw ⊢
  have hinX12 : ∀ w ∈ u_ws RX12 TX12 42, w ∈ (wu yX12_walkerOf cX12_walkerOf 3 (some .int)) := fun _ h => List.mem_cons_of_mem _ (up_71 h)
  refine lv_aload_n hx hb dX12_walkerOf_0 rfl (lv_at hl 0 rfl) ?_
  refine tk_getA hC hK hw hT hinX12 kM_at0 (by decide) rfl 26 (by decide) (List.mem_cons_of_mem _ uw_7_1) rfl rfl dX12_walkerOf_1 ?_
  refine lv_sipush (v := 216) hx hb dX12_walkerOf_4 (by decide) ?_
  refine lv_bipush (v := 9) hx hb dX12_walkerOf_7 (by decide) ?_
  refine lv_iload_n hx hb dX12_walkerOf_9 rfl (lv_at hl 1 rfl) ?_
  refine lv_imul hx hb dX12_walkerOf_10 ?_
  refine wk_top 0 (by decide) ?_
  refine lv_iadd hx hb dX12_walkerOf_11 ?_
  refine wk_top 216 (by decide) ?_
  refine lv_iload_n hx hb dX12_walkerOf_12 rfl (lv_at hl 2 rfl) ?_
  refine lv_iadd hx hb dX12_walkerOf_13 ?_
  refine wk_top 217 (by decide) ?_
  refine tk_ialdR hC hK hw hT kM_at12 rfl (by decide) (by decide) dX12_walkerOf_14 (fun x1 c2 Ex1 => ?_)
  have bx1 := tk_rgI rfl 217 1 1 0 9 (by decide +kernel) ⟨0, by decide, by decide⟩ Ex1
  have c2 : gi w0 12 217 = x1 := c2
  exact tk_iret hC hr hlocks hK ⟨rfl, ⟨(show 0 ≤ x1.toInt by omega), (show x1.toInt ≤ 9 by omega), c2⟩⟩ hw dX12_walkerOf_15
abbrev P_X12_isThere_2 (ad : Nat → Nat) (cy : Nat → ClassId) (B : Int) (qr : Nat) (s1 : Int)  (w0 : va_W) : Int32 → va_W → Prop := fun r u => w0 = u ∧ ((r = 0) ∨ (r = 1))
set_option maxHeartbeats 4000000 in
set_option maxRecDepth 100000 in
theorem k_X12_isThere_2 (l : Launch) (adK adV : Nat → Nat) (dC : Nat → ClassId) (dI : Nat → Nat → Nat) (cy : Nat → ClassId) (ad : Nat → Nat) (B : Int) (hB0 : 100000 ≤ B) (hB1 : B ≤ 1073741824) (qr : Nat) (s1 : Int)   (w0 : va_W) (sz : Nat) (hT : TW ksM ad cy B qr 12 w0)  : Met l yX12_isThere (wu yX12_isThere cX12_isThere 2 (some .boolean)) ({ frames := 2, cells := 0, slots := 0, locals := 34 }) (va_Pc [.ref (ad 0), .int 0] (wpreS adK adV dC dI cy sz w0)) (va_Qi (P_X12_isThere_2 ad cy B qr s1  w0) (fun u : va_W => wpost dC dI cy (va_A w0 sz) u) (va_A w0 sz)) 0 0 (va_A w0 sz) := by
  refine Met.ofW (cc := cX12_isThere) (maxL := 2) (ret := (some .boolean)) (by decide) rfl ?_
  intro p e s m args below meth c s₁ Bk hml hv
  obtain ⟨rfl, ⟨hsz, hP, hK, hD0⟩, hE, hSR⟩ := hv
  have hx := Bk.exec
  have hb := Bk.bytes
  have hr := Bk.returns
  have hlocks := Bk.notSynchronized
  have hC : CallFix p m c cX12_isThere 2 s _ (wu yX12_isThere cX12_isThere 2 (some .boolean)) RX12 := ⟨hx, hb, hml, findClass_of_methodNamed Bk.named, atoms_spec (ws := (wu yX12_isThere cX12_isThere 2 (some .boolean))) Bk.pre⟩
  subst hsz
  have hD := hD0.self (sz := s.heap.size)
  generalize hAe : va_A w0 s.heap.size = A at hD hE ⊢
  have hA : ∀ q : Nat, s.heap.size ≤ q → A q := fun q h => by rw [← hAe]; exact Or.inr h
  have hw : Wd dC dI A s.heap s.heap [] w0 := ⟨hP, hD, va_S.rf⟩
  have hF : FE ksM ([] : List (Nat × Nat × Nat)) w0 w0 := FE.rf
  have hl := lv_entry ([.ref (ad 0), .int 0]) (n := 2) (Nat.le_of_ble_eq_true rfl)
  rw [lg_entry_eq]
  generalize (lg_sl ([.ref (ad 0), .int 0]) ++ List.replicate (2 - (lg_sl ([.ref (ad 0), .int 0])).length) Slot.unset).toArray = ls at hl ⊢
  have hl : lv_has ls 2 [(0, .ref (ad 0)), (1, .int 0)] := hl
  generalize hloc : ([] : List Loc) = locs at hw ⊢
  refine lv_aload_n hx hb dX12_isThere_0 rfl (lv_at hl 0 rfl) ?_
  refine lv_iload_n hx hb dX12_isThere_1 rfl (lv_at hl 1 rfl) ?_
  refine lv_iconst (v := 0) hx hb dX12_isThere_2 (by decide) ?_
  refine tk_Vi hC hK hw hT hA hE hSR kM_at0 (by decide) rfl (k_X12_walkerOf_11 l adK adV dC dI cy ad B (by omega) (by omega) qr s1    w0 s.heap.size hT ) (cwV 2 hC.2.2.2.2 uV_RX12_372 rfl rfl rfl (by decide +kernel) ⟨Nat.le_of_ble_eq_true rfl, Nat.le_of_ble_eq_true rfl⟩) rfl hl.1 rfl (Nat.le_of_ble_eq_true rfl) dX12_isThere_3 (fun r1 w3 H locs hp2 hw => ?_)
  obtain ⟨rfl, hg8⟩ := hp2
  obtain ⟨g5, g6, c7⟩ := hg8
  refine lv_aload_n hx hb dX12_isThere_6 rfl (lv_at hl 0 rfl) ?_
  refine lv_iload_n hx hb dX12_isThere_7 rfl (lv_at hl 1 rfl) ?_
  refine lv_iconst (v := 1) hx hb dX12_isThere_8 (by decide) ?_
  refine tk_Vi hC hK hw hT hA hE hSR kM_at0 (by decide) rfl (k_X12_walkerOf_12 l adK adV dC dI cy ad B (by omega) (by omega) qr s1    w0 H.size hT ) (cwV 2 hC.2.2.2.2 uV_RX12_372 rfl rfl rfl (by decide +kernel) ⟨Nat.le_of_ble_eq_true rfl, Nat.le_of_ble_eq_true rfl⟩) rfl hl.1 rfl (Nat.le_of_ble_eq_true rfl) dX12_isThere_9 (fun r9 w11 H locs hp10 hw => ?_)
  obtain ⟨rfl, hg16⟩ := hp10
  obtain ⟨g13, g14, c15⟩ := hg16
  refine lv_icmp_ne (tgt := 19) hx hb dX12_isThere_12 (by decide) (fun c17 => ?_) (fun c17 => ?_)
  · have c17 : ¬ r1.toInt = r9.toInt := wk_eqF c17
    refine lv_iconst (v := 0) hx hb dX12_isThere_19 (by decide) ?_
    exact tk_zret hC hr rfl hlocks hK ⟨rfl, (Or.inl rfl)⟩ hw dX12_isThere_20
  · have c17 : r1.toInt = r9.toInt := wk_eq.mp c17
    refine lv_iconst (v := 1) hx hb dX12_isThere_15 (by decide) ?_
    refine lv_goto (tgt := 20) hx hb dX12_isThere_16 (by decide) ?_
    exact tk_zret hC hr rfl hlocks hK ⟨rfl, (Or.inr rfl)⟩ hw dX12_isThere_20
abbrev P_X12_setsOut_2 (ad : Nat → Nat) (cy : Nat → ClassId) (B : Int) (qr : Nat) (s1 : Int) (a2 : Int32) (a3 : Int32) (a4 : Int32) (a5 : Int32) (a6 : Int32) (w0 : va_W) : va_W → Prop := fun u => TW ksM ad cy B qr 12 u ∧ FE ksM [(71, 216, 216), (71, 217, 217), (71, 218, 218), (71, 219, 219), (71, 220, 220), (71, 221, 221), (71, 222, 222), (71, 223, 223), (71, 224, 224)] w0 u ∧ (((∃ y : Int32, gi u 12 220 = y ∧ 0 ≤ y.toInt ∧ y.toInt ≤ 167) ∧ (∃ y : Int32, gi u 12 221 = y ∧ 0 ≤ y.toInt ∧ y.toInt ≤ 0) ∧ (∃ y : Int32, gi u 12 222 = y ∧ 0 ≤ y.toInt ∧ y.toInt ≤ 0) ∧ (∃ y : Int32, gi u 12 223 = y ∧ (-1) ≤ y.toInt ∧ y.toInt ≤ (-1)) ∧ (∃ y : Int32, gi u 12 224 = y ∧ (-1) ≤ y.toInt ∧ y.toInt ≤ (-1))))
set_option maxHeartbeats 4000000 in
set_option maxRecDepth 100000 in
theorem k_X12_setsOut_2 (l : Launch) (adK adV : Nat → Nat) (dC : Nat → ClassId) (dI : Nat → Nat → Nat) (cy : Nat → ClassId) (ad : Nat → Nat) (B : Int) (hB0 : 100000 ≤ B) (hB1 : B ≤ 1073741824) (qr : Nat) (s1 : Int)  (a2 : Int32) (ra2 : 0 ≤ a2.toInt) (ta2 : a2.toInt ≤ 9) (a3 : Int32) (ra3 : 0 ≤ a3.toInt) (ta3 : a3.toInt ≤ 9) (a4 : Int32) (ra4 : 0 ≤ a4.toInt) (ta4 : a4.toInt ≤ 3) (a5 : Int32) (ra5 : (-1) ≤ a5.toInt) (ta5 : a5.toInt ≤ 5) (a6 : Int32) (ra6 : 0 ≤ a6.toInt) (ta6 : a6.toInt ≤ 167) (w0 : va_W) (sz : Nat) (hT : TW ksM ad cy B qr 12 w0)  : Met l yX12_setsOut (wu yX12_setsOut cX12_setsOut 8 none) ({ frames := 1, cells := 0, slots := 0, locals := 12 }) (va_Pc [.ref (ad 0), .int 0, .int a2, .int a3, .int a4, .int a5, .int a6] (wpreS adK adV dC dI cy sz w0)) (va_Qv (P_X12_setsOut_2 ad cy B qr s1 a2 a3 a4 a5 a6 w0) (fun u : va_W => wpost dC dI cy (va_A w0 sz) u) (va_A w0 sz)) 0 0 (va_A w0 sz) := by
  refine Met.ofW (cc := cX12_setsOut) (maxL := 8) (ret := none) (by decide) rfl ?_
  intro p e s m args below meth c s₁ Bk hml hv
  obtain ⟨rfl, ⟨hsz, hP, hK, hD0⟩, hE, hSR⟩ := hv
  have hx := Bk.exec
  have hb := Bk.bytes
  have hr := Bk.returns
  have hlocks := Bk.notSynchronized
  have hC : CallFix p m c cX12_setsOut 8 s _ (wu yX12_setsOut cX12_setsOut 8 none) RX12 := ⟨hx, hb, hml, findClass_of_methodNamed Bk.named, atoms_spec (ws := (wu yX12_setsOut cX12_setsOut 8 none)) Bk.pre⟩
  subst hsz
  have hD := hD0.self (sz := s.heap.size)
  generalize hAe : va_A w0 s.heap.size = A at hD hE ⊢
  have hA : ∀ q : Nat, s.heap.size ≤ q → A q := fun q h => by rw [← hAe]; exact Or.inr h
  have hw : Wd dC dI A s.heap s.heap [] w0 := ⟨hP, hD, va_S.rf⟩
  have hF : FE ksM [(71, 216, 216), (71, 217, 217), (71, 218, 218), (71, 219, 219), (71, 220, 220), (71, 221, 221), (71, 222, 222), (71, 223, 223), (71, 224, 224)] w0 w0 := FE.rf
  have hl := lv_entry ([.ref (ad 0), .int 0, .int a2, .int a3, .int a4, .int a5, .int a6]) (n := 8) (Nat.le_of_ble_eq_true rfl)
  rw [lg_entry_eq]
  generalize (lg_sl ([.ref (ad 0), .int 0, .int a2, .int a3, .int a4, .int a5, .int a6]) ++ List.replicate (8 - (lg_sl ([.ref (ad 0), .int 0, .int a2, .int a3, .int a4, .int a5, .int a6])).length) Slot.unset).toArray = ls at hl ⊢
  have hl : lv_has ls 8 [(0, .ref (ad 0)), (1, .int 0), (2, .int a2), (3, .int a3), (4, .int a4), (5, .int a5), (6, .int a6)] := hl
  generalize hloc : ([] : List Loc) = locs at hw ⊢
  have hinX12 : ∀ w ∈ u_ws RX12 TX12 42, w ∈ (wu yX12_setsOut cX12_setsOut 8 none) := fun _ h => List.mem_cons_of_mem _ (up_71 h)
  refine lv_sipush (v := 216) hx hb dX12_setsOut_0 (by decide) ?_
  refine lv_bipush (v := 9) hx hb dX12_setsOut_3 (by decide) ?_
  refine lv_iload_n hx hb dX12_setsOut_5 rfl (lv_at hl 1 rfl) ?_
  refine lv_imul hx hb dX12_setsOut_6 ?_
  refine wk_top 0 (by decide) ?_
  refine lv_iadd hx hb dX12_setsOut_7 ?_
  refine wk_top 216 (by decide) ?_
  refine lv_istore (lv' := [(7, .int 216), (0, .ref (ad 0)), (1, .int 0), (2, .int a2), (3, .int a3), (4, .int a4), (5, .int a5), (6, .int a6)]) hx hb dX12_setsOut_8 hl (by decide) rfl (fun ls hl => ?_)
  refine lv_aload_n hx hb dX12_setsOut_10 rfl (lv_at hl 1 rfl) ?_
  refine tk_getA hC hK hw hT hinX12 kM_at0 (by decide) rfl 26 (by decide) (List.mem_cons_of_mem _ uw_7_1) rfl rfl dX12_setsOut_11 ?_
  refine lv_iload hx hb dX12_setsOut_14 (lv_at hl 0 rfl) ?_
  refine lv_iload_n hx hb dX12_setsOut_16 rfl (lv_at hl 3 rfl) ?_
  refine tk_iastR hC hK hw hT kM_at12 (by decide) rfl (by decide) (by decide) (tk_rgS rfl 216 1 1 0 9 (by decide +kernel) ⟨0, by decide, by decide⟩ (show 0 ≤ a2.toInt from ra2) (show a2.toInt ≤ 9 from ta2)) dX12_setsOut_17 (fun H locs w1 hw hT k3 c2 => ?_)
  have hF := hF.put kM_at12 (inE_of (a := 216) (b := 216) (by decide) (by decide) (by decide)) k3
  have c2 : gi w1 12 216 = a2 := c2
  refine lv_aload_n hx hb dX12_setsOut_18 rfl (lv_at hl 1 rfl) ?_
  refine tk_getA hC hK hw hT hinX12 kM_at0 (by decide) rfl 26 (by decide) (List.mem_cons_of_mem _ uw_7_1) rfl rfl dX12_setsOut_19 ?_
  refine lv_iload hx hb dX12_setsOut_22 (lv_at hl 0 rfl) ?_
  refine lv_iconst (v := 1) hx hb dX12_setsOut_24 (by decide) ?_
  refine lv_iadd hx hb dX12_setsOut_25 ?_
  refine wk_top 217 (by decide) ?_
  refine lv_iload_n hx hb dX12_setsOut_26 rfl (lv_at hl 4 rfl) ?_
  refine tk_iastR hC hK hw hT kM_at12 (by decide) rfl (by decide) (by decide) (tk_rgS rfl 217 1 1 0 9 (by decide +kernel) ⟨0, by decide, by decide⟩ (show 0 ≤ a3.toInt from ra3) (show a3.toInt ≤ 9 from ta3)) dX12_setsOut_27 (fun H locs w4 hw hT k6 c5 => ?_)
  have hF := hF.put kM_at12 (inE_of (a := 217) (b := 217) (by decide) (by decide) (by decide)) k6
  have c7 := k6.gi (Or.inr (by decide)) c2
  have c5 : gi w4 12 217 = a3 := c5
  refine lv_aload_n hx hb dX12_setsOut_28 rfl (lv_at hl 1 rfl) ?_
  refine tk_getA hC hK hw hT hinX12 kM_at0 (by decide) rfl 26 (by decide) (List.mem_cons_of_mem _ uw_7_1) rfl rfl dX12_setsOut_29 ?_
  refine lv_iload hx hb dX12_setsOut_32 (lv_at hl 0 rfl) ?_
  refine lv_iconst (v := 2) hx hb dX12_setsOut_34 (by decide) ?_
  refine lv_iadd hx hb dX12_setsOut_35 ?_
  refine wk_top 218 (by decide) ?_
  refine lv_iload hx hb dX12_setsOut_36 (lv_at hl 5 rfl) ?_
  refine tk_iastR hC hK hw hT kM_at12 (by decide) rfl (by decide) (by decide) (tk_rgS rfl 218 1 1 0 3 (by decide +kernel) ⟨0, by decide, by decide⟩ (show 0 ≤ a4.toInt from ra4) (show a4.toInt ≤ 3 from ta4)) dX12_setsOut_38 (fun H locs w8 hw hT k10 c9 => ?_)
  have hF := hF.put kM_at12 (inE_of (a := 218) (b := 218) (by decide) (by decide) (by decide)) k10
  have c11 := k10.gi (Or.inr (by decide)) c7
  have c12 := k10.gi (Or.inr (by decide)) c5
  have c9 : gi w8 12 218 = a4 := c9
  refine lv_aload_n hx hb dX12_setsOut_39 rfl (lv_at hl 1 rfl) ?_
  refine tk_getA hC hK hw hT hinX12 kM_at0 (by decide) rfl 26 (by decide) (List.mem_cons_of_mem _ uw_7_1) rfl rfl dX12_setsOut_40 ?_
  refine lv_iload hx hb dX12_setsOut_43 (lv_at hl 0 rfl) ?_
  refine lv_iconst (v := 3) hx hb dX12_setsOut_45 (by decide) ?_
  refine lv_iadd hx hb dX12_setsOut_46 ?_
  refine wk_top 219 (by decide) ?_
  refine lv_iload hx hb dX12_setsOut_47 (lv_at hl 6 rfl) ?_
  refine tk_iastR hC hK hw hT kM_at12 (by decide) rfl (by decide) (by decide) (tk_rgS rfl 219 1 1 (-1) 5 (by decide +kernel) ⟨0, by decide, by decide⟩ (show (-1) ≤ a5.toInt from ra5) (show a5.toInt ≤ 5 from ta5)) dX12_setsOut_49 (fun H locs w13 hw hT k15 c14 => ?_)
  have hF := hF.put kM_at12 (inE_of (a := 219) (b := 219) (by decide) (by decide) (by decide)) k15
  have c16 := k15.gi (Or.inr (by decide)) c11
  have c17 := k15.gi (Or.inr (by decide)) c12
  have c18 := k15.gi (Or.inr (by decide)) c9
  have c14 : gi w13 12 219 = a5 := c14
  refine lv_aload_n hx hb dX12_setsOut_50 rfl (lv_at hl 1 rfl) ?_
  refine tk_getA hC hK hw hT hinX12 kM_at0 (by decide) rfl 26 (by decide) (List.mem_cons_of_mem _ uw_7_1) rfl rfl dX12_setsOut_51 ?_
  refine lv_iload hx hb dX12_setsOut_54 (lv_at hl 0 rfl) ?_
  refine lv_iconst (v := 4) hx hb dX12_setsOut_56 (by decide) ?_
  refine lv_iadd hx hb dX12_setsOut_57 ?_
  refine wk_top 220 (by decide) ?_
  refine lv_iload hx hb dX12_setsOut_58 (lv_at hl 7 rfl) ?_
  refine tk_iastR hC hK hw hT kM_at12 (by decide) rfl (by decide) (by decide) ((tk_rgB rfl 220 1 1 (by decide +kernel) ⟨0, by decide, by decide⟩).mpr ⟨(show 0 ≤ a6.toInt from ra6), (show a6.toInt ≤ B by omega)⟩) dX12_setsOut_60 (fun H locs w19 hw hT k21 c20 => ?_)
  have hF := hF.put kM_at12 (inE_of (a := 220) (b := 220) (by decide) (by decide) (by decide)) k21
  have c22 := k21.gi (Or.inr (by decide)) c16
  have c23 := k21.gi (Or.inr (by decide)) c17
  have c24 := k21.gi (Or.inr (by decide)) c18
  have c25 := k21.gi (Or.inr (by decide)) c14
  have c20 : gi w19 12 220 = a6 := c20
  refine lv_aload_n hx hb dX12_setsOut_61 rfl (lv_at hl 1 rfl) ?_
  refine tk_getA hC hK hw hT hinX12 kM_at0 (by decide) rfl 26 (by decide) (List.mem_cons_of_mem _ uw_7_1) rfl rfl dX12_setsOut_62 ?_
  refine lv_iload hx hb dX12_setsOut_65 (lv_at hl 0 rfl) ?_
  refine lv_iconst (v := 5) hx hb dX12_setsOut_67 (by decide) ?_
  refine lv_iadd hx hb dX12_setsOut_68 ?_
  refine wk_top 221 (by decide) ?_
  refine lv_iconst (v := 0) hx hb dX12_setsOut_69 (by decide) ?_
  refine tk_iastR hC hK hw hT kM_at12 (by decide) rfl (by decide) (by decide) (tk_rg0 rfl (show 0 ≤ B from Int.le_trans (by decide) hB0) (by decide)) dX12_setsOut_70 (fun H locs w26 hw hT k28 c27 => ?_)
  have hF := hF.put kM_at12 (inE_of (a := 221) (b := 221) (by decide) (by decide) (by decide)) k28
  have c29 := k28.gi (Or.inr (by decide)) c22
  have c30 := k28.gi (Or.inr (by decide)) c23
  have c31 := k28.gi (Or.inr (by decide)) c24
  have c32 := k28.gi (Or.inr (by decide)) c25
  have c33 := k28.gi (Or.inr (by decide)) c20
  have c27 : gi w26 12 221 = 0 := c27
  refine lv_aload_n hx hb dX12_setsOut_71 rfl (lv_at hl 1 rfl) ?_
  refine tk_getA hC hK hw hT hinX12 kM_at0 (by decide) rfl 26 (by decide) (List.mem_cons_of_mem _ uw_7_1) rfl rfl dX12_setsOut_72 ?_
  refine lv_iload hx hb dX12_setsOut_75 (lv_at hl 0 rfl) ?_
  refine lv_bipush (v := 6) hx hb dX12_setsOut_77 (by decide) ?_
  refine lv_iadd hx hb dX12_setsOut_79 ?_
  refine wk_top 222 (by decide) ?_
  refine lv_iconst (v := 0) hx hb dX12_setsOut_80 (by decide) ?_
  refine tk_iastR hC hK hw hT kM_at12 (by decide) rfl (by decide) (by decide) (tk_rg0 rfl (show 0 ≤ B from Int.le_trans (by decide) hB0) (by decide)) dX12_setsOut_81 (fun H locs w34 hw hT k36 c35 => ?_)
  have hF := hF.put kM_at12 (inE_of (a := 222) (b := 222) (by decide) (by decide) (by decide)) k36
  have c37 := k36.gi (Or.inr (by decide)) c29
  have c38 := k36.gi (Or.inr (by decide)) c30
  have c39 := k36.gi (Or.inr (by decide)) c31
  have c40 := k36.gi (Or.inr (by decide)) c32
  have c41 := k36.gi (Or.inr (by decide)) c33
  have c42 := k36.gi (Or.inr (by decide)) c27
  have c35 : gi w34 12 222 = 0 := c35
  refine lv_aload_n hx hb dX12_setsOut_82 rfl (lv_at hl 1 rfl) ?_
  refine tk_getA hC hK hw hT hinX12 kM_at0 (by decide) rfl 26 (by decide) (List.mem_cons_of_mem _ uw_7_1) rfl rfl dX12_setsOut_83 ?_
  refine lv_iload hx hb dX12_setsOut_86 (lv_at hl 0 rfl) ?_
  refine lv_bipush (v := 7) hx hb dX12_setsOut_88 (by decide) ?_
  refine lv_iadd hx hb dX12_setsOut_90 ?_
  refine wk_top 223 (by decide) ?_
  refine lv_iconst (v := (-1)) hx hb dX12_setsOut_91 (by decide) ?_
  refine tk_iastR hC hK hw hT kM_at12 (by decide) rfl (by decide) (by decide) (tk_rgS rfl 223 1 1 (-1) (-1) (by decide +kernel) ⟨0, by decide, by decide⟩ (by decide) (by decide)) dX12_setsOut_92 (fun H locs w43 hw hT k45 c44 => ?_)
  have hF := hF.put kM_at12 (inE_of (a := 223) (b := 223) (by decide) (by decide) (by decide)) k45
  have c46 := k45.gi (Or.inr (by decide)) c37
  have c47 := k45.gi (Or.inr (by decide)) c38
  have c48 := k45.gi (Or.inr (by decide)) c39
  have c49 := k45.gi (Or.inr (by decide)) c40
  have c50 := k45.gi (Or.inr (by decide)) c41
  have c51 := k45.gi (Or.inr (by decide)) c42
  have c52 := k45.gi (Or.inr (by decide)) c35
  have c44 : gi w43 12 223 = (-1) := c44
  refine lv_aload_n hx hb dX12_setsOut_93 rfl (lv_at hl 1 rfl) ?_
  refine tk_getA hC hK hw hT hinX12 kM_at0 (by decide) rfl 26 (by decide) (List.mem_cons_of_mem _ uw_7_1) rfl rfl dX12_setsOut_94 ?_
  refine lv_iload hx hb dX12_setsOut_97 (lv_at hl 0 rfl) ?_
  refine lv_bipush (v := 8) hx hb dX12_setsOut_99 (by decide) ?_
  refine lv_iadd hx hb dX12_setsOut_101 ?_
  refine wk_top 224 (by decide) ?_
  refine lv_iconst (v := (-1)) hx hb dX12_setsOut_102 (by decide) ?_
  refine tk_iastR hC hK hw hT kM_at12 (by decide) rfl (by decide) (by decide) (tk_rgS rfl 224 1 1 (-1) (-1) (by decide +kernel) ⟨0, by decide, by decide⟩ (by decide) (by decide)) dX12_setsOut_103 (fun H locs w53 hw hT k55 c54 => ?_)
  have hF := hF.put kM_at12 (inE_of (a := 224) (b := 224) (by decide) (by decide) (by decide)) k55
  have c56 := k55.gi (Or.inr (by decide)) c46
  have c57 := k55.gi (Or.inr (by decide)) c47
  have c58 := k55.gi (Or.inr (by decide)) c48
  have c59 := k55.gi (Or.inr (by decide)) c49
  have c60 := k55.gi (Or.inr (by decide)) c50
  have c61 := k55.gi (Or.inr (by decide)) c51
  have c62 := k55.gi (Or.inr (by decide)) c52
  have c63 := k55.gi (Or.inr (by decide)) c44
  have c54 : gi w53 12 224 = (-1) := c54
  exact tk_vret hC hr hlocks hK ⟨hT, hF, ⟨⟨a6, c60, (show 0 ≤ a6.toInt from ra6), (show a6.toInt ≤ 167 from ta6)⟩, ⟨0, c61, (by decide), (by decide)⟩, ⟨0, c62, (by decide), (by decide)⟩, ⟨(-1), c63, (by decide), (by decide)⟩, ⟨(-1), c54, (by decide), (by decide)⟩⟩⟩ hw dX12_setsOut_104
abbrev P_X12_walkerOf_13 (ad : Nat → Nat) (cy : Nat → ClassId) (B : Int) (qr : Nat) (s1 : Int)  (w0 : va_W) : Int32 → va_W → Prop := fun r u => w0 = u ∧ ((0 ≤ r.toInt ∧ r.toInt ≤ 1073741824 ∧ gi u 12 220 = r))
set_option maxHeartbeats 4000000 in
set_option maxRecDepth 100000 in
theorem k_X12_walkerOf_13 (l : Launch) (adK adV : Nat → Nat) (dC : Nat → ClassId) (dI : Nat → Nat → Nat) (cy : Nat → ClassId) (ad : Nat → Nat) (B : Int) (hB0 : 100000 ≤ B) (hB1 : B ≤ 1073741824) (qr : Nat) (s1 : Int)   (w0 : va_W) (sz : Nat) (hT : TW ksM ad cy B qr 12 w0)  : Met l yX12_walkerOf (wu yX12_walkerOf cX12_walkerOf 3 (some .int)) ({ frames := 1, cells := 0, slots := 0, locals := 12 }) (va_Pc [.ref (ad 0), .int 0, .int 4] (wpreS adK adV dC dI cy sz w0)) (va_Qi (P_X12_walkerOf_13 ad cy B qr s1  w0) (fun u : va_W => wpost dC dI cy (va_A w0 sz) u) (va_A w0 sz)) 0 0 (va_A w0 sz) := by
  refine Met.ofW (cc := cX12_walkerOf) (maxL := 3) (ret := (some .int)) (by decide) rfl ?_
  intro p e s m args below meth c s₁ Bk hml hv
  obtain ⟨rfl, ⟨hsz, hP, hK, hD0⟩, hE, hSR⟩ := hv
  have hx := Bk.exec
  have hb := Bk.bytes
  have hr := Bk.returns
  have hlocks := Bk.notSynchronized
  have hC : CallFix p m c cX12_walkerOf 3 s _ (wu yX12_walkerOf cX12_walkerOf 3 (some .int)) RX12 := ⟨hx, hb, hml, findClass_of_methodNamed Bk.named, atoms_spec (ws := (wu yX12_walkerOf cX12_walkerOf 3 (some .int))) Bk.pre⟩
  subst hsz
  have hD := hD0.self (sz := s.heap.size)
  generalize hAe : va_A w0 s.heap.size = A at hD hE ⊢
  have hA : ∀ q : Nat, s.heap.size ≤ q → A q := fun q h => by rw [← hAe]; exact Or.inr h
  have hw : Wd dC dI A s.heap s.heap [] w0 := ⟨hP, hD, va_S.rf⟩
  have hF : FE ksM ([] : List (Nat × Nat × Nat)) w0 w0 := FE.rf
  have hl := lv_entry ([.ref (ad 0), .int 0, .int 4]) (n := 3) (Nat.le_of_ble_eq_true rfl)
  rw [lg_entry_eq]
  generalize (lg_sl ([.ref (ad 0), .int 0, .int 4]) ++ List.replicate (3 - (lg_sl ([.ref (ad 0), .int 0, .int 4])).length) Slot.unset).toArray = ls at hl ⊢
  have hl : lv_has ls 3 [(0, .ref (ad 0)), (1, .int 0), (2, .int 4)] := hl
  generalize hloc : ([] : List Loc) = locs at hw ⊢
  have hinX12 : ∀ w ∈ u_ws RX12 TX12 42, w ∈ (wu yX12_walkerOf cX12_walkerOf 3 (some .int)) := fun _ h => List.mem_cons_of_mem _ (up_71 h)
  refine lv_aload_n hx hb dX12_walkerOf_0 rfl (lv_at hl 0 rfl) ?_
  refine tk_getA hC hK hw hT hinX12 kM_at0 (by decide) rfl 26 (by decide) (List.mem_cons_of_mem _ uw_7_1) rfl rfl dX12_walkerOf_1 ?_
  refine lv_sipush (v := 216) hx hb dX12_walkerOf_4 (by decide) ?_
  refine lv_bipush (v := 9) hx hb dX12_walkerOf_7 (by decide) ?_
  refine lv_iload_n hx hb dX12_walkerOf_9 rfl (lv_at hl 1 rfl) ?_
  refine lv_imul hx hb dX12_walkerOf_10 ?_
  refine wk_top 0 (by decide) ?_
  refine lv_iadd hx hb dX12_walkerOf_11 ?_
  refine wk_top 216 (by decide) ?_
  refine lv_iload_n hx hb dX12_walkerOf_12 rfl (lv_at hl 2 rfl) ?_
  refine lv_iadd hx hb dX12_walkerOf_13 ?_
  refine wk_top 220 (by decide) ?_
  refine tk_ialdR hC hK hw hT kM_at12 rfl (by decide) (by decide) dX12_walkerOf_14 (fun x1 c2 Ex1 => ?_)
  have bx1 := (tk_rgB rfl 220 1 1 (by decide +kernel) ⟨0, by decide, by decide⟩).mp Ex1
  have c2 : gi w0 12 220 = x1 := c2
  exact tk_iret hC hr hlocks hK ⟨rfl, ⟨(show 0 ≤ x1.toInt by omega), (show x1.toInt ≤ 1073741824 by omega), c2⟩⟩ hw dX12_walkerOf_15
abbrev P_X12_asideOf_2 (ad : Nat → Nat) (cy : Nat → ClassId) (B : Int) (qr : Nat) (s1 : Int)  (w0 : va_W) : Int32 → va_W → Prop := fun r u => w0 = u ∧ ((0 ≤ r.toInt ∧ r.toInt ≤ 11 ∧ (∃ y : Int32, gi u 12 1 = y ∧ 1 ≤ y.toInt ∧ y.toInt ≤ 12) ∧ (r.toInt < (gi w0 12 1).toInt ∧ mOw w0 r.toInt (0 : Int32).toInt)) ∨ (r = (-1) ∧ (∀ k : Int, 0 ≤ k → k < (gi w0 12 1).toInt → ¬ mOw w0 k (0 : Int32).toInt)))
set_option maxHeartbeats 4000000 in
set_option maxRecDepth 100000 in
theorem k_X12_asideOf_2 (l : Launch) (adK adV : Nat → Nat) (dC : Nat → ClassId) (dI : Nat → Nat → Nat) (cy : Nat → ClassId) (ad : Nat → Nat) (B : Int) (hB0 : 100000 ≤ B) (hB1 : B ≤ 1073741824) (qr : Nat) (s1 : Int)   (w0 : va_W) (sz : Nat) (hT : TW ksM ad cy B qr 12 w0)  : Met l yX12_asideOf (wu yX12_asideOf cX12_asideOf 3 (some .int)) ({ frames := 5, cells := 0, slots := 0, locals := 103 }) (va_Pc [.ref (ad 0), .int 0] (wpreS adK adV dC dI cy sz w0)) (va_Qi (P_X12_asideOf_2 ad cy B qr s1  w0) (fun u : va_W => wpost dC dI cy (va_A w0 sz) u) (va_A w0 sz)) 0 0 (va_A w0 sz) := by
  refine Met.ofW (cc := cX12_asideOf) (maxL := 3) (ret := (some .int)) (by decide) rfl ?_
  intro p e s m args below meth c s₁ Bk hml hv
  obtain ⟨rfl, ⟨hsz, hP, hK, hD0⟩, hE, hSR⟩ := hv
  have hx := Bk.exec
  have hb := Bk.bytes
  have hr := Bk.returns
  have hlocks := Bk.notSynchronized
  have hC : CallFix p m c cX12_asideOf 3 s _ (wu yX12_asideOf cX12_asideOf 3 (some .int)) RX12 := ⟨hx, hb, hml, findClass_of_methodNamed Bk.named, atoms_spec (ws := (wu yX12_asideOf cX12_asideOf 3 (some .int))) Bk.pre⟩
  subst hsz
  have hD := hD0.self (sz := s.heap.size)
  generalize hAe : va_A w0 s.heap.size = A at hD hE ⊢
  have hA : ∀ q : Nat, s.heap.size ≤ q → A q := fun q h => by rw [← hAe]; exact Or.inr h
  have hw : Wd dC dI A s.heap s.heap [] w0 := ⟨hP, hD, va_S.rf⟩
  have hF : FE ksM ([] : List (Nat × Nat × Nat)) w0 w0 := FE.rf
  have hl := lv_entry ([.ref (ad 0), .int 0]) (n := 3) (Nat.le_of_ble_eq_true rfl)
  rw [lg_entry_eq]
  generalize (lg_sl ([.ref (ad 0), .int 0]) ++ List.replicate (3 - (lg_sl ([.ref (ad 0), .int 0])).length) Slot.unset).toArray = ls at hl ⊢
  have hl : lv_has ls 3 [(0, .ref (ad 0)), (1, .int 0)] := hl
  generalize hloc : ([] : List Loc) = locs at hw ⊢
  have hinX12 : ∀ w ∈ u_ws RX12 TX12 42, w ∈ (wu yX12_asideOf cX12_asideOf 3 (some .int)) := fun _ h => List.mem_cons_of_mem _ (up_71 h)
  have L2 : ∀ (n2 : Nat) (v2_2 : Int32) (H : Heap) (locs : List Loc) (ls : Array Slot), 0 ≤ v2_2.toInt → v2_2.toInt ≤ 12 → (∀ k : Int, 0 ≤ k → k < v2_2.toInt → ¬ mOw w0 k (0 : Int32).toInt) → (12 - v2_2.toInt).toNat < n2 → Wd dC dI A s.heap H locs w0 → lv_has ls 3 [(0, .ref (ad 0)), (1, .int 0), (2, .int v2_2)] → W p l e ({ frames := 5, cells := 0, slots := 0, locals := 103 }) s m (List.toArray [.ref (ad 0), .int 0]) below meth c H locs 0 0 (MQ below (va_Qi (P_X12_asideOf_2 ad cy B qr s1  w0) (fun u : va_W => wpost dC dI cy A u) A) (List.toArray [.ref (ad 0), .int 0]) s 0 0 A) (F0 m 2 ls []) := by
    intro n2
    induction n2 with
    | zero => intro v2_2 H locs ls r1 t2 hcr2_0 hm2 hw hl; omega
    | succ n2 ih2 =>
      intro v2_2 H locs ls r1 t2 hcr2_0 hm2 hw hl
      refine lv_iload_n hx hb dX12_asideOf_2 rfl (lv_at hl 2 rfl) ?_
      refine lv_aload_n hx hb dX12_asideOf_3 rfl (lv_at hl 0 rfl) ?_
      refine tk_getA hC hK hw hT hinX12 kM_at0 (by decide) rfl 26 (by decide) (List.mem_cons_of_mem _ uw_7_1) rfl rfl dX12_asideOf_4 ?_
      refine lv_iconst (v := 1) hx hb dX12_asideOf_7 (by decide) ?_
      refine tk_ialdR hC hK hw hT kM_at12 rfl (by decide) (by decide) dX12_asideOf_8 (fun x3 c4 Ex3 => ?_)
      have bx3 : 0 ≤ x3.toInt ∧ x3.toInt ≤ 12 := (tk_rg1 rfl).mp Ex3
      have c4 : gi w0 12 1 = x3 := c4
      refine lv_icmp_ge (tgt := 40) hx hb dX12_asideOf_9 (by decide) (fun c5 => ?_) (fun c5 => ?_)
      · have c5 : x3.toInt ≤ v2_2.toInt := wk_le.mp c5
        refine lv_iconst (v := (-1)) hx hb dX12_asideOf_40 (by decide) ?_
        exact tk_iret hC hr hlocks hK ⟨rfl, (Or.inr ⟨rfl, (by intro k h0 h1; rw [show gi w0 12 1 = x3 from c4] at h1; exact hcr2_0 k h0 (by omega))⟩)⟩ hw dX12_asideOf_41
      · have c5 : v2_2.toInt < x3.toInt := wk_leF c5
        refine lv_aload_n hx hb dX12_asideOf_12 rfl (lv_at hl 0 rfl) ?_
        refine lv_iload_n hx hb dX12_asideOf_13 rfl (lv_at hl 2 rfl) ?_
        refine lv_aload_n hx hb dX12_asideOf_14 rfl (lv_at hl 0 rfl) ?_
        refine lv_iload_n hx hb dX12_asideOf_15 rfl (lv_at hl 1 rfl) ?_
        refine lv_iconst (v := 0) hx hb dX12_asideOf_16 (by decide) ?_
        refine tk_Vi hC hK hw hT hA hE hSR kM_at0 (by decide) rfl (k_X12_walkerOf_11 l adK adV dC dI cy ad B (by omega) (by omega) qr s1    w0 H.size hT ) (cwV 2 hC.2.2.2.2 uV_RX12_372 rfl rfl rfl (by decide +kernel) ⟨Nat.le_of_ble_eq_true rfl, Nat.le_of_ble_eq_true rfl⟩) rfl hl.1 rfl (Nat.le_of_ble_eq_true rfl) dX12_asideOf_17 (fun r6 w8 H locs hp7 hw => ?_)
        obtain ⟨rfl, hg13⟩ := hp7
        obtain ⟨g10, g11, c12⟩ := hg13
        refine lv_aload_n hx hb dX12_asideOf_20 rfl (lv_at hl 0 rfl) ?_
        refine lv_iload_n hx hb dX12_asideOf_21 rfl (lv_at hl 1 rfl) ?_
        refine lv_iconst (v := 4) hx hb dX12_asideOf_22 (by decide) ?_
        refine tk_Vi hC hK hw hT hA hE hSR kM_at0 (by decide) rfl (k_X12_walkerOf_13 l adK adV dC dI cy ad B (by omega) (by omega) qr s1    w0 H.size hT ) (cwV 2 hC.2.2.2.2 uV_RX12_372 rfl rfl rfl (by decide +kernel) ⟨Nat.le_of_ble_eq_true rfl, Nat.le_of_ble_eq_true rfl⟩) rfl hl.1 rfl (Nat.le_of_ble_eq_true rfl) dX12_asideOf_23 (fun r14 w16 H locs hp15 hw => ?_)
        obtain ⟨rfl, hg21⟩ := hp15
        obtain ⟨g18, g19, c20⟩ := hg21
        refine tk_Vi hC hK hw hT hA hE hSR kM_at0 (by decide) rfl (k_X12_isOpen_2 l adK adV dC dI cy ad B (by omega) (by omega) qr s1   v2_2 (show 0 ≤ v2_2.toInt from r1) (show v2_2.toInt ≤ 11 by omega) r6 (show 0 ≤ r6.toInt by omega) (show r6.toInt ≤ 9 by omega) r14 (show 0 ≤ r14.toInt by omega) (show r14.toInt ≤ 1073741824 by omega) w0 H.size hT ) (cwV 3 hC.2.2.2.2 uV_RX12_334 rfl rfl rfl (by decide +kernel) ⟨Nat.le_of_ble_eq_true rfl, Nat.le_of_ble_eq_true rfl⟩) rfl hl.1 rfl (Nat.le_of_ble_eq_true rfl) dX12_asideOf_26 (fun r22 w24 H locs hp23 hw => ?_)
        obtain ⟨rfl, hg41⟩ := hp23
        rcases hg41 with ⟨rfl, hq26⟩ | ⟨rfl, c27, c28, hq29⟩ | ⟨rfl, c30, hq31⟩ | ⟨rfl, c32, hq33⟩ | ⟨rfl, c34, c35, hq36⟩ | ⟨rfl, c37, hq38⟩ | ⟨rfl, c39, hq40⟩
        · refine lv_if_eq (tgt := 34) hx hb dX12_asideOf_29 (by decide) (fun _ => ?_) (fun c => absurd (by decide) c)
          obtain ⟨x42, ex42⟩ : ∃ y : Int32, y = v2_2 + Int32.ofInt 1 := ⟨_, rfl⟩
          refine lv_iinc (v := x42) (lv' := [(2, .int x42), (0, .ref (ad 0)), (1, .int 0)]) hx hb dX12_asideOf_34 hl (k := 2) rfl ex42.symm (by decide) rfl (fun ls hl => ?_)
          have ex42 : x42.toInt = v2_2.toInt + 1 := by rw [ex42]; exact wk_add (y := 1) (show -2147483648 ≤ v2_2.toInt + 1 by omega) (show v2_2.toInt + 1 ≤ 2147483647 by omega)
          refine lv_goto (tgt := 2) hx hb dX12_asideOf_37 (by decide) ?_
          exact ih2 x42 H locs ls  (show 0 ≤ x42.toInt by omega) (show x42.toInt ≤ 12 by omega) (show ∀ k : Int, 0 ≤ k → k < x42.toInt → ¬ mOw w0 k (0 : Int32).toInt from all_step hcr2_0 (show ¬ mOw w0 v2_2.toInt (0 : Int32).toInt by unfold mOw; simp only [(show (0 : Int32).toInt = 0 by decide), (show (9 * (0 : Int) + 216).toNat = 216 by decide), (show (9 * (0 : Int) + 220).toNat = 220 by decide), c4, c12, c20]; assumption) (by omega)) (show (12 - x42.toInt).toNat < n2 by omega) hw   (lv_sub hl [1, 2, 0] rfl)
        · refine lv_if_eq (tgt := 34) hx hb dX12_asideOf_29 (by decide) (fun _ => ?_) (fun c => absurd (by decide) c)
          obtain ⟨x43, ex43⟩ : ∃ y : Int32, y = v2_2 + Int32.ofInt 1 := ⟨_, rfl⟩
          refine lv_iinc (v := x43) (lv' := [(2, .int x43), (0, .ref (ad 0)), (1, .int 0)]) hx hb dX12_asideOf_34 hl (k := 2) rfl ex43.symm (by decide) rfl (fun ls hl => ?_)
          have ex43 : x43.toInt = v2_2.toInt + 1 := by rw [ex43]; exact wk_add (y := 1) (show -2147483648 ≤ v2_2.toInt + 1 by omega) (show v2_2.toInt + 1 ≤ 2147483647 by omega)
          refine lv_goto (tgt := 2) hx hb dX12_asideOf_37 (by decide) ?_
          exact ih2 x43 H locs ls  (show 0 ≤ x43.toInt by omega) (show x43.toInt ≤ 12 by omega) (show ∀ k : Int, 0 ≤ k → k < x43.toInt → ¬ mOw w0 k (0 : Int32).toInt from all_step hcr2_0 (show ¬ mOw w0 v2_2.toInt (0 : Int32).toInt by unfold mOw; simp only [(show (0 : Int32).toInt = 0 by decide), (show (9 * (0 : Int) + 216).toNat = 216 by decide), (show (9 * (0 : Int) + 220).toNat = 220 by decide), c4, c12, c27, c28, c20]; assumption) (by omega)) (show (12 - x43.toInt).toNat < n2 by omega) hw   (lv_sub hl [1, 2, 0] rfl)
        · refine lv_if_eq (tgt := 34) hx hb dX12_asideOf_29 (by decide) (fun _ => ?_) (fun c => absurd (by decide) c)
          obtain ⟨x44, ex44⟩ : ∃ y : Int32, y = v2_2 + Int32.ofInt 1 := ⟨_, rfl⟩
          refine lv_iinc (v := x44) (lv' := [(2, .int x44), (0, .ref (ad 0)), (1, .int 0)]) hx hb dX12_asideOf_34 hl (k := 2) rfl ex44.symm (by decide) rfl (fun ls hl => ?_)
          have ex44 : x44.toInt = v2_2.toInt + 1 := by rw [ex44]; exact wk_add (y := 1) (show -2147483648 ≤ v2_2.toInt + 1 by omega) (show v2_2.toInt + 1 ≤ 2147483647 by omega)
          refine lv_goto (tgt := 2) hx hb dX12_asideOf_37 (by decide) ?_
          exact ih2 x44 H locs ls  (show 0 ≤ x44.toInt by omega) (show x44.toInt ≤ 12 by omega) (show ∀ k : Int, 0 ≤ k → k < x44.toInt → ¬ mOw w0 k (0 : Int32).toInt from all_step hcr2_0 (show ¬ mOw w0 v2_2.toInt (0 : Int32).toInt by unfold mOw; simp only [(show (0 : Int32).toInt = 0 by decide), (show (9 * (0 : Int) + 216).toNat = 216 by decide), (show (9 * (0 : Int) + 220).toNat = 220 by decide), c4, c12, c30, c20]; assumption) (by omega)) (show (12 - x44.toInt).toNat < n2 by omega) hw   (lv_sub hl [1, 2, 0] rfl)
        · refine lv_if_eq (tgt := 34) hx hb dX12_asideOf_29 (by decide) (fun _ => ?_) (fun c => absurd (by decide) c)
          obtain ⟨x45, ex45⟩ : ∃ y : Int32, y = v2_2 + Int32.ofInt 1 := ⟨_, rfl⟩
          refine lv_iinc (v := x45) (lv' := [(2, .int x45), (0, .ref (ad 0)), (1, .int 0)]) hx hb dX12_asideOf_34 hl (k := 2) rfl ex45.symm (by decide) rfl (fun ls hl => ?_)
          have ex45 : x45.toInt = v2_2.toInt + 1 := by rw [ex45]; exact wk_add (y := 1) (show -2147483648 ≤ v2_2.toInt + 1 by omega) (show v2_2.toInt + 1 ≤ 2147483647 by omega)
          refine lv_goto (tgt := 2) hx hb dX12_asideOf_37 (by decide) ?_
          exact ih2 x45 H locs ls  (show 0 ≤ x45.toInt by omega) (show x45.toInt ≤ 12 by omega) (show ∀ k : Int, 0 ≤ k → k < x45.toInt → ¬ mOw w0 k (0 : Int32).toInt from all_step hcr2_0 (show ¬ mOw w0 v2_2.toInt (0 : Int32).toInt by unfold mOw; simp only [(show (0 : Int32).toInt = 0 by decide), (show (9 * (0 : Int) + 216).toNat = 216 by decide), (show (9 * (0 : Int) + 220).toNat = 220 by decide), c4, c12, c32, c20]; assumption) (by omega)) (show (12 - x45.toInt).toNat < n2 by omega) hw   (lv_sub hl [1, 2, 0] rfl)
        · refine lv_if_eq (tgt := 34) hx hb dX12_asideOf_29 (by decide) (fun c => absurd c (by decide)) (fun _ => ?_)
          refine lv_iload_n hx hb dX12_asideOf_32 rfl (lv_at hl 2 rfl) ?_
          exact tk_iret hC hr hlocks hK ⟨rfl, (Or.inl ⟨(show 0 ≤ v2_2.toInt from r1), (show v2_2.toInt ≤ 11 by omega), ⟨x3, c4, (show 1 ≤ x3.toInt by omega), (show x3.toInt ≤ 12 by omega)⟩, (by exact ⟨by simp only [c4, c12, c34, c35, c20]; omega, by unfold mOw; simp only [(show (0 : Int32).toInt = 0 by decide), (show (9 * (0 : Int) + 216).toNat = 216 by decide), (show (9 * (0 : Int) + 220).toNat = 220 by decide), c4, c12, c34, c35, c20]; assumption⟩)⟩)⟩ hw dX12_asideOf_33
        · refine lv_if_eq (tgt := 34) hx hb dX12_asideOf_29 (by decide) (fun c => absurd c (by decide)) (fun _ => ?_)
          refine lv_iload_n hx hb dX12_asideOf_32 rfl (lv_at hl 2 rfl) ?_
          exact tk_iret hC hr hlocks hK ⟨rfl, (Or.inl ⟨(show 0 ≤ v2_2.toInt from r1), (show v2_2.toInt ≤ 11 by omega), ⟨x3, c4, (show 1 ≤ x3.toInt by omega), (show x3.toInt ≤ 12 by omega)⟩, (by exact ⟨by simp only [c4, c12, c37, c20]; omega, by unfold mOw; simp only [(show (0 : Int32).toInt = 0 by decide), (show (9 * (0 : Int) + 216).toNat = 216 by decide), (show (9 * (0 : Int) + 220).toNat = 220 by decide), c4, c12, c37, c20]; assumption⟩)⟩)⟩ hw dX12_asideOf_33
        · refine lv_if_eq (tgt := 34) hx hb dX12_asideOf_29 (by decide) (fun c => absurd c (by decide)) (fun _ => ?_)
          refine lv_iload_n hx hb dX12_asideOf_32 rfl (lv_at hl 2 rfl) ?_
          exact tk_iret hC hr hlocks hK ⟨rfl, (Or.inl ⟨(show 0 ≤ v2_2.toInt from r1), (show v2_2.toInt ≤ 11 by omega), ⟨x3, c4, (show 1 ≤ x3.toInt by omega), (show x3.toInt ≤ 12 by omega)⟩, (by exact ⟨by simp only [c4, c12, c39, c20]; omega, by unfold mOw; simp only [(show (0 : Int32).toInt = 0 by decide), (show (9 * (0 : Int) + 216).toNat = 216 by decide), (show (9 * (0 : Int) + 220).toNat = 220 by decide), c4, c12, c39, c20]; assumption⟩)⟩)⟩ hw dX12_asideOf_33
  refine lv_iconst (v := 0) hx hb dX12_asideOf_0 (by decide) ?_
  refine lv_istore_n (lv' := [(2, .int 0), (0, .ref (ad 0)), (1, .int 0)]) hx hb dX12_asideOf_1 rfl hl (by decide) rfl (fun ls hl => ?_)
  exact L2 ((12 - (0 : Int)).toNat + 1) 0 s.heap locs ls  (by decide) (by decide) (show ∀ k : Int, 0 ≤ k → k < (0 : Int) → ¬ mOw w0 k (0 : Int32).toInt from all_none) (Nat.lt_succ_self _) hw   (lv_sub hl [1, 2, 0] rfl)
abbrev P_X12_canGo_2 (ad : Nat → Nat) (cy : Nat → ClassId) (B : Int) (qr : Nat) (s1 : Int)  (w0 : va_W) : Int32 → va_W → Prop := fun r u => w0 = u ∧ ((r = 0) ∨ (r = 1 ∧ (∃ y : Int32, gi u 0 31 = y ∧ 0 ≤ y.toInt ∧ y.toInt ≤ 11)))
set_option maxHeartbeats 4000000 in
set_option maxRecDepth 100000 in
theorem k_X12_canGo_2 (l : Launch) (adK adV : Nat → Nat) (dC : Nat → ClassId) (dI : Nat → Nat → Nat) (cy : Nat → ClassId) (ad : Nat → Nat) (B : Int) (hB0 : 100000 ≤ B) (hB1 : B ≤ 1073741824) (qr : Nat) (s1 : Int)   (w0 : va_W) (sz : Nat) (hT : TW ksM ad cy B qr 12 w0)  : Met l yX12_canGo (wu yX12_canGo cX12_canGo 2 (some .boolean)) ({ frames := 5, cells := 0, slots := 0, locals := 103 }) (va_Pc [.ref (ad 0), .int 0] (wpreS adK adV dC dI cy sz w0)) (va_Qi (P_X12_canGo_2 ad cy B qr s1  w0) (fun u : va_W => wpost dC dI cy (va_A w0 sz) u) (va_A w0 sz)) 0 0 (va_A w0 sz) := by
  refine Met.ofW (cc := cX12_canGo) (maxL := 2) (ret := (some .boolean)) (by decide) rfl ?_
  intro p e s m args below meth c s₁ Bk hml hv
  obtain ⟨rfl, ⟨hsz, hP, hK, hD0⟩, hE, hSR⟩ := hv
  have hx := Bk.exec
  have hb := Bk.bytes
  have hr := Bk.returns
  have hlocks := Bk.notSynchronized
  have hC : CallFix p m c cX12_canGo 2 s _ (wu yX12_canGo cX12_canGo 2 (some .boolean)) RX12 := ⟨hx, hb, hml, findClass_of_methodNamed Bk.named, atoms_spec (ws := (wu yX12_canGo cX12_canGo 2 (some .boolean))) Bk.pre⟩
  subst hsz
  have hD := hD0.self (sz := s.heap.size)
  generalize hAe : va_A w0 s.heap.size = A at hD hE ⊢
  have hA : ∀ q : Nat, s.heap.size ≤ q → A q := fun q h => by rw [← hAe]; exact Or.inr h
  have hw : Wd dC dI A s.heap s.heap [] w0 := ⟨hP, hD, va_S.rf⟩
  have hF : FE ksM ([] : List (Nat × Nat × Nat)) w0 w0 := FE.rf
  have hl := lv_entry ([.ref (ad 0), .int 0]) (n := 2) (Nat.le_of_ble_eq_true rfl)
  rw [lg_entry_eq]
  generalize (lg_sl ([.ref (ad 0), .int 0]) ++ List.replicate (2 - (lg_sl ([.ref (ad 0), .int 0])).length) Slot.unset).toArray = ls at hl ⊢
  have hl : lv_has ls 2 [(0, .ref (ad 0)), (1, .int 0)] := hl
  generalize hloc : ([] : List Loc) = locs at hw ⊢
  have hinX12 : ∀ w ∈ u_ws RX12 TX12 42, w ∈ (wu yX12_canGo cX12_canGo 2 (some .boolean)) := fun _ h => List.mem_cons_of_mem _ (up_71 h)
  have J34 : ∀ (f34_0_31 : Int32) (H : Heap) (locs : List Loc) (ls : Array Slot), (-1) ≤ f34_0_31.toInt → f34_0_31.toInt ≤ 11 → Wd dC dI A s.heap H locs w0 → gi w0 0 31 = f34_0_31 → lv_has ls 2 [(0, .ref (ad 0)), (1, .int 0)] → W p l e ({ frames := 5, cells := 0, slots := 0, locals := 103 }) s m (List.toArray [.ref (ad 0), .int 0]) below meth c H locs 0 0 (MQ below (va_Qi (P_X12_canGo_2 ad cy B qr s1  w0) (fun u : va_W => wpost dC dI cy A u) A) (List.toArray [.ref (ad 0), .int 0]) s 0 0 A) (F0 m 34 ls []) := by
    intro f34_0_31 H locs ls r1 t2 hw c3 hl
    refine lv_iconst (v := 0) hx hb dX12_canGo_34 (by decide) ?_
    exact tk_zret hC hr rfl hlocks hK ⟨rfl, (Or.inl rfl)⟩ hw dX12_canGo_35
  refine lv_aload_n hx hb dX12_canGo_0 rfl (lv_at hl 0 rfl) ?_
  refine tk_geti hC hK hw hT hinX12 kM_at0 (by decide) rfl 31 (by decide) (List.mem_cons_of_mem _ uw_46_23) rfl rfl dX12_canGo_1 (fun x4 c5 rx4 tx4 => ?_)
  refine lv_if_lt (tgt := 34) hx hb dX12_canGo_4 (by decide) (fun c6 => ?_) (fun c6 => ?_)
  · have c6 : x4.toInt < (0 : Int) := wk_lt.mp c6
    exact J34 x4 s.heap locs ls  (show (-1) ≤ x4.toInt from rx4) (show x4.toInt ≤ 11 from tx4)  hw  c5 (lv_sub hl [0, 1] rfl)
  · have c6 : (0 : Int) ≤ x4.toInt := wk_ltF c6
    refine lv_aload_n hx hb dX12_canGo_7 rfl (lv_at hl 0 rfl) ?_
    refine lv_aload_n hx hb dX12_canGo_8 rfl (lv_at hl 0 rfl) ?_
    refine tk_geti hC hK hw hT hinX12 kM_at0 (by decide) rfl 31 (by decide) (List.mem_cons_of_mem _ uw_46_23) rfl rfl dX12_canGo_9 (fun x7 c8 rx7 tx7 => ?_)
    refine wk_top x4 (c8.symm.trans c5) ?_
    refine lv_aload_n hx hb dX12_canGo_12 rfl (lv_at hl 0 rfl) ?_
    refine lv_iload_n hx hb dX12_canGo_13 rfl (lv_at hl 1 rfl) ?_
    refine lv_iconst (v := 0) hx hb dX12_canGo_14 (by decide) ?_
    refine tk_Vi hC hK hw hT hA hE hSR kM_at0 (by decide) rfl (k_X12_walkerOf_11 l adK adV dC dI cy ad B (by omega) (by omega) qr s1    w0 s.heap.size hT ) (cwV 2 hC.2.2.2.2 uV_RX12_372 rfl rfl rfl (by decide +kernel) ⟨Nat.le_of_ble_eq_true rfl, Nat.le_of_ble_eq_true rfl⟩) rfl hl.1 rfl (Nat.le_of_ble_eq_true rfl) dX12_canGo_15 (fun r9 w11 H locs hp10 hw => ?_)
    obtain ⟨rfl, hg16⟩ := hp10
    obtain ⟨g13, g14, c15⟩ := hg16
    refine lv_aload_n hx hb dX12_canGo_18 rfl (lv_at hl 0 rfl) ?_
    refine lv_iload_n hx hb dX12_canGo_19 rfl (lv_at hl 1 rfl) ?_
    refine lv_iconst (v := 4) hx hb dX12_canGo_20 (by decide) ?_
    refine tk_Vi hC hK hw hT hA hE hSR kM_at0 (by decide) rfl (k_X12_walkerOf_13 l adK adV dC dI cy ad B (by omega) (by omega) qr s1    w0 H.size hT ) (cwV 2 hC.2.2.2.2 uV_RX12_372 rfl rfl rfl (by decide +kernel) ⟨Nat.le_of_ble_eq_true rfl, Nat.le_of_ble_eq_true rfl⟩) rfl hl.1 rfl (Nat.le_of_ble_eq_true rfl) dX12_canGo_21 (fun r17 w19 H locs hp18 hw => ?_)
    obtain ⟨rfl, hg24⟩ := hp18
    obtain ⟨g21, g22, c23⟩ := hg24
    refine tk_Vi hC hK hw hT hA hE hSR kM_at0 (by decide) rfl (k_X12_isOpen_2 l adK adV dC dI cy ad B (by omega) (by omega) qr s1   x4 (show 0 ≤ x4.toInt from c6) (show x4.toInt ≤ 11 from tx4) r9 (show 0 ≤ r9.toInt by omega) (show r9.toInt ≤ 9 by omega) r17 (show 0 ≤ r17.toInt by omega) (show r17.toInt ≤ 1073741824 by omega) w0 H.size hT ) (cwV 3 hC.2.2.2.2 uV_RX12_334 rfl rfl rfl (by decide +kernel) ⟨Nat.le_of_ble_eq_true rfl, Nat.le_of_ble_eq_true rfl⟩) rfl hl.1 rfl (Nat.le_of_ble_eq_true rfl) dX12_canGo_24 (fun r25 w27 H locs hp26 hw => ?_)
    obtain ⟨rfl, hg44⟩ := hp26
    rcases hg44 with ⟨rfl, hq29⟩ | ⟨rfl, c30, c31, hq32⟩ | ⟨rfl, c33, hq34⟩ | ⟨rfl, c35, hq36⟩ | ⟨rfl, c37, c38, hq39⟩ | ⟨rfl, c40, hq41⟩ | ⟨rfl, c42, hq43⟩
    · refine lv_if_eq (tgt := 34) hx hb dX12_canGo_27 (by decide) (fun _ => ?_) (fun c => absurd (by decide) c)
      exact J34 x4 H locs ls  (show (-1) ≤ x4.toInt from rx4) (show x4.toInt ≤ 11 from tx4)  hw  c5 (lv_sub hl [0, 1] rfl)
    · refine lv_if_eq (tgt := 34) hx hb dX12_canGo_27 (by decide) (fun _ => ?_) (fun c => absurd (by decide) c)
      exact J34 x4 H locs ls  (show (-1) ≤ x4.toInt from rx4) (show x4.toInt ≤ 11 from tx4)  hw  c5 (lv_sub hl [0, 1] rfl)
    · refine lv_if_eq (tgt := 34) hx hb dX12_canGo_27 (by decide) (fun _ => ?_) (fun c => absurd (by decide) c)
      exact J34 x4 H locs ls  (show (-1) ≤ x4.toInt from rx4) (show x4.toInt ≤ 11 from tx4)  hw  c5 (lv_sub hl [0, 1] rfl)
    · refine lv_if_eq (tgt := 34) hx hb dX12_canGo_27 (by decide) (fun _ => ?_) (fun c => absurd (by decide) c)
      exact J34 x4 H locs ls  (show (-1) ≤ x4.toInt from rx4) (show x4.toInt ≤ 11 from tx4)  hw  c5 (lv_sub hl [0, 1] rfl)
    · refine lv_if_eq (tgt := 34) hx hb dX12_canGo_27 (by decide) (fun c => absurd c (by decide)) (fun _ => ?_)
      refine lv_iconst (v := 1) hx hb dX12_canGo_30 (by decide) ?_
      refine lv_goto (tgt := 35) hx hb dX12_canGo_31 (by decide) ?_
      exact tk_zret hC hr rfl hlocks hK ⟨rfl, (Or.inr ⟨rfl, ⟨x4, c5, (show 0 ≤ x4.toInt from c6), (show x4.toInt ≤ 11 from tx4)⟩⟩)⟩ hw dX12_canGo_35
    · refine lv_if_eq (tgt := 34) hx hb dX12_canGo_27 (by decide) (fun c => absurd c (by decide)) (fun _ => ?_)
      refine lv_iconst (v := 1) hx hb dX12_canGo_30 (by decide) ?_
      refine lv_goto (tgt := 35) hx hb dX12_canGo_31 (by decide) ?_
      exact tk_zret hC hr rfl hlocks hK ⟨rfl, (Or.inr ⟨rfl, ⟨x4, c5, (show 0 ≤ x4.toInt from c6), (show x4.toInt ≤ 11 from tx4)⟩⟩)⟩ hw dX12_canGo_35
    · refine lv_if_eq (tgt := 34) hx hb dX12_canGo_27 (by decide) (fun c => absurd c (by decide)) (fun _ => ?_)
      refine lv_iconst (v := 1) hx hb dX12_canGo_30 (by decide) ?_
      refine lv_goto (tgt := 35) hx hb dX12_canGo_31 (by decide) ?_
      exact tk_zret hC hr rfl hlocks hK ⟨rfl, (Or.inr ⟨rfl, ⟨x4, c5, (show 0 ≤ x4.toInt from c6), (show x4.toInt ≤ 11 from tx4)⟩⟩)⟩ hw dX12_canGo_35
abbrev P_X12_walkerOf_14 (ad : Nat → Nat) (cy : Nat → ClassId) (B : Int) (qr : Nat) (s1 : Int)  (w0 : va_W) : Int32 → va_W → Prop := fun r u => w0 = u ∧ ((gi u 12 224 = r))
set_option maxHeartbeats 4000000 in
set_option maxRecDepth 100000 in
theorem k_X12_walkerOf_14 (l : Launch) (adK adV : Nat → Nat) (dC : Nat → ClassId) (dI : Nat → Nat → Nat) (cy : Nat → ClassId) (ad : Nat → Nat) (B : Int) (hB0 : 100000 ≤ B) (hB1 : B ≤ 1073741824) (qr : Nat) (s1 : Int)   (w0 : va_W) (sz : Nat) (hT : TW ksM ad cy B qr 12 w0)  : Met l yX12_walkerOf (wu yX12_walkerOf cX12_walkerOf 3 (some .int)) ({ frames := 1, cells := 0, slots := 0, locals := 12 }) (va_Pc [.ref (ad 0), .int 0, .int 8] (wpreS adK adV dC dI cy sz w0)) (va_Qi (P_X12_walkerOf_14 ad cy B qr s1  w0) (fun u : va_W => wpost dC dI cy (va_A w0 sz) u) (va_A w0 sz)) 0 0 (va_A w0 sz) := by
  refine Met.ofW (cc := cX12_walkerOf) (maxL := 3) (ret := (some .int)) (by decide) rfl ?_
  intro p e s m args below meth c s₁ Bk hml hv
  obtain ⟨rfl, ⟨hsz, hP, hK, hD0⟩, hE, hSR⟩ := hv
  have hx := Bk.exec
  have hb := Bk.bytes
  have hr := Bk.returns
  have hlocks := Bk.notSynchronized
  have hC : CallFix p m c cX12_walkerOf 3 s _ (wu yX12_walkerOf cX12_walkerOf 3 (some .int)) RX12 := ⟨hx, hb, hml, findClass_of_methodNamed Bk.named, atoms_spec (ws := (wu yX12_walkerOf cX12_walkerOf 3 (some .int))) Bk.pre⟩
  subst hsz
  have hD := hD0.self (sz := s.heap.size)
  generalize hAe : va_A w0 s.heap.size = A at hD hE ⊢
  have hA : ∀ q : Nat, s.heap.size ≤ q → A q := fun q h => by rw [← hAe]; exact Or.inr h
  have hw : Wd dC dI A s.heap s.heap [] w0 := ⟨hP, hD, va_S.rf⟩
  have hF : FE ksM ([] : List (Nat × Nat × Nat)) w0 w0 := FE.rf
  have hl := lv_entry ([.ref (ad 0), .int 0, .int 8]) (n := 3) (Nat.le_of_ble_eq_true rfl)
  rw [lg_entry_eq]
  generalize (lg_sl ([.ref (ad 0), .int 0, .int 8]) ++ List.replicate (3 - (lg_sl ([.ref (ad 0), .int 0, .int 8])).length) Slot.unset).toArray = ls at hl ⊢
  have hl : lv_has ls 3 [(0, .ref (ad 0)), (1, .int 0), (2, .int 8)] := hl
  generalize hloc : ([] : List Loc) = locs at hw ⊢
  have hinX12 : ∀ w ∈ u_ws RX12 TX12 42, w ∈ (wu yX12_walkerOf cX12_walkerOf 3 (some .int)) := fun _ h => List.mem_cons_of_mem _ (up_71 h)
  refine lv_aload_n hx hb dX12_walkerOf_0 rfl (lv_at hl 0 rfl) ?_
  refine tk_getA hC hK hw hT hinX12 kM_at0 (by decide) rfl 26 (by decide) (List.mem_cons_of_mem _ uw_7_1) rfl rfl dX12_walkerOf_1 ?_
  refine lv_sipush (v := 216) hx hb dX12_walkerOf_4 (by decide) ?_
  refine lv_bipush (v := 9) hx hb dX12_walkerOf_7 (by decide) ?_
  refine lv_iload_n hx hb dX12_walkerOf_9 rfl (lv_at hl 1 rfl) ?_
  refine lv_imul hx hb dX12_walkerOf_10 ?_
  refine wk_top 0 (by decide) ?_
  refine lv_iadd hx hb dX12_walkerOf_11 ?_
  refine wk_top 216 (by decide) ?_
  refine lv_iload_n hx hb dX12_walkerOf_12 rfl (lv_at hl 2 rfl) ?_
  refine lv_iadd hx hb dX12_walkerOf_13 ?_
  refine wk_top 224 (by decide) ?_
  refine tk_ialdR hC hK hw hT kM_at12 rfl (by decide) (by decide) dX12_walkerOf_14 (fun x1 c2 Ex1 => ?_)
  have c2 : gi w0 12 224 = x1 := c2
  exact tk_iret hC hr hlocks hK ⟨rfl, c2⟩ hw dX12_walkerOf_15
abbrev P_X12_askedToday_2 (ad : Nat → Nat) (cy : Nat → ClassId) (B : Int) (qr : Nat) (s1 : Int)  (w0 : va_W) : Int32 → va_W → Prop := fun r u => w0 = u ∧ ((r = 0) ∨ (r = 1 ∧ (∃ y : Int32, gi u 12 224 = y ∧ 0 ≤ y.toInt ∧ y.toInt ≤ 44739242)))
set_option maxHeartbeats 4000000 in
set_option maxRecDepth 100000 in
theorem k_X12_askedToday_2 (l : Launch) (adK adV : Nat → Nat) (dC : Nat → ClassId) (dI : Nat → Nat → Nat) (cy : Nat → ClassId) (ad : Nat → Nat) (B : Int) (hB0 : 100000 ≤ B) (hB1 : B ≤ 1073741824) (qr : Nat) (s1 : Int)   (w0 : va_W) (sz : Nat) (hT : TW ksM ad cy B qr 12 w0)  : Met l yX12_askedToday (wu yX12_askedToday cX12_askedToday 2 (some .boolean)) ({ frames := 2, cells := 0, slots := 0, locals := 34 }) (va_Pc [.ref (ad 0), .int 0] (wpreS adK adV dC dI cy sz w0)) (va_Qi (P_X12_askedToday_2 ad cy B qr s1  w0) (fun u : va_W => wpost dC dI cy (va_A w0 sz) u) (va_A w0 sz)) 0 0 (va_A w0 sz) := by
  refine Met.ofW (cc := cX12_askedToday) (maxL := 2) (ret := (some .boolean)) (by decide) rfl ?_
  intro p e s m args below meth c s₁ Bk hml hv
  obtain ⟨rfl, ⟨hsz, hP, hK, hD0⟩, hE, hSR⟩ := hv
  have hx := Bk.exec
  have hb := Bk.bytes
  have hr := Bk.returns
  have hlocks := Bk.notSynchronized
  have hC : CallFix p m c cX12_askedToday 2 s _ (wu yX12_askedToday cX12_askedToday 2 (some .boolean)) RX12 := ⟨hx, hb, hml, findClass_of_methodNamed Bk.named, atoms_spec (ws := (wu yX12_askedToday cX12_askedToday 2 (some .boolean))) Bk.pre⟩
  subst hsz
  have hD := hD0.self (sz := s.heap.size)
  generalize hAe : va_A w0 s.heap.size = A at hD hE ⊢
  have hA : ∀ q : Nat, s.heap.size ≤ q → A q := fun q h => by rw [← hAe]; exact Or.inr h
  have hw : Wd dC dI A s.heap s.heap [] w0 := ⟨hP, hD, va_S.rf⟩
  have hF : FE ksM ([] : List (Nat × Nat × Nat)) w0 w0 := FE.rf
  have hl := lv_entry ([.ref (ad 0), .int 0]) (n := 2) (Nat.le_of_ble_eq_true rfl)
  rw [lg_entry_eq]
  generalize (lg_sl ([.ref (ad 0), .int 0]) ++ List.replicate (2 - (lg_sl ([.ref (ad 0), .int 0])).length) Slot.unset).toArray = ls at hl ⊢
  have hl : lv_has ls 2 [(0, .ref (ad 0)), (1, .int 0)] := hl
  generalize hloc : ([] : List Loc) = locs at hw ⊢
  refine lv_aload_n hx hb dX12_askedToday_0 rfl (lv_at hl 0 rfl) ?_
  refine lv_iload_n hx hb dX12_askedToday_1 rfl (lv_at hl 1 rfl) ?_
  refine lv_bipush (v := 8) hx hb dX12_askedToday_2 (by decide) ?_
  refine tk_Vi hC hK hw hT hA hE hSR kM_at0 (by decide) rfl (k_X12_walkerOf_14 l adK adV dC dI cy ad B (by omega) (by omega) qr s1    w0 s.heap.size hT ) (cwV 2 hC.2.2.2.2 uV_RX12_372 rfl rfl rfl (by decide +kernel) ⟨Nat.le_of_ble_eq_true rfl, Nat.le_of_ble_eq_true rfl⟩) rfl hl.1 rfl (Nat.le_of_ble_eq_true rfl) dX12_askedToday_4 (fun r1 w3 H locs hp2 hw => ?_)
  obtain ⟨rfl, hg6⟩ := hp2
  have c5 := hg6
  refine lv_aload_n hx hb dX12_askedToday_7 rfl (lv_at hl 0 rfl) ?_
  refine lv_iload_n hx hb dX12_askedToday_8 rfl (lv_at hl 1 rfl) ?_
  refine lv_iconst (v := 4) hx hb dX12_askedToday_9 (by decide) ?_
  refine tk_Vi hC hK hw hT hA hE hSR kM_at0 (by decide) rfl (k_X12_walkerOf_13 l adK adV dC dI cy ad B (by omega) (by omega) qr s1    w0 H.size hT ) (cwV 2 hC.2.2.2.2 uV_RX12_372 rfl rfl rfl (by decide +kernel) ⟨Nat.le_of_ble_eq_true rfl, Nat.le_of_ble_eq_true rfl⟩) rfl hl.1 rfl (Nat.le_of_ble_eq_true rfl) dX12_askedToday_10 (fun r7 w9 H locs hp8 hw => ?_)
  obtain ⟨rfl, hg14⟩ := hp8
  obtain ⟨g11, g12, c13⟩ := hg14
  refine lv_bipush (v := 24) hx hb dX12_askedToday_13 (by decide) ?_
  refine lv_idiv hx hb dX12_askedToday_15 (by decide) ?_
  refine lv_topi (fun x15 ex15 => ?_)
  have ex15 : x15.toInt = r7.toInt / (24 : Int) := by rw [ex15]; exact wk_div (show 0 ≤ r7.toInt by omega) (show 0 < (24 : Int) by decide)
  refine lv_icmp_ne (tgt := 23) hx hb dX12_askedToday_16 (by decide) (fun c16 => ?_) (fun c16 => ?_)
  · have c16 : ¬ r1.toInt = x15.toInt := wk_eqF c16
    refine lv_iconst (v := 0) hx hb dX12_askedToday_23 (by decide) ?_
    exact tk_zret hC hr rfl hlocks hK ⟨rfl, (Or.inl rfl)⟩ hw dX12_askedToday_24
  · have c16 : r1.toInt = x15.toInt := wk_eq.mp c16
    refine lv_iconst (v := 1) hx hb dX12_askedToday_19 (by decide) ?_
    refine lv_goto (tgt := 24) hx hb dX12_askedToday_20 (by decide) ?_
    exact tk_zret hC hr rfl hlocks hK ⟨rfl, (Or.inr ⟨rfl, ⟨r1, c5, (show 0 ≤ r1.toInt by omega), (show r1.toInt ≤ 44739242 by omega)⟩⟩)⟩ hw dX12_askedToday_24
abbrev P_X12_mayDo_2 (ad : Nat → Nat) (cy : Nat → ClassId) (B : Int) (qr : Nat) (s1 : Int) (a2 : Int32) (w0 : va_W) : Int32 → va_W → Prop := fun r u => w0 = u ∧ ((r = 0) ∨ (r = 0 ∧ 0 ≤ a2.toInt ∧ a2.toInt ≤ 0) ∨ (r = 0 ∧ 1 ≤ a2.toInt ∧ a2.toInt ≤ 1) ∨ (r = 1 ∧ a2.toInt ≤ (-1)) ∨ (r = 1 ∧ 0 ≤ a2.toInt ∧ a2.toInt ≤ 0 ∧ (∃ y : Int32, gi u 0 31 = y ∧ 0 ≤ y.toInt ∧ y.toInt ≤ 11)) ∨ (r = 1 ∧ 1 ≤ a2.toInt ∧ a2.toInt ≤ 1 ∧ (∃ y : Int32, gi u 12 1 = y ∧ 1 ≤ y.toInt ∧ y.toInt ≤ 12) ∧ (mAS u (0 : Int32).toInt)) ∨ (r = 1 ∧ 2 ≤ a2.toInt ∧ a2.toInt ≤ 2 ∧ (∃ y : Int32, gi u 0 30 = y ∧ 0 ≤ y.toInt ∧ y.toInt ≤ 0)) ∨ (r = 1 ∧ 3 ≤ a2.toInt))
set_option maxHeartbeats 4000000 in
set_option maxRecDepth 100000 in
theorem k_X12_mayDo_2 (l : Launch) (adK adV : Nat → Nat) (dC : Nat → ClassId) (dI : Nat → Nat → Nat) (cy : Nat → ClassId) (ad : Nat → Nat) (B : Int) (hB0 : 100000 ≤ B) (hB1 : B ≤ 1073741824) (qr : Nat) (s1 : Int)  (a2 : Int32) (w0 : va_W) (sz : Nat) (hT : TW ksM ad cy B qr 12 w0)  : Met l yX12_mayDo (wu yX12_mayDo cX12_mayDo 3 (some .boolean)) ({ frames := 6, cells := 0, slots := 0, locals := 125 }) (va_Pc [.ref (ad 0), .int 0, .int a2] (wpreS adK adV dC dI cy sz w0)) (va_Qi (P_X12_mayDo_2 ad cy B qr s1 a2 w0) (fun u : va_W => wpost dC dI cy (va_A w0 sz) u) (va_A w0 sz)) 0 0 (va_A w0 sz) := by
  refine Met.ofW (cc := cX12_mayDo) (maxL := 3) (ret := (some .boolean)) (by decide) rfl ?_
  intro p e s m args below meth c s₁ Bk hml hv
  obtain ⟨rfl, ⟨hsz, hP, hK, hD0⟩, hE, hSR⟩ := hv
  have hx := Bk.exec
  have hb := Bk.bytes
  have hr := Bk.returns
  have hlocks := Bk.notSynchronized
  have hC : CallFix p m c cX12_mayDo 3 s _ (wu yX12_mayDo cX12_mayDo 3 (some .boolean)) RX12 := ⟨hx, hb, hml, findClass_of_methodNamed Bk.named, atoms_spec (ws := (wu yX12_mayDo cX12_mayDo 3 (some .boolean))) Bk.pre⟩
  subst hsz
  have hD := hD0.self (sz := s.heap.size)
  generalize hAe : va_A w0 s.heap.size = A at hD hE ⊢
  have hA : ∀ q : Nat, s.heap.size ≤ q → A q := fun q h => by rw [← hAe]; exact Or.inr h
  have hw : Wd dC dI A s.heap s.heap [] w0 := ⟨hP, hD, va_S.rf⟩
  have hF : FE ksM ([] : List (Nat × Nat × Nat)) w0 w0 := FE.rf
  have hl := lv_entry ([.ref (ad 0), .int 0, .int a2]) (n := 3) (Nat.le_of_ble_eq_true rfl)
  rw [lg_entry_eq]
  generalize (lg_sl ([.ref (ad 0), .int 0, .int a2]) ++ List.replicate (3 - (lg_sl ([.ref (ad 0), .int 0, .int a2])).length) Slot.unset).toArray = ls at hl ⊢
  have hl : lv_has ls 3 [(0, .ref (ad 0)), (1, .int 0), (2, .int a2)] := hl
  generalize hloc : ([] : List Loc) = locs at hw ⊢
  have hinX12 : ∀ w ∈ u_ws RX12 TX12 42, w ∈ (wu yX12_mayDo cX12_mayDo 3 (some .boolean)) := fun _ h => List.mem_cons_of_mem _ (up_71 h)
  have J67 : ∀ (f67_0_30 : Int32) (H : Heap) (locs : List Loc) (ls : Array Slot), 0 ≤ f67_0_30.toInt → f67_0_30.toInt ≤ 1 → Wd dC dI A s.heap H locs w0 → gi w0 0 30 = f67_0_30 → lv_has ls 3 [(0, .ref (ad 0)), (1, .int 0), (2, .int 2)] → W p l e ({ frames := 6, cells := 0, slots := 0, locals := 125 }) s m (List.toArray [.ref (ad 0), .int 0, .int a2]) below meth c H locs 0 0 (MQ below (va_Qi (P_X12_mayDo_2 ad cy B qr s1 a2 w0) (fun u : va_W => wpost dC dI cy A u) A) (List.toArray [.ref (ad 0), .int 0, .int a2]) s 0 0 A) (F0 m 67 ls []) := by
    intro f67_0_30 H locs ls r1 t2 hw c3 hl
    refine lv_iconst (v := 0) hx hb dX12_mayDo_67 (by decide) ?_
    exact tk_zret hC hr rfl hlocks hK ⟨rfl, (Or.inl rfl)⟩ hw dX12_mayDo_68
  refine lv_iload_n hx hb dX12_mayDo_0 rfl (lv_at hl 2 rfl) ?_
  rcases (show a2.toInt = 0 ∨ a2.toInt = 1 ∨ a2.toInt = 2 ∨ a2.toInt < 0 ∨ 2 < a2.toInt by omega) with c4 | c4 | c4 | c4 | c4
  · refine lv_tableIn (off := 27) (tgt := 28) hx hb dX12_mayDo_1 (by omega) (by omega) (by rw [c4]; rfl) (by decide) ?_
    refine lv_aload_n hx hb dX12_mayDo_28 rfl (lv_at hl 0 rfl) ?_
    refine lv_iload_n hx hb dX12_mayDo_29 rfl (lv_at hl 1 rfl) ?_
    refine tk_Vi hC hK hw hT hA hE hSR kM_at0 (by decide) rfl (k_X12_canGo_2 l adK adV dC dI cy ad B (by omega) (by omega) qr s1    w0 s.heap.size hT ) (cwV 1 hC.2.2.2.2 uV_RX12_387 rfl rfl rfl (by decide +kernel) ⟨Nat.le_of_ble_eq_true rfl, Nat.le_of_ble_eq_true rfl⟩) rfl hl.1 rfl (Nat.le_of_ble_eq_true rfl) dX12_mayDo_30 (fun r5 w7 H locs hp6 hw => ?_)
    obtain ⟨rfl, hg11⟩ := hp6
    rcases hg11 with rfl | ⟨rfl, ⟨x9, c10, rx9, tx9⟩⟩
    · exact tk_zret hC hr rfl hlocks hK ⟨rfl, (Or.inr (Or.inl ⟨rfl, (show 0 ≤ a2.toInt by omega), (show a2.toInt ≤ 0 by omega)⟩))⟩ hw dX12_mayDo_33
    · exact tk_zret hC hr rfl hlocks hK ⟨rfl, (Or.inr (Or.inr (Or.inr (Or.inr (Or.inl ⟨rfl, (show 0 ≤ a2.toInt by omega), (show a2.toInt ≤ 0 by omega), ⟨x9, c10, (show 0 ≤ x9.toInt by omega), (show x9.toInt ≤ 11 by omega)⟩⟩)))))⟩ hw dX12_mayDo_33
  · refine lv_tableIn (off := 33) (tgt := 34) hx hb dX12_mayDo_1 (by omega) (by omega) (by rw [c4]; rfl) (by decide) ?_
    refine lv_aload_n hx hb dX12_mayDo_34 rfl (lv_at hl 0 rfl) ?_
    refine lv_iload_n hx hb dX12_mayDo_35 rfl (lv_at hl 1 rfl) ?_
    refine tk_Vi hC hK hw hT hA hE hSR kM_at0 (by decide) rfl (k_X12_asideOf_2 l adK adV dC dI cy ad B (by omega) (by omega) qr s1    w0 s.heap.size hT ) (cwV 1 hC.2.2.2.2 uV_RX12_390 rfl rfl rfl (by decide +kernel) ⟨Nat.le_of_ble_eq_true rfl, Nat.le_of_ble_eq_true rfl⟩) rfl hl.1 rfl (Nat.le_of_ble_eq_true rfl) dX12_mayDo_36 (fun r12 w14 H locs hp13 hw => ?_)
    obtain ⟨rfl, hg22⟩ := hp13
    rcases hg22 with ⟨g16, g17, ⟨x18, c19, rx18, tx18⟩, hq20⟩ | ⟨rfl, hq21⟩
    · refine lv_if_lt (tgt := 46) hx hb dX12_mayDo_39 (by decide) (fun c => absurd c (fun h => absurd (show r12.toInt < (0 : Int) from wk_lt.mp h) (by omega))) (fun _ => ?_)
      refine lv_iconst (v := 1) hx hb dX12_mayDo_42 (by decide) ?_
      refine lv_goto (tgt := 47) hx hb dX12_mayDo_43 (by decide) ?_
      exact tk_zret hC hr rfl hlocks hK ⟨rfl, (Or.inr (Or.inr (Or.inr (Or.inr (Or.inr (Or.inl ⟨rfl, (show 1 ≤ a2.toInt by omega), (show a2.toInt ≤ 1 by omega), ⟨x18, c19, (show 1 ≤ x18.toInt by omega), (show x18.toInt ≤ 12 by omega)⟩, (by exact ⟨_, by omega, hq20.1, hq20.2⟩)⟩))))))⟩ hw dX12_mayDo_47
    · refine lv_if_lt (tgt := 46) hx hb dX12_mayDo_39 (by decide) (fun _ => ?_) (fun c => absurd (by decide) c)
      refine lv_iconst (v := 0) hx hb dX12_mayDo_46 (by decide) ?_
      exact tk_zret hC hr rfl hlocks hK ⟨rfl, (Or.inr (Or.inr (Or.inl ⟨rfl, (show 1 ≤ a2.toInt by omega), (show a2.toInt ≤ 1 by omega)⟩)))⟩ hw dX12_mayDo_47
  · refine lv_tableIn (off := 47) (tgt := 48) hx hb dX12_mayDo_1 (by omega) (by omega) (by rw [c4]; rfl) (by decide) ?_
    refine lv_aload_n hx hb dX12_mayDo_48 rfl (lv_at hl 0 rfl) ?_
    refine tk_geti hC hK hw hT hinX12 kM_at0 (by decide) rfl 30 (by decide) (List.mem_cons_of_mem _ uw_47_4) rfl rfl dX12_mayDo_49 (fun x23 c24 rx23 tx23 => ?_)
    refine lv_if_ne (tgt := 67) hx hb dX12_mayDo_52 (by decide) (fun c25 => ?_) (fun c25 => ?_)
    · have c25 : ¬ x23.toInt = (0 : Int) := wk_eqF c25
      obtain rfl : a2 = 2 := wk_eq.mpr (show a2.toInt = 2 by omega)
      exact J67 x23 s.heap locs ls  (show 0 ≤ x23.toInt from rx23) (show x23.toInt ≤ 1 from tx23)  hw  c24 (lv_sub hl [0, 1, 2] rfl)
    · have c25 : x23.toInt = (0 : Int) := wk_eq.mp c25
      refine lv_aload_n hx hb dX12_mayDo_55 rfl (lv_at hl 0 rfl) ?_
      refine lv_iload_n hx hb dX12_mayDo_56 rfl (lv_at hl 1 rfl) ?_
      refine tk_Vi hC hK hw hT hA hE hSR kM_at0 (by decide) rfl (k_X12_askedToday_2 l adK adV dC dI cy ad B (by omega) (by omega) qr s1    w0 s.heap.size hT ) (cwV 1 hC.2.2.2.2 uV_RX12_375 rfl rfl rfl (by decide +kernel) ⟨Nat.le_of_ble_eq_true rfl, Nat.le_of_ble_eq_true rfl⟩) rfl hl.1 rfl (Nat.le_of_ble_eq_true rfl) dX12_mayDo_57 (fun r26 w28 H locs hp27 hw => ?_)
      obtain ⟨rfl, hg32⟩ := hp27
      rcases hg32 with rfl | ⟨rfl, ⟨x30, c31, rx30, tx30⟩⟩
      · refine lv_if_ne (tgt := 67) hx hb dX12_mayDo_60 (by decide) (fun c => absurd (by decide) c) (fun _ => ?_)
        refine lv_iconst (v := 1) hx hb dX12_mayDo_63 (by decide) ?_
        refine lv_goto (tgt := 68) hx hb dX12_mayDo_64 (by decide) ?_
        exact tk_zret hC hr rfl hlocks hK ⟨rfl, (Or.inr (Or.inr (Or.inr (Or.inr (Or.inr (Or.inr (Or.inl ⟨rfl, (show 2 ≤ a2.toInt by omega), (show a2.toInt ≤ 2 by omega), ⟨x23, c24, (show 0 ≤ x23.toInt from rx23), (show x23.toInt ≤ 0 by omega)⟩⟩)))))))⟩ hw dX12_mayDo_68
      · refine lv_if_ne (tgt := 67) hx hb dX12_mayDo_60 (by decide) (fun _ => ?_) (fun c => absurd c (by decide))
        obtain rfl : a2 = 2 := wk_eq.mpr (show a2.toInt = 2 by omega)
        exact J67 x23 H locs ls  (show 0 ≤ x23.toInt from rx23) (show x23.toInt ≤ 1 from tx23)  hw  c24 (lv_sub hl [0, 1, 2] rfl)
  · refine lv_tableOut (tgt := 69) hx hb dX12_mayDo_1 (Or.inl c4) (by decide) ?_
    refine lv_iconst (v := 1) hx hb dX12_mayDo_69 (by decide) ?_
    exact tk_zret hC hr rfl hlocks hK ⟨rfl, (Or.inr (Or.inr (Or.inr (Or.inl ⟨rfl, (show a2.toInt ≤ (-1) by omega)⟩))))⟩ hw dX12_mayDo_70
  · refine lv_tableOut (tgt := 69) hx hb dX12_mayDo_1 (Or.inr c4) (by decide) ?_
    refine lv_iconst (v := 1) hx hb dX12_mayDo_69 (by decide) ?_
    exact tk_zret hC hr rfl hlocks hK ⟨rfl, (Or.inr (Or.inr (Or.inr (Or.inr (Or.inr (Or.inr (Or.inr ⟨rfl, (show 3 ≤ a2.toInt by omega)⟩)))))))⟩ hw dX12_mayDo_70
abbrev P_X12_walkerOf_15 (ad : Nat → Nat) (cy : Nat → ClassId) (B : Int) (qr : Nat) (s1 : Int)  (w0 : va_W) : Int32 → va_W → Prop := fun r u => w0 = u ∧ (((-1) ≤ r.toInt ∧ r.toInt ≤ 5 ∧ gi u 12 219 = r))
set_option maxHeartbeats 4000000 in
set_option maxRecDepth 100000 in
theorem k_X12_walkerOf_15 (l : Launch) (adK adV : Nat → Nat) (dC : Nat → ClassId) (dI : Nat → Nat → Nat) (cy : Nat → ClassId) (ad : Nat → Nat) (B : Int) (hB0 : 100000 ≤ B) (hB1 : B ≤ 1073741824) (qr : Nat) (s1 : Int)   (w0 : va_W) (sz : Nat) (hT : TW ksM ad cy B qr 12 w0)  : Met l yX12_walkerOf (wu yX12_walkerOf cX12_walkerOf 3 (some .int)) ({ frames := 1, cells := 0, slots := 0, locals := 12 }) (va_Pc [.ref (ad 0), .int 0, .int 3] (wpreS adK adV dC dI cy sz w0)) (va_Qi (P_X12_walkerOf_15 ad cy B qr s1  w0) (fun u : va_W => wpost dC dI cy (va_A w0 sz) u) (va_A w0 sz)) 0 0 (va_A w0 sz) := by
  refine Met.ofW (cc := cX12_walkerOf) (maxL := 3) (ret := (some .int)) (by decide) rfl ?_
  intro p e s m args below meth c s₁ Bk hml hv
  obtain ⟨rfl, ⟨hsz, hP, hK, hD0⟩, hE, hSR⟩ := hv
  have hx := Bk.exec
  have hb := Bk.bytes
  have hr := Bk.returns
  have hlocks := Bk.notSynchronized
  have hC : CallFix p m c cX12_walkerOf 3 s _ (wu yX12_walkerOf cX12_walkerOf 3 (some .int)) RX12 := ⟨hx, hb, hml, findClass_of_methodNamed Bk.named, atoms_spec (ws := (wu yX12_walkerOf cX12_walkerOf 3 (some .int))) Bk.pre⟩
  subst hsz
  have hD := hD0.self (sz := s.heap.size)
  generalize hAe : va_A w0 s.heap.size = A at hD hE ⊢
  have hA : ∀ q : Nat, s.heap.size ≤ q → A q := fun q h => by rw [← hAe]; exact Or.inr h
  have hw : Wd dC dI A s.heap s.heap [] w0 := ⟨hP, hD, va_S.rf⟩
  have hF : FE ksM ([] : List (Nat × Nat × Nat)) w0 w0 := FE.rf
  have hl := lv_entry ([.ref (ad 0), .int 0, .int 3]) (n := 3) (Nat.le_of_ble_eq_true rfl)
  rw [lg_entry_eq]
  generalize (lg_sl ([.ref (ad 0), .int 0, .int 3]) ++ List.replicate (3 - (lg_sl ([.ref (ad 0), .int 0, .int 3])).length) Slot.unset).toArray = ls at hl ⊢
  have hl : lv_has ls 3 [(0, .ref (ad 0)), (1, .int 0), (2, .int 3)] := hl
  generalize hloc : ([] : List Loc) = locs at hw ⊢
  have hinX12 : ∀ w ∈ u_ws RX12 TX12 42, w ∈ (wu yX12_walkerOf cX12_walkerOf 3 (some .int)) := fun _ h => List.mem_cons_of_mem _ (up_71 h)
  refine lv_aload_n hx hb dX12_walkerOf_0 rfl (lv_at hl 0 rfl) ?_
  refine tk_getA hC hK hw hT hinX12 kM_at0 (by decide) rfl 26 (by decide) (List.mem_cons_of_mem _ uw_7_1) rfl rfl dX12_walkerOf_1 ?_
  refine lv_sipush (v := 216) hx hb dX12_walkerOf_4 (by decide) ?_
  refine lv_bipush (v := 9) hx hb dX12_walkerOf_7 (by decide) ?_
  refine lv_iload_n hx hb dX12_walkerOf_9 rfl (lv_at hl 1 rfl) ?_
  refine lv_imul hx hb dX12_walkerOf_10 ?_
  refine wk_top 0 (by decide) ?_
  refine lv_iadd hx hb dX12_walkerOf_11 ?_
  refine wk_top 216 (by decide) ?_
  refine lv_iload_n hx hb dX12_walkerOf_12 rfl (lv_at hl 2 rfl) ?_
  refine lv_iadd hx hb dX12_walkerOf_13 ?_
  refine wk_top 219 (by decide) ?_
  refine tk_ialdR hC hK hw hT kM_at12 rfl (by decide) (by decide) dX12_walkerOf_14 (fun x1 c2 Ex1 => ?_)
  have bx1 := tk_rgI rfl 219 1 1 (-1) 5 (by decide +kernel) ⟨0, by decide, by decide⟩ Ex1
  have c2 : gi w0 12 219 = x1 := c2
  exact tk_iret hC hr hlocks hK ⟨rfl, ⟨(show (-1) ≤ x1.toInt by omega), (show x1.toInt ≤ 5 by omega), c2⟩⟩ hw dX12_walkerOf_15
abbrev P_X12_walkerOf_16 (ad : Nat → Nat) (cy : Nat → ClassId) (B : Int) (qr : Nat) (s1 : Int)  (w0 : va_W) : Int32 → va_W → Prop := fun r u => w0 = u ∧ ((gi u 12 221 = r))
set_option maxHeartbeats 4000000 in
set_option maxRecDepth 100000 in
theorem k_X12_walkerOf_16 (l : Launch) (adK adV : Nat → Nat) (dC : Nat → ClassId) (dI : Nat → Nat → Nat) (cy : Nat → ClassId) (ad : Nat → Nat) (B : Int) (hB0 : 100000 ≤ B) (hB1 : B ≤ 1073741824) (qr : Nat) (s1 : Int)   (w0 : va_W) (sz : Nat) (hT : TW ksM ad cy B qr 12 w0)  : Met l yX12_walkerOf (wu yX12_walkerOf cX12_walkerOf 3 (some .int)) ({ frames := 1, cells := 0, slots := 0, locals := 12 }) (va_Pc [.ref (ad 0), .int 0, .int 5] (wpreS adK adV dC dI cy sz w0)) (va_Qi (P_X12_walkerOf_16 ad cy B qr s1  w0) (fun u : va_W => wpost dC dI cy (va_A w0 sz) u) (va_A w0 sz)) 0 0 (va_A w0 sz) := by
  refine Met.ofW (cc := cX12_walkerOf) (maxL := 3) (ret := (some .int)) (by decide) rfl ?_
  intro p e s m args below meth c s₁ Bk hml hv
  obtain ⟨rfl, ⟨hsz, hP, hK, hD0⟩, hE, hSR⟩ := hv
  have hx := Bk.exec
  have hb := Bk.bytes
  have hr := Bk.returns
  have hlocks := Bk.notSynchronized
  have hC : CallFix p m c cX12_walkerOf 3 s _ (wu yX12_walkerOf cX12_walkerOf 3 (some .int)) RX12 := ⟨hx, hb, hml, findClass_of_methodNamed Bk.named, atoms_spec (ws := (wu yX12_walkerOf cX12_walkerOf 3 (some .int))) Bk.pre⟩
  subst hsz
  have hD := hD0.self (sz := s.heap.size)
  generalize hAe : va_A w0 s.heap.size = A at hD hE ⊢
  have hA : ∀ q : Nat, s.heap.size ≤ q → A q := fun q h => by rw [← hAe]; exact Or.inr h
  have hw : Wd dC dI A s.heap s.heap [] w0 := ⟨hP, hD, va_S.rf⟩
  have hF : FE ksM ([] : List (Nat × Nat × Nat)) w0 w0 := FE.rf
  have hl := lv_entry ([.ref (ad 0), .int 0, .int 5]) (n := 3) (Nat.le_of_ble_eq_true rfl)
  rw [lg_entry_eq]
  generalize (lg_sl ([.ref (ad 0), .int 0, .int 5]) ++ List.replicate (3 - (lg_sl ([.ref (ad 0), .int 0, .int 5])).length) Slot.unset).toArray = ls at hl ⊢
  have hl : lv_has ls 3 [(0, .ref (ad 0)), (1, .int 0), (2, .int 5)] := hl
  generalize hloc : ([] : List Loc) = locs at hw ⊢
  have hinX12 : ∀ w ∈ u_ws RX12 TX12 42, w ∈ (wu yX12_walkerOf cX12_walkerOf 3 (some .int)) := fun _ h => List.mem_cons_of_mem _ (up_71 h)
  refine lv_aload_n hx hb dX12_walkerOf_0 rfl (lv_at hl 0 rfl) ?_
  refine tk_getA hC hK hw hT hinX12 kM_at0 (by decide) rfl 26 (by decide) (List.mem_cons_of_mem _ uw_7_1) rfl rfl dX12_walkerOf_1 ?_
  refine lv_sipush (v := 216) hx hb dX12_walkerOf_4 (by decide) ?_
  refine lv_bipush (v := 9) hx hb dX12_walkerOf_7 (by decide) ?_
  refine lv_iload_n hx hb dX12_walkerOf_9 rfl (lv_at hl 1 rfl) ?_
  refine lv_imul hx hb dX12_walkerOf_10 ?_
  refine wk_top 0 (by decide) ?_
  refine lv_iadd hx hb dX12_walkerOf_11 ?_
  refine wk_top 216 (by decide) ?_
  refine lv_iload_n hx hb dX12_walkerOf_12 rfl (lv_at hl 2 rfl) ?_
  refine lv_iadd hx hb dX12_walkerOf_13 ?_
  refine wk_top 221 (by decide) ?_
  refine tk_ialdR hC hK hw hT kM_at12 rfl (by decide) (by decide) dX12_walkerOf_14 (fun x1 c2 Ex1 => ?_)
  have c2 : gi w0 12 221 = x1 := c2
  exact tk_iret hC hr hlocks hK ⟨rfl, c2⟩ hw dX12_walkerOf_15
abbrev P_X12_walkerOf_17 (ad : Nat → Nat) (cy : Nat → ClassId) (B : Int) (qr : Nat) (s1 : Int)  (w0 : va_W) : Int32 → va_W → Prop := fun r u => w0 = u ∧ ((gi u 12 222 = r))
set_option maxHeartbeats 4000000 in
set_option maxRecDepth 100000 in
theorem k_X12_walkerOf_17 (l : Launch) (adK adV : Nat → Nat) (dC : Nat → ClassId) (dI : Nat → Nat → Nat) (cy : Nat → ClassId) (ad : Nat → Nat) (B : Int) (hB0 : 100000 ≤ B) (hB1 : B ≤ 1073741824) (qr : Nat) (s1 : Int)   (w0 : va_W) (sz : Nat) (hT : TW ksM ad cy B qr 12 w0)  : Met l yX12_walkerOf (wu yX12_walkerOf cX12_walkerOf 3 (some .int)) ({ frames := 1, cells := 0, slots := 0, locals := 12 }) (va_Pc [.ref (ad 0), .int 0, .int 6] (wpreS adK adV dC dI cy sz w0)) (va_Qi (P_X12_walkerOf_17 ad cy B qr s1  w0) (fun u : va_W => wpost dC dI cy (va_A w0 sz) u) (va_A w0 sz)) 0 0 (va_A w0 sz) := by
  refine Met.ofW (cc := cX12_walkerOf) (maxL := 3) (ret := (some .int)) (by decide) rfl ?_
  intro p e s m args below meth c s₁ Bk hml hv
  obtain ⟨rfl, ⟨hsz, hP, hK, hD0⟩, hE, hSR⟩ := hv
  have hx := Bk.exec
  have hb := Bk.bytes
  have hr := Bk.returns
  have hlocks := Bk.notSynchronized
  have hC : CallFix p m c cX12_walkerOf 3 s _ (wu yX12_walkerOf cX12_walkerOf 3 (some .int)) RX12 := ⟨hx, hb, hml, findClass_of_methodNamed Bk.named, atoms_spec (ws := (wu yX12_walkerOf cX12_walkerOf 3 (some .int))) Bk.pre⟩
  subst hsz
  have hD := hD0.self (sz := s.heap.size)
  generalize hAe : va_A w0 s.heap.size = A at hD hE ⊢
  have hA : ∀ q : Nat, s.heap.size ≤ q → A q := fun q h => by rw [← hAe]; exact Or.inr h
  have hw : Wd dC dI A s.heap s.heap [] w0 := ⟨hP, hD, va_S.rf⟩
  have hF : FE ksM ([] : List (Nat × Nat × Nat)) w0 w0 := FE.rf
  have hl := lv_entry ([.ref (ad 0), .int 0, .int 6]) (n := 3) (Nat.le_of_ble_eq_true rfl)
  rw [lg_entry_eq]
  generalize (lg_sl ([.ref (ad 0), .int 0, .int 6]) ++ List.replicate (3 - (lg_sl ([.ref (ad 0), .int 0, .int 6])).length) Slot.unset).toArray = ls at hl ⊢
  have hl : lv_has ls 3 [(0, .ref (ad 0)), (1, .int 0), (2, .int 6)] := hl
  generalize hloc : ([] : List Loc) = locs at hw ⊢
  have hinX12 : ∀ w ∈ u_ws RX12 TX12 42, w ∈ (wu yX12_walkerOf cX12_walkerOf 3 (some .int)) := fun _ h => List.mem_cons_of_mem _ (up_71 h)
  refine lv_aload_n hx hb dX12_walkerOf_0 rfl (lv_at hl 0 rfl) ?_
  refine tk_getA hC hK hw hT hinX12 kM_at0 (by decide) rfl 26 (by decide) (List.mem_cons_of_mem _ uw_7_1) rfl rfl dX12_walkerOf_1 ?_
  refine lv_sipush (v := 216) hx hb dX12_walkerOf_4 (by decide) ?_
  refine lv_bipush (v := 9) hx hb dX12_walkerOf_7 (by decide) ?_
  refine lv_iload_n hx hb dX12_walkerOf_9 rfl (lv_at hl 1 rfl) ?_
  refine lv_imul hx hb dX12_walkerOf_10 ?_
  refine wk_top 0 (by decide) ?_
  refine lv_iadd hx hb dX12_walkerOf_11 ?_
  refine wk_top 216 (by decide) ?_
  refine lv_iload_n hx hb dX12_walkerOf_12 rfl (lv_at hl 2 rfl) ?_
  refine lv_iadd hx hb dX12_walkerOf_13 ?_
  refine wk_top 222 (by decide) ?_
  refine tk_ialdR hC hK hw hT kM_at12 rfl (by decide) (by decide) dX12_walkerOf_14 (fun x1 c2 Ex1 => ?_)
  have c2 : gi w0 12 222 = x1 := c2
  exact tk_iret hC hr hlocks hK ⟨rfl, c2⟩ hw dX12_walkerOf_15
abbrev P_X12_walkerOf_18 (ad : Nat → Nat) (cy : Nat → ClassId) (B : Int) (qr : Nat) (s1 : Int)  (w0 : va_W) : Int32 → va_W → Prop := fun r u => w0 = u ∧ (((-1) ≤ r.toInt ∧ r.toInt ≤ 9 ∧ gi u 12 223 = r))
set_option maxHeartbeats 4000000 in
set_option maxRecDepth 100000 in
theorem k_X12_walkerOf_18 (l : Launch) (adK adV : Nat → Nat) (dC : Nat → ClassId) (dI : Nat → Nat → Nat) (cy : Nat → ClassId) (ad : Nat → Nat) (B : Int) (hB0 : 100000 ≤ B) (hB1 : B ≤ 1073741824) (qr : Nat) (s1 : Int)   (w0 : va_W) (sz : Nat) (hT : TW ksM ad cy B qr 12 w0)  : Met l yX12_walkerOf (wu yX12_walkerOf cX12_walkerOf 3 (some .int)) ({ frames := 1, cells := 0, slots := 0, locals := 12 }) (va_Pc [.ref (ad 0), .int 0, .int 7] (wpreS adK adV dC dI cy sz w0)) (va_Qi (P_X12_walkerOf_18 ad cy B qr s1  w0) (fun u : va_W => wpost dC dI cy (va_A w0 sz) u) (va_A w0 sz)) 0 0 (va_A w0 sz) := by
  refine Met.ofW (cc := cX12_walkerOf) (maxL := 3) (ret := (some .int)) (by decide) rfl ?_
  intro p e s m args below meth c s₁ Bk hml hv
  obtain ⟨rfl, ⟨hsz, hP, hK, hD0⟩, hE, hSR⟩ := hv
  have hx := Bk.exec
  have hb := Bk.bytes
  have hr := Bk.returns
  have hlocks := Bk.notSynchronized
  have hC : CallFix p m c cX12_walkerOf 3 s _ (wu yX12_walkerOf cX12_walkerOf 3 (some .int)) RX12 := ⟨hx, hb, hml, findClass_of_methodNamed Bk.named, atoms_spec (ws := (wu yX12_walkerOf cX12_walkerOf 3 (some .int))) Bk.pre⟩
  subst hsz
  have hD := hD0.self (sz := s.heap.size)
  generalize hAe : va_A w0 s.heap.size = A at hD hE ⊢
  have hA : ∀ q : Nat, s.heap.size ≤ q → A q := fun q h => by rw [← hAe]; exact Or.inr h
  have hw : Wd dC dI A s.heap s.heap [] w0 := ⟨hP, hD, va_S.rf⟩
  have hF : FE ksM ([] : List (Nat × Nat × Nat)) w0 w0 := FE.rf
  have hl := lv_entry ([.ref (ad 0), .int 0, .int 7]) (n := 3) (Nat.le_of_ble_eq_true rfl)
  rw [lg_entry_eq]
  generalize (lg_sl ([.ref (ad 0), .int 0, .int 7]) ++ List.replicate (3 - (lg_sl ([.ref (ad 0), .int 0, .int 7])).length) Slot.unset).toArray = ls at hl ⊢
  have hl : lv_has ls 3 [(0, .ref (ad 0)), (1, .int 0), (2, .int 7)] := hl
  generalize hloc : ([] : List Loc) = locs at hw ⊢
  have hinX12 : ∀ w ∈ u_ws RX12 TX12 42, w ∈ (wu yX12_walkerOf cX12_walkerOf 3 (some .int)) := fun _ h => List.mem_cons_of_mem _ (up_71 h)
  refine lv_aload_n hx hb dX12_walkerOf_0 rfl (lv_at hl 0 rfl) ?_
  refine tk_getA hC hK hw hT hinX12 kM_at0 (by decide) rfl 26 (by decide) (List.mem_cons_of_mem _ uw_7_1) rfl rfl dX12_walkerOf_1 ?_
  refine lv_sipush (v := 216) hx hb dX12_walkerOf_4 (by decide) ?_
  refine lv_bipush (v := 9) hx hb dX12_walkerOf_7 (by decide) ?_
  refine lv_iload_n hx hb dX12_walkerOf_9 rfl (lv_at hl 1 rfl) ?_
  refine lv_imul hx hb dX12_walkerOf_10 ?_
  refine wk_top 0 (by decide) ?_
  refine lv_iadd hx hb dX12_walkerOf_11 ?_
  refine wk_top 216 (by decide) ?_
  refine lv_iload_n hx hb dX12_walkerOf_12 rfl (lv_at hl 2 rfl) ?_
  refine lv_iadd hx hb dX12_walkerOf_13 ?_
  refine wk_top 223 (by decide) ?_
  refine tk_ialdR hC hK hw hT kM_at12 rfl (by decide) (by decide) dX12_walkerOf_14 (fun x1 c2 Ex1 => ?_)
  have bx1 := tk_rgI rfl 223 1 1 (-1) 9 (by decide +kernel) ⟨0, by decide, by decide⟩ Ex1
  have c2 : gi w0 12 223 = x1 := c2
  exact tk_iret hC hr hlocks hK ⟨rfl, ⟨(show (-1) ≤ x1.toInt by omega), (show x1.toInt ≤ 9 by omega), c2⟩⟩ hw dX12_walkerOf_15
abbrev P_X12_words_2 (ad : Nat → Nat) (cy : Nat → ClassId) (B : Int) (qr : Nat) (s1 : Int)  (w0 : va_W) : va_W → Prop := fun u => TW ksM ad cy B qr 12 u ∧ FE ksM [(70, 0, 10)] w0 u ∧ (((∃ y : Int32, gi u 0 30 = y ∧ 0 ≤ y.toInt ∧ y.toInt ≤ 1) ∧ (∃ y : Int32, gi u 12 223 = y ∧ (-1) ≤ y.toInt ∧ y.toInt ≤ 9)))
set_option maxHeartbeats 4000000 in
set_option maxRecDepth 100000 in
theorem k_X12_words_2 (l : Launch) (adK adV : Nat → Nat) (dC : Nat → ClassId) (dI : Nat → Nat → Nat) (cy : Nat → ClassId) (ad : Nat → Nat) (B : Int) (hB0 : 100000 ≤ B) (hB1 : B ≤ 1073741824) (qr : Nat) (s1 : Int)   (w0 : va_W) (sz : Nat) (hT : TW ksM ad cy B qr 12 w0)  : Met l yX12_words (wu yX12_words cX12_words 4 none) ({ frames := 6, cells := 0, slots := 0, locals := 124 }) (va_Pc [.ref (ad 0), .int 0] (wpreS adK adV dC dI cy sz w0)) (va_Qv (P_X12_words_2 ad cy B qr s1  w0) (fun u : va_W => wpost dC dI cy (va_A w0 sz) u) (va_A w0 sz)) 0 0 (va_A w0 sz) := by
  refine Met.ofW (cc := cX12_words) (maxL := 4) (ret := none) (by decide) rfl ?_
  intro p e s m args below meth c s₁ Bk hml hv
  obtain ⟨rfl, ⟨hsz, hP, hK, hD0⟩, hE, hSR⟩ := hv
  have hx := Bk.exec
  have hb := Bk.bytes
  have hr := Bk.returns
  have hlocks := Bk.notSynchronized
  have hC : CallFix p m c cX12_words 4 s _ (wu yX12_words cX12_words 4 none) RX12 := ⟨hx, hb, hml, findClass_of_methodNamed Bk.named, atoms_spec (ws := (wu yX12_words cX12_words 4 none)) Bk.pre⟩
  subst hsz
  have hD := hD0.self (sz := s.heap.size)
  generalize hAe : va_A w0 s.heap.size = A at hD hE ⊢
  have hA : ∀ q : Nat, s.heap.size ≤ q → A q := fun q h => by rw [← hAe]; exact Or.inr h
  have hw : Wd dC dI A s.heap s.heap [] w0 := ⟨hP, hD, va_S.rf⟩
  have hF : FE ksM [(70, 0, 10)] w0 w0 := FE.rf
  have hl := lv_entry ([.ref (ad 0), .int 0]) (n := 4) (Nat.le_of_ble_eq_true rfl)
  rw [lg_entry_eq]
  generalize (lg_sl ([.ref (ad 0), .int 0]) ++ List.replicate (4 - (lg_sl ([.ref (ad 0), .int 0])).length) Slot.unset).toArray = ls at hl ⊢
  have hl : lv_has ls 4 [(0, .ref (ad 0)), (1, .int 0)] := hl
  generalize hloc : ([] : List Loc) = locs at hw ⊢
  have hinX12 : ∀ w ∈ u_ws RX12 TX12 42, w ∈ (wu yX12_words cX12_words 4 none) := fun _ h => List.mem_cons_of_mem _ (up_71 h)
  refine lv_aload_n hx hb dX12_words_0 rfl (lv_at hl 0 rfl) ?_
  refine lv_iload_n hx hb dX12_words_1 rfl (lv_at hl 1 rfl) ?_
  refine lv_iconst (v := 4) hx hb dX12_words_2 (by decide) ?_
  refine tk_Vi hC hK hw hT hA hE hSR kM_at0 (by decide) rfl (k_X12_walkerOf_13 l adK adV dC dI cy ad B (by omega) (by omega) qr s1    w0 s.heap.size hT ) (cwV 2 hC.2.2.2.2 uV_RX12_372 rfl rfl rfl (by decide +kernel) ⟨Nat.le_of_ble_eq_true rfl, Nat.le_of_ble_eq_true rfl⟩) rfl hl.1 rfl (Nat.le_of_ble_eq_true rfl) dX12_words_3 (fun r1 w3 H locs hp2 hw => ?_)
  obtain ⟨rfl, hg8⟩ := hp2
  obtain ⟨g5, g6, c7⟩ := hg8
  refine lv_istore_n (lv' := [(2, .int r1), (0, .ref (ad 0)), (1, .int 0)]) hx hb dX12_words_6 rfl hl (by decide) rfl (fun ls hl => ?_)
  refine lv_aload_n hx hb dX12_words_7 rfl (lv_at hl 1 rfl) ?_
  refine lv_iload_n hx hb dX12_words_8 rfl (lv_at hl 2 rfl) ?_
  refine lv_iconst (v := 0) hx hb dX12_words_9 (by decide) ?_
  refine tk_Vi hC hK hw hT hA hE hSR kM_at0 (by decide) rfl (k_X12_walkerOf_11 l adK adV dC dI cy ad B (by omega) (by omega) qr s1    w0 H.size hT ) (cwV 2 hC.2.2.2.2 uV_RX12_372 rfl rfl rfl (by decide +kernel) ⟨Nat.le_of_ble_eq_true rfl, Nat.le_of_ble_eq_true rfl⟩) rfl hl.1 rfl (Nat.le_of_ble_eq_true rfl) dX12_words_10 (fun r9 w11 H locs hp10 hw => ?_)
  obtain ⟨rfl, hg16⟩ := hp10
  obtain ⟨g13, g14, c15⟩ := hg16
  refine lv_istore_n (lv' := [(3, .int r9), (2, .int r1), (0, .ref (ad 0)), (1, .int 0)]) hx hb dX12_words_13 rfl hl (by decide) rfl (fun ls hl => ?_)
  refine lv_aload_n hx hb dX12_words_14 rfl (lv_at hl 2 rfl) ?_
  refine tk_getA hC hK hw hT hinX12 kM_at0 (by decide) rfl 25 (by decide) (List.mem_cons_of_mem _ uw_7_0) rfl rfl dX12_words_15 ?_
  refine lv_iconst (v := 0) hx hb dX12_words_18 (by decide) ?_
  refine lv_iload_n hx hb dX12_words_19 rfl (lv_at hl 1 rfl) ?_
  refine lv_bipush (v := 24) hx hb dX12_words_20 (by decide) ?_
  refine lv_irem hx hb dX12_words_22 (by decide) ?_
  refine lv_topi (fun x17 ex17 => ?_)
  have ex17 : x17.toInt = r1.toInt % (24 : Int) := by rw [ex17]; exact wk_rem (show 0 ≤ r1.toInt by omega) (show 0 < (24 : Int) by decide)
  refine lv_i2l hx hb dX12_words_23 rfl ?_
  refine lv_topl (fun x18 ex18 => ?_)
  have ex18 : x18.toInt = x17.toInt := by rw [ex18]; exact wk_i2l _
  have bx18 := wk_i32 x17
  refine tk_last hC hK hw hT kM_at11 (by decide) rfl (by decide) (by decide) dX12_words_24 (fun H locs w19 hw hT k21 => ?_)
  have hF := hF.put kM_at11 (inE_of (a := 0) (b := 10) (by decide) (by decide) (by decide)) k21
  have c22 := k21.gi (Or.inl (tk_ne kM_at12 kM_at11 (by decide))) c15
  refine lv_aload_n hx hb dX12_words_25 rfl (lv_at hl 2 rfl) ?_
  refine tk_getA hC hK hw hT hinX12 kM_at0 (by decide) rfl 25 (by decide) (List.mem_cons_of_mem _ uw_7_0) rfl rfl dX12_words_26 ?_
  refine lv_iconst (v := 1) hx hb dX12_words_29 (by decide) ?_
  refine lv_iload_n hx hb dX12_words_30 rfl (lv_at hl 1 rfl) ?_
  refine lv_bipush (v := 24) hx hb dX12_words_31 (by decide) ?_
  refine lv_idiv hx hb dX12_words_33 (by decide) ?_
  refine lv_topi (fun x23 ex23 => ?_)
  have ex23 : x23.toInt = r1.toInt / (24 : Int) := by rw [ex23]; exact wk_div (show 0 ≤ r1.toInt by omega) (show 0 < (24 : Int) by decide)
  refine lv_bipush (v := 7) hx hb dX12_words_34 (by decide) ?_
  refine lv_irem hx hb dX12_words_36 (by decide) ?_
  refine lv_topi (fun x24 ex24 => ?_)
  have ex24 : x24.toInt = x23.toInt % (7 : Int) := by rw [ex24]; exact wk_rem (show 0 ≤ x23.toInt by omega) (show 0 < (7 : Int) by decide)
  refine lv_i2l hx hb dX12_words_37 rfl ?_
  refine lv_topl (fun x25 ex25 => ?_)
  have ex25 : x25.toInt = x24.toInt := by rw [ex25]; exact wk_i2l _
  have bx25 := wk_i32 x24
  refine tk_last hC hK hw hT kM_at11 (by decide) rfl (by decide) (by decide) dX12_words_38 (fun H locs w26 hw hT k28 => ?_)
  have hF := hF.put kM_at11 (inE_of (a := 0) (b := 10) (by decide) (by decide) (by decide)) k28
  have c29 := k28.gi (Or.inl (tk_ne kM_at12 kM_at11 (by decide))) c22
  refine lv_aload_n hx hb dX12_words_39 rfl (lv_at hl 2 rfl) ?_
  refine tk_getA hC hK hw hT hinX12 kM_at0 (by decide) rfl 25 (by decide) (List.mem_cons_of_mem _ uw_7_0) rfl rfl dX12_words_40 ?_
  refine lv_iconst (v := 2) hx hb dX12_words_43 (by decide) ?_
  refine lv_aload_n hx hb dX12_words_44 rfl (lv_at hl 2 rfl) ?_
  refine tk_geti hC hK hw hT hinX12 kM_at0 (by decide) rfl 30 (by decide) (List.mem_cons_of_mem _ uw_47_4) rfl rfl dX12_words_45 (fun x30 c31 rx30 tx30 => ?_)
  refine lv_if_eq (tgt := 55) hx hb dX12_words_48 (by decide) (fun c32 => ?_) (fun c32 => ?_)
  · have c32 : x30.toInt = (0 : Int) := wk_eq.mp c32
    refine lv_iload_n hx hb dX12_words_55 rfl (lv_at hl 1 rfl) ?_
    refine lv_bipush (v := 24) hx hb dX12_words_56 (by decide) ?_
    refine lv_idiv hx hb dX12_words_58 (by decide) ?_
    refine lv_topi (fun x33 ex33 => ?_)
    have ex33 : x33.toInt = r1.toInt / (24 : Int) := by rw [ex33]; exact wk_div (show 0 ≤ r1.toInt by omega) (show 0 < (24 : Int) by decide)
    refine lv_sipush (v := 360) hx hb dX12_words_59 (by decide) ?_
    refine lv_irem hx hb dX12_words_62 (by decide) ?_
    refine lv_topi (fun x34 ex34 => ?_)
    have ex34 : x34.toInt = x33.toInt % (360 : Int) := by rw [ex34]; exact wk_rem (show 0 ≤ x33.toInt by omega) (show 0 < (360 : Int) by decide)
    refine lv_i2l hx hb dX12_words_63 rfl ?_
    refine lv_topl (fun x35 ex35 => ?_)
    have ex35 : x35.toInt = x34.toInt := by rw [ex35]; exact wk_i2l _
    have bx35 := wk_i32 x34
    refine tk_last hC hK hw hT kM_at11 (by decide) rfl (by decide) (by decide) dX12_words_64 (fun H locs w36 hw hT k38 => ?_)
    have hF := hF.put kM_at11 (inE_of (a := 0) (b := 10) (by decide) (by decide) (by decide)) k38
    have c39 := k38.gi (Or.inl (tk_ne kM_at12 kM_at11 (by decide))) c29
    have c40 := k38.gi (Or.inl (tk_ne kM_at0 kM_at11 (by decide))) c31
    refine lv_aload_n hx hb dX12_words_65 rfl (lv_at hl 2 rfl) ?_
    refine tk_getA hC hK hw hT hinX12 kM_at0 (by decide) rfl 25 (by decide) (List.mem_cons_of_mem _ uw_7_0) rfl rfl dX12_words_66 ?_
    refine lv_iconst (v := 3) hx hb dX12_words_69 (by decide) ?_
    refine lv_iload_n hx hb dX12_words_70 rfl (lv_at hl 0 rfl) ?_
    refine lv_i2l hx hb dX12_words_71 rfl ?_
    refine lv_topl (fun x41 ex41 => ?_)
    have ex41 : x41.toInt = r9.toInt := by rw [ex41]; exact wk_i2l _
    have bx41 := wk_i32 r9
    refine tk_last hC hK hw hT kM_at11 (by decide) rfl (by decide) (by decide) dX12_words_72 (fun H locs w42 hw hT k44 => ?_)
    have hF := hF.put kM_at11 (inE_of (a := 0) (b := 10) (by decide) (by decide) (by decide)) k44
    have c45 := k44.gi (Or.inl (tk_ne kM_at12 kM_at11 (by decide))) c39
    have c46 := k44.gi (Or.inl (tk_ne kM_at0 kM_at11 (by decide))) c40
    refine lv_aload_n hx hb dX12_words_73 rfl (lv_at hl 2 rfl) ?_
    refine tk_getA hC hK hw hT hinX12 kM_at0 (by decide) rfl 25 (by decide) (List.mem_cons_of_mem _ uw_7_0) rfl rfl dX12_words_74 ?_
    refine lv_iconst (v := 4) hx hb dX12_words_77 (by decide) ?_
    refine lv_aload_n hx hb dX12_words_78 rfl (lv_at hl 2 rfl) ?_
    refine lv_iload_n hx hb dX12_words_79 rfl (lv_at hl 3 rfl) ?_
    refine lv_iconst (v := 1) hx hb dX12_words_80 (by decide) ?_
    refine tk_Vi hC hK hw hT hA hE hSR kM_at0 (by decide) rfl (k_X12_walkerOf_12 l adK adV dC dI cy ad B (by omega) (by omega) qr s1    w42 H.size hT ) (cwV 2 hC.2.2.2.2 uV_RX12_372 rfl rfl rfl (by decide +kernel) ⟨Nat.le_of_ble_eq_true rfl, Nat.le_of_ble_eq_true rfl⟩) rfl hl.1 rfl (Nat.le_of_ble_eq_true rfl) dX12_words_81 (fun r47 w49 H locs hp48 hw => ?_)
    obtain ⟨rfl, hg54⟩ := hp48
    obtain ⟨g51, g52, c53⟩ := hg54
    refine lv_i2l hx hb dX12_words_84 rfl ?_
    refine lv_topl (fun x55 ex55 => ?_)
    have ex55 : x55.toInt = r47.toInt := by rw [ex55]; exact wk_i2l _
    have bx55 := wk_i32 r47
    refine tk_last hC hK hw hT kM_at11 (by decide) rfl (by decide) (by decide) dX12_words_85 (fun H locs w56 hw hT k58 => ?_)
    have hF := hF.put kM_at11 (inE_of (a := 0) (b := 10) (by decide) (by decide) (by decide)) k58
    have c59 := k58.gi (Or.inl (tk_ne kM_at12 kM_at11 (by decide))) c45
    have c60 := k58.gi (Or.inl (tk_ne kM_at0 kM_at11 (by decide))) c46
    have c61 := k58.gi (Or.inl (tk_ne kM_at12 kM_at11 (by decide))) c53
    refine lv_aload_n hx hb dX12_words_86 rfl (lv_at hl 2 rfl) ?_
    refine tk_getA hC hK hw hT hinX12 kM_at0 (by decide) rfl 25 (by decide) (List.mem_cons_of_mem _ uw_7_0) rfl rfl dX12_words_87 ?_
    refine lv_iconst (v := 5) hx hb dX12_words_90 (by decide) ?_
    refine lv_aload_n hx hb dX12_words_91 rfl (lv_at hl 2 rfl) ?_
    refine lv_iload_n hx hb dX12_words_92 rfl (lv_at hl 3 rfl) ?_
    refine tk_Vi hC hK hw hT hA hE hSR kM_at0 (by decide) rfl (k_X12_canGo_2 l adK adV dC dI cy ad B (by omega) (by omega) qr s1    w56 H.size hT ) (cwV 1 hC.2.2.2.2 uV_RX12_387 rfl rfl rfl (by decide +kernel) ⟨Nat.le_of_ble_eq_true rfl, Nat.le_of_ble_eq_true rfl⟩) rfl hl.1 rfl (Nat.le_of_ble_eq_true rfl) dX12_words_93 (fun r62 w64 H locs hp63 hw => ?_)
    obtain ⟨rfl, hg68⟩ := hp63
    rcases hg68 with rfl | ⟨rfl, ⟨x66, c67, rx66, tx66⟩⟩
    · refine lv_if_eq (tgt := 103) hx hb dX12_words_96 (by decide) (fun _ => ?_) (fun c => absurd (by decide) c)
      refine lv_lconst (v := 1) hx hb dX12_words_103 (by decide) ?_
      refine tk_last hC hK hw hT kM_at11 (by decide) rfl (by decide) (by decide) dX12_words_104 (fun H locs w69 hw hT k71 => ?_)
      have hF := hF.put kM_at11 (inE_of (a := 0) (b := 10) (by decide) (by decide) (by decide)) k71
      have c72 := k71.gi (Or.inl (tk_ne kM_at12 kM_at11 (by decide))) c59
      have c73 := k71.gi (Or.inl (tk_ne kM_at0 kM_at11 (by decide))) c60
      have c74 := k71.gi (Or.inl (tk_ne kM_at12 kM_at11 (by decide))) c61
      refine lv_aload_n hx hb dX12_words_105 rfl (lv_at hl 2 rfl) ?_
      refine tk_getA hC hK hw hT hinX12 kM_at0 (by decide) rfl 25 (by decide) (List.mem_cons_of_mem _ uw_7_0) rfl rfl dX12_words_106 ?_
      refine lv_bipush (v := 6) hx hb dX12_words_109 (by decide) ?_
      refine lv_aload_n hx hb dX12_words_111 rfl (lv_at hl 2 rfl) ?_
      refine tk_getA hC hK hw hT hinX12 kM_at0 (by decide) rfl 29 (by decide) (List.mem_cons_of_mem _ uw_7_4) rfl rfl dX12_words_112 ?_
      refine lv_iload_n hx hb dX12_words_115 rfl (lv_at hl 0 rfl) ?_
      refine tk_iald hC hK hw hT kM_at14 rfl rfl (show 0 ≤ r9.toInt by omega) (show r9.toInt < 10 by omega) dX12_words_116 (fun x75 c76 rx75 tx75 => ?_)
      have c76 : gi w69 14 (r9.toInt).toNat = x75 := (congrArg (gi w69 14) (congrArg Int.toNat (show r9.toInt = r9.toInt by omega))).trans c76
      refine lv_ldcw (v := 100000000) hx hb hC.2.2.2.1 (hC.2.2.2.2 _ (List.mem_cons_of_mem _ uw_38_2)) dX12_words_117 ?_
      refine lv_icmp_ne (tgt := 127) hx hb dX12_words_120 (by decide) (fun c77 => ?_) (fun c77 => ?_)
      · have c77 : ¬ x75.toInt = (100000000 : Int) := wk_eqF c77
        refine lv_aload_n hx hb dX12_words_127 rfl (lv_at hl 2 rfl) ?_
        refine tk_getA hC hK hw hT hinX12 kM_at0 (by decide) rfl 29 (by decide) (List.mem_cons_of_mem _ uw_7_4) rfl rfl dX12_words_128 ?_
        refine lv_iload_n hx hb dX12_words_131 rfl (lv_at hl 0 rfl) ?_
        refine tk_iald hC hK hw hT kM_at14 rfl rfl (show 0 ≤ r9.toInt by omega) (show r9.toInt < 10 by omega) dX12_words_132 (fun x78 c79 rx78 tx78 => ?_)
        have c79 : gi w69 14 (r9.toInt).toNat = x78 := (congrArg (gi w69 14) (congrArg Int.toNat (show r9.toInt = r9.toInt by omega))).trans c79
        refine wk_top x75 (c79.symm.trans c76) ?_
        refine lv_i2l hx hb dX12_words_133 rfl ?_
        refine lv_topl (fun x80 ex80 => ?_)
        have ex80 : x80.toInt = x75.toInt := by rw [ex80]; exact wk_i2l _
        have bx80 := wk_i32 x75
        refine tk_last hC hK hw hT kM_at11 (by decide) rfl (by decide) (by decide) dX12_words_134 (fun H locs w81 hw hT k83 => ?_)
        have hF := hF.put kM_at11 (inE_of (a := 0) (b := 10) (by decide) (by decide) (by decide)) k83
        have c84 := k83.gi (Or.inl (tk_ne kM_at12 kM_at11 (by decide))) c72
        have c85 := k83.gi (Or.inl (tk_ne kM_at0 kM_at11 (by decide))) c73
        have c86 := k83.gi (Or.inl (tk_ne kM_at12 kM_at11 (by decide))) c74
        have c87 := k83.gi (Or.inl (tk_ne kM_at14 kM_at11 (by decide))) c76
        refine lv_aload_n hx hb dX12_words_135 rfl (lv_at hl 2 rfl) ?_
        refine tk_getA hC hK hw hT hinX12 kM_at0 (by decide) rfl 25 (by decide) (List.mem_cons_of_mem _ uw_7_0) rfl rfl dX12_words_136 ?_
        refine lv_bipush (v := 7) hx hb dX12_words_139 (by decide) ?_
        refine lv_aload_n hx hb dX12_words_141 rfl (lv_at hl 2 rfl) ?_
        refine tk_geti hC hK hw hT hinX12 kM_at0 (by decide) rfl 30 (by decide) (List.mem_cons_of_mem _ uw_47_4) rfl rfl dX12_words_142 (fun x88 c89 rx88 tx88 => ?_)
        refine wk_top x30 (c89.symm.trans c85) ?_
        refine lv_if_eq (tgt := 152) hx hb dX12_words_145 (by decide) (fun _ => ?_) (fun c => (c (wk_eq.mpr (show x30.toInt = (0 : Int) by omega))).elim)
        refine lv_aload_n hx hb dX12_words_152 rfl (lv_at hl 2 rfl) ?_
        refine lv_iload_n hx hb dX12_words_153 rfl (lv_at hl 3 rfl) ?_
        refine lv_iconst (v := 5) hx hb dX12_words_154 (by decide) ?_
        refine tk_Vi hC hK hw hT hA hE hSR kM_at0 (by decide) rfl (k_X12_walkerOf_16 l adK adV dC dI cy ad B (by omega) (by omega) qr s1    w81 H.size hT ) (cwV 2 hC.2.2.2.2 uV_RX12_372 rfl rfl rfl (by decide +kernel) ⟨Nat.le_of_ble_eq_true rfl, Nat.le_of_ble_eq_true rfl⟩) rfl hl.1 rfl (Nat.le_of_ble_eq_true rfl) dX12_words_155 (fun r90 w92 H locs hp91 hw => ?_)
        obtain ⟨rfl, hg95⟩ := hp91
        have c94 := hg95
        refine lv_i2l hx hb dX12_words_158 rfl ?_
        refine lv_topl (fun x96 ex96 => ?_)
        have ex96 : x96.toInt = r90.toInt := by rw [ex96]; exact wk_i2l _
        have bx96 := wk_i32 r90
        refine tk_last hC hK hw hT kM_at11 (by decide) rfl (by decide) (by decide) dX12_words_159 (fun H locs w97 hw hT k99 => ?_)
        have hF := hF.put kM_at11 (inE_of (a := 0) (b := 10) (by decide) (by decide) (by decide)) k99
        have c100 := k99.gi (Or.inl (tk_ne kM_at12 kM_at11 (by decide))) c84
        have c101 := k99.gi (Or.inl (tk_ne kM_at0 kM_at11 (by decide))) c85
        have c102 := k99.gi (Or.inl (tk_ne kM_at12 kM_at11 (by decide))) c86
        have c103 := k99.gi (Or.inl (tk_ne kM_at14 kM_at11 (by decide))) c87
        have c104 := k99.gi (Or.inl (tk_ne kM_at12 kM_at11 (by decide))) c94
        refine lv_aload_n hx hb dX12_words_160 rfl (lv_at hl 2 rfl) ?_
        refine tk_getA hC hK hw hT hinX12 kM_at0 (by decide) rfl 25 (by decide) (List.mem_cons_of_mem _ uw_7_0) rfl rfl dX12_words_161 ?_
        refine lv_bipush (v := 8) hx hb dX12_words_164 (by decide) ?_
        refine lv_aload_n hx hb dX12_words_166 rfl (lv_at hl 2 rfl) ?_
        refine lv_iload_n hx hb dX12_words_167 rfl (lv_at hl 3 rfl) ?_
        refine lv_bipush (v := 6) hx hb dX12_words_168 (by decide) ?_
        refine tk_Vi hC hK hw hT hA hE hSR kM_at0 (by decide) rfl (k_X12_walkerOf_17 l adK adV dC dI cy ad B (by omega) (by omega) qr s1    w97 H.size hT ) (cwV 2 hC.2.2.2.2 uV_RX12_372 rfl rfl rfl (by decide +kernel) ⟨Nat.le_of_ble_eq_true rfl, Nat.le_of_ble_eq_true rfl⟩) rfl hl.1 rfl (Nat.le_of_ble_eq_true rfl) dX12_words_170 (fun r105 w107 H locs hp106 hw => ?_)
        obtain ⟨rfl, hg110⟩ := hp106
        have c109 := hg110
        refine lv_i2l hx hb dX12_words_173 rfl ?_
        refine lv_topl (fun x111 ex111 => ?_)
        have ex111 : x111.toInt = r105.toInt := by rw [ex111]; exact wk_i2l _
        have bx111 := wk_i32 r105
        refine tk_last hC hK hw hT kM_at11 (by decide) rfl (by decide) (by decide) dX12_words_174 (fun H locs w112 hw hT k114 => ?_)
        have hF := hF.put kM_at11 (inE_of (a := 0) (b := 10) (by decide) (by decide) (by decide)) k114
        have c115 := k114.gi (Or.inl (tk_ne kM_at12 kM_at11 (by decide))) c100
        have c116 := k114.gi (Or.inl (tk_ne kM_at0 kM_at11 (by decide))) c101
        have c117 := k114.gi (Or.inl (tk_ne kM_at12 kM_at11 (by decide))) c102
        have c118 := k114.gi (Or.inl (tk_ne kM_at14 kM_at11 (by decide))) c103
        have c119 := k114.gi (Or.inl (tk_ne kM_at12 kM_at11 (by decide))) c104
        have c120 := k114.gi (Or.inl (tk_ne kM_at12 kM_at11 (by decide))) c109
        refine lv_aload_n hx hb dX12_words_175 rfl (lv_at hl 2 rfl) ?_
        refine tk_getA hC hK hw hT hinX12 kM_at0 (by decide) rfl 25 (by decide) (List.mem_cons_of_mem _ uw_7_0) rfl rfl dX12_words_176 ?_
        refine lv_bipush (v := 9) hx hb dX12_words_179 (by decide) ?_
        refine lv_aload_n hx hb dX12_words_181 rfl (lv_at hl 2 rfl) ?_
        refine lv_iload_n hx hb dX12_words_182 rfl (lv_at hl 3 rfl) ?_
        refine lv_bipush (v := 7) hx hb dX12_words_183 (by decide) ?_
        refine tk_Vi hC hK hw hT hA hE hSR kM_at0 (by decide) rfl (k_X12_walkerOf_18 l adK adV dC dI cy ad B (by omega) (by omega) qr s1    w112 H.size hT ) (cwV 2 hC.2.2.2.2 uV_RX12_372 rfl rfl rfl (by decide +kernel) ⟨Nat.le_of_ble_eq_true rfl, Nat.le_of_ble_eq_true rfl⟩) rfl hl.1 rfl (Nat.le_of_ble_eq_true rfl) dX12_words_185 (fun r121 w123 H locs hp122 hw => ?_)
        obtain ⟨rfl, hg128⟩ := hp122
        obtain ⟨g125, g126, c127⟩ := hg128
        refine lv_if_ge (tgt := 197) hx hb dX12_words_188 (by decide) (fun c129 => ?_) (fun c129 => ?_)
        · have c129 : (0 : Int) ≤ r121.toInt := wk_le.mp c129
          refine lv_aload_n hx hb dX12_words_197 rfl (lv_at hl 2 rfl) ?_
          refine lv_iload_n hx hb dX12_words_198 rfl (lv_at hl 3 rfl) ?_
          refine lv_bipush (v := 7) hx hb dX12_words_199 (by decide) ?_
          refine tk_Vi hC hK hw hT hA hE hSR kM_at0 (by decide) rfl (k_X12_walkerOf_18 l adK adV dC dI cy ad B (by omega) (by omega) qr s1    w112 H.size hT ) (cwV 2 hC.2.2.2.2 uV_RX12_372 rfl rfl rfl (by decide +kernel) ⟨Nat.le_of_ble_eq_true rfl, Nat.le_of_ble_eq_true rfl⟩) rfl hl.1 rfl (Nat.le_of_ble_eq_true rfl) dX12_words_201 (fun r130 w132 H locs hp131 hw => ?_)
          obtain ⟨rfl, hg137⟩ := hp131
          obtain ⟨g134, g135, c136⟩ := hg137
          obtain rfl : r121 = r130 := c127.symm.trans c136
          refine lv_i2l hx hb dX12_words_204 rfl ?_
          refine lv_topl (fun x138 ex138 => ?_)
          have ex138 : x138.toInt = r121.toInt := by rw [ex138]; exact wk_i2l _
          have bx138 := wk_i32 r121
          refine tk_last hC hK hw hT kM_at11 (by decide) rfl (by decide) (by decide) dX12_words_205 (fun H locs w139 hw hT k141 => ?_)
          have hF := hF.put kM_at11 (inE_of (a := 0) (b := 10) (by decide) (by decide) (by decide)) k141
          have c142 := k141.gi (Or.inl (tk_ne kM_at12 kM_at11 (by decide))) c115
          have c143 := k141.gi (Or.inl (tk_ne kM_at0 kM_at11 (by decide))) c116
          have c144 := k141.gi (Or.inl (tk_ne kM_at12 kM_at11 (by decide))) c117
          have c145 := k141.gi (Or.inl (tk_ne kM_at14 kM_at11 (by decide))) c118
          have c146 := k141.gi (Or.inl (tk_ne kM_at12 kM_at11 (by decide))) c119
          have c147 := k141.gi (Or.inl (tk_ne kM_at12 kM_at11 (by decide))) c120
          have c148 := k141.gi (Or.inl (tk_ne kM_at12 kM_at11 (by decide))) c127
          exact tk_vret hC hr hlocks hK ⟨hT, hF, ⟨⟨x30, c143, (show 0 ≤ x30.toInt from rx30), (show x30.toInt ≤ 1 from tx30)⟩, ⟨r121, c148, (show (-1) ≤ r121.toInt from Int.le_trans (by decide) c129), (show r121.toInt ≤ 9 by omega)⟩⟩⟩ hw dX12_words_206
        · have c129 : r121.toInt < (0 : Int) := wk_leF c129
          refine lv_ldc2 (v := 99) hx hb hC.2.2.2.1 (hC.2.2.2.2 _ (List.mem_cons_of_mem _ uw_48_1)) dX12_words_191 ?_
          refine lv_goto (tgt := 205) hx hb dX12_words_194 (by decide) ?_
          refine tk_last hC hK hw hT kM_at11 (by decide) rfl (by decide) (by decide) dX12_words_205 (fun H locs w149 hw hT k151 => ?_)
          have hF := hF.put kM_at11 (inE_of (a := 0) (b := 10) (by decide) (by decide) (by decide)) k151
          have c152 := k151.gi (Or.inl (tk_ne kM_at12 kM_at11 (by decide))) c115
          have c153 := k151.gi (Or.inl (tk_ne kM_at0 kM_at11 (by decide))) c116
          have c154 := k151.gi (Or.inl (tk_ne kM_at12 kM_at11 (by decide))) c117
          have c155 := k151.gi (Or.inl (tk_ne kM_at14 kM_at11 (by decide))) c118
          have c156 := k151.gi (Or.inl (tk_ne kM_at12 kM_at11 (by decide))) c119
          have c157 := k151.gi (Or.inl (tk_ne kM_at12 kM_at11 (by decide))) c120
          have c158 := k151.gi (Or.inl (tk_ne kM_at12 kM_at11 (by decide))) c127
          exact tk_vret hC hr hlocks hK ⟨hT, hF, ⟨⟨x30, c153, (show 0 ≤ x30.toInt from rx30), (show x30.toInt ≤ 1 from tx30)⟩, ⟨r121, c158, (show (-1) ≤ r121.toInt by omega), (show r121.toInt ≤ 9 by omega)⟩⟩⟩ hw dX12_words_206
      · have c77 : x75.toInt = (100000000 : Int) := wk_eq.mp c77
        refine lv_lconst (v := 0) hx hb dX12_words_123 (by decide) ?_
        refine lv_goto (tgt := 134) hx hb dX12_words_124 (by decide) ?_
        refine tk_last hC hK hw hT kM_at11 (by decide) rfl (by decide) (by decide) dX12_words_134 (fun H locs w159 hw hT k161 => ?_)
        have hF := hF.put kM_at11 (inE_of (a := 0) (b := 10) (by decide) (by decide) (by decide)) k161
        have c162 := k161.gi (Or.inl (tk_ne kM_at12 kM_at11 (by decide))) c72
        have c163 := k161.gi (Or.inl (tk_ne kM_at0 kM_at11 (by decide))) c73
        have c164 := k161.gi (Or.inl (tk_ne kM_at12 kM_at11 (by decide))) c74
        have c165 := k161.gi (Or.inl (tk_ne kM_at14 kM_at11 (by decide))) c76
        refine lv_aload_n hx hb dX12_words_135 rfl (lv_at hl 2 rfl) ?_
        refine tk_getA hC hK hw hT hinX12 kM_at0 (by decide) rfl 25 (by decide) (List.mem_cons_of_mem _ uw_7_0) rfl rfl dX12_words_136 ?_
        refine lv_bipush (v := 7) hx hb dX12_words_139 (by decide) ?_
        refine lv_aload_n hx hb dX12_words_141 rfl (lv_at hl 2 rfl) ?_
        refine tk_geti hC hK hw hT hinX12 kM_at0 (by decide) rfl 30 (by decide) (List.mem_cons_of_mem _ uw_47_4) rfl rfl dX12_words_142 (fun x166 c167 rx166 tx166 => ?_)
        refine wk_top x30 (c167.symm.trans c163) ?_
        refine lv_if_eq (tgt := 152) hx hb dX12_words_145 (by decide) (fun _ => ?_) (fun c => (c (wk_eq.mpr (show x30.toInt = (0 : Int) by omega))).elim)
        refine lv_aload_n hx hb dX12_words_152 rfl (lv_at hl 2 rfl) ?_
        refine lv_iload_n hx hb dX12_words_153 rfl (lv_at hl 3 rfl) ?_
        refine lv_iconst (v := 5) hx hb dX12_words_154 (by decide) ?_
        refine tk_Vi hC hK hw hT hA hE hSR kM_at0 (by decide) rfl (k_X12_walkerOf_16 l adK adV dC dI cy ad B (by omega) (by omega) qr s1    w159 H.size hT ) (cwV 2 hC.2.2.2.2 uV_RX12_372 rfl rfl rfl (by decide +kernel) ⟨Nat.le_of_ble_eq_true rfl, Nat.le_of_ble_eq_true rfl⟩) rfl hl.1 rfl (Nat.le_of_ble_eq_true rfl) dX12_words_155 (fun r168 w170 H locs hp169 hw => ?_)
        obtain ⟨rfl, hg173⟩ := hp169
        have c172 := hg173
        refine lv_i2l hx hb dX12_words_158 rfl ?_
        refine lv_topl (fun x174 ex174 => ?_)
        have ex174 : x174.toInt = r168.toInt := by rw [ex174]; exact wk_i2l _
        have bx174 := wk_i32 r168
        refine tk_last hC hK hw hT kM_at11 (by decide) rfl (by decide) (by decide) dX12_words_159 (fun H locs w175 hw hT k177 => ?_)
        have hF := hF.put kM_at11 (inE_of (a := 0) (b := 10) (by decide) (by decide) (by decide)) k177
        have c178 := k177.gi (Or.inl (tk_ne kM_at12 kM_at11 (by decide))) c162
        have c179 := k177.gi (Or.inl (tk_ne kM_at0 kM_at11 (by decide))) c163
        have c180 := k177.gi (Or.inl (tk_ne kM_at12 kM_at11 (by decide))) c164
        have c181 := k177.gi (Or.inl (tk_ne kM_at14 kM_at11 (by decide))) c165
        have c182 := k177.gi (Or.inl (tk_ne kM_at12 kM_at11 (by decide))) c172
        refine lv_aload_n hx hb dX12_words_160 rfl (lv_at hl 2 rfl) ?_
        refine tk_getA hC hK hw hT hinX12 kM_at0 (by decide) rfl 25 (by decide) (List.mem_cons_of_mem _ uw_7_0) rfl rfl dX12_words_161 ?_
        refine lv_bipush (v := 8) hx hb dX12_words_164 (by decide) ?_
        refine lv_aload_n hx hb dX12_words_166 rfl (lv_at hl 2 rfl) ?_
        refine lv_iload_n hx hb dX12_words_167 rfl (lv_at hl 3 rfl) ?_
        refine lv_bipush (v := 6) hx hb dX12_words_168 (by decide) ?_
        refine tk_Vi hC hK hw hT hA hE hSR kM_at0 (by decide) rfl (k_X12_walkerOf_17 l adK adV dC dI cy ad B (by omega) (by omega) qr s1    w175 H.size hT ) (cwV 2 hC.2.2.2.2 uV_RX12_372 rfl rfl rfl (by decide +kernel) ⟨Nat.le_of_ble_eq_true rfl, Nat.le_of_ble_eq_true rfl⟩) rfl hl.1 rfl (Nat.le_of_ble_eq_true rfl) dX12_words_170 (fun r183 w185 H locs hp184 hw => ?_)
        obtain ⟨rfl, hg188⟩ := hp184
        have c187 := hg188
        refine lv_i2l hx hb dX12_words_173 rfl ?_
        refine lv_topl (fun x189 ex189 => ?_)
        have ex189 : x189.toInt = r183.toInt := by rw [ex189]; exact wk_i2l _
        have bx189 := wk_i32 r183
        refine tk_last hC hK hw hT kM_at11 (by decide) rfl (by decide) (by decide) dX12_words_174 (fun H locs w190 hw hT k192 => ?_)
        have hF := hF.put kM_at11 (inE_of (a := 0) (b := 10) (by decide) (by decide) (by decide)) k192
        have c193 := k192.gi (Or.inl (tk_ne kM_at12 kM_at11 (by decide))) c178
        have c194 := k192.gi (Or.inl (tk_ne kM_at0 kM_at11 (by decide))) c179
        have c195 := k192.gi (Or.inl (tk_ne kM_at12 kM_at11 (by decide))) c180
        have c196 := k192.gi (Or.inl (tk_ne kM_at14 kM_at11 (by decide))) c181
        have c197 := k192.gi (Or.inl (tk_ne kM_at12 kM_at11 (by decide))) c182
        have c198 := k192.gi (Or.inl (tk_ne kM_at12 kM_at11 (by decide))) c187
        refine lv_aload_n hx hb dX12_words_175 rfl (lv_at hl 2 rfl) ?_
        refine tk_getA hC hK hw hT hinX12 kM_at0 (by decide) rfl 25 (by decide) (List.mem_cons_of_mem _ uw_7_0) rfl rfl dX12_words_176 ?_
        refine lv_bipush (v := 9) hx hb dX12_words_179 (by decide) ?_
        refine lv_aload_n hx hb dX12_words_181 rfl (lv_at hl 2 rfl) ?_
        refine lv_iload_n hx hb dX12_words_182 rfl (lv_at hl 3 rfl) ?_
        refine lv_bipush (v := 7) hx hb dX12_words_183 (by decide) ?_
        refine tk_Vi hC hK hw hT hA hE hSR kM_at0 (by decide) rfl (k_X12_walkerOf_18 l adK adV dC dI cy ad B (by omega) (by omega) qr s1    w190 H.size hT ) (cwV 2 hC.2.2.2.2 uV_RX12_372 rfl rfl rfl (by decide +kernel) ⟨Nat.le_of_ble_eq_true rfl, Nat.le_of_ble_eq_true rfl⟩) rfl hl.1 rfl (Nat.le_of_ble_eq_true rfl) dX12_words_185 (fun r199 w201 H locs hp200 hw => ?_)
        obtain ⟨rfl, hg206⟩ := hp200
        obtain ⟨g203, g204, c205⟩ := hg206
        refine lv_if_ge (tgt := 197) hx hb dX12_words_188 (by decide) (fun c207 => ?_) (fun c207 => ?_)
        · have c207 : (0 : Int) ≤ r199.toInt := wk_le.mp c207
          refine lv_aload_n hx hb dX12_words_197 rfl (lv_at hl 2 rfl) ?_
          refine lv_iload_n hx hb dX12_words_198 rfl (lv_at hl 3 rfl) ?_
          refine lv_bipush (v := 7) hx hb dX12_words_199 (by decide) ?_
          refine tk_Vi hC hK hw hT hA hE hSR kM_at0 (by decide) rfl (k_X12_walkerOf_18 l adK adV dC dI cy ad B (by omega) (by omega) qr s1    w190 H.size hT ) (cwV 2 hC.2.2.2.2 uV_RX12_372 rfl rfl rfl (by decide +kernel) ⟨Nat.le_of_ble_eq_true rfl, Nat.le_of_ble_eq_true rfl⟩) rfl hl.1 rfl (Nat.le_of_ble_eq_true rfl) dX12_words_201 (fun r208 w210 H locs hp209 hw => ?_)
          obtain ⟨rfl, hg215⟩ := hp209
          obtain ⟨g212, g213, c214⟩ := hg215
          obtain rfl : r199 = r208 := c205.symm.trans c214
          refine lv_i2l hx hb dX12_words_204 rfl ?_
          refine lv_topl (fun x216 ex216 => ?_)
          have ex216 : x216.toInt = r199.toInt := by rw [ex216]; exact wk_i2l _
          have bx216 := wk_i32 r199
          refine tk_last hC hK hw hT kM_at11 (by decide) rfl (by decide) (by decide) dX12_words_205 (fun H locs w217 hw hT k219 => ?_)
          have hF := hF.put kM_at11 (inE_of (a := 0) (b := 10) (by decide) (by decide) (by decide)) k219
          have c220 := k219.gi (Or.inl (tk_ne kM_at12 kM_at11 (by decide))) c193
          have c221 := k219.gi (Or.inl (tk_ne kM_at0 kM_at11 (by decide))) c194
          have c222 := k219.gi (Or.inl (tk_ne kM_at12 kM_at11 (by decide))) c195
          have c223 := k219.gi (Or.inl (tk_ne kM_at14 kM_at11 (by decide))) c196
          have c224 := k219.gi (Or.inl (tk_ne kM_at12 kM_at11 (by decide))) c197
          have c225 := k219.gi (Or.inl (tk_ne kM_at12 kM_at11 (by decide))) c198
          have c226 := k219.gi (Or.inl (tk_ne kM_at12 kM_at11 (by decide))) c205
          exact tk_vret hC hr hlocks hK ⟨hT, hF, ⟨⟨x30, c221, (show 0 ≤ x30.toInt from rx30), (show x30.toInt ≤ 1 from tx30)⟩, ⟨r199, c226, (show (-1) ≤ r199.toInt from Int.le_trans (by decide) c207), (show r199.toInt ≤ 9 by omega)⟩⟩⟩ hw dX12_words_206
        · have c207 : r199.toInt < (0 : Int) := wk_leF c207
          refine lv_ldc2 (v := 99) hx hb hC.2.2.2.1 (hC.2.2.2.2 _ (List.mem_cons_of_mem _ uw_48_1)) dX12_words_191 ?_
          refine lv_goto (tgt := 205) hx hb dX12_words_194 (by decide) ?_
          refine tk_last hC hK hw hT kM_at11 (by decide) rfl (by decide) (by decide) dX12_words_205 (fun H locs w227 hw hT k229 => ?_)
          have hF := hF.put kM_at11 (inE_of (a := 0) (b := 10) (by decide) (by decide) (by decide)) k229
          have c230 := k229.gi (Or.inl (tk_ne kM_at12 kM_at11 (by decide))) c193
          have c231 := k229.gi (Or.inl (tk_ne kM_at0 kM_at11 (by decide))) c194
          have c232 := k229.gi (Or.inl (tk_ne kM_at12 kM_at11 (by decide))) c195
          have c233 := k229.gi (Or.inl (tk_ne kM_at14 kM_at11 (by decide))) c196
          have c234 := k229.gi (Or.inl (tk_ne kM_at12 kM_at11 (by decide))) c197
          have c235 := k229.gi (Or.inl (tk_ne kM_at12 kM_at11 (by decide))) c198
          have c236 := k229.gi (Or.inl (tk_ne kM_at12 kM_at11 (by decide))) c205
          exact tk_vret hC hr hlocks hK ⟨hT, hF, ⟨⟨x30, c231, (show 0 ≤ x30.toInt from rx30), (show x30.toInt ≤ 1 from tx30)⟩, ⟨r199, c236, (show (-1) ≤ r199.toInt by omega), (show r199.toInt ≤ 9 by omega)⟩⟩⟩ hw dX12_words_206
    · refine lv_if_eq (tgt := 103) hx hb dX12_words_96 (by decide) (fun c => absurd c (by decide)) (fun _ => ?_)
      refine lv_lconst (v := 0) hx hb dX12_words_99 (by decide) ?_
      refine lv_goto (tgt := 104) hx hb dX12_words_100 (by decide) ?_
      refine tk_last hC hK hw hT kM_at11 (by decide) rfl (by decide) (by decide) dX12_words_104 (fun H locs w237 hw hT k239 => ?_)
      have hF := hF.put kM_at11 (inE_of (a := 0) (b := 10) (by decide) (by decide) (by decide)) k239
      have c240 := k239.gi (Or.inl (tk_ne kM_at12 kM_at11 (by decide))) c59
      have c241 := k239.gi (Or.inl (tk_ne kM_at0 kM_at11 (by decide))) c60
      have c242 := k239.gi (Or.inl (tk_ne kM_at12 kM_at11 (by decide))) c61
      have c243 := k239.gi (Or.inl (tk_ne kM_at0 kM_at11 (by decide))) c67
      refine lv_aload_n hx hb dX12_words_105 rfl (lv_at hl 2 rfl) ?_
      refine tk_getA hC hK hw hT hinX12 kM_at0 (by decide) rfl 25 (by decide) (List.mem_cons_of_mem _ uw_7_0) rfl rfl dX12_words_106 ?_
      refine lv_bipush (v := 6) hx hb dX12_words_109 (by decide) ?_
      refine lv_aload_n hx hb dX12_words_111 rfl (lv_at hl 2 rfl) ?_
      refine tk_getA hC hK hw hT hinX12 kM_at0 (by decide) rfl 29 (by decide) (List.mem_cons_of_mem _ uw_7_4) rfl rfl dX12_words_112 ?_
      refine lv_iload_n hx hb dX12_words_115 rfl (lv_at hl 0 rfl) ?_
      refine tk_iald hC hK hw hT kM_at14 rfl rfl (show 0 ≤ r9.toInt by omega) (show r9.toInt < 10 by omega) dX12_words_116 (fun x244 c245 rx244 tx244 => ?_)
      have c245 : gi w237 14 (r9.toInt).toNat = x244 := (congrArg (gi w237 14) (congrArg Int.toNat (show r9.toInt = r9.toInt by omega))).trans c245
      refine lv_ldcw (v := 100000000) hx hb hC.2.2.2.1 (hC.2.2.2.2 _ (List.mem_cons_of_mem _ uw_38_2)) dX12_words_117 ?_
      refine lv_icmp_ne (tgt := 127) hx hb dX12_words_120 (by decide) (fun c246 => ?_) (fun c246 => ?_)
      · have c246 : ¬ x244.toInt = (100000000 : Int) := wk_eqF c246
        refine lv_aload_n hx hb dX12_words_127 rfl (lv_at hl 2 rfl) ?_
        refine tk_getA hC hK hw hT hinX12 kM_at0 (by decide) rfl 29 (by decide) (List.mem_cons_of_mem _ uw_7_4) rfl rfl dX12_words_128 ?_
        refine lv_iload_n hx hb dX12_words_131 rfl (lv_at hl 0 rfl) ?_
        refine tk_iald hC hK hw hT kM_at14 rfl rfl (show 0 ≤ r9.toInt by omega) (show r9.toInt < 10 by omega) dX12_words_132 (fun x247 c248 rx247 tx247 => ?_)
        have c248 : gi w237 14 (r9.toInt).toNat = x247 := (congrArg (gi w237 14) (congrArg Int.toNat (show r9.toInt = r9.toInt by omega))).trans c248
        refine wk_top x244 (c248.symm.trans c245) ?_
        refine lv_i2l hx hb dX12_words_133 rfl ?_
        refine lv_topl (fun x249 ex249 => ?_)
        have ex249 : x249.toInt = x244.toInt := by rw [ex249]; exact wk_i2l _
        have bx249 := wk_i32 x244
        refine tk_last hC hK hw hT kM_at11 (by decide) rfl (by decide) (by decide) dX12_words_134 (fun H locs w250 hw hT k252 => ?_)
        have hF := hF.put kM_at11 (inE_of (a := 0) (b := 10) (by decide) (by decide) (by decide)) k252
        have c253 := k252.gi (Or.inl (tk_ne kM_at12 kM_at11 (by decide))) c240
        have c254 := k252.gi (Or.inl (tk_ne kM_at0 kM_at11 (by decide))) c241
        have c255 := k252.gi (Or.inl (tk_ne kM_at12 kM_at11 (by decide))) c242
        have c256 := k252.gi (Or.inl (tk_ne kM_at0 kM_at11 (by decide))) c243
        have c257 := k252.gi (Or.inl (tk_ne kM_at14 kM_at11 (by decide))) c245
        refine lv_aload_n hx hb dX12_words_135 rfl (lv_at hl 2 rfl) ?_
        refine tk_getA hC hK hw hT hinX12 kM_at0 (by decide) rfl 25 (by decide) (List.mem_cons_of_mem _ uw_7_0) rfl rfl dX12_words_136 ?_
        refine lv_bipush (v := 7) hx hb dX12_words_139 (by decide) ?_
        refine lv_aload_n hx hb dX12_words_141 rfl (lv_at hl 2 rfl) ?_
        refine tk_geti hC hK hw hT hinX12 kM_at0 (by decide) rfl 30 (by decide) (List.mem_cons_of_mem _ uw_47_4) rfl rfl dX12_words_142 (fun x258 c259 rx258 tx258 => ?_)
        refine wk_top x30 (c259.symm.trans c254) ?_
        refine lv_if_eq (tgt := 152) hx hb dX12_words_145 (by decide) (fun _ => ?_) (fun c => (c (wk_eq.mpr (show x30.toInt = (0 : Int) by omega))).elim)
        refine lv_aload_n hx hb dX12_words_152 rfl (lv_at hl 2 rfl) ?_
        refine lv_iload_n hx hb dX12_words_153 rfl (lv_at hl 3 rfl) ?_
        refine lv_iconst (v := 5) hx hb dX12_words_154 (by decide) ?_
        refine tk_Vi hC hK hw hT hA hE hSR kM_at0 (by decide) rfl (k_X12_walkerOf_16 l adK adV dC dI cy ad B (by omega) (by omega) qr s1    w250 H.size hT ) (cwV 2 hC.2.2.2.2 uV_RX12_372 rfl rfl rfl (by decide +kernel) ⟨Nat.le_of_ble_eq_true rfl, Nat.le_of_ble_eq_true rfl⟩) rfl hl.1 rfl (Nat.le_of_ble_eq_true rfl) dX12_words_155 (fun r260 w262 H locs hp261 hw => ?_)
        obtain ⟨rfl, hg265⟩ := hp261
        have c264 := hg265
        refine lv_i2l hx hb dX12_words_158 rfl ?_
        refine lv_topl (fun x266 ex266 => ?_)
        have ex266 : x266.toInt = r260.toInt := by rw [ex266]; exact wk_i2l _
        have bx266 := wk_i32 r260
        refine tk_last hC hK hw hT kM_at11 (by decide) rfl (by decide) (by decide) dX12_words_159 (fun H locs w267 hw hT k269 => ?_)
        have hF := hF.put kM_at11 (inE_of (a := 0) (b := 10) (by decide) (by decide) (by decide)) k269
        have c270 := k269.gi (Or.inl (tk_ne kM_at12 kM_at11 (by decide))) c253
        have c271 := k269.gi (Or.inl (tk_ne kM_at0 kM_at11 (by decide))) c254
        have c272 := k269.gi (Or.inl (tk_ne kM_at12 kM_at11 (by decide))) c255
        have c273 := k269.gi (Or.inl (tk_ne kM_at0 kM_at11 (by decide))) c256
        have c274 := k269.gi (Or.inl (tk_ne kM_at14 kM_at11 (by decide))) c257
        have c275 := k269.gi (Or.inl (tk_ne kM_at12 kM_at11 (by decide))) c264
        refine lv_aload_n hx hb dX12_words_160 rfl (lv_at hl 2 rfl) ?_
        refine tk_getA hC hK hw hT hinX12 kM_at0 (by decide) rfl 25 (by decide) (List.mem_cons_of_mem _ uw_7_0) rfl rfl dX12_words_161 ?_
        refine lv_bipush (v := 8) hx hb dX12_words_164 (by decide) ?_
        refine lv_aload_n hx hb dX12_words_166 rfl (lv_at hl 2 rfl) ?_
        refine lv_iload_n hx hb dX12_words_167 rfl (lv_at hl 3 rfl) ?_
        refine lv_bipush (v := 6) hx hb dX12_words_168 (by decide) ?_
        refine tk_Vi hC hK hw hT hA hE hSR kM_at0 (by decide) rfl (k_X12_walkerOf_17 l adK adV dC dI cy ad B (by omega) (by omega) qr s1    w267 H.size hT ) (cwV 2 hC.2.2.2.2 uV_RX12_372 rfl rfl rfl (by decide +kernel) ⟨Nat.le_of_ble_eq_true rfl, Nat.le_of_ble_eq_true rfl⟩) rfl hl.1 rfl (Nat.le_of_ble_eq_true rfl) dX12_words_170 (fun r276 w278 H locs hp277 hw => ?_)
        obtain ⟨rfl, hg281⟩ := hp277
        have c280 := hg281
        refine lv_i2l hx hb dX12_words_173 rfl ?_
        refine lv_topl (fun x282 ex282 => ?_)
        have ex282 : x282.toInt = r276.toInt := by rw [ex282]; exact wk_i2l _
        have bx282 := wk_i32 r276
        refine tk_last hC hK hw hT kM_at11 (by decide) rfl (by decide) (by decide) dX12_words_174 (fun H locs w283 hw hT k285 => ?_)
        have hF := hF.put kM_at11 (inE_of (a := 0) (b := 10) (by decide) (by decide) (by decide)) k285
        have c286 := k285.gi (Or.inl (tk_ne kM_at12 kM_at11 (by decide))) c270
        have c287 := k285.gi (Or.inl (tk_ne kM_at0 kM_at11 (by decide))) c271
        have c288 := k285.gi (Or.inl (tk_ne kM_at12 kM_at11 (by decide))) c272
        have c289 := k285.gi (Or.inl (tk_ne kM_at0 kM_at11 (by decide))) c273
        have c290 := k285.gi (Or.inl (tk_ne kM_at14 kM_at11 (by decide))) c274
        have c291 := k285.gi (Or.inl (tk_ne kM_at12 kM_at11 (by decide))) c275
        have c292 := k285.gi (Or.inl (tk_ne kM_at12 kM_at11 (by decide))) c280
        refine lv_aload_n hx hb dX12_words_175 rfl (lv_at hl 2 rfl) ?_
        refine tk_getA hC hK hw hT hinX12 kM_at0 (by decide) rfl 25 (by decide) (List.mem_cons_of_mem _ uw_7_0) rfl rfl dX12_words_176 ?_
        refine lv_bipush (v := 9) hx hb dX12_words_179 (by decide) ?_
        refine lv_aload_n hx hb dX12_words_181 rfl (lv_at hl 2 rfl) ?_
        refine lv_iload_n hx hb dX12_words_182 rfl (lv_at hl 3 rfl) ?_
        refine lv_bipush (v := 7) hx hb dX12_words_183 (by decide) ?_
        refine tk_Vi hC hK hw hT hA hE hSR kM_at0 (by decide) rfl (k_X12_walkerOf_18 l adK adV dC dI cy ad B (by omega) (by omega) qr s1    w283 H.size hT ) (cwV 2 hC.2.2.2.2 uV_RX12_372 rfl rfl rfl (by decide +kernel) ⟨Nat.le_of_ble_eq_true rfl, Nat.le_of_ble_eq_true rfl⟩) rfl hl.1 rfl (Nat.le_of_ble_eq_true rfl) dX12_words_185 (fun r293 w295 H locs hp294 hw => ?_)
        obtain ⟨rfl, hg300⟩ := hp294
        obtain ⟨g297, g298, c299⟩ := hg300
        refine lv_if_ge (tgt := 197) hx hb dX12_words_188 (by decide) (fun c301 => ?_) (fun c301 => ?_)
        · have c301 : (0 : Int) ≤ r293.toInt := wk_le.mp c301
          refine lv_aload_n hx hb dX12_words_197 rfl (lv_at hl 2 rfl) ?_
          refine lv_iload_n hx hb dX12_words_198 rfl (lv_at hl 3 rfl) ?_
          refine lv_bipush (v := 7) hx hb dX12_words_199 (by decide) ?_
          refine tk_Vi hC hK hw hT hA hE hSR kM_at0 (by decide) rfl (k_X12_walkerOf_18 l adK adV dC dI cy ad B (by omega) (by omega) qr s1    w283 H.size hT ) (cwV 2 hC.2.2.2.2 uV_RX12_372 rfl rfl rfl (by decide +kernel) ⟨Nat.le_of_ble_eq_true rfl, Nat.le_of_ble_eq_true rfl⟩) rfl hl.1 rfl (Nat.le_of_ble_eq_true rfl) dX12_words_201 (fun r302 w304 H locs hp303 hw => ?_)
          obtain ⟨rfl, hg309⟩ := hp303
          obtain ⟨g306, g307, c308⟩ := hg309
          obtain rfl : r293 = r302 := c299.symm.trans c308
          refine lv_i2l hx hb dX12_words_204 rfl ?_
          refine lv_topl (fun x310 ex310 => ?_)
          have ex310 : x310.toInt = r293.toInt := by rw [ex310]; exact wk_i2l _
          have bx310 := wk_i32 r293
          refine tk_last hC hK hw hT kM_at11 (by decide) rfl (by decide) (by decide) dX12_words_205 (fun H locs w311 hw hT k313 => ?_)
          have hF := hF.put kM_at11 (inE_of (a := 0) (b := 10) (by decide) (by decide) (by decide)) k313
          have c314 := k313.gi (Or.inl (tk_ne kM_at12 kM_at11 (by decide))) c286
          have c315 := k313.gi (Or.inl (tk_ne kM_at0 kM_at11 (by decide))) c287
          have c316 := k313.gi (Or.inl (tk_ne kM_at12 kM_at11 (by decide))) c288
          have c317 := k313.gi (Or.inl (tk_ne kM_at0 kM_at11 (by decide))) c289
          have c318 := k313.gi (Or.inl (tk_ne kM_at14 kM_at11 (by decide))) c290
          have c319 := k313.gi (Or.inl (tk_ne kM_at12 kM_at11 (by decide))) c291
          have c320 := k313.gi (Or.inl (tk_ne kM_at12 kM_at11 (by decide))) c292
          have c321 := k313.gi (Or.inl (tk_ne kM_at12 kM_at11 (by decide))) c299
          exact tk_vret hC hr hlocks hK ⟨hT, hF, ⟨⟨x30, c315, (show 0 ≤ x30.toInt from rx30), (show x30.toInt ≤ 1 from tx30)⟩, ⟨r293, c321, (show (-1) ≤ r293.toInt from Int.le_trans (by decide) c301), (show r293.toInt ≤ 9 by omega)⟩⟩⟩ hw dX12_words_206
        · have c301 : r293.toInt < (0 : Int) := wk_leF c301
          refine lv_ldc2 (v := 99) hx hb hC.2.2.2.1 (hC.2.2.2.2 _ (List.mem_cons_of_mem _ uw_48_1)) dX12_words_191 ?_
          refine lv_goto (tgt := 205) hx hb dX12_words_194 (by decide) ?_
          refine tk_last hC hK hw hT kM_at11 (by decide) rfl (by decide) (by decide) dX12_words_205 (fun H locs w322 hw hT k324 => ?_)
          have hF := hF.put kM_at11 (inE_of (a := 0) (b := 10) (by decide) (by decide) (by decide)) k324
          have c325 := k324.gi (Or.inl (tk_ne kM_at12 kM_at11 (by decide))) c286
          have c326 := k324.gi (Or.inl (tk_ne kM_at0 kM_at11 (by decide))) c287
          have c327 := k324.gi (Or.inl (tk_ne kM_at12 kM_at11 (by decide))) c288
          have c328 := k324.gi (Or.inl (tk_ne kM_at0 kM_at11 (by decide))) c289
          have c329 := k324.gi (Or.inl (tk_ne kM_at14 kM_at11 (by decide))) c290
          have c330 := k324.gi (Or.inl (tk_ne kM_at12 kM_at11 (by decide))) c291
          have c331 := k324.gi (Or.inl (tk_ne kM_at12 kM_at11 (by decide))) c292
          have c332 := k324.gi (Or.inl (tk_ne kM_at12 kM_at11 (by decide))) c299
          exact tk_vret hC hr hlocks hK ⟨hT, hF, ⟨⟨x30, c326, (show 0 ≤ x30.toInt from rx30), (show x30.toInt ≤ 1 from tx30)⟩, ⟨r293, c332, (show (-1) ≤ r293.toInt by omega), (show r293.toInt ≤ 9 by omega)⟩⟩⟩ hw dX12_words_206
      · have c246 : x244.toInt = (100000000 : Int) := wk_eq.mp c246
        refine lv_lconst (v := 0) hx hb dX12_words_123 (by decide) ?_
        refine lv_goto (tgt := 134) hx hb dX12_words_124 (by decide) ?_
        refine tk_last hC hK hw hT kM_at11 (by decide) rfl (by decide) (by decide) dX12_words_134 (fun H locs w333 hw hT k335 => ?_)
        have hF := hF.put kM_at11 (inE_of (a := 0) (b := 10) (by decide) (by decide) (by decide)) k335
        have c336 := k335.gi (Or.inl (tk_ne kM_at12 kM_at11 (by decide))) c240
        have c337 := k335.gi (Or.inl (tk_ne kM_at0 kM_at11 (by decide))) c241
        have c338 := k335.gi (Or.inl (tk_ne kM_at12 kM_at11 (by decide))) c242
        have c339 := k335.gi (Or.inl (tk_ne kM_at0 kM_at11 (by decide))) c243
        have c340 := k335.gi (Or.inl (tk_ne kM_at14 kM_at11 (by decide))) c245
        refine lv_aload_n hx hb dX12_words_135 rfl (lv_at hl 2 rfl) ?_
        refine tk_getA hC hK hw hT hinX12 kM_at0 (by decide) rfl 25 (by decide) (List.mem_cons_of_mem _ uw_7_0) rfl rfl dX12_words_136 ?_
        refine lv_bipush (v := 7) hx hb dX12_words_139 (by decide) ?_
        refine lv_aload_n hx hb dX12_words_141 rfl (lv_at hl 2 rfl) ?_
        refine tk_geti hC hK hw hT hinX12 kM_at0 (by decide) rfl 30 (by decide) (List.mem_cons_of_mem _ uw_47_4) rfl rfl dX12_words_142 (fun x341 c342 rx341 tx341 => ?_)
        refine wk_top x30 (c342.symm.trans c337) ?_
        refine lv_if_eq (tgt := 152) hx hb dX12_words_145 (by decide) (fun _ => ?_) (fun c => (c (wk_eq.mpr (show x30.toInt = (0 : Int) by omega))).elim)
        refine lv_aload_n hx hb dX12_words_152 rfl (lv_at hl 2 rfl) ?_
        refine lv_iload_n hx hb dX12_words_153 rfl (lv_at hl 3 rfl) ?_
        refine lv_iconst (v := 5) hx hb dX12_words_154 (by decide) ?_
        refine tk_Vi hC hK hw hT hA hE hSR kM_at0 (by decide) rfl (k_X12_walkerOf_16 l adK adV dC dI cy ad B (by omega) (by omega) qr s1    w333 H.size hT ) (cwV 2 hC.2.2.2.2 uV_RX12_372 rfl rfl rfl (by decide +kernel) ⟨Nat.le_of_ble_eq_true rfl, Nat.le_of_ble_eq_true rfl⟩) rfl hl.1 rfl (Nat.le_of_ble_eq_true rfl) dX12_words_155 (fun r343 w345 H locs hp344 hw => ?_)
        obtain ⟨rfl, hg348⟩ := hp344
        have c347 := hg348
        refine lv_i2l hx hb dX12_words_158 rfl ?_
        refine lv_topl (fun x349 ex349 => ?_)
        have ex349 : x349.toInt = r343.toInt := by rw [ex349]; exact wk_i2l _
        have bx349 := wk_i32 r343
        refine tk_last hC hK hw hT kM_at11 (by decide) rfl (by decide) (by decide) dX12_words_159 (fun H locs w350 hw hT k352 => ?_)
        have hF := hF.put kM_at11 (inE_of (a := 0) (b := 10) (by decide) (by decide) (by decide)) k352
        have c353 := k352.gi (Or.inl (tk_ne kM_at12 kM_at11 (by decide))) c336
        have c354 := k352.gi (Or.inl (tk_ne kM_at0 kM_at11 (by decide))) c337
        have c355 := k352.gi (Or.inl (tk_ne kM_at12 kM_at11 (by decide))) c338
        have c356 := k352.gi (Or.inl (tk_ne kM_at0 kM_at11 (by decide))) c339
        have c357 := k352.gi (Or.inl (tk_ne kM_at14 kM_at11 (by decide))) c340
        have c358 := k352.gi (Or.inl (tk_ne kM_at12 kM_at11 (by decide))) c347
        refine lv_aload_n hx hb dX12_words_160 rfl (lv_at hl 2 rfl) ?_
        refine tk_getA hC hK hw hT hinX12 kM_at0 (by decide) rfl 25 (by decide) (List.mem_cons_of_mem _ uw_7_0) rfl rfl dX12_words_161 ?_
        refine lv_bipush (v := 8) hx hb dX12_words_164 (by decide) ?_
        refine lv_aload_n hx hb dX12_words_166 rfl (lv_at hl 2 rfl) ?_
        refine lv_iload_n hx hb dX12_words_167 rfl (lv_at hl 3 rfl) ?_
        refine lv_bipush (v := 6) hx hb dX12_words_168 (by decide) ?_
        refine tk_Vi hC hK hw hT hA hE hSR kM_at0 (by decide) rfl (k_X12_walkerOf_17 l adK adV dC dI cy ad B (by omega) (by omega) qr s1    w350 H.size hT ) (cwV 2 hC.2.2.2.2 uV_RX12_372 rfl rfl rfl (by decide +kernel) ⟨Nat.le_of_ble_eq_true rfl, Nat.le_of_ble_eq_true rfl⟩) rfl hl.1 rfl (Nat.le_of_ble_eq_true rfl) dX12_words_170 (fun r359 w361 H locs hp360 hw => ?_)
        obtain ⟨rfl, hg364⟩ := hp360
        have c363 := hg364
        refine lv_i2l hx hb dX12_words_173 rfl ?_
        refine lv_topl (fun x365 ex365 => ?_)
        have ex365 : x365.toInt = r359.toInt := by rw [ex365]; exact wk_i2l _
        have bx365 := wk_i32 r359
        refine tk_last hC hK hw hT kM_at11 (by decide) rfl (by decide) (by decide) dX12_words_174 (fun H locs w366 hw hT k368 => ?_)
        have hF := hF.put kM_at11 (inE_of (a := 0) (b := 10) (by decide) (by decide) (by decide)) k368
        have c369 := k368.gi (Or.inl (tk_ne kM_at12 kM_at11 (by decide))) c353
        have c370 := k368.gi (Or.inl (tk_ne kM_at0 kM_at11 (by decide))) c354
        have c371 := k368.gi (Or.inl (tk_ne kM_at12 kM_at11 (by decide))) c355
        have c372 := k368.gi (Or.inl (tk_ne kM_at0 kM_at11 (by decide))) c356
        have c373 := k368.gi (Or.inl (tk_ne kM_at14 kM_at11 (by decide))) c357
        have c374 := k368.gi (Or.inl (tk_ne kM_at12 kM_at11 (by decide))) c358
        have c375 := k368.gi (Or.inl (tk_ne kM_at12 kM_at11 (by decide))) c363
        refine lv_aload_n hx hb dX12_words_175 rfl (lv_at hl 2 rfl) ?_
        refine tk_getA hC hK hw hT hinX12 kM_at0 (by decide) rfl 25 (by decide) (List.mem_cons_of_mem _ uw_7_0) rfl rfl dX12_words_176 ?_
        refine lv_bipush (v := 9) hx hb dX12_words_179 (by decide) ?_
        refine lv_aload_n hx hb dX12_words_181 rfl (lv_at hl 2 rfl) ?_
        refine lv_iload_n hx hb dX12_words_182 rfl (lv_at hl 3 rfl) ?_
        refine lv_bipush (v := 7) hx hb dX12_words_183 (by decide) ?_
        refine tk_Vi hC hK hw hT hA hE hSR kM_at0 (by decide) rfl (k_X12_walkerOf_18 l adK adV dC dI cy ad B (by omega) (by omega) qr s1    w366 H.size hT ) (cwV 2 hC.2.2.2.2 uV_RX12_372 rfl rfl rfl (by decide +kernel) ⟨Nat.le_of_ble_eq_true rfl, Nat.le_of_ble_eq_true rfl⟩) rfl hl.1 rfl (Nat.le_of_ble_eq_true rfl) dX12_words_185 (fun r376 w378 H locs hp377 hw => ?_)
        obtain ⟨rfl, hg383⟩ := hp377
        obtain ⟨g380, g381, c382⟩ := hg383
        refine lv_if_ge (tgt := 197) hx hb dX12_words_188 (by decide) (fun c384 => ?_) (fun c384 => ?_)
        · have c384 : (0 : Int) ≤ r376.toInt := wk_le.mp c384
          refine lv_aload_n hx hb dX12_words_197 rfl (lv_at hl 2 rfl) ?_
          refine lv_iload_n hx hb dX12_words_198 rfl (lv_at hl 3 rfl) ?_
          refine lv_bipush (v := 7) hx hb dX12_words_199 (by decide) ?_
          refine tk_Vi hC hK hw hT hA hE hSR kM_at0 (by decide) rfl (k_X12_walkerOf_18 l adK adV dC dI cy ad B (by omega) (by omega) qr s1    w366 H.size hT ) (cwV 2 hC.2.2.2.2 uV_RX12_372 rfl rfl rfl (by decide +kernel) ⟨Nat.le_of_ble_eq_true rfl, Nat.le_of_ble_eq_true rfl⟩) rfl hl.1 rfl (Nat.le_of_ble_eq_true rfl) dX12_words_201 (fun r385 w387 H locs hp386 hw => ?_)
          obtain ⟨rfl, hg392⟩ := hp386
          obtain ⟨g389, g390, c391⟩ := hg392
          obtain rfl : r376 = r385 := c382.symm.trans c391
          refine lv_i2l hx hb dX12_words_204 rfl ?_
          refine lv_topl (fun x393 ex393 => ?_)
          have ex393 : x393.toInt = r376.toInt := by rw [ex393]; exact wk_i2l _
          have bx393 := wk_i32 r376
          refine tk_last hC hK hw hT kM_at11 (by decide) rfl (by decide) (by decide) dX12_words_205 (fun H locs w394 hw hT k396 => ?_)
          have hF := hF.put kM_at11 (inE_of (a := 0) (b := 10) (by decide) (by decide) (by decide)) k396
          have c397 := k396.gi (Or.inl (tk_ne kM_at12 kM_at11 (by decide))) c369
          have c398 := k396.gi (Or.inl (tk_ne kM_at0 kM_at11 (by decide))) c370
          have c399 := k396.gi (Or.inl (tk_ne kM_at12 kM_at11 (by decide))) c371
          have c400 := k396.gi (Or.inl (tk_ne kM_at0 kM_at11 (by decide))) c372
          have c401 := k396.gi (Or.inl (tk_ne kM_at14 kM_at11 (by decide))) c373
          have c402 := k396.gi (Or.inl (tk_ne kM_at12 kM_at11 (by decide))) c374
          have c403 := k396.gi (Or.inl (tk_ne kM_at12 kM_at11 (by decide))) c375
          have c404 := k396.gi (Or.inl (tk_ne kM_at12 kM_at11 (by decide))) c382
          exact tk_vret hC hr hlocks hK ⟨hT, hF, ⟨⟨x30, c398, (show 0 ≤ x30.toInt from rx30), (show x30.toInt ≤ 1 from tx30)⟩, ⟨r376, c404, (show (-1) ≤ r376.toInt from Int.le_trans (by decide) c384), (show r376.toInt ≤ 9 by omega)⟩⟩⟩ hw dX12_words_206
        · have c384 : r376.toInt < (0 : Int) := wk_leF c384
          refine lv_ldc2 (v := 99) hx hb hC.2.2.2.1 (hC.2.2.2.2 _ (List.mem_cons_of_mem _ uw_48_1)) dX12_words_191 ?_
          refine lv_goto (tgt := 205) hx hb dX12_words_194 (by decide) ?_
          refine tk_last hC hK hw hT kM_at11 (by decide) rfl (by decide) (by decide) dX12_words_205 (fun H locs w405 hw hT k407 => ?_)
          have hF := hF.put kM_at11 (inE_of (a := 0) (b := 10) (by decide) (by decide) (by decide)) k407
          have c408 := k407.gi (Or.inl (tk_ne kM_at12 kM_at11 (by decide))) c369
          have c409 := k407.gi (Or.inl (tk_ne kM_at0 kM_at11 (by decide))) c370
          have c410 := k407.gi (Or.inl (tk_ne kM_at12 kM_at11 (by decide))) c371
          have c411 := k407.gi (Or.inl (tk_ne kM_at0 kM_at11 (by decide))) c372
          have c412 := k407.gi (Or.inl (tk_ne kM_at14 kM_at11 (by decide))) c373
          have c413 := k407.gi (Or.inl (tk_ne kM_at12 kM_at11 (by decide))) c374
          have c414 := k407.gi (Or.inl (tk_ne kM_at12 kM_at11 (by decide))) c375
          have c415 := k407.gi (Or.inl (tk_ne kM_at12 kM_at11 (by decide))) c382
          exact tk_vret hC hr hlocks hK ⟨hT, hF, ⟨⟨x30, c409, (show 0 ≤ x30.toInt from rx30), (show x30.toInt ≤ 1 from tx30)⟩, ⟨r376, c415, (show (-1) ≤ r376.toInt by omega), (show r376.toInt ≤ 9 by omega)⟩⟩⟩ hw dX12_words_206
  · have c32 : ¬ x30.toInt = (0 : Int) := wk_eqF c32
    refine lv_lconst (v := 0) hx hb dX12_words_51 (by decide) ?_
    refine lv_goto (tgt := 64) hx hb dX12_words_52 (by decide) ?_
    refine tk_last hC hK hw hT kM_at11 (by decide) rfl (by decide) (by decide) dX12_words_64 (fun H locs w416 hw hT k418 => ?_)
    have hF := hF.put kM_at11 (inE_of (a := 0) (b := 10) (by decide) (by decide) (by decide)) k418
    have c419 := k418.gi (Or.inl (tk_ne kM_at12 kM_at11 (by decide))) c29
    have c420 := k418.gi (Or.inl (tk_ne kM_at0 kM_at11 (by decide))) c31
    refine lv_aload_n hx hb dX12_words_65 rfl (lv_at hl 2 rfl) ?_
    refine tk_getA hC hK hw hT hinX12 kM_at0 (by decide) rfl 25 (by decide) (List.mem_cons_of_mem _ uw_7_0) rfl rfl dX12_words_66 ?_
    refine lv_iconst (v := 3) hx hb dX12_words_69 (by decide) ?_
    refine lv_iload_n hx hb dX12_words_70 rfl (lv_at hl 0 rfl) ?_
    refine lv_i2l hx hb dX12_words_71 rfl ?_
    refine lv_topl (fun x421 ex421 => ?_)
    have ex421 : x421.toInt = r9.toInt := by rw [ex421]; exact wk_i2l _
    have bx421 := wk_i32 r9
    refine tk_last hC hK hw hT kM_at11 (by decide) rfl (by decide) (by decide) dX12_words_72 (fun H locs w422 hw hT k424 => ?_)
    have hF := hF.put kM_at11 (inE_of (a := 0) (b := 10) (by decide) (by decide) (by decide)) k424
    have c425 := k424.gi (Or.inl (tk_ne kM_at12 kM_at11 (by decide))) c419
    have c426 := k424.gi (Or.inl (tk_ne kM_at0 kM_at11 (by decide))) c420
    refine lv_aload_n hx hb dX12_words_73 rfl (lv_at hl 2 rfl) ?_
    refine tk_getA hC hK hw hT hinX12 kM_at0 (by decide) rfl 25 (by decide) (List.mem_cons_of_mem _ uw_7_0) rfl rfl dX12_words_74 ?_
    refine lv_iconst (v := 4) hx hb dX12_words_77 (by decide) ?_
    refine lv_aload_n hx hb dX12_words_78 rfl (lv_at hl 2 rfl) ?_
    refine lv_iload_n hx hb dX12_words_79 rfl (lv_at hl 3 rfl) ?_
    refine lv_iconst (v := 1) hx hb dX12_words_80 (by decide) ?_
    refine tk_Vi hC hK hw hT hA hE hSR kM_at0 (by decide) rfl (k_X12_walkerOf_12 l adK adV dC dI cy ad B (by omega) (by omega) qr s1    w422 H.size hT ) (cwV 2 hC.2.2.2.2 uV_RX12_372 rfl rfl rfl (by decide +kernel) ⟨Nat.le_of_ble_eq_true rfl, Nat.le_of_ble_eq_true rfl⟩) rfl hl.1 rfl (Nat.le_of_ble_eq_true rfl) dX12_words_81 (fun r427 w429 H locs hp428 hw => ?_)
    obtain ⟨rfl, hg434⟩ := hp428
    obtain ⟨g431, g432, c433⟩ := hg434
    refine lv_i2l hx hb dX12_words_84 rfl ?_
    refine lv_topl (fun x435 ex435 => ?_)
    have ex435 : x435.toInt = r427.toInt := by rw [ex435]; exact wk_i2l _
    have bx435 := wk_i32 r427
    refine tk_last hC hK hw hT kM_at11 (by decide) rfl (by decide) (by decide) dX12_words_85 (fun H locs w436 hw hT k438 => ?_)
    have hF := hF.put kM_at11 (inE_of (a := 0) (b := 10) (by decide) (by decide) (by decide)) k438
    have c439 := k438.gi (Or.inl (tk_ne kM_at12 kM_at11 (by decide))) c425
    have c440 := k438.gi (Or.inl (tk_ne kM_at0 kM_at11 (by decide))) c426
    have c441 := k438.gi (Or.inl (tk_ne kM_at12 kM_at11 (by decide))) c433
    refine lv_aload_n hx hb dX12_words_86 rfl (lv_at hl 2 rfl) ?_
    refine tk_getA hC hK hw hT hinX12 kM_at0 (by decide) rfl 25 (by decide) (List.mem_cons_of_mem _ uw_7_0) rfl rfl dX12_words_87 ?_
    refine lv_iconst (v := 5) hx hb dX12_words_90 (by decide) ?_
    refine lv_aload_n hx hb dX12_words_91 rfl (lv_at hl 2 rfl) ?_
    refine lv_iload_n hx hb dX12_words_92 rfl (lv_at hl 3 rfl) ?_
    refine tk_Vi hC hK hw hT hA hE hSR kM_at0 (by decide) rfl (k_X12_canGo_2 l adK adV dC dI cy ad B (by omega) (by omega) qr s1    w436 H.size hT ) (cwV 1 hC.2.2.2.2 uV_RX12_387 rfl rfl rfl (by decide +kernel) ⟨Nat.le_of_ble_eq_true rfl, Nat.le_of_ble_eq_true rfl⟩) rfl hl.1 rfl (Nat.le_of_ble_eq_true rfl) dX12_words_93 (fun r442 w444 H locs hp443 hw => ?_)
    obtain ⟨rfl, hg448⟩ := hp443
    rcases hg448 with rfl | ⟨rfl, ⟨x446, c447, rx446, tx446⟩⟩
    · refine lv_if_eq (tgt := 103) hx hb dX12_words_96 (by decide) (fun _ => ?_) (fun c => absurd (by decide) c)
      refine lv_lconst (v := 1) hx hb dX12_words_103 (by decide) ?_
      refine tk_last hC hK hw hT kM_at11 (by decide) rfl (by decide) (by decide) dX12_words_104 (fun H locs w449 hw hT k451 => ?_)
      have hF := hF.put kM_at11 (inE_of (a := 0) (b := 10) (by decide) (by decide) (by decide)) k451
      have c452 := k451.gi (Or.inl (tk_ne kM_at12 kM_at11 (by decide))) c439
      have c453 := k451.gi (Or.inl (tk_ne kM_at0 kM_at11 (by decide))) c440
      have c454 := k451.gi (Or.inl (tk_ne kM_at12 kM_at11 (by decide))) c441
      refine lv_aload_n hx hb dX12_words_105 rfl (lv_at hl 2 rfl) ?_
      refine tk_getA hC hK hw hT hinX12 kM_at0 (by decide) rfl 25 (by decide) (List.mem_cons_of_mem _ uw_7_0) rfl rfl dX12_words_106 ?_
      refine lv_bipush (v := 6) hx hb dX12_words_109 (by decide) ?_
      refine lv_aload_n hx hb dX12_words_111 rfl (lv_at hl 2 rfl) ?_
      refine tk_getA hC hK hw hT hinX12 kM_at0 (by decide) rfl 29 (by decide) (List.mem_cons_of_mem _ uw_7_4) rfl rfl dX12_words_112 ?_
      refine lv_iload_n hx hb dX12_words_115 rfl (lv_at hl 0 rfl) ?_
      refine tk_iald hC hK hw hT kM_at14 rfl rfl (show 0 ≤ r9.toInt by omega) (show r9.toInt < 10 by omega) dX12_words_116 (fun x455 c456 rx455 tx455 => ?_)
      have c456 : gi w449 14 (r9.toInt).toNat = x455 := (congrArg (gi w449 14) (congrArg Int.toNat (show r9.toInt = r9.toInt by omega))).trans c456
      refine lv_ldcw (v := 100000000) hx hb hC.2.2.2.1 (hC.2.2.2.2 _ (List.mem_cons_of_mem _ uw_38_2)) dX12_words_117 ?_
      refine lv_icmp_ne (tgt := 127) hx hb dX12_words_120 (by decide) (fun c457 => ?_) (fun c457 => ?_)
      · have c457 : ¬ x455.toInt = (100000000 : Int) := wk_eqF c457
        refine lv_aload_n hx hb dX12_words_127 rfl (lv_at hl 2 rfl) ?_
        refine tk_getA hC hK hw hT hinX12 kM_at0 (by decide) rfl 29 (by decide) (List.mem_cons_of_mem _ uw_7_4) rfl rfl dX12_words_128 ?_
        refine lv_iload_n hx hb dX12_words_131 rfl (lv_at hl 0 rfl) ?_
        refine tk_iald hC hK hw hT kM_at14 rfl rfl (show 0 ≤ r9.toInt by omega) (show r9.toInt < 10 by omega) dX12_words_132 (fun x458 c459 rx458 tx458 => ?_)
        have c459 : gi w449 14 (r9.toInt).toNat = x458 := (congrArg (gi w449 14) (congrArg Int.toNat (show r9.toInt = r9.toInt by omega))).trans c459
        refine wk_top x455 (c459.symm.trans c456) ?_
        refine lv_i2l hx hb dX12_words_133 rfl ?_
        refine lv_topl (fun x460 ex460 => ?_)
        have ex460 : x460.toInt = x455.toInt := by rw [ex460]; exact wk_i2l _
        have bx460 := wk_i32 x455
        refine tk_last hC hK hw hT kM_at11 (by decide) rfl (by decide) (by decide) dX12_words_134 (fun H locs w461 hw hT k463 => ?_)
        have hF := hF.put kM_at11 (inE_of (a := 0) (b := 10) (by decide) (by decide) (by decide)) k463
        have c464 := k463.gi (Or.inl (tk_ne kM_at12 kM_at11 (by decide))) c452
        have c465 := k463.gi (Or.inl (tk_ne kM_at0 kM_at11 (by decide))) c453
        have c466 := k463.gi (Or.inl (tk_ne kM_at12 kM_at11 (by decide))) c454
        have c467 := k463.gi (Or.inl (tk_ne kM_at14 kM_at11 (by decide))) c456
        refine lv_aload_n hx hb dX12_words_135 rfl (lv_at hl 2 rfl) ?_
        refine tk_getA hC hK hw hT hinX12 kM_at0 (by decide) rfl 25 (by decide) (List.mem_cons_of_mem _ uw_7_0) rfl rfl dX12_words_136 ?_
        refine lv_bipush (v := 7) hx hb dX12_words_139 (by decide) ?_
        refine lv_aload_n hx hb dX12_words_141 rfl (lv_at hl 2 rfl) ?_
        refine tk_geti hC hK hw hT hinX12 kM_at0 (by decide) rfl 30 (by decide) (List.mem_cons_of_mem _ uw_47_4) rfl rfl dX12_words_142 (fun x468 c469 rx468 tx468 => ?_)
        refine wk_top x30 (c469.symm.trans c465) ?_
        refine lv_if_eq (tgt := 152) hx hb dX12_words_145 (by decide) (fun c => absurd c (fun h => absurd (show x30.toInt = (0 : Int) from wk_eq.mp h) (by omega))) (fun _ => ?_)
        refine lv_lconst (v := 0) hx hb dX12_words_148 (by decide) ?_
        refine lv_goto (tgt := 159) hx hb dX12_words_149 (by decide) ?_
        refine tk_last hC hK hw hT kM_at11 (by decide) rfl (by decide) (by decide) dX12_words_159 (fun H locs w470 hw hT k472 => ?_)
        have hF := hF.put kM_at11 (inE_of (a := 0) (b := 10) (by decide) (by decide) (by decide)) k472
        have c473 := k472.gi (Or.inl (tk_ne kM_at12 kM_at11 (by decide))) c464
        have c474 := k472.gi (Or.inl (tk_ne kM_at0 kM_at11 (by decide))) c465
        have c475 := k472.gi (Or.inl (tk_ne kM_at12 kM_at11 (by decide))) c466
        have c476 := k472.gi (Or.inl (tk_ne kM_at14 kM_at11 (by decide))) c467
        refine lv_aload_n hx hb dX12_words_160 rfl (lv_at hl 2 rfl) ?_
        refine tk_getA hC hK hw hT hinX12 kM_at0 (by decide) rfl 25 (by decide) (List.mem_cons_of_mem _ uw_7_0) rfl rfl dX12_words_161 ?_
        refine lv_bipush (v := 8) hx hb dX12_words_164 (by decide) ?_
        refine lv_aload_n hx hb dX12_words_166 rfl (lv_at hl 2 rfl) ?_
        refine lv_iload_n hx hb dX12_words_167 rfl (lv_at hl 3 rfl) ?_
        refine lv_bipush (v := 6) hx hb dX12_words_168 (by decide) ?_
        refine tk_Vi hC hK hw hT hA hE hSR kM_at0 (by decide) rfl (k_X12_walkerOf_17 l adK adV dC dI cy ad B (by omega) (by omega) qr s1    w470 H.size hT ) (cwV 2 hC.2.2.2.2 uV_RX12_372 rfl rfl rfl (by decide +kernel) ⟨Nat.le_of_ble_eq_true rfl, Nat.le_of_ble_eq_true rfl⟩) rfl hl.1 rfl (Nat.le_of_ble_eq_true rfl) dX12_words_170 (fun r477 w479 H locs hp478 hw => ?_)
        obtain ⟨rfl, hg482⟩ := hp478
        have c481 := hg482
        refine lv_i2l hx hb dX12_words_173 rfl ?_
        refine lv_topl (fun x483 ex483 => ?_)
        have ex483 : x483.toInt = r477.toInt := by rw [ex483]; exact wk_i2l _
        have bx483 := wk_i32 r477
        refine tk_last hC hK hw hT kM_at11 (by decide) rfl (by decide) (by decide) dX12_words_174 (fun H locs w484 hw hT k486 => ?_)
        have hF := hF.put kM_at11 (inE_of (a := 0) (b := 10) (by decide) (by decide) (by decide)) k486
        have c487 := k486.gi (Or.inl (tk_ne kM_at12 kM_at11 (by decide))) c473
        have c488 := k486.gi (Or.inl (tk_ne kM_at0 kM_at11 (by decide))) c474
        have c489 := k486.gi (Or.inl (tk_ne kM_at12 kM_at11 (by decide))) c475
        have c490 := k486.gi (Or.inl (tk_ne kM_at14 kM_at11 (by decide))) c476
        have c491 := k486.gi (Or.inl (tk_ne kM_at12 kM_at11 (by decide))) c481
        refine lv_aload_n hx hb dX12_words_175 rfl (lv_at hl 2 rfl) ?_
        refine tk_getA hC hK hw hT hinX12 kM_at0 (by decide) rfl 25 (by decide) (List.mem_cons_of_mem _ uw_7_0) rfl rfl dX12_words_176 ?_
        refine lv_bipush (v := 9) hx hb dX12_words_179 (by decide) ?_
        refine lv_aload_n hx hb dX12_words_181 rfl (lv_at hl 2 rfl) ?_
        refine lv_iload_n hx hb dX12_words_182 rfl (lv_at hl 3 rfl) ?_
        refine lv_bipush (v := 7) hx hb dX12_words_183 (by decide) ?_
        refine tk_Vi hC hK hw hT hA hE hSR kM_at0 (by decide) rfl (k_X12_walkerOf_18 l adK adV dC dI cy ad B (by omega) (by omega) qr s1    w484 H.size hT ) (cwV 2 hC.2.2.2.2 uV_RX12_372 rfl rfl rfl (by decide +kernel) ⟨Nat.le_of_ble_eq_true rfl, Nat.le_of_ble_eq_true rfl⟩) rfl hl.1 rfl (Nat.le_of_ble_eq_true rfl) dX12_words_185 (fun r492 w494 H locs hp493 hw => ?_)
        obtain ⟨rfl, hg499⟩ := hp493
        obtain ⟨g496, g497, c498⟩ := hg499
        refine lv_if_ge (tgt := 197) hx hb dX12_words_188 (by decide) (fun c500 => ?_) (fun c500 => ?_)
        · have c500 : (0 : Int) ≤ r492.toInt := wk_le.mp c500
          refine lv_aload_n hx hb dX12_words_197 rfl (lv_at hl 2 rfl) ?_
          refine lv_iload_n hx hb dX12_words_198 rfl (lv_at hl 3 rfl) ?_
          refine lv_bipush (v := 7) hx hb dX12_words_199 (by decide) ?_
          refine tk_Vi hC hK hw hT hA hE hSR kM_at0 (by decide) rfl (k_X12_walkerOf_18 l adK adV dC dI cy ad B (by omega) (by omega) qr s1    w484 H.size hT ) (cwV 2 hC.2.2.2.2 uV_RX12_372 rfl rfl rfl (by decide +kernel) ⟨Nat.le_of_ble_eq_true rfl, Nat.le_of_ble_eq_true rfl⟩) rfl hl.1 rfl (Nat.le_of_ble_eq_true rfl) dX12_words_201 (fun r501 w503 H locs hp502 hw => ?_)
          obtain ⟨rfl, hg508⟩ := hp502
          obtain ⟨g505, g506, c507⟩ := hg508
          obtain rfl : r492 = r501 := c498.symm.trans c507
          refine lv_i2l hx hb dX12_words_204 rfl ?_
          refine lv_topl (fun x509 ex509 => ?_)
          have ex509 : x509.toInt = r492.toInt := by rw [ex509]; exact wk_i2l _
          have bx509 := wk_i32 r492
          refine tk_last hC hK hw hT kM_at11 (by decide) rfl (by decide) (by decide) dX12_words_205 (fun H locs w510 hw hT k512 => ?_)
          have hF := hF.put kM_at11 (inE_of (a := 0) (b := 10) (by decide) (by decide) (by decide)) k512
          have c513 := k512.gi (Or.inl (tk_ne kM_at12 kM_at11 (by decide))) c487
          have c514 := k512.gi (Or.inl (tk_ne kM_at0 kM_at11 (by decide))) c488
          have c515 := k512.gi (Or.inl (tk_ne kM_at12 kM_at11 (by decide))) c489
          have c516 := k512.gi (Or.inl (tk_ne kM_at14 kM_at11 (by decide))) c490
          have c517 := k512.gi (Or.inl (tk_ne kM_at12 kM_at11 (by decide))) c491
          have c518 := k512.gi (Or.inl (tk_ne kM_at12 kM_at11 (by decide))) c498
          exact tk_vret hC hr hlocks hK ⟨hT, hF, ⟨⟨x30, c514, (show 0 ≤ x30.toInt from rx30), (show x30.toInt ≤ 1 from tx30)⟩, ⟨r492, c518, (show (-1) ≤ r492.toInt from Int.le_trans (by decide) c500), (show r492.toInt ≤ 9 by omega)⟩⟩⟩ hw dX12_words_206
        · have c500 : r492.toInt < (0 : Int) := wk_leF c500
          refine lv_ldc2 (v := 99) hx hb hC.2.2.2.1 (hC.2.2.2.2 _ (List.mem_cons_of_mem _ uw_48_1)) dX12_words_191 ?_
          refine lv_goto (tgt := 205) hx hb dX12_words_194 (by decide) ?_
          refine tk_last hC hK hw hT kM_at11 (by decide) rfl (by decide) (by decide) dX12_words_205 (fun H locs w519 hw hT k521 => ?_)
          have hF := hF.put kM_at11 (inE_of (a := 0) (b := 10) (by decide) (by decide) (by decide)) k521
          have c522 := k521.gi (Or.inl (tk_ne kM_at12 kM_at11 (by decide))) c487
          have c523 := k521.gi (Or.inl (tk_ne kM_at0 kM_at11 (by decide))) c488
          have c524 := k521.gi (Or.inl (tk_ne kM_at12 kM_at11 (by decide))) c489
          have c525 := k521.gi (Or.inl (tk_ne kM_at14 kM_at11 (by decide))) c490
          have c526 := k521.gi (Or.inl (tk_ne kM_at12 kM_at11 (by decide))) c491
          have c527 := k521.gi (Or.inl (tk_ne kM_at12 kM_at11 (by decide))) c498
          exact tk_vret hC hr hlocks hK ⟨hT, hF, ⟨⟨x30, c523, (show 0 ≤ x30.toInt from rx30), (show x30.toInt ≤ 1 from tx30)⟩, ⟨r492, c527, (show (-1) ≤ r492.toInt by omega), (show r492.toInt ≤ 9 by omega)⟩⟩⟩ hw dX12_words_206
      · have c457 : x455.toInt = (100000000 : Int) := wk_eq.mp c457
        refine lv_lconst (v := 0) hx hb dX12_words_123 (by decide) ?_
        refine lv_goto (tgt := 134) hx hb dX12_words_124 (by decide) ?_
        refine tk_last hC hK hw hT kM_at11 (by decide) rfl (by decide) (by decide) dX12_words_134 (fun H locs w528 hw hT k530 => ?_)
        have hF := hF.put kM_at11 (inE_of (a := 0) (b := 10) (by decide) (by decide) (by decide)) k530
        have c531 := k530.gi (Or.inl (tk_ne kM_at12 kM_at11 (by decide))) c452
        have c532 := k530.gi (Or.inl (tk_ne kM_at0 kM_at11 (by decide))) c453
        have c533 := k530.gi (Or.inl (tk_ne kM_at12 kM_at11 (by decide))) c454
        have c534 := k530.gi (Or.inl (tk_ne kM_at14 kM_at11 (by decide))) c456
        refine lv_aload_n hx hb dX12_words_135 rfl (lv_at hl 2 rfl) ?_
        refine tk_getA hC hK hw hT hinX12 kM_at0 (by decide) rfl 25 (by decide) (List.mem_cons_of_mem _ uw_7_0) rfl rfl dX12_words_136 ?_
        refine lv_bipush (v := 7) hx hb dX12_words_139 (by decide) ?_
        refine lv_aload_n hx hb dX12_words_141 rfl (lv_at hl 2 rfl) ?_
        refine tk_geti hC hK hw hT hinX12 kM_at0 (by decide) rfl 30 (by decide) (List.mem_cons_of_mem _ uw_47_4) rfl rfl dX12_words_142 (fun x535 c536 rx535 tx535 => ?_)
        refine wk_top x30 (c536.symm.trans c532) ?_
        refine lv_if_eq (tgt := 152) hx hb dX12_words_145 (by decide) (fun c => absurd c (fun h => absurd (show x30.toInt = (0 : Int) from wk_eq.mp h) (by omega))) (fun _ => ?_)
        refine lv_lconst (v := 0) hx hb dX12_words_148 (by decide) ?_
        refine lv_goto (tgt := 159) hx hb dX12_words_149 (by decide) ?_
        refine tk_last hC hK hw hT kM_at11 (by decide) rfl (by decide) (by decide) dX12_words_159 (fun H locs w537 hw hT k539 => ?_)
        have hF := hF.put kM_at11 (inE_of (a := 0) (b := 10) (by decide) (by decide) (by decide)) k539
        have c540 := k539.gi (Or.inl (tk_ne kM_at12 kM_at11 (by decide))) c531
        have c541 := k539.gi (Or.inl (tk_ne kM_at0 kM_at11 (by decide))) c532
        have c542 := k539.gi (Or.inl (tk_ne kM_at12 kM_at11 (by decide))) c533
        have c543 := k539.gi (Or.inl (tk_ne kM_at14 kM_at11 (by decide))) c534
        refine lv_aload_n hx hb dX12_words_160 rfl (lv_at hl 2 rfl) ?_
        refine tk_getA hC hK hw hT hinX12 kM_at0 (by decide) rfl 25 (by decide) (List.mem_cons_of_mem _ uw_7_0) rfl rfl dX12_words_161 ?_
        refine lv_bipush (v := 8) hx hb dX12_words_164 (by decide) ?_
        refine lv_aload_n hx hb dX12_words_166 rfl (lv_at hl 2 rfl) ?_
        refine lv_iload_n hx hb dX12_words_167 rfl (lv_at hl 3 rfl) ?_
        refine lv_bipush (v := 6) hx hb dX12_words_168 (by decide) ?_
        refine tk_Vi hC hK hw hT hA hE hSR kM_at0 (by decide) rfl (k_X12_walkerOf_17 l adK adV dC dI cy ad B (by omega) (by omega) qr s1    w537 H.size hT ) (cwV 2 hC.2.2.2.2 uV_RX12_372 rfl rfl rfl (by decide +kernel) ⟨Nat.le_of_ble_eq_true rfl, Nat.le_of_ble_eq_true rfl⟩) rfl hl.1 rfl (Nat.le_of_ble_eq_true rfl) dX12_words_170 (fun r544 w546 H locs hp545 hw => ?_)
        obtain ⟨rfl, hg549⟩ := hp545
        have c548 := hg549
        refine lv_i2l hx hb dX12_words_173 rfl ?_
        refine lv_topl (fun x550 ex550 => ?_)
        have ex550 : x550.toInt = r544.toInt := by rw [ex550]; exact wk_i2l _
        have bx550 := wk_i32 r544
        refine tk_last hC hK hw hT kM_at11 (by decide) rfl (by decide) (by decide) dX12_words_174 (fun H locs w551 hw hT k553 => ?_)
        have hF := hF.put kM_at11 (inE_of (a := 0) (b := 10) (by decide) (by decide) (by decide)) k553
        have c554 := k553.gi (Or.inl (tk_ne kM_at12 kM_at11 (by decide))) c540
        have c555 := k553.gi (Or.inl (tk_ne kM_at0 kM_at11 (by decide))) c541
        have c556 := k553.gi (Or.inl (tk_ne kM_at12 kM_at11 (by decide))) c542
        have c557 := k553.gi (Or.inl (tk_ne kM_at14 kM_at11 (by decide))) c543
        have c558 := k553.gi (Or.inl (tk_ne kM_at12 kM_at11 (by decide))) c548
        refine lv_aload_n hx hb dX12_words_175 rfl (lv_at hl 2 rfl) ?_
        refine tk_getA hC hK hw hT hinX12 kM_at0 (by decide) rfl 25 (by decide) (List.mem_cons_of_mem _ uw_7_0) rfl rfl dX12_words_176 ?_
        refine lv_bipush (v := 9) hx hb dX12_words_179 (by decide) ?_
        refine lv_aload_n hx hb dX12_words_181 rfl (lv_at hl 2 rfl) ?_
        refine lv_iload_n hx hb dX12_words_182 rfl (lv_at hl 3 rfl) ?_
        refine lv_bipush (v := 7) hx hb dX12_words_183 (by decide) ?_
        refine tk_Vi hC hK hw hT hA hE hSR kM_at0 (by decide) rfl (k_X12_walkerOf_18 l adK adV dC dI cy ad B (by omega) (by omega) qr s1    w551 H.size hT ) (cwV 2 hC.2.2.2.2 uV_RX12_372 rfl rfl rfl (by decide +kernel) ⟨Nat.le_of_ble_eq_true rfl, Nat.le_of_ble_eq_true rfl⟩) rfl hl.1 rfl (Nat.le_of_ble_eq_true rfl) dX12_words_185 (fun r559 w561 H locs hp560 hw => ?_)
        obtain ⟨rfl, hg566⟩ := hp560
        obtain ⟨g563, g564, c565⟩ := hg566
        refine lv_if_ge (tgt := 197) hx hb dX12_words_188 (by decide) (fun c567 => ?_) (fun c567 => ?_)
        · have c567 : (0 : Int) ≤ r559.toInt := wk_le.mp c567
          refine lv_aload_n hx hb dX12_words_197 rfl (lv_at hl 2 rfl) ?_
          refine lv_iload_n hx hb dX12_words_198 rfl (lv_at hl 3 rfl) ?_
          refine lv_bipush (v := 7) hx hb dX12_words_199 (by decide) ?_
          refine tk_Vi hC hK hw hT hA hE hSR kM_at0 (by decide) rfl (k_X12_walkerOf_18 l adK adV dC dI cy ad B (by omega) (by omega) qr s1    w551 H.size hT ) (cwV 2 hC.2.2.2.2 uV_RX12_372 rfl rfl rfl (by decide +kernel) ⟨Nat.le_of_ble_eq_true rfl, Nat.le_of_ble_eq_true rfl⟩) rfl hl.1 rfl (Nat.le_of_ble_eq_true rfl) dX12_words_201 (fun r568 w570 H locs hp569 hw => ?_)
          obtain ⟨rfl, hg575⟩ := hp569
          obtain ⟨g572, g573, c574⟩ := hg575
          obtain rfl : r559 = r568 := c565.symm.trans c574
          refine lv_i2l hx hb dX12_words_204 rfl ?_
          refine lv_topl (fun x576 ex576 => ?_)
          have ex576 : x576.toInt = r559.toInt := by rw [ex576]; exact wk_i2l _
          have bx576 := wk_i32 r559
          refine tk_last hC hK hw hT kM_at11 (by decide) rfl (by decide) (by decide) dX12_words_205 (fun H locs w577 hw hT k579 => ?_)
          have hF := hF.put kM_at11 (inE_of (a := 0) (b := 10) (by decide) (by decide) (by decide)) k579
          have c580 := k579.gi (Or.inl (tk_ne kM_at12 kM_at11 (by decide))) c554
          have c581 := k579.gi (Or.inl (tk_ne kM_at0 kM_at11 (by decide))) c555
          have c582 := k579.gi (Or.inl (tk_ne kM_at12 kM_at11 (by decide))) c556
          have c583 := k579.gi (Or.inl (tk_ne kM_at14 kM_at11 (by decide))) c557
          have c584 := k579.gi (Or.inl (tk_ne kM_at12 kM_at11 (by decide))) c558
          have c585 := k579.gi (Or.inl (tk_ne kM_at12 kM_at11 (by decide))) c565
          exact tk_vret hC hr hlocks hK ⟨hT, hF, ⟨⟨x30, c581, (show 0 ≤ x30.toInt from rx30), (show x30.toInt ≤ 1 from tx30)⟩, ⟨r559, c585, (show (-1) ≤ r559.toInt from Int.le_trans (by decide) c567), (show r559.toInt ≤ 9 by omega)⟩⟩⟩ hw dX12_words_206
        · have c567 : r559.toInt < (0 : Int) := wk_leF c567
          refine lv_ldc2 (v := 99) hx hb hC.2.2.2.1 (hC.2.2.2.2 _ (List.mem_cons_of_mem _ uw_48_1)) dX12_words_191 ?_
          refine lv_goto (tgt := 205) hx hb dX12_words_194 (by decide) ?_
          refine tk_last hC hK hw hT kM_at11 (by decide) rfl (by decide) (by decide) dX12_words_205 (fun H locs w586 hw hT k588 => ?_)
          have hF := hF.put kM_at11 (inE_of (a := 0) (b := 10) (by decide) (by decide) (by decide)) k588
          have c589 := k588.gi (Or.inl (tk_ne kM_at12 kM_at11 (by decide))) c554
          have c590 := k588.gi (Or.inl (tk_ne kM_at0 kM_at11 (by decide))) c555
          have c591 := k588.gi (Or.inl (tk_ne kM_at12 kM_at11 (by decide))) c556
          have c592 := k588.gi (Or.inl (tk_ne kM_at14 kM_at11 (by decide))) c557
          have c593 := k588.gi (Or.inl (tk_ne kM_at12 kM_at11 (by decide))) c558
          have c594 := k588.gi (Or.inl (tk_ne kM_at12 kM_at11 (by decide))) c565
          exact tk_vret hC hr hlocks hK ⟨hT, hF, ⟨⟨x30, c590, (show 0 ≤ x30.toInt from rx30), (show x30.toInt ≤ 1 from tx30)⟩, ⟨r559, c594, (show (-1) ≤ r559.toInt by omega), (show r559.toInt ≤ 9 by omega)⟩⟩⟩ hw dX12_words_206
    · refine lv_if_eq (tgt := 103) hx hb dX12_words_96 (by decide) (fun c => absurd c (by decide)) (fun _ => ?_)
      refine lv_lconst (v := 0) hx hb dX12_words_99 (by decide) ?_
      refine lv_goto (tgt := 104) hx hb dX12_words_100 (by decide) ?_
      refine tk_last hC hK hw hT kM_at11 (by decide) rfl (by decide) (by decide) dX12_words_104 (fun H locs w595 hw hT k597 => ?_)
      have hF := hF.put kM_at11 (inE_of (a := 0) (b := 10) (by decide) (by decide) (by decide)) k597
      have c598 := k597.gi (Or.inl (tk_ne kM_at12 kM_at11 (by decide))) c439
      have c599 := k597.gi (Or.inl (tk_ne kM_at0 kM_at11 (by decide))) c440
      have c600 := k597.gi (Or.inl (tk_ne kM_at12 kM_at11 (by decide))) c441
      have c601 := k597.gi (Or.inl (tk_ne kM_at0 kM_at11 (by decide))) c447
      refine lv_aload_n hx hb dX12_words_105 rfl (lv_at hl 2 rfl) ?_
      refine tk_getA hC hK hw hT hinX12 kM_at0 (by decide) rfl 25 (by decide) (List.mem_cons_of_mem _ uw_7_0) rfl rfl dX12_words_106 ?_
      refine lv_bipush (v := 6) hx hb dX12_words_109 (by decide) ?_
      refine lv_aload_n hx hb dX12_words_111 rfl (lv_at hl 2 rfl) ?_
      refine tk_getA hC hK hw hT hinX12 kM_at0 (by decide) rfl 29 (by decide) (List.mem_cons_of_mem _ uw_7_4) rfl rfl dX12_words_112 ?_
      refine lv_iload_n hx hb dX12_words_115 rfl (lv_at hl 0 rfl) ?_
      refine tk_iald hC hK hw hT kM_at14 rfl rfl (show 0 ≤ r9.toInt by omega) (show r9.toInt < 10 by omega) dX12_words_116 (fun x602 c603 rx602 tx602 => ?_)
      have c603 : gi w595 14 (r9.toInt).toNat = x602 := (congrArg (gi w595 14) (congrArg Int.toNat (show r9.toInt = r9.toInt by omega))).trans c603
      refine lv_ldcw (v := 100000000) hx hb hC.2.2.2.1 (hC.2.2.2.2 _ (List.mem_cons_of_mem _ uw_38_2)) dX12_words_117 ?_
      refine lv_icmp_ne (tgt := 127) hx hb dX12_words_120 (by decide) (fun c604 => ?_) (fun c604 => ?_)
      · have c604 : ¬ x602.toInt = (100000000 : Int) := wk_eqF c604
        refine lv_aload_n hx hb dX12_words_127 rfl (lv_at hl 2 rfl) ?_
        refine tk_getA hC hK hw hT hinX12 kM_at0 (by decide) rfl 29 (by decide) (List.mem_cons_of_mem _ uw_7_4) rfl rfl dX12_words_128 ?_
        refine lv_iload_n hx hb dX12_words_131 rfl (lv_at hl 0 rfl) ?_
        refine tk_iald hC hK hw hT kM_at14 rfl rfl (show 0 ≤ r9.toInt by omega) (show r9.toInt < 10 by omega) dX12_words_132 (fun x605 c606 rx605 tx605 => ?_)
        have c606 : gi w595 14 (r9.toInt).toNat = x605 := (congrArg (gi w595 14) (congrArg Int.toNat (show r9.toInt = r9.toInt by omega))).trans c606
        refine wk_top x602 (c606.symm.trans c603) ?_
        refine lv_i2l hx hb dX12_words_133 rfl ?_
        refine lv_topl (fun x607 ex607 => ?_)
        have ex607 : x607.toInt = x602.toInt := by rw [ex607]; exact wk_i2l _
        have bx607 := wk_i32 x602
        refine tk_last hC hK hw hT kM_at11 (by decide) rfl (by decide) (by decide) dX12_words_134 (fun H locs w608 hw hT k610 => ?_)
        have hF := hF.put kM_at11 (inE_of (a := 0) (b := 10) (by decide) (by decide) (by decide)) k610
        have c611 := k610.gi (Or.inl (tk_ne kM_at12 kM_at11 (by decide))) c598
        have c612 := k610.gi (Or.inl (tk_ne kM_at0 kM_at11 (by decide))) c599
        have c613 := k610.gi (Or.inl (tk_ne kM_at12 kM_at11 (by decide))) c600
        have c614 := k610.gi (Or.inl (tk_ne kM_at0 kM_at11 (by decide))) c601
        have c615 := k610.gi (Or.inl (tk_ne kM_at14 kM_at11 (by decide))) c603
        refine lv_aload_n hx hb dX12_words_135 rfl (lv_at hl 2 rfl) ?_
        refine tk_getA hC hK hw hT hinX12 kM_at0 (by decide) rfl 25 (by decide) (List.mem_cons_of_mem _ uw_7_0) rfl rfl dX12_words_136 ?_
        refine lv_bipush (v := 7) hx hb dX12_words_139 (by decide) ?_
        refine lv_aload_n hx hb dX12_words_141 rfl (lv_at hl 2 rfl) ?_
        refine tk_geti hC hK hw hT hinX12 kM_at0 (by decide) rfl 30 (by decide) (List.mem_cons_of_mem _ uw_47_4) rfl rfl dX12_words_142 (fun x616 c617 rx616 tx616 => ?_)
        refine wk_top x30 (c617.symm.trans c612) ?_
        refine lv_if_eq (tgt := 152) hx hb dX12_words_145 (by decide) (fun c => absurd c (fun h => absurd (show x30.toInt = (0 : Int) from wk_eq.mp h) (by omega))) (fun _ => ?_)
        refine lv_lconst (v := 0) hx hb dX12_words_148 (by decide) ?_
        refine lv_goto (tgt := 159) hx hb dX12_words_149 (by decide) ?_
        refine tk_last hC hK hw hT kM_at11 (by decide) rfl (by decide) (by decide) dX12_words_159 (fun H locs w618 hw hT k620 => ?_)
        have hF := hF.put kM_at11 (inE_of (a := 0) (b := 10) (by decide) (by decide) (by decide)) k620
        have c621 := k620.gi (Or.inl (tk_ne kM_at12 kM_at11 (by decide))) c611
        have c622 := k620.gi (Or.inl (tk_ne kM_at0 kM_at11 (by decide))) c612
        have c623 := k620.gi (Or.inl (tk_ne kM_at12 kM_at11 (by decide))) c613
        have c624 := k620.gi (Or.inl (tk_ne kM_at0 kM_at11 (by decide))) c614
        have c625 := k620.gi (Or.inl (tk_ne kM_at14 kM_at11 (by decide))) c615
        refine lv_aload_n hx hb dX12_words_160 rfl (lv_at hl 2 rfl) ?_
        refine tk_getA hC hK hw hT hinX12 kM_at0 (by decide) rfl 25 (by decide) (List.mem_cons_of_mem _ uw_7_0) rfl rfl dX12_words_161 ?_
        refine lv_bipush (v := 8) hx hb dX12_words_164 (by decide) ?_
        refine lv_aload_n hx hb dX12_words_166 rfl (lv_at hl 2 rfl) ?_
        refine lv_iload_n hx hb dX12_words_167 rfl (lv_at hl 3 rfl) ?_
        refine lv_bipush (v := 6) hx hb dX12_words_168 (by decide) ?_
        refine tk_Vi hC hK hw hT hA hE hSR kM_at0 (by decide) rfl (k_X12_walkerOf_17 l adK adV dC dI cy ad B (by omega) (by omega) qr s1    w618 H.size hT ) (cwV 2 hC.2.2.2.2 uV_RX12_372 rfl rfl rfl (by decide +kernel) ⟨Nat.le_of_ble_eq_true rfl, Nat.le_of_ble_eq_true rfl⟩) rfl hl.1 rfl (Nat.le_of_ble_eq_true rfl) dX12_words_170 (fun r626 w628 H locs hp627 hw => ?_)
        obtain ⟨rfl, hg631⟩ := hp627
        have c630 := hg631
        refine lv_i2l hx hb dX12_words_173 rfl ?_
        refine lv_topl (fun x632 ex632 => ?_)
        have ex632 : x632.toInt = r626.toInt := by rw [ex632]; exact wk_i2l _
        have bx632 := wk_i32 r626
        refine tk_last hC hK hw hT kM_at11 (by decide) rfl (by decide) (by decide) dX12_words_174 (fun H locs w633 hw hT k635 => ?_)
        have hF := hF.put kM_at11 (inE_of (a := 0) (b := 10) (by decide) (by decide) (by decide)) k635
        have c636 := k635.gi (Or.inl (tk_ne kM_at12 kM_at11 (by decide))) c621
        have c637 := k635.gi (Or.inl (tk_ne kM_at0 kM_at11 (by decide))) c622
        have c638 := k635.gi (Or.inl (tk_ne kM_at12 kM_at11 (by decide))) c623
        have c639 := k635.gi (Or.inl (tk_ne kM_at0 kM_at11 (by decide))) c624
        have c640 := k635.gi (Or.inl (tk_ne kM_at14 kM_at11 (by decide))) c625
        have c641 := k635.gi (Or.inl (tk_ne kM_at12 kM_at11 (by decide))) c630
        refine lv_aload_n hx hb dX12_words_175 rfl (lv_at hl 2 rfl) ?_
        refine tk_getA hC hK hw hT hinX12 kM_at0 (by decide) rfl 25 (by decide) (List.mem_cons_of_mem _ uw_7_0) rfl rfl dX12_words_176 ?_
        refine lv_bipush (v := 9) hx hb dX12_words_179 (by decide) ?_
        refine lv_aload_n hx hb dX12_words_181 rfl (lv_at hl 2 rfl) ?_
        refine lv_iload_n hx hb dX12_words_182 rfl (lv_at hl 3 rfl) ?_
        refine lv_bipush (v := 7) hx hb dX12_words_183 (by decide) ?_
        refine tk_Vi hC hK hw hT hA hE hSR kM_at0 (by decide) rfl (k_X12_walkerOf_18 l adK adV dC dI cy ad B (by omega) (by omega) qr s1    w633 H.size hT ) (cwV 2 hC.2.2.2.2 uV_RX12_372 rfl rfl rfl (by decide +kernel) ⟨Nat.le_of_ble_eq_true rfl, Nat.le_of_ble_eq_true rfl⟩) rfl hl.1 rfl (Nat.le_of_ble_eq_true rfl) dX12_words_185 (fun r642 w644 H locs hp643 hw => ?_)
        obtain ⟨rfl, hg649⟩ := hp643
        obtain ⟨g646, g647, c648⟩ := hg649
        refine lv_if_ge (tgt := 197) hx hb dX12_words_188 (by decide) (fun c650 => ?_) (fun c650 => ?_)
        · have c650 : (0 : Int) ≤ r642.toInt := wk_le.mp c650
          refine lv_aload_n hx hb dX12_words_197 rfl (lv_at hl 2 rfl) ?_
          refine lv_iload_n hx hb dX12_words_198 rfl (lv_at hl 3 rfl) ?_
          refine lv_bipush (v := 7) hx hb dX12_words_199 (by decide) ?_
          refine tk_Vi hC hK hw hT hA hE hSR kM_at0 (by decide) rfl (k_X12_walkerOf_18 l adK adV dC dI cy ad B (by omega) (by omega) qr s1    w633 H.size hT ) (cwV 2 hC.2.2.2.2 uV_RX12_372 rfl rfl rfl (by decide +kernel) ⟨Nat.le_of_ble_eq_true rfl, Nat.le_of_ble_eq_true rfl⟩) rfl hl.1 rfl (Nat.le_of_ble_eq_true rfl) dX12_words_201 (fun r651 w653 H locs hp652 hw => ?_)
          obtain ⟨rfl, hg658⟩ := hp652
          obtain ⟨g655, g656, c657⟩ := hg658
          obtain rfl : r642 = r651 := c648.symm.trans c657
          refine lv_i2l hx hb dX12_words_204 rfl ?_
          refine lv_topl (fun x659 ex659 => ?_)
          have ex659 : x659.toInt = r642.toInt := by rw [ex659]; exact wk_i2l _
          have bx659 := wk_i32 r642
          refine tk_last hC hK hw hT kM_at11 (by decide) rfl (by decide) (by decide) dX12_words_205 (fun H locs w660 hw hT k662 => ?_)
          have hF := hF.put kM_at11 (inE_of (a := 0) (b := 10) (by decide) (by decide) (by decide)) k662
          have c663 := k662.gi (Or.inl (tk_ne kM_at12 kM_at11 (by decide))) c636
          have c664 := k662.gi (Or.inl (tk_ne kM_at0 kM_at11 (by decide))) c637
          have c665 := k662.gi (Or.inl (tk_ne kM_at12 kM_at11 (by decide))) c638
          have c666 := k662.gi (Or.inl (tk_ne kM_at0 kM_at11 (by decide))) c639
          have c667 := k662.gi (Or.inl (tk_ne kM_at14 kM_at11 (by decide))) c640
          have c668 := k662.gi (Or.inl (tk_ne kM_at12 kM_at11 (by decide))) c641
          have c669 := k662.gi (Or.inl (tk_ne kM_at12 kM_at11 (by decide))) c648
          exact tk_vret hC hr hlocks hK ⟨hT, hF, ⟨⟨x30, c664, (show 0 ≤ x30.toInt from rx30), (show x30.toInt ≤ 1 from tx30)⟩, ⟨r642, c669, (show (-1) ≤ r642.toInt from Int.le_trans (by decide) c650), (show r642.toInt ≤ 9 by omega)⟩⟩⟩ hw dX12_words_206
        · have c650 : r642.toInt < (0 : Int) := wk_leF c650
          refine lv_ldc2 (v := 99) hx hb hC.2.2.2.1 (hC.2.2.2.2 _ (List.mem_cons_of_mem _ uw_48_1)) dX12_words_191 ?_
          refine lv_goto (tgt := 205) hx hb dX12_words_194 (by decide) ?_
          refine tk_last hC hK hw hT kM_at11 (by decide) rfl (by decide) (by decide) dX12_words_205 (fun H locs w670 hw hT k672 => ?_)
          have hF := hF.put kM_at11 (inE_of (a := 0) (b := 10) (by decide) (by decide) (by decide)) k672
          have c673 := k672.gi (Or.inl (tk_ne kM_at12 kM_at11 (by decide))) c636
          have c674 := k672.gi (Or.inl (tk_ne kM_at0 kM_at11 (by decide))) c637
          have c675 := k672.gi (Or.inl (tk_ne kM_at12 kM_at11 (by decide))) c638
          have c676 := k672.gi (Or.inl (tk_ne kM_at0 kM_at11 (by decide))) c639
          have c677 := k672.gi (Or.inl (tk_ne kM_at14 kM_at11 (by decide))) c640
          have c678 := k672.gi (Or.inl (tk_ne kM_at12 kM_at11 (by decide))) c641
          have c679 := k672.gi (Or.inl (tk_ne kM_at12 kM_at11 (by decide))) c648
          exact tk_vret hC hr hlocks hK ⟨hT, hF, ⟨⟨x30, c674, (show 0 ≤ x30.toInt from rx30), (show x30.toInt ≤ 1 from tx30)⟩, ⟨r642, c679, (show (-1) ≤ r642.toInt by omega), (show r642.toInt ≤ 9 by omega)⟩⟩⟩ hw dX12_words_206
      · have c604 : x602.toInt = (100000000 : Int) := wk_eq.mp c604
        refine lv_lconst (v := 0) hx hb dX12_words_123 (by decide) ?_
        refine lv_goto (tgt := 134) hx hb dX12_words_124 (by decide) ?_
        refine tk_last hC hK hw hT kM_at11 (by decide) rfl (by decide) (by decide) dX12_words_134 (fun H locs w680 hw hT k682 => ?_)
        have hF := hF.put kM_at11 (inE_of (a := 0) (b := 10) (by decide) (by decide) (by decide)) k682
        have c683 := k682.gi (Or.inl (tk_ne kM_at12 kM_at11 (by decide))) c598
        have c684 := k682.gi (Or.inl (tk_ne kM_at0 kM_at11 (by decide))) c599
        have c685 := k682.gi (Or.inl (tk_ne kM_at12 kM_at11 (by decide))) c600
        have c686 := k682.gi (Or.inl (tk_ne kM_at0 kM_at11 (by decide))) c601
        have c687 := k682.gi (Or.inl (tk_ne kM_at14 kM_at11 (by decide))) c603
        refine lv_aload_n hx hb dX12_words_135 rfl (lv_at hl 2 rfl) ?_
        refine tk_getA hC hK hw hT hinX12 kM_at0 (by decide) rfl 25 (by decide) (List.mem_cons_of_mem _ uw_7_0) rfl rfl dX12_words_136 ?_
        refine lv_bipush (v := 7) hx hb dX12_words_139 (by decide) ?_
        refine lv_aload_n hx hb dX12_words_141 rfl (lv_at hl 2 rfl) ?_
        refine tk_geti hC hK hw hT hinX12 kM_at0 (by decide) rfl 30 (by decide) (List.mem_cons_of_mem _ uw_47_4) rfl rfl dX12_words_142 (fun x688 c689 rx688 tx688 => ?_)
        refine wk_top x30 (c689.symm.trans c684) ?_
        refine lv_if_eq (tgt := 152) hx hb dX12_words_145 (by decide) (fun c => absurd c (fun h => absurd (show x30.toInt = (0 : Int) from wk_eq.mp h) (by omega))) (fun _ => ?_)
        refine lv_lconst (v := 0) hx hb dX12_words_148 (by decide) ?_
        refine lv_goto (tgt := 159) hx hb dX12_words_149 (by decide) ?_
        refine tk_last hC hK hw hT kM_at11 (by decide) rfl (by decide) (by decide) dX12_words_159 (fun H locs w690 hw hT k692 => ?_)
        have hF := hF.put kM_at11 (inE_of (a := 0) (b := 10) (by decide) (by decide) (by decide)) k692
        have c693 := k692.gi (Or.inl (tk_ne kM_at12 kM_at11 (by decide))) c683
        have c694 := k692.gi (Or.inl (tk_ne kM_at0 kM_at11 (by decide))) c684
        have c695 := k692.gi (Or.inl (tk_ne kM_at12 kM_at11 (by decide))) c685
        have c696 := k692.gi (Or.inl (tk_ne kM_at0 kM_at11 (by decide))) c686
        have c697 := k692.gi (Or.inl (tk_ne kM_at14 kM_at11 (by decide))) c687
        refine lv_aload_n hx hb dX12_words_160 rfl (lv_at hl 2 rfl) ?_
        refine tk_getA hC hK hw hT hinX12 kM_at0 (by decide) rfl 25 (by decide) (List.mem_cons_of_mem _ uw_7_0) rfl rfl dX12_words_161 ?_
        refine lv_bipush (v := 8) hx hb dX12_words_164 (by decide) ?_
        refine lv_aload_n hx hb dX12_words_166 rfl (lv_at hl 2 rfl) ?_
        refine lv_iload_n hx hb dX12_words_167 rfl (lv_at hl 3 rfl) ?_
        refine lv_bipush (v := 6) hx hb dX12_words_168 (by decide) ?_
        refine tk_Vi hC hK hw hT hA hE hSR kM_at0 (by decide) rfl (k_X12_walkerOf_17 l adK adV dC dI cy ad B (by omega) (by omega) qr s1    w690 H.size hT ) (cwV 2 hC.2.2.2.2 uV_RX12_372 rfl rfl rfl (by decide +kernel) ⟨Nat.le_of_ble_eq_true rfl, Nat.le_of_ble_eq_true rfl⟩) rfl hl.1 rfl (Nat.le_of_ble_eq_true rfl) dX12_words_170 (fun r698 w700 H locs hp699 hw => ?_)
        obtain ⟨rfl, hg703⟩ := hp699
        have c702 := hg703
        refine lv_i2l hx hb dX12_words_173 rfl ?_
        refine lv_topl (fun x704 ex704 => ?_)
        have ex704 : x704.toInt = r698.toInt := by rw [ex704]; exact wk_i2l _
        have bx704 := wk_i32 r698
        refine tk_last hC hK hw hT kM_at11 (by decide) rfl (by decide) (by decide) dX12_words_174 (fun H locs w705 hw hT k707 => ?_)
        have hF := hF.put kM_at11 (inE_of (a := 0) (b := 10) (by decide) (by decide) (by decide)) k707
        have c708 := k707.gi (Or.inl (tk_ne kM_at12 kM_at11 (by decide))) c693
        have c709 := k707.gi (Or.inl (tk_ne kM_at0 kM_at11 (by decide))) c694
        have c710 := k707.gi (Or.inl (tk_ne kM_at12 kM_at11 (by decide))) c695
        have c711 := k707.gi (Or.inl (tk_ne kM_at0 kM_at11 (by decide))) c696
        have c712 := k707.gi (Or.inl (tk_ne kM_at14 kM_at11 (by decide))) c697
        have c713 := k707.gi (Or.inl (tk_ne kM_at12 kM_at11 (by decide))) c702
        refine lv_aload_n hx hb dX12_words_175 rfl (lv_at hl 2 rfl) ?_
        refine tk_getA hC hK hw hT hinX12 kM_at0 (by decide) rfl 25 (by decide) (List.mem_cons_of_mem _ uw_7_0) rfl rfl dX12_words_176 ?_
        refine lv_bipush (v := 9) hx hb dX12_words_179 (by decide) ?_
        refine lv_aload_n hx hb dX12_words_181 rfl (lv_at hl 2 rfl) ?_
        refine lv_iload_n hx hb dX12_words_182 rfl (lv_at hl 3 rfl) ?_
        refine lv_bipush (v := 7) hx hb dX12_words_183 (by decide) ?_
        refine tk_Vi hC hK hw hT hA hE hSR kM_at0 (by decide) rfl (k_X12_walkerOf_18 l adK adV dC dI cy ad B (by omega) (by omega) qr s1    w705 H.size hT ) (cwV 2 hC.2.2.2.2 uV_RX12_372 rfl rfl rfl (by decide +kernel) ⟨Nat.le_of_ble_eq_true rfl, Nat.le_of_ble_eq_true rfl⟩) rfl hl.1 rfl (Nat.le_of_ble_eq_true rfl) dX12_words_185 (fun r714 w716 H locs hp715 hw => ?_)
        obtain ⟨rfl, hg721⟩ := hp715
        obtain ⟨g718, g719, c720⟩ := hg721
        refine lv_if_ge (tgt := 197) hx hb dX12_words_188 (by decide) (fun c722 => ?_) (fun c722 => ?_)
        · have c722 : (0 : Int) ≤ r714.toInt := wk_le.mp c722
          refine lv_aload_n hx hb dX12_words_197 rfl (lv_at hl 2 rfl) ?_
          refine lv_iload_n hx hb dX12_words_198 rfl (lv_at hl 3 rfl) ?_
          refine lv_bipush (v := 7) hx hb dX12_words_199 (by decide) ?_
          refine tk_Vi hC hK hw hT hA hE hSR kM_at0 (by decide) rfl (k_X12_walkerOf_18 l adK adV dC dI cy ad B (by omega) (by omega) qr s1    w705 H.size hT ) (cwV 2 hC.2.2.2.2 uV_RX12_372 rfl rfl rfl (by decide +kernel) ⟨Nat.le_of_ble_eq_true rfl, Nat.le_of_ble_eq_true rfl⟩) rfl hl.1 rfl (Nat.le_of_ble_eq_true rfl) dX12_words_201 (fun r723 w725 H locs hp724 hw => ?_)
          obtain ⟨rfl, hg730⟩ := hp724
          obtain ⟨g727, g728, c729⟩ := hg730
          obtain rfl : r714 = r723 := c720.symm.trans c729
          refine lv_i2l hx hb dX12_words_204 rfl ?_
          refine lv_topl (fun x731 ex731 => ?_)
          have ex731 : x731.toInt = r714.toInt := by rw [ex731]; exact wk_i2l _
          have bx731 := wk_i32 r714
          refine tk_last hC hK hw hT kM_at11 (by decide) rfl (by decide) (by decide) dX12_words_205 (fun H locs w732 hw hT k734 => ?_)
          have hF := hF.put kM_at11 (inE_of (a := 0) (b := 10) (by decide) (by decide) (by decide)) k734
          have c735 := k734.gi (Or.inl (tk_ne kM_at12 kM_at11 (by decide))) c708
          have c736 := k734.gi (Or.inl (tk_ne kM_at0 kM_at11 (by decide))) c709
          have c737 := k734.gi (Or.inl (tk_ne kM_at12 kM_at11 (by decide))) c710
          have c738 := k734.gi (Or.inl (tk_ne kM_at0 kM_at11 (by decide))) c711
          have c739 := k734.gi (Or.inl (tk_ne kM_at14 kM_at11 (by decide))) c712
          have c740 := k734.gi (Or.inl (tk_ne kM_at12 kM_at11 (by decide))) c713
          have c741 := k734.gi (Or.inl (tk_ne kM_at12 kM_at11 (by decide))) c720
          exact tk_vret hC hr hlocks hK ⟨hT, hF, ⟨⟨x30, c736, (show 0 ≤ x30.toInt from rx30), (show x30.toInt ≤ 1 from tx30)⟩, ⟨r714, c741, (show (-1) ≤ r714.toInt from Int.le_trans (by decide) c722), (show r714.toInt ≤ 9 by omega)⟩⟩⟩ hw dX12_words_206
        · have c722 : r714.toInt < (0 : Int) := wk_leF c722
          refine lv_ldc2 (v := 99) hx hb hC.2.2.2.1 (hC.2.2.2.2 _ (List.mem_cons_of_mem _ uw_48_1)) dX12_words_191 ?_
          refine lv_goto (tgt := 205) hx hb dX12_words_194 (by decide) ?_
          refine tk_last hC hK hw hT kM_at11 (by decide) rfl (by decide) (by decide) dX12_words_205 (fun H locs w742 hw hT k744 => ?_)
          have hF := hF.put kM_at11 (inE_of (a := 0) (b := 10) (by decide) (by decide) (by decide)) k744
          have c745 := k744.gi (Or.inl (tk_ne kM_at12 kM_at11 (by decide))) c708
          have c746 := k744.gi (Or.inl (tk_ne kM_at0 kM_at11 (by decide))) c709
          have c747 := k744.gi (Or.inl (tk_ne kM_at12 kM_at11 (by decide))) c710
          have c748 := k744.gi (Or.inl (tk_ne kM_at0 kM_at11 (by decide))) c711
          have c749 := k744.gi (Or.inl (tk_ne kM_at14 kM_at11 (by decide))) c712
          have c750 := k744.gi (Or.inl (tk_ne kM_at12 kM_at11 (by decide))) c713
          have c751 := k744.gi (Or.inl (tk_ne kM_at12 kM_at11 (by decide))) c720
          exact tk_vret hC hr hlocks hK ⟨hT, hF, ⟨⟨x30, c746, (show 0 ≤ x30.toInt from rx30), (show x30.toInt ≤ 1 from tx30)⟩, ⟨r714, c751, (show (-1) ≤ r714.toInt by omega), (show r714.toInt ≤ 9 by omega)⟩⟩⟩ hw dX12_words_206
