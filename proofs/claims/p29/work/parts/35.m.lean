abbrev P_X12_in_6 (ad : Nat → Nat) (cy : Nat → ClassId) (B : Int) (qr : Nat) (s1 : Int) (a0 : Int64) (a2 : Int64) (w0 : va_W) : Int32 → va_W → Prop := fun r u => TW ksM ad cy B qr 12 u ∧ FE ksM ([] : List (Nat × Nat × Nat)) w0 u ∧ ((r = 0) ∨ (r = 1 ∧ 0 ≤ a0.toInt ∧ a0.toInt ≤ 9))
set_option maxHeartbeats 4000000 in
set_option maxRecDepth 100000 in
theorem k_X12_in_6 (l : Launch) (adK adV : Nat → Nat) (dC : Nat → ClassId) (dI : Nat → Nat → Nat) (cy : Nat → ClassId) (ad : Nat → Nat) (B : Int) (hB0 : 100000 ≤ B) (hB1 : B ≤ 1073741824) (qr : Nat) (s1 : Int)  (a0 : Int64) (ra0 : (-2147483648) ≤ a0.toInt) (ta0 : a0.toInt ≤ 2147483647) (a2 : Int64) (ra2 : 0 ≤ a2.toInt) (ta2 : a2.toInt ≤ 9) (w0 : va_W) (sz : Nat) (hT : TW ksM ad cy B qr 12 w0)  : Met l yX12_in wsX12_in ({ frames := 1, cells := 0, slots := 0, locals := 12 }) (va_Pc [.long a0, .long 0, .long a2] (wpreS adK adV dC dI cy sz w0)) (va_Qi (P_X12_in_6 ad cy B qr s1 a0 a2 w0) (fun u : va_W => wpost dC dI cy (va_A w0 sz) u) (va_A w0 sz)) 0 0 (va_A w0 sz) := by
  refine Met.ofW (cc := cX12_in) (maxL := 6) (ret := (some .boolean)) (by decide) rfl ?_
  intro p e s m args below meth c s₁ Bk hml hv
  obtain ⟨rfl, ⟨hsz, hP, hK, hD0⟩, hE, hSR⟩ := hv
  have hx := Bk.exec
  have hb := Bk.bytes
  have hr := Bk.returns
  have hlocks := Bk.notSynchronized
  have hC : CallFix p m c cX12_in 6 s _ wsX12_in RX12 := ⟨hx, hb, hml, findClass_of_methodNamed Bk.named, atoms_spec (ws := wsX12_in) Bk.pre⟩
  subst hsz
  have hD := hD0.self (sz := s.heap.size)
  generalize hAe : va_A w0 s.heap.size = A at hD hE ⊢
  have hA : ∀ q : Nat, s.heap.size ≤ q → A q := fun q h => by rw [← hAe]; exact Or.inr h
  have hw : Wd dC dI A s.heap s.heap [] w0 := ⟨hP, hD, va_S.rf⟩
  have hF : FE ksM ([] : List (Nat × Nat × Nat)) w0 w0 := FE.rf
  have hl := lv_entry ([.long a0, .long 0, .long a2]) (n := 6) (Nat.le_of_ble_eq_true rfl)
  rw [lg_entry_eq]
  generalize (lg_sl ([.long a0, .long 0, .long a2]) ++ List.replicate (6 - (lg_sl ([.long a0, .long 0, .long a2])).length) Slot.unset).toArray = ls at hl ⊢
  have hl : lv_has ls 6 [(0, .long a0), (2, .long 0), (4, .long a2)] := hl
  generalize hloc : ([] : List Loc) = locs at hw ⊢
  have J17 : ∀ (H : Heap) (locs : List Loc) (ls : Array Slot) (w1 : va_W), (-2147483648) ≤ a0.toInt → a0.toInt ≤ 2147483647 → 0 ≤ a2.toInt → a2.toInt ≤ 9 → Wd dC dI A s.heap H locs w1 → TW ksM ad cy B qr 12 w1 → FE ksM ([] : List (Nat × Nat × Nat)) w0 w1 → lv_has ls 6 [(0, .long a0), (2, .long 0), (4, .long a2)] → W p l e ({ frames := 1, cells := 0, slots := 0, locals := 12 }) s m (List.toArray [.long a0, .long 0, .long a2]) below meth c H locs 0 0 (MQ below (va_Qi (P_X12_in_6 ad cy B qr s1 a0 a2 w0) (fun u : va_W => wpost dC dI cy A u) A) (List.toArray [.long a0, .long 0, .long a2]) s 0 0 A) (F0 m 17 ls []) := by
    intro H locs ls w1 r2 t3 r4 t5 hw hT hF hl
    refine lv_iconst (v := 0) hx hb dX12_in_17 (by decide) ?_
    exact tk_zret hC hr rfl hlocks hK ⟨hT, hF, (Or.inl rfl)⟩ hw dX12_in_18
  refine lv_lload_n hx hb dX12_in_0 rfl (lv_at hl 0 rfl) ?_
  refine lv_lload_n hx hb dX12_in_1 rfl (lv_at hl 1 rfl) ?_
  refine W.lcmp hx hb dX12_in_2 ?_
  refine lv_if_lt (tgt := 17) hx hb dX12_in_3 (by decide) (fun c6 => ?_) (fun c6 => ?_)
  · have c6 : a0.toInt < (0 : Int) := wk_cltT c6
    exact J17  s.heap locs ls w0 (show (-2147483648) ≤ a0.toInt by omega) (show a0.toInt ≤ 2147483647 by omega) (show 0 ≤ a2.toInt by omega) (show a2.toInt ≤ 9 by omega)  hw hT hF  (lv_sub hl [0, 1, 2] rfl)
  · have c6 : (0 : Int) ≤ a0.toInt := wk_cltF c6
    refine lv_lload_n hx hb dX12_in_6 rfl (lv_at hl 0 rfl) ?_
    refine lv_lload hx hb dX12_in_7 (lv_at hl 2 rfl) ?_
    refine W.lcmp hx hb dX12_in_9 ?_
    refine lv_if_gt (tgt := 17) hx hb dX12_in_10 (by decide) (fun c7 => ?_) (fun c7 => ?_)
    · have c7 : a2.toInt < a0.toInt := wk_cgtT c7
      exact J17  s.heap locs ls w0 (show (-2147483648) ≤ a0.toInt by omega) (show a0.toInt ≤ 2147483647 by omega) (show 0 ≤ a2.toInt by omega) (show a2.toInt ≤ 9 by omega)  hw hT hF  (lv_sub hl [0, 1, 2] rfl)
    · have c7 : a0.toInt ≤ a2.toInt := wk_cgtF c7
      refine lv_iconst (v := 1) hx hb dX12_in_13 (by decide) ?_
      refine lv_goto (tgt := 18) hx hb dX12_in_14 (by decide) ?_
      exact tk_zret hC hr rfl hlocks hK ⟨hT, hF, (Or.inr ⟨rfl, (show 0 ≤ a0.toInt by omega), (show a0.toInt ≤ 9 by omega)⟩)⟩ hw dX12_in_18
abbrev P_X12_numberHere_6 (ad : Nat → Nat) (cy : Nat → ClassId) (B : Int) (qr : Nat) (s1 : Int) (a2 : Int32) (w0 : va_W) : Int32 → va_W → Prop := fun r u => TW ksM ad cy B qr 12 u ∧ FE ksM [(12, 14, 14), (12, 15, 15), (12, 16, 16)] w0 u ∧ ((r = 0 ∧ (∃ y : Int32, gi u 0 1 = y ∧ 1 ≤ y.toInt ∧ y.toInt ≤ 400) ∧ (∃ y : Int32, gi u 0 15 = y ∧ 1 ≤ y.toInt ∧ y.toInt ≤ 3205)) ∨ (r = 0 ∧ (∃ y : Int32, gi u 0 1 = y ∧ 0 ≤ y.toInt ∧ y.toInt ≤ 400) ∧ (∃ y : Int32, gi u 0 15 = y ∧ 1 ≤ y.toInt ∧ y.toInt ≤ 3205)) ∨ (r = 1 ∧ (∃ y : Int32, gi u 0 1 = y ∧ 1 ≤ y.toInt ∧ y.toInt ≤ 400) ∧ (∃ y : Int32, gi u 0 16 = y ∧ 0 ≤ y.toInt ∧ y.toInt ≤ 9)))
set_option maxHeartbeats 4000000 in
set_option maxRecDepth 100000 in
theorem k_X12_numberHere_6 (l : Launch) (adK adV : Nat → Nat) (dC : Nat → ClassId) (dI : Nat → Nat → Nat) (cy : Nat → ClassId) (ad : Nat → Nat) (B : Int) (hB0 : 100000 ≤ B) (hB1 : B ≤ 1073741824) (qr : Nat) (s1 : Int)  (a2 : Int32) (ra2 : 0 ≤ a2.toInt) (ta2 : a2.toInt ≤ 9) (w0 : va_W) (sz : Nat) (hT : TW ksM ad cy B qr 12 w0)  : Met l yX12_numberHere wsX12_numberHere ({ frames := 2, cells := 0, slots := 0, locals := 37 }) (va_Pc [.ref (ad 0), .int 0, .int a2] (wpreS adK adV dC dI cy sz w0)) (va_Qi (P_X12_numberHere_6 ad cy B qr s1 a2 w0) (fun u : va_W => wpost dC dI cy (va_A w0 sz) u) (va_A w0 sz)) 0 0 (va_A w0 sz) := by
  refine Met.ofW (cc := cX12_numberHere) (maxL := 5) (ret := (some .boolean)) (by decide) rfl ?_
  intro p e s m args below meth c s₁ Bk hml hv
  obtain ⟨rfl, ⟨hsz, hP, hK, hD0⟩, hE, hSR⟩ := hv
  have hx := Bk.exec
  have hb := Bk.bytes
  have hr := Bk.returns
  have hlocks := Bk.notSynchronized
  have hC : CallFix p m c cX12_numberHere 5 s _ wsX12_numberHere RX12 := ⟨hx, hb, hml, findClass_of_methodNamed Bk.named, atoms_spec (ws := wsX12_numberHere) Bk.pre⟩
  subst hsz
  have hD := hD0.self (sz := s.heap.size)
  generalize hAe : va_A w0 s.heap.size = A at hD hE ⊢
  have hA : ∀ q : Nat, s.heap.size ≤ q → A q := fun q h => by rw [← hAe]; exact Or.inr h
  have hw : Wd dC dI A s.heap s.heap [] w0 := ⟨hP, hD, va_S.rf⟩
  have hF : FE ksM [(12, 14, 14), (12, 15, 15), (12, 16, 16)] w0 w0 := FE.rf
  have hl := lv_entry ([.ref (ad 0), .int 0, .int a2]) (n := 5) (Nat.le_of_ble_eq_true rfl)
  rw [lg_entry_eq]
  generalize (lg_sl ([.ref (ad 0), .int 0, .int a2]) ++ List.replicate (5 - (lg_sl ([.ref (ad 0), .int 0, .int a2])).length) Slot.unset).toArray = ls at hl ⊢
  have hl : lv_has ls 5 [(0, .ref (ad 0)), (1, .int 0), (2, .int a2)] := hl
  generalize hloc : ([] : List Loc) = locs at hw ⊢
  have hinX12 : ∀ w ∈ u_ws RX12 TX12 42, w ∈ wsX12_numberHere := fun _ h => List.mem_cons_of_mem _ (List.mem_append_right _ (h))
  have J126 : ∀ (v126_3 : Int32) (v126_4 : Int32) (f126_0_1 : Int32) (f126_0_14 : Int32) (f126_0_16 : Int32) (H : Heap) (locs : List Loc) (ls : Array Slot) (w1 : va_W), 0 ≤ a2.toInt → a2.toInt ≤ 9 → 0 ≤ v126_3.toInt → v126_3.toInt ≤ 399 → 0 ≤ v126_4.toInt → v126_4.toInt ≤ 9 → 1 ≤ f126_0_1.toInt → f126_0_1.toInt ≤ 400 → 0 ≤ f126_0_14.toInt → f126_0_14.toInt ≤ 400 → 0 ≤ f126_0_16.toInt → f126_0_16.toInt ≤ 9 → Wd dC dI A s.heap H locs w1 → TW ksM ad cy B qr 12 w1 → FE ksM [(12, 14, 14), (12, 15, 15), (12, 16, 16)] w0 w1 → gi w1 0 1 = f126_0_1 → gi w1 0 14 = f126_0_14 → gi w1 0 16 = f126_0_16 → lv_has ls 5 [(0, .ref (ad 0)), (1, .int 0), (2, .int a2), (3, .int v126_3), (4, .int v126_4)] → W p l e ({ frames := 2, cells := 0, slots := 0, locals := 37 }) s m (List.toArray [.ref (ad 0), .int 0, .int a2]) below meth c H locs 0 0 (MQ below (va_Qi (P_X12_numberHere_6 ad cy B qr s1 a2 w0) (fun u : va_W => wpost dC dI cy A u) A) (List.toArray [.ref (ad 0), .int 0, .int a2]) s 0 0 A) (F0 m 126 ls []) := by
    intro v126_3 v126_4 f126_0_1 f126_0_14 f126_0_16 H locs ls w1 r2 t3 r4 t5 r6 t7 r8 t9 r11 t12 r14 t15 hw hT hF c10 c13 c16 hl
    refine lv_iconst (v := 1) hx hb dX12_numberHere_126 (by decide) ?_
    refine lv_goto (tgt := 131) hx hb dX12_numberHere_127 (by decide) ?_
    exact tk_zret hC hr rfl hlocks hK ⟨hT, hF, (Or.inr (Or.inr ⟨rfl, ⟨f126_0_1, c10, (show 1 ≤ f126_0_1.toInt by omega), (show f126_0_1.toInt ≤ 400 by omega)⟩, ⟨f126_0_16, c16, (show 0 ≤ f126_0_16.toInt by omega), (show f126_0_16.toInt ≤ 9 by omega)⟩⟩))⟩ hw dX12_numberHere_131
  have J117 : ∀ (v117_3 : Int32) (v117_4 : Int32) (f117_0_1 : Int32) (f117_0_14 : Int32) (f117_0_16 : Int32) (H : Heap) (locs : List Loc) (ls : Array Slot) (w17 : va_W), 0 ≤ a2.toInt → a2.toInt ≤ 9 → 0 ≤ v117_3.toInt → v117_3.toInt ≤ 399 → 1 ≤ f117_0_1.toInt → f117_0_1.toInt ≤ 400 → 0 ≤ f117_0_14.toInt → f117_0_14.toInt ≤ 400 → Wd dC dI A s.heap H locs w17 → TW ksM ad cy B qr 12 w17 → FE ksM [(12, 14, 14), (12, 15, 15), (12, 16, 16)] w0 w17 → gi w17 0 1 = f117_0_1 → gi w17 0 14 = f117_0_14 → gi w17 0 16 = f117_0_16 → lv_has ls 5 [(0, .ref (ad 0)), (1, .int 0), (2, .int a2), (3, .int v117_3), (4, .int v117_4)] → W p l e ({ frames := 2, cells := 0, slots := 0, locals := 37 }) s m (List.toArray [.ref (ad 0), .int 0, .int a2]) below meth c H locs 0 0 (MQ below (va_Qi (P_X12_numberHere_6 ad cy B qr s1 a2 w0) (fun u : va_W => wpost dC dI cy A u) A) (List.toArray [.ref (ad 0), .int 0, .int a2]) s 0 0 A) (F0 m 117 ls []) := by
    intro v117_3 v117_4 f117_0_1 f117_0_14 f117_0_16 H locs ls w17 r18 t19 r20 t21 r22 t23 r25 t26 hw hT hF c24 c27 c28 hl
    refine lv_aload_n hx hb dX12_numberHere_117 rfl (lv_at hl 0 rfl) ?_
    refine lv_iconst (v := 1) hx hb dX12_numberHere_118 (by decide) ?_
    refine lv_iload_n hx hb dX12_numberHere_119 rfl (lv_at hl 3 rfl) ?_
    refine tk_Vi hC hK hw hT hA hE hSR kM_at0 (by decide) rfl (k_X12_fails_1 l adK adV dC dI cy ad B (by omega) (by omega) qr s1   1 (by decide) (by decide) v117_3 (show 0 ≤ v117_3.toInt by omega) (show v117_3.toInt ≤ 400 by omega) w17 H.size hT ) (cwV 2 hC.2.2.2.2 gX12_numberHere_X12_fails rfl rfl rfl (by decide +kernel) ⟨Nat.le_of_ble_eq_true rfl, Nat.le_of_ble_eq_true rfl⟩) rfl hl.1 rfl (Nat.le_of_ble_eq_true rfl) dX12_numberHere_120 (fun r29 w31 H locs hp30 hw => ?_)
    obtain ⟨hT, k32, hg35⟩ := hp30
    have hF := hF.tr k32 (by decide)
    have c36 := k32.gi kM_at0 (by decide) c24
    have c37 := k32.gi kM_at0 (by decide) c27
    have c38 := k32.gi kM_at0 (by decide) c28
    obtain ⟨rfl, ⟨x33, c34, rx33, tx33⟩⟩ := hg35
    refine lv_if_eq (tgt := 130) hx hb dX12_numberHere_123 (by decide) (fun _ => ?_) (fun c => absurd (by decide) c)
    refine lv_iconst (v := 0) hx hb dX12_numberHere_130 (by decide) ?_
    exact tk_zret hC hr rfl hlocks hK ⟨hT, hF, (Or.inl ⟨rfl, ⟨f117_0_1, c36, (show 1 ≤ f117_0_1.toInt by omega), (show f117_0_1.toInt ≤ 400 by omega)⟩, ⟨x33, c34, (show 1 ≤ x33.toInt by omega), (show x33.toInt ≤ 3205 by omega)⟩⟩)⟩ hw dX12_numberHere_131
  have L34 : ∀ (n34 : Nat) (v34_3 : Int32) (v34_4 : Int32) (f34_0_1 : Int32) (f34_0_14 : Int32) (H : Heap) (locs : List Loc) (ls : Array Slot) (w39 : va_W), 0 ≤ a2.toInt → a2.toInt ≤ 9 → 0 ≤ v34_3.toInt → v34_3.toInt ≤ 399 → 1 ≤ f34_0_1.toInt → f34_0_1.toInt ≤ 400 → 0 ≤ f34_0_14.toInt → f34_0_14.toInt ≤ 400 → (400 - f34_0_14.toInt).toNat < n34 → Wd dC dI A s.heap H locs w39 → TW ksM ad cy B qr 12 w39 → FE ksM [(12, 14, 14), (12, 15, 15), (12, 16, 16)] w0 w39 → gi w39 0 1 = f34_0_1 → gi w39 0 14 = f34_0_14 → lv_has ls 5 [(0, .ref (ad 0)), (1, .int 0), (2, .int a2), (3, .int v34_3), (4, .int v34_4)] → W p l e ({ frames := 2, cells := 0, slots := 0, locals := 37 }) s m (List.toArray [.ref (ad 0), .int 0, .int a2]) below meth c H locs 0 0 (MQ below (va_Qi (P_X12_numberHere_6 ad cy B qr s1 a2 w0) (fun u : va_W => wpost dC dI cy A u) A) (List.toArray [.ref (ad 0), .int 0, .int a2]) s 0 0 A) (F0 m 34 ls []) := by
    intro n34
    induction n34 with
    | zero => intro v34_3 v34_4 f34_0_1 f34_0_14 H locs ls w39 r40 t41 r42 t43 r44 t45 r47 t48 hm34 hw hT hF c46 c49 hl; omega
    | succ n34 ih34 =>
      intro v34_3 v34_4 f34_0_1 f34_0_14 H locs ls w39 r40 t41 r42 t43 r44 t45 r47 t48 hm34 hw hT hF c46 c49 hl
      have J75 : ∀ (v75_4 : Int32) (H : Heap) (locs : List Loc) (ls : Array Slot) (w50 : va_W), 0 ≤ a2.toInt → a2.toInt ≤ 9 → 0 ≤ v34_3.toInt → v34_3.toInt ≤ 399 → 1 ≤ f34_0_1.toInt → f34_0_1.toInt ≤ 400 → 0 ≤ f34_0_14.toInt → f34_0_14.toInt ≤ 399 → Wd dC dI A s.heap H locs w50 → TW ksM ad cy B qr 12 w50 → FE ksM [(12, 14, 14), (12, 15, 15), (12, 16, 16)] w0 w50 → gi w50 0 1 = f34_0_1 → gi w50 0 14 = f34_0_14 → lv_has ls 5 [(0, .ref (ad 0)), (1, .int 0), (2, .int a2), (3, .int v34_3), (4, .int v75_4)] → W p l e ({ frames := 2, cells := 0, slots := 0, locals := 37 }) s m (List.toArray [.ref (ad 0), .int 0, .int a2]) below meth c H locs 0 0 (MQ below (va_Qi (P_X12_numberHere_6 ad cy B qr s1 a2 w0) (fun u : va_W => wpost dC dI cy A u) A) (List.toArray [.ref (ad 0), .int 0, .int a2]) s 0 0 A) (F0 m 75 ls []) := by
        intro v75_4 H locs ls w50 r51 t52 r53 t54 r55 t56 r58 t59 hw hT hF c57 c60 hl
        refine lv_aload_n hx hb dX12_numberHere_75 rfl (lv_at hl 0 rfl) ?_
        refine lv_dup hx hb dX12_numberHere_76 rfl ?_
        refine tk_geti hC hK hw hT hinX12 kM_at0 (by decide) rfl 14 (by decide) (List.mem_of_getElem? (i := 1) rfl) rfl rfl dX12_numberHere_77 (fun x61 c62 rx61 tx61 => ?_)
        refine wk_top f34_0_14 (c62.symm.trans c60) ?_
        refine lv_iconst (v := 1) hx hb dX12_numberHere_80 (by decide) ?_
        refine lv_iadd hx hb dX12_numberHere_81 ?_
        refine lv_topi (fun x63 ex63 => ?_)
        have ex63 : x63.toInt = f34_0_14.toInt + (1 : Int) := by rw [ex63]; exact wk_add (show (-2147483648) ≤ f34_0_14.toInt + (1 : Int) by omega) (show f34_0_14.toInt + (1 : Int) ≤ 2147483647 by omega)
        refine tk_puti hC hK hw hT hinX12 tyX12_ok nmX12 kM_at0 (by decide) rfl rfl 14 (by decide) (List.mem_of_getElem? (i := 1) rfl) rfl rfl rfl rfl (show 0 ≤ x63.toInt by omega) (show x63.toInt ≤ 400 by omega) dX12_numberHere_82 (fun H locs w64 hw hT k66 c65 => ?_)
        have hF := hF.put kM_at0 (k := 14) (by decide) k66
        have c67 := k66.gi (Or.inr (by decide)) c57
        refine lv_goto (tgt := 34) hx hb dX12_numberHere_85 (by decide) ?_
        exact ih34 v34_3 v75_4 f34_0_1 x63 H locs ls w64 (show 0 ≤ a2.toInt by omega) (show a2.toInt ≤ 9 by omega) (show 0 ≤ v34_3.toInt by omega) (show v34_3.toInt ≤ 399 by omega) (show 1 ≤ f34_0_1.toInt by omega) (show f34_0_1.toInt ≤ 400 by omega) (show 0 ≤ x63.toInt by omega) (show x63.toInt ≤ 400 by omega) (show (400 - x63.toInt).toNat < n34 by omega) hw hT hF c67 c65 (lv_sub hl [0, 1, 2, 3, 4] rfl)
      refine lv_aload_n hx hb dX12_numberHere_34 rfl (lv_at hl 0 rfl) ?_
      refine lv_aload_n hx hb dX12_numberHere_35 rfl (lv_at hl 0 rfl) ?_
      refine tk_geti hC hK hw hT hinX12 kM_at0 (by decide) rfl 14 (by decide) (List.mem_of_getElem? (i := 1) rfl) rfl rfl dX12_numberHere_36 (fun x68 c69 rx68 tx68 => ?_)
      refine wk_top f34_0_14 (c69.symm.trans c49) ?_
      refine tk_Vi hC hK hw hT hA hE hSR kM_at0 (by decide) rfl (k_X12_isDigit_1 l adK adV dC dI cy ad B (by omega) (by omega) qr s1   f34_0_14 (show 0 ≤ f34_0_14.toInt by omega) (show f34_0_14.toInt ≤ 400 by omega) w39 H.size hT ) (cwV 1 hC.2.2.2.2 gX12_numberHere_X12_isDigit rfl rfl rfl (by decide +kernel) ⟨Nat.le_of_ble_eq_true rfl, Nat.le_of_ble_eq_true rfl⟩) rfl hl.1 rfl (Nat.le_of_ble_eq_true rfl) dX12_numberHere_39 (fun r70 w72 H locs hp71 hw => ?_)
      obtain ⟨hT, k73, hg79⟩ := hp71
      have hF := hF.tr k73 (by decide)
      have c80 := k73.gi kM_at0 (by decide) c46
      have c81 := k73.gi kM_at0 (by decide) c49
      rcases hg79 with ⟨rfl, ⟨x74, c75, rx74, tx74⟩⟩ | ⟨rfl, g76, ⟨x77, c78, rx77, tx77⟩⟩
      · have ex74 : x74.toInt = f34_0_1.toInt := by rw [← c80.symm.trans c75]
        refine lv_if_eq (tgt := 88) hx hb dX12_numberHere_42 (by decide) (fun _ => ?_) (fun c => absurd (by decide) c)
        refine lv_aload_n hx hb dX12_numberHere_88 rfl (lv_at hl 0 rfl) ?_
        refine lv_iload hx hb dX12_numberHere_89 (lv_at hl 4 rfl) ?_
        refine tk_puti hC hK hw hT hinX12 tyX12_ok nmX12 kM_at0 (by decide) rfl rfl 16 (by decide) (List.mem_of_getElem? (i := 3) rfl) rfl rfl rfl rfl (wk_i32 v34_4).1 (wk_i32 v34_4).2 dX12_numberHere_91 (fun H locs w82 hw hT k84 c83 => ?_)
        have hF := hF.put kM_at0 (k := 16) (by decide) k84
        have c85 := k84.gi (Or.inr (by decide)) c80
        have c86 := k84.gi (Or.inr (by decide)) c81
        refine lv_aload_n hx hb dX12_numberHere_94 rfl (lv_at hl 0 rfl) ?_
        refine tk_geti hC hK hw hT hinX12 kM_at0 (by decide) rfl 14 (by decide) (List.mem_of_getElem? (i := 1) rfl) rfl rfl dX12_numberHere_95 (fun x87 c88 rx87 tx87 => ?_)
        refine wk_top f34_0_14 (c88.symm.trans c86) ?_
        refine lv_iload_n hx hb dX12_numberHere_98 rfl (lv_at hl 3 rfl) ?_
        refine lv_isub hx hb dX12_numberHere_99 ?_
        refine lv_topi (fun x89 ex89 => ?_)
        have ex89 : x89.toInt = f34_0_14.toInt - v34_3.toInt := by rw [ex89]; exact wk_sub (show (-2147483648) ≤ f34_0_14.toInt - v34_3.toInt by omega) (show f34_0_14.toInt - v34_3.toInt ≤ 2147483647 by omega)
        refine lv_iconst (v := 5) hx hb dX12_numberHere_100 (by decide) ?_
        refine lv_icmp_gt (tgt := 117) hx hb dX12_numberHere_101 (by decide) (fun c90 => ?_) (fun c90 => ?_)
        · have c90 : (5 : Int) < x89.toInt := wk_lt.mp c90
          exact J117 v34_3 v34_4 f34_0_1 f34_0_14 v34_4 H locs ls w82 (show 0 ≤ a2.toInt by omega) (show a2.toInt ≤ 9 by omega) (show 0 ≤ v34_3.toInt by omega) (show v34_3.toInt ≤ 399 by omega) (show 1 ≤ f34_0_1.toInt by omega) (show f34_0_1.toInt ≤ 400 by omega) (show 0 ≤ f34_0_14.toInt by omega) (show f34_0_14.toInt ≤ 400 by omega)  hw hT hF c85 c86 c83 (lv_sub hl [0, 1, 2, 3, 4] rfl)
        · have c90 : x89.toInt ≤ (5 : Int) := wk_ltF c90
          refine lv_iload hx hb dX12_numberHere_104 (lv_at hl 4 rfl) ?_
          refine lv_i2l hx hb dX12_numberHere_106 rfl ?_
          refine lv_topl (fun x91 ex91 => ?_)
          have ex91 : x91.toInt = v34_4.toInt := by rw [ex91]; exact wk_i2l _
          have bx91 := wk_i32 v34_4
          refine lv_iload_n hx hb dX12_numberHere_107 rfl (lv_at hl 1 rfl) ?_
          refine lv_i2l hx hb dX12_numberHere_108 rfl ?_
          refine wk_topl 0 (by decide) ?_
          refine lv_iload_n hx hb dX12_numberHere_109 rfl (lv_at hl 2 rfl) ?_
          refine lv_i2l hx hb dX12_numberHere_110 rfl ?_
          refine lv_topl (fun x92 ex92 => ?_)
          have ex92 : x92.toInt = a2.toInt := by rw [ex92]; exact wk_i2l _
          have bx92 := wk_i32 a2
          refine tk_Si hC hK hw hT hA hE hSR (k_X12_in_6 l adK adV dC dI cy ad B (by omega) (by omega) qr s1   x91 (show (-2147483648) ≤ x91.toInt by omega) (show x91.toInt ≤ 2147483647 by omega) x92 (show 0 ≤ x92.toInt by omega) (show x92.toInt ≤ 9 by omega) w82 H.size hT ) (va_cwS 3 hC.2.2.2.2 gX12_numberHere_X12_in rfl rfl rfl (by decide +kernel) ⟨Nat.le_of_ble_eq_true rfl, Nat.le_of_ble_eq_true rfl⟩) rfl hl.1 rfl (Nat.le_of_ble_eq_true rfl) dX12_numberHere_111 (fun r93 w95 H locs hp94 hw => ?_)
          obtain ⟨hT, k96, hg99⟩ := hp94
          have hF := hF.tr k96 (by decide)
          have c100 := k96.gi kM_at0 (by decide) c85
          have c101 := k96.gi kM_at0 (by decide) c86
          have c102 := k96.gi kM_at0 (by decide) c83
          rcases hg99 with rfl | ⟨rfl, g97, g98⟩
          · refine lv_if_ne (tgt := 126) hx hb dX12_numberHere_114 (by decide) (fun c => absurd (by decide) c) (fun _ => ?_)
            exact J117 v34_3 v34_4 f34_0_1 f34_0_14 v34_4 H locs ls w95 (show 0 ≤ a2.toInt by omega) (show a2.toInt ≤ 9 by omega) (show 0 ≤ v34_3.toInt by omega) (show v34_3.toInt ≤ 399 by omega) (show 1 ≤ f34_0_1.toInt by omega) (show f34_0_1.toInt ≤ 400 by omega) (show 0 ≤ f34_0_14.toInt by omega) (show f34_0_14.toInt ≤ 400 by omega)  hw hT hF c100 c101 c102 (lv_sub hl [0, 1, 2, 3, 4] rfl)
          · refine lv_if_ne (tgt := 126) hx hb dX12_numberHere_114 (by decide) (fun _ => ?_) (fun c => absurd c (by decide))
            exact J126 v34_3 v34_4 f34_0_1 f34_0_14 v34_4 H locs ls w95 (show 0 ≤ a2.toInt by omega) (show a2.toInt ≤ 9 by omega) (show 0 ≤ v34_3.toInt by omega) (show v34_3.toInt ≤ 399 by omega) (show 0 ≤ v34_4.toInt by omega) (show v34_4.toInt ≤ 9 by omega) (show 1 ≤ f34_0_1.toInt by omega) (show f34_0_1.toInt ≤ 400 by omega) (show 0 ≤ f34_0_14.toInt by omega) (show f34_0_14.toInt ≤ 400 by omega) (show 0 ≤ v34_4.toInt by omega) (show v34_4.toInt ≤ 9 by omega)  hw hT hF c100 c101 c102 (lv_sub hl [0, 1, 2, 3, 4] rfl)
      · have ex77 : x77.toInt = f34_0_1.toInt := by rw [← c80.symm.trans c78]
        refine lv_if_eq (tgt := 88) hx hb dX12_numberHere_42 (by decide) (fun c => absurd c (by decide)) (fun _ => ?_)
        refine lv_aload_n hx hb dX12_numberHere_45 rfl (lv_at hl 0 rfl) ?_
        refine tk_geti hC hK hw hT hinX12 kM_at0 (by decide) rfl 14 (by decide) (List.mem_of_getElem? (i := 1) rfl) rfl rfl dX12_numberHere_46 (fun x103 c104 rx103 tx103 => ?_)
        refine wk_top f34_0_14 (c104.symm.trans c81) ?_
        refine lv_iload_n hx hb dX12_numberHere_49 rfl (lv_at hl 3 rfl) ?_
        refine lv_isub hx hb dX12_numberHere_50 ?_
        refine lv_topi (fun x105 ex105 => ?_)
        have ex105 : x105.toInt = f34_0_14.toInt - v34_3.toInt := by rw [ex105]; exact wk_sub (show (-2147483648) ≤ f34_0_14.toInt - v34_3.toInt by omega) (show f34_0_14.toInt - v34_3.toInt ≤ 2147483647 by omega)
        refine lv_iconst (v := 5) hx hb dX12_numberHere_51 (by decide) ?_
        refine lv_icmp_ge (tgt := 75) hx hb dX12_numberHere_52 (by decide) (fun c106 => ?_) (fun c106 => ?_)
        · have c106 : (5 : Int) ≤ x105.toInt := wk_le.mp c106
          exact J75 v34_4 H locs ls w72 (show 0 ≤ a2.toInt by omega) (show a2.toInt ≤ 9 by omega) (show 0 ≤ v34_3.toInt by omega) (show v34_3.toInt ≤ 399 by omega) (show 1 ≤ f34_0_1.toInt by omega) (show f34_0_1.toInt ≤ 400 by omega) (show 0 ≤ f34_0_14.toInt by omega) (show f34_0_14.toInt ≤ 399 by omega)  hw hT hF c80 c81 (lv_sub hl [0, 1, 2, 3, 4] rfl)
        · have c106 : x105.toInt < (5 : Int) := wk_leF c106
          refine lv_bipush (v := 10) hx hb dX12_numberHere_55 (by decide) ?_
          refine lv_iload hx hb dX12_numberHere_57 (lv_at hl 4 rfl) ?_
          refine lv_imul hx hb dX12_numberHere_59 ?_
          have nx107 := wk_i32 v34_4
          refine lv_topi (fun x108 ex108 => ?_)
          refine lv_aload_n hx hb dX12_numberHere_60 rfl (lv_at hl 0 rfl) ?_
          refine tk_getA hC hK hw hT hinX12 kM_at0 (by decide) rfl 0 (by decide) (List.mem_of_getElem? (i := 2) rfl) rfl rfl dX12_numberHere_61 ?_
          refine lv_aload_n hx hb dX12_numberHere_64 rfl (lv_at hl 0 rfl) ?_
          refine tk_geti hC hK hw hT hinX12 kM_at0 (by decide) rfl 14 (by decide) (List.mem_of_getElem? (i := 1) rfl) rfl rfl dX12_numberHere_65 (fun x109 c110 rx109 tx109 => ?_)
          refine wk_top f34_0_14 (c110.symm.trans c81) ?_
          refine tk_bald hC hK hw hT kM_at1 rfl rfl (show 0 ≤ f34_0_14.toInt by omega) (show f34_0_14.toInt < 400 by omega) dX12_numberHere_68 (fun x111 c112 rx111 tx111 => ?_)
          refine lv_iadd hx hb dX12_numberHere_69 ?_
          have nx113 := wk_i32 x108
          refine lv_topi (fun x114 ex114 => ?_)
          refine lv_bipush (v := 48) hx hb dX12_numberHere_70 (by decide) ?_
          refine lv_isub hx hb dX12_numberHere_72 ?_
          have nx115 := wk_i32 x114
          refine lv_topi (fun x116 ex116 => ?_)
          refine lv_istore (lv' := [(4, .int x116), (0, .ref (ad 0)), (1, .int 0), (2, .int a2), (3, .int v34_3)]) hx hb dX12_numberHere_73 hl (by decide) rfl (fun ls hl => ?_)
          exact J75 x116 H locs ls w72 (show 0 ≤ a2.toInt by omega) (show a2.toInt ≤ 9 by omega) (show 0 ≤ v34_3.toInt by omega) (show v34_3.toInt ≤ 399 by omega) (show 1 ≤ f34_0_1.toInt by omega) (show f34_0_1.toInt ≤ 400 by omega) (show 0 ≤ f34_0_14.toInt by omega) (show f34_0_14.toInt ≤ 399 by omega)  hw hT hF c80 c81 (lv_sub hl [1, 2, 3, 4, 0] rfl)
  refine lv_aload_n hx hb dX12_numberHere_0 rfl (lv_at hl 0 rfl) ?_
  refine tk_Vi hC hK hw hT hA hE hSR kM_at0 (by decide) rfl (k_X12_see_1 l adK adV dC dI cy ad B (by omega) (by omega) qr s1    w0 s.heap.size hT ) (cwV 0 hC.2.2.2.2 gX12_numberHere_X12_see rfl rfl rfl (by decide +kernel) ⟨Nat.le_of_ble_eq_true rfl, Nat.le_of_ble_eq_true rfl⟩) rfl hl.1 rfl (Nat.le_of_ble_eq_true rfl) dX12_numberHere_1 (fun r117 w119 H locs hp118 hw => ?_)
  obtain ⟨hT, k120, hg129⟩ := hp118
  have hF := hF.tr k120 (by decide)
  rcases hg129 with ⟨g121, g122, ⟨x123, c124, rx123, tx123⟩, ⟨x125, c126, rx125, tx125⟩⟩ | ⟨rfl, ⟨x127, c128, rx127, tx127⟩⟩
  · refine lv_pop hx hb dX12_numberHere_4 rfl ?_
    refine lv_aload_n hx hb dX12_numberHere_5 rfl (lv_at hl 0 rfl) ?_
    refine lv_aload_n hx hb dX12_numberHere_6 rfl (lv_at hl 0 rfl) ?_
    refine tk_geti hC hK hw hT hinX12 kM_at0 (by decide) rfl 14 (by decide) (List.mem_of_getElem? (i := 1) rfl) rfl rfl dX12_numberHere_7 (fun x130 c131 rx130 tx130 => ?_)
    refine wk_top x125 (c131.symm.trans c126) ?_
    refine tk_Vi hC hK hw hT hA hE hSR kM_at0 (by decide) rfl (k_X12_isDigit_2 l adK adV dC dI cy ad B (by omega) (by omega) qr s1   x125 (show 0 ≤ x125.toInt by omega) (show x125.toInt ≤ 399 by omega) w119 H.size hT ) (cwV 1 hC.2.2.2.2 gX12_numberHere_X12_isDigit rfl rfl rfl (by decide +kernel) ⟨Nat.le_of_ble_eq_true rfl, Nat.le_of_ble_eq_true rfl⟩) rfl hl.1 rfl (Nat.le_of_ble_eq_true rfl) dX12_numberHere_10 (fun r132 w134 H locs hp133 hw => ?_)
    obtain ⟨hT, k135, hg140⟩ := hp133
    have hF := hF.tr k135 (by decide)
    have c141 := k135.gi kM_at0 (by decide) c124
    have c142 := k135.gi kM_at0 (by decide) c126
    rcases hg140 with ⟨rfl, ⟨x136, c137, rx136, tx136⟩⟩ | ⟨rfl, ⟨x138, c139, rx138, tx138⟩⟩
    · have ex136 : x136.toInt = x123.toInt := by rw [← c141.symm.trans c137]
      refine lv_if_ne (tgt := 26) hx hb dX12_numberHere_13 (by decide) (fun c => absurd (by decide) c) (fun _ => ?_)
      refine lv_aload_n hx hb dX12_numberHere_16 rfl (lv_at hl 0 rfl) ?_
      refine lv_iconst (v := 0) hx hb dX12_numberHere_17 (by decide) ?_
      refine lv_aload_n hx hb dX12_numberHere_18 rfl (lv_at hl 0 rfl) ?_
      refine tk_geti hC hK hw hT hinX12 kM_at0 (by decide) rfl 14 (by decide) (List.mem_of_getElem? (i := 1) rfl) rfl rfl dX12_numberHere_19 (fun x143 c144 rx143 tx143 => ?_)
      refine wk_top x125 (c144.symm.trans c142) ?_
      refine tk_Vi hC hK hw hT hA hE hSR kM_at0 (by decide) rfl (k_X12_fails_1 l adK adV dC dI cy ad B (by omega) (by omega) qr s1   0 (by decide) (by decide) x125 (show 0 ≤ x125.toInt by omega) (show x125.toInt ≤ 400 by omega) w134 H.size hT ) (cwV 2 hC.2.2.2.2 gX12_numberHere_X12_fails rfl rfl rfl (by decide +kernel) ⟨Nat.le_of_ble_eq_true rfl, Nat.le_of_ble_eq_true rfl⟩) rfl hl.1 rfl (Nat.le_of_ble_eq_true rfl) dX12_numberHere_22 (fun r145 w147 H locs hp146 hw => ?_)
      obtain ⟨hT, k148, hg151⟩ := hp146
      have hF := hF.tr k148 (by decide)
      have c152 := k148.gi kM_at0 (by decide) c141
      have c153 := k148.gi kM_at0 (by decide) c142
      obtain ⟨rfl, ⟨x149, c150, rx149, tx149⟩⟩ := hg151
      exact tk_zret hC hr rfl hlocks hK ⟨hT, hF, (Or.inl ⟨rfl, ⟨x123, c152, (show 1 ≤ x123.toInt by omega), (show x123.toInt ≤ 400 by omega)⟩, ⟨x149, c150, (show 1 ≤ x149.toInt by omega), (show x149.toInt ≤ 3205 by omega)⟩⟩)⟩ hw dX12_numberHere_25
    · have ex138 : x138.toInt = x123.toInt := by rw [← c141.symm.trans c139]
      refine lv_if_ne (tgt := 26) hx hb dX12_numberHere_13 (by decide) (fun _ => ?_) (fun c => absurd c (by decide))
      refine lv_aload_n hx hb dX12_numberHere_26 rfl (lv_at hl 0 rfl) ?_
      refine tk_geti hC hK hw hT hinX12 kM_at0 (by decide) rfl 14 (by decide) (List.mem_of_getElem? (i := 1) rfl) rfl rfl dX12_numberHere_27 (fun x154 c155 rx154 tx154 => ?_)
      refine wk_top x125 (c155.symm.trans c142) ?_
      refine lv_istore_n (lv' := [(3, .int x125), (0, .ref (ad 0)), (1, .int 0), (2, .int a2)]) hx hb dX12_numberHere_30 rfl hl (by decide) rfl (fun ls hl => ?_)
      refine lv_iconst (v := 0) hx hb dX12_numberHere_31 (by decide) ?_
      refine lv_istore (lv' := [(4, .int 0), (3, .int x125), (0, .ref (ad 0)), (1, .int 0), (2, .int a2)]) hx hb dX12_numberHere_32 hl (by decide) rfl (fun ls hl => ?_)
      exact L34 ((400 - x125.toInt).toNat + 1) x125 0 x123 x125 H locs ls w134 (show 0 ≤ a2.toInt by omega) (show a2.toInt ≤ 9 by omega) (show 0 ≤ x125.toInt by omega) (show x125.toInt ≤ 399 by omega) (show 1 ≤ x123.toInt by omega) (show x123.toInt ≤ 400 by omega) (show 0 ≤ x125.toInt by omega) (show x125.toInt ≤ 400 by omega) (Nat.lt_succ_self _) hw hT hF c141 c142 (lv_sub hl [2, 3, 4, 1, 0] rfl)
  · refine lv_pop hx hb dX12_numberHere_4 rfl ?_
    refine lv_aload_n hx hb dX12_numberHere_5 rfl (lv_at hl 0 rfl) ?_
    refine lv_aload_n hx hb dX12_numberHere_6 rfl (lv_at hl 0 rfl) ?_
    refine tk_geti hC hK hw hT hinX12 kM_at0 (by decide) rfl 14 (by decide) (List.mem_of_getElem? (i := 1) rfl) rfl rfl dX12_numberHere_7 (fun x156 c157 rx156 tx156 => ?_)
    refine tk_Vi hC hK hw hT hA hE hSR kM_at0 (by decide) rfl (k_X12_isDigit_1 l adK adV dC dI cy ad B (by omega) (by omega) qr s1   x156 (show 0 ≤ x156.toInt by omega) (show x156.toInt ≤ 400 by omega) w119 H.size hT ) (cwV 1 hC.2.2.2.2 gX12_numberHere_X12_isDigit rfl rfl rfl (by decide +kernel) ⟨Nat.le_of_ble_eq_true rfl, Nat.le_of_ble_eq_true rfl⟩) rfl hl.1 rfl (Nat.le_of_ble_eq_true rfl) dX12_numberHere_10 (fun r158 w160 H locs hp159 hw => ?_)
    obtain ⟨hT, k161, hg167⟩ := hp159
    have hF := hF.tr k161 (by decide)
    have c168 := k161.gi kM_at0 (by decide) c128
    have c169 := k161.gi kM_at0 (by decide) c157
    rcases hg167 with ⟨rfl, ⟨x162, c163, rx162, tx162⟩⟩ | ⟨rfl, g164, ⟨x165, c166, rx165, tx165⟩⟩
    · have ex162 : x162.toInt = x127.toInt := by rw [← c168.symm.trans c163]
      refine lv_if_ne (tgt := 26) hx hb dX12_numberHere_13 (by decide) (fun c => absurd (by decide) c) (fun _ => ?_)
      refine lv_aload_n hx hb dX12_numberHere_16 rfl (lv_at hl 0 rfl) ?_
      refine lv_iconst (v := 0) hx hb dX12_numberHere_17 (by decide) ?_
      refine lv_aload_n hx hb dX12_numberHere_18 rfl (lv_at hl 0 rfl) ?_
      refine tk_geti hC hK hw hT hinX12 kM_at0 (by decide) rfl 14 (by decide) (List.mem_of_getElem? (i := 1) rfl) rfl rfl dX12_numberHere_19 (fun x170 c171 rx170 tx170 => ?_)
      refine wk_top x156 (c171.symm.trans c169) ?_
      refine tk_Vi hC hK hw hT hA hE hSR kM_at0 (by decide) rfl (k_X12_fails_1 l adK adV dC dI cy ad B (by omega) (by omega) qr s1   0 (by decide) (by decide) x156 (show 0 ≤ x156.toInt by omega) (show x156.toInt ≤ 400 by omega) w160 H.size hT ) (cwV 2 hC.2.2.2.2 gX12_numberHere_X12_fails rfl rfl rfl (by decide +kernel) ⟨Nat.le_of_ble_eq_true rfl, Nat.le_of_ble_eq_true rfl⟩) rfl hl.1 rfl (Nat.le_of_ble_eq_true rfl) dX12_numberHere_22 (fun r172 w174 H locs hp173 hw => ?_)
      obtain ⟨hT, k175, hg178⟩ := hp173
      have hF := hF.tr k175 (by decide)
      have c179 := k175.gi kM_at0 (by decide) c168
      have c180 := k175.gi kM_at0 (by decide) c169
      obtain ⟨rfl, ⟨x176, c177, rx176, tx176⟩⟩ := hg178
      exact tk_zret hC hr rfl hlocks hK ⟨hT, hF, (Or.inr (Or.inl ⟨rfl, ⟨x127, c179, (show 0 ≤ x127.toInt by omega), (show x127.toInt ≤ 400 by omega)⟩, ⟨x176, c177, (show 1 ≤ x176.toInt by omega), (show x176.toInt ≤ 3205 by omega)⟩⟩))⟩ hw dX12_numberHere_25
    · have ex165 : x165.toInt = x127.toInt := by rw [← c168.symm.trans c166]
      refine lv_if_ne (tgt := 26) hx hb dX12_numberHere_13 (by decide) (fun _ => ?_) (fun c => absurd c (by decide))
      refine lv_aload_n hx hb dX12_numberHere_26 rfl (lv_at hl 0 rfl) ?_
      refine tk_geti hC hK hw hT hinX12 kM_at0 (by decide) rfl 14 (by decide) (List.mem_of_getElem? (i := 1) rfl) rfl rfl dX12_numberHere_27 (fun x181 c182 rx181 tx181 => ?_)
      refine wk_top x156 (c182.symm.trans c169) ?_
      refine lv_istore_n (lv' := [(3, .int x156), (0, .ref (ad 0)), (1, .int 0), (2, .int a2)]) hx hb dX12_numberHere_30 rfl hl (by decide) rfl (fun ls hl => ?_)
      refine lv_iconst (v := 0) hx hb dX12_numberHere_31 (by decide) ?_
      refine lv_istore (lv' := [(4, .int 0), (3, .int x156), (0, .ref (ad 0)), (1, .int 0), (2, .int a2)]) hx hb dX12_numberHere_32 hl (by decide) rfl (fun ls hl => ?_)
      exact L34 ((400 - x156.toInt).toNat + 1) x156 0 x127 x156 H locs ls w160 (show 0 ≤ a2.toInt by omega) (show a2.toInt ≤ 9 by omega) (show 0 ≤ x156.toInt by omega) (show x156.toInt ≤ 399 by omega) (show 1 ≤ x127.toInt by omega) (show x127.toInt ≤ 400 by omega) (show 0 ≤ x156.toInt by omega) (show x156.toInt ≤ 400 by omega) (Nat.lt_succ_self _) hw hT hF c168 c169 (lv_sub hl [2, 3, 4, 1, 0] rfl)
abbrev P_X12_in_7 (ad : Nat → Nat) (cy : Nat → ClassId) (B : Int) (qr : Nat) (s1 : Int) (a0 : Int64) (w0 : va_W) : Int32 → va_W → Prop := fun r u => TW ksM ad cy B qr 12 u ∧ FE ksM ([] : List (Nat × Nat × Nat)) w0 u ∧ ((r = 0) ∨ (r = 1 ∧ 1 ≤ a0.toInt ∧ a0.toInt ≤ 9))
set_option maxHeartbeats 4000000 in
set_option maxRecDepth 100000 in
theorem k_X12_in_7 (l : Launch) (adK adV : Nat → Nat) (dC : Nat → ClassId) (dI : Nat → Nat → Nat) (cy : Nat → ClassId) (ad : Nat → Nat) (B : Int) (hB0 : 100000 ≤ B) (hB1 : B ≤ 1073741824) (qr : Nat) (s1 : Int)  (a0 : Int64) (ra0 : (-2147483648) ≤ a0.toInt) (ta0 : a0.toInt ≤ 2147483647) (w0 : va_W) (sz : Nat) (hT : TW ksM ad cy B qr 12 w0)  : Met l yX12_in wsX12_in ({ frames := 1, cells := 0, slots := 0, locals := 12 }) (va_Pc [.long a0, .long 1, .long 9] (wpreS adK adV dC dI cy sz w0)) (va_Qi (P_X12_in_7 ad cy B qr s1 a0 w0) (fun u : va_W => wpost dC dI cy (va_A w0 sz) u) (va_A w0 sz)) 0 0 (va_A w0 sz) := by
  refine Met.ofW (cc := cX12_in) (maxL := 6) (ret := (some .boolean)) (by decide) rfl ?_
  intro p e s m args below meth c s₁ Bk hml hv
  obtain ⟨rfl, ⟨hsz, hP, hK, hD0⟩, hE, hSR⟩ := hv
  have hx := Bk.exec
  have hb := Bk.bytes
  have hr := Bk.returns
  have hlocks := Bk.notSynchronized
  have hC : CallFix p m c cX12_in 6 s _ wsX12_in RX12 := ⟨hx, hb, hml, findClass_of_methodNamed Bk.named, atoms_spec (ws := wsX12_in) Bk.pre⟩
  subst hsz
  have hD := hD0.self (sz := s.heap.size)
  generalize hAe : va_A w0 s.heap.size = A at hD hE ⊢
  have hA : ∀ q : Nat, s.heap.size ≤ q → A q := fun q h => by rw [← hAe]; exact Or.inr h
  have hw : Wd dC dI A s.heap s.heap [] w0 := ⟨hP, hD, va_S.rf⟩
  have hF : FE ksM ([] : List (Nat × Nat × Nat)) w0 w0 := FE.rf
  have hl := lv_entry ([.long a0, .long 1, .long 9]) (n := 6) (Nat.le_of_ble_eq_true rfl)
  rw [lg_entry_eq]
  generalize (lg_sl ([.long a0, .long 1, .long 9]) ++ List.replicate (6 - (lg_sl ([.long a0, .long 1, .long 9])).length) Slot.unset).toArray = ls at hl ⊢
  have hl : lv_has ls 6 [(0, .long a0), (2, .long 1), (4, .long 9)] := hl
  generalize hloc : ([] : List Loc) = locs at hw ⊢
  have J17 : ∀ (H : Heap) (locs : List Loc) (ls : Array Slot) (w1 : va_W), (-2147483648) ≤ a0.toInt → a0.toInt ≤ 2147483647 → Wd dC dI A s.heap H locs w1 → TW ksM ad cy B qr 12 w1 → FE ksM ([] : List (Nat × Nat × Nat)) w0 w1 → lv_has ls 6 [(0, .long a0), (2, .long 1), (4, .long 9)] → W p l e ({ frames := 1, cells := 0, slots := 0, locals := 12 }) s m (List.toArray [.long a0, .long 1, .long 9]) below meth c H locs 0 0 (MQ below (va_Qi (P_X12_in_7 ad cy B qr s1 a0 w0) (fun u : va_W => wpost dC dI cy A u) A) (List.toArray [.long a0, .long 1, .long 9]) s 0 0 A) (F0 m 17 ls []) := by
    intro H locs ls w1 r2 t3 hw hT hF hl
    refine lv_iconst (v := 0) hx hb dX12_in_17 (by decide) ?_
    exact tk_zret hC hr rfl hlocks hK ⟨hT, hF, (Or.inl rfl)⟩ hw dX12_in_18
  refine lv_lload_n hx hb dX12_in_0 rfl (lv_at hl 0 rfl) ?_
  refine lv_lload_n hx hb dX12_in_1 rfl (lv_at hl 1 rfl) ?_
  refine W.lcmp hx hb dX12_in_2 ?_
  refine lv_if_lt (tgt := 17) hx hb dX12_in_3 (by decide) (fun c4 => ?_) (fun c4 => ?_)
  · have c4 : a0.toInt < (1 : Int) := wk_cltT c4
    exact J17  s.heap locs ls w0 (show (-2147483648) ≤ a0.toInt by omega) (show a0.toInt ≤ 2147483647 by omega)  hw hT hF  (lv_sub hl [0, 1, 2] rfl)
  · have c4 : (1 : Int) ≤ a0.toInt := wk_cltF c4
    refine lv_lload_n hx hb dX12_in_6 rfl (lv_at hl 0 rfl) ?_
    refine lv_lload hx hb dX12_in_7 (lv_at hl 2 rfl) ?_
    refine W.lcmp hx hb dX12_in_9 ?_
    refine lv_if_gt (tgt := 17) hx hb dX12_in_10 (by decide) (fun c5 => ?_) (fun c5 => ?_)
    · have c5 : (9 : Int) < a0.toInt := wk_cgtT c5
      exact J17  s.heap locs ls w0 (show (-2147483648) ≤ a0.toInt by omega) (show a0.toInt ≤ 2147483647 by omega)  hw hT hF  (lv_sub hl [0, 1, 2] rfl)
    · have c5 : a0.toInt ≤ (9 : Int) := wk_cgtF c5
      refine lv_iconst (v := 1) hx hb dX12_in_13 (by decide) ?_
      refine lv_goto (tgt := 18) hx hb dX12_in_14 (by decide) ?_
      exact tk_zret hC hr rfl hlocks hK ⟨hT, hF, (Or.inr ⟨rfl, (show 1 ≤ a0.toInt by omega), (show a0.toInt ≤ 9 by omega)⟩)⟩ hw dX12_in_18
abbrev P_X12_numberHere_7 (ad : Nat → Nat) (cy : Nat → ClassId) (B : Int) (qr : Nat) (s1 : Int)  (w0 : va_W) : Int32 → va_W → Prop := fun r u => TW ksM ad cy B qr 12 u ∧ FE ksM [(12, 14, 14), (12, 15, 15), (12, 16, 16)] w0 u ∧ ((r = 0 ∧ (∃ y : Int32, gi u 0 1 = y ∧ 1 ≤ y.toInt ∧ y.toInt ≤ 400) ∧ (∃ y : Int32, gi u 0 15 = y ∧ 1 ≤ y.toInt ∧ y.toInt ≤ 3205)) ∨ (r = 0 ∧ (∃ y : Int32, gi u 0 1 = y ∧ 0 ≤ y.toInt ∧ y.toInt ≤ 400) ∧ (∃ y : Int32, gi u 0 15 = y ∧ 1 ≤ y.toInt ∧ y.toInt ≤ 3205)) ∨ (r = 1 ∧ (∃ y : Int32, gi u 0 1 = y ∧ 1 ≤ y.toInt ∧ y.toInt ≤ 400) ∧ (∃ y : Int32, gi u 0 16 = y ∧ 1 ≤ y.toInt ∧ y.toInt ≤ 9)))
set_option maxHeartbeats 4000000 in
set_option maxRecDepth 100000 in
theorem k_X12_numberHere_7 (l : Launch) (adK adV : Nat → Nat) (dC : Nat → ClassId) (dI : Nat → Nat → Nat) (cy : Nat → ClassId) (ad : Nat → Nat) (B : Int) (hB0 : 100000 ≤ B) (hB1 : B ≤ 1073741824) (qr : Nat) (s1 : Int)   (w0 : va_W) (sz : Nat) (hT : TW ksM ad cy B qr 12 w0)  : Met l yX12_numberHere wsX12_numberHere ({ frames := 2, cells := 0, slots := 0, locals := 37 }) (va_Pc [.ref (ad 0), .int 1, .int 9] (wpreS adK adV dC dI cy sz w0)) (va_Qi (P_X12_numberHere_7 ad cy B qr s1  w0) (fun u : va_W => wpost dC dI cy (va_A w0 sz) u) (va_A w0 sz)) 0 0 (va_A w0 sz) := by
  refine Met.ofW (cc := cX12_numberHere) (maxL := 5) (ret := (some .boolean)) (by decide) rfl ?_
  intro p e s m args below meth c s₁ Bk hml hv
  obtain ⟨rfl, ⟨hsz, hP, hK, hD0⟩, hE, hSR⟩ := hv
  have hx := Bk.exec
  have hb := Bk.bytes
  have hr := Bk.returns
  have hlocks := Bk.notSynchronized
  have hC : CallFix p m c cX12_numberHere 5 s _ wsX12_numberHere RX12 := ⟨hx, hb, hml, findClass_of_methodNamed Bk.named, atoms_spec (ws := wsX12_numberHere) Bk.pre⟩
  subst hsz
  have hD := hD0.self (sz := s.heap.size)
  generalize hAe : va_A w0 s.heap.size = A at hD hE ⊢
  have hA : ∀ q : Nat, s.heap.size ≤ q → A q := fun q h => by rw [← hAe]; exact Or.inr h
  have hw : Wd dC dI A s.heap s.heap [] w0 := ⟨hP, hD, va_S.rf⟩
  have hF : FE ksM [(12, 14, 14), (12, 15, 15), (12, 16, 16)] w0 w0 := FE.rf
  have hl := lv_entry ([.ref (ad 0), .int 1, .int 9]) (n := 5) (Nat.le_of_ble_eq_true rfl)
  rw [lg_entry_eq]
  generalize (lg_sl ([.ref (ad 0), .int 1, .int 9]) ++ List.replicate (5 - (lg_sl ([.ref (ad 0), .int 1, .int 9])).length) Slot.unset).toArray = ls at hl ⊢
  have hl : lv_has ls 5 [(0, .ref (ad 0)), (1, .int 1), (2, .int 9)] := hl
  generalize hloc : ([] : List Loc) = locs at hw ⊢
  have hinX12 : ∀ w ∈ u_ws RX12 TX12 42, w ∈ wsX12_numberHere := fun _ h => List.mem_cons_of_mem _ (List.mem_append_right _ (h))
  have J126 : ∀ (v126_3 : Int32) (v126_4 : Int32) (f126_0_1 : Int32) (f126_0_14 : Int32) (f126_0_16 : Int32) (H : Heap) (locs : List Loc) (ls : Array Slot) (w1 : va_W), 0 ≤ v126_3.toInt → v126_3.toInt ≤ 399 → 1 ≤ v126_4.toInt → v126_4.toInt ≤ 9 → 1 ≤ f126_0_1.toInt → f126_0_1.toInt ≤ 400 → 0 ≤ f126_0_14.toInt → f126_0_14.toInt ≤ 400 → 1 ≤ f126_0_16.toInt → f126_0_16.toInt ≤ 9 → Wd dC dI A s.heap H locs w1 → TW ksM ad cy B qr 12 w1 → FE ksM [(12, 14, 14), (12, 15, 15), (12, 16, 16)] w0 w1 → gi w1 0 1 = f126_0_1 → gi w1 0 14 = f126_0_14 → gi w1 0 16 = f126_0_16 → lv_has ls 5 [(0, .ref (ad 0)), (1, .int 1), (2, .int 9), (3, .int v126_3), (4, .int v126_4)] → W p l e ({ frames := 2, cells := 0, slots := 0, locals := 37 }) s m (List.toArray [.ref (ad 0), .int 1, .int 9]) below meth c H locs 0 0 (MQ below (va_Qi (P_X12_numberHere_7 ad cy B qr s1  w0) (fun u : va_W => wpost dC dI cy A u) A) (List.toArray [.ref (ad 0), .int 1, .int 9]) s 0 0 A) (F0 m 126 ls []) := by
    intro v126_3 v126_4 f126_0_1 f126_0_14 f126_0_16 H locs ls w1 r2 t3 r4 t5 r6 t7 r9 t10 r12 t13 hw hT hF c8 c11 c14 hl
    refine lv_iconst (v := 1) hx hb dX12_numberHere_126 (by decide) ?_
    refine lv_goto (tgt := 131) hx hb dX12_numberHere_127 (by decide) ?_
    exact tk_zret hC hr rfl hlocks hK ⟨hT, hF, (Or.inr (Or.inr ⟨rfl, ⟨f126_0_1, c8, (show 1 ≤ f126_0_1.toInt by omega), (show f126_0_1.toInt ≤ 400 by omega)⟩, ⟨f126_0_16, c14, (show 1 ≤ f126_0_16.toInt by omega), (show f126_0_16.toInt ≤ 9 by omega)⟩⟩))⟩ hw dX12_numberHere_131
  have J117 : ∀ (v117_3 : Int32) (v117_4 : Int32) (f117_0_1 : Int32) (f117_0_14 : Int32) (f117_0_16 : Int32) (H : Heap) (locs : List Loc) (ls : Array Slot) (w15 : va_W), 0 ≤ v117_3.toInt → v117_3.toInt ≤ 399 → 1 ≤ f117_0_1.toInt → f117_0_1.toInt ≤ 400 → 0 ≤ f117_0_14.toInt → f117_0_14.toInt ≤ 400 → Wd dC dI A s.heap H locs w15 → TW ksM ad cy B qr 12 w15 → FE ksM [(12, 14, 14), (12, 15, 15), (12, 16, 16)] w0 w15 → gi w15 0 1 = f117_0_1 → gi w15 0 14 = f117_0_14 → gi w15 0 16 = f117_0_16 → lv_has ls 5 [(0, .ref (ad 0)), (1, .int 1), (2, .int 9), (3, .int v117_3), (4, .int v117_4)] → W p l e ({ frames := 2, cells := 0, slots := 0, locals := 37 }) s m (List.toArray [.ref (ad 0), .int 1, .int 9]) below meth c H locs 0 0 (MQ below (va_Qi (P_X12_numberHere_7 ad cy B qr s1  w0) (fun u : va_W => wpost dC dI cy A u) A) (List.toArray [.ref (ad 0), .int 1, .int 9]) s 0 0 A) (F0 m 117 ls []) := by
    intro v117_3 v117_4 f117_0_1 f117_0_14 f117_0_16 H locs ls w15 r16 t17 r18 t19 r21 t22 hw hT hF c20 c23 c24 hl
    refine lv_aload_n hx hb dX12_numberHere_117 rfl (lv_at hl 0 rfl) ?_
    refine lv_iconst (v := 1) hx hb dX12_numberHere_118 (by decide) ?_
    refine lv_iload_n hx hb dX12_numberHere_119 rfl (lv_at hl 3 rfl) ?_
    refine tk_Vi hC hK hw hT hA hE hSR kM_at0 (by decide) rfl (k_X12_fails_1 l adK adV dC dI cy ad B (by omega) (by omega) qr s1   1 (by decide) (by decide) v117_3 (show 0 ≤ v117_3.toInt by omega) (show v117_3.toInt ≤ 400 by omega) w15 H.size hT ) (cwV 2 hC.2.2.2.2 gX12_numberHere_X12_fails rfl rfl rfl (by decide +kernel) ⟨Nat.le_of_ble_eq_true rfl, Nat.le_of_ble_eq_true rfl⟩) rfl hl.1 rfl (Nat.le_of_ble_eq_true rfl) dX12_numberHere_120 (fun r25 w27 H locs hp26 hw => ?_)
    obtain ⟨hT, k28, hg31⟩ := hp26
    have hF := hF.tr k28 (by decide)
    have c32 := k28.gi kM_at0 (by decide) c20
    have c33 := k28.gi kM_at0 (by decide) c23
    have c34 := k28.gi kM_at0 (by decide) c24
    obtain ⟨rfl, ⟨x29, c30, rx29, tx29⟩⟩ := hg31
    refine lv_if_eq (tgt := 130) hx hb dX12_numberHere_123 (by decide) (fun _ => ?_) (fun c => absurd (by decide) c)
    refine lv_iconst (v := 0) hx hb dX12_numberHere_130 (by decide) ?_
    exact tk_zret hC hr rfl hlocks hK ⟨hT, hF, (Or.inl ⟨rfl, ⟨f117_0_1, c32, (show 1 ≤ f117_0_1.toInt by omega), (show f117_0_1.toInt ≤ 400 by omega)⟩, ⟨x29, c30, (show 1 ≤ x29.toInt by omega), (show x29.toInt ≤ 3205 by omega)⟩⟩)⟩ hw dX12_numberHere_131
  have L34 : ∀ (n34 : Nat) (v34_3 : Int32) (v34_4 : Int32) (f34_0_1 : Int32) (f34_0_14 : Int32) (H : Heap) (locs : List Loc) (ls : Array Slot) (w35 : va_W), 0 ≤ v34_3.toInt → v34_3.toInt ≤ 399 → 1 ≤ f34_0_1.toInt → f34_0_1.toInt ≤ 400 → 0 ≤ f34_0_14.toInt → f34_0_14.toInt ≤ 400 → (400 - f34_0_14.toInt).toNat < n34 → Wd dC dI A s.heap H locs w35 → TW ksM ad cy B qr 12 w35 → FE ksM [(12, 14, 14), (12, 15, 15), (12, 16, 16)] w0 w35 → gi w35 0 1 = f34_0_1 → gi w35 0 14 = f34_0_14 → lv_has ls 5 [(0, .ref (ad 0)), (1, .int 1), (2, .int 9), (3, .int v34_3), (4, .int v34_4)] → W p l e ({ frames := 2, cells := 0, slots := 0, locals := 37 }) s m (List.toArray [.ref (ad 0), .int 1, .int 9]) below meth c H locs 0 0 (MQ below (va_Qi (P_X12_numberHere_7 ad cy B qr s1  w0) (fun u : va_W => wpost dC dI cy A u) A) (List.toArray [.ref (ad 0), .int 1, .int 9]) s 0 0 A) (F0 m 34 ls []) := by
    intro n34
    induction n34 with
    | zero => intro v34_3 v34_4 f34_0_1 f34_0_14 H locs ls w35 r36 t37 r38 t39 r41 t42 hm34 hw hT hF c40 c43 hl; omega
    | succ n34 ih34 =>
      intro v34_3 v34_4 f34_0_1 f34_0_14 H locs ls w35 r36 t37 r38 t39 r41 t42 hm34 hw hT hF c40 c43 hl
      have J75 : ∀ (v75_4 : Int32) (H : Heap) (locs : List Loc) (ls : Array Slot) (w44 : va_W), 0 ≤ v34_3.toInt → v34_3.toInt ≤ 399 → 1 ≤ f34_0_1.toInt → f34_0_1.toInt ≤ 400 → 0 ≤ f34_0_14.toInt → f34_0_14.toInt ≤ 399 → Wd dC dI A s.heap H locs w44 → TW ksM ad cy B qr 12 w44 → FE ksM [(12, 14, 14), (12, 15, 15), (12, 16, 16)] w0 w44 → gi w44 0 1 = f34_0_1 → gi w44 0 14 = f34_0_14 → lv_has ls 5 [(0, .ref (ad 0)), (1, .int 1), (2, .int 9), (3, .int v34_3), (4, .int v75_4)] → W p l e ({ frames := 2, cells := 0, slots := 0, locals := 37 }) s m (List.toArray [.ref (ad 0), .int 1, .int 9]) below meth c H locs 0 0 (MQ below (va_Qi (P_X12_numberHere_7 ad cy B qr s1  w0) (fun u : va_W => wpost dC dI cy A u) A) (List.toArray [.ref (ad 0), .int 1, .int 9]) s 0 0 A) (F0 m 75 ls []) := by
        intro v75_4 H locs ls w44 r45 t46 r47 t48 r50 t51 hw hT hF c49 c52 hl
        refine lv_aload_n hx hb dX12_numberHere_75 rfl (lv_at hl 0 rfl) ?_
        refine lv_dup hx hb dX12_numberHere_76 rfl ?_
        refine tk_geti hC hK hw hT hinX12 kM_at0 (by decide) rfl 14 (by decide) (List.mem_of_getElem? (i := 1) rfl) rfl rfl dX12_numberHere_77 (fun x53 c54 rx53 tx53 => ?_)
        refine wk_top f34_0_14 (c54.symm.trans c52) ?_
        refine lv_iconst (v := 1) hx hb dX12_numberHere_80 (by decide) ?_
        refine lv_iadd hx hb dX12_numberHere_81 ?_
        refine lv_topi (fun x55 ex55 => ?_)
        have ex55 : x55.toInt = f34_0_14.toInt + (1 : Int) := by rw [ex55]; exact wk_add (show (-2147483648) ≤ f34_0_14.toInt + (1 : Int) by omega) (show f34_0_14.toInt + (1 : Int) ≤ 2147483647 by omega)
        refine tk_puti hC hK hw hT hinX12 tyX12_ok nmX12 kM_at0 (by decide) rfl rfl 14 (by decide) (List.mem_of_getElem? (i := 1) rfl) rfl rfl rfl rfl (show 0 ≤ x55.toInt by omega) (show x55.toInt ≤ 400 by omega) dX12_numberHere_82 (fun H locs w56 hw hT k58 c57 => ?_)
        have hF := hF.put kM_at0 (k := 14) (by decide) k58
        have c59 := k58.gi (Or.inr (by decide)) c49
        refine lv_goto (tgt := 34) hx hb dX12_numberHere_85 (by decide) ?_
        exact ih34 v34_3 v75_4 f34_0_1 x55 H locs ls w56 (show 0 ≤ v34_3.toInt by omega) (show v34_3.toInt ≤ 399 by omega) (show 1 ≤ f34_0_1.toInt by omega) (show f34_0_1.toInt ≤ 400 by omega) (show 0 ≤ x55.toInt by omega) (show x55.toInt ≤ 400 by omega) (show (400 - x55.toInt).toNat < n34 by omega) hw hT hF c59 c57 (lv_sub hl [0, 1, 2, 3, 4] rfl)
      refine lv_aload_n hx hb dX12_numberHere_34 rfl (lv_at hl 0 rfl) ?_
      refine lv_aload_n hx hb dX12_numberHere_35 rfl (lv_at hl 0 rfl) ?_
      refine tk_geti hC hK hw hT hinX12 kM_at0 (by decide) rfl 14 (by decide) (List.mem_of_getElem? (i := 1) rfl) rfl rfl dX12_numberHere_36 (fun x60 c61 rx60 tx60 => ?_)
      refine wk_top f34_0_14 (c61.symm.trans c43) ?_
      refine tk_Vi hC hK hw hT hA hE hSR kM_at0 (by decide) rfl (k_X12_isDigit_1 l adK adV dC dI cy ad B (by omega) (by omega) qr s1   f34_0_14 (show 0 ≤ f34_0_14.toInt by omega) (show f34_0_14.toInt ≤ 400 by omega) w35 H.size hT ) (cwV 1 hC.2.2.2.2 gX12_numberHere_X12_isDigit rfl rfl rfl (by decide +kernel) ⟨Nat.le_of_ble_eq_true rfl, Nat.le_of_ble_eq_true rfl⟩) rfl hl.1 rfl (Nat.le_of_ble_eq_true rfl) dX12_numberHere_39 (fun r62 w64 H locs hp63 hw => ?_)
      obtain ⟨hT, k65, hg71⟩ := hp63
      have hF := hF.tr k65 (by decide)
      have c72 := k65.gi kM_at0 (by decide) c40
      have c73 := k65.gi kM_at0 (by decide) c43
      rcases hg71 with ⟨rfl, ⟨x66, c67, rx66, tx66⟩⟩ | ⟨rfl, g68, ⟨x69, c70, rx69, tx69⟩⟩
      · have ex66 : x66.toInt = f34_0_1.toInt := by rw [← c72.symm.trans c67]
        refine lv_if_eq (tgt := 88) hx hb dX12_numberHere_42 (by decide) (fun _ => ?_) (fun c => absurd (by decide) c)
        refine lv_aload_n hx hb dX12_numberHere_88 rfl (lv_at hl 0 rfl) ?_
        refine lv_iload hx hb dX12_numberHere_89 (lv_at hl 4 rfl) ?_
        refine tk_puti hC hK hw hT hinX12 tyX12_ok nmX12 kM_at0 (by decide) rfl rfl 16 (by decide) (List.mem_of_getElem? (i := 3) rfl) rfl rfl rfl rfl (wk_i32 v34_4).1 (wk_i32 v34_4).2 dX12_numberHere_91 (fun H locs w74 hw hT k76 c75 => ?_)
        have hF := hF.put kM_at0 (k := 16) (by decide) k76
        have c77 := k76.gi (Or.inr (by decide)) c72
        have c78 := k76.gi (Or.inr (by decide)) c73
        refine lv_aload_n hx hb dX12_numberHere_94 rfl (lv_at hl 0 rfl) ?_
        refine tk_geti hC hK hw hT hinX12 kM_at0 (by decide) rfl 14 (by decide) (List.mem_of_getElem? (i := 1) rfl) rfl rfl dX12_numberHere_95 (fun x79 c80 rx79 tx79 => ?_)
        refine wk_top f34_0_14 (c80.symm.trans c78) ?_
        refine lv_iload_n hx hb dX12_numberHere_98 rfl (lv_at hl 3 rfl) ?_
        refine lv_isub hx hb dX12_numberHere_99 ?_
        refine lv_topi (fun x81 ex81 => ?_)
        have ex81 : x81.toInt = f34_0_14.toInt - v34_3.toInt := by rw [ex81]; exact wk_sub (show (-2147483648) ≤ f34_0_14.toInt - v34_3.toInt by omega) (show f34_0_14.toInt - v34_3.toInt ≤ 2147483647 by omega)
        refine lv_iconst (v := 5) hx hb dX12_numberHere_100 (by decide) ?_
        refine lv_icmp_gt (tgt := 117) hx hb dX12_numberHere_101 (by decide) (fun c82 => ?_) (fun c82 => ?_)
        · have c82 : (5 : Int) < x81.toInt := wk_lt.mp c82
          exact J117 v34_3 v34_4 f34_0_1 f34_0_14 v34_4 H locs ls w74 (show 0 ≤ v34_3.toInt by omega) (show v34_3.toInt ≤ 399 by omega) (show 1 ≤ f34_0_1.toInt by omega) (show f34_0_1.toInt ≤ 400 by omega) (show 0 ≤ f34_0_14.toInt by omega) (show f34_0_14.toInt ≤ 400 by omega)  hw hT hF c77 c78 c75 (lv_sub hl [0, 1, 2, 3, 4] rfl)
        · have c82 : x81.toInt ≤ (5 : Int) := wk_ltF c82
          refine lv_iload hx hb dX12_numberHere_104 (lv_at hl 4 rfl) ?_
          refine lv_i2l hx hb dX12_numberHere_106 rfl ?_
          refine lv_topl (fun x83 ex83 => ?_)
          have ex83 : x83.toInt = v34_4.toInt := by rw [ex83]; exact wk_i2l _
          have bx83 := wk_i32 v34_4
          refine lv_iload_n hx hb dX12_numberHere_107 rfl (lv_at hl 1 rfl) ?_
          refine lv_i2l hx hb dX12_numberHere_108 rfl ?_
          refine wk_topl 1 (by decide) ?_
          refine lv_iload_n hx hb dX12_numberHere_109 rfl (lv_at hl 2 rfl) ?_
          refine lv_i2l hx hb dX12_numberHere_110 rfl ?_
          refine wk_topl 9 (by decide) ?_
          refine tk_Si hC hK hw hT hA hE hSR (k_X12_in_7 l adK adV dC dI cy ad B (by omega) (by omega) qr s1   x83 (show (-2147483648) ≤ x83.toInt by omega) (show x83.toInt ≤ 2147483647 by omega) w74 H.size hT ) (va_cwS 3 hC.2.2.2.2 gX12_numberHere_X12_in rfl rfl rfl (by decide +kernel) ⟨Nat.le_of_ble_eq_true rfl, Nat.le_of_ble_eq_true rfl⟩) rfl hl.1 rfl (Nat.le_of_ble_eq_true rfl) dX12_numberHere_111 (fun r84 w86 H locs hp85 hw => ?_)
          obtain ⟨hT, k87, hg90⟩ := hp85
          have hF := hF.tr k87 (by decide)
          have c91 := k87.gi kM_at0 (by decide) c77
          have c92 := k87.gi kM_at0 (by decide) c78
          have c93 := k87.gi kM_at0 (by decide) c75
          rcases hg90 with rfl | ⟨rfl, g88, g89⟩
          · refine lv_if_ne (tgt := 126) hx hb dX12_numberHere_114 (by decide) (fun c => absurd (by decide) c) (fun _ => ?_)
            exact J117 v34_3 v34_4 f34_0_1 f34_0_14 v34_4 H locs ls w86 (show 0 ≤ v34_3.toInt by omega) (show v34_3.toInt ≤ 399 by omega) (show 1 ≤ f34_0_1.toInt by omega) (show f34_0_1.toInt ≤ 400 by omega) (show 0 ≤ f34_0_14.toInt by omega) (show f34_0_14.toInt ≤ 400 by omega)  hw hT hF c91 c92 c93 (lv_sub hl [0, 1, 2, 3, 4] rfl)
          · refine lv_if_ne (tgt := 126) hx hb dX12_numberHere_114 (by decide) (fun _ => ?_) (fun c => absurd c (by decide))
            exact J126 v34_3 v34_4 f34_0_1 f34_0_14 v34_4 H locs ls w86 (show 0 ≤ v34_3.toInt by omega) (show v34_3.toInt ≤ 399 by omega) (show 1 ≤ v34_4.toInt by omega) (show v34_4.toInt ≤ 9 by omega) (show 1 ≤ f34_0_1.toInt by omega) (show f34_0_1.toInt ≤ 400 by omega) (show 0 ≤ f34_0_14.toInt by omega) (show f34_0_14.toInt ≤ 400 by omega) (show 1 ≤ v34_4.toInt by omega) (show v34_4.toInt ≤ 9 by omega)  hw hT hF c91 c92 c93 (lv_sub hl [0, 1, 2, 3, 4] rfl)
      · have ex69 : x69.toInt = f34_0_1.toInt := by rw [← c72.symm.trans c70]
        refine lv_if_eq (tgt := 88) hx hb dX12_numberHere_42 (by decide) (fun c => absurd c (by decide)) (fun _ => ?_)
        refine lv_aload_n hx hb dX12_numberHere_45 rfl (lv_at hl 0 rfl) ?_
        refine tk_geti hC hK hw hT hinX12 kM_at0 (by decide) rfl 14 (by decide) (List.mem_of_getElem? (i := 1) rfl) rfl rfl dX12_numberHere_46 (fun x94 c95 rx94 tx94 => ?_)
        refine wk_top f34_0_14 (c95.symm.trans c73) ?_
        refine lv_iload_n hx hb dX12_numberHere_49 rfl (lv_at hl 3 rfl) ?_
        refine lv_isub hx hb dX12_numberHere_50 ?_
        refine lv_topi (fun x96 ex96 => ?_)
        have ex96 : x96.toInt = f34_0_14.toInt - v34_3.toInt := by rw [ex96]; exact wk_sub (show (-2147483648) ≤ f34_0_14.toInt - v34_3.toInt by omega) (show f34_0_14.toInt - v34_3.toInt ≤ 2147483647 by omega)
        refine lv_iconst (v := 5) hx hb dX12_numberHere_51 (by decide) ?_
        refine lv_icmp_ge (tgt := 75) hx hb dX12_numberHere_52 (by decide) (fun c97 => ?_) (fun c97 => ?_)
        · have c97 : (5 : Int) ≤ x96.toInt := wk_le.mp c97
          exact J75 v34_4 H locs ls w64 (show 0 ≤ v34_3.toInt by omega) (show v34_3.toInt ≤ 399 by omega) (show 1 ≤ f34_0_1.toInt by omega) (show f34_0_1.toInt ≤ 400 by omega) (show 0 ≤ f34_0_14.toInt by omega) (show f34_0_14.toInt ≤ 399 by omega)  hw hT hF c72 c73 (lv_sub hl [0, 1, 2, 3, 4] rfl)
        · have c97 : x96.toInt < (5 : Int) := wk_leF c97
          refine lv_bipush (v := 10) hx hb dX12_numberHere_55 (by decide) ?_
          refine lv_iload hx hb dX12_numberHere_57 (lv_at hl 4 rfl) ?_
          refine lv_imul hx hb dX12_numberHere_59 ?_
          have nx98 := wk_i32 v34_4
          refine lv_topi (fun x99 ex99 => ?_)
          refine lv_aload_n hx hb dX12_numberHere_60 rfl (lv_at hl 0 rfl) ?_
          refine tk_getA hC hK hw hT hinX12 kM_at0 (by decide) rfl 0 (by decide) (List.mem_of_getElem? (i := 2) rfl) rfl rfl dX12_numberHere_61 ?_
          refine lv_aload_n hx hb dX12_numberHere_64 rfl (lv_at hl 0 rfl) ?_
          refine tk_geti hC hK hw hT hinX12 kM_at0 (by decide) rfl 14 (by decide) (List.mem_of_getElem? (i := 1) rfl) rfl rfl dX12_numberHere_65 (fun x100 c101 rx100 tx100 => ?_)
          refine wk_top f34_0_14 (c101.symm.trans c73) ?_
          refine tk_bald hC hK hw hT kM_at1 rfl rfl (show 0 ≤ f34_0_14.toInt by omega) (show f34_0_14.toInt < 400 by omega) dX12_numberHere_68 (fun x102 c103 rx102 tx102 => ?_)
          refine lv_iadd hx hb dX12_numberHere_69 ?_
          have nx104 := wk_i32 x99
          refine lv_topi (fun x105 ex105 => ?_)
          refine lv_bipush (v := 48) hx hb dX12_numberHere_70 (by decide) ?_
          refine lv_isub hx hb dX12_numberHere_72 ?_
          have nx106 := wk_i32 x105
          refine lv_topi (fun x107 ex107 => ?_)
          refine lv_istore (lv' := [(4, .int x107), (0, .ref (ad 0)), (1, .int 1), (2, .int 9), (3, .int v34_3)]) hx hb dX12_numberHere_73 hl (by decide) rfl (fun ls hl => ?_)
          exact J75 x107 H locs ls w64 (show 0 ≤ v34_3.toInt by omega) (show v34_3.toInt ≤ 399 by omega) (show 1 ≤ f34_0_1.toInt by omega) (show f34_0_1.toInt ≤ 400 by omega) (show 0 ≤ f34_0_14.toInt by omega) (show f34_0_14.toInt ≤ 399 by omega)  hw hT hF c72 c73 (lv_sub hl [1, 2, 3, 4, 0] rfl)
  refine lv_aload_n hx hb dX12_numberHere_0 rfl (lv_at hl 0 rfl) ?_
  refine tk_Vi hC hK hw hT hA hE hSR kM_at0 (by decide) rfl (k_X12_see_1 l adK adV dC dI cy ad B (by omega) (by omega) qr s1    w0 s.heap.size hT ) (cwV 0 hC.2.2.2.2 gX12_numberHere_X12_see rfl rfl rfl (by decide +kernel) ⟨Nat.le_of_ble_eq_true rfl, Nat.le_of_ble_eq_true rfl⟩) rfl hl.1 rfl (Nat.le_of_ble_eq_true rfl) dX12_numberHere_1 (fun r108 w110 H locs hp109 hw => ?_)
  obtain ⟨hT, k111, hg120⟩ := hp109
  have hF := hF.tr k111 (by decide)
  rcases hg120 with ⟨g112, g113, ⟨x114, c115, rx114, tx114⟩, ⟨x116, c117, rx116, tx116⟩⟩ | ⟨rfl, ⟨x118, c119, rx118, tx118⟩⟩
  · refine lv_pop hx hb dX12_numberHere_4 rfl ?_
    refine lv_aload_n hx hb dX12_numberHere_5 rfl (lv_at hl 0 rfl) ?_
    refine lv_aload_n hx hb dX12_numberHere_6 rfl (lv_at hl 0 rfl) ?_
    refine tk_geti hC hK hw hT hinX12 kM_at0 (by decide) rfl 14 (by decide) (List.mem_of_getElem? (i := 1) rfl) rfl rfl dX12_numberHere_7 (fun x121 c122 rx121 tx121 => ?_)
    refine wk_top x116 (c122.symm.trans c117) ?_
    refine tk_Vi hC hK hw hT hA hE hSR kM_at0 (by decide) rfl (k_X12_isDigit_2 l adK adV dC dI cy ad B (by omega) (by omega) qr s1   x116 (show 0 ≤ x116.toInt by omega) (show x116.toInt ≤ 399 by omega) w110 H.size hT ) (cwV 1 hC.2.2.2.2 gX12_numberHere_X12_isDigit rfl rfl rfl (by decide +kernel) ⟨Nat.le_of_ble_eq_true rfl, Nat.le_of_ble_eq_true rfl⟩) rfl hl.1 rfl (Nat.le_of_ble_eq_true rfl) dX12_numberHere_10 (fun r123 w125 H locs hp124 hw => ?_)
    obtain ⟨hT, k126, hg131⟩ := hp124
    have hF := hF.tr k126 (by decide)
    have c132 := k126.gi kM_at0 (by decide) c115
    have c133 := k126.gi kM_at0 (by decide) c117
    rcases hg131 with ⟨rfl, ⟨x127, c128, rx127, tx127⟩⟩ | ⟨rfl, ⟨x129, c130, rx129, tx129⟩⟩
    · have ex127 : x127.toInt = x114.toInt := by rw [← c132.symm.trans c128]
      refine lv_if_ne (tgt := 26) hx hb dX12_numberHere_13 (by decide) (fun c => absurd (by decide) c) (fun _ => ?_)
      refine lv_aload_n hx hb dX12_numberHere_16 rfl (lv_at hl 0 rfl) ?_
      refine lv_iconst (v := 0) hx hb dX12_numberHere_17 (by decide) ?_
      refine lv_aload_n hx hb dX12_numberHere_18 rfl (lv_at hl 0 rfl) ?_
      refine tk_geti hC hK hw hT hinX12 kM_at0 (by decide) rfl 14 (by decide) (List.mem_of_getElem? (i := 1) rfl) rfl rfl dX12_numberHere_19 (fun x134 c135 rx134 tx134 => ?_)
      refine wk_top x116 (c135.symm.trans c133) ?_
      refine tk_Vi hC hK hw hT hA hE hSR kM_at0 (by decide) rfl (k_X12_fails_1 l adK adV dC dI cy ad B (by omega) (by omega) qr s1   0 (by decide) (by decide) x116 (show 0 ≤ x116.toInt by omega) (show x116.toInt ≤ 400 by omega) w125 H.size hT ) (cwV 2 hC.2.2.2.2 gX12_numberHere_X12_fails rfl rfl rfl (by decide +kernel) ⟨Nat.le_of_ble_eq_true rfl, Nat.le_of_ble_eq_true rfl⟩) rfl hl.1 rfl (Nat.le_of_ble_eq_true rfl) dX12_numberHere_22 (fun r136 w138 H locs hp137 hw => ?_)
      obtain ⟨hT, k139, hg142⟩ := hp137
      have hF := hF.tr k139 (by decide)
      have c143 := k139.gi kM_at0 (by decide) c132
      have c144 := k139.gi kM_at0 (by decide) c133
      obtain ⟨rfl, ⟨x140, c141, rx140, tx140⟩⟩ := hg142
      exact tk_zret hC hr rfl hlocks hK ⟨hT, hF, (Or.inl ⟨rfl, ⟨x114, c143, (show 1 ≤ x114.toInt by omega), (show x114.toInt ≤ 400 by omega)⟩, ⟨x140, c141, (show 1 ≤ x140.toInt by omega), (show x140.toInt ≤ 3205 by omega)⟩⟩)⟩ hw dX12_numberHere_25
    · have ex129 : x129.toInt = x114.toInt := by rw [← c132.symm.trans c130]
      refine lv_if_ne (tgt := 26) hx hb dX12_numberHere_13 (by decide) (fun _ => ?_) (fun c => absurd c (by decide))
      refine lv_aload_n hx hb dX12_numberHere_26 rfl (lv_at hl 0 rfl) ?_
      refine tk_geti hC hK hw hT hinX12 kM_at0 (by decide) rfl 14 (by decide) (List.mem_of_getElem? (i := 1) rfl) rfl rfl dX12_numberHere_27 (fun x145 c146 rx145 tx145 => ?_)
      refine wk_top x116 (c146.symm.trans c133) ?_
      refine lv_istore_n (lv' := [(3, .int x116), (0, .ref (ad 0)), (1, .int 1), (2, .int 9)]) hx hb dX12_numberHere_30 rfl hl (by decide) rfl (fun ls hl => ?_)
      refine lv_iconst (v := 0) hx hb dX12_numberHere_31 (by decide) ?_
      refine lv_istore (lv' := [(4, .int 0), (3, .int x116), (0, .ref (ad 0)), (1, .int 1), (2, .int 9)]) hx hb dX12_numberHere_32 hl (by decide) rfl (fun ls hl => ?_)
      exact L34 ((400 - x116.toInt).toNat + 1) x116 0 x114 x116 H locs ls w125 (show 0 ≤ x116.toInt by omega) (show x116.toInt ≤ 399 by omega) (show 1 ≤ x114.toInt by omega) (show x114.toInt ≤ 400 by omega) (show 0 ≤ x116.toInt by omega) (show x116.toInt ≤ 400 by omega) (Nat.lt_succ_self _) hw hT hF c132 c133 (lv_sub hl [2, 3, 4, 1, 0] rfl)
  · refine lv_pop hx hb dX12_numberHere_4 rfl ?_
    refine lv_aload_n hx hb dX12_numberHere_5 rfl (lv_at hl 0 rfl) ?_
    refine lv_aload_n hx hb dX12_numberHere_6 rfl (lv_at hl 0 rfl) ?_
    refine tk_geti hC hK hw hT hinX12 kM_at0 (by decide) rfl 14 (by decide) (List.mem_of_getElem? (i := 1) rfl) rfl rfl dX12_numberHere_7 (fun x147 c148 rx147 tx147 => ?_)
    refine tk_Vi hC hK hw hT hA hE hSR kM_at0 (by decide) rfl (k_X12_isDigit_1 l adK adV dC dI cy ad B (by omega) (by omega) qr s1   x147 (show 0 ≤ x147.toInt by omega) (show x147.toInt ≤ 400 by omega) w110 H.size hT ) (cwV 1 hC.2.2.2.2 gX12_numberHere_X12_isDigit rfl rfl rfl (by decide +kernel) ⟨Nat.le_of_ble_eq_true rfl, Nat.le_of_ble_eq_true rfl⟩) rfl hl.1 rfl (Nat.le_of_ble_eq_true rfl) dX12_numberHere_10 (fun r149 w151 H locs hp150 hw => ?_)
    obtain ⟨hT, k152, hg158⟩ := hp150
    have hF := hF.tr k152 (by decide)
    have c159 := k152.gi kM_at0 (by decide) c119
    have c160 := k152.gi kM_at0 (by decide) c148
    rcases hg158 with ⟨rfl, ⟨x153, c154, rx153, tx153⟩⟩ | ⟨rfl, g155, ⟨x156, c157, rx156, tx156⟩⟩
    · have ex153 : x153.toInt = x118.toInt := by rw [← c159.symm.trans c154]
      refine lv_if_ne (tgt := 26) hx hb dX12_numberHere_13 (by decide) (fun c => absurd (by decide) c) (fun _ => ?_)
      refine lv_aload_n hx hb dX12_numberHere_16 rfl (lv_at hl 0 rfl) ?_
      refine lv_iconst (v := 0) hx hb dX12_numberHere_17 (by decide) ?_
      refine lv_aload_n hx hb dX12_numberHere_18 rfl (lv_at hl 0 rfl) ?_
      refine tk_geti hC hK hw hT hinX12 kM_at0 (by decide) rfl 14 (by decide) (List.mem_of_getElem? (i := 1) rfl) rfl rfl dX12_numberHere_19 (fun x161 c162 rx161 tx161 => ?_)
      refine wk_top x147 (c162.symm.trans c160) ?_
      refine tk_Vi hC hK hw hT hA hE hSR kM_at0 (by decide) rfl (k_X12_fails_1 l adK adV dC dI cy ad B (by omega) (by omega) qr s1   0 (by decide) (by decide) x147 (show 0 ≤ x147.toInt by omega) (show x147.toInt ≤ 400 by omega) w151 H.size hT ) (cwV 2 hC.2.2.2.2 gX12_numberHere_X12_fails rfl rfl rfl (by decide +kernel) ⟨Nat.le_of_ble_eq_true rfl, Nat.le_of_ble_eq_true rfl⟩) rfl hl.1 rfl (Nat.le_of_ble_eq_true rfl) dX12_numberHere_22 (fun r163 w165 H locs hp164 hw => ?_)
      obtain ⟨hT, k166, hg169⟩ := hp164
      have hF := hF.tr k166 (by decide)
      have c170 := k166.gi kM_at0 (by decide) c159
      have c171 := k166.gi kM_at0 (by decide) c160
      obtain ⟨rfl, ⟨x167, c168, rx167, tx167⟩⟩ := hg169
      exact tk_zret hC hr rfl hlocks hK ⟨hT, hF, (Or.inr (Or.inl ⟨rfl, ⟨x118, c170, (show 0 ≤ x118.toInt by omega), (show x118.toInt ≤ 400 by omega)⟩, ⟨x167, c168, (show 1 ≤ x167.toInt by omega), (show x167.toInt ≤ 3205 by omega)⟩⟩))⟩ hw dX12_numberHere_25
    · have ex156 : x156.toInt = x118.toInt := by rw [← c159.symm.trans c157]
      refine lv_if_ne (tgt := 26) hx hb dX12_numberHere_13 (by decide) (fun _ => ?_) (fun c => absurd c (by decide))
      refine lv_aload_n hx hb dX12_numberHere_26 rfl (lv_at hl 0 rfl) ?_
      refine tk_geti hC hK hw hT hinX12 kM_at0 (by decide) rfl 14 (by decide) (List.mem_of_getElem? (i := 1) rfl) rfl rfl dX12_numberHere_27 (fun x172 c173 rx172 tx172 => ?_)
      refine wk_top x147 (c173.symm.trans c160) ?_
      refine lv_istore_n (lv' := [(3, .int x147), (0, .ref (ad 0)), (1, .int 1), (2, .int 9)]) hx hb dX12_numberHere_30 rfl hl (by decide) rfl (fun ls hl => ?_)
      refine lv_iconst (v := 0) hx hb dX12_numberHere_31 (by decide) ?_
      refine lv_istore (lv' := [(4, .int 0), (3, .int x147), (0, .ref (ad 0)), (1, .int 1), (2, .int 9)]) hx hb dX12_numberHere_32 hl (by decide) rfl (fun ls hl => ?_)
      exact L34 ((400 - x147.toInt).toNat + 1) x147 0 x118 x147 H locs ls w151 (show 0 ≤ x147.toInt by omega) (show x147.toInt ≤ 399 by omega) (show 1 ≤ x118.toInt by omega) (show x118.toInt ≤ 400 by omega) (show 0 ≤ x147.toInt by omega) (show x147.toInt ≤ 400 by omega) (Nat.lt_succ_self _) hw hT hF c159 c160 (lv_sub hl [2, 3, 4, 1, 0] rfl)
abbrev P_X12_signHere_1 (ad : Nat → Nat) (cy : Nat → ClassId) (B : Int) (qr : Nat) (s1 : Int)  (w0 : va_W) : Int32 → va_W → Prop := fun r u => TW ksM ad cy B qr 12 u ∧ FE ksM ([] : List (Nat × Nat × Nat)) w0 u ∧ ((0 ≤ r.toInt ∧ r.toInt ≤ 3 ∧ (∃ y : Int32, gi u 0 1 = y ∧ 1 ≤ y.toInt ∧ y.toInt ≤ 400) ∧ (∃ y : Int32, gi u 0 14 = y ∧ 0 ≤ y.toInt ∧ y.toInt ≤ 399)) ∨ (r = (-1) ∧ (∃ y : Int32, gi u 0 1 = y ∧ 1 ≤ y.toInt ∧ y.toInt ≤ 400) ∧ (∃ y : Int32, gi u 0 14 = y ∧ 0 ≤ y.toInt ∧ y.toInt ≤ 399)) ∨ (r = (-1) ∧ (∃ y : Int32, gi u 0 1 = y ∧ 0 ≤ y.toInt ∧ y.toInt ≤ 400)))
set_option maxHeartbeats 4000000 in
set_option maxRecDepth 100000 in
theorem k_X12_signHere_1 (l : Launch) (adK adV : Nat → Nat) (dC : Nat → ClassId) (dI : Nat → Nat → Nat) (cy : Nat → ClassId) (ad : Nat → Nat) (B : Int) (hB0 : 100000 ≤ B) (hB1 : B ≤ 1073741824) (qr : Nat) (s1 : Int)   (w0 : va_W) (sz : Nat) (hT : TW ksM ad cy B qr 12 w0)  : Met l yX12_signHere wsX12_signHere ({ frames := 1, cells := 0, slots := 0, locals := 12 }) (va_Pc [.ref (ad 0)] (wpreS adK adV dC dI cy sz w0)) (va_Qi (P_X12_signHere_1 ad cy B qr s1  w0) (fun u : va_W => wpost dC dI cy (va_A w0 sz) u) (va_A w0 sz)) 0 0 (va_A w0 sz) := by
  refine Met.ofW (cc := cX12_signHere) (maxL := 2) (ret := (some .int)) (by decide) rfl ?_
  intro p e s m args below meth c s₁ Bk hml hv
  obtain ⟨rfl, ⟨hsz, hP, hK, hD0⟩, hE, hSR⟩ := hv
  have hx := Bk.exec
  have hb := Bk.bytes
  have hr := Bk.returns
  have hlocks := Bk.notSynchronized
  have hC : CallFix p m c cX12_signHere 2 s _ wsX12_signHere RX12 := ⟨hx, hb, hml, findClass_of_methodNamed Bk.named, atoms_spec (ws := wsX12_signHere) Bk.pre⟩
  subst hsz
  have hD := hD0.self (sz := s.heap.size)
  generalize hAe : va_A w0 s.heap.size = A at hD hE ⊢
  have hA : ∀ q : Nat, s.heap.size ≤ q → A q := fun q h => by rw [← hAe]; exact Or.inr h
  have hw : Wd dC dI A s.heap s.heap [] w0 := ⟨hP, hD, va_S.rf⟩
  have hF : FE ksM ([] : List (Nat × Nat × Nat)) w0 w0 := FE.rf
  have hl := lv_entry ([.ref (ad 0)]) (n := 2) (Nat.le_of_ble_eq_true rfl)
  rw [lg_entry_eq]
  generalize (lg_sl ([.ref (ad 0)]) ++ List.replicate (2 - (lg_sl ([.ref (ad 0)])).length) Slot.unset).toArray = ls at hl ⊢
  have hl : lv_has ls 2 [(0, .ref (ad 0))] := hl
  generalize hloc : ([] : List Loc) = locs at hw ⊢
  have hinX12 : ∀ w ∈ u_ws RX12 TX12 42, w ∈ wsX12_signHere := fun _ h => List.mem_cons_of_mem _ (List.mem_append_right _ (h))
  refine lv_aload_n hx hb dX12_signHere_0 rfl (lv_at hl 0 rfl) ?_
  refine tk_geti hC hK hw hT hinX12 kM_at0 (by decide) rfl 14 (by decide) (List.mem_of_getElem? (i := 1) rfl) rfl rfl dX12_signHere_1 (fun x1 c2 rx1 tx1 => ?_)
  refine lv_aload_n hx hb dX12_signHere_4 rfl (lv_at hl 0 rfl) ?_
  refine tk_geti hC hK hw hT hinX12 kM_at0 (by decide) rfl 1 (by decide) (List.mem_of_getElem? (i := 2) rfl) rfl rfl dX12_signHere_5 (fun x3 c4 rx3 tx3 => ?_)
  refine lv_icmp_ge (tgt := 23) hx hb dX12_signHere_8 (by decide) (fun c5 => ?_) (fun c5 => ?_)
  · have c5 : x3.toInt ≤ x1.toInt := wk_le.mp c5
    refine lv_iconst (v := 0) hx hb dX12_signHere_23 (by decide) ?_
    refine lv_istore_n (lv' := [(1, .int 0), (0, .ref (ad 0))]) hx hb dX12_signHere_24 rfl hl (by decide) rfl (fun ls hl => ?_)
    refine lv_iload_n hx hb dX12_signHere_25 rfl (lv_at hl 0 rfl) ?_
    refine lv_bipush (v := 46) hx hb dX12_signHere_26 (by decide) ?_
    refine lv_icmp_ne (tgt := 35) hx hb dX12_signHere_28 (by decide) (fun _ => ?_) (fun c => absurd c (by decide))
    refine lv_iload_n hx hb dX12_signHere_35 rfl (lv_at hl 0 rfl) ?_
    refine lv_bipush (v := 62) hx hb dX12_signHere_36 (by decide) ?_
    refine lv_icmp_ne (tgt := 45) hx hb dX12_signHere_38 (by decide) (fun _ => ?_) (fun c => absurd c (by decide))
    refine lv_iload_n hx hb dX12_signHere_45 rfl (lv_at hl 0 rfl) ?_
    refine lv_bipush (v := 60) hx hb dX12_signHere_46 (by decide) ?_
    refine lv_icmp_ne (tgt := 55) hx hb dX12_signHere_48 (by decide) (fun _ => ?_) (fun c => absurd c (by decide))
    refine lv_iload_n hx hb dX12_signHere_55 rfl (lv_at hl 0 rfl) ?_
    refine lv_bipush (v := 61) hx hb dX12_signHere_56 (by decide) ?_
    refine lv_icmp_ne (tgt := 65) hx hb dX12_signHere_58 (by decide) (fun _ => ?_) (fun c => absurd c (by decide))
    refine lv_iconst (v := (-1)) hx hb dX12_signHere_65 (by decide) ?_
    exact tk_iret hC hr hlocks hK ⟨hT, hF, (Or.inr (Or.inr ⟨rfl, ⟨x3, c4, (show 0 ≤ x3.toInt by omega), (show x3.toInt ≤ 400 by omega)⟩⟩))⟩ hw dX12_signHere_66
  · have c5 : x1.toInt < x3.toInt := wk_leF c5
    refine lv_aload_n hx hb dX12_signHere_11 rfl (lv_at hl 0 rfl) ?_
    refine tk_getA hC hK hw hT hinX12 kM_at0 (by decide) rfl 0 (by decide) (List.mem_of_getElem? (i := 3) rfl) rfl rfl dX12_signHere_12 ?_
    refine lv_aload_n hx hb dX12_signHere_15 rfl (lv_at hl 0 rfl) ?_
    refine tk_geti hC hK hw hT hinX12 kM_at0 (by decide) rfl 14 (by decide) (List.mem_of_getElem? (i := 1) rfl) rfl rfl dX12_signHere_16 (fun x6 c7 rx6 tx6 => ?_)
    refine wk_top x1 (c7.symm.trans c2) ?_
    refine tk_bald hC hK hw hT kM_at1 rfl rfl (show 0 ≤ x1.toInt by omega) (show x1.toInt < 400 by omega) dX12_signHere_19 (fun x8 c9 rx8 tx8 => ?_)
    refine lv_goto (tgt := 24) hx hb dX12_signHere_20 (by decide) ?_
    refine lv_istore_n (lv' := [(1, .int x8), (0, .ref (ad 0))]) hx hb dX12_signHere_24 rfl hl (by decide) rfl (fun ls hl => ?_)
    refine lv_iload_n hx hb dX12_signHere_25 rfl (lv_at hl 0 rfl) ?_
    refine lv_bipush (v := 46) hx hb dX12_signHere_26 (by decide) ?_
    refine lv_icmp_ne (tgt := 35) hx hb dX12_signHere_28 (by decide) (fun c10 => ?_) (fun c10 => ?_)
    · have c10 : ¬ x8.toInt = (46 : Int) := wk_eqF c10
      refine lv_iload_n hx hb dX12_signHere_35 rfl (lv_at hl 0 rfl) ?_
      refine lv_bipush (v := 62) hx hb dX12_signHere_36 (by decide) ?_
      refine lv_icmp_ne (tgt := 45) hx hb dX12_signHere_38 (by decide) (fun c11 => ?_) (fun c11 => ?_)
      · have c11 : ¬ x8.toInt = (62 : Int) := wk_eqF c11
        refine lv_iload_n hx hb dX12_signHere_45 rfl (lv_at hl 0 rfl) ?_
        refine lv_bipush (v := 60) hx hb dX12_signHere_46 (by decide) ?_
        refine lv_icmp_ne (tgt := 55) hx hb dX12_signHere_48 (by decide) (fun c12 => ?_) (fun c12 => ?_)
        · have c12 : ¬ x8.toInt = (60 : Int) := wk_eqF c12
          refine lv_iload_n hx hb dX12_signHere_55 rfl (lv_at hl 0 rfl) ?_
          refine lv_bipush (v := 61) hx hb dX12_signHere_56 (by decide) ?_
          refine lv_icmp_ne (tgt := 65) hx hb dX12_signHere_58 (by decide) (fun c13 => ?_) (fun c13 => ?_)
          · have c13 : ¬ x8.toInt = (61 : Int) := wk_eqF c13
            refine lv_iconst (v := (-1)) hx hb dX12_signHere_65 (by decide) ?_
            exact tk_iret hC hr hlocks hK ⟨hT, hF, (Or.inr (Or.inl ⟨rfl, ⟨x3, c4, (show 1 ≤ x3.toInt by omega), (show x3.toInt ≤ 400 by omega)⟩, ⟨x1, c2, (show 0 ≤ x1.toInt by omega), (show x1.toInt ≤ 399 by omega)⟩⟩))⟩ hw dX12_signHere_66
          · have c13 : x8.toInt = (61 : Int) := wk_eq.mp c13
            refine lv_iconst (v := 3) hx hb dX12_signHere_61 (by decide) ?_
            refine lv_goto (tgt := 66) hx hb dX12_signHere_62 (by decide) ?_
            exact tk_iret hC hr hlocks hK ⟨hT, hF, (Or.inl ⟨(by decide), (by decide), ⟨x3, c4, (show 1 ≤ x3.toInt by omega), (show x3.toInt ≤ 400 by omega)⟩, ⟨x1, c2, (show 0 ≤ x1.toInt by omega), (show x1.toInt ≤ 399 by omega)⟩⟩)⟩ hw dX12_signHere_66
        · have c12 : x8.toInt = (60 : Int) := wk_eq.mp c12
          refine lv_iconst (v := 2) hx hb dX12_signHere_51 (by decide) ?_
          refine lv_goto (tgt := 66) hx hb dX12_signHere_52 (by decide) ?_
          exact tk_iret hC hr hlocks hK ⟨hT, hF, (Or.inl ⟨(by decide), (by decide), ⟨x3, c4, (show 1 ≤ x3.toInt by omega), (show x3.toInt ≤ 400 by omega)⟩, ⟨x1, c2, (show 0 ≤ x1.toInt by omega), (show x1.toInt ≤ 399 by omega)⟩⟩)⟩ hw dX12_signHere_66
      · have c11 : x8.toInt = (62 : Int) := wk_eq.mp c11
        refine lv_iconst (v := 1) hx hb dX12_signHere_41 (by decide) ?_
        refine lv_goto (tgt := 66) hx hb dX12_signHere_42 (by decide) ?_
        exact tk_iret hC hr hlocks hK ⟨hT, hF, (Or.inl ⟨(by decide), (by decide), ⟨x3, c4, (show 1 ≤ x3.toInt by omega), (show x3.toInt ≤ 400 by omega)⟩, ⟨x1, c2, (show 0 ≤ x1.toInt by omega), (show x1.toInt ≤ 399 by omega)⟩⟩)⟩ hw dX12_signHere_66
    · have c10 : x8.toInt = (46 : Int) := wk_eq.mp c10
      refine lv_iconst (v := 0) hx hb dX12_signHere_31 (by decide) ?_
      refine lv_goto (tgt := 66) hx hb dX12_signHere_32 (by decide) ?_
      exact tk_iret hC hr hlocks hK ⟨hT, hF, (Or.inl ⟨(by decide), (by decide), ⟨x3, c4, (show 1 ≤ x3.toInt by omega), (show x3.toInt ≤ 400 by omega)⟩, ⟨x1, c2, (show 0 ≤ x1.toInt by omega), (show x1.toInt ≤ 399 by omega)⟩⟩)⟩ hw dX12_signHere_66
abbrev P_X12_areSignsHere_1 (ad : Nat → Nat) (cy : Nat → ClassId) (B : Int) (qr : Nat) (s1 : Int) (a1 : Int32) (w0 : va_W) : Int32 → va_W → Prop := fun r u => TW ksM ad cy B qr 12 u ∧ FE ksM [(12, 14, 14), (12, 15, 15), (65, 0, 120)] w0 u ∧ ((r = 0 ∧ (∃ y : Int32, gi u 0 1 = y ∧ 1 ≤ y.toInt ∧ y.toInt ≤ 400) ∧ (∃ y : Int32, gi u 0 14 = y ∧ 0 ≤ y.toInt ∧ y.toInt ≤ 399) ∧ (∃ y : Int32, gi u 0 15 = y ∧ 1 ≤ y.toInt ∧ y.toInt ≤ 3205)) ∨ (r = 0 ∧ (∃ y : Int32, gi u 0 1 = y ∧ 0 ≤ y.toInt ∧ y.toInt ≤ 400) ∧ (∃ y : Int32, gi u 0 15 = y ∧ 1 ≤ y.toInt ∧ y.toInt ≤ 3205)) ∨ (r = 1 ∧ (∃ y : Int32, gi u 0 1 = y ∧ 0 ≤ y.toInt ∧ y.toInt ≤ 400)))
set_option maxHeartbeats 4000000 in
set_option maxRecDepth 100000 in
theorem k_X12_areSignsHere_1 (l : Launch) (adK adV : Nat → Nat) (dC : Nat → ClassId) (dI : Nat → Nat → Nat) (cy : Nat → ClassId) (ad : Nat → Nat) (B : Int) (hB0 : 100000 ≤ B) (hB1 : B ≤ 1073741824) (qr : Nat) (s1 : Int)  (a1 : Int32) (ra1 : 3 ≤ a1.toInt) (ta1 : a1.toInt ≤ 113) (w0 : va_W) (sz : Nat) (hT : TW ksM ad cy B qr 12 w0)  : Met l yX12_areSignsHere wsX12_areSignsHere ({ frames := 2, cells := 0, slots := 0, locals := 34 }) (va_Pc [.ref (ad 0), .int a1] (wpreS adK adV dC dI cy sz w0)) (va_Qi (P_X12_areSignsHere_1 ad cy B qr s1 a1 w0) (fun u : va_W => wpost dC dI cy (va_A w0 sz) u) (va_A w0 sz)) 0 0 (va_A w0 sz) := by
  refine Met.ofW (cc := cX12_areSignsHere) (maxL := 4) (ret := (some .boolean)) (by decide) rfl ?_
  intro p e s m args below meth c s₁ Bk hml hv
  obtain ⟨rfl, ⟨hsz, hP, hK, hD0⟩, hE, hSR⟩ := hv
  have hx := Bk.exec
  have hb := Bk.bytes
  have hr := Bk.returns
  have hlocks := Bk.notSynchronized
  have hC : CallFix p m c cX12_areSignsHere 4 s _ wsX12_areSignsHere RX12 := ⟨hx, hb, hml, findClass_of_methodNamed Bk.named, atoms_spec (ws := wsX12_areSignsHere) Bk.pre⟩
  subst hsz
  have hD := hD0.self (sz := s.heap.size)
  generalize hAe : va_A w0 s.heap.size = A at hD hE ⊢
  have hA : ∀ q : Nat, s.heap.size ≤ q → A q := fun q h => by rw [← hAe]; exact Or.inr h
  have hw : Wd dC dI A s.heap s.heap [] w0 := ⟨hP, hD, va_S.rf⟩
  have hF : FE ksM [(12, 14, 14), (12, 15, 15), (65, 0, 120)] w0 w0 := FE.rf
  have hl := lv_entry ([.ref (ad 0), .int a1]) (n := 4) (Nat.le_of_ble_eq_true rfl)
  rw [lg_entry_eq]
  generalize (lg_sl ([.ref (ad 0), .int a1]) ++ List.replicate (4 - (lg_sl ([.ref (ad 0), .int a1])).length) Slot.unset).toArray = ls at hl ⊢
  have hl : lv_has ls 4 [(0, .ref (ad 0)), (1, .int a1)] := hl
  generalize hloc : ([] : List Loc) = locs at hw ⊢
  have hinX12 : ∀ w ∈ u_ws RX12 TX12 42, w ∈ wsX12_areSignsHere := fun _ h => List.mem_cons_of_mem _ (List.mem_append_right _ (h))
  have L7 : ∀ (n7 : Nat) (v7_2 : Int32) (f7_0_1 : Int32) (H : Heap) (locs : List Loc) (ls : Array Slot) (w1 : va_W), 3 ≤ a1.toInt → a1.toInt ≤ 113 → 0 ≤ v7_2.toInt → v7_2.toInt ≤ 7 → 0 ≤ f7_0_1.toInt → f7_0_1.toInt ≤ 400 → (7 - v7_2.toInt).toNat < n7 → Wd dC dI A s.heap H locs w1 → TW ksM ad cy B qr 12 w1 → FE ksM [(12, 14, 14), (12, 15, 15), (65, 0, 120)] w0 w1 → gi w1 0 1 = f7_0_1 → lv_has ls 4 [(0, .ref (ad 0)), (1, .int a1), (2, .int v7_2)] → W p l e ({ frames := 2, cells := 0, slots := 0, locals := 34 }) s m (List.toArray [.ref (ad 0), .int a1]) below meth c H locs 0 0 (MQ below (va_Qi (P_X12_areSignsHere_1 ad cy B qr s1 a1 w0) (fun u : va_W => wpost dC dI cy A u) A) (List.toArray [.ref (ad 0), .int a1]) s 0 0 A) (F0 m 7 ls []) := by
    intro n7
    induction n7 with
    | zero => intro v7_2 f7_0_1 H locs ls w1 r2 t3 r4 t5 r6 t7 hm7 hw hT hF c8 hl; omega
    | succ n7 ih7 =>
      intro v7_2 f7_0_1 H locs ls w1 r2 t3 r4 t5 r6 t7 hm7 hw hT hF c8 hl
      refine lv_iload_n hx hb dX12_areSignsHere_7 rfl (lv_at hl 2 rfl) ?_
      refine lv_bipush (v := 7) hx hb dX12_areSignsHere_8 (by decide) ?_
      refine lv_icmp_ge (tgt := 57) hx hb dX12_areSignsHere_10 (by decide) (fun c9 => ?_) (fun c9 => ?_)
      · have c9 : (7 : Int) ≤ v7_2.toInt := wk_le.mp c9
        refine lv_iconst (v := 1) hx hb dX12_areSignsHere_57 (by decide) ?_
        exact tk_zret hC hr rfl hlocks hK ⟨hT, hF, (Or.inr (Or.inr ⟨rfl, ⟨f7_0_1, c8, (show 0 ≤ f7_0_1.toInt by omega), (show f7_0_1.toInt ≤ 400 by omega)⟩⟩))⟩ hw dX12_areSignsHere_58
      · have c9 : v7_2.toInt < (7 : Int) := wk_leF c9
        refine lv_aload_n hx hb dX12_areSignsHere_13 rfl (lv_at hl 0 rfl) ?_
        refine tk_Vi hC hK hw hT hA hE hSR kM_at0 (by decide) rfl (k_X12_signHere_1 l adK adV dC dI cy ad B (by omega) (by omega) qr s1    w1 H.size hT ) (cwV 0 hC.2.2.2.2 gX12_areSignsHere_X12_signHere rfl rfl rfl (by decide +kernel) ⟨Nat.le_of_ble_eq_true rfl, Nat.le_of_ble_eq_true rfl⟩) rfl hl.1 rfl (Nat.le_of_ble_eq_true rfl) dX12_areSignsHere_14 (fun r10 w12 H locs hp11 hw => ?_)
        obtain ⟨hT, k13, hg26⟩ := hp11
        have hF := hF.tr k13 (by decide)
        have c27 := k13.gi kM_at0 (by decide) c8
        rcases hg26 with ⟨g14, g15, ⟨x16, c17, rx16, tx16⟩, ⟨x18, c19, rx18, tx18⟩⟩ | ⟨rfl, ⟨x20, c21, rx20, tx20⟩, ⟨x22, c23, rx22, tx22⟩⟩ | ⟨rfl, ⟨x24, c25, rx24, tx24⟩⟩
        · have ex16 : x16.toInt = f7_0_1.toInt := by rw [← c27.symm.trans c17]
          refine lv_istore_n (lv' := [(3, .int r10), (0, .ref (ad 0)), (1, .int a1), (2, .int v7_2)]) hx hb dX12_areSignsHere_17 rfl hl (by decide) rfl (fun ls hl => ?_)
          refine lv_iload_n hx hb dX12_areSignsHere_18 rfl (lv_at hl 0 rfl) ?_
          refine lv_if_ge (tgt := 32) hx hb dX12_areSignsHere_19 (by decide) (fun _ => ?_) (fun c => (c (wk_le.mpr (show (0 : Int) ≤ r10.toInt by omega))).elim)
          refine lv_aload_n hx hb dX12_areSignsHere_32 rfl (lv_at hl 1 rfl) ?_
          refine tk_getA hC hK hw hT hinX12 kM_at0 (by decide) rfl 11 (by decide) (List.mem_of_getElem? (i := 2) rfl) rfl rfl dX12_areSignsHere_33 ?_
          refine lv_iload_n hx hb dX12_areSignsHere_36 rfl (lv_at hl 2 rfl) ?_
          refine lv_iload_n hx hb dX12_areSignsHere_37 rfl (lv_at hl 3 rfl) ?_
          refine lv_iadd hx hb dX12_areSignsHere_38 ?_
          refine lv_topi (fun x28 ex28 => ?_)
          have ex28 : x28.toInt = a1.toInt + v7_2.toInt := by rw [ex28]; exact wk_add (show (-2147483648) ≤ a1.toInt + v7_2.toInt by omega) (show a1.toInt + v7_2.toInt ≤ 2147483647 by omega)
          refine lv_iload_n hx hb dX12_areSignsHere_39 rfl (lv_at hl 0 rfl) ?_
          refine tk_iast hC hK hw hT kM_at6 (by decide) rfl rfl (show 0 ≤ x28.toInt by omega) (show x28.toInt < 120 by omega) (show 0 ≤ r10.toInt by omega) (show r10.toInt ≤ 9 by omega) dX12_areSignsHere_40 (fun H locs w29 hw hT k31 c30 => ?_)
          have hF := hF.put kM_at6 (inE_of (a := 0) (b := 120) (by decide) (show 0 ≤ x28.toInt.toNat by omega) (show x28.toInt.toNat ≤ 120 by omega)) k31
          have c32 := k31.gi (Or.inl (tk_ne kM_at0 kM_at6 (by decide))) c27
          have c33 := k31.gi (Or.inl (tk_ne kM_at0 kM_at6 (by decide))) c19
          refine lv_aload_n hx hb dX12_areSignsHere_41 rfl (lv_at hl 1 rfl) ?_
          refine lv_dup hx hb dX12_areSignsHere_42 rfl ?_
          refine tk_geti hC hK hw hT hinX12 kM_at0 (by decide) rfl 14 (by decide) (List.mem_of_getElem? (i := 1) rfl) rfl rfl dX12_areSignsHere_43 (fun x34 c35 rx34 tx34 => ?_)
          refine wk_top x18 (c35.symm.trans c33) ?_
          refine lv_iconst (v := 1) hx hb dX12_areSignsHere_46 (by decide) ?_
          refine lv_iadd hx hb dX12_areSignsHere_47 ?_
          refine lv_topi (fun x36 ex36 => ?_)
          have ex36 : x36.toInt = x18.toInt + (1 : Int) := by rw [ex36]; exact wk_add (show (-2147483648) ≤ x18.toInt + (1 : Int) by omega) (show x18.toInt + (1 : Int) ≤ 2147483647 by omega)
          refine tk_puti hC hK hw hT hinX12 tyX12_ok nmX12 kM_at0 (by decide) rfl rfl 14 (by decide) (List.mem_of_getElem? (i := 1) rfl) rfl rfl rfl rfl (show 0 ≤ x36.toInt by omega) (show x36.toInt ≤ 400 by omega) dX12_areSignsHere_48 (fun H locs w37 hw hT k39 c38 => ?_)
          have hF := hF.put kM_at0 (k := 14) (by decide) k39
          have c40 := k39.gi (Or.inr (by decide)) c32
          obtain ⟨x41, ex41⟩ : ∃ y : Int32, y = v7_2 + Int32.ofInt 1 := ⟨_, rfl⟩
          refine lv_iinc (v := x41) (lv' := [(2, .int x41), (3, .int r10), (0, .ref (ad 0)), (1, .int a1)]) hx hb dX12_areSignsHere_51 hl (k := 3) rfl ex41.symm (by decide) rfl (fun ls hl => ?_)
          have ex41 : x41.toInt = v7_2.toInt + 1 := by rw [ex41]; exact wk_add (y := 1) (show -2147483648 ≤ v7_2.toInt + 1 by omega) (show v7_2.toInt + 1 ≤ 2147483647 by omega)
          refine lv_goto (tgt := 7) hx hb dX12_areSignsHere_54 (by decide) ?_
          exact ih7 x41 f7_0_1 H locs ls w37 (show 3 ≤ a1.toInt by omega) (show a1.toInt ≤ 113 by omega) (show 0 ≤ x41.toInt by omega) (show x41.toInt ≤ 7 by omega) (show 0 ≤ f7_0_1.toInt by omega) (show f7_0_1.toInt ≤ 400 by omega) (show (7 - x41.toInt).toNat < n7 by omega) hw hT hF c40 (lv_sub hl [2, 3, 0] rfl)
        · have ex20 : x20.toInt = f7_0_1.toInt := by rw [← c27.symm.trans c21]
          refine lv_istore_n (lv' := [(3, .int (-1)), (0, .ref (ad 0)), (1, .int a1), (2, .int v7_2)]) hx hb dX12_areSignsHere_17 rfl hl (by decide) rfl (fun ls hl => ?_)
          refine lv_iload_n hx hb dX12_areSignsHere_18 rfl (lv_at hl 0 rfl) ?_
          refine lv_if_ge (tgt := 32) hx hb dX12_areSignsHere_19 (by decide) (fun c => absurd c (by decide)) (fun _ => ?_)
          refine lv_aload_n hx hb dX12_areSignsHere_22 rfl (lv_at hl 1 rfl) ?_
          refine lv_iconst (v := 0) hx hb dX12_areSignsHere_23 (by decide) ?_
          refine lv_aload_n hx hb dX12_areSignsHere_24 rfl (lv_at hl 1 rfl) ?_
          refine tk_geti hC hK hw hT hinX12 kM_at0 (by decide) rfl 14 (by decide) (List.mem_of_getElem? (i := 1) rfl) rfl rfl dX12_areSignsHere_25 (fun x42 c43 rx42 tx42 => ?_)
          refine wk_top x22 (c43.symm.trans c23) ?_
          refine tk_Vi hC hK hw hT hA hE hSR kM_at0 (by decide) rfl (k_X12_fails_1 l adK adV dC dI cy ad B (by omega) (by omega) qr s1   0 (by decide) (by decide) x22 (show 0 ≤ x22.toInt by omega) (show x22.toInt ≤ 400 by omega) w12 H.size hT ) (cwV 2 hC.2.2.2.2 gX12_areSignsHere_X12_fails rfl rfl rfl (by decide +kernel) ⟨Nat.le_of_ble_eq_true rfl, Nat.le_of_ble_eq_true rfl⟩) rfl hl.1 rfl (Nat.le_of_ble_eq_true rfl) dX12_areSignsHere_28 (fun r44 w46 H locs hp45 hw => ?_)
          obtain ⟨hT, k47, hg50⟩ := hp45
          have hF := hF.tr k47 (by decide)
          have c51 := k47.gi kM_at0 (by decide) c27
          have c52 := k47.gi kM_at0 (by decide) c23
          obtain ⟨rfl, ⟨x48, c49, rx48, tx48⟩⟩ := hg50
          exact tk_zret hC hr rfl hlocks hK ⟨hT, hF, (Or.inl ⟨rfl, ⟨f7_0_1, c51, (show 1 ≤ f7_0_1.toInt by omega), (show f7_0_1.toInt ≤ 400 by omega)⟩, ⟨x22, c52, (show 0 ≤ x22.toInt by omega), (show x22.toInt ≤ 399 by omega)⟩, ⟨x48, c49, (show 1 ≤ x48.toInt by omega), (show x48.toInt ≤ 3205 by omega)⟩⟩)⟩ hw dX12_areSignsHere_31
        · have ex24 : x24.toInt = f7_0_1.toInt := by rw [← c27.symm.trans c25]
          refine lv_istore_n (lv' := [(3, .int (-1)), (0, .ref (ad 0)), (1, .int a1), (2, .int v7_2)]) hx hb dX12_areSignsHere_17 rfl hl (by decide) rfl (fun ls hl => ?_)
          refine lv_iload_n hx hb dX12_areSignsHere_18 rfl (lv_at hl 0 rfl) ?_
          refine lv_if_ge (tgt := 32) hx hb dX12_areSignsHere_19 (by decide) (fun c => absurd c (by decide)) (fun _ => ?_)
          refine lv_aload_n hx hb dX12_areSignsHere_22 rfl (lv_at hl 1 rfl) ?_
          refine lv_iconst (v := 0) hx hb dX12_areSignsHere_23 (by decide) ?_
          refine lv_aload_n hx hb dX12_areSignsHere_24 rfl (lv_at hl 1 rfl) ?_
          refine tk_geti hC hK hw hT hinX12 kM_at0 (by decide) rfl 14 (by decide) (List.mem_of_getElem? (i := 1) rfl) rfl rfl dX12_areSignsHere_25 (fun x53 c54 rx53 tx53 => ?_)
          refine tk_Vi hC hK hw hT hA hE hSR kM_at0 (by decide) rfl (k_X12_fails_1 l adK adV dC dI cy ad B (by omega) (by omega) qr s1   0 (by decide) (by decide) x53 (show 0 ≤ x53.toInt by omega) (show x53.toInt ≤ 400 by omega) w12 H.size hT ) (cwV 2 hC.2.2.2.2 gX12_areSignsHere_X12_fails rfl rfl rfl (by decide +kernel) ⟨Nat.le_of_ble_eq_true rfl, Nat.le_of_ble_eq_true rfl⟩) rfl hl.1 rfl (Nat.le_of_ble_eq_true rfl) dX12_areSignsHere_28 (fun r55 w57 H locs hp56 hw => ?_)
          obtain ⟨hT, k58, hg61⟩ := hp56
          have hF := hF.tr k58 (by decide)
          have c62 := k58.gi kM_at0 (by decide) c27
          have c63 := k58.gi kM_at0 (by decide) c54
          obtain ⟨rfl, ⟨x59, c60, rx59, tx59⟩⟩ := hg61
          exact tk_zret hC hr rfl hlocks hK ⟨hT, hF, (Or.inr (Or.inl ⟨rfl, ⟨f7_0_1, c62, (show 0 ≤ f7_0_1.toInt by omega), (show f7_0_1.toInt ≤ 400 by omega)⟩, ⟨x59, c60, (show 1 ≤ x59.toInt by omega), (show x59.toInt ≤ 3205 by omega)⟩⟩))⟩ hw dX12_areSignsHere_31
  refine lv_aload_n hx hb dX12_areSignsHere_0 rfl (lv_at hl 0 rfl) ?_
  refine tk_Vi hC hK hw hT hA hE hSR kM_at0 (by decide) rfl (k_X12_see_1 l adK adV dC dI cy ad B (by omega) (by omega) qr s1    w0 s.heap.size hT ) (cwV 0 hC.2.2.2.2 gX12_areSignsHere_X12_see rfl rfl rfl (by decide +kernel) ⟨Nat.le_of_ble_eq_true rfl, Nat.le_of_ble_eq_true rfl⟩) rfl hl.1 rfl (Nat.le_of_ble_eq_true rfl) dX12_areSignsHere_1 (fun r64 w66 H locs hp65 hw => ?_)
  obtain ⟨hT, k67, hg76⟩ := hp65
  have hF := hF.tr k67 (by decide)
  rcases hg76 with ⟨g68, g69, ⟨x70, c71, rx70, tx70⟩, ⟨x72, c73, rx72, tx72⟩⟩ | ⟨rfl, ⟨x74, c75, rx74, tx74⟩⟩
  · refine lv_pop hx hb dX12_areSignsHere_4 rfl ?_
    refine lv_iconst (v := 0) hx hb dX12_areSignsHere_5 (by decide) ?_
    refine lv_istore_n (lv' := [(2, .int 0), (0, .ref (ad 0)), (1, .int a1)]) hx hb dX12_areSignsHere_6 rfl hl (by decide) rfl (fun ls hl => ?_)
    exact L7 ((7 - (0 : Int)).toNat + 1) 0 x70 H locs ls w66 (show 3 ≤ a1.toInt by omega) (show a1.toInt ≤ 113 by omega) (by decide) (by decide) (show 0 ≤ x70.toInt by omega) (show x70.toInt ≤ 400 by omega) (Nat.lt_succ_self _) hw hT hF c71 (lv_sub hl [1, 2, 0] rfl)
  · refine lv_pop hx hb dX12_areSignsHere_4 rfl ?_
    refine lv_iconst (v := 0) hx hb dX12_areSignsHere_5 (by decide) ?_
    refine lv_istore_n (lv' := [(2, .int 0), (0, .ref (ad 0)), (1, .int a1)]) hx hb dX12_areSignsHere_6 rfl hl (by decide) rfl (fun ls hl => ?_)
    exact L7 ((7 - (0 : Int)).toNat + 1) 0 x74 H locs ls w66 (show 3 ≤ a1.toInt by omega) (show a1.toInt ≤ 113 by omega) (by decide) (by decide) (show 0 ≤ x74.toInt by omega) (show x74.toInt ≤ 400 by omega) (Nat.lt_succ_self _) hw hT hF c75 (lv_sub hl [1, 2, 0] rfl)
abbrev P_X12_isStreetHere_1 (ad : Nat → Nat) (cy : Nat → ClassId) (B : Int) (qr : Nat) (s1 : Int) (a1 : Int32) (w0 : va_W) : Int32 → va_W → Prop := fun r u => TW ksM ad cy B qr 12 u ∧ FE ksM [(12, 8, 8), (12, 14, 14), (12, 15, 15), (12, 16, 16), (65, 0, 120)] w0 u ∧ ((r = 0 ∧ (∃ y : Int32, gi u 0 8 = y ∧ 12 ≤ y.toInt ∧ y.toInt ≤ 12) ∧ (∃ y : Int32, gi u 0 15 = y ∧ 1 ≤ y.toInt ∧ y.toInt ≤ 3205)) ∨ (r = 0 ∧ (∃ y : Int32, gi u 0 1 = y ∧ 1 ≤ y.toInt ∧ y.toInt ≤ 400) ∧ (∃ y : Int32, gi u 0 8 = y ∧ 0 ≤ y.toInt ∧ y.toInt ≤ 11) ∧ (∃ y : Int32, gi u 0 15 = y ∧ 1 ≤ y.toInt ∧ y.toInt ≤ 3205)) ∨ (r = 0 ∧ (∃ y : Int32, gi u 0 1 = y ∧ 0 ≤ y.toInt ∧ y.toInt ≤ 400) ∧ (∃ y : Int32, gi u 0 8 = y ∧ 0 ≤ y.toInt ∧ y.toInt ≤ 11) ∧ (∃ y : Int32, gi u 0 15 = y ∧ 1 ≤ y.toInt ∧ y.toInt ≤ 3205)) ∨ (r = 1 ∧ (∃ y : Int32, gi u 0 1 = y ∧ 1 ≤ y.toInt ∧ y.toInt ≤ 400) ∧ (∃ y : Int32, gi u 0 7 = y ∧ 1 ≤ y.toInt ∧ y.toInt ≤ 10) ∧ (∃ y : Int32, gi u 0 8 = y ∧ 1 ≤ y.toInt ∧ y.toInt ≤ 12) ∧ (∃ y : Int32, gi u 0 16 = y ∧ 1 ≤ y.toInt ∧ y.toInt ≤ 9)))
set_option maxHeartbeats 4000000 in
set_option maxRecDepth 100000 in
theorem k_X12_isStreetHere_1 (l : Launch) (adK adV : Nat → Nat) (dC : Nat → ClassId) (dI : Nat → Nat → Nat) (cy : Nat → ClassId) (ad : Nat → Nat) (B : Int) (hB0 : 100000 ≤ B) (hB1 : B ≤ 1073741824) (qr : Nat) (s1 : Int)  (a1 : Int32) (ra1 : 0 ≤ a1.toInt) (ta1 : a1.toInt ≤ 400) (w0 : va_W) (sz : Nat) (hT : TW ksM ad cy B qr 12 w0)  : Met l yX12_isStreetHere wsX12_isStreetHere ({ frames := 3, cells := 0, slots := 0, locals := 61 }) (va_Pc [.ref (ad 0), .int a1] (wpreS adK adV dC dI cy sz w0)) (va_Qi (P_X12_isStreetHere_1 ad cy B qr s1 a1 w0) (fun u : va_W => wpost dC dI cy (va_A w0 sz) u) (va_A w0 sz)) 0 0 (va_A w0 sz) := by
  refine Met.ofW (cc := cX12_isStreetHere) (maxL := 4) (ret := (some .boolean)) (by decide) rfl ?_
  intro p e s m args below meth c s₁ Bk hml hv
  obtain ⟨rfl, ⟨hsz, hP, hK, hD0⟩, hE, hSR⟩ := hv
  have hx := Bk.exec
  have hb := Bk.bytes
  have hr := Bk.returns
  have hlocks := Bk.notSynchronized
  have hC : CallFix p m c cX12_isStreetHere 4 s _ wsX12_isStreetHere RX12 := ⟨hx, hb, hml, findClass_of_methodNamed Bk.named, atoms_spec (ws := wsX12_isStreetHere) Bk.pre⟩
  subst hsz
  have hD := hD0.self (sz := s.heap.size)
  generalize hAe : va_A w0 s.heap.size = A at hD hE ⊢
  have hA : ∀ q : Nat, s.heap.size ≤ q → A q := fun q h => by rw [← hAe]; exact Or.inr h
  have hw : Wd dC dI A s.heap s.heap [] w0 := ⟨hP, hD, va_S.rf⟩
  have hF : FE ksM [(12, 8, 8), (12, 14, 14), (12, 15, 15), (12, 16, 16), (65, 0, 120)] w0 w0 := FE.rf
  have hl := lv_entry ([.ref (ad 0), .int a1]) (n := 4) (Nat.le_of_ble_eq_true rfl)
  rw [lg_entry_eq]
  generalize (lg_sl ([.ref (ad 0), .int a1]) ++ List.replicate (4 - (lg_sl ([.ref (ad 0), .int a1])).length) Slot.unset).toArray = ls at hl ⊢
  have hl : lv_has ls 4 [(0, .ref (ad 0)), (1, .int a1)] := hl
  generalize hloc : ([] : List Loc) = locs at hw ⊢
  have hinX12 : ∀ w ∈ u_ws RX12 TX12 42, w ∈ wsX12_isStreetHere := fun _ h => List.mem_cons_of_mem _ (List.mem_append_right _ (h))
  refine lv_aload_n hx hb dX12_isStreetHere_0 rfl (lv_at hl 0 rfl) ?_
  refine tk_geti hC hK hw hT hinX12 kM_at0 (by decide) rfl 8 (by decide) (List.mem_of_getElem? (i := 1) rfl) rfl rfl dX12_isStreetHere_1 (fun x1 c2 rx1 tx1 => ?_)
  refine lv_bipush (v := 12) hx hb dX12_isStreetHere_4 (by decide) ?_
  refine lv_icmp_ne (tgt := 16) hx hb dX12_isStreetHere_6 (by decide) (fun c3 => ?_) (fun c3 => ?_)
  · have c3 : ¬ x1.toInt = (12 : Int) := wk_eqF c3
    refine lv_aload_n hx hb dX12_isStreetHere_16 rfl (lv_at hl 0 rfl) ?_
    refine tk_Vv hC hK hw hT hA hE hSR kM_at0 (by decide) rfl (k_X12_passWord_1 l adK adV dC dI cy ad B (by omega) (by omega) qr s1    w0 s.heap.size hT ) (cwV 0 hC.2.2.2.2 gX12_isStreetHere_X12_passWord rfl rfl rfl (by decide +kernel) ⟨Nat.le_of_ble_eq_true rfl, Nat.le_of_ble_eq_true rfl⟩) rfl hl.1 rfl (Nat.le_of_ble_eq_true rfl) dX12_isStreetHere_17 (fun w6 H locs hp5 hw => ?_)
    obtain ⟨hT, k7, hg14⟩ := hp5
    have hF := hF.tr k7 (by decide)
    have c15 := k7.gi kM_at0 (by decide) c2
    rcases hg14 with ⟨⟨x8, c9, rx8, tx8⟩, ⟨x10, c11, rx10, tx10⟩⟩ | ⟨x12, c13, rx12, tx12⟩
    · refine lv_bipush (v := 10) hx hb dX12_isStreetHere_20 (by decide) ?_
      refine lv_aload_n hx hb dX12_isStreetHere_22 rfl (lv_at hl 0 rfl) ?_
      refine tk_geti hC hK hw hT hinX12 kM_at0 (by decide) rfl 8 (by decide) (List.mem_of_getElem? (i := 1) rfl) rfl rfl dX12_isStreetHere_23 (fun x16 c17 rx16 tx16 => ?_)
      refine wk_top x1 (c17.symm.trans c15) ?_
      refine lv_imul hx hb dX12_isStreetHere_26 ?_
      refine lv_topi (fun x18 ex18 => ?_)
      have ex18 : x18.toInt = (10 : Int) * x1.toInt := by rw [ex18]; exact wk_mul (show (-2147483648) ≤ (10 : Int) * x1.toInt by omega) (show (10 : Int) * x1.toInt ≤ 2147483647 by omega)
      refine lv_istore_n (lv' := [(2, .int x18), (0, .ref (ad 0)), (1, .int a1)]) hx hb dX12_isStreetHere_27 rfl hl (by decide) rfl (fun ls hl => ?_)
      refine lv_aload_n hx hb dX12_isStreetHere_28 rfl (lv_at hl 1 rfl) ?_
      refine lv_iconst (v := 0) hx hb dX12_isStreetHere_29 (by decide) ?_
      refine lv_aload_n hx hb dX12_isStreetHere_30 rfl (lv_at hl 1 rfl) ?_
      refine tk_geti hC hK hw hT hinX12 kM_at0 (by decide) rfl 7 (by decide) (List.mem_of_getElem? (i := 2) rfl) rfl rfl dX12_isStreetHere_31 (fun x19 c20 rx19 tx19 => ?_)
      refine lv_iconst (v := 1) hx hb dX12_isStreetHere_34 (by decide) ?_
      refine lv_isub hx hb dX12_isStreetHere_35 ?_
      refine lv_topi (fun x21 ex21 => ?_)
      have ex21 : x21.toInt = x19.toInt - (1 : Int) := by rw [ex21]; exact wk_sub (show (-2147483648) ≤ x19.toInt - (1 : Int) by omega) (show x19.toInt - (1 : Int) ≤ 2147483647 by omega)
      refine tk_Vi hC hK hw hT hA hE hSR kM_at0 (by decide) rfl (k_X12_numberHere_4 l adK adV dC dI cy ad B (by omega) (by omega) qr s1   x21 (show (-1) ≤ x21.toInt by omega) (show x21.toInt ≤ 9 by omega) w6 H.size hT ) (cwV 2 hC.2.2.2.2 gX12_isStreetHere_X12_numberHere rfl rfl rfl (by decide +kernel) ⟨Nat.le_of_ble_eq_true rfl, Nat.le_of_ble_eq_true rfl⟩) rfl hl.1 rfl (Nat.le_of_ble_eq_true rfl) dX12_isStreetHere_36 (fun r22 w24 H locs hp23 hw => ?_)
      obtain ⟨hT, k25, hg39⟩ := hp23
      have hF := hF.tr k25 (by decide)
      have c40 := k25.gi kM_at0 (by decide) c15
      have c41 := k25.gi kM_at0 (by decide) c9
      have c42 := k25.gi kM_at0 (by decide) c20
      rcases hg39 with ⟨rfl, ⟨x26, c27, rx26, tx26⟩, ⟨x28, c29, rx28, tx28⟩⟩ | ⟨rfl, ⟨x30, c31, rx30, tx30⟩, ⟨x32, c33, rx32, tx32⟩⟩ | ⟨rfl, g34, ⟨x35, c36, rx35, tx35⟩, ⟨x37, c38, rx37, tx37⟩⟩
      · have ex26 : x26.toInt = x8.toInt := by rw [← c41.symm.trans c27]
        refine lv_if_ne (tgt := 44) hx hb dX12_isStreetHere_39 (by decide) (fun c => absurd (by decide) c) (fun _ => ?_)
        refine lv_iconst (v := 0) hx hb dX12_isStreetHere_42 (by decide) ?_
        exact tk_zret hC hr rfl hlocks hK ⟨hT, hF, (Or.inr (Or.inl ⟨rfl, ⟨x8, c41, (show 1 ≤ x8.toInt by omega), (show x8.toInt ≤ 400 by omega)⟩, ⟨x1, c40, (show 0 ≤ x1.toInt by omega), (show x1.toInt ≤ 11 by omega)⟩, ⟨x28, c29, (show 1 ≤ x28.toInt by omega), (show x28.toInt ≤ 3205 by omega)⟩⟩))⟩ hw dX12_isStreetHere_43
      · have ex30 : x30.toInt = x8.toInt := by rw [← c41.symm.trans c31]
        refine lv_if_ne (tgt := 44) hx hb dX12_isStreetHere_39 (by decide) (fun c => absurd (by decide) c) (fun _ => ?_)
        refine lv_iconst (v := 0) hx hb dX12_isStreetHere_42 (by decide) ?_
        exact tk_zret hC hr rfl hlocks hK ⟨hT, hF, (Or.inr (Or.inl ⟨rfl, ⟨x8, c41, (show 1 ≤ x8.toInt by omega), (show x8.toInt ≤ 400 by omega)⟩, ⟨x1, c40, (show 0 ≤ x1.toInt by omega), (show x1.toInt ≤ 11 by omega)⟩, ⟨x32, c33, (show 1 ≤ x32.toInt by omega), (show x32.toInt ≤ 3205 by omega)⟩⟩))⟩ hw dX12_isStreetHere_43
      · have ex35 : x35.toInt = x8.toInt := by rw [← c41.symm.trans c36]
        refine lv_if_ne (tgt := 44) hx hb dX12_isStreetHere_39 (by decide) (fun _ => ?_) (fun c => absurd c (by decide))
        refine lv_aload_n hx hb dX12_isStreetHere_44 rfl (lv_at hl 1 rfl) ?_
        refine tk_getA hC hK hw hT hinX12 kM_at0 (by decide) rfl 11 (by decide) (List.mem_of_getElem? (i := 3) rfl) rfl rfl dX12_isStreetHere_45 ?_
        refine lv_iload_n hx hb dX12_isStreetHere_48 rfl (lv_at hl 0 rfl) ?_
        refine lv_aload_n hx hb dX12_isStreetHere_49 rfl (lv_at hl 1 rfl) ?_
        refine tk_geti hC hK hw hT hinX12 kM_at0 (by decide) rfl 16 (by decide) (List.mem_of_getElem? (i := 4) rfl) rfl rfl dX12_isStreetHere_50 (fun x43 c44 rx43 tx43 => ?_)
        refine wk_top x37 (c44.symm.trans c38) ?_
        refine tk_iast hC hK hw hT kM_at6 (by decide) rfl rfl (show 0 ≤ x18.toInt by omega) (show x18.toInt < 120 by omega) (show 0 ≤ x37.toInt by omega) (show x37.toInt ≤ 9 by omega) dX12_isStreetHere_53 (fun H locs w45 hw hT k47 c46 => ?_)
        have hF := hF.put kM_at6 (inE_of (a := 0) (b := 120) (by decide) (show 0 ≤ x18.toInt.toNat by omega) (show x18.toInt.toNat ≤ 120 by omega)) k47
        have c48 := k47.gi (Or.inl (tk_ne kM_at0 kM_at6 (by decide))) c40
        have c49 := k47.gi (Or.inl (tk_ne kM_at0 kM_at6 (by decide))) c41
        have c50 := k47.gi (Or.inl (tk_ne kM_at0 kM_at6 (by decide))) c42
        have c51 := k47.gi (Or.inl (tk_ne kM_at0 kM_at6 (by decide))) c38
        refine lv_aload_n hx hb dX12_isStreetHere_54 rfl (lv_at hl 1 rfl) ?_
        refine tk_Vi hC hK hw hT hA hE hSR kM_at0 (by decide) rfl (k_X12_see_1 l adK adV dC dI cy ad B (by omega) (by omega) qr s1    w45 H.size hT ) (cwV 0 hC.2.2.2.2 gX12_isStreetHere_X12_see rfl rfl rfl (by decide +kernel) ⟨Nat.le_of_ble_eq_true rfl, Nat.le_of_ble_eq_true rfl⟩) rfl hl.1 rfl (Nat.le_of_ble_eq_true rfl) dX12_isStreetHere_55 (fun r52 w54 H locs hp53 hw => ?_)
        obtain ⟨hT, k55, hg64⟩ := hp53
        have hF := hF.tr k55 (by decide)
        have c65 := k55.gi kM_at0 (by decide) c48
        have c66 := k55.gi kM_at0 (by decide) c49
        have c67 := k55.gi kM_at0 (by decide) c50
        have c68 := k55.gi kM_at0 (by decide) c51
        rcases hg64 with ⟨g56, g57, ⟨x58, c59, rx58, tx58⟩, ⟨x60, c61, rx60, tx60⟩⟩ | ⟨rfl, ⟨x62, c63, rx62, tx62⟩⟩
        · have ex58 : x58.toInt = x8.toInt := by rw [← c66.symm.trans c59]
          refine lv_pop hx hb dX12_isStreetHere_58 rfl ?_
          refine lv_aload_n hx hb dX12_isStreetHere_59 rfl (lv_at hl 1 rfl) ?_
          refine tk_geti hC hK hw hT hinX12 kM_at0 (by decide) rfl 14 (by decide) (List.mem_of_getElem? (i := 5) rfl) rfl rfl dX12_isStreetHere_60 (fun x69 c70 rx69 tx69 => ?_)
          refine wk_top x60 (c70.symm.trans c61) ?_
          refine lv_istore_n (lv' := [(3, .int x60), (2, .int x18), (0, .ref (ad 0)), (1, .int a1)]) hx hb dX12_isStreetHere_63 rfl hl (by decide) rfl (fun ls hl => ?_)
          refine lv_aload_n hx hb dX12_isStreetHere_64 rfl (lv_at hl 2 rfl) ?_
          refine lv_iconst (v := 0) hx hb dX12_isStreetHere_65 (by decide) ?_
          refine lv_aload_n hx hb dX12_isStreetHere_66 rfl (lv_at hl 2 rfl) ?_
          refine tk_geti hC hK hw hT hinX12 kM_at0 (by decide) rfl 7 (by decide) (List.mem_of_getElem? (i := 2) rfl) rfl rfl dX12_isStreetHere_67 (fun x71 c72 rx71 tx71 => ?_)
          refine wk_top x19 (c72.symm.trans c67) ?_
          refine lv_iconst (v := 1) hx hb dX12_isStreetHere_70 (by decide) ?_
          refine lv_isub hx hb dX12_isStreetHere_71 ?_
          refine lv_topi (fun x73 ex73 => ?_)
          have ex73 : x73.toInt = x19.toInt - (1 : Int) := by rw [ex73]; exact wk_sub (show (-2147483648) ≤ x19.toInt - (1 : Int) by omega) (show x19.toInt - (1 : Int) ≤ 2147483647 by omega)
          refine tk_Vi hC hK hw hT hA hE hSR kM_at0 (by decide) rfl (k_X12_numberHere_6 l adK adV dC dI cy ad B (by omega) (by omega) qr s1   x73 (show 0 ≤ x73.toInt by omega) (show x73.toInt ≤ 9 by omega) w54 H.size hT ) (cwV 2 hC.2.2.2.2 gX12_isStreetHere_X12_numberHere rfl rfl rfl (by decide +kernel) ⟨Nat.le_of_ble_eq_true rfl, Nat.le_of_ble_eq_true rfl⟩) rfl hl.1 rfl (Nat.le_of_ble_eq_true rfl) dX12_isStreetHere_72 (fun r74 w76 H locs hp75 hw => ?_)
          obtain ⟨hT, k77, hg90⟩ := hp75
          have hF := hF.tr k77 (by decide)
          have c91 := k77.gi kM_at0 (by decide) c65
          have c92 := k77.gi kM_at0 (by decide) c66
          have c93 := k77.gi kM_at0 (by decide) c67
          rcases hg90 with ⟨rfl, ⟨x78, c79, rx78, tx78⟩, ⟨x80, c81, rx80, tx80⟩⟩ | ⟨rfl, ⟨x82, c83, rx82, tx82⟩, ⟨x84, c85, rx84, tx84⟩⟩ | ⟨rfl, ⟨x86, c87, rx86, tx86⟩, ⟨x88, c89, rx88, tx88⟩⟩
          · have ex78 : x78.toInt = x8.toInt := by rw [← c92.symm.trans c79]
            refine lv_if_ne (tgt := 80) hx hb dX12_isStreetHere_75 (by decide) (fun c => absurd (by decide) c) (fun _ => ?_)
            refine lv_iconst (v := 0) hx hb dX12_isStreetHere_78 (by decide) ?_
            exact tk_zret hC hr rfl hlocks hK ⟨hT, hF, (Or.inr (Or.inl ⟨rfl, ⟨x8, c92, (show 1 ≤ x8.toInt by omega), (show x8.toInt ≤ 400 by omega)⟩, ⟨x1, c91, (show 0 ≤ x1.toInt by omega), (show x1.toInt ≤ 11 by omega)⟩, ⟨x80, c81, (show 1 ≤ x80.toInt by omega), (show x80.toInt ≤ 3205 by omega)⟩⟩))⟩ hw dX12_isStreetHere_79
          · have ex82 : x82.toInt = x8.toInt := by rw [← c92.symm.trans c83]
            refine lv_if_ne (tgt := 80) hx hb dX12_isStreetHere_75 (by decide) (fun c => absurd (by decide) c) (fun _ => ?_)
            refine lv_iconst (v := 0) hx hb dX12_isStreetHere_78 (by decide) ?_
            exact tk_zret hC hr rfl hlocks hK ⟨hT, hF, (Or.inr (Or.inl ⟨rfl, ⟨x8, c92, (show 1 ≤ x8.toInt by omega), (show x8.toInt ≤ 400 by omega)⟩, ⟨x1, c91, (show 0 ≤ x1.toInt by omega), (show x1.toInt ≤ 11 by omega)⟩, ⟨x84, c85, (show 1 ≤ x84.toInt by omega), (show x84.toInt ≤ 3205 by omega)⟩⟩))⟩ hw dX12_isStreetHere_79
          · have ex86 : x86.toInt = x8.toInt := by rw [← c92.symm.trans c87]
            refine lv_if_ne (tgt := 80) hx hb dX12_isStreetHere_75 (by decide) (fun _ => ?_) (fun c => absurd c (by decide))
            refine lv_aload_n hx hb dX12_isStreetHere_80 rfl (lv_at hl 2 rfl) ?_
            refine tk_geti hC hK hw hT hinX12 kM_at0 (by decide) rfl 16 (by decide) (List.mem_of_getElem? (i := 4) rfl) rfl rfl dX12_isStreetHere_81 (fun x94 c95 rx94 tx94 => ?_)
            refine wk_top x88 (c95.symm.trans c89) ?_
            refine lv_aload_n hx hb dX12_isStreetHere_84 rfl (lv_at hl 2 rfl) ?_
            refine tk_getA hC hK hw hT hinX12 kM_at0 (by decide) rfl 11 (by decide) (List.mem_of_getElem? (i := 3) rfl) rfl rfl dX12_isStreetHere_85 ?_
            refine lv_iload_n hx hb dX12_isStreetHere_88 rfl (lv_at hl 1 rfl) ?_
            refine tk_iald hC hK hw hT kM_at6 rfl rfl (show 0 ≤ x18.toInt by omega) (show x18.toInt < 120 by omega) dX12_isStreetHere_89 (fun x96 c97 rx96 tx96 => ?_)
            refine lv_icmp_ne (tgt := 100) hx hb dX12_isStreetHere_90 (by decide) (fun c98 => ?_) (fun c98 => ?_)
            · have c98 : ¬ x88.toInt = x96.toInt := wk_eqF c98
              refine lv_aload_n hx hb dX12_isStreetHere_100 rfl (lv_at hl 2 rfl) ?_
              refine tk_getA hC hK hw hT hinX12 kM_at0 (by decide) rfl 11 (by decide) (List.mem_of_getElem? (i := 3) rfl) rfl rfl dX12_isStreetHere_101 ?_
              refine lv_iload_n hx hb dX12_isStreetHere_104 rfl (lv_at hl 1 rfl) ?_
              refine lv_iconst (v := 1) hx hb dX12_isStreetHere_105 (by decide) ?_
              refine lv_iadd hx hb dX12_isStreetHere_106 ?_
              refine lv_topi (fun x99 ex99 => ?_)
              have ex99 : x99.toInt = x18.toInt + (1 : Int) := by rw [ex99]; exact wk_add (show (-2147483648) ≤ x18.toInt + (1 : Int) by omega) (show x18.toInt + (1 : Int) ≤ 2147483647 by omega)
              refine lv_aload_n hx hb dX12_isStreetHere_107 rfl (lv_at hl 2 rfl) ?_
              refine tk_geti hC hK hw hT hinX12 kM_at0 (by decide) rfl 16 (by decide) (List.mem_of_getElem? (i := 4) rfl) rfl rfl dX12_isStreetHere_108 (fun x100 c101 rx100 tx100 => ?_)
              refine wk_top x88 (c101.symm.trans c89) ?_
              refine tk_iast hC hK hw hT kM_at6 (by decide) rfl rfl (show 0 ≤ x99.toInt by omega) (show x99.toInt < 120 by omega) (show 0 ≤ x88.toInt by omega) (show x88.toInt ≤ 9 by omega) dX12_isStreetHere_111 (fun H locs w102 hw hT k104 c103 => ?_)
              have hF := hF.put kM_at6 (inE_of (a := 0) (b := 120) (by decide) (show 0 ≤ x99.toInt.toNat by omega) (show x99.toInt.toNat ≤ 120 by omega)) k104
              have c105 := k104.gi (Or.inl (tk_ne kM_at0 kM_at6 (by decide))) c91
              have c106 := k104.gi (Or.inl (tk_ne kM_at0 kM_at6 (by decide))) c92
              have c107 := k104.gi (Or.inl (tk_ne kM_at0 kM_at6 (by decide))) c93
              have c108 := k104.gi (Or.inl (tk_ne kM_at0 kM_at6 (by decide))) c89
              refine lv_aload_n hx hb dX12_isStreetHere_112 rfl (lv_at hl 2 rfl) ?_
              refine lv_iconst (v := 1) hx hb dX12_isStreetHere_113 (by decide) ?_
              refine lv_bipush (v := 9) hx hb dX12_isStreetHere_114 (by decide) ?_
              refine tk_Vi hC hK hw hT hA hE hSR kM_at0 (by decide) rfl (k_X12_numberHere_7 l adK adV dC dI cy ad B (by omega) (by omega) qr s1    w102 H.size hT ) (cwV 2 hC.2.2.2.2 gX12_isStreetHere_X12_numberHere rfl rfl rfl (by decide +kernel) ⟨Nat.le_of_ble_eq_true rfl, Nat.le_of_ble_eq_true rfl⟩) rfl hl.1 rfl (Nat.le_of_ble_eq_true rfl) dX12_isStreetHere_116 (fun r109 w111 H locs hp110 hw => ?_)
              obtain ⟨hT, k112, hg125⟩ := hp110
              have hF := hF.tr k112 (by decide)
              have c126 := k112.gi kM_at0 (by decide) c105
              have c127 := k112.gi kM_at0 (by decide) c106
              have c128 := k112.gi kM_at0 (by decide) c107
              rcases hg125 with ⟨rfl, ⟨x113, c114, rx113, tx113⟩, ⟨x115, c116, rx115, tx115⟩⟩ | ⟨rfl, ⟨x117, c118, rx117, tx117⟩, ⟨x119, c120, rx119, tx119⟩⟩ | ⟨rfl, ⟨x121, c122, rx121, tx121⟩, ⟨x123, c124, rx123, tx123⟩⟩
              · have ex113 : x113.toInt = x8.toInt := by rw [← c127.symm.trans c114]
                refine lv_if_ne (tgt := 124) hx hb dX12_isStreetHere_119 (by decide) (fun c => absurd (by decide) c) (fun _ => ?_)
                refine lv_iconst (v := 0) hx hb dX12_isStreetHere_122 (by decide) ?_
                exact tk_zret hC hr rfl hlocks hK ⟨hT, hF, (Or.inr (Or.inl ⟨rfl, ⟨x8, c127, (show 1 ≤ x8.toInt by omega), (show x8.toInt ≤ 400 by omega)⟩, ⟨x1, c126, (show 0 ≤ x1.toInt by omega), (show x1.toInt ≤ 11 by omega)⟩, ⟨x115, c116, (show 1 ≤ x115.toInt by omega), (show x115.toInt ≤ 3205 by omega)⟩⟩))⟩ hw dX12_isStreetHere_123
              · have ex117 : x117.toInt = x8.toInt := by rw [← c127.symm.trans c118]
                refine lv_if_ne (tgt := 124) hx hb dX12_isStreetHere_119 (by decide) (fun c => absurd (by decide) c) (fun _ => ?_)
                refine lv_iconst (v := 0) hx hb dX12_isStreetHere_122 (by decide) ?_
                exact tk_zret hC hr rfl hlocks hK ⟨hT, hF, (Or.inr (Or.inl ⟨rfl, ⟨x8, c127, (show 1 ≤ x8.toInt by omega), (show x8.toInt ≤ 400 by omega)⟩, ⟨x1, c126, (show 0 ≤ x1.toInt by omega), (show x1.toInt ≤ 11 by omega)⟩, ⟨x119, c120, (show 1 ≤ x119.toInt by omega), (show x119.toInt ≤ 3205 by omega)⟩⟩))⟩ hw dX12_isStreetHere_123
              · have ex121 : x121.toInt = x8.toInt := by rw [← c127.symm.trans c122]
                refine lv_if_ne (tgt := 124) hx hb dX12_isStreetHere_119 (by decide) (fun _ => ?_) (fun c => absurd c (by decide))
                refine lv_aload_n hx hb dX12_isStreetHere_124 rfl (lv_at hl 2 rfl) ?_
                refine tk_getA hC hK hw hT hinX12 kM_at0 (by decide) rfl 11 (by decide) (List.mem_of_getElem? (i := 3) rfl) rfl rfl dX12_isStreetHere_125 ?_
                refine lv_iload_n hx hb dX12_isStreetHere_128 rfl (lv_at hl 1 rfl) ?_
                refine lv_iconst (v := 2) hx hb dX12_isStreetHere_129 (by decide) ?_
                refine lv_iadd hx hb dX12_isStreetHere_130 ?_
                refine lv_topi (fun x129 ex129 => ?_)
                have ex129 : x129.toInt = x18.toInt + (2 : Int) := by rw [ex129]; exact wk_add (show (-2147483648) ≤ x18.toInt + (2 : Int) by omega) (show x18.toInt + (2 : Int) ≤ 2147483647 by omega)
                refine lv_aload_n hx hb dX12_isStreetHere_131 rfl (lv_at hl 2 rfl) ?_
                refine tk_geti hC hK hw hT hinX12 kM_at0 (by decide) rfl 16 (by decide) (List.mem_of_getElem? (i := 4) rfl) rfl rfl dX12_isStreetHere_132 (fun x130 c131 rx130 tx130 => ?_)
                refine wk_top x123 (c131.symm.trans c124) ?_
                refine tk_iast hC hK hw hT kM_at6 (by decide) rfl rfl (show 0 ≤ x129.toInt by omega) (show x129.toInt < 120 by omega) (show 0 ≤ x123.toInt by omega) (show x123.toInt ≤ 9 by omega) dX12_isStreetHere_135 (fun H locs w132 hw hT k134 c133 => ?_)
                have hF := hF.put kM_at6 (inE_of (a := 0) (b := 120) (by decide) (show 0 ≤ x129.toInt.toNat by omega) (show x129.toInt.toNat ≤ 120 by omega)) k134
                have c135 := k134.gi (Or.inl (tk_ne kM_at0 kM_at6 (by decide))) c126
                have c136 := k134.gi (Or.inl (tk_ne kM_at0 kM_at6 (by decide))) c127
                have c137 := k134.gi (Or.inl (tk_ne kM_at0 kM_at6 (by decide))) c128
                have c138 := k134.gi (Or.inl (tk_ne kM_at0 kM_at6 (by decide))) c124
                refine lv_aload_n hx hb dX12_isStreetHere_136 rfl (lv_at hl 2 rfl) ?_
                refine lv_iload_n hx hb dX12_isStreetHere_137 rfl (lv_at hl 1 rfl) ?_
                refine lv_iconst (v := 3) hx hb dX12_isStreetHere_138 (by decide) ?_
                refine lv_iadd hx hb dX12_isStreetHere_139 ?_
                refine lv_topi (fun x139 ex139 => ?_)
                have ex139 : x139.toInt = x18.toInt + (3 : Int) := by rw [ex139]; exact wk_add (show (-2147483648) ≤ x18.toInt + (3 : Int) by omega) (show x18.toInt + (3 : Int) ≤ 2147483647 by omega)
                refine tk_Vi hC hK hw hT hA hE hSR kM_at0 (by decide) rfl (k_X12_areSignsHere_1 l adK adV dC dI cy ad B (by omega) (by omega) qr s1   x139 (show 3 ≤ x139.toInt by omega) (show x139.toInt ≤ 113 by omega) w132 H.size hT ) (cwV 1 hC.2.2.2.2 gX12_isStreetHere_X12_areSignsHere rfl rfl rfl (by decide +kernel) ⟨Nat.le_of_ble_eq_true rfl, Nat.le_of_ble_eq_true rfl⟩) rfl hl.1 rfl (Nat.le_of_ble_eq_true rfl) dX12_isStreetHere_140 (fun r140 w142 H locs hp141 hw => ?_)
                obtain ⟨hT, k143, hg156⟩ := hp141
                have hF := hF.tr k143 (by decide)
                have c157 := k143.gi kM_at0 (by decide) c135
                have c158 := k143.gi kM_at0 (by decide) c136
                have c159 := k143.gi kM_at0 (by decide) c137
                have c160 := k143.gi kM_at0 (by decide) c138
                rcases hg156 with ⟨rfl, ⟨x144, c145, rx144, tx144⟩, ⟨x146, c147, rx146, tx146⟩, ⟨x148, c149, rx148, tx148⟩⟩ | ⟨rfl, ⟨x150, c151, rx150, tx150⟩, ⟨x152, c153, rx152, tx152⟩⟩ | ⟨rfl, ⟨x154, c155, rx154, tx154⟩⟩
                · have ex144 : x144.toInt = x8.toInt := by rw [← c158.symm.trans c145]
                  refine lv_if_ne (tgt := 148) hx hb dX12_isStreetHere_143 (by decide) (fun c => absurd (by decide) c) (fun _ => ?_)
                  refine lv_iconst (v := 0) hx hb dX12_isStreetHere_146 (by decide) ?_
                  exact tk_zret hC hr rfl hlocks hK ⟨hT, hF, (Or.inr (Or.inl ⟨rfl, ⟨x8, c158, (show 1 ≤ x8.toInt by omega), (show x8.toInt ≤ 400 by omega)⟩, ⟨x1, c157, (show 0 ≤ x1.toInt by omega), (show x1.toInt ≤ 11 by omega)⟩, ⟨x148, c149, (show 1 ≤ x148.toInt by omega), (show x148.toInt ≤ 3205 by omega)⟩⟩))⟩ hw dX12_isStreetHere_147
                · have ex150 : x150.toInt = x8.toInt := by rw [← c158.symm.trans c151]
                  refine lv_if_ne (tgt := 148) hx hb dX12_isStreetHere_143 (by decide) (fun c => absurd (by decide) c) (fun _ => ?_)
                  refine lv_iconst (v := 0) hx hb dX12_isStreetHere_146 (by decide) ?_
                  exact tk_zret hC hr rfl hlocks hK ⟨hT, hF, (Or.inr (Or.inl ⟨rfl, ⟨x8, c158, (show 1 ≤ x8.toInt by omega), (show x8.toInt ≤ 400 by omega)⟩, ⟨x1, c157, (show 0 ≤ x1.toInt by omega), (show x1.toInt ≤ 11 by omega)⟩, ⟨x152, c153, (show 1 ≤ x152.toInt by omega), (show x152.toInt ≤ 3205 by omega)⟩⟩))⟩ hw dX12_isStreetHere_147
                · have ex154 : x154.toInt = x8.toInt := by rw [← c158.symm.trans c155]
                  refine lv_if_ne (tgt := 148) hx hb dX12_isStreetHere_143 (by decide) (fun _ => ?_) (fun c => absurd c (by decide))
                  refine lv_aload_n hx hb dX12_isStreetHere_148 rfl (lv_at hl 2 rfl) ?_
                  refine lv_dup hx hb dX12_isStreetHere_149 rfl ?_
                  refine tk_geti hC hK hw hT hinX12 kM_at0 (by decide) rfl 8 (by decide) (List.mem_of_getElem? (i := 1) rfl) rfl rfl dX12_isStreetHere_150 (fun x161 c162 rx161 tx161 => ?_)
                  refine wk_top x1 (c162.symm.trans c157) ?_
                  refine lv_iconst (v := 1) hx hb dX12_isStreetHere_153 (by decide) ?_
                  refine lv_iadd hx hb dX12_isStreetHere_154 ?_
                  refine lv_topi (fun x163 ex163 => ?_)
                  have ex163 : x163.toInt = x1.toInt + (1 : Int) := by rw [ex163]; exact wk_add (show (-2147483648) ≤ x1.toInt + (1 : Int) by omega) (show x1.toInt + (1 : Int) ≤ 2147483647 by omega)
                  refine tk_puti hC hK hw hT hinX12 tyX12_ok nmX12 kM_at0 (by decide) rfl rfl 8 (by decide) (List.mem_of_getElem? (i := 1) rfl) rfl rfl rfl rfl (show 0 ≤ x163.toInt by omega) (show x163.toInt ≤ 12 by omega) dX12_isStreetHere_155 (fun H locs w164 hw hT k166 c165 => ?_)
                  have hF := hF.put kM_at0 (k := 8) (by decide) k166
                  have c167 := k166.gi (Or.inr (by decide)) c158
                  have c168 := k166.gi (Or.inr (by decide)) c159
                  have c169 := k166.gi (Or.inr (by decide)) c160
                  refine lv_iconst (v := 1) hx hb dX12_isStreetHere_158 (by decide) ?_
                  exact tk_zret hC hr rfl hlocks hK ⟨hT, hF, (Or.inr (Or.inr (Or.inr ⟨rfl, ⟨x8, c167, (show 1 ≤ x8.toInt by omega), (show x8.toInt ≤ 400 by omega)⟩, ⟨x19, c168, (show 1 ≤ x19.toInt by omega), (show x19.toInt ≤ 10 by omega)⟩, ⟨x163, c165, (show 1 ≤ x163.toInt by omega), (show x163.toInt ≤ 12 by omega)⟩, ⟨x123, c169, (show 1 ≤ x123.toInt by omega), (show x123.toInt ≤ 9 by omega)⟩⟩)))⟩ hw dX12_isStreetHere_159
            · have c98 : x88.toInt = x96.toInt := wk_eq.mp c98
              refine lv_aload_n hx hb dX12_isStreetHere_93 rfl (lv_at hl 2 rfl) ?_
              refine lv_iconst (v := 1) hx hb dX12_isStreetHere_94 (by decide) ?_
              refine lv_iload_n hx hb dX12_isStreetHere_95 rfl (lv_at hl 0 rfl) ?_
              refine tk_Vi hC hK hw hT hA hE hSR kM_at0 (by decide) rfl (k_X12_fails_1 l adK adV dC dI cy ad B (by omega) (by omega) qr s1   1 (by decide) (by decide) x60 (show 0 ≤ x60.toInt by omega) (show x60.toInt ≤ 400 by omega) w76 H.size hT ) (cwV 2 hC.2.2.2.2 gX12_isStreetHere_X12_fails rfl rfl rfl (by decide +kernel) ⟨Nat.le_of_ble_eq_true rfl, Nat.le_of_ble_eq_true rfl⟩) rfl hl.1 rfl (Nat.le_of_ble_eq_true rfl) dX12_isStreetHere_96 (fun r170 w172 H locs hp171 hw => ?_)
              obtain ⟨hT, k173, hg176⟩ := hp171
              have hF := hF.tr k173 (by decide)
              have c177 := k173.gi kM_at0 (by decide) c91
              have c178 := k173.gi kM_at0 (by decide) c92
              have c179 := k173.gi kM_at0 (by decide) c93
              have c180 := k173.gi kM_at0 (by decide) c89
              obtain ⟨rfl, ⟨x174, c175, rx174, tx174⟩⟩ := hg176
              exact tk_zret hC hr rfl hlocks hK ⟨hT, hF, (Or.inr (Or.inl ⟨rfl, ⟨x8, c178, (show 1 ≤ x8.toInt by omega), (show x8.toInt ≤ 400 by omega)⟩, ⟨x1, c177, (show 0 ≤ x1.toInt by omega), (show x1.toInt ≤ 11 by omega)⟩, ⟨x174, c175, (show 1 ≤ x174.toInt by omega), (show x174.toInt ≤ 3205 by omega)⟩⟩))⟩ hw dX12_isStreetHere_99
        · have ex62 : x62.toInt = x8.toInt := by rw [← c66.symm.trans c63]
          refine lv_pop hx hb dX12_isStreetHere_58 rfl ?_
          refine lv_aload_n hx hb dX12_isStreetHere_59 rfl (lv_at hl 1 rfl) ?_
          refine tk_geti hC hK hw hT hinX12 kM_at0 (by decide) rfl 14 (by decide) (List.mem_of_getElem? (i := 5) rfl) rfl rfl dX12_isStreetHere_60 (fun x181 c182 rx181 tx181 => ?_)
          refine lv_istore_n (lv' := [(3, .int x181), (2, .int x18), (0, .ref (ad 0)), (1, .int a1)]) hx hb dX12_isStreetHere_63 rfl hl (by decide) rfl (fun ls hl => ?_)
          refine lv_aload_n hx hb dX12_isStreetHere_64 rfl (lv_at hl 2 rfl) ?_
          refine lv_iconst (v := 0) hx hb dX12_isStreetHere_65 (by decide) ?_
          refine lv_aload_n hx hb dX12_isStreetHere_66 rfl (lv_at hl 2 rfl) ?_
          refine tk_geti hC hK hw hT hinX12 kM_at0 (by decide) rfl 7 (by decide) (List.mem_of_getElem? (i := 2) rfl) rfl rfl dX12_isStreetHere_67 (fun x183 c184 rx183 tx183 => ?_)
          refine wk_top x19 (c184.symm.trans c67) ?_
          refine lv_iconst (v := 1) hx hb dX12_isStreetHere_70 (by decide) ?_
          refine lv_isub hx hb dX12_isStreetHere_71 ?_
          refine lv_topi (fun x185 ex185 => ?_)
          have ex185 : x185.toInt = x19.toInt - (1 : Int) := by rw [ex185]; exact wk_sub (show (-2147483648) ≤ x19.toInt - (1 : Int) by omega) (show x19.toInt - (1 : Int) ≤ 2147483647 by omega)
          refine tk_Vi hC hK hw hT hA hE hSR kM_at0 (by decide) rfl (k_X12_numberHere_6 l adK adV dC dI cy ad B (by omega) (by omega) qr s1   x185 (show 0 ≤ x185.toInt by omega) (show x185.toInt ≤ 9 by omega) w54 H.size hT ) (cwV 2 hC.2.2.2.2 gX12_isStreetHere_X12_numberHere rfl rfl rfl (by decide +kernel) ⟨Nat.le_of_ble_eq_true rfl, Nat.le_of_ble_eq_true rfl⟩) rfl hl.1 rfl (Nat.le_of_ble_eq_true rfl) dX12_isStreetHere_72 (fun r186 w188 H locs hp187 hw => ?_)
          obtain ⟨hT, k189, hg202⟩ := hp187
          have hF := hF.tr k189 (by decide)
          have c203 := k189.gi kM_at0 (by decide) c65
          have c204 := k189.gi kM_at0 (by decide) c66
          have c205 := k189.gi kM_at0 (by decide) c67
          rcases hg202 with ⟨rfl, ⟨x190, c191, rx190, tx190⟩, ⟨x192, c193, rx192, tx192⟩⟩ | ⟨rfl, ⟨x194, c195, rx194, tx194⟩, ⟨x196, c197, rx196, tx196⟩⟩ | ⟨rfl, ⟨x198, c199, rx198, tx198⟩, ⟨x200, c201, rx200, tx200⟩⟩
          · have ex190 : x190.toInt = x8.toInt := by rw [← c204.symm.trans c191]
            refine lv_if_ne (tgt := 80) hx hb dX12_isStreetHere_75 (by decide) (fun c => absurd (by decide) c) (fun _ => ?_)
            refine lv_iconst (v := 0) hx hb dX12_isStreetHere_78 (by decide) ?_
            exact tk_zret hC hr rfl hlocks hK ⟨hT, hF, (Or.inr (Or.inl ⟨rfl, ⟨x8, c204, (show 1 ≤ x8.toInt by omega), (show x8.toInt ≤ 400 by omega)⟩, ⟨x1, c203, (show 0 ≤ x1.toInt by omega), (show x1.toInt ≤ 11 by omega)⟩, ⟨x192, c193, (show 1 ≤ x192.toInt by omega), (show x192.toInt ≤ 3205 by omega)⟩⟩))⟩ hw dX12_isStreetHere_79
          · have ex194 : x194.toInt = x8.toInt := by rw [← c204.symm.trans c195]
            refine lv_if_ne (tgt := 80) hx hb dX12_isStreetHere_75 (by decide) (fun c => absurd (by decide) c) (fun _ => ?_)
            refine lv_iconst (v := 0) hx hb dX12_isStreetHere_78 (by decide) ?_
            exact tk_zret hC hr rfl hlocks hK ⟨hT, hF, (Or.inr (Or.inl ⟨rfl, ⟨x8, c204, (show 1 ≤ x8.toInt by omega), (show x8.toInt ≤ 400 by omega)⟩, ⟨x1, c203, (show 0 ≤ x1.toInt by omega), (show x1.toInt ≤ 11 by omega)⟩, ⟨x196, c197, (show 1 ≤ x196.toInt by omega), (show x196.toInt ≤ 3205 by omega)⟩⟩))⟩ hw dX12_isStreetHere_79
          · have ex198 : x198.toInt = x8.toInt := by rw [← c204.symm.trans c199]
            refine lv_if_ne (tgt := 80) hx hb dX12_isStreetHere_75 (by decide) (fun _ => ?_) (fun c => absurd c (by decide))
            refine lv_aload_n hx hb dX12_isStreetHere_80 rfl (lv_at hl 2 rfl) ?_
            refine tk_geti hC hK hw hT hinX12 kM_at0 (by decide) rfl 16 (by decide) (List.mem_of_getElem? (i := 4) rfl) rfl rfl dX12_isStreetHere_81 (fun x206 c207 rx206 tx206 => ?_)
            refine wk_top x200 (c207.symm.trans c201) ?_
            refine lv_aload_n hx hb dX12_isStreetHere_84 rfl (lv_at hl 2 rfl) ?_
            refine tk_getA hC hK hw hT hinX12 kM_at0 (by decide) rfl 11 (by decide) (List.mem_of_getElem? (i := 3) rfl) rfl rfl dX12_isStreetHere_85 ?_
            refine lv_iload_n hx hb dX12_isStreetHere_88 rfl (lv_at hl 1 rfl) ?_
            refine tk_iald hC hK hw hT kM_at6 rfl rfl (show 0 ≤ x18.toInt by omega) (show x18.toInt < 120 by omega) dX12_isStreetHere_89 (fun x208 c209 rx208 tx208 => ?_)
            refine lv_icmp_ne (tgt := 100) hx hb dX12_isStreetHere_90 (by decide) (fun c210 => ?_) (fun c210 => ?_)
            · have c210 : ¬ x200.toInt = x208.toInt := wk_eqF c210
              refine lv_aload_n hx hb dX12_isStreetHere_100 rfl (lv_at hl 2 rfl) ?_
              refine tk_getA hC hK hw hT hinX12 kM_at0 (by decide) rfl 11 (by decide) (List.mem_of_getElem? (i := 3) rfl) rfl rfl dX12_isStreetHere_101 ?_
              refine lv_iload_n hx hb dX12_isStreetHere_104 rfl (lv_at hl 1 rfl) ?_
              refine lv_iconst (v := 1) hx hb dX12_isStreetHere_105 (by decide) ?_
              refine lv_iadd hx hb dX12_isStreetHere_106 ?_
              refine lv_topi (fun x211 ex211 => ?_)
              have ex211 : x211.toInt = x18.toInt + (1 : Int) := by rw [ex211]; exact wk_add (show (-2147483648) ≤ x18.toInt + (1 : Int) by omega) (show x18.toInt + (1 : Int) ≤ 2147483647 by omega)
              refine lv_aload_n hx hb dX12_isStreetHere_107 rfl (lv_at hl 2 rfl) ?_
              refine tk_geti hC hK hw hT hinX12 kM_at0 (by decide) rfl 16 (by decide) (List.mem_of_getElem? (i := 4) rfl) rfl rfl dX12_isStreetHere_108 (fun x212 c213 rx212 tx212 => ?_)
              refine wk_top x200 (c213.symm.trans c201) ?_
              refine tk_iast hC hK hw hT kM_at6 (by decide) rfl rfl (show 0 ≤ x211.toInt by omega) (show x211.toInt < 120 by omega) (show 0 ≤ x200.toInt by omega) (show x200.toInt ≤ 9 by omega) dX12_isStreetHere_111 (fun H locs w214 hw hT k216 c215 => ?_)
              have hF := hF.put kM_at6 (inE_of (a := 0) (b := 120) (by decide) (show 0 ≤ x211.toInt.toNat by omega) (show x211.toInt.toNat ≤ 120 by omega)) k216
              have c217 := k216.gi (Or.inl (tk_ne kM_at0 kM_at6 (by decide))) c203
              have c218 := k216.gi (Or.inl (tk_ne kM_at0 kM_at6 (by decide))) c204
              have c219 := k216.gi (Or.inl (tk_ne kM_at0 kM_at6 (by decide))) c205
              have c220 := k216.gi (Or.inl (tk_ne kM_at0 kM_at6 (by decide))) c201
              refine lv_aload_n hx hb dX12_isStreetHere_112 rfl (lv_at hl 2 rfl) ?_
              refine lv_iconst (v := 1) hx hb dX12_isStreetHere_113 (by decide) ?_
              refine lv_bipush (v := 9) hx hb dX12_isStreetHere_114 (by decide) ?_
              refine tk_Vi hC hK hw hT hA hE hSR kM_at0 (by decide) rfl (k_X12_numberHere_7 l adK adV dC dI cy ad B (by omega) (by omega) qr s1    w214 H.size hT ) (cwV 2 hC.2.2.2.2 gX12_isStreetHere_X12_numberHere rfl rfl rfl (by decide +kernel) ⟨Nat.le_of_ble_eq_true rfl, Nat.le_of_ble_eq_true rfl⟩) rfl hl.1 rfl (Nat.le_of_ble_eq_true rfl) dX12_isStreetHere_116 (fun r221 w223 H locs hp222 hw => ?_)
              obtain ⟨hT, k224, hg237⟩ := hp222
              have hF := hF.tr k224 (by decide)
              have c238 := k224.gi kM_at0 (by decide) c217
              have c239 := k224.gi kM_at0 (by decide) c218
              have c240 := k224.gi kM_at0 (by decide) c219
              rcases hg237 with ⟨rfl, ⟨x225, c226, rx225, tx225⟩, ⟨x227, c228, rx227, tx227⟩⟩ | ⟨rfl, ⟨x229, c230, rx229, tx229⟩, ⟨x231, c232, rx231, tx231⟩⟩ | ⟨rfl, ⟨x233, c234, rx233, tx233⟩, ⟨x235, c236, rx235, tx235⟩⟩
              · have ex225 : x225.toInt = x8.toInt := by rw [← c239.symm.trans c226]
                refine lv_if_ne (tgt := 124) hx hb dX12_isStreetHere_119 (by decide) (fun c => absurd (by decide) c) (fun _ => ?_)
                refine lv_iconst (v := 0) hx hb dX12_isStreetHere_122 (by decide) ?_
                exact tk_zret hC hr rfl hlocks hK ⟨hT, hF, (Or.inr (Or.inl ⟨rfl, ⟨x8, c239, (show 1 ≤ x8.toInt by omega), (show x8.toInt ≤ 400 by omega)⟩, ⟨x1, c238, (show 0 ≤ x1.toInt by omega), (show x1.toInt ≤ 11 by omega)⟩, ⟨x227, c228, (show 1 ≤ x227.toInt by omega), (show x227.toInt ≤ 3205 by omega)⟩⟩))⟩ hw dX12_isStreetHere_123
              · have ex229 : x229.toInt = x8.toInt := by rw [← c239.symm.trans c230]
                refine lv_if_ne (tgt := 124) hx hb dX12_isStreetHere_119 (by decide) (fun c => absurd (by decide) c) (fun _ => ?_)
                refine lv_iconst (v := 0) hx hb dX12_isStreetHere_122 (by decide) ?_
                exact tk_zret hC hr rfl hlocks hK ⟨hT, hF, (Or.inr (Or.inl ⟨rfl, ⟨x8, c239, (show 1 ≤ x8.toInt by omega), (show x8.toInt ≤ 400 by omega)⟩, ⟨x1, c238, (show 0 ≤ x1.toInt by omega), (show x1.toInt ≤ 11 by omega)⟩, ⟨x231, c232, (show 1 ≤ x231.toInt by omega), (show x231.toInt ≤ 3205 by omega)⟩⟩))⟩ hw dX12_isStreetHere_123
              · have ex233 : x233.toInt = x8.toInt := by rw [← c239.symm.trans c234]
                refine lv_if_ne (tgt := 124) hx hb dX12_isStreetHere_119 (by decide) (fun _ => ?_) (fun c => absurd c (by decide))
                refine lv_aload_n hx hb dX12_isStreetHere_124 rfl (lv_at hl 2 rfl) ?_
                refine tk_getA hC hK hw hT hinX12 kM_at0 (by decide) rfl 11 (by decide) (List.mem_of_getElem? (i := 3) rfl) rfl rfl dX12_isStreetHere_125 ?_
                refine lv_iload_n hx hb dX12_isStreetHere_128 rfl (lv_at hl 1 rfl) ?_
                refine lv_iconst (v := 2) hx hb dX12_isStreetHere_129 (by decide) ?_
                refine lv_iadd hx hb dX12_isStreetHere_130 ?_
                refine lv_topi (fun x241 ex241 => ?_)
                have ex241 : x241.toInt = x18.toInt + (2 : Int) := by rw [ex241]; exact wk_add (show (-2147483648) ≤ x18.toInt + (2 : Int) by omega) (show x18.toInt + (2 : Int) ≤ 2147483647 by omega)
                refine lv_aload_n hx hb dX12_isStreetHere_131 rfl (lv_at hl 2 rfl) ?_
                refine tk_geti hC hK hw hT hinX12 kM_at0 (by decide) rfl 16 (by decide) (List.mem_of_getElem? (i := 4) rfl) rfl rfl dX12_isStreetHere_132 (fun x242 c243 rx242 tx242 => ?_)
                refine wk_top x235 (c243.symm.trans c236) ?_
                refine tk_iast hC hK hw hT kM_at6 (by decide) rfl rfl (show 0 ≤ x241.toInt by omega) (show x241.toInt < 120 by omega) (show 0 ≤ x235.toInt by omega) (show x235.toInt ≤ 9 by omega) dX12_isStreetHere_135 (fun H locs w244 hw hT k246 c245 => ?_)
                have hF := hF.put kM_at6 (inE_of (a := 0) (b := 120) (by decide) (show 0 ≤ x241.toInt.toNat by omega) (show x241.toInt.toNat ≤ 120 by omega)) k246
                have c247 := k246.gi (Or.inl (tk_ne kM_at0 kM_at6 (by decide))) c238
                have c248 := k246.gi (Or.inl (tk_ne kM_at0 kM_at6 (by decide))) c239
                have c249 := k246.gi (Or.inl (tk_ne kM_at0 kM_at6 (by decide))) c240
                have c250 := k246.gi (Or.inl (tk_ne kM_at0 kM_at6 (by decide))) c236
                refine lv_aload_n hx hb dX12_isStreetHere_136 rfl (lv_at hl 2 rfl) ?_
                refine lv_iload_n hx hb dX12_isStreetHere_137 rfl (lv_at hl 1 rfl) ?_
                refine lv_iconst (v := 3) hx hb dX12_isStreetHere_138 (by decide) ?_
                refine lv_iadd hx hb dX12_isStreetHere_139 ?_
                refine lv_topi (fun x251 ex251 => ?_)
                have ex251 : x251.toInt = x18.toInt + (3 : Int) := by rw [ex251]; exact wk_add (show (-2147483648) ≤ x18.toInt + (3 : Int) by omega) (show x18.toInt + (3 : Int) ≤ 2147483647 by omega)
                refine tk_Vi hC hK hw hT hA hE hSR kM_at0 (by decide) rfl (k_X12_areSignsHere_1 l adK adV dC dI cy ad B (by omega) (by omega) qr s1   x251 (show 3 ≤ x251.toInt by omega) (show x251.toInt ≤ 113 by omega) w244 H.size hT ) (cwV 1 hC.2.2.2.2 gX12_isStreetHere_X12_areSignsHere rfl rfl rfl (by decide +kernel) ⟨Nat.le_of_ble_eq_true rfl, Nat.le_of_ble_eq_true rfl⟩) rfl hl.1 rfl (Nat.le_of_ble_eq_true rfl) dX12_isStreetHere_140 (fun r252 w254 H locs hp253 hw => ?_)
                obtain ⟨hT, k255, hg268⟩ := hp253
                have hF := hF.tr k255 (by decide)
                have c269 := k255.gi kM_at0 (by decide) c247
                have c270 := k255.gi kM_at0 (by decide) c248
                have c271 := k255.gi kM_at0 (by decide) c249
                have c272 := k255.gi kM_at0 (by decide) c250
                rcases hg268 with ⟨rfl, ⟨x256, c257, rx256, tx256⟩, ⟨x258, c259, rx258, tx258⟩, ⟨x260, c261, rx260, tx260⟩⟩ | ⟨rfl, ⟨x262, c263, rx262, tx262⟩, ⟨x264, c265, rx264, tx264⟩⟩ | ⟨rfl, ⟨x266, c267, rx266, tx266⟩⟩
                · have ex256 : x256.toInt = x8.toInt := by rw [← c270.symm.trans c257]
                  refine lv_if_ne (tgt := 148) hx hb dX12_isStreetHere_143 (by decide) (fun c => absurd (by decide) c) (fun _ => ?_)
                  refine lv_iconst (v := 0) hx hb dX12_isStreetHere_146 (by decide) ?_
                  exact tk_zret hC hr rfl hlocks hK ⟨hT, hF, (Or.inr (Or.inl ⟨rfl, ⟨x8, c270, (show 1 ≤ x8.toInt by omega), (show x8.toInt ≤ 400 by omega)⟩, ⟨x1, c269, (show 0 ≤ x1.toInt by omega), (show x1.toInt ≤ 11 by omega)⟩, ⟨x260, c261, (show 1 ≤ x260.toInt by omega), (show x260.toInt ≤ 3205 by omega)⟩⟩))⟩ hw dX12_isStreetHere_147
                · have ex262 : x262.toInt = x8.toInt := by rw [← c270.symm.trans c263]
                  refine lv_if_ne (tgt := 148) hx hb dX12_isStreetHere_143 (by decide) (fun c => absurd (by decide) c) (fun _ => ?_)
                  refine lv_iconst (v := 0) hx hb dX12_isStreetHere_146 (by decide) ?_
                  exact tk_zret hC hr rfl hlocks hK ⟨hT, hF, (Or.inr (Or.inl ⟨rfl, ⟨x8, c270, (show 1 ≤ x8.toInt by omega), (show x8.toInt ≤ 400 by omega)⟩, ⟨x1, c269, (show 0 ≤ x1.toInt by omega), (show x1.toInt ≤ 11 by omega)⟩, ⟨x264, c265, (show 1 ≤ x264.toInt by omega), (show x264.toInt ≤ 3205 by omega)⟩⟩))⟩ hw dX12_isStreetHere_147
                · have ex266 : x266.toInt = x8.toInt := by rw [← c270.symm.trans c267]
                  refine lv_if_ne (tgt := 148) hx hb dX12_isStreetHere_143 (by decide) (fun _ => ?_) (fun c => absurd c (by decide))
                  refine lv_aload_n hx hb dX12_isStreetHere_148 rfl (lv_at hl 2 rfl) ?_
                  refine lv_dup hx hb dX12_isStreetHere_149 rfl ?_
                  refine tk_geti hC hK hw hT hinX12 kM_at0 (by decide) rfl 8 (by decide) (List.mem_of_getElem? (i := 1) rfl) rfl rfl dX12_isStreetHere_150 (fun x273 c274 rx273 tx273 => ?_)
                  refine wk_top x1 (c274.symm.trans c269) ?_
                  refine lv_iconst (v := 1) hx hb dX12_isStreetHere_153 (by decide) ?_
                  refine lv_iadd hx hb dX12_isStreetHere_154 ?_
                  refine lv_topi (fun x275 ex275 => ?_)
                  have ex275 : x275.toInt = x1.toInt + (1 : Int) := by rw [ex275]; exact wk_add (show (-2147483648) ≤ x1.toInt + (1 : Int) by omega) (show x1.toInt + (1 : Int) ≤ 2147483647 by omega)
                  refine tk_puti hC hK hw hT hinX12 tyX12_ok nmX12 kM_at0 (by decide) rfl rfl 8 (by decide) (List.mem_of_getElem? (i := 1) rfl) rfl rfl rfl rfl (show 0 ≤ x275.toInt by omega) (show x275.toInt ≤ 12 by omega) dX12_isStreetHere_155 (fun H locs w276 hw hT k278 c277 => ?_)
                  have hF := hF.put kM_at0 (k := 8) (by decide) k278
                  have c279 := k278.gi (Or.inr (by decide)) c270
                  have c280 := k278.gi (Or.inr (by decide)) c271
                  have c281 := k278.gi (Or.inr (by decide)) c272
                  refine lv_iconst (v := 1) hx hb dX12_isStreetHere_158 (by decide) ?_
                  exact tk_zret hC hr rfl hlocks hK ⟨hT, hF, (Or.inr (Or.inr (Or.inr ⟨rfl, ⟨x8, c279, (show 1 ≤ x8.toInt by omega), (show x8.toInt ≤ 400 by omega)⟩, ⟨x19, c280, (show 1 ≤ x19.toInt by omega), (show x19.toInt ≤ 10 by omega)⟩, ⟨x275, c277, (show 1 ≤ x275.toInt by omega), (show x275.toInt ≤ 12 by omega)⟩, ⟨x235, c281, (show 1 ≤ x235.toInt by omega), (show x235.toInt ≤ 9 by omega)⟩⟩)))⟩ hw dX12_isStreetHere_159
            · have c210 : x200.toInt = x208.toInt := wk_eq.mp c210
              refine lv_aload_n hx hb dX12_isStreetHere_93 rfl (lv_at hl 2 rfl) ?_
              refine lv_iconst (v := 1) hx hb dX12_isStreetHere_94 (by decide) ?_
              refine lv_iload_n hx hb dX12_isStreetHere_95 rfl (lv_at hl 0 rfl) ?_
              refine tk_Vi hC hK hw hT hA hE hSR kM_at0 (by decide) rfl (k_X12_fails_1 l adK adV dC dI cy ad B (by omega) (by omega) qr s1   1 (by decide) (by decide) x181 (show 0 ≤ x181.toInt by omega) (show x181.toInt ≤ 400 by omega) w188 H.size hT ) (cwV 2 hC.2.2.2.2 gX12_isStreetHere_X12_fails rfl rfl rfl (by decide +kernel) ⟨Nat.le_of_ble_eq_true rfl, Nat.le_of_ble_eq_true rfl⟩) rfl hl.1 rfl (Nat.le_of_ble_eq_true rfl) dX12_isStreetHere_96 (fun r282 w284 H locs hp283 hw => ?_)
              obtain ⟨hT, k285, hg288⟩ := hp283
              have hF := hF.tr k285 (by decide)
              have c289 := k285.gi kM_at0 (by decide) c203
              have c290 := k285.gi kM_at0 (by decide) c204
              have c291 := k285.gi kM_at0 (by decide) c205
              have c292 := k285.gi kM_at0 (by decide) c201
              obtain ⟨rfl, ⟨x286, c287, rx286, tx286⟩⟩ := hg288
              exact tk_zret hC hr rfl hlocks hK ⟨hT, hF, (Or.inr (Or.inl ⟨rfl, ⟨x8, c290, (show 1 ≤ x8.toInt by omega), (show x8.toInt ≤ 400 by omega)⟩, ⟨x1, c289, (show 0 ≤ x1.toInt by omega), (show x1.toInt ≤ 11 by omega)⟩, ⟨x286, c287, (show 1 ≤ x286.toInt by omega), (show x286.toInt ≤ 3205 by omega)⟩⟩))⟩ hw dX12_isStreetHere_99
    · refine lv_bipush (v := 10) hx hb dX12_isStreetHere_20 (by decide) ?_
      refine lv_aload_n hx hb dX12_isStreetHere_22 rfl (lv_at hl 0 rfl) ?_
      refine tk_geti hC hK hw hT hinX12 kM_at0 (by decide) rfl 8 (by decide) (List.mem_of_getElem? (i := 1) rfl) rfl rfl dX12_isStreetHere_23 (fun x293 c294 rx293 tx293 => ?_)
      refine wk_top x1 (c294.symm.trans c15) ?_
      refine lv_imul hx hb dX12_isStreetHere_26 ?_
      refine lv_topi (fun x295 ex295 => ?_)
      have ex295 : x295.toInt = (10 : Int) * x1.toInt := by rw [ex295]; exact wk_mul (show (-2147483648) ≤ (10 : Int) * x1.toInt by omega) (show (10 : Int) * x1.toInt ≤ 2147483647 by omega)
      refine lv_istore_n (lv' := [(2, .int x295), (0, .ref (ad 0)), (1, .int a1)]) hx hb dX12_isStreetHere_27 rfl hl (by decide) rfl (fun ls hl => ?_)
      refine lv_aload_n hx hb dX12_isStreetHere_28 rfl (lv_at hl 1 rfl) ?_
      refine lv_iconst (v := 0) hx hb dX12_isStreetHere_29 (by decide) ?_
      refine lv_aload_n hx hb dX12_isStreetHere_30 rfl (lv_at hl 1 rfl) ?_
      refine tk_geti hC hK hw hT hinX12 kM_at0 (by decide) rfl 7 (by decide) (List.mem_of_getElem? (i := 2) rfl) rfl rfl dX12_isStreetHere_31 (fun x296 c297 rx296 tx296 => ?_)
      refine lv_iconst (v := 1) hx hb dX12_isStreetHere_34 (by decide) ?_
      refine lv_isub hx hb dX12_isStreetHere_35 ?_
      refine lv_topi (fun x298 ex298 => ?_)
      have ex298 : x298.toInt = x296.toInt - (1 : Int) := by rw [ex298]; exact wk_sub (show (-2147483648) ≤ x296.toInt - (1 : Int) by omega) (show x296.toInt - (1 : Int) ≤ 2147483647 by omega)
      refine tk_Vi hC hK hw hT hA hE hSR kM_at0 (by decide) rfl (k_X12_numberHere_4 l adK adV dC dI cy ad B (by omega) (by omega) qr s1   x298 (show (-1) ≤ x298.toInt by omega) (show x298.toInt ≤ 9 by omega) w6 H.size hT ) (cwV 2 hC.2.2.2.2 gX12_isStreetHere_X12_numberHere rfl rfl rfl (by decide +kernel) ⟨Nat.le_of_ble_eq_true rfl, Nat.le_of_ble_eq_true rfl⟩) rfl hl.1 rfl (Nat.le_of_ble_eq_true rfl) dX12_isStreetHere_36 (fun r299 w301 H locs hp300 hw => ?_)
      obtain ⟨hT, k302, hg316⟩ := hp300
      have hF := hF.tr k302 (by decide)
      have c317 := k302.gi kM_at0 (by decide) c15
      have c318 := k302.gi kM_at0 (by decide) c13
      have c319 := k302.gi kM_at0 (by decide) c297
      rcases hg316 with ⟨rfl, ⟨x303, c304, rx303, tx303⟩, ⟨x305, c306, rx305, tx305⟩⟩ | ⟨rfl, ⟨x307, c308, rx307, tx307⟩, ⟨x309, c310, rx309, tx309⟩⟩ | ⟨rfl, g311, ⟨x312, c313, rx312, tx312⟩, ⟨x314, c315, rx314, tx314⟩⟩
      · have ex303 : x303.toInt = x12.toInt := by rw [← c318.symm.trans c304]
        refine lv_if_ne (tgt := 44) hx hb dX12_isStreetHere_39 (by decide) (fun c => absurd (by decide) c) (fun _ => ?_)
        refine lv_iconst (v := 0) hx hb dX12_isStreetHere_42 (by decide) ?_
        exact tk_zret hC hr rfl hlocks hK ⟨hT, hF, (Or.inr (Or.inl ⟨rfl, ⟨x12, c318, (show 1 ≤ x12.toInt by omega), (show x12.toInt ≤ 400 by omega)⟩, ⟨x1, c317, (show 0 ≤ x1.toInt by omega), (show x1.toInt ≤ 11 by omega)⟩, ⟨x305, c306, (show 1 ≤ x305.toInt by omega), (show x305.toInt ≤ 3205 by omega)⟩⟩))⟩ hw dX12_isStreetHere_43
      · have ex307 : x307.toInt = x12.toInt := by rw [← c318.symm.trans c308]
        refine lv_if_ne (tgt := 44) hx hb dX12_isStreetHere_39 (by decide) (fun c => absurd (by decide) c) (fun _ => ?_)
        refine lv_iconst (v := 0) hx hb dX12_isStreetHere_42 (by decide) ?_
        exact tk_zret hC hr rfl hlocks hK ⟨hT, hF, (Or.inr (Or.inr (Or.inl ⟨rfl, ⟨x12, c318, (show 0 ≤ x12.toInt by omega), (show x12.toInt ≤ 400 by omega)⟩, ⟨x1, c317, (show 0 ≤ x1.toInt by omega), (show x1.toInt ≤ 11 by omega)⟩, ⟨x309, c310, (show 1 ≤ x309.toInt by omega), (show x309.toInt ≤ 3205 by omega)⟩⟩)))⟩ hw dX12_isStreetHere_43
      · have ex312 : x312.toInt = x12.toInt := by rw [← c318.symm.trans c313]
        refine lv_if_ne (tgt := 44) hx hb dX12_isStreetHere_39 (by decide) (fun _ => ?_) (fun c => absurd c (by decide))
        refine lv_aload_n hx hb dX12_isStreetHere_44 rfl (lv_at hl 1 rfl) ?_
        refine tk_getA hC hK hw hT hinX12 kM_at0 (by decide) rfl 11 (by decide) (List.mem_of_getElem? (i := 3) rfl) rfl rfl dX12_isStreetHere_45 ?_
        refine lv_iload_n hx hb dX12_isStreetHere_48 rfl (lv_at hl 0 rfl) ?_
        refine lv_aload_n hx hb dX12_isStreetHere_49 rfl (lv_at hl 1 rfl) ?_
        refine tk_geti hC hK hw hT hinX12 kM_at0 (by decide) rfl 16 (by decide) (List.mem_of_getElem? (i := 4) rfl) rfl rfl dX12_isStreetHere_50 (fun x320 c321 rx320 tx320 => ?_)
        refine wk_top x314 (c321.symm.trans c315) ?_
        refine tk_iast hC hK hw hT kM_at6 (by decide) rfl rfl (show 0 ≤ x295.toInt by omega) (show x295.toInt < 120 by omega) (show 0 ≤ x314.toInt by omega) (show x314.toInt ≤ 9 by omega) dX12_isStreetHere_53 (fun H locs w322 hw hT k324 c323 => ?_)
        have hF := hF.put kM_at6 (inE_of (a := 0) (b := 120) (by decide) (show 0 ≤ x295.toInt.toNat by omega) (show x295.toInt.toNat ≤ 120 by omega)) k324
        have c325 := k324.gi (Or.inl (tk_ne kM_at0 kM_at6 (by decide))) c317
        have c326 := k324.gi (Or.inl (tk_ne kM_at0 kM_at6 (by decide))) c318
        have c327 := k324.gi (Or.inl (tk_ne kM_at0 kM_at6 (by decide))) c319
        have c328 := k324.gi (Or.inl (tk_ne kM_at0 kM_at6 (by decide))) c315
        refine lv_aload_n hx hb dX12_isStreetHere_54 rfl (lv_at hl 1 rfl) ?_
        refine tk_Vi hC hK hw hT hA hE hSR kM_at0 (by decide) rfl (k_X12_see_1 l adK adV dC dI cy ad B (by omega) (by omega) qr s1    w322 H.size hT ) (cwV 0 hC.2.2.2.2 gX12_isStreetHere_X12_see rfl rfl rfl (by decide +kernel) ⟨Nat.le_of_ble_eq_true rfl, Nat.le_of_ble_eq_true rfl⟩) rfl hl.1 rfl (Nat.le_of_ble_eq_true rfl) dX12_isStreetHere_55 (fun r329 w331 H locs hp330 hw => ?_)
        obtain ⟨hT, k332, hg341⟩ := hp330
        have hF := hF.tr k332 (by decide)
        have c342 := k332.gi kM_at0 (by decide) c325
        have c343 := k332.gi kM_at0 (by decide) c326
        have c344 := k332.gi kM_at0 (by decide) c327
        have c345 := k332.gi kM_at0 (by decide) c328
        rcases hg341 with ⟨g333, g334, ⟨x335, c336, rx335, tx335⟩, ⟨x337, c338, rx337, tx337⟩⟩ | ⟨rfl, ⟨x339, c340, rx339, tx339⟩⟩
        · have ex335 : x335.toInt = x12.toInt := by rw [← c343.symm.trans c336]
          refine lv_pop hx hb dX12_isStreetHere_58 rfl ?_
          refine lv_aload_n hx hb dX12_isStreetHere_59 rfl (lv_at hl 1 rfl) ?_
          refine tk_geti hC hK hw hT hinX12 kM_at0 (by decide) rfl 14 (by decide) (List.mem_of_getElem? (i := 5) rfl) rfl rfl dX12_isStreetHere_60 (fun x346 c347 rx346 tx346 => ?_)
          refine wk_top x337 (c347.symm.trans c338) ?_
          refine lv_istore_n (lv' := [(3, .int x337), (2, .int x295), (0, .ref (ad 0)), (1, .int a1)]) hx hb dX12_isStreetHere_63 rfl hl (by decide) rfl (fun ls hl => ?_)
          refine lv_aload_n hx hb dX12_isStreetHere_64 rfl (lv_at hl 2 rfl) ?_
          refine lv_iconst (v := 0) hx hb dX12_isStreetHere_65 (by decide) ?_
          refine lv_aload_n hx hb dX12_isStreetHere_66 rfl (lv_at hl 2 rfl) ?_
          refine tk_geti hC hK hw hT hinX12 kM_at0 (by decide) rfl 7 (by decide) (List.mem_of_getElem? (i := 2) rfl) rfl rfl dX12_isStreetHere_67 (fun x348 c349 rx348 tx348 => ?_)
          refine wk_top x296 (c349.symm.trans c344) ?_
          refine lv_iconst (v := 1) hx hb dX12_isStreetHere_70 (by decide) ?_
          refine lv_isub hx hb dX12_isStreetHere_71 ?_
          refine lv_topi (fun x350 ex350 => ?_)
          have ex350 : x350.toInt = x296.toInt - (1 : Int) := by rw [ex350]; exact wk_sub (show (-2147483648) ≤ x296.toInt - (1 : Int) by omega) (show x296.toInt - (1 : Int) ≤ 2147483647 by omega)
          refine tk_Vi hC hK hw hT hA hE hSR kM_at0 (by decide) rfl (k_X12_numberHere_6 l adK adV dC dI cy ad B (by omega) (by omega) qr s1   x350 (show 0 ≤ x350.toInt by omega) (show x350.toInt ≤ 9 by omega) w331 H.size hT ) (cwV 2 hC.2.2.2.2 gX12_isStreetHere_X12_numberHere rfl rfl rfl (by decide +kernel) ⟨Nat.le_of_ble_eq_true rfl, Nat.le_of_ble_eq_true rfl⟩) rfl hl.1 rfl (Nat.le_of_ble_eq_true rfl) dX12_isStreetHere_72 (fun r351 w353 H locs hp352 hw => ?_)
          obtain ⟨hT, k354, hg367⟩ := hp352
          have hF := hF.tr k354 (by decide)
          have c368 := k354.gi kM_at0 (by decide) c342
          have c369 := k354.gi kM_at0 (by decide) c343
          have c370 := k354.gi kM_at0 (by decide) c344
          rcases hg367 with ⟨rfl, ⟨x355, c356, rx355, tx355⟩, ⟨x357, c358, rx357, tx357⟩⟩ | ⟨rfl, ⟨x359, c360, rx359, tx359⟩, ⟨x361, c362, rx361, tx361⟩⟩ | ⟨rfl, ⟨x363, c364, rx363, tx363⟩, ⟨x365, c366, rx365, tx365⟩⟩
          · have ex355 : x355.toInt = x12.toInt := by rw [← c369.symm.trans c356]
            refine lv_if_ne (tgt := 80) hx hb dX12_isStreetHere_75 (by decide) (fun c => absurd (by decide) c) (fun _ => ?_)
            refine lv_iconst (v := 0) hx hb dX12_isStreetHere_78 (by decide) ?_
            exact tk_zret hC hr rfl hlocks hK ⟨hT, hF, (Or.inr (Or.inl ⟨rfl, ⟨x12, c369, (show 1 ≤ x12.toInt by omega), (show x12.toInt ≤ 400 by omega)⟩, ⟨x1, c368, (show 0 ≤ x1.toInt by omega), (show x1.toInt ≤ 11 by omega)⟩, ⟨x357, c358, (show 1 ≤ x357.toInt by omega), (show x357.toInt ≤ 3205 by omega)⟩⟩))⟩ hw dX12_isStreetHere_79
          · have ex359 : x359.toInt = x12.toInt := by rw [← c369.symm.trans c360]
            refine lv_if_ne (tgt := 80) hx hb dX12_isStreetHere_75 (by decide) (fun c => absurd (by decide) c) (fun _ => ?_)
            refine lv_iconst (v := 0) hx hb dX12_isStreetHere_78 (by decide) ?_
            exact tk_zret hC hr rfl hlocks hK ⟨hT, hF, (Or.inr (Or.inl ⟨rfl, ⟨x12, c369, (show 1 ≤ x12.toInt by omega), (show x12.toInt ≤ 400 by omega)⟩, ⟨x1, c368, (show 0 ≤ x1.toInt by omega), (show x1.toInt ≤ 11 by omega)⟩, ⟨x361, c362, (show 1 ≤ x361.toInt by omega), (show x361.toInt ≤ 3205 by omega)⟩⟩))⟩ hw dX12_isStreetHere_79
          · have ex363 : x363.toInt = x12.toInt := by rw [← c369.symm.trans c364]
            refine lv_if_ne (tgt := 80) hx hb dX12_isStreetHere_75 (by decide) (fun _ => ?_) (fun c => absurd c (by decide))
            refine lv_aload_n hx hb dX12_isStreetHere_80 rfl (lv_at hl 2 rfl) ?_
            refine tk_geti hC hK hw hT hinX12 kM_at0 (by decide) rfl 16 (by decide) (List.mem_of_getElem? (i := 4) rfl) rfl rfl dX12_isStreetHere_81 (fun x371 c372 rx371 tx371 => ?_)
            refine wk_top x365 (c372.symm.trans c366) ?_
            refine lv_aload_n hx hb dX12_isStreetHere_84 rfl (lv_at hl 2 rfl) ?_
            refine tk_getA hC hK hw hT hinX12 kM_at0 (by decide) rfl 11 (by decide) (List.mem_of_getElem? (i := 3) rfl) rfl rfl dX12_isStreetHere_85 ?_
            refine lv_iload_n hx hb dX12_isStreetHere_88 rfl (lv_at hl 1 rfl) ?_
            refine tk_iald hC hK hw hT kM_at6 rfl rfl (show 0 ≤ x295.toInt by omega) (show x295.toInt < 120 by omega) dX12_isStreetHere_89 (fun x373 c374 rx373 tx373 => ?_)
            refine lv_icmp_ne (tgt := 100) hx hb dX12_isStreetHere_90 (by decide) (fun c375 => ?_) (fun c375 => ?_)
            · have c375 : ¬ x365.toInt = x373.toInt := wk_eqF c375
              refine lv_aload_n hx hb dX12_isStreetHere_100 rfl (lv_at hl 2 rfl) ?_
              refine tk_getA hC hK hw hT hinX12 kM_at0 (by decide) rfl 11 (by decide) (List.mem_of_getElem? (i := 3) rfl) rfl rfl dX12_isStreetHere_101 ?_
              refine lv_iload_n hx hb dX12_isStreetHere_104 rfl (lv_at hl 1 rfl) ?_
              refine lv_iconst (v := 1) hx hb dX12_isStreetHere_105 (by decide) ?_
              refine lv_iadd hx hb dX12_isStreetHere_106 ?_
              refine lv_topi (fun x376 ex376 => ?_)
              have ex376 : x376.toInt = x295.toInt + (1 : Int) := by rw [ex376]; exact wk_add (show (-2147483648) ≤ x295.toInt + (1 : Int) by omega) (show x295.toInt + (1 : Int) ≤ 2147483647 by omega)
              refine lv_aload_n hx hb dX12_isStreetHere_107 rfl (lv_at hl 2 rfl) ?_
              refine tk_geti hC hK hw hT hinX12 kM_at0 (by decide) rfl 16 (by decide) (List.mem_of_getElem? (i := 4) rfl) rfl rfl dX12_isStreetHere_108 (fun x377 c378 rx377 tx377 => ?_)
              refine wk_top x365 (c378.symm.trans c366) ?_
              refine tk_iast hC hK hw hT kM_at6 (by decide) rfl rfl (show 0 ≤ x376.toInt by omega) (show x376.toInt < 120 by omega) (show 0 ≤ x365.toInt by omega) (show x365.toInt ≤ 9 by omega) dX12_isStreetHere_111 (fun H locs w379 hw hT k381 c380 => ?_)
              have hF := hF.put kM_at6 (inE_of (a := 0) (b := 120) (by decide) (show 0 ≤ x376.toInt.toNat by omega) (show x376.toInt.toNat ≤ 120 by omega)) k381
              have c382 := k381.gi (Or.inl (tk_ne kM_at0 kM_at6 (by decide))) c368
              have c383 := k381.gi (Or.inl (tk_ne kM_at0 kM_at6 (by decide))) c369
              have c384 := k381.gi (Or.inl (tk_ne kM_at0 kM_at6 (by decide))) c370
              have c385 := k381.gi (Or.inl (tk_ne kM_at0 kM_at6 (by decide))) c366
              refine lv_aload_n hx hb dX12_isStreetHere_112 rfl (lv_at hl 2 rfl) ?_
              refine lv_iconst (v := 1) hx hb dX12_isStreetHere_113 (by decide) ?_
              refine lv_bipush (v := 9) hx hb dX12_isStreetHere_114 (by decide) ?_
              refine tk_Vi hC hK hw hT hA hE hSR kM_at0 (by decide) rfl (k_X12_numberHere_7 l adK adV dC dI cy ad B (by omega) (by omega) qr s1    w379 H.size hT ) (cwV 2 hC.2.2.2.2 gX12_isStreetHere_X12_numberHere rfl rfl rfl (by decide +kernel) ⟨Nat.le_of_ble_eq_true rfl, Nat.le_of_ble_eq_true rfl⟩) rfl hl.1 rfl (Nat.le_of_ble_eq_true rfl) dX12_isStreetHere_116 (fun r386 w388 H locs hp387 hw => ?_)
              obtain ⟨hT, k389, hg402⟩ := hp387
              have hF := hF.tr k389 (by decide)
              have c403 := k389.gi kM_at0 (by decide) c382
              have c404 := k389.gi kM_at0 (by decide) c383
              have c405 := k389.gi kM_at0 (by decide) c384
              rcases hg402 with ⟨rfl, ⟨x390, c391, rx390, tx390⟩, ⟨x392, c393, rx392, tx392⟩⟩ | ⟨rfl, ⟨x394, c395, rx394, tx394⟩, ⟨x396, c397, rx396, tx396⟩⟩ | ⟨rfl, ⟨x398, c399, rx398, tx398⟩, ⟨x400, c401, rx400, tx400⟩⟩
              · have ex390 : x390.toInt = x12.toInt := by rw [← c404.symm.trans c391]
                refine lv_if_ne (tgt := 124) hx hb dX12_isStreetHere_119 (by decide) (fun c => absurd (by decide) c) (fun _ => ?_)
                refine lv_iconst (v := 0) hx hb dX12_isStreetHere_122 (by decide) ?_
                exact tk_zret hC hr rfl hlocks hK ⟨hT, hF, (Or.inr (Or.inl ⟨rfl, ⟨x12, c404, (show 1 ≤ x12.toInt by omega), (show x12.toInt ≤ 400 by omega)⟩, ⟨x1, c403, (show 0 ≤ x1.toInt by omega), (show x1.toInt ≤ 11 by omega)⟩, ⟨x392, c393, (show 1 ≤ x392.toInt by omega), (show x392.toInt ≤ 3205 by omega)⟩⟩))⟩ hw dX12_isStreetHere_123
              · have ex394 : x394.toInt = x12.toInt := by rw [← c404.symm.trans c395]
                refine lv_if_ne (tgt := 124) hx hb dX12_isStreetHere_119 (by decide) (fun c => absurd (by decide) c) (fun _ => ?_)
                refine lv_iconst (v := 0) hx hb dX12_isStreetHere_122 (by decide) ?_
                exact tk_zret hC hr rfl hlocks hK ⟨hT, hF, (Or.inr (Or.inl ⟨rfl, ⟨x12, c404, (show 1 ≤ x12.toInt by omega), (show x12.toInt ≤ 400 by omega)⟩, ⟨x1, c403, (show 0 ≤ x1.toInt by omega), (show x1.toInt ≤ 11 by omega)⟩, ⟨x396, c397, (show 1 ≤ x396.toInt by omega), (show x396.toInt ≤ 3205 by omega)⟩⟩))⟩ hw dX12_isStreetHere_123
              · have ex398 : x398.toInt = x12.toInt := by rw [← c404.symm.trans c399]
                refine lv_if_ne (tgt := 124) hx hb dX12_isStreetHere_119 (by decide) (fun _ => ?_) (fun c => absurd c (by decide))
                refine lv_aload_n hx hb dX12_isStreetHere_124 rfl (lv_at hl 2 rfl) ?_
                refine tk_getA hC hK hw hT hinX12 kM_at0 (by decide) rfl 11 (by decide) (List.mem_of_getElem? (i := 3) rfl) rfl rfl dX12_isStreetHere_125 ?_
                refine lv_iload_n hx hb dX12_isStreetHere_128 rfl (lv_at hl 1 rfl) ?_
                refine lv_iconst (v := 2) hx hb dX12_isStreetHere_129 (by decide) ?_
                refine lv_iadd hx hb dX12_isStreetHere_130 ?_
                refine lv_topi (fun x406 ex406 => ?_)
                have ex406 : x406.toInt = x295.toInt + (2 : Int) := by rw [ex406]; exact wk_add (show (-2147483648) ≤ x295.toInt + (2 : Int) by omega) (show x295.toInt + (2 : Int) ≤ 2147483647 by omega)
                refine lv_aload_n hx hb dX12_isStreetHere_131 rfl (lv_at hl 2 rfl) ?_
                refine tk_geti hC hK hw hT hinX12 kM_at0 (by decide) rfl 16 (by decide) (List.mem_of_getElem? (i := 4) rfl) rfl rfl dX12_isStreetHere_132 (fun x407 c408 rx407 tx407 => ?_)
                refine wk_top x400 (c408.symm.trans c401) ?_
                refine tk_iast hC hK hw hT kM_at6 (by decide) rfl rfl (show 0 ≤ x406.toInt by omega) (show x406.toInt < 120 by omega) (show 0 ≤ x400.toInt by omega) (show x400.toInt ≤ 9 by omega) dX12_isStreetHere_135 (fun H locs w409 hw hT k411 c410 => ?_)
                have hF := hF.put kM_at6 (inE_of (a := 0) (b := 120) (by decide) (show 0 ≤ x406.toInt.toNat by omega) (show x406.toInt.toNat ≤ 120 by omega)) k411
                have c412 := k411.gi (Or.inl (tk_ne kM_at0 kM_at6 (by decide))) c403
                have c413 := k411.gi (Or.inl (tk_ne kM_at0 kM_at6 (by decide))) c404
                have c414 := k411.gi (Or.inl (tk_ne kM_at0 kM_at6 (by decide))) c405
                have c415 := k411.gi (Or.inl (tk_ne kM_at0 kM_at6 (by decide))) c401
                refine lv_aload_n hx hb dX12_isStreetHere_136 rfl (lv_at hl 2 rfl) ?_
                refine lv_iload_n hx hb dX12_isStreetHere_137 rfl (lv_at hl 1 rfl) ?_
                refine lv_iconst (v := 3) hx hb dX12_isStreetHere_138 (by decide) ?_
                refine lv_iadd hx hb dX12_isStreetHere_139 ?_
                refine lv_topi (fun x416 ex416 => ?_)
                have ex416 : x416.toInt = x295.toInt + (3 : Int) := by rw [ex416]; exact wk_add (show (-2147483648) ≤ x295.toInt + (3 : Int) by omega) (show x295.toInt + (3 : Int) ≤ 2147483647 by omega)
                refine tk_Vi hC hK hw hT hA hE hSR kM_at0 (by decide) rfl (k_X12_areSignsHere_1 l adK adV dC dI cy ad B (by omega) (by omega) qr s1   x416 (show 3 ≤ x416.toInt by omega) (show x416.toInt ≤ 113 by omega) w409 H.size hT ) (cwV 1 hC.2.2.2.2 gX12_isStreetHere_X12_areSignsHere rfl rfl rfl (by decide +kernel) ⟨Nat.le_of_ble_eq_true rfl, Nat.le_of_ble_eq_true rfl⟩) rfl hl.1 rfl (Nat.le_of_ble_eq_true rfl) dX12_isStreetHere_140 (fun r417 w419 H locs hp418 hw => ?_)
                obtain ⟨hT, k420, hg433⟩ := hp418
                have hF := hF.tr k420 (by decide)
                have c434 := k420.gi kM_at0 (by decide) c412
                have c435 := k420.gi kM_at0 (by decide) c413
                have c436 := k420.gi kM_at0 (by decide) c414
                have c437 := k420.gi kM_at0 (by decide) c415
                rcases hg433 with ⟨rfl, ⟨x421, c422, rx421, tx421⟩, ⟨x423, c424, rx423, tx423⟩, ⟨x425, c426, rx425, tx425⟩⟩ | ⟨rfl, ⟨x427, c428, rx427, tx427⟩, ⟨x429, c430, rx429, tx429⟩⟩ | ⟨rfl, ⟨x431, c432, rx431, tx431⟩⟩
                · have ex421 : x421.toInt = x12.toInt := by rw [← c435.symm.trans c422]
                  refine lv_if_ne (tgt := 148) hx hb dX12_isStreetHere_143 (by decide) (fun c => absurd (by decide) c) (fun _ => ?_)
                  refine lv_iconst (v := 0) hx hb dX12_isStreetHere_146 (by decide) ?_
                  exact tk_zret hC hr rfl hlocks hK ⟨hT, hF, (Or.inr (Or.inl ⟨rfl, ⟨x12, c435, (show 1 ≤ x12.toInt by omega), (show x12.toInt ≤ 400 by omega)⟩, ⟨x1, c434, (show 0 ≤ x1.toInt by omega), (show x1.toInt ≤ 11 by omega)⟩, ⟨x425, c426, (show 1 ≤ x425.toInt by omega), (show x425.toInt ≤ 3205 by omega)⟩⟩))⟩ hw dX12_isStreetHere_147
                · have ex427 : x427.toInt = x12.toInt := by rw [← c435.symm.trans c428]
                  refine lv_if_ne (tgt := 148) hx hb dX12_isStreetHere_143 (by decide) (fun c => absurd (by decide) c) (fun _ => ?_)
                  refine lv_iconst (v := 0) hx hb dX12_isStreetHere_146 (by decide) ?_
                  exact tk_zret hC hr rfl hlocks hK ⟨hT, hF, (Or.inr (Or.inl ⟨rfl, ⟨x12, c435, (show 1 ≤ x12.toInt by omega), (show x12.toInt ≤ 400 by omega)⟩, ⟨x1, c434, (show 0 ≤ x1.toInt by omega), (show x1.toInt ≤ 11 by omega)⟩, ⟨x429, c430, (show 1 ≤ x429.toInt by omega), (show x429.toInt ≤ 3205 by omega)⟩⟩))⟩ hw dX12_isStreetHere_147
                · have ex431 : x431.toInt = x12.toInt := by rw [← c435.symm.trans c432]
                  refine lv_if_ne (tgt := 148) hx hb dX12_isStreetHere_143 (by decide) (fun _ => ?_) (fun c => absurd c (by decide))
                  refine lv_aload_n hx hb dX12_isStreetHere_148 rfl (lv_at hl 2 rfl) ?_
                  refine lv_dup hx hb dX12_isStreetHere_149 rfl ?_
                  refine tk_geti hC hK hw hT hinX12 kM_at0 (by decide) rfl 8 (by decide) (List.mem_of_getElem? (i := 1) rfl) rfl rfl dX12_isStreetHere_150 (fun x438 c439 rx438 tx438 => ?_)
                  refine wk_top x1 (c439.symm.trans c434) ?_
                  refine lv_iconst (v := 1) hx hb dX12_isStreetHere_153 (by decide) ?_
                  refine lv_iadd hx hb dX12_isStreetHere_154 ?_
                  refine lv_topi (fun x440 ex440 => ?_)
                  have ex440 : x440.toInt = x1.toInt + (1 : Int) := by rw [ex440]; exact wk_add (show (-2147483648) ≤ x1.toInt + (1 : Int) by omega) (show x1.toInt + (1 : Int) ≤ 2147483647 by omega)
                  refine tk_puti hC hK hw hT hinX12 tyX12_ok nmX12 kM_at0 (by decide) rfl rfl 8 (by decide) (List.mem_of_getElem? (i := 1) rfl) rfl rfl rfl rfl (show 0 ≤ x440.toInt by omega) (show x440.toInt ≤ 12 by omega) dX12_isStreetHere_155 (fun H locs w441 hw hT k443 c442 => ?_)
                  have hF := hF.put kM_at0 (k := 8) (by decide) k443
                  have c444 := k443.gi (Or.inr (by decide)) c435
                  have c445 := k443.gi (Or.inr (by decide)) c436
                  have c446 := k443.gi (Or.inr (by decide)) c437
                  refine lv_iconst (v := 1) hx hb dX12_isStreetHere_158 (by decide) ?_
                  exact tk_zret hC hr rfl hlocks hK ⟨hT, hF, (Or.inr (Or.inr (Or.inr ⟨rfl, ⟨x12, c444, (show 1 ≤ x12.toInt by omega), (show x12.toInt ≤ 400 by omega)⟩, ⟨x296, c445, (show 1 ≤ x296.toInt by omega), (show x296.toInt ≤ 10 by omega)⟩, ⟨x440, c442, (show 1 ≤ x440.toInt by omega), (show x440.toInt ≤ 12 by omega)⟩, ⟨x400, c446, (show 1 ≤ x400.toInt by omega), (show x400.toInt ≤ 9 by omega)⟩⟩)))⟩ hw dX12_isStreetHere_159
            · have c375 : x365.toInt = x373.toInt := wk_eq.mp c375
              refine lv_aload_n hx hb dX12_isStreetHere_93 rfl (lv_at hl 2 rfl) ?_
              refine lv_iconst (v := 1) hx hb dX12_isStreetHere_94 (by decide) ?_
              refine lv_iload_n hx hb dX12_isStreetHere_95 rfl (lv_at hl 0 rfl) ?_
              refine tk_Vi hC hK hw hT hA hE hSR kM_at0 (by decide) rfl (k_X12_fails_1 l adK adV dC dI cy ad B (by omega) (by omega) qr s1   1 (by decide) (by decide) x337 (show 0 ≤ x337.toInt by omega) (show x337.toInt ≤ 400 by omega) w353 H.size hT ) (cwV 2 hC.2.2.2.2 gX12_isStreetHere_X12_fails rfl rfl rfl (by decide +kernel) ⟨Nat.le_of_ble_eq_true rfl, Nat.le_of_ble_eq_true rfl⟩) rfl hl.1 rfl (Nat.le_of_ble_eq_true rfl) dX12_isStreetHere_96 (fun r447 w449 H locs hp448 hw => ?_)
              obtain ⟨hT, k450, hg453⟩ := hp448
              have hF := hF.tr k450 (by decide)
              have c454 := k450.gi kM_at0 (by decide) c368
              have c455 := k450.gi kM_at0 (by decide) c369
              have c456 := k450.gi kM_at0 (by decide) c370
              have c457 := k450.gi kM_at0 (by decide) c366
              obtain ⟨rfl, ⟨x451, c452, rx451, tx451⟩⟩ := hg453
              exact tk_zret hC hr rfl hlocks hK ⟨hT, hF, (Or.inr (Or.inl ⟨rfl, ⟨x12, c455, (show 1 ≤ x12.toInt by omega), (show x12.toInt ≤ 400 by omega)⟩, ⟨x1, c454, (show 0 ≤ x1.toInt by omega), (show x1.toInt ≤ 11 by omega)⟩, ⟨x451, c452, (show 1 ≤ x451.toInt by omega), (show x451.toInt ≤ 3205 by omega)⟩⟩))⟩ hw dX12_isStreetHere_99
        · have ex339 : x339.toInt = x12.toInt := by rw [← c343.symm.trans c340]
          refine lv_pop hx hb dX12_isStreetHere_58 rfl ?_
          refine lv_aload_n hx hb dX12_isStreetHere_59 rfl (lv_at hl 1 rfl) ?_
          refine tk_geti hC hK hw hT hinX12 kM_at0 (by decide) rfl 14 (by decide) (List.mem_of_getElem? (i := 5) rfl) rfl rfl dX12_isStreetHere_60 (fun x458 c459 rx458 tx458 => ?_)
          refine lv_istore_n (lv' := [(3, .int x458), (2, .int x295), (0, .ref (ad 0)), (1, .int a1)]) hx hb dX12_isStreetHere_63 rfl hl (by decide) rfl (fun ls hl => ?_)
          refine lv_aload_n hx hb dX12_isStreetHere_64 rfl (lv_at hl 2 rfl) ?_
          refine lv_iconst (v := 0) hx hb dX12_isStreetHere_65 (by decide) ?_
          refine lv_aload_n hx hb dX12_isStreetHere_66 rfl (lv_at hl 2 rfl) ?_
          refine tk_geti hC hK hw hT hinX12 kM_at0 (by decide) rfl 7 (by decide) (List.mem_of_getElem? (i := 2) rfl) rfl rfl dX12_isStreetHere_67 (fun x460 c461 rx460 tx460 => ?_)
          refine wk_top x296 (c461.symm.trans c344) ?_
          refine lv_iconst (v := 1) hx hb dX12_isStreetHere_70 (by decide) ?_
          refine lv_isub hx hb dX12_isStreetHere_71 ?_
          refine lv_topi (fun x462 ex462 => ?_)
          have ex462 : x462.toInt = x296.toInt - (1 : Int) := by rw [ex462]; exact wk_sub (show (-2147483648) ≤ x296.toInt - (1 : Int) by omega) (show x296.toInt - (1 : Int) ≤ 2147483647 by omega)
          refine tk_Vi hC hK hw hT hA hE hSR kM_at0 (by decide) rfl (k_X12_numberHere_6 l adK adV dC dI cy ad B (by omega) (by omega) qr s1   x462 (show 0 ≤ x462.toInt by omega) (show x462.toInt ≤ 9 by omega) w331 H.size hT ) (cwV 2 hC.2.2.2.2 gX12_isStreetHere_X12_numberHere rfl rfl rfl (by decide +kernel) ⟨Nat.le_of_ble_eq_true rfl, Nat.le_of_ble_eq_true rfl⟩) rfl hl.1 rfl (Nat.le_of_ble_eq_true rfl) dX12_isStreetHere_72 (fun r463 w465 H locs hp464 hw => ?_)
          obtain ⟨hT, k466, hg479⟩ := hp464
          have hF := hF.tr k466 (by decide)
          have c480 := k466.gi kM_at0 (by decide) c342
          have c481 := k466.gi kM_at0 (by decide) c343
          have c482 := k466.gi kM_at0 (by decide) c344
          rcases hg479 with ⟨rfl, ⟨x467, c468, rx467, tx467⟩, ⟨x469, c470, rx469, tx469⟩⟩ | ⟨rfl, ⟨x471, c472, rx471, tx471⟩, ⟨x473, c474, rx473, tx473⟩⟩ | ⟨rfl, ⟨x475, c476, rx475, tx475⟩, ⟨x477, c478, rx477, tx477⟩⟩
          · have ex467 : x467.toInt = x12.toInt := by rw [← c481.symm.trans c468]
            refine lv_if_ne (tgt := 80) hx hb dX12_isStreetHere_75 (by decide) (fun c => absurd (by decide) c) (fun _ => ?_)
            refine lv_iconst (v := 0) hx hb dX12_isStreetHere_78 (by decide) ?_
            exact tk_zret hC hr rfl hlocks hK ⟨hT, hF, (Or.inr (Or.inl ⟨rfl, ⟨x12, c481, (show 1 ≤ x12.toInt by omega), (show x12.toInt ≤ 400 by omega)⟩, ⟨x1, c480, (show 0 ≤ x1.toInt by omega), (show x1.toInt ≤ 11 by omega)⟩, ⟨x469, c470, (show 1 ≤ x469.toInt by omega), (show x469.toInt ≤ 3205 by omega)⟩⟩))⟩ hw dX12_isStreetHere_79
          · have ex471 : x471.toInt = x12.toInt := by rw [← c481.symm.trans c472]
            refine lv_if_ne (tgt := 80) hx hb dX12_isStreetHere_75 (by decide) (fun c => absurd (by decide) c) (fun _ => ?_)
            refine lv_iconst (v := 0) hx hb dX12_isStreetHere_78 (by decide) ?_
            exact tk_zret hC hr rfl hlocks hK ⟨hT, hF, (Or.inr (Or.inl ⟨rfl, ⟨x12, c481, (show 1 ≤ x12.toInt by omega), (show x12.toInt ≤ 400 by omega)⟩, ⟨x1, c480, (show 0 ≤ x1.toInt by omega), (show x1.toInt ≤ 11 by omega)⟩, ⟨x473, c474, (show 1 ≤ x473.toInt by omega), (show x473.toInt ≤ 3205 by omega)⟩⟩))⟩ hw dX12_isStreetHere_79
          · have ex475 : x475.toInt = x12.toInt := by rw [← c481.symm.trans c476]
            refine lv_if_ne (tgt := 80) hx hb dX12_isStreetHere_75 (by decide) (fun _ => ?_) (fun c => absurd c (by decide))
            refine lv_aload_n hx hb dX12_isStreetHere_80 rfl (lv_at hl 2 rfl) ?_
            refine tk_geti hC hK hw hT hinX12 kM_at0 (by decide) rfl 16 (by decide) (List.mem_of_getElem? (i := 4) rfl) rfl rfl dX12_isStreetHere_81 (fun x483 c484 rx483 tx483 => ?_)
            refine wk_top x477 (c484.symm.trans c478) ?_
            refine lv_aload_n hx hb dX12_isStreetHere_84 rfl (lv_at hl 2 rfl) ?_
            refine tk_getA hC hK hw hT hinX12 kM_at0 (by decide) rfl 11 (by decide) (List.mem_of_getElem? (i := 3) rfl) rfl rfl dX12_isStreetHere_85 ?_
            refine lv_iload_n hx hb dX12_isStreetHere_88 rfl (lv_at hl 1 rfl) ?_
            refine tk_iald hC hK hw hT kM_at6 rfl rfl (show 0 ≤ x295.toInt by omega) (show x295.toInt < 120 by omega) dX12_isStreetHere_89 (fun x485 c486 rx485 tx485 => ?_)
            refine lv_icmp_ne (tgt := 100) hx hb dX12_isStreetHere_90 (by decide) (fun c487 => ?_) (fun c487 => ?_)
            · have c487 : ¬ x477.toInt = x485.toInt := wk_eqF c487
              refine lv_aload_n hx hb dX12_isStreetHere_100 rfl (lv_at hl 2 rfl) ?_
              refine tk_getA hC hK hw hT hinX12 kM_at0 (by decide) rfl 11 (by decide) (List.mem_of_getElem? (i := 3) rfl) rfl rfl dX12_isStreetHere_101 ?_
              refine lv_iload_n hx hb dX12_isStreetHere_104 rfl (lv_at hl 1 rfl) ?_
              refine lv_iconst (v := 1) hx hb dX12_isStreetHere_105 (by decide) ?_
              refine lv_iadd hx hb dX12_isStreetHere_106 ?_
              refine lv_topi (fun x488 ex488 => ?_)
              have ex488 : x488.toInt = x295.toInt + (1 : Int) := by rw [ex488]; exact wk_add (show (-2147483648) ≤ x295.toInt + (1 : Int) by omega) (show x295.toInt + (1 : Int) ≤ 2147483647 by omega)
              refine lv_aload_n hx hb dX12_isStreetHere_107 rfl (lv_at hl 2 rfl) ?_
              refine tk_geti hC hK hw hT hinX12 kM_at0 (by decide) rfl 16 (by decide) (List.mem_of_getElem? (i := 4) rfl) rfl rfl dX12_isStreetHere_108 (fun x489 c490 rx489 tx489 => ?_)
              refine wk_top x477 (c490.symm.trans c478) ?_
              refine tk_iast hC hK hw hT kM_at6 (by decide) rfl rfl (show 0 ≤ x488.toInt by omega) (show x488.toInt < 120 by omega) (show 0 ≤ x477.toInt by omega) (show x477.toInt ≤ 9 by omega) dX12_isStreetHere_111 (fun H locs w491 hw hT k493 c492 => ?_)
              have hF := hF.put kM_at6 (inE_of (a := 0) (b := 120) (by decide) (show 0 ≤ x488.toInt.toNat by omega) (show x488.toInt.toNat ≤ 120 by omega)) k493
              have c494 := k493.gi (Or.inl (tk_ne kM_at0 kM_at6 (by decide))) c480
              have c495 := k493.gi (Or.inl (tk_ne kM_at0 kM_at6 (by decide))) c481
              have c496 := k493.gi (Or.inl (tk_ne kM_at0 kM_at6 (by decide))) c482
              have c497 := k493.gi (Or.inl (tk_ne kM_at0 kM_at6 (by decide))) c478
              refine lv_aload_n hx hb dX12_isStreetHere_112 rfl (lv_at hl 2 rfl) ?_
              refine lv_iconst (v := 1) hx hb dX12_isStreetHere_113 (by decide) ?_
              refine lv_bipush (v := 9) hx hb dX12_isStreetHere_114 (by decide) ?_
              refine tk_Vi hC hK hw hT hA hE hSR kM_at0 (by decide) rfl (k_X12_numberHere_7 l adK adV dC dI cy ad B (by omega) (by omega) qr s1    w491 H.size hT ) (cwV 2 hC.2.2.2.2 gX12_isStreetHere_X12_numberHere rfl rfl rfl (by decide +kernel) ⟨Nat.le_of_ble_eq_true rfl, Nat.le_of_ble_eq_true rfl⟩) rfl hl.1 rfl (Nat.le_of_ble_eq_true rfl) dX12_isStreetHere_116 (fun r498 w500 H locs hp499 hw => ?_)
              obtain ⟨hT, k501, hg514⟩ := hp499
              have hF := hF.tr k501 (by decide)
              have c515 := k501.gi kM_at0 (by decide) c494
              have c516 := k501.gi kM_at0 (by decide) c495
              have c517 := k501.gi kM_at0 (by decide) c496
              rcases hg514 with ⟨rfl, ⟨x502, c503, rx502, tx502⟩, ⟨x504, c505, rx504, tx504⟩⟩ | ⟨rfl, ⟨x506, c507, rx506, tx506⟩, ⟨x508, c509, rx508, tx508⟩⟩ | ⟨rfl, ⟨x510, c511, rx510, tx510⟩, ⟨x512, c513, rx512, tx512⟩⟩
              · have ex502 : x502.toInt = x12.toInt := by rw [← c516.symm.trans c503]
                refine lv_if_ne (tgt := 124) hx hb dX12_isStreetHere_119 (by decide) (fun c => absurd (by decide) c) (fun _ => ?_)
                refine lv_iconst (v := 0) hx hb dX12_isStreetHere_122 (by decide) ?_
                exact tk_zret hC hr rfl hlocks hK ⟨hT, hF, (Or.inr (Or.inl ⟨rfl, ⟨x12, c516, (show 1 ≤ x12.toInt by omega), (show x12.toInt ≤ 400 by omega)⟩, ⟨x1, c515, (show 0 ≤ x1.toInt by omega), (show x1.toInt ≤ 11 by omega)⟩, ⟨x504, c505, (show 1 ≤ x504.toInt by omega), (show x504.toInt ≤ 3205 by omega)⟩⟩))⟩ hw dX12_isStreetHere_123
              · have ex506 : x506.toInt = x12.toInt := by rw [← c516.symm.trans c507]
                refine lv_if_ne (tgt := 124) hx hb dX12_isStreetHere_119 (by decide) (fun c => absurd (by decide) c) (fun _ => ?_)
                refine lv_iconst (v := 0) hx hb dX12_isStreetHere_122 (by decide) ?_
                exact tk_zret hC hr rfl hlocks hK ⟨hT, hF, (Or.inr (Or.inl ⟨rfl, ⟨x12, c516, (show 1 ≤ x12.toInt by omega), (show x12.toInt ≤ 400 by omega)⟩, ⟨x1, c515, (show 0 ≤ x1.toInt by omega), (show x1.toInt ≤ 11 by omega)⟩, ⟨x508, c509, (show 1 ≤ x508.toInt by omega), (show x508.toInt ≤ 3205 by omega)⟩⟩))⟩ hw dX12_isStreetHere_123
              · have ex510 : x510.toInt = x12.toInt := by rw [← c516.symm.trans c511]
                refine lv_if_ne (tgt := 124) hx hb dX12_isStreetHere_119 (by decide) (fun _ => ?_) (fun c => absurd c (by decide))
                refine lv_aload_n hx hb dX12_isStreetHere_124 rfl (lv_at hl 2 rfl) ?_
                refine tk_getA hC hK hw hT hinX12 kM_at0 (by decide) rfl 11 (by decide) (List.mem_of_getElem? (i := 3) rfl) rfl rfl dX12_isStreetHere_125 ?_
                refine lv_iload_n hx hb dX12_isStreetHere_128 rfl (lv_at hl 1 rfl) ?_
                refine lv_iconst (v := 2) hx hb dX12_isStreetHere_129 (by decide) ?_
                refine lv_iadd hx hb dX12_isStreetHere_130 ?_
                refine lv_topi (fun x518 ex518 => ?_)
                have ex518 : x518.toInt = x295.toInt + (2 : Int) := by rw [ex518]; exact wk_add (show (-2147483648) ≤ x295.toInt + (2 : Int) by omega) (show x295.toInt + (2 : Int) ≤ 2147483647 by omega)
                refine lv_aload_n hx hb dX12_isStreetHere_131 rfl (lv_at hl 2 rfl) ?_
                refine tk_geti hC hK hw hT hinX12 kM_at0 (by decide) rfl 16 (by decide) (List.mem_of_getElem? (i := 4) rfl) rfl rfl dX12_isStreetHere_132 (fun x519 c520 rx519 tx519 => ?_)
                refine wk_top x512 (c520.symm.trans c513) ?_
                refine tk_iast hC hK hw hT kM_at6 (by decide) rfl rfl (show 0 ≤ x518.toInt by omega) (show x518.toInt < 120 by omega) (show 0 ≤ x512.toInt by omega) (show x512.toInt ≤ 9 by omega) dX12_isStreetHere_135 (fun H locs w521 hw hT k523 c522 => ?_)
                have hF := hF.put kM_at6 (inE_of (a := 0) (b := 120) (by decide) (show 0 ≤ x518.toInt.toNat by omega) (show x518.toInt.toNat ≤ 120 by omega)) k523
                have c524 := k523.gi (Or.inl (tk_ne kM_at0 kM_at6 (by decide))) c515
                have c525 := k523.gi (Or.inl (tk_ne kM_at0 kM_at6 (by decide))) c516
                have c526 := k523.gi (Or.inl (tk_ne kM_at0 kM_at6 (by decide))) c517
                have c527 := k523.gi (Or.inl (tk_ne kM_at0 kM_at6 (by decide))) c513
                refine lv_aload_n hx hb dX12_isStreetHere_136 rfl (lv_at hl 2 rfl) ?_
                refine lv_iload_n hx hb dX12_isStreetHere_137 rfl (lv_at hl 1 rfl) ?_
                refine lv_iconst (v := 3) hx hb dX12_isStreetHere_138 (by decide) ?_
                refine lv_iadd hx hb dX12_isStreetHere_139 ?_
                refine lv_topi (fun x528 ex528 => ?_)
                have ex528 : x528.toInt = x295.toInt + (3 : Int) := by rw [ex528]; exact wk_add (show (-2147483648) ≤ x295.toInt + (3 : Int) by omega) (show x295.toInt + (3 : Int) ≤ 2147483647 by omega)
                refine tk_Vi hC hK hw hT hA hE hSR kM_at0 (by decide) rfl (k_X12_areSignsHere_1 l adK adV dC dI cy ad B (by omega) (by omega) qr s1   x528 (show 3 ≤ x528.toInt by omega) (show x528.toInt ≤ 113 by omega) w521 H.size hT ) (cwV 1 hC.2.2.2.2 gX12_isStreetHere_X12_areSignsHere rfl rfl rfl (by decide +kernel) ⟨Nat.le_of_ble_eq_true rfl, Nat.le_of_ble_eq_true rfl⟩) rfl hl.1 rfl (Nat.le_of_ble_eq_true rfl) dX12_isStreetHere_140 (fun r529 w531 H locs hp530 hw => ?_)
                obtain ⟨hT, k532, hg545⟩ := hp530
                have hF := hF.tr k532 (by decide)
                have c546 := k532.gi kM_at0 (by decide) c524
                have c547 := k532.gi kM_at0 (by decide) c525
                have c548 := k532.gi kM_at0 (by decide) c526
                have c549 := k532.gi kM_at0 (by decide) c527
                rcases hg545 with ⟨rfl, ⟨x533, c534, rx533, tx533⟩, ⟨x535, c536, rx535, tx535⟩, ⟨x537, c538, rx537, tx537⟩⟩ | ⟨rfl, ⟨x539, c540, rx539, tx539⟩, ⟨x541, c542, rx541, tx541⟩⟩ | ⟨rfl, ⟨x543, c544, rx543, tx543⟩⟩
                · have ex533 : x533.toInt = x12.toInt := by rw [← c547.symm.trans c534]
                  refine lv_if_ne (tgt := 148) hx hb dX12_isStreetHere_143 (by decide) (fun c => absurd (by decide) c) (fun _ => ?_)
                  refine lv_iconst (v := 0) hx hb dX12_isStreetHere_146 (by decide) ?_
                  exact tk_zret hC hr rfl hlocks hK ⟨hT, hF, (Or.inr (Or.inl ⟨rfl, ⟨x12, c547, (show 1 ≤ x12.toInt by omega), (show x12.toInt ≤ 400 by omega)⟩, ⟨x1, c546, (show 0 ≤ x1.toInt by omega), (show x1.toInt ≤ 11 by omega)⟩, ⟨x537, c538, (show 1 ≤ x537.toInt by omega), (show x537.toInt ≤ 3205 by omega)⟩⟩))⟩ hw dX12_isStreetHere_147
                · have ex539 : x539.toInt = x12.toInt := by rw [← c547.symm.trans c540]
                  refine lv_if_ne (tgt := 148) hx hb dX12_isStreetHere_143 (by decide) (fun c => absurd (by decide) c) (fun _ => ?_)
                  refine lv_iconst (v := 0) hx hb dX12_isStreetHere_146 (by decide) ?_
                  exact tk_zret hC hr rfl hlocks hK ⟨hT, hF, (Or.inr (Or.inl ⟨rfl, ⟨x12, c547, (show 1 ≤ x12.toInt by omega), (show x12.toInt ≤ 400 by omega)⟩, ⟨x1, c546, (show 0 ≤ x1.toInt by omega), (show x1.toInt ≤ 11 by omega)⟩, ⟨x541, c542, (show 1 ≤ x541.toInt by omega), (show x541.toInt ≤ 3205 by omega)⟩⟩))⟩ hw dX12_isStreetHere_147
                · have ex543 : x543.toInt = x12.toInt := by rw [← c547.symm.trans c544]
                  refine lv_if_ne (tgt := 148) hx hb dX12_isStreetHere_143 (by decide) (fun _ => ?_) (fun c => absurd c (by decide))
                  refine lv_aload_n hx hb dX12_isStreetHere_148 rfl (lv_at hl 2 rfl) ?_
                  refine lv_dup hx hb dX12_isStreetHere_149 rfl ?_
                  refine tk_geti hC hK hw hT hinX12 kM_at0 (by decide) rfl 8 (by decide) (List.mem_of_getElem? (i := 1) rfl) rfl rfl dX12_isStreetHere_150 (fun x550 c551 rx550 tx550 => ?_)
                  refine wk_top x1 (c551.symm.trans c546) ?_
                  refine lv_iconst (v := 1) hx hb dX12_isStreetHere_153 (by decide) ?_
                  refine lv_iadd hx hb dX12_isStreetHere_154 ?_
                  refine lv_topi (fun x552 ex552 => ?_)
                  have ex552 : x552.toInt = x1.toInt + (1 : Int) := by rw [ex552]; exact wk_add (show (-2147483648) ≤ x1.toInt + (1 : Int) by omega) (show x1.toInt + (1 : Int) ≤ 2147483647 by omega)
                  refine tk_puti hC hK hw hT hinX12 tyX12_ok nmX12 kM_at0 (by decide) rfl rfl 8 (by decide) (List.mem_of_getElem? (i := 1) rfl) rfl rfl rfl rfl (show 0 ≤ x552.toInt by omega) (show x552.toInt ≤ 12 by omega) dX12_isStreetHere_155 (fun H locs w553 hw hT k555 c554 => ?_)
                  have hF := hF.put kM_at0 (k := 8) (by decide) k555
                  have c556 := k555.gi (Or.inr (by decide)) c547
                  have c557 := k555.gi (Or.inr (by decide)) c548
                  have c558 := k555.gi (Or.inr (by decide)) c549
                  refine lv_iconst (v := 1) hx hb dX12_isStreetHere_158 (by decide) ?_
                  exact tk_zret hC hr rfl hlocks hK ⟨hT, hF, (Or.inr (Or.inr (Or.inr ⟨rfl, ⟨x12, c556, (show 1 ≤ x12.toInt by omega), (show x12.toInt ≤ 400 by omega)⟩, ⟨x296, c557, (show 1 ≤ x296.toInt by omega), (show x296.toInt ≤ 10 by omega)⟩, ⟨x552, c554, (show 1 ≤ x552.toInt by omega), (show x552.toInt ≤ 12 by omega)⟩, ⟨x512, c558, (show 1 ≤ x512.toInt by omega), (show x512.toInt ≤ 9 by omega)⟩⟩)))⟩ hw dX12_isStreetHere_159
            · have c487 : x477.toInt = x485.toInt := wk_eq.mp c487
              refine lv_aload_n hx hb dX12_isStreetHere_93 rfl (lv_at hl 2 rfl) ?_
              refine lv_iconst (v := 1) hx hb dX12_isStreetHere_94 (by decide) ?_
              refine lv_iload_n hx hb dX12_isStreetHere_95 rfl (lv_at hl 0 rfl) ?_
              refine tk_Vi hC hK hw hT hA hE hSR kM_at0 (by decide) rfl (k_X12_fails_1 l adK adV dC dI cy ad B (by omega) (by omega) qr s1   1 (by decide) (by decide) x458 (show 0 ≤ x458.toInt by omega) (show x458.toInt ≤ 400 by omega) w465 H.size hT ) (cwV 2 hC.2.2.2.2 gX12_isStreetHere_X12_fails rfl rfl rfl (by decide +kernel) ⟨Nat.le_of_ble_eq_true rfl, Nat.le_of_ble_eq_true rfl⟩) rfl hl.1 rfl (Nat.le_of_ble_eq_true rfl) dX12_isStreetHere_96 (fun r559 w561 H locs hp560 hw => ?_)
              obtain ⟨hT, k562, hg565⟩ := hp560
              have hF := hF.tr k562 (by decide)
              have c566 := k562.gi kM_at0 (by decide) c480
              have c567 := k562.gi kM_at0 (by decide) c481
              have c568 := k562.gi kM_at0 (by decide) c482
              have c569 := k562.gi kM_at0 (by decide) c478
              obtain ⟨rfl, ⟨x563, c564, rx563, tx563⟩⟩ := hg565
              exact tk_zret hC hr rfl hlocks hK ⟨hT, hF, (Or.inr (Or.inl ⟨rfl, ⟨x12, c567, (show 1 ≤ x12.toInt by omega), (show x12.toInt ≤ 400 by omega)⟩, ⟨x1, c566, (show 0 ≤ x1.toInt by omega), (show x1.toInt ≤ 11 by omega)⟩, ⟨x563, c564, (show 1 ≤ x563.toInt by omega), (show x563.toInt ≤ 3205 by omega)⟩⟩))⟩ hw dX12_isStreetHere_99
  · have c3 : x1.toInt = (12 : Int) := wk_eq.mp c3
    refine lv_aload_n hx hb dX12_isStreetHere_9 rfl (lv_at hl 0 rfl) ?_
    refine lv_iconst (v := 4) hx hb dX12_isStreetHere_10 (by decide) ?_
    refine lv_iload_n hx hb dX12_isStreetHere_11 rfl (lv_at hl 1 rfl) ?_
    refine tk_Vi hC hK hw hT hA hE hSR kM_at0 (by decide) rfl (k_X12_fails_1 l adK adV dC dI cy ad B (by omega) (by omega) qr s1   4 (by decide) (by decide) a1 (show 0 ≤ a1.toInt by omega) (show a1.toInt ≤ 400 by omega) w0 s.heap.size hT ) (cwV 2 hC.2.2.2.2 gX12_isStreetHere_X12_fails rfl rfl rfl (by decide +kernel) ⟨Nat.le_of_ble_eq_true rfl, Nat.le_of_ble_eq_true rfl⟩) rfl hl.1 rfl (Nat.le_of_ble_eq_true rfl) dX12_isStreetHere_12 (fun r570 w572 H locs hp571 hw => ?_)
    obtain ⟨hT, k573, hg576⟩ := hp571
    have hF := hF.tr k573 (by decide)
    have c577 := k573.gi kM_at0 (by decide) c2
    obtain ⟨rfl, ⟨x574, c575, rx574, tx574⟩⟩ := hg576
    exact tk_zret hC hr rfl hlocks hK ⟨hT, hF, (Or.inl ⟨rfl, ⟨x1, c577, (show 12 ≤ x1.toInt by omega), (show x1.toInt ≤ 12 by omega)⟩, ⟨x574, c575, (show 1 ≤ x574.toInt by omega), (show x574.toInt ≤ 3205 by omega)⟩⟩)⟩ hw dX12_isStreetHere_15
abbrev P_X12_in_8 (ad : Nat → Nat) (cy : Nat → ClassId) (B : Int) (qr : Nat) (s1 : Int) (a0 : Int64) (w0 : va_W) : Int32 → va_W → Prop := fun r u => TW ksM ad cy B qr 12 u ∧ FE ksM ([] : List (Nat × Nat × Nat)) w0 u ∧ ((r = 0) ∨ (r = 1 ∧ 2 ≤ a0.toInt ∧ a0.toInt ≤ 10))
set_option maxHeartbeats 4000000 in
set_option maxRecDepth 100000 in
theorem k_X12_in_8 (l : Launch) (adK adV : Nat → Nat) (dC : Nat → ClassId) (dI : Nat → Nat → Nat) (cy : Nat → ClassId) (ad : Nat → Nat) (B : Int) (hB0 : 100000 ≤ B) (hB1 : B ≤ 1073741824) (qr : Nat) (s1 : Int)  (a0 : Int64) (ra0 : (-2147483648) ≤ a0.toInt) (ta0 : a0.toInt ≤ 2147483647) (w0 : va_W) (sz : Nat) (hT : TW ksM ad cy B qr 12 w0)  : Met l yX12_in wsX12_in ({ frames := 1, cells := 0, slots := 0, locals := 12 }) (va_Pc [.long a0, .long 2, .long 10] (wpreS adK adV dC dI cy sz w0)) (va_Qi (P_X12_in_8 ad cy B qr s1 a0 w0) (fun u : va_W => wpost dC dI cy (va_A w0 sz) u) (va_A w0 sz)) 0 0 (va_A w0 sz) := by
  refine Met.ofW (cc := cX12_in) (maxL := 6) (ret := (some .boolean)) (by decide) rfl ?_
  intro p e s m args below meth c s₁ Bk hml hv
  obtain ⟨rfl, ⟨hsz, hP, hK, hD0⟩, hE, hSR⟩ := hv
  have hx := Bk.exec
  have hb := Bk.bytes
  have hr := Bk.returns
  have hlocks := Bk.notSynchronized
  have hC : CallFix p m c cX12_in 6 s _ wsX12_in RX12 := ⟨hx, hb, hml, findClass_of_methodNamed Bk.named, atoms_spec (ws := wsX12_in) Bk.pre⟩
  subst hsz
  have hD := hD0.self (sz := s.heap.size)
  generalize hAe : va_A w0 s.heap.size = A at hD hE ⊢
  have hA : ∀ q : Nat, s.heap.size ≤ q → A q := fun q h => by rw [← hAe]; exact Or.inr h
  have hw : Wd dC dI A s.heap s.heap [] w0 := ⟨hP, hD, va_S.rf⟩
  have hF : FE ksM ([] : List (Nat × Nat × Nat)) w0 w0 := FE.rf
  have hl := lv_entry ([.long a0, .long 2, .long 10]) (n := 6) (Nat.le_of_ble_eq_true rfl)
  rw [lg_entry_eq]
  generalize (lg_sl ([.long a0, .long 2, .long 10]) ++ List.replicate (6 - (lg_sl ([.long a0, .long 2, .long 10])).length) Slot.unset).toArray = ls at hl ⊢
  have hl : lv_has ls 6 [(0, .long a0), (2, .long 2), (4, .long 10)] := hl
  generalize hloc : ([] : List Loc) = locs at hw ⊢
  have J17 : ∀ (H : Heap) (locs : List Loc) (ls : Array Slot) (w1 : va_W), (-2147483648) ≤ a0.toInt → a0.toInt ≤ 2147483647 → Wd dC dI A s.heap H locs w1 → TW ksM ad cy B qr 12 w1 → FE ksM ([] : List (Nat × Nat × Nat)) w0 w1 → lv_has ls 6 [(0, .long a0), (2, .long 2), (4, .long 10)] → W p l e ({ frames := 1, cells := 0, slots := 0, locals := 12 }) s m (List.toArray [.long a0, .long 2, .long 10]) below meth c H locs 0 0 (MQ below (va_Qi (P_X12_in_8 ad cy B qr s1 a0 w0) (fun u : va_W => wpost dC dI cy A u) A) (List.toArray [.long a0, .long 2, .long 10]) s 0 0 A) (F0 m 17 ls []) := by
    intro H locs ls w1 r2 t3 hw hT hF hl
    refine lv_iconst (v := 0) hx hb dX12_in_17 (by decide) ?_
    exact tk_zret hC hr rfl hlocks hK ⟨hT, hF, (Or.inl rfl)⟩ hw dX12_in_18
  refine lv_lload_n hx hb dX12_in_0 rfl (lv_at hl 0 rfl) ?_
  refine lv_lload_n hx hb dX12_in_1 rfl (lv_at hl 1 rfl) ?_
  refine W.lcmp hx hb dX12_in_2 ?_
  refine lv_if_lt (tgt := 17) hx hb dX12_in_3 (by decide) (fun c4 => ?_) (fun c4 => ?_)
  · have c4 : a0.toInt < (2 : Int) := wk_cltT c4
    exact J17  s.heap locs ls w0 (show (-2147483648) ≤ a0.toInt by omega) (show a0.toInt ≤ 2147483647 by omega)  hw hT hF  (lv_sub hl [0, 1, 2] rfl)
  · have c4 : (2 : Int) ≤ a0.toInt := wk_cltF c4
    refine lv_lload_n hx hb dX12_in_6 rfl (lv_at hl 0 rfl) ?_
    refine lv_lload hx hb dX12_in_7 (lv_at hl 2 rfl) ?_
    refine W.lcmp hx hb dX12_in_9 ?_
    refine lv_if_gt (tgt := 17) hx hb dX12_in_10 (by decide) (fun c5 => ?_) (fun c5 => ?_)
    · have c5 : (10 : Int) < a0.toInt := wk_cgtT c5
      exact J17  s.heap locs ls w0 (show (-2147483648) ≤ a0.toInt by omega) (show a0.toInt ≤ 2147483647 by omega)  hw hT hF  (lv_sub hl [0, 1, 2] rfl)
    · have c5 : a0.toInt ≤ (10 : Int) := wk_cgtF c5
      refine lv_iconst (v := 1) hx hb dX12_in_13 (by decide) ?_
      refine lv_goto (tgt := 18) hx hb dX12_in_14 (by decide) ?_
      exact tk_zret hC hr rfl hlocks hK ⟨hT, hF, (Or.inr ⟨rfl, (show 2 ≤ a0.toInt by omega), (show a0.toInt ≤ 10 by omega)⟩)⟩ hw dX12_in_18
abbrev P_X12_numberHere_8 (ad : Nat → Nat) (cy : Nat → ClassId) (B : Int) (qr : Nat) (s1 : Int)  (w0 : va_W) : Int32 → va_W → Prop := fun r u => TW ksM ad cy B qr 12 u ∧ FE ksM [(12, 14, 14), (12, 15, 15), (12, 16, 16)] w0 u ∧ ((r = 0 ∧ (∃ y : Int32, gi u 0 1 = y ∧ 1 ≤ y.toInt ∧ y.toInt ≤ 400) ∧ (∃ y : Int32, gi u 0 15 = y ∧ 1 ≤ y.toInt ∧ y.toInt ≤ 3205)) ∨ (r = 0 ∧ (∃ y : Int32, gi u 0 1 = y ∧ 0 ≤ y.toInt ∧ y.toInt ≤ 400) ∧ (∃ y : Int32, gi u 0 15 = y ∧ 1 ≤ y.toInt ∧ y.toInt ≤ 3205)) ∨ (r = 1 ∧ (∃ y : Int32, gi u 0 1 = y ∧ 1 ≤ y.toInt ∧ y.toInt ≤ 400) ∧ (∃ y : Int32, gi u 0 16 = y ∧ 2 ≤ y.toInt ∧ y.toInt ≤ 10)))
set_option maxHeartbeats 4000000 in
set_option maxRecDepth 100000 in
theorem k_X12_numberHere_8 (l : Launch) (adK adV : Nat → Nat) (dC : Nat → ClassId) (dI : Nat → Nat → Nat) (cy : Nat → ClassId) (ad : Nat → Nat) (B : Int) (hB0 : 100000 ≤ B) (hB1 : B ≤ 1073741824) (qr : Nat) (s1 : Int)   (w0 : va_W) (sz : Nat) (hT : TW ksM ad cy B qr 12 w0)  : Met l yX12_numberHere wsX12_numberHere ({ frames := 2, cells := 0, slots := 0, locals := 37 }) (va_Pc [.ref (ad 0), .int 2, .int 10] (wpreS adK adV dC dI cy sz w0)) (va_Qi (P_X12_numberHere_8 ad cy B qr s1  w0) (fun u : va_W => wpost dC dI cy (va_A w0 sz) u) (va_A w0 sz)) 0 0 (va_A w0 sz) := by
  refine Met.ofW (cc := cX12_numberHere) (maxL := 5) (ret := (some .boolean)) (by decide) rfl ?_
  intro p e s m args below meth c s₁ Bk hml hv
  obtain ⟨rfl, ⟨hsz, hP, hK, hD0⟩, hE, hSR⟩ := hv
  have hx := Bk.exec
  have hb := Bk.bytes
  have hr := Bk.returns
  have hlocks := Bk.notSynchronized
  have hC : CallFix p m c cX12_numberHere 5 s _ wsX12_numberHere RX12 := ⟨hx, hb, hml, findClass_of_methodNamed Bk.named, atoms_spec (ws := wsX12_numberHere) Bk.pre⟩
  subst hsz
  have hD := hD0.self (sz := s.heap.size)
  generalize hAe : va_A w0 s.heap.size = A at hD hE ⊢
  have hA : ∀ q : Nat, s.heap.size ≤ q → A q := fun q h => by rw [← hAe]; exact Or.inr h
  have hw : Wd dC dI A s.heap s.heap [] w0 := ⟨hP, hD, va_S.rf⟩
  have hF : FE ksM [(12, 14, 14), (12, 15, 15), (12, 16, 16)] w0 w0 := FE.rf
  have hl := lv_entry ([.ref (ad 0), .int 2, .int 10]) (n := 5) (Nat.le_of_ble_eq_true rfl)
  rw [lg_entry_eq]
  generalize (lg_sl ([.ref (ad 0), .int 2, .int 10]) ++ List.replicate (5 - (lg_sl ([.ref (ad 0), .int 2, .int 10])).length) Slot.unset).toArray = ls at hl ⊢
  have hl : lv_has ls 5 [(0, .ref (ad 0)), (1, .int 2), (2, .int 10)] := hl
  generalize hloc : ([] : List Loc) = locs at hw ⊢
  have hinX12 : ∀ w ∈ u_ws RX12 TX12 42, w ∈ wsX12_numberHere := fun _ h => List.mem_cons_of_mem _ (List.mem_append_right _ (h))
  have J126 : ∀ (v126_3 : Int32) (v126_4 : Int32) (f126_0_1 : Int32) (f126_0_14 : Int32) (f126_0_16 : Int32) (H : Heap) (locs : List Loc) (ls : Array Slot) (w1 : va_W), 0 ≤ v126_3.toInt → v126_3.toInt ≤ 399 → 2 ≤ v126_4.toInt → v126_4.toInt ≤ 10 → 1 ≤ f126_0_1.toInt → f126_0_1.toInt ≤ 400 → 0 ≤ f126_0_14.toInt → f126_0_14.toInt ≤ 400 → 2 ≤ f126_0_16.toInt → f126_0_16.toInt ≤ 10 → Wd dC dI A s.heap H locs w1 → TW ksM ad cy B qr 12 w1 → FE ksM [(12, 14, 14), (12, 15, 15), (12, 16, 16)] w0 w1 → gi w1 0 1 = f126_0_1 → gi w1 0 14 = f126_0_14 → gi w1 0 16 = f126_0_16 → lv_has ls 5 [(0, .ref (ad 0)), (1, .int 2), (2, .int 10), (3, .int v126_3), (4, .int v126_4)] → W p l e ({ frames := 2, cells := 0, slots := 0, locals := 37 }) s m (List.toArray [.ref (ad 0), .int 2, .int 10]) below meth c H locs 0 0 (MQ below (va_Qi (P_X12_numberHere_8 ad cy B qr s1  w0) (fun u : va_W => wpost dC dI cy A u) A) (List.toArray [.ref (ad 0), .int 2, .int 10]) s 0 0 A) (F0 m 126 ls []) := by
    intro v126_3 v126_4 f126_0_1 f126_0_14 f126_0_16 H locs ls w1 r2 t3 r4 t5 r6 t7 r9 t10 r12 t13 hw hT hF c8 c11 c14 hl
    refine lv_iconst (v := 1) hx hb dX12_numberHere_126 (by decide) ?_
    refine lv_goto (tgt := 131) hx hb dX12_numberHere_127 (by decide) ?_
    exact tk_zret hC hr rfl hlocks hK ⟨hT, hF, (Or.inr (Or.inr ⟨rfl, ⟨f126_0_1, c8, (show 1 ≤ f126_0_1.toInt by omega), (show f126_0_1.toInt ≤ 400 by omega)⟩, ⟨f126_0_16, c14, (show 2 ≤ f126_0_16.toInt by omega), (show f126_0_16.toInt ≤ 10 by omega)⟩⟩))⟩ hw dX12_numberHere_131
  have J117 : ∀ (v117_3 : Int32) (v117_4 : Int32) (f117_0_1 : Int32) (f117_0_14 : Int32) (f117_0_16 : Int32) (H : Heap) (locs : List Loc) (ls : Array Slot) (w15 : va_W), 0 ≤ v117_3.toInt → v117_3.toInt ≤ 399 → 1 ≤ f117_0_1.toInt → f117_0_1.toInt ≤ 400 → 0 ≤ f117_0_14.toInt → f117_0_14.toInt ≤ 400 → Wd dC dI A s.heap H locs w15 → TW ksM ad cy B qr 12 w15 → FE ksM [(12, 14, 14), (12, 15, 15), (12, 16, 16)] w0 w15 → gi w15 0 1 = f117_0_1 → gi w15 0 14 = f117_0_14 → gi w15 0 16 = f117_0_16 → lv_has ls 5 [(0, .ref (ad 0)), (1, .int 2), (2, .int 10), (3, .int v117_3), (4, .int v117_4)] → W p l e ({ frames := 2, cells := 0, slots := 0, locals := 37 }) s m (List.toArray [.ref (ad 0), .int 2, .int 10]) below meth c H locs 0 0 (MQ below (va_Qi (P_X12_numberHere_8 ad cy B qr s1  w0) (fun u : va_W => wpost dC dI cy A u) A) (List.toArray [.ref (ad 0), .int 2, .int 10]) s 0 0 A) (F0 m 117 ls []) := by
    intro v117_3 v117_4 f117_0_1 f117_0_14 f117_0_16 H locs ls w15 r16 t17 r18 t19 r21 t22 hw hT hF c20 c23 c24 hl
    refine lv_aload_n hx hb dX12_numberHere_117 rfl (lv_at hl 0 rfl) ?_
    refine lv_iconst (v := 1) hx hb dX12_numberHere_118 (by decide) ?_
    refine lv_iload_n hx hb dX12_numberHere_119 rfl (lv_at hl 3 rfl) ?_
    refine tk_Vi hC hK hw hT hA hE hSR kM_at0 (by decide) rfl (k_X12_fails_1 l adK adV dC dI cy ad B (by omega) (by omega) qr s1   1 (by decide) (by decide) v117_3 (show 0 ≤ v117_3.toInt by omega) (show v117_3.toInt ≤ 400 by omega) w15 H.size hT ) (cwV 2 hC.2.2.2.2 gX12_numberHere_X12_fails rfl rfl rfl (by decide +kernel) ⟨Nat.le_of_ble_eq_true rfl, Nat.le_of_ble_eq_true rfl⟩) rfl hl.1 rfl (Nat.le_of_ble_eq_true rfl) dX12_numberHere_120 (fun r25 w27 H locs hp26 hw => ?_)
    obtain ⟨hT, k28, hg31⟩ := hp26
    have hF := hF.tr k28 (by decide)
    have c32 := k28.gi kM_at0 (by decide) c20
    have c33 := k28.gi kM_at0 (by decide) c23
    have c34 := k28.gi kM_at0 (by decide) c24
    obtain ⟨rfl, ⟨x29, c30, rx29, tx29⟩⟩ := hg31
    refine lv_if_eq (tgt := 130) hx hb dX12_numberHere_123 (by decide) (fun _ => ?_) (fun c => absurd (by decide) c)
    refine lv_iconst (v := 0) hx hb dX12_numberHere_130 (by decide) ?_
    exact tk_zret hC hr rfl hlocks hK ⟨hT, hF, (Or.inl ⟨rfl, ⟨f117_0_1, c32, (show 1 ≤ f117_0_1.toInt by omega), (show f117_0_1.toInt ≤ 400 by omega)⟩, ⟨x29, c30, (show 1 ≤ x29.toInt by omega), (show x29.toInt ≤ 3205 by omega)⟩⟩)⟩ hw dX12_numberHere_131
  have L34 : ∀ (n34 : Nat) (v34_3 : Int32) (v34_4 : Int32) (f34_0_1 : Int32) (f34_0_14 : Int32) (H : Heap) (locs : List Loc) (ls : Array Slot) (w35 : va_W), 0 ≤ v34_3.toInt → v34_3.toInt ≤ 399 → 1 ≤ f34_0_1.toInt → f34_0_1.toInt ≤ 400 → 0 ≤ f34_0_14.toInt → f34_0_14.toInt ≤ 400 → (400 - f34_0_14.toInt).toNat < n34 → Wd dC dI A s.heap H locs w35 → TW ksM ad cy B qr 12 w35 → FE ksM [(12, 14, 14), (12, 15, 15), (12, 16, 16)] w0 w35 → gi w35 0 1 = f34_0_1 → gi w35 0 14 = f34_0_14 → lv_has ls 5 [(0, .ref (ad 0)), (1, .int 2), (2, .int 10), (3, .int v34_3), (4, .int v34_4)] → W p l e ({ frames := 2, cells := 0, slots := 0, locals := 37 }) s m (List.toArray [.ref (ad 0), .int 2, .int 10]) below meth c H locs 0 0 (MQ below (va_Qi (P_X12_numberHere_8 ad cy B qr s1  w0) (fun u : va_W => wpost dC dI cy A u) A) (List.toArray [.ref (ad 0), .int 2, .int 10]) s 0 0 A) (F0 m 34 ls []) := by
    intro n34
    induction n34 with
    | zero => intro v34_3 v34_4 f34_0_1 f34_0_14 H locs ls w35 r36 t37 r38 t39 r41 t42 hm34 hw hT hF c40 c43 hl; omega
    | succ n34 ih34 =>
      intro v34_3 v34_4 f34_0_1 f34_0_14 H locs ls w35 r36 t37 r38 t39 r41 t42 hm34 hw hT hF c40 c43 hl
      have J75 : ∀ (v75_4 : Int32) (H : Heap) (locs : List Loc) (ls : Array Slot) (w44 : va_W), 0 ≤ v34_3.toInt → v34_3.toInt ≤ 399 → 1 ≤ f34_0_1.toInt → f34_0_1.toInt ≤ 400 → 0 ≤ f34_0_14.toInt → f34_0_14.toInt ≤ 399 → Wd dC dI A s.heap H locs w44 → TW ksM ad cy B qr 12 w44 → FE ksM [(12, 14, 14), (12, 15, 15), (12, 16, 16)] w0 w44 → gi w44 0 1 = f34_0_1 → gi w44 0 14 = f34_0_14 → lv_has ls 5 [(0, .ref (ad 0)), (1, .int 2), (2, .int 10), (3, .int v34_3), (4, .int v75_4)] → W p l e ({ frames := 2, cells := 0, slots := 0, locals := 37 }) s m (List.toArray [.ref (ad 0), .int 2, .int 10]) below meth c H locs 0 0 (MQ below (va_Qi (P_X12_numberHere_8 ad cy B qr s1  w0) (fun u : va_W => wpost dC dI cy A u) A) (List.toArray [.ref (ad 0), .int 2, .int 10]) s 0 0 A) (F0 m 75 ls []) := by
        intro v75_4 H locs ls w44 r45 t46 r47 t48 r50 t51 hw hT hF c49 c52 hl
        refine lv_aload_n hx hb dX12_numberHere_75 rfl (lv_at hl 0 rfl) ?_
        refine lv_dup hx hb dX12_numberHere_76 rfl ?_
        refine tk_geti hC hK hw hT hinX12 kM_at0 (by decide) rfl 14 (by decide) (List.mem_of_getElem? (i := 1) rfl) rfl rfl dX12_numberHere_77 (fun x53 c54 rx53 tx53 => ?_)
        refine wk_top f34_0_14 (c54.symm.trans c52) ?_
        refine lv_iconst (v := 1) hx hb dX12_numberHere_80 (by decide) ?_
        refine lv_iadd hx hb dX12_numberHere_81 ?_
        refine lv_topi (fun x55 ex55 => ?_)
        have ex55 : x55.toInt = f34_0_14.toInt + (1 : Int) := by rw [ex55]; exact wk_add (show (-2147483648) ≤ f34_0_14.toInt + (1 : Int) by omega) (show f34_0_14.toInt + (1 : Int) ≤ 2147483647 by omega)
        refine tk_puti hC hK hw hT hinX12 tyX12_ok nmX12 kM_at0 (by decide) rfl rfl 14 (by decide) (List.mem_of_getElem? (i := 1) rfl) rfl rfl rfl rfl (show 0 ≤ x55.toInt by omega) (show x55.toInt ≤ 400 by omega) dX12_numberHere_82 (fun H locs w56 hw hT k58 c57 => ?_)
        have hF := hF.put kM_at0 (k := 14) (by decide) k58
        have c59 := k58.gi (Or.inr (by decide)) c49
        refine lv_goto (tgt := 34) hx hb dX12_numberHere_85 (by decide) ?_
        exact ih34 v34_3 v75_4 f34_0_1 x55 H locs ls w56 (show 0 ≤ v34_3.toInt by omega) (show v34_3.toInt ≤ 399 by omega) (show 1 ≤ f34_0_1.toInt by omega) (show f34_0_1.toInt ≤ 400 by omega) (show 0 ≤ x55.toInt by omega) (show x55.toInt ≤ 400 by omega) (show (400 - x55.toInt).toNat < n34 by omega) hw hT hF c59 c57 (lv_sub hl [0, 1, 2, 3, 4] rfl)
      refine lv_aload_n hx hb dX12_numberHere_34 rfl (lv_at hl 0 rfl) ?_
      refine lv_aload_n hx hb dX12_numberHere_35 rfl (lv_at hl 0 rfl) ?_
      refine tk_geti hC hK hw hT hinX12 kM_at0 (by decide) rfl 14 (by decide) (List.mem_of_getElem? (i := 1) rfl) rfl rfl dX12_numberHere_36 (fun x60 c61 rx60 tx60 => ?_)
      refine wk_top f34_0_14 (c61.symm.trans c43) ?_
      refine tk_Vi hC hK hw hT hA hE hSR kM_at0 (by decide) rfl (k_X12_isDigit_1 l adK adV dC dI cy ad B (by omega) (by omega) qr s1   f34_0_14 (show 0 ≤ f34_0_14.toInt by omega) (show f34_0_14.toInt ≤ 400 by omega) w35 H.size hT ) (cwV 1 hC.2.2.2.2 gX12_numberHere_X12_isDigit rfl rfl rfl (by decide +kernel) ⟨Nat.le_of_ble_eq_true rfl, Nat.le_of_ble_eq_true rfl⟩) rfl hl.1 rfl (Nat.le_of_ble_eq_true rfl) dX12_numberHere_39 (fun r62 w64 H locs hp63 hw => ?_)
      obtain ⟨hT, k65, hg71⟩ := hp63
      have hF := hF.tr k65 (by decide)
      have c72 := k65.gi kM_at0 (by decide) c40
      have c73 := k65.gi kM_at0 (by decide) c43
      rcases hg71 with ⟨rfl, ⟨x66, c67, rx66, tx66⟩⟩ | ⟨rfl, g68, ⟨x69, c70, rx69, tx69⟩⟩
      · have ex66 : x66.toInt = f34_0_1.toInt := by rw [← c72.symm.trans c67]
        refine lv_if_eq (tgt := 88) hx hb dX12_numberHere_42 (by decide) (fun _ => ?_) (fun c => absurd (by decide) c)
        refine lv_aload_n hx hb dX12_numberHere_88 rfl (lv_at hl 0 rfl) ?_
        refine lv_iload hx hb dX12_numberHere_89 (lv_at hl 4 rfl) ?_
        refine tk_puti hC hK hw hT hinX12 tyX12_ok nmX12 kM_at0 (by decide) rfl rfl 16 (by decide) (List.mem_of_getElem? (i := 3) rfl) rfl rfl rfl rfl (wk_i32 v34_4).1 (wk_i32 v34_4).2 dX12_numberHere_91 (fun H locs w74 hw hT k76 c75 => ?_)
        have hF := hF.put kM_at0 (k := 16) (by decide) k76
        have c77 := k76.gi (Or.inr (by decide)) c72
        have c78 := k76.gi (Or.inr (by decide)) c73
        refine lv_aload_n hx hb dX12_numberHere_94 rfl (lv_at hl 0 rfl) ?_
        refine tk_geti hC hK hw hT hinX12 kM_at0 (by decide) rfl 14 (by decide) (List.mem_of_getElem? (i := 1) rfl) rfl rfl dX12_numberHere_95 (fun x79 c80 rx79 tx79 => ?_)
        refine wk_top f34_0_14 (c80.symm.trans c78) ?_
        refine lv_iload_n hx hb dX12_numberHere_98 rfl (lv_at hl 3 rfl) ?_
        refine lv_isub hx hb dX12_numberHere_99 ?_
        refine lv_topi (fun x81 ex81 => ?_)
        have ex81 : x81.toInt = f34_0_14.toInt - v34_3.toInt := by rw [ex81]; exact wk_sub (show (-2147483648) ≤ f34_0_14.toInt - v34_3.toInt by omega) (show f34_0_14.toInt - v34_3.toInt ≤ 2147483647 by omega)
        refine lv_iconst (v := 5) hx hb dX12_numberHere_100 (by decide) ?_
        refine lv_icmp_gt (tgt := 117) hx hb dX12_numberHere_101 (by decide) (fun c82 => ?_) (fun c82 => ?_)
        · have c82 : (5 : Int) < x81.toInt := wk_lt.mp c82
          exact J117 v34_3 v34_4 f34_0_1 f34_0_14 v34_4 H locs ls w74 (show 0 ≤ v34_3.toInt by omega) (show v34_3.toInt ≤ 399 by omega) (show 1 ≤ f34_0_1.toInt by omega) (show f34_0_1.toInt ≤ 400 by omega) (show 0 ≤ f34_0_14.toInt by omega) (show f34_0_14.toInt ≤ 400 by omega)  hw hT hF c77 c78 c75 (lv_sub hl [0, 1, 2, 3, 4] rfl)
        · have c82 : x81.toInt ≤ (5 : Int) := wk_ltF c82
          refine lv_iload hx hb dX12_numberHere_104 (lv_at hl 4 rfl) ?_
          refine lv_i2l hx hb dX12_numberHere_106 rfl ?_
          refine lv_topl (fun x83 ex83 => ?_)
          have ex83 : x83.toInt = v34_4.toInt := by rw [ex83]; exact wk_i2l _
          have bx83 := wk_i32 v34_4
          refine lv_iload_n hx hb dX12_numberHere_107 rfl (lv_at hl 1 rfl) ?_
          refine lv_i2l hx hb dX12_numberHere_108 rfl ?_
          refine wk_topl 2 (by decide) ?_
          refine lv_iload_n hx hb dX12_numberHere_109 rfl (lv_at hl 2 rfl) ?_
          refine lv_i2l hx hb dX12_numberHere_110 rfl ?_
          refine wk_topl 10 (by decide) ?_
          refine tk_Si hC hK hw hT hA hE hSR (k_X12_in_8 l adK adV dC dI cy ad B (by omega) (by omega) qr s1   x83 (show (-2147483648) ≤ x83.toInt by omega) (show x83.toInt ≤ 2147483647 by omega) w74 H.size hT ) (va_cwS 3 hC.2.2.2.2 gX12_numberHere_X12_in rfl rfl rfl (by decide +kernel) ⟨Nat.le_of_ble_eq_true rfl, Nat.le_of_ble_eq_true rfl⟩) rfl hl.1 rfl (Nat.le_of_ble_eq_true rfl) dX12_numberHere_111 (fun r84 w86 H locs hp85 hw => ?_)
          obtain ⟨hT, k87, hg90⟩ := hp85
          have hF := hF.tr k87 (by decide)
          have c91 := k87.gi kM_at0 (by decide) c77
          have c92 := k87.gi kM_at0 (by decide) c78
          have c93 := k87.gi kM_at0 (by decide) c75
          rcases hg90 with rfl | ⟨rfl, g88, g89⟩
          · refine lv_if_ne (tgt := 126) hx hb dX12_numberHere_114 (by decide) (fun c => absurd (by decide) c) (fun _ => ?_)
            exact J117 v34_3 v34_4 f34_0_1 f34_0_14 v34_4 H locs ls w86 (show 0 ≤ v34_3.toInt by omega) (show v34_3.toInt ≤ 399 by omega) (show 1 ≤ f34_0_1.toInt by omega) (show f34_0_1.toInt ≤ 400 by omega) (show 0 ≤ f34_0_14.toInt by omega) (show f34_0_14.toInt ≤ 400 by omega)  hw hT hF c91 c92 c93 (lv_sub hl [0, 1, 2, 3, 4] rfl)
          · refine lv_if_ne (tgt := 126) hx hb dX12_numberHere_114 (by decide) (fun _ => ?_) (fun c => absurd c (by decide))
            exact J126 v34_3 v34_4 f34_0_1 f34_0_14 v34_4 H locs ls w86 (show 0 ≤ v34_3.toInt by omega) (show v34_3.toInt ≤ 399 by omega) (show 2 ≤ v34_4.toInt by omega) (show v34_4.toInt ≤ 10 by omega) (show 1 ≤ f34_0_1.toInt by omega) (show f34_0_1.toInt ≤ 400 by omega) (show 0 ≤ f34_0_14.toInt by omega) (show f34_0_14.toInt ≤ 400 by omega) (show 2 ≤ v34_4.toInt by omega) (show v34_4.toInt ≤ 10 by omega)  hw hT hF c91 c92 c93 (lv_sub hl [0, 1, 2, 3, 4] rfl)
      · have ex69 : x69.toInt = f34_0_1.toInt := by rw [← c72.symm.trans c70]
        refine lv_if_eq (tgt := 88) hx hb dX12_numberHere_42 (by decide) (fun c => absurd c (by decide)) (fun _ => ?_)
        refine lv_aload_n hx hb dX12_numberHere_45 rfl (lv_at hl 0 rfl) ?_
        refine tk_geti hC hK hw hT hinX12 kM_at0 (by decide) rfl 14 (by decide) (List.mem_of_getElem? (i := 1) rfl) rfl rfl dX12_numberHere_46 (fun x94 c95 rx94 tx94 => ?_)
        refine wk_top f34_0_14 (c95.symm.trans c73) ?_
        refine lv_iload_n hx hb dX12_numberHere_49 rfl (lv_at hl 3 rfl) ?_
        refine lv_isub hx hb dX12_numberHere_50 ?_
        refine lv_topi (fun x96 ex96 => ?_)
        have ex96 : x96.toInt = f34_0_14.toInt - v34_3.toInt := by rw [ex96]; exact wk_sub (show (-2147483648) ≤ f34_0_14.toInt - v34_3.toInt by omega) (show f34_0_14.toInt - v34_3.toInt ≤ 2147483647 by omega)
        refine lv_iconst (v := 5) hx hb dX12_numberHere_51 (by decide) ?_
        refine lv_icmp_ge (tgt := 75) hx hb dX12_numberHere_52 (by decide) (fun c97 => ?_) (fun c97 => ?_)
        · have c97 : (5 : Int) ≤ x96.toInt := wk_le.mp c97
          exact J75 v34_4 H locs ls w64 (show 0 ≤ v34_3.toInt by omega) (show v34_3.toInt ≤ 399 by omega) (show 1 ≤ f34_0_1.toInt by omega) (show f34_0_1.toInt ≤ 400 by omega) (show 0 ≤ f34_0_14.toInt by omega) (show f34_0_14.toInt ≤ 399 by omega)  hw hT hF c72 c73 (lv_sub hl [0, 1, 2, 3, 4] rfl)
        · have c97 : x96.toInt < (5 : Int) := wk_leF c97
          refine lv_bipush (v := 10) hx hb dX12_numberHere_55 (by decide) ?_
          refine lv_iload hx hb dX12_numberHere_57 (lv_at hl 4 rfl) ?_
          refine lv_imul hx hb dX12_numberHere_59 ?_
          have nx98 := wk_i32 v34_4
          refine lv_topi (fun x99 ex99 => ?_)
          refine lv_aload_n hx hb dX12_numberHere_60 rfl (lv_at hl 0 rfl) ?_
          refine tk_getA hC hK hw hT hinX12 kM_at0 (by decide) rfl 0 (by decide) (List.mem_of_getElem? (i := 2) rfl) rfl rfl dX12_numberHere_61 ?_
          refine lv_aload_n hx hb dX12_numberHere_64 rfl (lv_at hl 0 rfl) ?_
          refine tk_geti hC hK hw hT hinX12 kM_at0 (by decide) rfl 14 (by decide) (List.mem_of_getElem? (i := 1) rfl) rfl rfl dX12_numberHere_65 (fun x100 c101 rx100 tx100 => ?_)
          refine wk_top f34_0_14 (c101.symm.trans c73) ?_
          refine tk_bald hC hK hw hT kM_at1 rfl rfl (show 0 ≤ f34_0_14.toInt by omega) (show f34_0_14.toInt < 400 by omega) dX12_numberHere_68 (fun x102 c103 rx102 tx102 => ?_)
          refine lv_iadd hx hb dX12_numberHere_69 ?_
          have nx104 := wk_i32 x99
          refine lv_topi (fun x105 ex105 => ?_)
          refine lv_bipush (v := 48) hx hb dX12_numberHere_70 (by decide) ?_
          refine lv_isub hx hb dX12_numberHere_72 ?_
          have nx106 := wk_i32 x105
          refine lv_topi (fun x107 ex107 => ?_)
          refine lv_istore (lv' := [(4, .int x107), (0, .ref (ad 0)), (1, .int 2), (2, .int 10), (3, .int v34_3)]) hx hb dX12_numberHere_73 hl (by decide) rfl (fun ls hl => ?_)
          exact J75 x107 H locs ls w64 (show 0 ≤ v34_3.toInt by omega) (show v34_3.toInt ≤ 399 by omega) (show 1 ≤ f34_0_1.toInt by omega) (show f34_0_1.toInt ≤ 400 by omega) (show 0 ≤ f34_0_14.toInt by omega) (show f34_0_14.toInt ≤ 399 by omega)  hw hT hF c72 c73 (lv_sub hl [1, 2, 3, 4, 0] rfl)
  refine lv_aload_n hx hb dX12_numberHere_0 rfl (lv_at hl 0 rfl) ?_
  refine tk_Vi hC hK hw hT hA hE hSR kM_at0 (by decide) rfl (k_X12_see_1 l adK adV dC dI cy ad B (by omega) (by omega) qr s1    w0 s.heap.size hT ) (cwV 0 hC.2.2.2.2 gX12_numberHere_X12_see rfl rfl rfl (by decide +kernel) ⟨Nat.le_of_ble_eq_true rfl, Nat.le_of_ble_eq_true rfl⟩) rfl hl.1 rfl (Nat.le_of_ble_eq_true rfl) dX12_numberHere_1 (fun r108 w110 H locs hp109 hw => ?_)
  obtain ⟨hT, k111, hg120⟩ := hp109
  have hF := hF.tr k111 (by decide)
  rcases hg120 with ⟨g112, g113, ⟨x114, c115, rx114, tx114⟩, ⟨x116, c117, rx116, tx116⟩⟩ | ⟨rfl, ⟨x118, c119, rx118, tx118⟩⟩
  · refine lv_pop hx hb dX12_numberHere_4 rfl ?_
    refine lv_aload_n hx hb dX12_numberHere_5 rfl (lv_at hl 0 rfl) ?_
    refine lv_aload_n hx hb dX12_numberHere_6 rfl (lv_at hl 0 rfl) ?_
    refine tk_geti hC hK hw hT hinX12 kM_at0 (by decide) rfl 14 (by decide) (List.mem_of_getElem? (i := 1) rfl) rfl rfl dX12_numberHere_7 (fun x121 c122 rx121 tx121 => ?_)
    refine wk_top x116 (c122.symm.trans c117) ?_
    refine tk_Vi hC hK hw hT hA hE hSR kM_at0 (by decide) rfl (k_X12_isDigit_2 l adK adV dC dI cy ad B (by omega) (by omega) qr s1   x116 (show 0 ≤ x116.toInt by omega) (show x116.toInt ≤ 399 by omega) w110 H.size hT ) (cwV 1 hC.2.2.2.2 gX12_numberHere_X12_isDigit rfl rfl rfl (by decide +kernel) ⟨Nat.le_of_ble_eq_true rfl, Nat.le_of_ble_eq_true rfl⟩) rfl hl.1 rfl (Nat.le_of_ble_eq_true rfl) dX12_numberHere_10 (fun r123 w125 H locs hp124 hw => ?_)
    obtain ⟨hT, k126, hg131⟩ := hp124
    have hF := hF.tr k126 (by decide)
    have c132 := k126.gi kM_at0 (by decide) c115
    have c133 := k126.gi kM_at0 (by decide) c117
    rcases hg131 with ⟨rfl, ⟨x127, c128, rx127, tx127⟩⟩ | ⟨rfl, ⟨x129, c130, rx129, tx129⟩⟩
    · have ex127 : x127.toInt = x114.toInt := by rw [← c132.symm.trans c128]
      refine lv_if_ne (tgt := 26) hx hb dX12_numberHere_13 (by decide) (fun c => absurd (by decide) c) (fun _ => ?_)
      refine lv_aload_n hx hb dX12_numberHere_16 rfl (lv_at hl 0 rfl) ?_
      refine lv_iconst (v := 0) hx hb dX12_numberHere_17 (by decide) ?_
      refine lv_aload_n hx hb dX12_numberHere_18 rfl (lv_at hl 0 rfl) ?_
      refine tk_geti hC hK hw hT hinX12 kM_at0 (by decide) rfl 14 (by decide) (List.mem_of_getElem? (i := 1) rfl) rfl rfl dX12_numberHere_19 (fun x134 c135 rx134 tx134 => ?_)
      refine wk_top x116 (c135.symm.trans c133) ?_
      refine tk_Vi hC hK hw hT hA hE hSR kM_at0 (by decide) rfl (k_X12_fails_1 l adK adV dC dI cy ad B (by omega) (by omega) qr s1   0 (by decide) (by decide) x116 (show 0 ≤ x116.toInt by omega) (show x116.toInt ≤ 400 by omega) w125 H.size hT ) (cwV 2 hC.2.2.2.2 gX12_numberHere_X12_fails rfl rfl rfl (by decide +kernel) ⟨Nat.le_of_ble_eq_true rfl, Nat.le_of_ble_eq_true rfl⟩) rfl hl.1 rfl (Nat.le_of_ble_eq_true rfl) dX12_numberHere_22 (fun r136 w138 H locs hp137 hw => ?_)
      obtain ⟨hT, k139, hg142⟩ := hp137
      have hF := hF.tr k139 (by decide)
      have c143 := k139.gi kM_at0 (by decide) c132
      have c144 := k139.gi kM_at0 (by decide) c133
      obtain ⟨rfl, ⟨x140, c141, rx140, tx140⟩⟩ := hg142
      exact tk_zret hC hr rfl hlocks hK ⟨hT, hF, (Or.inl ⟨rfl, ⟨x114, c143, (show 1 ≤ x114.toInt by omega), (show x114.toInt ≤ 400 by omega)⟩, ⟨x140, c141, (show 1 ≤ x140.toInt by omega), (show x140.toInt ≤ 3205 by omega)⟩⟩)⟩ hw dX12_numberHere_25
    · have ex129 : x129.toInt = x114.toInt := by rw [← c132.symm.trans c130]
      refine lv_if_ne (tgt := 26) hx hb dX12_numberHere_13 (by decide) (fun _ => ?_) (fun c => absurd c (by decide))
      refine lv_aload_n hx hb dX12_numberHere_26 rfl (lv_at hl 0 rfl) ?_
      refine tk_geti hC hK hw hT hinX12 kM_at0 (by decide) rfl 14 (by decide) (List.mem_of_getElem? (i := 1) rfl) rfl rfl dX12_numberHere_27 (fun x145 c146 rx145 tx145 => ?_)
      refine wk_top x116 (c146.symm.trans c133) ?_
      refine lv_istore_n (lv' := [(3, .int x116), (0, .ref (ad 0)), (1, .int 2), (2, .int 10)]) hx hb dX12_numberHere_30 rfl hl (by decide) rfl (fun ls hl => ?_)
      refine lv_iconst (v := 0) hx hb dX12_numberHere_31 (by decide) ?_
      refine lv_istore (lv' := [(4, .int 0), (3, .int x116), (0, .ref (ad 0)), (1, .int 2), (2, .int 10)]) hx hb dX12_numberHere_32 hl (by decide) rfl (fun ls hl => ?_)
      exact L34 ((400 - x116.toInt).toNat + 1) x116 0 x114 x116 H locs ls w125 (show 0 ≤ x116.toInt by omega) (show x116.toInt ≤ 399 by omega) (show 1 ≤ x114.toInt by omega) (show x114.toInt ≤ 400 by omega) (show 0 ≤ x116.toInt by omega) (show x116.toInt ≤ 400 by omega) (Nat.lt_succ_self _) hw hT hF c132 c133 (lv_sub hl [2, 3, 4, 1, 0] rfl)
  · refine lv_pop hx hb dX12_numberHere_4 rfl ?_
    refine lv_aload_n hx hb dX12_numberHere_5 rfl (lv_at hl 0 rfl) ?_
    refine lv_aload_n hx hb dX12_numberHere_6 rfl (lv_at hl 0 rfl) ?_
    refine tk_geti hC hK hw hT hinX12 kM_at0 (by decide) rfl 14 (by decide) (List.mem_of_getElem? (i := 1) rfl) rfl rfl dX12_numberHere_7 (fun x147 c148 rx147 tx147 => ?_)
    refine tk_Vi hC hK hw hT hA hE hSR kM_at0 (by decide) rfl (k_X12_isDigit_1 l adK adV dC dI cy ad B (by omega) (by omega) qr s1   x147 (show 0 ≤ x147.toInt by omega) (show x147.toInt ≤ 400 by omega) w110 H.size hT ) (cwV 1 hC.2.2.2.2 gX12_numberHere_X12_isDigit rfl rfl rfl (by decide +kernel) ⟨Nat.le_of_ble_eq_true rfl, Nat.le_of_ble_eq_true rfl⟩) rfl hl.1 rfl (Nat.le_of_ble_eq_true rfl) dX12_numberHere_10 (fun r149 w151 H locs hp150 hw => ?_)
    obtain ⟨hT, k152, hg158⟩ := hp150
    have hF := hF.tr k152 (by decide)
    have c159 := k152.gi kM_at0 (by decide) c119
    have c160 := k152.gi kM_at0 (by decide) c148
    rcases hg158 with ⟨rfl, ⟨x153, c154, rx153, tx153⟩⟩ | ⟨rfl, g155, ⟨x156, c157, rx156, tx156⟩⟩
    · have ex153 : x153.toInt = x118.toInt := by rw [← c159.symm.trans c154]
      refine lv_if_ne (tgt := 26) hx hb dX12_numberHere_13 (by decide) (fun c => absurd (by decide) c) (fun _ => ?_)
      refine lv_aload_n hx hb dX12_numberHere_16 rfl (lv_at hl 0 rfl) ?_
      refine lv_iconst (v := 0) hx hb dX12_numberHere_17 (by decide) ?_
      refine lv_aload_n hx hb dX12_numberHere_18 rfl (lv_at hl 0 rfl) ?_
      refine tk_geti hC hK hw hT hinX12 kM_at0 (by decide) rfl 14 (by decide) (List.mem_of_getElem? (i := 1) rfl) rfl rfl dX12_numberHere_19 (fun x161 c162 rx161 tx161 => ?_)
      refine wk_top x147 (c162.symm.trans c160) ?_
      refine tk_Vi hC hK hw hT hA hE hSR kM_at0 (by decide) rfl (k_X12_fails_1 l adK adV dC dI cy ad B (by omega) (by omega) qr s1   0 (by decide) (by decide) x147 (show 0 ≤ x147.toInt by omega) (show x147.toInt ≤ 400 by omega) w151 H.size hT ) (cwV 2 hC.2.2.2.2 gX12_numberHere_X12_fails rfl rfl rfl (by decide +kernel) ⟨Nat.le_of_ble_eq_true rfl, Nat.le_of_ble_eq_true rfl⟩) rfl hl.1 rfl (Nat.le_of_ble_eq_true rfl) dX12_numberHere_22 (fun r163 w165 H locs hp164 hw => ?_)
      obtain ⟨hT, k166, hg169⟩ := hp164
      have hF := hF.tr k166 (by decide)
      have c170 := k166.gi kM_at0 (by decide) c159
      have c171 := k166.gi kM_at0 (by decide) c160
      obtain ⟨rfl, ⟨x167, c168, rx167, tx167⟩⟩ := hg169
      exact tk_zret hC hr rfl hlocks hK ⟨hT, hF, (Or.inr (Or.inl ⟨rfl, ⟨x118, c170, (show 0 ≤ x118.toInt by omega), (show x118.toInt ≤ 400 by omega)⟩, ⟨x167, c168, (show 1 ≤ x167.toInt by omega), (show x167.toInt ≤ 3205 by omega)⟩⟩))⟩ hw dX12_numberHere_25
    · have ex156 : x156.toInt = x118.toInt := by rw [← c159.symm.trans c157]
      refine lv_if_ne (tgt := 26) hx hb dX12_numberHere_13 (by decide) (fun _ => ?_) (fun c => absurd c (by decide))
      refine lv_aload_n hx hb dX12_numberHere_26 rfl (lv_at hl 0 rfl) ?_
      refine tk_geti hC hK hw hT hinX12 kM_at0 (by decide) rfl 14 (by decide) (List.mem_of_getElem? (i := 1) rfl) rfl rfl dX12_numberHere_27 (fun x172 c173 rx172 tx172 => ?_)
      refine wk_top x147 (c173.symm.trans c160) ?_
      refine lv_istore_n (lv' := [(3, .int x147), (0, .ref (ad 0)), (1, .int 2), (2, .int 10)]) hx hb dX12_numberHere_30 rfl hl (by decide) rfl (fun ls hl => ?_)
      refine lv_iconst (v := 0) hx hb dX12_numberHere_31 (by decide) ?_
      refine lv_istore (lv' := [(4, .int 0), (3, .int x147), (0, .ref (ad 0)), (1, .int 2), (2, .int 10)]) hx hb dX12_numberHere_32 hl (by decide) rfl (fun ls hl => ?_)
      exact L34 ((400 - x147.toInt).toNat + 1) x147 0 x118 x147 H locs ls w151 (show 0 ≤ x147.toInt by omega) (show x147.toInt ≤ 399 by omega) (show 1 ≤ x118.toInt by omega) (show x118.toInt ≤ 400 by omega) (show 0 ≤ x147.toInt by omega) (show x147.toInt ≤ 400 by omega) (Nat.lt_succ_self _) hw hT hF c159 c160 (lv_sub hl [2, 3, 4, 1, 0] rfl)
abbrev P_X12_areCornersHere_1 (ad : Nat → Nat) (cy : Nat → ClassId) (B : Int) (qr : Nat) (s1 : Int) (a1 : Int32) (w0 : va_W) : Int32 → va_W → Prop := fun r u => TW ksM ad cy B qr 12 u ∧ FE ksM [(12, 7, 7), (12, 14, 14), (12, 15, 15), (12, 16, 16)] w0 u ∧ ((r = 0 ∧ (∃ y : Int32, gi u 0 7 = y ∧ 1 ≤ y.toInt ∧ y.toInt ≤ 10) ∧ (∃ y : Int32, gi u 0 15 = y ∧ 1 ≤ y.toInt ∧ y.toInt ≤ 3205)) ∨ (r = 0 ∧ (∃ y : Int32, gi u 0 1 = y ∧ 1 ≤ y.toInt ∧ y.toInt ≤ 400) ∧ (∃ y : Int32, gi u 0 7 = y ∧ 0 ≤ y.toInt ∧ y.toInt ≤ 0) ∧ (∃ y : Int32, gi u 0 15 = y ∧ 1 ≤ y.toInt ∧ y.toInt ≤ 3205)) ∨ (r = 0 ∧ (∃ y : Int32, gi u 0 1 = y ∧ 0 ≤ y.toInt ∧ y.toInt ≤ 400) ∧ (∃ y : Int32, gi u 0 7 = y ∧ 0 ≤ y.toInt ∧ y.toInt ≤ 0) ∧ (∃ y : Int32, gi u 0 15 = y ∧ 1 ≤ y.toInt ∧ y.toInt ≤ 3205)) ∨ (r = 1 ∧ (∃ y : Int32, gi u 0 1 = y ∧ 1 ≤ y.toInt ∧ y.toInt ≤ 400) ∧ (∃ y : Int32, gi u 0 7 = y ∧ 2 ≤ y.toInt ∧ y.toInt ≤ 10) ∧ (∃ y : Int32, gi u 0 16 = y ∧ 2 ≤ y.toInt ∧ y.toInt ≤ 10)))
set_option maxHeartbeats 4000000 in
set_option maxRecDepth 100000 in
theorem k_X12_areCornersHere_1 (l : Launch) (adK adV : Nat → Nat) (dC : Nat → ClassId) (dI : Nat → Nat → Nat) (cy : Nat → ClassId) (ad : Nat → Nat) (B : Int) (hB0 : 100000 ≤ B) (hB1 : B ≤ 1073741824) (qr : Nat) (s1 : Int)  (a1 : Int32) (ra1 : 0 ≤ a1.toInt) (ta1 : a1.toInt ≤ 400) (w0 : va_W) (sz : Nat) (hT : TW ksM ad cy B qr 12 w0)  : Met l yX12_areCornersHere wsX12_areCornersHere ({ frames := 3, cells := 0, slots := 0, locals := 61 }) (va_Pc [.ref (ad 0), .int a1] (wpreS adK adV dC dI cy sz w0)) (va_Qi (P_X12_areCornersHere_1 ad cy B qr s1 a1 w0) (fun u : va_W => wpost dC dI cy (va_A w0 sz) u) (va_A w0 sz)) 0 0 (va_A w0 sz) := by
  refine Met.ofW (cc := cX12_areCornersHere) (maxL := 2) (ret := (some .boolean)) (by decide) rfl ?_
  intro p e s m args below meth c s₁ Bk hml hv
  obtain ⟨rfl, ⟨hsz, hP, hK, hD0⟩, hE, hSR⟩ := hv
  have hx := Bk.exec
  have hb := Bk.bytes
  have hr := Bk.returns
  have hlocks := Bk.notSynchronized
  have hC : CallFix p m c cX12_areCornersHere 2 s _ wsX12_areCornersHere RX12 := ⟨hx, hb, hml, findClass_of_methodNamed Bk.named, atoms_spec (ws := wsX12_areCornersHere) Bk.pre⟩
  subst hsz
  have hD := hD0.self (sz := s.heap.size)
  generalize hAe : va_A w0 s.heap.size = A at hD hE ⊢
  have hA : ∀ q : Nat, s.heap.size ≤ q → A q := fun q h => by rw [← hAe]; exact Or.inr h
  have hw : Wd dC dI A s.heap s.heap [] w0 := ⟨hP, hD, va_S.rf⟩
  have hF : FE ksM [(12, 7, 7), (12, 14, 14), (12, 15, 15), (12, 16, 16)] w0 w0 := FE.rf
  have hl := lv_entry ([.ref (ad 0), .int a1]) (n := 2) (Nat.le_of_ble_eq_true rfl)
  rw [lg_entry_eq]
  generalize (lg_sl ([.ref (ad 0), .int a1]) ++ List.replicate (2 - (lg_sl ([.ref (ad 0), .int a1])).length) Slot.unset).toArray = ls at hl ⊢
  have hl : lv_has ls 2 [(0, .ref (ad 0)), (1, .int a1)] := hl
  generalize hloc : ([] : List Loc) = locs at hw ⊢
  have hinX12 : ∀ w ∈ u_ws RX12 TX12 42, w ∈ wsX12_areCornersHere := fun _ h => List.mem_cons_of_mem _ (List.mem_append_right _ (h))
  refine lv_aload_n hx hb dX12_areCornersHere_0 rfl (lv_at hl 0 rfl) ?_
  refine tk_geti hC hK hw hT hinX12 kM_at0 (by decide) rfl 7 (by decide) (List.mem_of_getElem? (i := 1) rfl) rfl rfl dX12_areCornersHere_1 (fun x1 c2 rx1 tx1 => ?_)
  refine lv_if_le (tgt := 14) hx hb dX12_areCornersHere_4 (by decide) (fun c3 => ?_) (fun c3 => ?_)
  · have c3 : x1.toInt ≤ (0 : Int) := wk_le.mp c3
    refine lv_aload_n hx hb dX12_areCornersHere_14 rfl (lv_at hl 0 rfl) ?_
    refine tk_Vv hC hK hw hT hA hE hSR kM_at0 (by decide) rfl (k_X12_passWord_1 l adK adV dC dI cy ad B (by omega) (by omega) qr s1    w0 s.heap.size hT ) (cwV 0 hC.2.2.2.2 gX12_areCornersHere_X12_passWord rfl rfl rfl (by decide +kernel) ⟨Nat.le_of_ble_eq_true rfl, Nat.le_of_ble_eq_true rfl⟩) rfl hl.1 rfl (Nat.le_of_ble_eq_true rfl) dX12_areCornersHere_15 (fun w6 H locs hp5 hw => ?_)
    obtain ⟨hT, k7, hg14⟩ := hp5
    have hF := hF.tr k7 (by decide)
    have c15 := k7.gi kM_at0 (by decide) c2
    rcases hg14 with ⟨⟨x8, c9, rx8, tx8⟩, ⟨x10, c11, rx10, tx10⟩⟩ | ⟨x12, c13, rx12, tx12⟩
    · refine lv_aload_n hx hb dX12_areCornersHere_18 rfl (lv_at hl 0 rfl) ?_
      refine lv_iconst (v := 2) hx hb dX12_areCornersHere_19 (by decide) ?_
      refine lv_bipush (v := 10) hx hb dX12_areCornersHere_20 (by decide) ?_
      refine tk_Vi hC hK hw hT hA hE hSR kM_at0 (by decide) rfl (k_X12_numberHere_8 l adK adV dC dI cy ad B (by omega) (by omega) qr s1    w6 H.size hT ) (cwV 2 hC.2.2.2.2 gX12_areCornersHere_X12_numberHere rfl rfl rfl (by decide +kernel) ⟨Nat.le_of_ble_eq_true rfl, Nat.le_of_ble_eq_true rfl⟩) rfl hl.1 rfl (Nat.le_of_ble_eq_true rfl) dX12_areCornersHere_22 (fun r16 w18 H locs hp17 hw => ?_)
      obtain ⟨hT, k19, hg32⟩ := hp17
      have hF := hF.tr k19 (by decide)
      have c33 := k19.gi kM_at0 (by decide) c15
      have c34 := k19.gi kM_at0 (by decide) c9
      rcases hg32 with ⟨rfl, ⟨x20, c21, rx20, tx20⟩, ⟨x22, c23, rx22, tx22⟩⟩ | ⟨rfl, ⟨x24, c25, rx24, tx24⟩, ⟨x26, c27, rx26, tx26⟩⟩ | ⟨rfl, ⟨x28, c29, rx28, tx28⟩, ⟨x30, c31, rx30, tx30⟩⟩
      · have ex20 : x20.toInt = x8.toInt := by rw [← c34.symm.trans c21]
        refine lv_if_ne (tgt := 30) hx hb dX12_areCornersHere_25 (by decide) (fun c => absurd (by decide) c) (fun _ => ?_)
        refine lv_iconst (v := 0) hx hb dX12_areCornersHere_28 (by decide) ?_
        exact tk_zret hC hr rfl hlocks hK ⟨hT, hF, (Or.inr (Or.inl ⟨rfl, ⟨x8, c34, (show 1 ≤ x8.toInt by omega), (show x8.toInt ≤ 400 by omega)⟩, ⟨x1, c33, (show 0 ≤ x1.toInt by omega), (show x1.toInt ≤ 0 by omega)⟩, ⟨x22, c23, (show 1 ≤ x22.toInt by omega), (show x22.toInt ≤ 3205 by omega)⟩⟩))⟩ hw dX12_areCornersHere_29
      · have ex24 : x24.toInt = x8.toInt := by rw [← c34.symm.trans c25]
        refine lv_if_ne (tgt := 30) hx hb dX12_areCornersHere_25 (by decide) (fun c => absurd (by decide) c) (fun _ => ?_)
        refine lv_iconst (v := 0) hx hb dX12_areCornersHere_28 (by decide) ?_
        exact tk_zret hC hr rfl hlocks hK ⟨hT, hF, (Or.inr (Or.inl ⟨rfl, ⟨x8, c34, (show 1 ≤ x8.toInt by omega), (show x8.toInt ≤ 400 by omega)⟩, ⟨x1, c33, (show 0 ≤ x1.toInt by omega), (show x1.toInt ≤ 0 by omega)⟩, ⟨x26, c27, (show 1 ≤ x26.toInt by omega), (show x26.toInt ≤ 3205 by omega)⟩⟩))⟩ hw dX12_areCornersHere_29
      · have ex28 : x28.toInt = x8.toInt := by rw [← c34.symm.trans c29]
        refine lv_if_ne (tgt := 30) hx hb dX12_areCornersHere_25 (by decide) (fun _ => ?_) (fun c => absurd c (by decide))
        refine lv_aload_n hx hb dX12_areCornersHere_30 rfl (lv_at hl 0 rfl) ?_
        refine lv_aload_n hx hb dX12_areCornersHere_31 rfl (lv_at hl 0 rfl) ?_
        refine tk_geti hC hK hw hT hinX12 kM_at0 (by decide) rfl 16 (by decide) (List.mem_of_getElem? (i := 2) rfl) rfl rfl dX12_areCornersHere_32 (fun x35 c36 rx35 tx35 => ?_)
        refine wk_top x30 (c36.symm.trans c31) ?_
        refine tk_puti hC hK hw hT hinX12 tyX12_ok nmX12 kM_at0 (by decide) rfl rfl 7 (by decide) (List.mem_of_getElem? (i := 1) rfl) rfl rfl rfl rfl (show 0 ≤ x30.toInt by omega) (show x30.toInt ≤ 10 by omega) dX12_areCornersHere_35 (fun H locs w37 hw hT k39 c38 => ?_)
        have hF := hF.put kM_at0 (k := 7) (by decide) k39
        have c40 := k39.gi (Or.inr (by decide)) c34
        have c41 := k39.gi (Or.inr (by decide)) c31
        refine lv_iconst (v := 1) hx hb dX12_areCornersHere_38 (by decide) ?_
        exact tk_zret hC hr rfl hlocks hK ⟨hT, hF, (Or.inr (Or.inr (Or.inr ⟨rfl, ⟨x8, c40, (show 1 ≤ x8.toInt by omega), (show x8.toInt ≤ 400 by omega)⟩, ⟨x30, c38, (show 2 ≤ x30.toInt by omega), (show x30.toInt ≤ 10 by omega)⟩, ⟨x30, c41, (show 2 ≤ x30.toInt by omega), (show x30.toInt ≤ 10 by omega)⟩⟩)))⟩ hw dX12_areCornersHere_39
    · refine lv_aload_n hx hb dX12_areCornersHere_18 rfl (lv_at hl 0 rfl) ?_
      refine lv_iconst (v := 2) hx hb dX12_areCornersHere_19 (by decide) ?_
      refine lv_bipush (v := 10) hx hb dX12_areCornersHere_20 (by decide) ?_
      refine tk_Vi hC hK hw hT hA hE hSR kM_at0 (by decide) rfl (k_X12_numberHere_8 l adK adV dC dI cy ad B (by omega) (by omega) qr s1    w6 H.size hT ) (cwV 2 hC.2.2.2.2 gX12_areCornersHere_X12_numberHere rfl rfl rfl (by decide +kernel) ⟨Nat.le_of_ble_eq_true rfl, Nat.le_of_ble_eq_true rfl⟩) rfl hl.1 rfl (Nat.le_of_ble_eq_true rfl) dX12_areCornersHere_22 (fun r42 w44 H locs hp43 hw => ?_)
      obtain ⟨hT, k45, hg58⟩ := hp43
      have hF := hF.tr k45 (by decide)
      have c59 := k45.gi kM_at0 (by decide) c15
      have c60 := k45.gi kM_at0 (by decide) c13
      rcases hg58 with ⟨rfl, ⟨x46, c47, rx46, tx46⟩, ⟨x48, c49, rx48, tx48⟩⟩ | ⟨rfl, ⟨x50, c51, rx50, tx50⟩, ⟨x52, c53, rx52, tx52⟩⟩ | ⟨rfl, ⟨x54, c55, rx54, tx54⟩, ⟨x56, c57, rx56, tx56⟩⟩
      · have ex46 : x46.toInt = x12.toInt := by rw [← c60.symm.trans c47]
        refine lv_if_ne (tgt := 30) hx hb dX12_areCornersHere_25 (by decide) (fun c => absurd (by decide) c) (fun _ => ?_)
        refine lv_iconst (v := 0) hx hb dX12_areCornersHere_28 (by decide) ?_
        exact tk_zret hC hr rfl hlocks hK ⟨hT, hF, (Or.inr (Or.inl ⟨rfl, ⟨x12, c60, (show 1 ≤ x12.toInt by omega), (show x12.toInt ≤ 400 by omega)⟩, ⟨x1, c59, (show 0 ≤ x1.toInt by omega), (show x1.toInt ≤ 0 by omega)⟩, ⟨x48, c49, (show 1 ≤ x48.toInt by omega), (show x48.toInt ≤ 3205 by omega)⟩⟩))⟩ hw dX12_areCornersHere_29
      · have ex50 : x50.toInt = x12.toInt := by rw [← c60.symm.trans c51]
        refine lv_if_ne (tgt := 30) hx hb dX12_areCornersHere_25 (by decide) (fun c => absurd (by decide) c) (fun _ => ?_)
        refine lv_iconst (v := 0) hx hb dX12_areCornersHere_28 (by decide) ?_
        exact tk_zret hC hr rfl hlocks hK ⟨hT, hF, (Or.inr (Or.inr (Or.inl ⟨rfl, ⟨x12, c60, (show 0 ≤ x12.toInt by omega), (show x12.toInt ≤ 400 by omega)⟩, ⟨x1, c59, (show 0 ≤ x1.toInt by omega), (show x1.toInt ≤ 0 by omega)⟩, ⟨x52, c53, (show 1 ≤ x52.toInt by omega), (show x52.toInt ≤ 3205 by omega)⟩⟩)))⟩ hw dX12_areCornersHere_29
      · have ex54 : x54.toInt = x12.toInt := by rw [← c60.symm.trans c55]
        refine lv_if_ne (tgt := 30) hx hb dX12_areCornersHere_25 (by decide) (fun _ => ?_) (fun c => absurd c (by decide))
        refine lv_aload_n hx hb dX12_areCornersHere_30 rfl (lv_at hl 0 rfl) ?_
        refine lv_aload_n hx hb dX12_areCornersHere_31 rfl (lv_at hl 0 rfl) ?_
        refine tk_geti hC hK hw hT hinX12 kM_at0 (by decide) rfl 16 (by decide) (List.mem_of_getElem? (i := 2) rfl) rfl rfl dX12_areCornersHere_32 (fun x61 c62 rx61 tx61 => ?_)
        refine wk_top x56 (c62.symm.trans c57) ?_
        refine tk_puti hC hK hw hT hinX12 tyX12_ok nmX12 kM_at0 (by decide) rfl rfl 7 (by decide) (List.mem_of_getElem? (i := 1) rfl) rfl rfl rfl rfl (show 0 ≤ x56.toInt by omega) (show x56.toInt ≤ 10 by omega) dX12_areCornersHere_35 (fun H locs w63 hw hT k65 c64 => ?_)
        have hF := hF.put kM_at0 (k := 7) (by decide) k65
        have c66 := k65.gi (Or.inr (by decide)) c60
        have c67 := k65.gi (Or.inr (by decide)) c57
        refine lv_iconst (v := 1) hx hb dX12_areCornersHere_38 (by decide) ?_
        exact tk_zret hC hr rfl hlocks hK ⟨hT, hF, (Or.inr (Or.inr (Or.inr ⟨rfl, ⟨x12, c66, (show 1 ≤ x12.toInt by omega), (show x12.toInt ≤ 400 by omega)⟩, ⟨x56, c64, (show 2 ≤ x56.toInt by omega), (show x56.toInt ≤ 10 by omega)⟩, ⟨x56, c67, (show 2 ≤ x56.toInt by omega), (show x56.toInt ≤ 10 by omega)⟩⟩)))⟩ hw dX12_areCornersHere_39
  · have c3 : (0 : Int) < x1.toInt := wk_leF c3
    refine lv_aload_n hx hb dX12_areCornersHere_7 rfl (lv_at hl 0 rfl) ?_
    refine lv_iconst (v := 4) hx hb dX12_areCornersHere_8 (by decide) ?_
    refine lv_iload_n hx hb dX12_areCornersHere_9 rfl (lv_at hl 1 rfl) ?_
    refine tk_Vi hC hK hw hT hA hE hSR kM_at0 (by decide) rfl (k_X12_fails_1 l adK adV dC dI cy ad B (by omega) (by omega) qr s1   4 (by decide) (by decide) a1 (show 0 ≤ a1.toInt by omega) (show a1.toInt ≤ 400 by omega) w0 s.heap.size hT ) (cwV 2 hC.2.2.2.2 gX12_areCornersHere_X12_fails rfl rfl rfl (by decide +kernel) ⟨Nat.le_of_ble_eq_true rfl, Nat.le_of_ble_eq_true rfl⟩) rfl hl.1 rfl (Nat.le_of_ble_eq_true rfl) dX12_areCornersHere_10 (fun r68 w70 H locs hp69 hw => ?_)
    obtain ⟨hT, k71, hg74⟩ := hp69
    have hF := hF.tr k71 (by decide)
    have c75 := k71.gi kM_at0 (by decide) c2
    obtain ⟨rfl, ⟨x72, c73, rx72, tx72⟩⟩ := hg74
    exact tk_zret hC hr rfl hlocks hK ⟨hT, hF, (Or.inl ⟨rfl, ⟨x1, c75, (show 1 ≤ x1.toInt by omega), (show x1.toInt ≤ 10 by omega)⟩, ⟨x72, c73, (show 1 ≤ x72.toInt by omega), (show x72.toInt ≤ 3205 by omega)⟩⟩)⟩ hw dX12_areCornersHere_13
abbrev P_X12_townLineHere_1 (ad : Nat → Nat) (cy : Nat → ClassId) (B : Int) (qr : Nat) (s1 : Int) (a1 : Int32) (w0 : va_W) : Int32 → va_W → Prop := fun r u => TW ksM ad cy B qr 12 u ∧ FE ksM [(12, 7, 7), (12, 8, 8), (12, 9, 9), (12, 10, 10), (12, 14, 14), (12, 15, 15), (12, 16, 16), (65, 0, 120), (66, 0, 16), (67, 0, 12)] w0 u ∧ ((r = 0 ∧ (∃ y : Int32, gi u 0 1 = y ∧ 1 ≤ y.toInt ∧ y.toInt ≤ 400) ∧ (∃ y : Int32, gi u 0 7 = y ∧ 0 ≤ y.toInt ∧ y.toInt ≤ 10) ∧ (∃ y : Int32, gi u 0 15 = y ∧ 1 ≤ y.toInt ∧ y.toInt ≤ 3205)) ∨ (r = 0 ∧ (∃ y : Int32, gi u 0 1 = y ∧ 0 ≤ y.toInt ∧ y.toInt ≤ 400) ∧ (∃ y : Int32, gi u 0 7 = y ∧ 0 ≤ y.toInt ∧ y.toInt ≤ 10) ∧ (∃ y : Int32, gi u 0 15 = y ∧ 1 ≤ y.toInt ∧ y.toInt ≤ 3205)) ∨ (r = 1 ∧ (∃ y : Int32, gi u 0 1 = y ∧ 1 ≤ y.toInt ∧ y.toInt ≤ 400) ∧ (∃ y : Int32, gi u 0 7 = y ∧ 1 ≤ y.toInt ∧ y.toInt ≤ 10) ∧ (∃ y : Int32, gi u 0 16 = y ∧ 0 ≤ y.toInt ∧ y.toInt ≤ 359)))
set_option maxHeartbeats 4000000 in
set_option maxRecDepth 100000 in
theorem k_X12_townLineHere_1 (l : Launch) (adK adV : Nat → Nat) (dC : Nat → ClassId) (dI : Nat → Nat → Nat) (cy : Nat → ClassId) (ad : Nat → Nat) (B : Int) (hB0 : 100000 ≤ B) (hB1 : B ≤ 1073741824) (qr : Nat) (s1 : Int)  (a1 : Int32) (ra1 : 0 ≤ a1.toInt) (ta1 : a1.toInt ≤ 400) (w0 : va_W) (sz : Nat) (hT : TW ksM ad cy B qr 12 w0)  : Met l yX12_townLineHere wsX12_townLineHere ({ frames := 4, cells := 0, slots := 0, locals := 84 }) (va_Pc [.ref (ad 0), .int a1] (wpreS adK adV dC dI cy sz w0)) (va_Qi (P_X12_townLineHere_1 ad cy B qr s1 a1 w0) (fun u : va_W => wpost dC dI cy (va_A w0 sz) u) (va_A w0 sz)) 0 0 (va_A w0 sz) := by
  refine Met.ofW (cc := cX12_townLineHere) (maxL := 2) (ret := (some .boolean)) (by decide) rfl ?_
  intro p e s m args below meth c s₁ Bk hml hv
  obtain ⟨rfl, ⟨hsz, hP, hK, hD0⟩, hE, hSR⟩ := hv
  have hx := Bk.exec
  have hb := Bk.bytes
  have hr := Bk.returns
  have hlocks := Bk.notSynchronized
  have hC : CallFix p m c cX12_townLineHere 2 s _ wsX12_townLineHere RX12 := ⟨hx, hb, hml, findClass_of_methodNamed Bk.named, atoms_spec (ws := wsX12_townLineHere) Bk.pre⟩
  subst hsz
  have hD := hD0.self (sz := s.heap.size)
  generalize hAe : va_A w0 s.heap.size = A at hD hE ⊢
  have hA : ∀ q : Nat, s.heap.size ≤ q → A q := fun q h => by rw [← hAe]; exact Or.inr h
  have hw : Wd dC dI A s.heap s.heap [] w0 := ⟨hP, hD, va_S.rf⟩
  have hF : FE ksM [(12, 7, 7), (12, 8, 8), (12, 9, 9), (12, 10, 10), (12, 14, 14), (12, 15, 15), (12, 16, 16), (65, 0, 120), (66, 0, 16), (67, 0, 12)] w0 w0 := FE.rf
  have hl := lv_entry ([.ref (ad 0), .int a1]) (n := 2) (Nat.le_of_ble_eq_true rfl)
  rw [lg_entry_eq]
  generalize (lg_sl ([.ref (ad 0), .int a1]) ++ List.replicate (2 - (lg_sl ([.ref (ad 0), .int a1])).length) Slot.unset).toArray = ls at hl ⊢
  have hl : lv_has ls 2 [(0, .ref (ad 0)), (1, .int a1)] := hl
  generalize hloc : ([] : List Loc) = locs at hw ⊢
  have hinX12 : ∀ w ∈ u_ws RX12 TX12 42, w ∈ wsX12_townLineHere := fun _ h => List.mem_cons_of_mem _ (List.mem_append_right _ (h))
  refine lv_aload_n hx hb dX12_townLineHere_0 rfl (lv_at hl 0 rfl) ?_
  refine lv_ldc2 (v := 27988559963452019) hx hb hC.2.2.2.1 (hC.2.2.2.2 _ (List.mem_of_getElem? (i := 1) rfl)) dX12_townLineHere_1 ?_
  refine tk_Vi hC hK hw hT hA hE hSR kM_at0 (by decide) rfl (k_X12_isWord_1 l adK adV dC dI cy ad B (by omega) (by omega) qr s1    w0 s.heap.size hT ) (cwV 1 hC.2.2.2.2 gX12_townLineHere_X12_isWord rfl rfl rfl (by decide +kernel) ⟨Nat.le_of_ble_eq_true rfl, Nat.le_of_ble_eq_true rfl⟩) rfl hl.1 rfl (Nat.le_of_ble_eq_true rfl) dX12_townLineHere_4 (fun r1 w3 H locs hp2 hw => ?_)
  obtain ⟨hT, k4, hg9⟩ := hp2
  have hF := hF.tr k4 (by decide)
  rcases hg9 with ⟨rfl, ⟨x5, c6, rx5, tx5⟩⟩ | ⟨rfl, ⟨x7, c8, rx7, tx7⟩⟩
  · refine lv_if_eq (tgt := 16) hx hb dX12_townLineHere_7 (by decide) (fun _ => ?_) (fun c => absurd (by decide) c)
    refine lv_aload_n hx hb dX12_townLineHere_16 rfl (lv_at hl 0 rfl) ?_
    refine tk_geti hC hK hw hT hinX12 kM_at0 (by decide) rfl 7 (by decide) (List.mem_of_getElem? (i := 2) rfl) rfl rfl dX12_townLineHere_17 (fun x10 c11 rx10 tx10 => ?_)
    refine lv_if_ne (tgt := 30) hx hb dX12_townLineHere_20 (by decide) (fun c12 => ?_) (fun c12 => ?_)
    · have c12 : ¬ x10.toInt = (0 : Int) := wk_eqF c12
      refine lv_aload_n hx hb dX12_townLineHere_30 rfl (lv_at hl 0 rfl) ?_
      refine lv_ldc2 (v := 126943972648308) hx hb hC.2.2.2.1 (hC.2.2.2.2 _ (List.mem_of_getElem? (i := 3) rfl)) dX12_townLineHere_31 ?_
      refine tk_Vi hC hK hw hT hA hE hSR kM_at0 (by decide) rfl (k_X12_isWord_2 l adK adV dC dI cy ad B (by omega) (by omega) qr s1    w3 H.size hT ) (cwV 1 hC.2.2.2.2 gX12_townLineHere_X12_isWord rfl rfl rfl (by decide +kernel) ⟨Nat.le_of_ble_eq_true rfl, Nat.le_of_ble_eq_true rfl⟩) rfl hl.1 rfl (Nat.le_of_ble_eq_true rfl) dX12_townLineHere_34 (fun r13 w15 H locs hp14 hw => ?_)
      obtain ⟨hT, k16, hg21⟩ := hp14
      have hF := hF.tr k16 (by decide)
      have c22 := k16.gi kM_at0 (by decide) c6
      have c23 := k16.gi kM_at0 (by decide) c11
      rcases hg21 with ⟨rfl, ⟨x17, c18, rx17, tx17⟩⟩ | ⟨rfl, ⟨x19, c20, rx19, tx19⟩⟩
      · have ex17 : x17.toInt = x5.toInt := by rw [← c22.symm.trans c18]
        refine lv_if_eq (tgt := 48) hx hb dX12_townLineHere_37 (by decide) (fun _ => ?_) (fun c => absurd (by decide) c)
        refine lv_aload_n hx hb dX12_townLineHere_48 rfl (lv_at hl 0 rfl) ?_
        refine lv_ldc2 (v := 495555538548) hx hb hC.2.2.2.1 (hC.2.2.2.2 _ (List.mem_of_getElem? (i := 4) rfl)) dX12_townLineHere_49 ?_
        refine tk_Vi hC hK hw hT hA hE hSR kM_at0 (by decide) rfl (k_X12_isWord_3 l adK adV dC dI cy ad B (by omega) (by omega) qr s1    w15 H.size hT ) (cwV 1 hC.2.2.2.2 gX12_townLineHere_X12_isWord rfl rfl rfl (by decide +kernel) ⟨Nat.le_of_ble_eq_true rfl, Nat.le_of_ble_eq_true rfl⟩) rfl hl.1 rfl (Nat.le_of_ble_eq_true rfl) dX12_townLineHere_52 (fun r24 w26 H locs hp25 hw => ?_)
        obtain ⟨hT, k27, hg32⟩ := hp25
        have hF := hF.tr k27 (by decide)
        have c33 := k27.gi kM_at0 (by decide) c22
        have c34 := k27.gi kM_at0 (by decide) c23
        rcases hg32 with ⟨rfl, ⟨x28, c29, rx28, tx28⟩⟩ | ⟨rfl, ⟨x30, c31, rx30, tx30⟩⟩
        · have ex28 : x28.toInt = x5.toInt := by rw [← c33.symm.trans c29]
          refine lv_if_eq (tgt := 66) hx hb dX12_townLineHere_55 (by decide) (fun _ => ?_) (fun c => absurd (by decide) c)
          refine lv_aload_n hx hb dX12_townLineHere_66 rfl (lv_at hl 0 rfl) ?_
          refine lv_iload_n hx hb dX12_townLineHere_67 rfl (lv_at hl 1 rfl) ?_
          refine tk_Vi hC hK hw hT hA hE hSR kM_at0 (by decide) rfl (k_X12_isLiftHere_1 l adK adV dC dI cy ad B (by omega) (by omega) qr s1   a1 (show 0 ≤ a1.toInt by omega) (show a1.toInt ≤ 400 by omega) w26 H.size hT ) (cwV 1 hC.2.2.2.2 gX12_townLineHere_X12_isLiftHere rfl rfl rfl (by decide +kernel) ⟨Nat.le_of_ble_eq_true rfl, Nat.le_of_ble_eq_true rfl⟩) rfl hl.1 rfl (Nat.le_of_ble_eq_true rfl) dX12_townLineHere_68 (fun r35 w37 H locs hp36 hw => ?_)
          obtain ⟨hT, k38, hg63⟩ := hp36
          have hF := hF.tr k38 (by decide)
          have c64 := k38.gi kM_at0 (by decide) c33
          have c65 := k38.gi kM_at0 (by decide) c34
          rcases hg63 with ⟨rfl, ⟨x39, c40, rx39, tx39⟩, ⟨x41, c42, rx41, tx41⟩⟩ | ⟨rfl, ⟨x43, c44, rx43, tx43⟩, ⟨x45, c46, rx45, tx45⟩, ⟨x47, c48, rx47, tx47⟩⟩ | ⟨rfl, ⟨x49, c50, rx49, tx49⟩, ⟨x51, c52, rx51, tx51⟩, ⟨x53, c54, rx53, tx53⟩⟩ | ⟨rfl, ⟨x55, c56, rx55, tx55⟩, ⟨x57, c58, rx57, tx57⟩, ⟨x59, c60, rx59, tx59⟩, ⟨x61, c62, rx61, tx61⟩⟩
          · exact tk_zret hC hr rfl hlocks hK ⟨hT, hF, (Or.inr (Or.inl ⟨rfl, ⟨x5, c64, (show 0 ≤ x5.toInt by omega), (show x5.toInt ≤ 400 by omega)⟩, ⟨x10, c65, (show 0 ≤ x10.toInt by omega), (show x10.toInt ≤ 10 by omega)⟩, ⟨x41, c42, (show 1 ≤ x41.toInt by omega), (show x41.toInt ≤ 3205 by omega)⟩⟩))⟩ hw dX12_townLineHere_71
          · have ex43 : x43.toInt = x5.toInt := by rw [← c64.symm.trans c44]
            exact tk_zret hC hr rfl hlocks hK ⟨hT, hF, (Or.inl ⟨rfl, ⟨x5, c64, (show 1 ≤ x5.toInt by omega), (show x5.toInt ≤ 400 by omega)⟩, ⟨x10, c65, (show 0 ≤ x10.toInt by omega), (show x10.toInt ≤ 10 by omega)⟩, ⟨x47, c48, (show 1 ≤ x47.toInt by omega), (show x47.toInt ≤ 3205 by omega)⟩⟩)⟩ hw dX12_townLineHere_71
          · have ex49 : x49.toInt = x5.toInt := by rw [← c64.symm.trans c50]
            exact tk_zret hC hr rfl hlocks hK ⟨hT, hF, (Or.inr (Or.inl ⟨rfl, ⟨x5, c64, (show 0 ≤ x5.toInt by omega), (show x5.toInt ≤ 400 by omega)⟩, ⟨x10, c65, (show 0 ≤ x10.toInt by omega), (show x10.toInt ≤ 10 by omega)⟩, ⟨x53, c54, (show 1 ≤ x53.toInt by omega), (show x53.toInt ≤ 3205 by omega)⟩⟩))⟩ hw dX12_townLineHere_71
          · have ex55 : x55.toInt = x5.toInt := by rw [← c64.symm.trans c56]
            exact tk_zret hC hr rfl hlocks hK ⟨hT, hF, (Or.inr (Or.inr ⟨rfl, ⟨x5, c64, (show 1 ≤ x5.toInt by omega), (show x5.toInt ≤ 400 by omega)⟩, ⟨x10, c65, (show 1 ≤ x10.toInt by omega), (show x10.toInt ≤ 10 by omega)⟩, ⟨x61, c62, (show 0 ≤ x61.toInt by omega), (show x61.toInt ≤ 359 by omega)⟩⟩))⟩ hw dX12_townLineHere_71
        · have ex30 : x30.toInt = x5.toInt := by rw [← c33.symm.trans c31]
          refine lv_if_eq (tgt := 66) hx hb dX12_townLineHere_55 (by decide) (fun c => absurd c (by decide)) (fun _ => ?_)
          refine lv_aload_n hx hb dX12_townLineHere_58 rfl (lv_at hl 0 rfl) ?_
          refine lv_iload_n hx hb dX12_townLineHere_59 rfl (lv_at hl 1 rfl) ?_
          refine tk_Vi hC hK hw hT hA hE hSR kM_at0 (by decide) rfl (k_X12_isSaintHere_1 l adK adV dC dI cy ad B (by omega) (by omega) qr s1   a1 (show 0 ≤ a1.toInt by omega) (show a1.toInt ≤ 400 by omega) w26 H.size hT ) (cwV 1 hC.2.2.2.2 gX12_townLineHere_X12_isSaintHere rfl rfl rfl (by decide +kernel) ⟨Nat.le_of_ble_eq_true rfl, Nat.le_of_ble_eq_true rfl⟩) rfl hl.1 rfl (Nat.le_of_ble_eq_true rfl) dX12_townLineHere_60 (fun r66 w68 H locs hp67 hw => ?_)
          obtain ⟨hT, k69, hg94⟩ := hp67
          have hF := hF.tr k69 (by decide)
          have c95 := k69.gi kM_at0 (by decide) c33
          have c96 := k69.gi kM_at0 (by decide) c34
          rcases hg94 with ⟨rfl, ⟨x70, c71, rx70, tx70⟩, ⟨x72, c73, rx72, tx72⟩⟩ | ⟨rfl, ⟨x74, c75, rx74, tx74⟩, ⟨x76, c77, rx76, tx76⟩, ⟨x78, c79, rx78, tx78⟩⟩ | ⟨rfl, ⟨x80, c81, rx80, tx80⟩, ⟨x82, c83, rx82, tx82⟩, ⟨x84, c85, rx84, tx84⟩⟩ | ⟨rfl, ⟨x86, c87, rx86, tx86⟩, ⟨x88, c89, rx88, tx88⟩, ⟨x90, c91, rx90, tx90⟩, ⟨x92, c93, rx92, tx92⟩⟩
          · refine lv_goto (tgt := 71) hx hb dX12_townLineHere_63 (by decide) ?_
            exact tk_zret hC hr rfl hlocks hK ⟨hT, hF, (Or.inr (Or.inl ⟨rfl, ⟨x5, c95, (show 0 ≤ x5.toInt by omega), (show x5.toInt ≤ 400 by omega)⟩, ⟨x10, c96, (show 0 ≤ x10.toInt by omega), (show x10.toInt ≤ 10 by omega)⟩, ⟨x72, c73, (show 1 ≤ x72.toInt by omega), (show x72.toInt ≤ 3205 by omega)⟩⟩))⟩ hw dX12_townLineHere_71
          · have ex74 : x74.toInt = x5.toInt := by rw [← c95.symm.trans c75]
            refine lv_goto (tgt := 71) hx hb dX12_townLineHere_63 (by decide) ?_
            exact tk_zret hC hr rfl hlocks hK ⟨hT, hF, (Or.inl ⟨rfl, ⟨x5, c95, (show 1 ≤ x5.toInt by omega), (show x5.toInt ≤ 400 by omega)⟩, ⟨x10, c96, (show 0 ≤ x10.toInt by omega), (show x10.toInt ≤ 10 by omega)⟩, ⟨x78, c79, (show 1 ≤ x78.toInt by omega), (show x78.toInt ≤ 3205 by omega)⟩⟩)⟩ hw dX12_townLineHere_71
          · have ex80 : x80.toInt = x5.toInt := by rw [← c95.symm.trans c81]
            refine lv_goto (tgt := 71) hx hb dX12_townLineHere_63 (by decide) ?_
            exact tk_zret hC hr rfl hlocks hK ⟨hT, hF, (Or.inr (Or.inl ⟨rfl, ⟨x5, c95, (show 0 ≤ x5.toInt by omega), (show x5.toInt ≤ 400 by omega)⟩, ⟨x10, c96, (show 0 ≤ x10.toInt by omega), (show x10.toInt ≤ 10 by omega)⟩, ⟨x84, c85, (show 1 ≤ x84.toInt by omega), (show x84.toInt ≤ 3205 by omega)⟩⟩))⟩ hw dX12_townLineHere_71
          · have ex86 : x86.toInt = x5.toInt := by rw [← c95.symm.trans c87]
            have ex88 : x88.toInt = x10.toInt := by rw [← c96.symm.trans c89]
            refine lv_goto (tgt := 71) hx hb dX12_townLineHere_63 (by decide) ?_
            exact tk_zret hC hr rfl hlocks hK ⟨hT, hF, (Or.inr (Or.inr ⟨rfl, ⟨x5, c95, (show 1 ≤ x5.toInt by omega), (show x5.toInt ≤ 400 by omega)⟩, ⟨x10, c96, (show 1 ≤ x10.toInt by omega), (show x10.toInt ≤ 10 by omega)⟩, ⟨x92, c93, (show 0 ≤ x92.toInt by omega), (show x92.toInt ≤ 359 by omega)⟩⟩))⟩ hw dX12_townLineHere_71
      · have ex19 : x19.toInt = x5.toInt := by rw [← c22.symm.trans c20]
        refine lv_if_eq (tgt := 48) hx hb dX12_townLineHere_37 (by decide) (fun c => absurd c (by decide)) (fun _ => ?_)
        refine lv_aload_n hx hb dX12_townLineHere_40 rfl (lv_at hl 0 rfl) ?_
        refine lv_iload_n hx hb dX12_townLineHere_41 rfl (lv_at hl 1 rfl) ?_
        refine tk_Vi hC hK hw hT hA hE hSR kM_at0 (by decide) rfl (k_X12_isStreetHere_1 l adK adV dC dI cy ad B (by omega) (by omega) qr s1   a1 (show 0 ≤ a1.toInt by omega) (show a1.toInt ≤ 400 by omega) w15 H.size hT ) (cwV 1 hC.2.2.2.2 gX12_townLineHere_X12_isStreetHere rfl rfl rfl (by decide +kernel) ⟨Nat.le_of_ble_eq_true rfl, Nat.le_of_ble_eq_true rfl⟩) rfl hl.1 rfl (Nat.le_of_ble_eq_true rfl) dX12_townLineHere_42 (fun r97 w99 H locs hp98 hw => ?_)
        obtain ⟨hT, k100, hg125⟩ := hp98
        have hF := hF.tr k100 (by decide)
        have c126 := k100.gi kM_at0 (by decide) c22
        have c127 := k100.gi kM_at0 (by decide) c23
        rcases hg125 with ⟨rfl, ⟨x101, c102, rx101, tx101⟩, ⟨x103, c104, rx103, tx103⟩⟩ | ⟨rfl, ⟨x105, c106, rx105, tx105⟩, ⟨x107, c108, rx107, tx107⟩, ⟨x109, c110, rx109, tx109⟩⟩ | ⟨rfl, ⟨x111, c112, rx111, tx111⟩, ⟨x113, c114, rx113, tx113⟩, ⟨x115, c116, rx115, tx115⟩⟩ | ⟨rfl, ⟨x117, c118, rx117, tx117⟩, ⟨x119, c120, rx119, tx119⟩, ⟨x121, c122, rx121, tx121⟩, ⟨x123, c124, rx123, tx123⟩⟩
        · refine lv_goto (tgt := 71) hx hb dX12_townLineHere_45 (by decide) ?_
          exact tk_zret hC hr rfl hlocks hK ⟨hT, hF, (Or.inr (Or.inl ⟨rfl, ⟨x5, c126, (show 0 ≤ x5.toInt by omega), (show x5.toInt ≤ 400 by omega)⟩, ⟨x10, c127, (show 0 ≤ x10.toInt by omega), (show x10.toInt ≤ 10 by omega)⟩, ⟨x103, c104, (show 1 ≤ x103.toInt by omega), (show x103.toInt ≤ 3205 by omega)⟩⟩))⟩ hw dX12_townLineHere_71
        · have ex105 : x105.toInt = x5.toInt := by rw [← c126.symm.trans c106]
          refine lv_goto (tgt := 71) hx hb dX12_townLineHere_45 (by decide) ?_
          exact tk_zret hC hr rfl hlocks hK ⟨hT, hF, (Or.inl ⟨rfl, ⟨x5, c126, (show 1 ≤ x5.toInt by omega), (show x5.toInt ≤ 400 by omega)⟩, ⟨x10, c127, (show 0 ≤ x10.toInt by omega), (show x10.toInt ≤ 10 by omega)⟩, ⟨x109, c110, (show 1 ≤ x109.toInt by omega), (show x109.toInt ≤ 3205 by omega)⟩⟩)⟩ hw dX12_townLineHere_71
        · have ex111 : x111.toInt = x5.toInt := by rw [← c126.symm.trans c112]
          refine lv_goto (tgt := 71) hx hb dX12_townLineHere_45 (by decide) ?_
          exact tk_zret hC hr rfl hlocks hK ⟨hT, hF, (Or.inr (Or.inl ⟨rfl, ⟨x5, c126, (show 0 ≤ x5.toInt by omega), (show x5.toInt ≤ 400 by omega)⟩, ⟨x10, c127, (show 0 ≤ x10.toInt by omega), (show x10.toInt ≤ 10 by omega)⟩, ⟨x115, c116, (show 1 ≤ x115.toInt by omega), (show x115.toInt ≤ 3205 by omega)⟩⟩))⟩ hw dX12_townLineHere_71
        · have ex117 : x117.toInt = x5.toInt := by rw [← c126.symm.trans c118]
          have ex119 : x119.toInt = x10.toInt := by rw [← c127.symm.trans c120]
          refine lv_goto (tgt := 71) hx hb dX12_townLineHere_45 (by decide) ?_
          exact tk_zret hC hr rfl hlocks hK ⟨hT, hF, (Or.inr (Or.inr ⟨rfl, ⟨x5, c126, (show 1 ≤ x5.toInt by omega), (show x5.toInt ≤ 400 by omega)⟩, ⟨x10, c127, (show 1 ≤ x10.toInt by omega), (show x10.toInt ≤ 10 by omega)⟩, ⟨x123, c124, (show 0 ≤ x123.toInt by omega), (show x123.toInt ≤ 359 by omega)⟩⟩))⟩ hw dX12_townLineHere_71
    · have c12 : x10.toInt = (0 : Int) := wk_eq.mp c12
      refine lv_aload_n hx hb dX12_townLineHere_23 rfl (lv_at hl 0 rfl) ?_
      refine lv_iconst (v := 4) hx hb dX12_townLineHere_24 (by decide) ?_
      refine lv_iload_n hx hb dX12_townLineHere_25 rfl (lv_at hl 1 rfl) ?_
      refine tk_Vi hC hK hw hT hA hE hSR kM_at0 (by decide) rfl (k_X12_fails_1 l adK adV dC dI cy ad B (by omega) (by omega) qr s1   4 (by decide) (by decide) a1 (show 0 ≤ a1.toInt by omega) (show a1.toInt ≤ 400 by omega) w3 H.size hT ) (cwV 2 hC.2.2.2.2 gX12_townLineHere_X12_fails rfl rfl rfl (by decide +kernel) ⟨Nat.le_of_ble_eq_true rfl, Nat.le_of_ble_eq_true rfl⟩) rfl hl.1 rfl (Nat.le_of_ble_eq_true rfl) dX12_townLineHere_26 (fun r128 w130 H locs hp129 hw => ?_)
      obtain ⟨hT, k131, hg134⟩ := hp129
      have hF := hF.tr k131 (by decide)
      have c135 := k131.gi kM_at0 (by decide) c6
      have c136 := k131.gi kM_at0 (by decide) c11
      obtain ⟨rfl, ⟨x132, c133, rx132, tx132⟩⟩ := hg134
      exact tk_zret hC hr rfl hlocks hK ⟨hT, hF, (Or.inr (Or.inl ⟨rfl, ⟨x5, c135, (show 0 ≤ x5.toInt by omega), (show x5.toInt ≤ 400 by omega)⟩, ⟨x10, c136, (show 0 ≤ x10.toInt by omega), (show x10.toInt ≤ 10 by omega)⟩, ⟨x132, c133, (show 1 ≤ x132.toInt by omega), (show x132.toInt ≤ 3205 by omega)⟩⟩))⟩ hw dX12_townLineHere_29
  · refine lv_if_eq (tgt := 16) hx hb dX12_townLineHere_7 (by decide) (fun c => absurd c (by decide)) (fun _ => ?_)
    refine lv_aload_n hx hb dX12_townLineHere_10 rfl (lv_at hl 0 rfl) ?_
    refine lv_iload_n hx hb dX12_townLineHere_11 rfl (lv_at hl 1 rfl) ?_
    refine tk_Vi hC hK hw hT hA hE hSR kM_at0 (by decide) rfl (k_X12_areCornersHere_1 l adK adV dC dI cy ad B (by omega) (by omega) qr s1   a1 (show 0 ≤ a1.toInt by omega) (show a1.toInt ≤ 400 by omega) w3 H.size hT ) (cwV 1 hC.2.2.2.2 gX12_townLineHere_X12_areCornersHere rfl rfl rfl (by decide +kernel) ⟨Nat.le_of_ble_eq_true rfl, Nat.le_of_ble_eq_true rfl⟩) rfl hl.1 rfl (Nat.le_of_ble_eq_true rfl) dX12_townLineHere_12 (fun r137 w139 H locs hp138 hw => ?_)
    obtain ⟨hT, k140, hg163⟩ := hp138
    have hF := hF.tr k140 (by decide)
    have c164 := k140.gi kM_at0 (by decide) c8
    rcases hg163 with ⟨rfl, ⟨x141, c142, rx141, tx141⟩, ⟨x143, c144, rx143, tx143⟩⟩ | ⟨rfl, ⟨x145, c146, rx145, tx145⟩, ⟨x147, c148, rx147, tx147⟩, ⟨x149, c150, rx149, tx149⟩⟩ | ⟨rfl, ⟨x151, c152, rx151, tx151⟩, ⟨x153, c154, rx153, tx153⟩, ⟨x155, c156, rx155, tx155⟩⟩ | ⟨rfl, ⟨x157, c158, rx157, tx157⟩, ⟨x159, c160, rx159, tx159⟩, ⟨x161, c162, rx161, tx161⟩⟩
    · exact tk_zret hC hr rfl hlocks hK ⟨hT, hF, (Or.inr (Or.inl ⟨rfl, ⟨x7, c164, (show 0 ≤ x7.toInt by omega), (show x7.toInt ≤ 400 by omega)⟩, ⟨x141, c142, (show 0 ≤ x141.toInt by omega), (show x141.toInt ≤ 10 by omega)⟩, ⟨x143, c144, (show 1 ≤ x143.toInt by omega), (show x143.toInt ≤ 3205 by omega)⟩⟩))⟩ hw dX12_townLineHere_15
    · have ex145 : x145.toInt = x7.toInt := by rw [← c164.symm.trans c146]
      exact tk_zret hC hr rfl hlocks hK ⟨hT, hF, (Or.inl ⟨rfl, ⟨x7, c164, (show 1 ≤ x7.toInt by omega), (show x7.toInt ≤ 400 by omega)⟩, ⟨x147, c148, (show 0 ≤ x147.toInt by omega), (show x147.toInt ≤ 10 by omega)⟩, ⟨x149, c150, (show 1 ≤ x149.toInt by omega), (show x149.toInt ≤ 3205 by omega)⟩⟩)⟩ hw dX12_townLineHere_15
    · have ex151 : x151.toInt = x7.toInt := by rw [← c164.symm.trans c152]
      exact tk_zret hC hr rfl hlocks hK ⟨hT, hF, (Or.inr (Or.inl ⟨rfl, ⟨x7, c164, (show 0 ≤ x7.toInt by omega), (show x7.toInt ≤ 400 by omega)⟩, ⟨x153, c154, (show 0 ≤ x153.toInt by omega), (show x153.toInt ≤ 10 by omega)⟩, ⟨x155, c156, (show 1 ≤ x155.toInt by omega), (show x155.toInt ≤ 3205 by omega)⟩⟩))⟩ hw dX12_townLineHere_15
    · have ex157 : x157.toInt = x7.toInt := by rw [← c164.symm.trans c158]
      exact tk_zret hC hr rfl hlocks hK ⟨hT, hF, (Or.inr (Or.inr ⟨rfl, ⟨x7, c164, (show 1 ≤ x7.toInt by omega), (show x7.toInt ≤ 400 by omega)⟩, ⟨x159, c160, (show 1 ≤ x159.toInt by omega), (show x159.toInt ≤ 10 by omega)⟩, ⟨x161, c162, (show 0 ≤ x161.toInt by omega), (show x161.toInt ≤ 359 by omega)⟩⟩))⟩ hw dX12_townLineHere_15
abbrev P_X12_isWord_4 (ad : Nat → Nat) (cy : Nat → ClassId) (B : Int) (qr : Nat) (s1 : Int)  (w0 : va_W) : Int32 → va_W → Prop := fun r u => TW ksM ad cy B qr 12 u ∧ FE ksM [(12, 14, 14)] w0 u ∧ ((r = 0 ∧ (∃ y : Int32, gi u 0 1 = y ∧ 0 ≤ y.toInt ∧ y.toInt ≤ 400)) ∨ (r = 1 ∧ (∃ y : Int32, gi u 0 1 = y ∧ 0 ≤ y.toInt ∧ y.toInt ≤ 400)))
set_option maxHeartbeats 4000000 in
set_option maxRecDepth 100000 in
theorem k_X12_isWord_4 (l : Launch) (adK adV : Nat → Nat) (dC : Nat → ClassId) (dI : Nat → Nat → Nat) (cy : Nat → ClassId) (ad : Nat → Nat) (B : Int) (hB0 : 100000 ≤ B) (hB1 : B ≤ 1073741824) (qr : Nat) (s1 : Int)   (w0 : va_W) (sz : Nat) (hT : TW ksM ad cy B qr 12 w0)  : Met l yX12_isWord wsX12_isWord ({ frames := 2, cells := 0, slots := 0, locals := 33 }) (va_Pc [.ref (ad 0), .long 1818846836] (wpreS adK adV dC dI cy sz w0)) (va_Qi (P_X12_isWord_4 ad cy B qr s1  w0) (fun u : va_W => wpost dC dI cy (va_A w0 sz) u) (va_A w0 sz)) 0 0 (va_A w0 sz) := by
  refine Met.ofW (cc := cX12_isWord) (maxL := 6) (ret := (some .boolean)) (by decide) rfl ?_
  intro p e s m args below meth c s₁ Bk hml hv
  obtain ⟨rfl, ⟨hsz, hP, hK, hD0⟩, hE, hSR⟩ := hv
  have hx := Bk.exec
  have hb := Bk.bytes
  have hr := Bk.returns
  have hlocks := Bk.notSynchronized
  have hC : CallFix p m c cX12_isWord 6 s _ wsX12_isWord RX12 := ⟨hx, hb, hml, findClass_of_methodNamed Bk.named, atoms_spec (ws := wsX12_isWord) Bk.pre⟩
  subst hsz
  have hD := hD0.self (sz := s.heap.size)
  generalize hAe : va_A w0 s.heap.size = A at hD hE ⊢
  have hA : ∀ q : Nat, s.heap.size ≤ q → A q := fun q h => by rw [← hAe]; exact Or.inr h
  have hw : Wd dC dI A s.heap s.heap [] w0 := ⟨hP, hD, va_S.rf⟩
  have hF : FE ksM [(12, 14, 14)] w0 w0 := FE.rf
  have hl := lv_entry ([.ref (ad 0), .long 1818846836]) (n := 6) (Nat.le_of_ble_eq_true rfl)
  rw [lg_entry_eq]
  generalize (lg_sl ([.ref (ad 0), .long 1818846836]) ++ List.replicate (6 - (lg_sl ([.ref (ad 0), .long 1818846836])).length) Slot.unset).toArray = ls at hl ⊢
  have hl : lv_has ls 6 [(0, .ref (ad 0)), (1, .long 1818846836)] := hl
  generalize hloc : ([] : List Loc) = locs at hw ⊢
  have hinX12 : ∀ w ∈ u_ws RX12 TX12 42, w ∈ wsX12_isWord := fun _ h => List.mem_cons_of_mem _ (List.mem_append_right _ (h))
  have J78 : ∀ (v78_3 : Int64) (v78_5 : Int32) (f78_0_1 : Int32) (f78_0_14 : Int32) (H : Heap) (locs : List Loc) (ls : Array Slot) (w1 : va_W), 0 ≤ v78_5.toInt → v78_5.toInt ≤ 400 → 0 ≤ f78_0_1.toInt → f78_0_1.toInt ≤ 400 → 0 ≤ f78_0_14.toInt → f78_0_14.toInt ≤ 400 → Wd dC dI A s.heap H locs w1 → TW ksM ad cy B qr 12 w1 → FE ksM [(12, 14, 14)] w0 w1 → gi w1 0 1 = f78_0_1 → gi w1 0 14 = f78_0_14 → lv_has ls 6 [(0, .ref (ad 0)), (1, .long 1818846836), (3, .long v78_3), (5, .int v78_5)] → W p l e ({ frames := 2, cells := 0, slots := 0, locals := 33 }) s m (List.toArray [.ref (ad 0), .long 1818846836]) below meth c H locs 0 0 (MQ below (va_Qi (P_X12_isWord_4 ad cy B qr s1  w0) (fun u : va_W => wpost dC dI cy A u) A) (List.toArray [.ref (ad 0), .long 1818846836]) s 0 0 A) (F0 m 78 ls []) := by
    intro v78_3 v78_5 f78_0_1 f78_0_14 H locs ls w1 r2 t3 r4 t5 r7 t8 hw hT hF c6 c9 hl
    refine lv_iconst (v := 0) hx hb dX12_isWord_78 (by decide) ?_
    exact tk_zret hC hr rfl hlocks hK ⟨hT, hF, (Or.inl ⟨rfl, ⟨f78_0_1, c6, (show 0 ≤ f78_0_1.toInt by omega), (show f78_0_1.toInt ≤ 400 by omega)⟩⟩)⟩ hw dX12_isWord_79
  have L10 : ∀ (n10 : Nat) (v10_3 : Int64) (v10_5 : Int32) (f10_0_1 : Int32) (H : Heap) (locs : List Loc) (ls : Array Slot) (w10 : va_W), 0 ≤ v10_5.toInt → v10_5.toInt ≤ 400 → 0 ≤ f10_0_1.toInt → f10_0_1.toInt ≤ 400 → (400 - v10_5.toInt).toNat < n10 → Wd dC dI A s.heap H locs w10 → TW ksM ad cy B qr 12 w10 → FE ksM [(12, 14, 14)] w0 w10 → gi w10 0 1 = f10_0_1 → lv_has ls 6 [(0, .ref (ad 0)), (1, .long 1818846836), (3, .long v10_3), (5, .int v10_5)] → W p l e ({ frames := 2, cells := 0, slots := 0, locals := 33 }) s m (List.toArray [.ref (ad 0), .long 1818846836]) below meth c H locs 0 0 (MQ below (va_Qi (P_X12_isWord_4 ad cy B qr s1  w0) (fun u : va_W => wpost dC dI cy A u) A) (List.toArray [.ref (ad 0), .long 1818846836]) s 0 0 A) (F0 m 10 ls []) := by
    intro n10
    induction n10 with
    | zero => intro v10_3 v10_5 f10_0_1 H locs ls w10 r11 t12 r13 t14 hm10 hw hT hF c15 hl; omega
    | succ n10 ih10 =>
      intro v10_3 v10_5 f10_0_1 H locs ls w10 r11 t12 r13 t14 hm10 hw hT hF c15 hl
      have J50 : ∀ (v50_3 : Int64) (f50_0_14 : Int32) (H : Heap) (locs : List Loc) (ls : Array Slot) (w16 : va_W), 0 ≤ v10_5.toInt → v10_5.toInt ≤ 399 → 1 ≤ f10_0_1.toInt → f10_0_1.toInt ≤ 400 → 0 ≤ f50_0_14.toInt → f50_0_14.toInt ≤ 399 → Wd dC dI A s.heap H locs w16 → TW ksM ad cy B qr 12 w16 → FE ksM [(12, 14, 14)] w0 w16 → gi w16 0 1 = f10_0_1 → gi w16 0 14 = f50_0_14 → lv_has ls 6 [(0, .ref (ad 0)), (1, .long 1818846836), (3, .long v50_3), (5, .int v10_5)] → W p l e ({ frames := 2, cells := 0, slots := 0, locals := 33 }) s m (List.toArray [.ref (ad 0), .long 1818846836]) below meth c H locs 0 0 (MQ below (va_Qi (P_X12_isWord_4 ad cy B qr s1  w0) (fun u : va_W => wpost dC dI cy A u) A) (List.toArray [.ref (ad 0), .long 1818846836]) s 0 0 A) (F0 m 50 ls []) := by
        intro v50_3 f50_0_14 H locs ls w16 r17 t18 r19 t20 r22 t23 hw hT hF c21 c24 hl
        obtain ⟨x25, ex25⟩ : ∃ y : Int32, y = v10_5 + Int32.ofInt 1 := ⟨_, rfl⟩
        refine lv_iinc (v := x25) (lv' := [(5, .int x25), (0, .ref (ad 0)), (1, .long 1818846836), (3, .long v50_3)]) hx hb dX12_isWord_50 hl (k := 3) rfl ex25.symm (by decide) rfl (fun ls hl => ?_)
        have ex25 : x25.toInt = v10_5.toInt + 1 := by rw [ex25]; exact wk_add (y := 1) (show -2147483648 ≤ v10_5.toInt + 1 by omega) (show v10_5.toInt + 1 ≤ 2147483647 by omega)
        refine lv_goto (tgt := 10) hx hb dX12_isWord_53 (by decide) ?_
        exact ih10 v50_3 x25 f10_0_1 H locs ls w16 (show 0 ≤ x25.toInt by omega) (show x25.toInt ≤ 400 by omega) (show 0 ≤ f10_0_1.toInt by omega) (show f10_0_1.toInt ≤ 400 by omega) (show (400 - x25.toInt).toNat < n10 by omega) hw hT hF c21 (lv_sub hl [1, 2, 3, 0] rfl)
      refine lv_aload_n hx hb dX12_isWord_10 rfl (lv_at hl 0 rfl) ?_
      refine lv_aload_n hx hb dX12_isWord_11 rfl (lv_at hl 0 rfl) ?_
      refine tk_geti hC hK hw hT hinX12 kM_at0 (by decide) rfl 14 (by decide) (List.mem_of_getElem? (i := 1) rfl) rfl rfl dX12_isWord_12 (fun x26 c27 rx26 tx26 => ?_)
      refine lv_iload hx hb dX12_isWord_15 (lv_at hl 3 rfl) ?_
      refine lv_iadd hx hb dX12_isWord_17 ?_
      refine lv_topi (fun x28 ex28 => ?_)
      have ex28 : x28.toInt = x26.toInt + v10_5.toInt := by rw [ex28]; exact wk_add (show (-2147483648) ≤ x26.toInt + v10_5.toInt by omega) (show x26.toInt + v10_5.toInt ≤ 2147483647 by omega)
      refine tk_Vi hC hK hw hT hA hE hSR kM_at0 (by decide) rfl (k_X12_isLetter_1 l adK adV dC dI cy ad B (by omega) (by omega) qr s1   x28 (show 0 ≤ x28.toInt by omega) (show x28.toInt ≤ 800 by omega) w10 H.size hT ) (cwV 1 hC.2.2.2.2 gX12_isWord_X12_isLetter rfl rfl rfl (by decide +kernel) ⟨Nat.le_of_ble_eq_true rfl, Nat.le_of_ble_eq_true rfl⟩) rfl hl.1 rfl (Nat.le_of_ble_eq_true rfl) dX12_isWord_18 (fun r29 w31 H locs hp30 hw => ?_)
      obtain ⟨hT, k32, hg38⟩ := hp30
      have hF := hF.tr k32 (by decide)
      have c39 := k32.gi kM_at0 (by decide) c15
      have c40 := k32.gi kM_at0 (by decide) c27
      rcases hg38 with ⟨rfl, ⟨x33, c34, rx33, tx33⟩⟩ | ⟨rfl, g35, ⟨x36, c37, rx36, tx36⟩⟩
      · have ex33 : x33.toInt = f10_0_1.toInt := by rw [← c39.symm.trans c34]
        refine lv_if_eq (tgt := 56) hx hb dX12_isWord_21 (by decide) (fun _ => ?_) (fun c => absurd (by decide) c)
        refine lv_iload hx hb dX12_isWord_56 (lv_at hl 3 rfl) ?_
        refine lv_if_le (tgt := 78) hx hb dX12_isWord_58 (by decide) (fun c41 => ?_) (fun c41 => ?_)
        · have c41 : v10_5.toInt ≤ (0 : Int) := wk_le.mp c41
          exact J78 v10_3 v10_5 f10_0_1 x26 H locs ls w31 (show 0 ≤ v10_5.toInt by omega) (show v10_5.toInt ≤ 400 by omega) (show 0 ≤ f10_0_1.toInt by omega) (show f10_0_1.toInt ≤ 400 by omega) (show 0 ≤ x26.toInt by omega) (show x26.toInt ≤ 400 by omega)  hw hT hF c39 c40 (lv_sub hl [0, 1, 2, 3] rfl)
        · have c41 : (0 : Int) < v10_5.toInt := wk_leF c41
          refine lv_iload hx hb dX12_isWord_61 (lv_at hl 3 rfl) ?_
          refine lv_bipush (v := 8) hx hb dX12_isWord_63 (by decide) ?_
          refine lv_icmp_ge (tgt := 78) hx hb dX12_isWord_65 (by decide) (fun c42 => ?_) (fun c42 => ?_)
          · have c42 : (8 : Int) ≤ v10_5.toInt := wk_le.mp c42
            exact J78 v10_3 v10_5 f10_0_1 x26 H locs ls w31 (show 0 ≤ v10_5.toInt by omega) (show v10_5.toInt ≤ 400 by omega) (show 0 ≤ f10_0_1.toInt by omega) (show f10_0_1.toInt ≤ 400 by omega) (show 0 ≤ x26.toInt by omega) (show x26.toInt ≤ 400 by omega)  hw hT hF c39 c40 (lv_sub hl [0, 1, 2, 3] rfl)
          · have c42 : v10_5.toInt < (8 : Int) := wk_leF c42
            refine lv_lload_n hx hb dX12_isWord_68 rfl (lv_at hl 2 rfl) ?_
            refine lv_lload_n hx hb dX12_isWord_69 rfl (lv_at hl 1 rfl) ?_
            refine W.lcmp hx hb dX12_isWord_70 ?_
            refine lv_if_ne (tgt := 78) hx hb dX12_isWord_71 (by decide) (fun c43 => ?_) (fun c43 => ?_)
            · have c43 : ¬ v10_3.toInt = (1818846836 : Int) := wk_ceF c43
              exact J78 v10_3 v10_5 f10_0_1 x26 H locs ls w31 (show 0 ≤ v10_5.toInt by omega) (show v10_5.toInt ≤ 400 by omega) (show 0 ≤ f10_0_1.toInt by omega) (show f10_0_1.toInt ≤ 400 by omega) (show 0 ≤ x26.toInt by omega) (show x26.toInt ≤ 400 by omega)  hw hT hF c39 c40 (lv_sub hl [0, 1, 2, 3] rfl)
            · have c43 : v10_3.toInt = (1818846836 : Int) := wk_ceT c43
              refine lv_iconst (v := 1) hx hb dX12_isWord_74 (by decide) ?_
              refine lv_goto (tgt := 79) hx hb dX12_isWord_75 (by decide) ?_
              exact tk_zret hC hr rfl hlocks hK ⟨hT, hF, (Or.inr ⟨rfl, ⟨f10_0_1, c39, (show 0 ≤ f10_0_1.toInt by omega), (show f10_0_1.toInt ≤ 400 by omega)⟩⟩)⟩ hw dX12_isWord_79
      · have ex36 : x36.toInt = f10_0_1.toInt := by rw [← c39.symm.trans c37]
        refine lv_if_eq (tgt := 56) hx hb dX12_isWord_21 (by decide) (fun c => absurd c (by decide)) (fun _ => ?_)
        refine lv_iload hx hb dX12_isWord_24 (lv_at hl 3 rfl) ?_
        refine lv_bipush (v := 8) hx hb dX12_isWord_26 (by decide) ?_
        refine lv_icmp_ge (tgt := 50) hx hb dX12_isWord_28 (by decide) (fun c44 => ?_) (fun c44 => ?_)
        · have c44 : (8 : Int) ≤ v10_5.toInt := wk_le.mp c44
          exact J50 v10_3 x26 H locs ls w31 (show 0 ≤ v10_5.toInt by omega) (show v10_5.toInt ≤ 399 by omega) (show 1 ≤ f10_0_1.toInt by omega) (show f10_0_1.toInt ≤ 400 by omega) (show 0 ≤ x26.toInt by omega) (show x26.toInt ≤ 399 by omega)  hw hT hF c39 c40 (lv_sub hl [0, 1, 2, 3] rfl)
        · have c44 : v10_5.toInt < (8 : Int) := wk_leF c44
          refine lv_lload_n hx hb dX12_isWord_31 rfl (lv_at hl 2 rfl) ?_
          refine lv_bipush (v := 8) hx hb dX12_isWord_32 (by decide) ?_
          refine lv_lshl hx hb dX12_isWord_34 rfl ?_
          refine lv_topl (fun x45 ex45 => ?_)
          refine lv_aload_n hx hb dX12_isWord_35 rfl (lv_at hl 0 rfl) ?_
          refine tk_getA hC hK hw hT hinX12 kM_at0 (by decide) rfl 0 (by decide) (List.mem_of_getElem? (i := 2) rfl) rfl rfl dX12_isWord_36 ?_
          refine lv_aload_n hx hb dX12_isWord_39 rfl (lv_at hl 0 rfl) ?_
          refine tk_geti hC hK hw hT hinX12 kM_at0 (by decide) rfl 14 (by decide) (List.mem_of_getElem? (i := 1) rfl) rfl rfl dX12_isWord_40 (fun x46 c47 rx46 tx46 => ?_)
          refine wk_top x26 (c47.symm.trans c40) ?_
          refine lv_iload hx hb dX12_isWord_43 (lv_at hl 3 rfl) ?_
          refine lv_iadd hx hb dX12_isWord_45 ?_
          refine lv_topi (fun x48 ex48 => ?_)
          have ex48 : x48.toInt = x26.toInt + v10_5.toInt := by rw [ex48]; exact wk_add (show (-2147483648) ≤ x26.toInt + v10_5.toInt by omega) (show x26.toInt + v10_5.toInt ≤ 2147483647 by omega)
          refine tk_bald hC hK hw hT kM_at1 rfl rfl (show 0 ≤ x48.toInt by omega) (show x48.toInt < 400 by omega) dX12_isWord_46 (fun x49 c50 rx49 tx49 => ?_)
          refine lv_i2l hx hb dX12_isWord_47 rfl ?_
          refine lv_topl (fun x51 ex51 => ?_)
          have ex51 : x51.toInt = x49.toInt := by rw [ex51]; exact wk_i2l _
          have bx51 := wk_i32 x49
          refine lv_lor hx hb dX12_isWord_48 ?_
          refine lv_topl (fun x52 ex52 => ?_)
          refine lv_lstore_n (lv' := [(3, .long x52), (0, .ref (ad 0)), (1, .long 1818846836), (5, .int v10_5)]) hx hb dX12_isWord_49 rfl hl (by decide) rfl (fun ls hl => ?_)
          exact J50 x52 x26 H locs ls w31 (show 0 ≤ v10_5.toInt by omega) (show v10_5.toInt ≤ 399 by omega) (show 1 ≤ f10_0_1.toInt by omega) (show f10_0_1.toInt ≤ 400 by omega) (show 0 ≤ x26.toInt by omega) (show x26.toInt ≤ 399 by omega)  hw hT hF c39 c40 (lv_sub hl [1, 2, 0, 3] rfl)
  refine lv_aload_n hx hb dX12_isWord_0 rfl (lv_at hl 0 rfl) ?_
  refine tk_Vi hC hK hw hT hA hE hSR kM_at0 (by decide) rfl (k_X12_see_1 l adK adV dC dI cy ad B (by omega) (by omega) qr s1    w0 s.heap.size hT ) (cwV 0 hC.2.2.2.2 gX12_isWord_X12_see rfl rfl rfl (by decide +kernel) ⟨Nat.le_of_ble_eq_true rfl, Nat.le_of_ble_eq_true rfl⟩) rfl hl.1 rfl (Nat.le_of_ble_eq_true rfl) dX12_isWord_1 (fun r53 w55 H locs hp54 hw => ?_)
  obtain ⟨hT, k56, hg65⟩ := hp54
  have hF := hF.tr k56 (by decide)
  rcases hg65 with ⟨g57, g58, ⟨x59, c60, rx59, tx59⟩, ⟨x61, c62, rx61, tx61⟩⟩ | ⟨rfl, ⟨x63, c64, rx63, tx63⟩⟩
  · refine lv_pop hx hb dX12_isWord_4 rfl ?_
    refine lv_lconst (v := 0) hx hb dX12_isWord_5 (by decide) ?_
    refine lv_lstore_n (lv' := [(3, .long 0), (0, .ref (ad 0)), (1, .long 1818846836)]) hx hb dX12_isWord_6 rfl hl (by decide) rfl (fun ls hl => ?_)
    refine lv_iconst (v := 0) hx hb dX12_isWord_7 (by decide) ?_
    refine lv_istore (lv' := [(5, .int 0), (3, .long 0), (0, .ref (ad 0)), (1, .long 1818846836)]) hx hb dX12_isWord_8 hl (by decide) rfl (fun ls hl => ?_)
    exact L10 ((400 - (0 : Int)).toNat + 1) 0 0 x59 H locs ls w55 (by decide) (by decide) (show 0 ≤ x59.toInt by omega) (show x59.toInt ≤ 400 by omega) (Nat.lt_succ_self _) hw hT hF c60 (lv_sub hl [2, 3, 1, 0] rfl)
  · refine lv_pop hx hb dX12_isWord_4 rfl ?_
    refine lv_lconst (v := 0) hx hb dX12_isWord_5 (by decide) ?_
    refine lv_lstore_n (lv' := [(3, .long 0), (0, .ref (ad 0)), (1, .long 1818846836)]) hx hb dX12_isWord_6 rfl hl (by decide) rfl (fun ls hl => ?_)
    refine lv_iconst (v := 0) hx hb dX12_isWord_7 (by decide) ?_
    refine lv_istore (lv' := [(5, .int 0), (3, .long 0), (0, .ref (ad 0)), (1, .long 1818846836)]) hx hb dX12_isWord_8 hl (by decide) rfl (fun ls hl => ?_)
    exact L10 ((400 - (0 : Int)).toNat + 1) 0 0 x63 H locs ls w55 (by decide) (by decide) (show 0 ≤ x63.toInt by omega) (show x63.toInt ≤ 400 by omega) (Nat.lt_succ_self _) hw hT hF c64 (lv_sub hl [2, 3, 1, 0] rfl)
abbrev P_X12_clauseHere_1 (ad : Nat → Nat) (cy : Nat → ClassId) (B : Int) (qr : Nat) (s1 : Int)  (w0 : va_W) : Int32 → va_W → Prop := fun r u => TW ksM ad cy B qr 12 u ∧ FE ksM [(12, 7, 7), (12, 8, 8), (12, 9, 9), (12, 10, 10), (12, 14, 14), (12, 15, 15), (12, 16, 16), (12, 20, 20), (65, 0, 120), (66, 0, 16), (67, 0, 12)] w0 u ∧ ((r = 0 ∧ (∃ y : Int32, gi u 0 1 = y ∧ 1 ≤ y.toInt ∧ y.toInt ≤ 400) ∧ (∃ y : Int32, gi u 0 15 = y ∧ 1 ≤ y.toInt ∧ y.toInt ≤ 3205) ∧ (∃ y : Int32, gi u 0 17 = y ∧ 6 ≤ y.toInt ∧ y.toInt ≤ 6) ∧ (∃ y : Int32, gi u 0 20 = y ∧ 0 ≤ y.toInt ∧ y.toInt ≤ 32) ∧ ((gi w0 0 20).toInt ≤ (gi u 0 20).toInt)) ∨ (r = 0 ∧ (∃ y : Int32, gi u 0 1 = y ∧ 0 ≤ y.toInt ∧ y.toInt ≤ 400) ∧ (∃ y : Int32, gi u 0 15 = y ∧ 1 ≤ y.toInt ∧ y.toInt ≤ 3205) ∧ (∃ y : Int32, gi u 0 17 = y ∧ 6 ≤ y.toInt ∧ y.toInt ≤ 6) ∧ (∃ y : Int32, gi u 0 20 = y ∧ 0 ≤ y.toInt ∧ y.toInt ≤ 32) ∧ ((gi w0 0 20).toInt ≤ (gi u 0 20).toInt)) ∨ (r = 1 ∧ (∃ y : Int32, gi u 0 1 = y ∧ 1 ≤ y.toInt ∧ y.toInt ≤ 400) ∧ (∃ y : Int32, gi u 0 7 = y ∧ 1 ≤ y.toInt ∧ y.toInt ≤ 10) ∧ (∃ y : Int32, gi u 0 16 = y ∧ 0 ≤ y.toInt ∧ y.toInt ≤ 359) ∧ (∃ y : Int32, gi u 0 17 = y ∧ 6 ≤ y.toInt ∧ y.toInt ≤ 6) ∧ (∃ y : Int32, gi u 0 20 = y ∧ 1 ≤ y.toInt ∧ y.toInt ≤ 32) ∧ ((gi u 0 20).toInt = (gi w0 0 20).toInt + 1)))
set_option maxHeartbeats 4000000 in
set_option maxRecDepth 100000 in
theorem k_X12_clauseHere_1 (l : Launch) (adK adV : Nat → Nat) (dC : Nat → ClassId) (dI : Nat → Nat → Nat) (cy : Nat → ClassId) (ad : Nat → Nat) (B : Int) (hB0 : 100000 ≤ B) (hB1 : B ≤ 1073741824) (qr : Nat) (s1 : Int)   (w0 : va_W) (sz : Nat) (hT : TW ksM ad cy B qr 12 w0) (cf0_ : gi w0 0 17 = 6) (f1_ : Int32) (cf1_ : gi w0 0 20 = f1_) (rf1_ : 0 ≤ f1_.toInt) (tf1_ : f1_.toInt ≤ 32) : Met l yX12_clauseHere wsX12_clauseHere ({ frames := 5, cells := 0, slots := 0, locals := 105 }) (va_Pc [.ref (ad 0)] (wpreS adK adV dC dI cy sz w0)) (va_Qi (P_X12_clauseHere_1 ad cy B qr s1  w0) (fun u : va_W => wpost dC dI cy (va_A w0 sz) u) (va_A w0 sz)) 0 0 (va_A w0 sz) := by
  refine Met.ofW (cc := cX12_clauseHere) (maxL := 4) (ret := (some .boolean)) (by decide) rfl ?_
  intro p e s m args below meth c s₁ Bk hml hv
  obtain ⟨rfl, ⟨hsz, hP, hK, hD0⟩, hE, hSR⟩ := hv
  have hx := Bk.exec
  have hb := Bk.bytes
  have hr := Bk.returns
  have hlocks := Bk.notSynchronized
  have hC : CallFix p m c cX12_clauseHere 4 s _ wsX12_clauseHere RX12 := ⟨hx, hb, hml, findClass_of_methodNamed Bk.named, atoms_spec (ws := wsX12_clauseHere) Bk.pre⟩
  subst hsz
  have hD := hD0.self (sz := s.heap.size)
  generalize hAe : va_A w0 s.heap.size = A at hD hE ⊢
  have hA : ∀ q : Nat, s.heap.size ≤ q → A q := fun q h => by rw [← hAe]; exact Or.inr h
  have hw : Wd dC dI A s.heap s.heap [] w0 := ⟨hP, hD, va_S.rf⟩
  have hF : FE ksM [(12, 7, 7), (12, 8, 8), (12, 9, 9), (12, 10, 10), (12, 14, 14), (12, 15, 15), (12, 16, 16), (12, 20, 20), (65, 0, 120), (66, 0, 16), (67, 0, 12)] w0 w0 := FE.rf
  have hl := lv_entry ([.ref (ad 0)]) (n := 4) (Nat.le_of_ble_eq_true rfl)
  rw [lg_entry_eq]
  generalize (lg_sl ([.ref (ad 0)]) ++ List.replicate (4 - (lg_sl ([.ref (ad 0)])).length) Slot.unset).toArray = ls at hl ⊢
  have hl : lv_has ls 4 [(0, .ref (ad 0))] := hl
  generalize hloc : ([] : List Loc) = locs at hw ⊢
  have hinX12 : ∀ w ∈ u_ws RX12 TX12 42, w ∈ wsX12_clauseHere := fun _ h => List.mem_cons_of_mem _ (List.mem_append_right _ (h))
  have J69 : ∀ (v69_1 : Int32) (f69_0_1 : Int32) (H : Heap) (locs : List Loc) (ls : Array Slot) (w1 : va_W), 0 ≤ v69_1.toInt → v69_1.toInt ≤ 400 → 0 ≤ f69_0_1.toInt → f69_0_1.toInt ≤ 400 → 0 ≤ f1_.toInt → f1_.toInt ≤ 32 → f1_.toInt = f1_.toInt → Wd dC dI A s.heap H locs w1 → TW ksM ad cy B qr 12 w1 → FE ksM [(12, 7, 7), (12, 8, 8), (12, 9, 9), (12, 10, 10), (12, 14, 14), (12, 15, 15), (12, 16, 16), (12, 20, 20), (65, 0, 120), (66, 0, 16), (67, 0, 12)] w0 w1 → gi w1 0 1 = f69_0_1 → gi w1 0 17 = 6 → gi w1 0 20 = f1_ → lv_has ls 4 [(0, .ref (ad 0)), (1, .int v69_1), (2, .int 1)] → W p l e ({ frames := 5, cells := 0, slots := 0, locals := 105 }) s m (List.toArray [.ref (ad 0)]) below meth c H locs 0 0 (MQ below (va_Qi (P_X12_clauseHere_1 ad cy B qr s1  w0) (fun u : va_W => wpost dC dI cy A u) A) (List.toArray [.ref (ad 0)]) s 0 0 A) (F0 m 69 ls []) := by
    intro v69_1 f69_0_1 H locs ls w1 r2 t3 r4 t5 r8 t9 g11 hw hT hF c6 c7 c10 hl
    refine lv_iconst (v := 1) hx hb dX12_clauseHere_69 (by decide) ?_
    refine lv_goto (tgt := 89) hx hb dX12_clauseHere_70 (by decide) ?_
    refine lv_istore_n (lv' := [(3, .int 1), (0, .ref (ad 0)), (1, .int v69_1), (2, .int 1)]) hx hb dX12_clauseHere_89 rfl hl (by decide) rfl (fun ls hl => ?_)
    refine lv_iload_n hx hb dX12_clauseHere_90 rfl (lv_at hl 0 rfl) ?_
    refine lv_if_ne (tgt := 101) hx hb dX12_clauseHere_91 (by decide) (fun _ => ?_) (fun c => absurd c (by decide))
    refine lv_aload_n hx hb dX12_clauseHere_101 rfl (lv_at hl 1 rfl) ?_
    refine tk_geti hC hK hw hT hinX12 kM_at0 (by decide) rfl 20 (by decide) (List.mem_of_getElem? (i := 7) rfl) rfl rfl dX12_clauseHere_102 (fun x12 c13 rx12 tx12 => ?_)
    refine wk_top f1_ (c13.symm.trans c10) ?_
    refine lv_iload_n hx hb dX12_clauseHere_105 rfl (lv_at hl 3 rfl) ?_
    refine lv_if_eq (tgt := 114) hx hb dX12_clauseHere_106 (by decide) (fun c => absurd c (by decide)) (fun _ => ?_)
    refine lv_bipush (v := 32) hx hb dX12_clauseHere_109 (by decide) ?_
    refine lv_goto (tgt := 116) hx hb dX12_clauseHere_111 (by decide) ?_
    refine lv_icmp_ne (tgt := 126) hx hb dX12_clauseHere_116 (by decide) (fun c14 => ?_) (fun c14 => ?_)
    · have c14 : ¬ f1_.toInt = (32 : Int) := wk_eqF c14
      refine lv_aload_n hx hb dX12_clauseHere_126 rfl (lv_at hl 1 rfl) ?_
      refine lv_dup hx hb dX12_clauseHere_127 rfl ?_
      refine tk_geti hC hK hw hT hinX12 kM_at0 (by decide) rfl 20 (by decide) (List.mem_of_getElem? (i := 7) rfl) rfl rfl dX12_clauseHere_128 (fun x15 c16 rx15 tx15 => ?_)
      refine wk_top f1_ (c16.symm.trans c10) ?_
      refine lv_iconst (v := 1) hx hb dX12_clauseHere_131 (by decide) ?_
      refine lv_iadd hx hb dX12_clauseHere_132 ?_
      refine lv_topi (fun x17 ex17 => ?_)
      have ex17 : x17.toInt = f1_.toInt + (1 : Int) := by rw [ex17]; exact wk_add (show (-2147483648) ≤ f1_.toInt + (1 : Int) by omega) (show f1_.toInt + (1 : Int) ≤ 2147483647 by omega)
      refine tk_puti hC hK hw hT hinX12 tyX12_ok nmX12 kM_at0 (by decide) rfl rfl 20 (by decide) (List.mem_of_getElem? (i := 7) rfl) rfl rfl rfl rfl (show 0 ≤ x17.toInt by omega) (show x17.toInt ≤ 32 by omega) dX12_clauseHere_133 (fun H locs w18 hw hT k20 c19 => ?_)
      have hF := hF.put kM_at0 (k := 20) (by decide) k20
      have c21 := k20.gi (Or.inr (by decide)) c6
      have c22 := k20.gi (Or.inr (by decide)) c7
      refine lv_iload_n hx hb dX12_clauseHere_136 rfl (lv_at hl 3 rfl) ?_
      refine lv_if_eq (tgt := 148) hx hb dX12_clauseHere_137 (by decide) (fun c => absurd c (by decide)) (fun _ => ?_)
      refine lv_aload_n hx hb dX12_clauseHere_140 rfl (lv_at hl 1 rfl) ?_
      refine lv_iload_n hx hb dX12_clauseHere_141 rfl (lv_at hl 2 rfl) ?_
      refine tk_Vi hC hK hw hT hA hE hSR kM_at0 (by decide) rfl (k_X12_townLineHere_1 l adK adV dC dI cy ad B (by omega) (by omega) qr s1   v69_1 (show 0 ≤ v69_1.toInt by omega) (show v69_1.toInt ≤ 400 by omega) w18 H.size hT ) (cwV 1 hC.2.2.2.2 gX12_clauseHere_X12_townLineHere rfl rfl rfl (by decide +kernel) ⟨Nat.le_of_ble_eq_true rfl, Nat.le_of_ble_eq_true rfl⟩) rfl hl.1 rfl (Nat.le_of_ble_eq_true rfl) dX12_clauseHere_142 (fun r23 w25 H locs hp24 hw => ?_)
      obtain ⟨hT, k26, hg45⟩ := hp24
      have hF := hF.tr k26 (by decide)
      have c46 := k26.gi kM_at0 (by decide) c21
      have c47 := k26.gi kM_at0 (by decide) c22
      have c48 := k26.gi kM_at0 (by decide) c19
      rcases hg45 with ⟨rfl, ⟨x27, c28, rx27, tx27⟩, ⟨x29, c30, rx29, tx29⟩, ⟨x31, c32, rx31, tx31⟩⟩ | ⟨rfl, ⟨x33, c34, rx33, tx33⟩, ⟨x35, c36, rx35, tx35⟩, ⟨x37, c38, rx37, tx37⟩⟩ | ⟨rfl, ⟨x39, c40, rx39, tx39⟩, ⟨x41, c42, rx41, tx41⟩, ⟨x43, c44, rx43, tx43⟩⟩
      · have ex27 : x27.toInt = f69_0_1.toInt := by rw [← c46.symm.trans c28]
        refine lv_goto (tgt := 156) hx hb dX12_clauseHere_145 (by decide) ?_
        exact tk_zret hC hr rfl hlocks hK ⟨hT, hF, (Or.inl ⟨rfl, ⟨f69_0_1, c46, (show 1 ≤ f69_0_1.toInt by omega), (show f69_0_1.toInt ≤ 400 by omega)⟩, ⟨x31, c32, (show 1 ≤ x31.toInt by omega), (show x31.toInt ≤ 3205 by omega)⟩, ⟨6, c47, (by decide), (by decide)⟩, ⟨x17, c48, (show 0 ≤ x17.toInt by omega), (show x17.toInt ≤ 32 by omega)⟩, (by simp only [cf1_, c48]; omega)⟩)⟩ hw dX12_clauseHere_156
      · have ex33 : x33.toInt = f69_0_1.toInt := by rw [← c46.symm.trans c34]
        refine lv_goto (tgt := 156) hx hb dX12_clauseHere_145 (by decide) ?_
        exact tk_zret hC hr rfl hlocks hK ⟨hT, hF, (Or.inr (Or.inl ⟨rfl, ⟨f69_0_1, c46, (show 0 ≤ f69_0_1.toInt by omega), (show f69_0_1.toInt ≤ 400 by omega)⟩, ⟨x37, c38, (show 1 ≤ x37.toInt by omega), (show x37.toInt ≤ 3205 by omega)⟩, ⟨6, c47, (by decide), (by decide)⟩, ⟨x17, c48, (show 0 ≤ x17.toInt by omega), (show x17.toInt ≤ 32 by omega)⟩, (by simp only [cf1_, c48]; omega)⟩))⟩ hw dX12_clauseHere_156
      · have ex39 : x39.toInt = f69_0_1.toInt := by rw [← c46.symm.trans c40]
        refine lv_goto (tgt := 156) hx hb dX12_clauseHere_145 (by decide) ?_
        exact tk_zret hC hr rfl hlocks hK ⟨hT, hF, (Or.inr (Or.inr ⟨rfl, ⟨f69_0_1, c46, (show 1 ≤ f69_0_1.toInt by omega), (show f69_0_1.toInt ≤ 400 by omega)⟩, ⟨x41, c42, (show 1 ≤ x41.toInt by omega), (show x41.toInt ≤ 10 by omega)⟩, ⟨x43, c44, (show 0 ≤ x43.toInt by omega), (show x43.toInt ≤ 359 by omega)⟩, ⟨6, c47, (by decide), (by decide)⟩, ⟨x17, c48, (show 1 ≤ x17.toInt by omega), (show x17.toInt ≤ 32 by omega)⟩, (by simp only [cf1_, c48]; omega)⟩))⟩ hw dX12_clauseHere_156
    · have c14 : f1_.toInt = (32 : Int) := wk_eq.mp c14
      refine lv_aload_n hx hb dX12_clauseHere_119 rfl (lv_at hl 1 rfl) ?_
      refine lv_iconst (v := 4) hx hb dX12_clauseHere_120 (by decide) ?_
      refine lv_iload_n hx hb dX12_clauseHere_121 rfl (lv_at hl 2 rfl) ?_
      refine tk_Vi hC hK hw hT hA hE hSR kM_at0 (by decide) rfl (k_X12_fails_1 l adK adV dC dI cy ad B (by omega) (by omega) qr s1   4 (by decide) (by decide) v69_1 (show 0 ≤ v69_1.toInt by omega) (show v69_1.toInt ≤ 400 by omega) w1 H.size hT ) (cwV 2 hC.2.2.2.2 gX12_clauseHere_X12_fails rfl rfl rfl (by decide +kernel) ⟨Nat.le_of_ble_eq_true rfl, Nat.le_of_ble_eq_true rfl⟩) rfl hl.1 rfl (Nat.le_of_ble_eq_true rfl) dX12_clauseHere_122 (fun r49 w51 H locs hp50 hw => ?_)
      obtain ⟨hT, k52, hg55⟩ := hp50
      have hF := hF.tr k52 (by decide)
      have c56 := k52.gi kM_at0 (by decide) c6
      have c57 := k52.gi kM_at0 (by decide) c7
      have c58 := k52.gi kM_at0 (by decide) c10
      obtain ⟨rfl, ⟨x53, c54, rx53, tx53⟩⟩ := hg55
      exact tk_zret hC hr rfl hlocks hK ⟨hT, hF, (Or.inr (Or.inl ⟨rfl, ⟨f69_0_1, c56, (show 0 ≤ f69_0_1.toInt by omega), (show f69_0_1.toInt ≤ 400 by omega)⟩, ⟨x53, c54, (show 1 ≤ x53.toInt by omega), (show x53.toInt ≤ 3205 by omega)⟩, ⟨6, c57, (by decide), (by decide)⟩, ⟨f1_, c58, (show 0 ≤ f1_.toInt by omega), (show f1_.toInt ≤ 32 by omega)⟩, (by simp only [cf1_, c58]; omega)⟩))⟩ hw dX12_clauseHere_125
  refine lv_aload_n hx hb dX12_clauseHere_0 rfl (lv_at hl 0 rfl) ?_
  refine tk_Vi hC hK hw hT hA hE hSR kM_at0 (by decide) rfl (k_X12_see_1 l adK adV dC dI cy ad B (by omega) (by omega) qr s1    w0 s.heap.size hT ) (cwV 0 hC.2.2.2.2 gX12_clauseHere_X12_see rfl rfl rfl (by decide +kernel) ⟨Nat.le_of_ble_eq_true rfl, Nat.le_of_ble_eq_true rfl⟩) rfl hl.1 rfl (Nat.le_of_ble_eq_true rfl) dX12_clauseHere_1 (fun r59 w61 H locs hp60 hw => ?_)
  obtain ⟨hT, k62, hg71⟩ := hp60
  have hF := hF.tr k62 (by decide)
  have c72 := k62.gi kM_at0 (by decide) cf0_
  have c73 := k62.gi kM_at0 (by decide) cf1_
  rcases hg71 with ⟨g63, g64, ⟨x65, c66, rx65, tx65⟩, ⟨x67, c68, rx67, tx67⟩⟩ | ⟨rfl, ⟨x69, c70, rx69, tx69⟩⟩
  · refine lv_pop hx hb dX12_clauseHere_4 rfl ?_
    refine lv_aload_n hx hb dX12_clauseHere_5 rfl (lv_at hl 0 rfl) ?_
    refine tk_geti hC hK hw hT hinX12 kM_at0 (by decide) rfl 14 (by decide) (List.mem_of_getElem? (i := 1) rfl) rfl rfl dX12_clauseHere_6 (fun x74 c75 rx74 tx74 => ?_)
    refine wk_top x67 (c75.symm.trans c68) ?_
    refine lv_istore_n (lv' := [(1, .int x67), (0, .ref (ad 0))]) hx hb dX12_clauseHere_9 rfl hl (by decide) rfl (fun ls hl => ?_)
    refine lv_aload_n hx hb dX12_clauseHere_10 rfl (lv_at hl 1 rfl) ?_
    refine tk_geti hC hK hw hT hinX12 kM_at0 (by decide) rfl 17 (by decide) (List.mem_of_getElem? (i := 2) rfl) rfl rfl dX12_clauseHere_11 (fun x76 c77 rx76 tx76 => ?_)
    refine wk_top 6 (c77.symm.trans c72) ?_
    refine lv_bipush (v := 6) hx hb dX12_clauseHere_14 (by decide) ?_
    refine lv_icmp_ne (tgt := 23) hx hb dX12_clauseHere_16 (by decide) (fun c => absurd (by decide) c) (fun _ => ?_)
    refine lv_iconst (v := 1) hx hb dX12_clauseHere_19 (by decide) ?_
    refine lv_goto (tgt := 24) hx hb dX12_clauseHere_20 (by decide) ?_
    refine lv_istore_n (lv' := [(2, .int 1), (1, .int x67), (0, .ref (ad 0))]) hx hb dX12_clauseHere_24 rfl hl (by decide) rfl (fun ls hl => ?_)
    refine lv_iload_n hx hb dX12_clauseHere_25 rfl (lv_at hl 0 rfl) ?_
    refine lv_if_eq (tgt := 77) hx hb dX12_clauseHere_26 (by decide) (fun c => absurd c (by decide)) (fun _ => ?_)
    refine lv_aload_n hx hb dX12_clauseHere_29 rfl (lv_at hl 2 rfl) ?_
    refine lv_ldc2 (v := 27988559963452019) hx hb hC.2.2.2.1 (hC.2.2.2.2 _ (List.mem_of_getElem? (i := 3) rfl)) dX12_clauseHere_30 ?_
    refine tk_Vi hC hK hw hT hA hE hSR kM_at0 (by decide) rfl (k_X12_isWord_1 l adK adV dC dI cy ad B (by omega) (by omega) qr s1    w61 H.size hT ) (cwV 1 hC.2.2.2.2 gX12_clauseHere_X12_isWord rfl rfl rfl (by decide +kernel) ⟨Nat.le_of_ble_eq_true rfl, Nat.le_of_ble_eq_true rfl⟩) rfl hl.1 rfl (Nat.le_of_ble_eq_true rfl) dX12_clauseHere_33 (fun r78 w80 H locs hp79 hw => ?_)
    obtain ⟨hT, k81, hg86⟩ := hp79
    have hF := hF.tr k81 (by decide)
    have c87 := k81.gi kM_at0 (by decide) c72
    have c88 := k81.gi kM_at0 (by decide) c73
    have c89 := k81.gi kM_at0 (by decide) c66
    rcases hg86 with ⟨rfl, ⟨x82, c83, rx82, tx82⟩⟩ | ⟨rfl, ⟨x84, c85, rx84, tx84⟩⟩
    · have ex82 : x82.toInt = x65.toInt := by rw [← c89.symm.trans c83]
      refine lv_if_ne (tgt := 69) hx hb dX12_clauseHere_36 (by decide) (fun c => absurd (by decide) c) (fun _ => ?_)
      refine lv_aload_n hx hb dX12_clauseHere_39 rfl (lv_at hl 2 rfl) ?_
      refine lv_ldc2 (v := 126943972648308) hx hb hC.2.2.2.1 (hC.2.2.2.2 _ (List.mem_of_getElem? (i := 4) rfl)) dX12_clauseHere_40 ?_
      refine tk_Vi hC hK hw hT hA hE hSR kM_at0 (by decide) rfl (k_X12_isWord_2 l adK adV dC dI cy ad B (by omega) (by omega) qr s1    w80 H.size hT ) (cwV 1 hC.2.2.2.2 gX12_clauseHere_X12_isWord rfl rfl rfl (by decide +kernel) ⟨Nat.le_of_ble_eq_true rfl, Nat.le_of_ble_eq_true rfl⟩) rfl hl.1 rfl (Nat.le_of_ble_eq_true rfl) dX12_clauseHere_43 (fun r90 w92 H locs hp91 hw => ?_)
      obtain ⟨hT, k93, hg98⟩ := hp91
      have hF := hF.tr k93 (by decide)
      have c99 := k93.gi kM_at0 (by decide) c87
      have c100 := k93.gi kM_at0 (by decide) c88
      have c101 := k93.gi kM_at0 (by decide) c89
      rcases hg98 with ⟨rfl, ⟨x94, c95, rx94, tx94⟩⟩ | ⟨rfl, ⟨x96, c97, rx96, tx96⟩⟩
      · have ex94 : x94.toInt = x65.toInt := by rw [← c101.symm.trans c95]
        refine lv_if_ne (tgt := 69) hx hb dX12_clauseHere_46 (by decide) (fun c => absurd (by decide) c) (fun _ => ?_)
        refine lv_aload_n hx hb dX12_clauseHere_49 rfl (lv_at hl 2 rfl) ?_
        refine lv_ldc2 (v := 495555538548) hx hb hC.2.2.2.1 (hC.2.2.2.2 _ (List.mem_of_getElem? (i := 5) rfl)) dX12_clauseHere_50 ?_
        refine tk_Vi hC hK hw hT hA hE hSR kM_at0 (by decide) rfl (k_X12_isWord_3 l adK adV dC dI cy ad B (by omega) (by omega) qr s1    w92 H.size hT ) (cwV 1 hC.2.2.2.2 gX12_clauseHere_X12_isWord rfl rfl rfl (by decide +kernel) ⟨Nat.le_of_ble_eq_true rfl, Nat.le_of_ble_eq_true rfl⟩) rfl hl.1 rfl (Nat.le_of_ble_eq_true rfl) dX12_clauseHere_53 (fun r102 w104 H locs hp103 hw => ?_)
        obtain ⟨hT, k105, hg110⟩ := hp103
        have hF := hF.tr k105 (by decide)
        have c111 := k105.gi kM_at0 (by decide) c99
        have c112 := k105.gi kM_at0 (by decide) c100
        have c113 := k105.gi kM_at0 (by decide) c101
        rcases hg110 with ⟨rfl, ⟨x106, c107, rx106, tx106⟩⟩ | ⟨rfl, ⟨x108, c109, rx108, tx108⟩⟩
        · have ex106 : x106.toInt = x65.toInt := by rw [← c113.symm.trans c107]
          refine lv_if_ne (tgt := 69) hx hb dX12_clauseHere_56 (by decide) (fun c => absurd (by decide) c) (fun _ => ?_)
          refine lv_aload_n hx hb dX12_clauseHere_59 rfl (lv_at hl 2 rfl) ?_
          refine lv_ldc2 (v := 1818846836) hx hb hC.2.2.2.1 (hC.2.2.2.2 _ (List.mem_of_getElem? (i := 6) rfl)) dX12_clauseHere_60 ?_
          refine tk_Vi hC hK hw hT hA hE hSR kM_at0 (by decide) rfl (k_X12_isWord_4 l adK adV dC dI cy ad B (by omega) (by omega) qr s1    w104 H.size hT ) (cwV 1 hC.2.2.2.2 gX12_clauseHere_X12_isWord rfl rfl rfl (by decide +kernel) ⟨Nat.le_of_ble_eq_true rfl, Nat.le_of_ble_eq_true rfl⟩) rfl hl.1 rfl (Nat.le_of_ble_eq_true rfl) dX12_clauseHere_63 (fun r114 w116 H locs hp115 hw => ?_)
          obtain ⟨hT, k117, hg122⟩ := hp115
          have hF := hF.tr k117 (by decide)
          have c123 := k117.gi kM_at0 (by decide) c111
          have c124 := k117.gi kM_at0 (by decide) c112
          have c125 := k117.gi kM_at0 (by decide) c113
          rcases hg122 with ⟨rfl, ⟨x118, c119, rx118, tx118⟩⟩ | ⟨rfl, ⟨x120, c121, rx120, tx120⟩⟩
          · have ex118 : x118.toInt = x65.toInt := by rw [← c125.symm.trans c119]
            refine lv_if_eq (tgt := 73) hx hb dX12_clauseHere_66 (by decide) (fun _ => ?_) (fun c => absurd (by decide) c)
            refine lv_iconst (v := 0) hx hb dX12_clauseHere_73 (by decide) ?_
            refine lv_goto (tgt := 89) hx hb dX12_clauseHere_74 (by decide) ?_
            refine lv_istore_n (lv' := [(3, .int 0), (2, .int 1), (1, .int x67), (0, .ref (ad 0))]) hx hb dX12_clauseHere_89 rfl hl (by decide) rfl (fun ls hl => ?_)
            refine lv_iload_n hx hb dX12_clauseHere_90 rfl (lv_at hl 0 rfl) ?_
            refine lv_if_ne (tgt := 101) hx hb dX12_clauseHere_91 (by decide) (fun c => absurd (by decide) c) (fun _ => ?_)
            refine lv_aload_n hx hb dX12_clauseHere_94 rfl (lv_at hl 3 rfl) ?_
            refine lv_iconst (v := 0) hx hb dX12_clauseHere_95 (by decide) ?_
            refine lv_iload_n hx hb dX12_clauseHere_96 rfl (lv_at hl 2 rfl) ?_
            refine tk_Vi hC hK hw hT hA hE hSR kM_at0 (by decide) rfl (k_X12_fails_1 l adK adV dC dI cy ad B (by omega) (by omega) qr s1   0 (by decide) (by decide) x67 (show 0 ≤ x67.toInt by omega) (show x67.toInt ≤ 400 by omega) w116 H.size hT ) (cwV 2 hC.2.2.2.2 gX12_clauseHere_X12_fails rfl rfl rfl (by decide +kernel) ⟨Nat.le_of_ble_eq_true rfl, Nat.le_of_ble_eq_true rfl⟩) rfl hl.1 rfl (Nat.le_of_ble_eq_true rfl) dX12_clauseHere_97 (fun r126 w128 H locs hp127 hw => ?_)
            obtain ⟨hT, k129, hg132⟩ := hp127
            have hF := hF.tr k129 (by decide)
            have c133 := k129.gi kM_at0 (by decide) c123
            have c134 := k129.gi kM_at0 (by decide) c124
            have c135 := k129.gi kM_at0 (by decide) c125
            obtain ⟨rfl, ⟨x130, c131, rx130, tx130⟩⟩ := hg132
            exact tk_zret hC hr rfl hlocks hK ⟨hT, hF, (Or.inl ⟨rfl, ⟨x65, c135, (show 1 ≤ x65.toInt by omega), (show x65.toInt ≤ 400 by omega)⟩, ⟨x130, c131, (show 1 ≤ x130.toInt by omega), (show x130.toInt ≤ 3205 by omega)⟩, ⟨6, c133, (by decide), (by decide)⟩, ⟨f1_, c134, (show 0 ≤ f1_.toInt by omega), (show f1_.toInt ≤ 32 by omega)⟩, (by simp only [cf1_, c134]; omega)⟩)⟩ hw dX12_clauseHere_100
          · have ex120 : x120.toInt = x65.toInt := by rw [← c125.symm.trans c121]
            refine lv_if_eq (tgt := 73) hx hb dX12_clauseHere_66 (by decide) (fun c => absurd c (by decide)) (fun _ => ?_)
            exact J69 x67 x65 H locs ls w116 (show 0 ≤ x67.toInt by omega) (show x67.toInt ≤ 400 by omega) (show 0 ≤ x65.toInt by omega) (show x65.toInt ≤ 400 by omega) (show 0 ≤ f1_.toInt by omega) (show f1_.toInt ≤ 32 by omega) (show f1_.toInt = f1_.toInt by omega)  hw hT hF c125 c123 c124 (lv_sub hl [2, 1, 0] rfl)
        · have ex108 : x108.toInt = x65.toInt := by rw [← c113.symm.trans c109]
          refine lv_if_ne (tgt := 69) hx hb dX12_clauseHere_56 (by decide) (fun _ => ?_) (fun c => absurd c (by decide))
          exact J69 x67 x65 H locs ls w104 (show 0 ≤ x67.toInt by omega) (show x67.toInt ≤ 400 by omega) (show 0 ≤ x65.toInt by omega) (show x65.toInt ≤ 400 by omega) (show 0 ≤ f1_.toInt by omega) (show f1_.toInt ≤ 32 by omega) (show f1_.toInt = f1_.toInt by omega)  hw hT hF c113 c111 c112 (lv_sub hl [2, 1, 0] rfl)
      · have ex96 : x96.toInt = x65.toInt := by rw [← c101.symm.trans c97]
        refine lv_if_ne (tgt := 69) hx hb dX12_clauseHere_46 (by decide) (fun _ => ?_) (fun c => absurd c (by decide))
        exact J69 x67 x65 H locs ls w92 (show 0 ≤ x67.toInt by omega) (show x67.toInt ≤ 400 by omega) (show 0 ≤ x65.toInt by omega) (show x65.toInt ≤ 400 by omega) (show 0 ≤ f1_.toInt by omega) (show f1_.toInt ≤ 32 by omega) (show f1_.toInt = f1_.toInt by omega)  hw hT hF c101 c99 c100 (lv_sub hl [2, 1, 0] rfl)
    · have ex84 : x84.toInt = x65.toInt := by rw [← c89.symm.trans c85]
      refine lv_if_ne (tgt := 69) hx hb dX12_clauseHere_36 (by decide) (fun _ => ?_) (fun c => absurd c (by decide))
      exact J69 x67 x65 H locs ls w80 (show 0 ≤ x67.toInt by omega) (show x67.toInt ≤ 400 by omega) (show 0 ≤ x65.toInt by omega) (show x65.toInt ≤ 400 by omega) (show 0 ≤ f1_.toInt by omega) (show f1_.toInt ≤ 32 by omega) (show f1_.toInt = f1_.toInt by omega)  hw hT hF c89 c87 c88 (lv_sub hl [2, 1, 0] rfl)
  · refine lv_pop hx hb dX12_clauseHere_4 rfl ?_
    refine lv_aload_n hx hb dX12_clauseHere_5 rfl (lv_at hl 0 rfl) ?_
    refine tk_geti hC hK hw hT hinX12 kM_at0 (by decide) rfl 14 (by decide) (List.mem_of_getElem? (i := 1) rfl) rfl rfl dX12_clauseHere_6 (fun x136 c137 rx136 tx136 => ?_)
    refine lv_istore_n (lv' := [(1, .int x136), (0, .ref (ad 0))]) hx hb dX12_clauseHere_9 rfl hl (by decide) rfl (fun ls hl => ?_)
    refine lv_aload_n hx hb dX12_clauseHere_10 rfl (lv_at hl 1 rfl) ?_
    refine tk_geti hC hK hw hT hinX12 kM_at0 (by decide) rfl 17 (by decide) (List.mem_of_getElem? (i := 2) rfl) rfl rfl dX12_clauseHere_11 (fun x138 c139 rx138 tx138 => ?_)
    refine wk_top 6 (c139.symm.trans c72) ?_
    refine lv_bipush (v := 6) hx hb dX12_clauseHere_14 (by decide) ?_
    refine lv_icmp_ne (tgt := 23) hx hb dX12_clauseHere_16 (by decide) (fun c => absurd (by decide) c) (fun _ => ?_)
    refine lv_iconst (v := 1) hx hb dX12_clauseHere_19 (by decide) ?_
    refine lv_goto (tgt := 24) hx hb dX12_clauseHere_20 (by decide) ?_
    refine lv_istore_n (lv' := [(2, .int 1), (1, .int x136), (0, .ref (ad 0))]) hx hb dX12_clauseHere_24 rfl hl (by decide) rfl (fun ls hl => ?_)
    refine lv_iload_n hx hb dX12_clauseHere_25 rfl (lv_at hl 0 rfl) ?_
    refine lv_if_eq (tgt := 77) hx hb dX12_clauseHere_26 (by decide) (fun c => absurd c (by decide)) (fun _ => ?_)
    refine lv_aload_n hx hb dX12_clauseHere_29 rfl (lv_at hl 2 rfl) ?_
    refine lv_ldc2 (v := 27988559963452019) hx hb hC.2.2.2.1 (hC.2.2.2.2 _ (List.mem_of_getElem? (i := 3) rfl)) dX12_clauseHere_30 ?_
    refine tk_Vi hC hK hw hT hA hE hSR kM_at0 (by decide) rfl (k_X12_isWord_1 l adK adV dC dI cy ad B (by omega) (by omega) qr s1    w61 H.size hT ) (cwV 1 hC.2.2.2.2 gX12_clauseHere_X12_isWord rfl rfl rfl (by decide +kernel) ⟨Nat.le_of_ble_eq_true rfl, Nat.le_of_ble_eq_true rfl⟩) rfl hl.1 rfl (Nat.le_of_ble_eq_true rfl) dX12_clauseHere_33 (fun r140 w142 H locs hp141 hw => ?_)
    obtain ⟨hT, k143, hg148⟩ := hp141
    have hF := hF.tr k143 (by decide)
    have c149 := k143.gi kM_at0 (by decide) c72
    have c150 := k143.gi kM_at0 (by decide) c73
    have c151 := k143.gi kM_at0 (by decide) c70
    rcases hg148 with ⟨rfl, ⟨x144, c145, rx144, tx144⟩⟩ | ⟨rfl, ⟨x146, c147, rx146, tx146⟩⟩
    · have ex144 : x144.toInt = x69.toInt := by rw [← c151.symm.trans c145]
      refine lv_if_ne (tgt := 69) hx hb dX12_clauseHere_36 (by decide) (fun c => absurd (by decide) c) (fun _ => ?_)
      refine lv_aload_n hx hb dX12_clauseHere_39 rfl (lv_at hl 2 rfl) ?_
      refine lv_ldc2 (v := 126943972648308) hx hb hC.2.2.2.1 (hC.2.2.2.2 _ (List.mem_of_getElem? (i := 4) rfl)) dX12_clauseHere_40 ?_
      refine tk_Vi hC hK hw hT hA hE hSR kM_at0 (by decide) rfl (k_X12_isWord_2 l adK adV dC dI cy ad B (by omega) (by omega) qr s1    w142 H.size hT ) (cwV 1 hC.2.2.2.2 gX12_clauseHere_X12_isWord rfl rfl rfl (by decide +kernel) ⟨Nat.le_of_ble_eq_true rfl, Nat.le_of_ble_eq_true rfl⟩) rfl hl.1 rfl (Nat.le_of_ble_eq_true rfl) dX12_clauseHere_43 (fun r152 w154 H locs hp153 hw => ?_)
      obtain ⟨hT, k155, hg160⟩ := hp153
      have hF := hF.tr k155 (by decide)
      have c161 := k155.gi kM_at0 (by decide) c149
      have c162 := k155.gi kM_at0 (by decide) c150
      have c163 := k155.gi kM_at0 (by decide) c151
      rcases hg160 with ⟨rfl, ⟨x156, c157, rx156, tx156⟩⟩ | ⟨rfl, ⟨x158, c159, rx158, tx158⟩⟩
      · have ex156 : x156.toInt = x69.toInt := by rw [← c163.symm.trans c157]
        refine lv_if_ne (tgt := 69) hx hb dX12_clauseHere_46 (by decide) (fun c => absurd (by decide) c) (fun _ => ?_)
        refine lv_aload_n hx hb dX12_clauseHere_49 rfl (lv_at hl 2 rfl) ?_
        refine lv_ldc2 (v := 495555538548) hx hb hC.2.2.2.1 (hC.2.2.2.2 _ (List.mem_of_getElem? (i := 5) rfl)) dX12_clauseHere_50 ?_
        refine tk_Vi hC hK hw hT hA hE hSR kM_at0 (by decide) rfl (k_X12_isWord_3 l adK adV dC dI cy ad B (by omega) (by omega) qr s1    w154 H.size hT ) (cwV 1 hC.2.2.2.2 gX12_clauseHere_X12_isWord rfl rfl rfl (by decide +kernel) ⟨Nat.le_of_ble_eq_true rfl, Nat.le_of_ble_eq_true rfl⟩) rfl hl.1 rfl (Nat.le_of_ble_eq_true rfl) dX12_clauseHere_53 (fun r164 w166 H locs hp165 hw => ?_)
        obtain ⟨hT, k167, hg172⟩ := hp165
        have hF := hF.tr k167 (by decide)
        have c173 := k167.gi kM_at0 (by decide) c161
        have c174 := k167.gi kM_at0 (by decide) c162
        have c175 := k167.gi kM_at0 (by decide) c163
        rcases hg172 with ⟨rfl, ⟨x168, c169, rx168, tx168⟩⟩ | ⟨rfl, ⟨x170, c171, rx170, tx170⟩⟩
        · have ex168 : x168.toInt = x69.toInt := by rw [← c175.symm.trans c169]
          refine lv_if_ne (tgt := 69) hx hb dX12_clauseHere_56 (by decide) (fun c => absurd (by decide) c) (fun _ => ?_)
          refine lv_aload_n hx hb dX12_clauseHere_59 rfl (lv_at hl 2 rfl) ?_
          refine lv_ldc2 (v := 1818846836) hx hb hC.2.2.2.1 (hC.2.2.2.2 _ (List.mem_of_getElem? (i := 6) rfl)) dX12_clauseHere_60 ?_
          refine tk_Vi hC hK hw hT hA hE hSR kM_at0 (by decide) rfl (k_X12_isWord_4 l adK adV dC dI cy ad B (by omega) (by omega) qr s1    w166 H.size hT ) (cwV 1 hC.2.2.2.2 gX12_clauseHere_X12_isWord rfl rfl rfl (by decide +kernel) ⟨Nat.le_of_ble_eq_true rfl, Nat.le_of_ble_eq_true rfl⟩) rfl hl.1 rfl (Nat.le_of_ble_eq_true rfl) dX12_clauseHere_63 (fun r176 w178 H locs hp177 hw => ?_)
          obtain ⟨hT, k179, hg184⟩ := hp177
          have hF := hF.tr k179 (by decide)
          have c185 := k179.gi kM_at0 (by decide) c173
          have c186 := k179.gi kM_at0 (by decide) c174
          have c187 := k179.gi kM_at0 (by decide) c175
          rcases hg184 with ⟨rfl, ⟨x180, c181, rx180, tx180⟩⟩ | ⟨rfl, ⟨x182, c183, rx182, tx182⟩⟩
          · have ex180 : x180.toInt = x69.toInt := by rw [← c187.symm.trans c181]
            refine lv_if_eq (tgt := 73) hx hb dX12_clauseHere_66 (by decide) (fun _ => ?_) (fun c => absurd (by decide) c)
            refine lv_iconst (v := 0) hx hb dX12_clauseHere_73 (by decide) ?_
            refine lv_goto (tgt := 89) hx hb dX12_clauseHere_74 (by decide) ?_
            refine lv_istore_n (lv' := [(3, .int 0), (2, .int 1), (1, .int x136), (0, .ref (ad 0))]) hx hb dX12_clauseHere_89 rfl hl (by decide) rfl (fun ls hl => ?_)
            refine lv_iload_n hx hb dX12_clauseHere_90 rfl (lv_at hl 0 rfl) ?_
            refine lv_if_ne (tgt := 101) hx hb dX12_clauseHere_91 (by decide) (fun c => absurd (by decide) c) (fun _ => ?_)
            refine lv_aload_n hx hb dX12_clauseHere_94 rfl (lv_at hl 3 rfl) ?_
            refine lv_iconst (v := 0) hx hb dX12_clauseHere_95 (by decide) ?_
            refine lv_iload_n hx hb dX12_clauseHere_96 rfl (lv_at hl 2 rfl) ?_
            refine tk_Vi hC hK hw hT hA hE hSR kM_at0 (by decide) rfl (k_X12_fails_1 l adK adV dC dI cy ad B (by omega) (by omega) qr s1   0 (by decide) (by decide) x136 (show 0 ≤ x136.toInt by omega) (show x136.toInt ≤ 400 by omega) w178 H.size hT ) (cwV 2 hC.2.2.2.2 gX12_clauseHere_X12_fails rfl rfl rfl (by decide +kernel) ⟨Nat.le_of_ble_eq_true rfl, Nat.le_of_ble_eq_true rfl⟩) rfl hl.1 rfl (Nat.le_of_ble_eq_true rfl) dX12_clauseHere_97 (fun r188 w190 H locs hp189 hw => ?_)
            obtain ⟨hT, k191, hg194⟩ := hp189
            have hF := hF.tr k191 (by decide)
            have c195 := k191.gi kM_at0 (by decide) c185
            have c196 := k191.gi kM_at0 (by decide) c186
            have c197 := k191.gi kM_at0 (by decide) c187
            obtain ⟨rfl, ⟨x192, c193, rx192, tx192⟩⟩ := hg194
            exact tk_zret hC hr rfl hlocks hK ⟨hT, hF, (Or.inr (Or.inl ⟨rfl, ⟨x69, c197, (show 0 ≤ x69.toInt by omega), (show x69.toInt ≤ 400 by omega)⟩, ⟨x192, c193, (show 1 ≤ x192.toInt by omega), (show x192.toInt ≤ 3205 by omega)⟩, ⟨6, c195, (by decide), (by decide)⟩, ⟨f1_, c196, (show 0 ≤ f1_.toInt by omega), (show f1_.toInt ≤ 32 by omega)⟩, (by simp only [cf1_, c196]; omega)⟩))⟩ hw dX12_clauseHere_100
          · have ex182 : x182.toInt = x69.toInt := by rw [← c187.symm.trans c183]
            refine lv_if_eq (tgt := 73) hx hb dX12_clauseHere_66 (by decide) (fun c => absurd c (by decide)) (fun _ => ?_)
            exact J69 x136 x69 H locs ls w178 (show 0 ≤ x136.toInt by omega) (show x136.toInt ≤ 400 by omega) (show 0 ≤ x69.toInt by omega) (show x69.toInt ≤ 400 by omega) (show 0 ≤ f1_.toInt by omega) (show f1_.toInt ≤ 32 by omega) (show f1_.toInt = f1_.toInt by omega)  hw hT hF c187 c185 c186 (lv_sub hl [2, 1, 0] rfl)
        · have ex170 : x170.toInt = x69.toInt := by rw [← c175.symm.trans c171]
          refine lv_if_ne (tgt := 69) hx hb dX12_clauseHere_56 (by decide) (fun _ => ?_) (fun c => absurd c (by decide))
          exact J69 x136 x69 H locs ls w166 (show 0 ≤ x136.toInt by omega) (show x136.toInt ≤ 400 by omega) (show 0 ≤ x69.toInt by omega) (show x69.toInt ≤ 400 by omega) (show 0 ≤ f1_.toInt by omega) (show f1_.toInt ≤ 32 by omega) (show f1_.toInt = f1_.toInt by omega)  hw hT hF c175 c173 c174 (lv_sub hl [2, 1, 0] rfl)
      · have ex158 : x158.toInt = x69.toInt := by rw [← c163.symm.trans c159]
        refine lv_if_ne (tgt := 69) hx hb dX12_clauseHere_46 (by decide) (fun _ => ?_) (fun c => absurd c (by decide))
        exact J69 x136 x69 H locs ls w154 (show 0 ≤ x136.toInt by omega) (show x136.toInt ≤ 400 by omega) (show 0 ≤ x69.toInt by omega) (show x69.toInt ≤ 400 by omega) (show 0 ≤ f1_.toInt by omega) (show f1_.toInt ≤ 32 by omega) (show f1_.toInt = f1_.toInt by omega)  hw hT hF c163 c161 c162 (lv_sub hl [2, 1, 0] rfl)
    · have ex146 : x146.toInt = x69.toInt := by rw [← c151.symm.trans c147]
      refine lv_if_ne (tgt := 69) hx hb dX12_clauseHere_36 (by decide) (fun _ => ?_) (fun c => absurd c (by decide))
      exact J69 x136 x69 H locs ls w142 (show 0 ≤ x136.toInt by omega) (show x136.toInt ≤ 400 by omega) (show 0 ≤ x69.toInt by omega) (show x69.toInt ≤ 400 by omega) (show 0 ≤ f1_.toInt by omega) (show f1_.toInt ≤ 32 by omega) (show f1_.toInt = f1_.toInt by omega)  hw hT hF c151 c149 c150 (lv_sub hl [2, 1, 0] rfl)
abbrev P_X12_readsAll_1 (ad : Nat → Nat) (cy : Nat → ClassId) (B : Int) (qr : Nat) (s1 : Int)  (w0 : va_W) : Int32 → va_W → Prop := fun r u => TW ksM ad cy B qr 12 u ∧ FE ksM [(12, 1, 1), (12, 7, 7), (12, 8, 8), (12, 9, 9), (12, 10, 10), (12, 14, 14), (12, 15, 15), (12, 16, 16), (12, 18, 18), (12, 20, 20), (62, 0, 7), (65, 0, 120), (66, 0, 16), (67, 0, 12)] w0 u ∧ ((r = 0 ∧ (∃ y : Int32, gi u 0 1 = y ∧ 0 ≤ y.toInt ∧ y.toInt ≤ 0) ∧ (∃ y : Int32, gi u 0 15 = y ∧ 1 ≤ y.toInt ∧ y.toInt ≤ 3205) ∧ (∃ y : Int32, gi u 0 17 = y ∧ 6 ≤ y.toInt ∧ y.toInt ≤ 6) ∧ (∃ y : Int32, gi u 0 18 = y ∧ 0 ≤ y.toInt ∧ y.toInt ≤ 0) ∧ (∃ y : Int32, gi u 0 20 = y ∧ 0 ≤ y.toInt ∧ y.toInt ≤ 32)) ∨ (r = 1 ∧ (∃ y : Int32, gi u 0 1 = y ∧ 0 ≤ y.toInt ∧ y.toInt ≤ 0) ∧ (∃ y : Int32, gi u 0 15 = y ∧ 0 ≤ y.toInt ∧ y.toInt ≤ 0) ∧ (∃ y : Int32, gi u 0 17 = y ∧ 6 ≤ y.toInt ∧ y.toInt ≤ 6) ∧ (∃ y : Int32, gi u 0 18 = y ∧ 0 ≤ y.toInt ∧ y.toInt ≤ 0) ∧ (∃ y : Int32, gi u 0 20 = y ∧ 0 ≤ y.toInt ∧ y.toInt ≤ 32)))
set_option maxHeartbeats 4000000 in
set_option maxRecDepth 100000 in
theorem k_X12_readsAll_1 (l : Launch) (adK adV : Nat → Nat) (dC : Nat → ClassId) (dI : Nat → Nat → Nat) (cy : Nat → ClassId) (ad : Nat → Nat) (B : Int) (hB0 : 100000 ≤ B) (hB1 : B ≤ 1073741824) (qr : Nat) (s1 : Int)   (w0 : va_W) (sz : Nat) (hT : TW ksM ad cy B qr 12 w0) (cf0_ : gi w0 0 17 = 6) (f1_ : Int32) (cf1_ : gi w0 0 20 = f1_) (rf1_ : 0 ≤ f1_.toInt) (tf1_ : f1_.toInt ≤ 32) : Met l yX12_readsAll wsX12_readsAll ({ frames := 6, cells := 0, slots := 0, locals := 128 }) (va_Pc [.ref (ad 0)] (wpreS adK adV dC dI cy sz w0)) (va_Qi (P_X12_readsAll_1 ad cy B qr s1  w0) (fun u : va_W => wpost dC dI cy (va_A w0 sz) u) (va_A w0 sz)) 0 0 (va_A w0 sz) := by
  refine Met.ofW (cc := cX12_readsAll) (maxL := 2) (ret := (some .boolean)) (by decide) rfl ?_
  intro p e s m args below meth c s₁ Bk hml hv
  obtain ⟨rfl, ⟨hsz, hP, hK, hD0⟩, hE, hSR⟩ := hv
  have hx := Bk.exec
  have hb := Bk.bytes
  have hr := Bk.returns
  have hlocks := Bk.notSynchronized
  have hC : CallFix p m c cX12_readsAll 2 s _ wsX12_readsAll RX12 := ⟨hx, hb, hml, findClass_of_methodNamed Bk.named, atoms_spec (ws := wsX12_readsAll) Bk.pre⟩
  subst hsz
  have hD := hD0.self (sz := s.heap.size)
  generalize hAe : va_A w0 s.heap.size = A at hD hE ⊢
  have hA : ∀ q : Nat, s.heap.size ≤ q → A q := fun q h => by rw [← hAe]; exact Or.inr h
  have hw : Wd dC dI A s.heap s.heap [] w0 := ⟨hP, hD, va_S.rf⟩
  have hF : FE ksM [(12, 1, 1), (12, 7, 7), (12, 8, 8), (12, 9, 9), (12, 10, 10), (12, 14, 14), (12, 15, 15), (12, 16, 16), (12, 18, 18), (12, 20, 20), (62, 0, 7), (65, 0, 120), (66, 0, 16), (67, 0, 12)] w0 w0 := FE.rf
  have hl := lv_entry ([.ref (ad 0)]) (n := 2) (Nat.le_of_ble_eq_true rfl)
  rw [lg_entry_eq]
  generalize (lg_sl ([.ref (ad 0)]) ++ List.replicate (2 - (lg_sl ([.ref (ad 0)])).length) Slot.unset).toArray = ls at hl ⊢
  have hl : lv_has ls 2 [(0, .ref (ad 0))] := hl
  generalize hloc : ([] : List Loc) = locs at hw ⊢
  have hinX12 : ∀ w ∈ u_ws RX12 TX12 42, w ∈ wsX12_readsAll := fun _ h => List.mem_cons_of_mem _ (List.mem_append_right _ (h))
  have J88 : ∀ (v88_1 : Int32) (f88_0_1 : Int32) (f88_0_20 : Int32) (H : Heap) (locs : List Loc) (ls : Array Slot) (w1 : va_W), 0 ≤ v88_1.toInt → v88_1.toInt ≤ 1 → 0 ≤ f88_0_1.toInt → f88_0_1.toInt ≤ 400 → 0 ≤ f88_0_20.toInt → f88_0_20.toInt ≤ 32 → f88_0_20.toInt ≤ 32 → Wd dC dI A s.heap H locs w1 → TW ksM ad cy B qr 12 w1 → FE ksM [(12, 1, 1), (12, 7, 7), (12, 8, 8), (12, 9, 9), (12, 10, 10), (12, 14, 14), (12, 15, 15), (12, 16, 16), (12, 18, 18), (12, 20, 20), (62, 0, 7), (65, 0, 120), (66, 0, 16), (67, 0, 12)] w0 w1 → gi w1 0 1 = f88_0_1 → gi w1 0 17 = 6 → gi w1 0 18 = 0 → gi w1 0 20 = f88_0_20 → gi w1 3 6 = 0 → lv_has ls 2 [(0, .ref (ad 0)), (1, .int v88_1)] → W p l e ({ frames := 6, cells := 0, slots := 0, locals := 128 }) s m (List.toArray [.ref (ad 0)]) below meth c H locs 0 0 (MQ below (va_Qi (P_X12_readsAll_1 ad cy B qr s1  w0) (fun u : va_W => wpost dC dI cy A u) A) (List.toArray [.ref (ad 0)]) s 0 0 A) (F0 m 88 ls []) := by
    intro v88_1 f88_0_1 f88_0_20 H locs ls w1 r2 t3 r4 t5 r9 t10 g13 hw hT hF c6 c7 c8 c11 c12 hl
    refine lv_aload_n hx hb dX12_readsAll_88 rfl (lv_at hl 0 rfl) ?_
    refine lv_iconst (v := 0) hx hb dX12_readsAll_89 (by decide) ?_
    refine tk_puti hC hK hw hT hinX12 tyX12_ok nmX12 kM_at0 (by decide) rfl rfl 1 (by decide) (List.mem_of_getElem? (i := 7) rfl) rfl rfl rfl rfl (by decide) (by decide) dX12_readsAll_90 (fun H locs w14 hw hT k16 c15 => ?_)
    have hF := hF.put kM_at0 (k := 1) (by decide) k16
    have c17 := k16.gi (Or.inr (by decide)) c7
    have c18 := k16.gi (Or.inr (by decide)) c8
    have c19 := k16.gi (Or.inr (by decide)) c11
    have c20 := k16.gi (Or.inr (by decide)) c12
    refine lv_aload_n hx hb dX12_readsAll_93 rfl (lv_at hl 0 rfl) ?_
    refine tk_geti hC hK hw hT hinX12 kM_at0 (by decide) rfl 15 (by decide) (List.mem_of_getElem? (i := 5) rfl) rfl rfl dX12_readsAll_94 (fun x21 c22 rx21 tx21 => ?_)
    refine lv_if_ne (tgt := 104) hx hb dX12_readsAll_97 (by decide) (fun c23 => ?_) (fun c23 => ?_)
    · have c23 : ¬ x21.toInt = (0 : Int) := wk_eqF c23
      refine lv_iconst (v := 0) hx hb dX12_readsAll_104 (by decide) ?_
      exact tk_zret hC hr rfl hlocks hK ⟨hT, hF, (Or.inl ⟨rfl, ⟨0, c15, (by decide), (by decide)⟩, ⟨x21, c22, (show 1 ≤ x21.toInt by omega), (show x21.toInt ≤ 3205 by omega)⟩, ⟨6, c17, (by decide), (by decide)⟩, ⟨0, c18, (by decide), (by decide)⟩, ⟨f88_0_20, c19, (show 0 ≤ f88_0_20.toInt by omega), (show f88_0_20.toInt ≤ 32 by omega)⟩⟩)⟩ hw dX12_readsAll_105
    · have c23 : x21.toInt = (0 : Int) := wk_eq.mp c23
      refine lv_iconst (v := 1) hx hb dX12_readsAll_100 (by decide) ?_
      refine lv_goto (tgt := 105) hx hb dX12_readsAll_101 (by decide) ?_
      exact tk_zret hC hr rfl hlocks hK ⟨hT, hF, (Or.inr ⟨rfl, ⟨0, c15, (by decide), (by decide)⟩, ⟨x21, c22, (show 0 ≤ x21.toInt by omega), (show x21.toInt ≤ 0 by omega)⟩, ⟨6, c17, (by decide), (by decide)⟩, ⟨0, c18, (by decide), (by decide)⟩, ⟨f88_0_20, c19, (show 0 ≤ f88_0_20.toInt by omega), (show f88_0_20.toInt ≤ 32 by omega)⟩⟩)⟩ hw dX12_readsAll_105
  have J66 : ∀ (v66_1 : Int32) (f66_0_1 : Int32) (f66_0_20 : Int32) (H : Heap) (locs : List Loc) (ls : Array Slot) (w24 : va_W), 0 ≤ v66_1.toInt → v66_1.toInt ≤ 1 → 0 ≤ f66_0_1.toInt → f66_0_1.toInt ≤ 400 → 0 ≤ f66_0_20.toInt → f66_0_20.toInt ≤ 32 → f66_0_20.toInt ≤ 32 → Wd dC dI A s.heap H locs w24 → TW ksM ad cy B qr 12 w24 → FE ksM [(12, 1, 1), (12, 7, 7), (12, 8, 8), (12, 9, 9), (12, 10, 10), (12, 14, 14), (12, 15, 15), (12, 16, 16), (12, 18, 18), (12, 20, 20), (62, 0, 7), (65, 0, 120), (66, 0, 16), (67, 0, 12)] w0 w24 → gi w24 0 1 = f66_0_1 → gi w24 0 17 = 6 → gi w24 0 18 = 0 → gi w24 0 20 = f66_0_20 → gi w24 3 6 = 0 → lv_has ls 2 [(0, .ref (ad 0)), (1, .int v66_1)] → W p l e ({ frames := 6, cells := 0, slots := 0, locals := 128 }) s m (List.toArray [.ref (ad 0)]) below meth c H locs 0 0 (MQ below (va_Qi (P_X12_readsAll_1 ad cy B qr s1  w0) (fun u : va_W => wpost dC dI cy A u) A) (List.toArray [.ref (ad 0)]) s 0 0 A) (F0 m 66 ls []) := by
    intro v66_1 f66_0_1 f66_0_20 H locs ls w24 r25 t26 r27 t28 r32 t33 g36 hw hT hF c29 c30 c31 c34 c35 hl
    refine lv_iload_n hx hb dX12_readsAll_66 rfl (lv_at hl 1 rfl) ?_
    refine lv_if_eq (tgt := 88) hx hb dX12_readsAll_67 (by decide) (fun c37 => ?_) (fun c37 => ?_)
    · have c37 : v66_1.toInt = (0 : Int) := wk_eq.mp c37
      exact J88 v66_1 f66_0_1 f66_0_20 H locs ls w24 (show 0 ≤ v66_1.toInt by omega) (show v66_1.toInt ≤ 1 by omega) (show 0 ≤ f66_0_1.toInt by omega) (show f66_0_1.toInt ≤ 400 by omega) (show 0 ≤ f66_0_20.toInt by omega) (show f66_0_20.toInt ≤ 32 by omega) (show f66_0_20.toInt ≤ 32 by omega)  hw hT hF c29 c30 c31 c34 c35 (lv_sub hl [0, 1] rfl)
    · have c37 : ¬ v66_1.toInt = (0 : Int) := wk_eqF c37
      refine lv_aload_n hx hb dX12_readsAll_70 rfl (lv_at hl 0 rfl) ?_
      refine tk_Vi hC hK hw hT hA hE hSR kM_at0 (by decide) rfl (k_X12_see_1 l adK adV dC dI cy ad B (by omega) (by omega) qr s1    w24 H.size hT ) (cwV 0 hC.2.2.2.2 gX12_readsAll_X12_see rfl rfl rfl (by decide +kernel) ⟨Nat.le_of_ble_eq_true rfl, Nat.le_of_ble_eq_true rfl⟩) rfl hl.1 rfl (Nat.le_of_ble_eq_true rfl) dX12_readsAll_71 (fun r38 w40 H locs hp39 hw => ?_)
      obtain ⟨hT, k41, hg50⟩ := hp39
      have hF := hF.tr k41 (by decide)
      have c51 := k41.gi kM_at0 (by decide) c29
      have c52 := k41.gi kM_at0 (by decide) c30
      have c53 := k41.gi kM_at0 (by decide) c31
      have c54 := k41.gi kM_at0 (by decide) c34
      have c55 := k41.gi kM_at3 (by decide) c35
      rcases hg50 with ⟨g42, g43, ⟨x44, c45, rx44, tx44⟩, ⟨x46, c47, rx46, tx46⟩⟩ | ⟨rfl, ⟨x48, c49, rx48, tx48⟩⟩
      · have ex44 : x44.toInt = f66_0_1.toInt := by rw [← c51.symm.trans c45]
        refine lv_iconst (v := (-1)) hx hb dX12_readsAll_74 (by decide) ?_
        refine lv_icmp_eq (tgt := 88) hx hb dX12_readsAll_75 (by decide) (fun c => absurd c (fun h => absurd (show r38.toInt = (-1 : Int) from wk_eq.mp h) (by omega))) (fun _ => ?_)
        refine lv_aload_n hx hb dX12_readsAll_78 rfl (lv_at hl 0 rfl) ?_
        refine lv_iconst (v := 0) hx hb dX12_readsAll_79 (by decide) ?_
        refine lv_aload_n hx hb dX12_readsAll_80 rfl (lv_at hl 0 rfl) ?_
        refine tk_geti hC hK hw hT hinX12 kM_at0 (by decide) rfl 14 (by decide) (List.mem_of_getElem? (i := 4) rfl) rfl rfl dX12_readsAll_81 (fun x56 c57 rx56 tx56 => ?_)
        refine wk_top x46 (c57.symm.trans c47) ?_
        refine tk_Vi hC hK hw hT hA hE hSR kM_at0 (by decide) rfl (k_X12_fails_1 l adK adV dC dI cy ad B (by omega) (by omega) qr s1   0 (by decide) (by decide) x46 (show 0 ≤ x46.toInt by omega) (show x46.toInt ≤ 400 by omega) w40 H.size hT ) (cwV 2 hC.2.2.2.2 gX12_readsAll_X12_fails rfl rfl rfl (by decide +kernel) ⟨Nat.le_of_ble_eq_true rfl, Nat.le_of_ble_eq_true rfl⟩) rfl hl.1 rfl (Nat.le_of_ble_eq_true rfl) dX12_readsAll_84 (fun r58 w60 H locs hp59 hw => ?_)
        obtain ⟨hT, k61, hg64⟩ := hp59
        have hF := hF.tr k61 (by decide)
        have c65 := k61.gi kM_at0 (by decide) c51
        have c66 := k61.gi kM_at0 (by decide) c52
        have c67 := k61.gi kM_at0 (by decide) c53
        have c68 := k61.gi kM_at0 (by decide) c54
        have c69 := k61.gi kM_at3 (by decide) c55
        have c70 := k61.gi kM_at0 (by decide) c47
        obtain ⟨rfl, ⟨x62, c63, rx62, tx62⟩⟩ := hg64
        refine lv_pop hx hb dX12_readsAll_87 rfl ?_
        exact J88 v66_1 f66_0_1 f66_0_20 H locs ls w60 (show 0 ≤ v66_1.toInt by omega) (show v66_1.toInt ≤ 1 by omega) (show 0 ≤ f66_0_1.toInt by omega) (show f66_0_1.toInt ≤ 400 by omega) (show 0 ≤ f66_0_20.toInt by omega) (show f66_0_20.toInt ≤ 32 by omega) (show f66_0_20.toInt ≤ 32 by omega)  hw hT hF c65 c66 c67 c68 c69 (lv_sub hl [0, 1] rfl)
      · have ex48 : x48.toInt = f66_0_1.toInt := by rw [← c51.symm.trans c49]
        refine lv_iconst (v := (-1)) hx hb dX12_readsAll_74 (by decide) ?_
        refine lv_icmp_eq (tgt := 88) hx hb dX12_readsAll_75 (by decide) (fun _ => ?_) (fun c => absurd (by decide) c)
        exact J88 v66_1 f66_0_1 f66_0_20 H locs ls w40 (show 0 ≤ v66_1.toInt by omega) (show v66_1.toInt ≤ 1 by omega) (show 0 ≤ f66_0_1.toInt by omega) (show f66_0_1.toInt ≤ 400 by omega) (show 0 ≤ f66_0_20.toInt by omega) (show f66_0_20.toInt ≤ 32 by omega) (show f66_0_20.toInt ≤ 32 by omega)  hw hT hF c51 c52 c53 c54 c55 (lv_sub hl [0, 1] rfl)
  have L35 : ∀ (n35 : Nat) (v35_1 : Int32) (f35_0_1 : Int32) (f35_0_20 : Int32) (H : Heap) (locs : List Loc) (ls : Array Slot) (w71 : va_W), 0 ≤ v35_1.toInt → v35_1.toInt ≤ 1 → 0 ≤ f35_0_1.toInt → f35_0_1.toInt ≤ 400 → 0 ≤ f35_0_20.toInt → f35_0_20.toInt ≤ 32 → f35_0_20.toInt ≤ 32 → (2 * (32 - f35_0_20.toInt) + v35_1.toInt).toNat < n35 → Wd dC dI A s.heap H locs w71 → TW ksM ad cy B qr 12 w71 → FE ksM [(12, 1, 1), (12, 7, 7), (12, 8, 8), (12, 9, 9), (12, 10, 10), (12, 14, 14), (12, 15, 15), (12, 16, 16), (12, 18, 18), (12, 20, 20), (62, 0, 7), (65, 0, 120), (66, 0, 16), (67, 0, 12)] w0 w71 → gi w71 0 1 = f35_0_1 → gi w71 0 17 = 6 → gi w71 0 18 = 0 → gi w71 0 20 = f35_0_20 → gi w71 3 6 = 0 → lv_has ls 2 [(0, .ref (ad 0)), (1, .int v35_1)] → W p l e ({ frames := 6, cells := 0, slots := 0, locals := 128 }) s m (List.toArray [.ref (ad 0)]) below meth c H locs 0 0 (MQ below (va_Qi (P_X12_readsAll_1 ad cy B qr s1  w0) (fun u : va_W => wpost dC dI cy A u) A) (List.toArray [.ref (ad 0)]) s 0 0 A) (F0 m 35 ls []) := by
    intro n35
    induction n35 with
    | zero => intro v35_1 f35_0_1 f35_0_20 H locs ls w71 r72 t73 r74 t75 r79 t80 g83 hm35 hw hT hF c76 c77 c78 c81 c82 hl; omega
    | succ n35 ih35 =>
      intro v35_1 f35_0_1 f35_0_20 H locs ls w71 r72 t73 r74 t75 r79 t80 g83 hm35 hw hT hF c76 c77 c78 c81 c82 hl
      refine lv_iload_n hx hb dX12_readsAll_35 rfl (lv_at hl 1 rfl) ?_
      refine lv_if_eq (tgt := 66) hx hb dX12_readsAll_36 (by decide) (fun c84 => ?_) (fun c84 => ?_)
      · have c84 : v35_1.toInt = (0 : Int) := wk_eq.mp c84
        exact J66 v35_1 f35_0_1 f35_0_20 H locs ls w71 (show 0 ≤ v35_1.toInt by omega) (show v35_1.toInt ≤ 1 by omega) (show 0 ≤ f35_0_1.toInt by omega) (show f35_0_1.toInt ≤ 400 by omega) (show 0 ≤ f35_0_20.toInt by omega) (show f35_0_20.toInt ≤ 32 by omega) (show f35_0_20.toInt ≤ 32 by omega)  hw hT hF c76 c77 c78 c81 c82 (lv_sub hl [0, 1] rfl)
      · have c84 : ¬ v35_1.toInt = (0 : Int) := wk_eqF c84
        refine lv_aload_n hx hb dX12_readsAll_39 rfl (lv_at hl 0 rfl) ?_
        refine tk_Vi hC hK hw hT hA hE hSR kM_at0 (by decide) rfl (k_X12_see_1 l adK adV dC dI cy ad B (by omega) (by omega) qr s1    w71 H.size hT ) (cwV 0 hC.2.2.2.2 gX12_readsAll_X12_see rfl rfl rfl (by decide +kernel) ⟨Nat.le_of_ble_eq_true rfl, Nat.le_of_ble_eq_true rfl⟩) rfl hl.1 rfl (Nat.le_of_ble_eq_true rfl) dX12_readsAll_40 (fun r85 w87 H locs hp86 hw => ?_)
        obtain ⟨hT, k88, hg97⟩ := hp86
        have hF := hF.tr k88 (by decide)
        have c98 := k88.gi kM_at0 (by decide) c76
        have c99 := k88.gi kM_at0 (by decide) c77
        have c100 := k88.gi kM_at0 (by decide) c78
        have c101 := k88.gi kM_at0 (by decide) c81
        have c102 := k88.gi kM_at3 (by decide) c82
        rcases hg97 with ⟨g89, g90, ⟨x91, c92, rx91, tx91⟩, ⟨x93, c94, rx93, tx93⟩⟩ | ⟨rfl, ⟨x95, c96, rx95, tx95⟩⟩
        · have ex91 : x91.toInt = f35_0_1.toInt := by rw [← c98.symm.trans c92]
          refine lv_bipush (v := 59) hx hb dX12_readsAll_43 (by decide) ?_
          refine lv_icmp_ne (tgt := 66) hx hb dX12_readsAll_45 (by decide) (fun c103 => ?_) (fun c103 => ?_)
          · have c103 : ¬ r85.toInt = (59 : Int) := wk_eqF c103
            exact J66 v35_1 f35_0_1 f35_0_20 H locs ls w87 (show 0 ≤ v35_1.toInt by omega) (show v35_1.toInt ≤ 1 by omega) (show 0 ≤ f35_0_1.toInt by omega) (show f35_0_1.toInt ≤ 400 by omega) (show 0 ≤ f35_0_20.toInt by omega) (show f35_0_20.toInt ≤ 32 by omega) (show f35_0_20.toInt ≤ 32 by omega)  hw hT hF c98 c99 c100 c101 c102 (lv_sub hl [0, 1] rfl)
          · have c103 : r85.toInt = (59 : Int) := wk_eq.mp c103
            refine lv_aload_n hx hb dX12_readsAll_48 rfl (lv_at hl 0 rfl) ?_
            refine lv_dup hx hb dX12_readsAll_49 rfl ?_
            refine tk_geti hC hK hw hT hinX12 kM_at0 (by decide) rfl 14 (by decide) (List.mem_of_getElem? (i := 4) rfl) rfl rfl dX12_readsAll_50 (fun x104 c105 rx104 tx104 => ?_)
            refine wk_top x93 (c105.symm.trans c94) ?_
            refine lv_iconst (v := 1) hx hb dX12_readsAll_53 (by decide) ?_
            refine lv_iadd hx hb dX12_readsAll_54 ?_
            refine lv_topi (fun x106 ex106 => ?_)
            have ex106 : x106.toInt = x93.toInt + (1 : Int) := by rw [ex106]; exact wk_add (show (-2147483648) ≤ x93.toInt + (1 : Int) by omega) (show x93.toInt + (1 : Int) ≤ 2147483647 by omega)
            refine tk_puti hC hK hw hT hinX12 tyX12_ok nmX12 kM_at0 (by decide) rfl rfl 14 (by decide) (List.mem_of_getElem? (i := 4) rfl) rfl rfl rfl rfl (show 0 ≤ x106.toInt by omega) (show x106.toInt ≤ 400 by omega) dX12_readsAll_55 (fun H locs w107 hw hT k109 c108 => ?_)
            have hF := hF.put kM_at0 (k := 14) (by decide) k109
            have c110 := k109.gi (Or.inr (by decide)) c98
            have c111 := k109.gi (Or.inr (by decide)) c99
            have c112 := k109.gi (Or.inr (by decide)) c100
            have c113 := k109.gi (Or.inr (by decide)) c101
            have c114 := k109.gi (Or.inr (by decide)) c102
            refine lv_aload_n hx hb dX12_readsAll_58 rfl (lv_at hl 0 rfl) ?_
            refine tk_Vi hC hK hw hT hA hE hSR kM_at0 (by decide) rfl (k_X12_clauseHere_1 l adK adV dC dI cy ad B (by omega) (by omega) qr s1    w107 H.size hT c111 f35_0_20 c113 (show 0 ≤ f35_0_20.toInt by omega) (show f35_0_20.toInt ≤ 32 by omega)) (cwV 0 hC.2.2.2.2 gX12_readsAll_X12_clauseHere rfl rfl rfl (by decide +kernel) ⟨Nat.le_of_ble_eq_true rfl, Nat.le_of_ble_eq_true rfl⟩) rfl hl.1 rfl (Nat.le_of_ble_eq_true rfl) dX12_readsAll_59 (fun r115 w117 H locs hp116 hw => ?_)
            obtain ⟨hT, k118, hg148⟩ := hp116
            have hF := hF.tr k118 (by decide)
            have c149 := k118.gi kM_at0 (by decide) c110
            have c150 := k118.gi kM_at0 (by decide) c111
            have c151 := k118.gi kM_at0 (by decide) c112
            have c152 := k118.gi kM_at3 (by decide) c114
            rcases hg148 with ⟨rfl, ⟨x119, c120, rx119, tx119⟩, ⟨x121, c122, rx121, tx121⟩, ⟨x123, c124, rx123, tx123⟩, ⟨x125, c126, rx125, tx125⟩, g127⟩ | ⟨rfl, ⟨x128, c129, rx128, tx128⟩, ⟨x130, c131, rx130, tx130⟩, ⟨x132, c133, rx132, tx132⟩, ⟨x134, c135, rx134, tx134⟩, g136⟩ | ⟨rfl, ⟨x137, c138, rx137, tx137⟩, ⟨x139, c140, rx139, tx139⟩, ⟨x141, c142, rx141, tx141⟩, ⟨x143, c144, rx143, tx143⟩, ⟨x145, c146, rx145, tx145⟩, g147⟩
            · have ex119 : x119.toInt = f35_0_1.toInt := by rw [← c149.symm.trans c120]
              have ex123 : x123.toInt = (6 : Int) := by rw [show x123 = 6 from c124.symm.trans c150]; decide
              have g127 : f35_0_20.toInt ≤ x125.toInt := by have q := g127; simp only [c113, c126] at q; omega
              refine lv_istore_n (lv' := [(1, .int 0), (0, .ref (ad 0))]) hx hb dX12_readsAll_62 rfl hl (by decide) rfl (fun ls hl => ?_)
              refine lv_goto (tgt := 35) hx hb dX12_readsAll_63 (by decide) ?_
              exact ih35 0 f35_0_1 x125 H locs ls w117 (by decide) (by decide) (show 0 ≤ f35_0_1.toInt by omega) (show f35_0_1.toInt ≤ 400 by omega) (show 0 ≤ x125.toInt by omega) (show x125.toInt ≤ 32 by omega) (show x125.toInt ≤ 32 by omega) (show (2 * (32 - x125.toInt) + (0 : Int)).toNat < n35 by omega) hw hT hF c149 c150 c151 c126 c152 (lv_sub hl [1, 0] rfl)
            · have ex128 : x128.toInt = f35_0_1.toInt := by rw [← c149.symm.trans c129]
              have ex132 : x132.toInt = (6 : Int) := by rw [show x132 = 6 from c133.symm.trans c150]; decide
              have g136 : f35_0_20.toInt ≤ x134.toInt := by have q := g136; simp only [c113, c135] at q; omega
              refine lv_istore_n (lv' := [(1, .int 0), (0, .ref (ad 0))]) hx hb dX12_readsAll_62 rfl hl (by decide) rfl (fun ls hl => ?_)
              refine lv_goto (tgt := 35) hx hb dX12_readsAll_63 (by decide) ?_
              exact ih35 0 f35_0_1 x134 H locs ls w117 (by decide) (by decide) (show 0 ≤ f35_0_1.toInt by omega) (show f35_0_1.toInt ≤ 400 by omega) (show 0 ≤ x134.toInt by omega) (show x134.toInt ≤ 32 by omega) (show x134.toInt ≤ 32 by omega) (show (2 * (32 - x134.toInt) + (0 : Int)).toNat < n35 by omega) hw hT hF c149 c150 c151 c135 c152 (lv_sub hl [1, 0] rfl)
            · have ex137 : x137.toInt = f35_0_1.toInt := by rw [← c149.symm.trans c138]
              have ex143 : x143.toInt = (6 : Int) := by rw [show x143 = 6 from c144.symm.trans c150]; decide
              have g147 : x145.toInt = f35_0_20.toInt + 1 := by have q := g147; simp only [c113, c146] at q; omega
              refine lv_istore_n (lv' := [(1, .int 1), (0, .ref (ad 0))]) hx hb dX12_readsAll_62 rfl hl (by decide) rfl (fun ls hl => ?_)
              refine lv_goto (tgt := 35) hx hb dX12_readsAll_63 (by decide) ?_
              exact ih35 1 f35_0_1 x145 H locs ls w117 (by decide) (by decide) (show 0 ≤ f35_0_1.toInt by omega) (show f35_0_1.toInt ≤ 400 by omega) (show 0 ≤ x145.toInt by omega) (show x145.toInt ≤ 32 by omega) (show x145.toInt ≤ 32 by omega) (show (2 * (32 - x145.toInt) + (1 : Int)).toNat < n35 by omega) hw hT hF c149 c150 c151 c146 c152 (lv_sub hl [1, 0] rfl)
        · have ex95 : x95.toInt = f35_0_1.toInt := by rw [← c98.symm.trans c96]
          refine lv_bipush (v := 59) hx hb dX12_readsAll_43 (by decide) ?_
          refine lv_icmp_ne (tgt := 66) hx hb dX12_readsAll_45 (by decide) (fun _ => ?_) (fun c => absurd c (by decide))
          exact J66 v35_1 f35_0_1 f35_0_20 H locs ls w87 (show 0 ≤ v35_1.toInt by omega) (show v35_1.toInt ≤ 1 by omega) (show 0 ≤ f35_0_1.toInt by omega) (show f35_0_1.toInt ≤ 400 by omega) (show 0 ≤ f35_0_20.toInt by omega) (show f35_0_20.toInt ≤ 32 by omega) (show f35_0_20.toInt ≤ 32 by omega)  hw hT hF c98 c99 c100 c101 c102 (lv_sub hl [0, 1] rfl)
  refine lv_aload_n hx hb dX12_readsAll_0 rfl (lv_at hl 0 rfl) ?_
  refine tk_getA hC hK hw hT hinX12 kM_at0 (by decide) rfl 4 (by decide) (List.mem_of_getElem? (i := 1) rfl) rfl rfl dX12_readsAll_1 ?_
  refine lv_aload_n hx hb dX12_readsAll_4 rfl (lv_at hl 0 rfl) ?_
  refine tk_geti hC hK hw hT hinX12 kM_at0 (by decide) rfl 17 (by decide) (List.mem_of_getElem? (i := 2) rfl) rfl rfl dX12_readsAll_5 (fun x153 c154 rx153 tx153 => ?_)
  refine wk_top 6 (c154.symm.trans cf0_) ?_
  refine lv_iconst (v := 0) hx hb dX12_readsAll_8 (by decide) ?_
  refine tk_iast hC hK hw hT kM_at3 (by decide) rfl rfl (by decide) (by decide) (by decide) (by decide) dX12_readsAll_9 (fun H locs w155 hw hT k157 c156 => ?_)
  have hF := hF.put kM_at3 (inE_of (a := 0) (b := 7) (by decide) (by decide) (by decide)) k157
  have c158 := k157.gi (Or.inl (tk_ne kM_at0 kM_at3 (by decide))) cf0_
  have c159 := k157.gi (Or.inl (tk_ne kM_at0 kM_at3 (by decide))) cf1_
  have c156 : gi w155 3 6 = 0 := c156
  refine lv_aload_n hx hb dX12_readsAll_10 rfl (lv_at hl 0 rfl) ?_
  refine lv_iconst (v := 0) hx hb dX12_readsAll_11 (by decide) ?_
  refine tk_puti hC hK hw hT hinX12 tyX12_ok nmX12 kM_at0 (by decide) rfl rfl 20 (by decide) (List.mem_of_getElem? (i := 3) rfl) rfl rfl rfl rfl (by decide) (by decide) dX12_readsAll_12 (fun H locs w160 hw hT k162 c161 => ?_)
  have hF := hF.put kM_at0 (k := 20) (by decide) k162
  have c163 := k162.gi (Or.inr (by decide)) c158
  have c164 := k162.gi (Or.inr (by decide)) c156
  refine lv_aload_n hx hb dX12_readsAll_15 rfl (lv_at hl 0 rfl) ?_
  refine lv_iconst (v := 0) hx hb dX12_readsAll_16 (by decide) ?_
  refine tk_puti hC hK hw hT hinX12 tyX12_ok nmX12 kM_at0 (by decide) rfl rfl 14 (by decide) (List.mem_of_getElem? (i := 4) rfl) rfl rfl rfl rfl (by decide) (by decide) dX12_readsAll_17 (fun H locs w165 hw hT k167 c166 => ?_)
  have hF := hF.put kM_at0 (k := 14) (by decide) k167
  have c168 := k167.gi (Or.inr (by decide)) c163
  have c169 := k167.gi (Or.inr (by decide)) c164
  have c170 := k167.gi (Or.inr (by decide)) c161
  refine lv_aload_n hx hb dX12_readsAll_20 rfl (lv_at hl 0 rfl) ?_
  refine lv_iconst (v := 0) hx hb dX12_readsAll_21 (by decide) ?_
  refine tk_puti hC hK hw hT hinX12 tyX12_ok nmX12 kM_at0 (by decide) rfl rfl 15 (by decide) (List.mem_of_getElem? (i := 5) rfl) rfl rfl rfl rfl (by decide) (by decide) dX12_readsAll_22 (fun H locs w171 hw hT k173 c172 => ?_)
  have hF := hF.put kM_at0 (k := 15) (by decide) k173
  have c174 := k173.gi (Or.inr (by decide)) c168
  have c175 := k173.gi (Or.inr (by decide)) c169
  have c176 := k173.gi (Or.inr (by decide)) c170
  have c177 := k173.gi (Or.inr (by decide)) c166
  refine lv_aload_n hx hb dX12_readsAll_25 rfl (lv_at hl 0 rfl) ?_
  refine lv_iconst (v := 0) hx hb dX12_readsAll_26 (by decide) ?_
  refine tk_puti hC hK hw hT hinX12 tyX12_ok nmX12 kM_at0 (by decide) rfl rfl 18 (by decide) (List.mem_of_getElem? (i := 6) rfl) rfl rfl rfl rfl (by decide) (by decide) dX12_readsAll_27 (fun H locs w178 hw hT k180 c179 => ?_)
  have hF := hF.put kM_at0 (k := 18) (by decide) k180
  have c181 := k180.gi (Or.inr (by decide)) c174
  have c182 := k180.gi (Or.inr (by decide)) c175
  have c183 := k180.gi (Or.inr (by decide)) c176
  have c184 := k180.gi (Or.inr (by decide)) c177
  have c185 := k180.gi (Or.inr (by decide)) c172
  refine lv_aload_n hx hb dX12_readsAll_30 rfl (lv_at hl 0 rfl) ?_
  refine tk_Vi hC hK hw hT hA hE hSR kM_at0 (by decide) rfl (k_X12_clauseHere_1 l adK adV dC dI cy ad B (by omega) (by omega) qr s1    w178 H.size hT c181 0 c183 (by decide) (by decide)) (cwV 0 hC.2.2.2.2 gX12_readsAll_X12_clauseHere rfl rfl rfl (by decide +kernel) ⟨Nat.le_of_ble_eq_true rfl, Nat.le_of_ble_eq_true rfl⟩) rfl hl.1 rfl (Nat.le_of_ble_eq_true rfl) dX12_readsAll_31 (fun r186 w188 H locs hp187 hw => ?_)
  obtain ⟨hT, k189, hg219⟩ := hp187
  have hF := hF.tr k189 (by decide)
  have c220 := k189.gi kM_at0 (by decide) c181
  have c221 := k189.gi kM_at3 (by decide) c182
  have c222 := k189.gi kM_at0 (by decide) c179
  rcases hg219 with ⟨rfl, ⟨x190, c191, rx190, tx190⟩, ⟨x192, c193, rx192, tx192⟩, ⟨x194, c195, rx194, tx194⟩, ⟨x196, c197, rx196, tx196⟩, g198⟩ | ⟨rfl, ⟨x199, c200, rx199, tx199⟩, ⟨x201, c202, rx201, tx201⟩, ⟨x203, c204, rx203, tx203⟩, ⟨x205, c206, rx205, tx205⟩, g207⟩ | ⟨rfl, ⟨x208, c209, rx208, tx208⟩, ⟨x210, c211, rx210, tx210⟩, ⟨x212, c213, rx212, tx212⟩, ⟨x214, c215, rx214, tx214⟩, ⟨x216, c217, rx216, tx216⟩, g218⟩
  · have ex194 : x194.toInt = (6 : Int) := by rw [show x194 = 6 from c195.symm.trans c220]; decide
    have g198 : (0 : Int) ≤ x196.toInt := by have q := g198; simp only [c183, (show (0 : Int32).toInt = 0 by decide), c197] at q; omega
    refine lv_istore_n (lv' := [(1, .int 0), (0, .ref (ad 0))]) hx hb dX12_readsAll_34 rfl hl (by decide) rfl (fun ls hl => ?_)
    exact L35 ((2 * (32 - x196.toInt) + (0 : Int)).toNat + 1) 0 x190 x196 H locs ls w188 (by decide) (by decide) (show 0 ≤ x190.toInt by omega) (show x190.toInt ≤ 400 by omega) (show 0 ≤ x196.toInt by omega) (show x196.toInt ≤ 32 by omega) (show x196.toInt ≤ 32 by omega) (Nat.lt_succ_self _) hw hT hF c191 c220 c222 c197 c221 (lv_sub hl [1, 0] rfl)
  · have ex203 : x203.toInt = (6 : Int) := by rw [show x203 = 6 from c204.symm.trans c220]; decide
    have g207 : (0 : Int) ≤ x205.toInt := by have q := g207; simp only [c183, (show (0 : Int32).toInt = 0 by decide), c206] at q; omega
    refine lv_istore_n (lv' := [(1, .int 0), (0, .ref (ad 0))]) hx hb dX12_readsAll_34 rfl hl (by decide) rfl (fun ls hl => ?_)
    exact L35 ((2 * (32 - x205.toInt) + (0 : Int)).toNat + 1) 0 x199 x205 H locs ls w188 (by decide) (by decide) (show 0 ≤ x199.toInt by omega) (show x199.toInt ≤ 400 by omega) (show 0 ≤ x205.toInt by omega) (show x205.toInt ≤ 32 by omega) (show x205.toInt ≤ 32 by omega) (Nat.lt_succ_self _) hw hT hF c200 c220 c222 c206 c221 (lv_sub hl [1, 0] rfl)
  · have ex214 : x214.toInt = (6 : Int) := by rw [show x214 = 6 from c215.symm.trans c220]; decide
    have g218 : x216.toInt = (0 : Int) + 1 := by have q := g218; simp only [c183, (show (0 : Int32).toInt = 0 by decide), c217] at q; omega
    refine lv_istore_n (lv' := [(1, .int 1), (0, .ref (ad 0))]) hx hb dX12_readsAll_34 rfl hl (by decide) rfl (fun ls hl => ?_)
    exact L35 ((2 * (32 - x216.toInt) + (1 : Int)).toNat + 1) 1 x208 x216 H locs ls w188 (by decide) (by decide) (show 0 ≤ x208.toInt by omega) (show x208.toInt ≤ 400 by omega) (show 0 ≤ x216.toInt by omega) (show x216.toInt ≤ 32 by omega) (show x216.toInt ≤ 32 by omega) (Nat.lt_succ_self _) hw hT hF c209 c220 c222 c217 c221 (lv_sub hl [1, 0] rfl)
abbrev P_X12_town_1 (ad : Nat → Nat) (cy : Nat → ClassId) (B : Int) (qr : Nat) (s1 : Int)  (w0 : va_W) : Int32 → va_W → Prop := fun r u => TW ksM ad cy B qr 12 u ∧ FE ksM [(12, 1, 1), (12, 7, 7), (12, 8, 8), (12, 9, 9), (12, 10, 10), (12, 14, 14), (12, 15, 15), (12, 16, 16), (12, 17, 17), (12, 18, 18), (12, 20, 20), (62, 0, 7), (65, 0, 120), (66, 0, 16), (67, 0, 12), (71, 0, 0), (71, 0, 295), (71, 1, 1), (71, 2, 2), (71, 3, 3), (71, 9, 9), (71, 10, 129), (71, 140, 155), (71, 156, 167)] w0 u ∧ (((-3207) ≤ r.toInt ∧ r.toInt ≤ (-3) ∧ (∃ y : Int32, gi u 0 1 = y ∧ 0 ≤ y.toInt ∧ y.toInt ≤ 0) ∧ (∃ y : Int32, gi u 0 15 = y ∧ 1 ≤ y.toInt ∧ y.toInt ≤ 3205) ∧ (∃ y : Int32, gi u 0 17 = y ∧ 6 ≤ y.toInt ∧ y.toInt ≤ 6) ∧ (∃ y : Int32, gi u 0 18 = y ∧ 0 ≤ y.toInt ∧ y.toInt ≤ 0) ∧ (∃ y : Int32, gi u 0 20 = y ∧ 0 ≤ y.toInt ∧ y.toInt ≤ 32)) ∨ (0 ≤ r.toInt ∧ r.toInt ≤ 12 ∧ (∃ y : Int32, gi u 0 1 = y ∧ 0 ≤ y.toInt ∧ y.toInt ≤ 0) ∧ (∃ y : Int32, gi u 0 15 = y ∧ 0 ≤ y.toInt ∧ y.toInt ≤ 0) ∧ (∃ y : Int32, gi u 0 17 = y ∧ 6 ≤ y.toInt ∧ y.toInt ≤ 6) ∧ (∃ y : Int32, gi u 0 18 = y ∧ 0 ≤ y.toInt ∧ y.toInt ≤ 0) ∧ (∃ y : Int32, gi u 0 20 = y ∧ 0 ≤ y.toInt ∧ y.toInt ≤ 32)))
set_option maxHeartbeats 4000000 in
set_option maxRecDepth 100000 in
theorem k_X12_town_1 (l : Launch) (adK adV : Nat → Nat) (dC : Nat → ClassId) (dI : Nat → Nat → Nat) (cy : Nat → ClassId) (ad : Nat → Nat) (B : Int) (hB0 : 100000 ≤ B) (hB1 : B ≤ 1073741824) (qr : Nat) (s1 : Int)   (w0 : va_W) (sz : Nat) (hT : TW ksM ad cy B qr 12 w0)  : Met l yX12_town wsX12_town ({ frames := 7, cells := 0, slots := 0, locals := 149 }) (va_Pc [.ref (ad 0)] (wpreS adK adV dC dI cy sz w0)) (va_Qi (P_X12_town_1 ad cy B qr s1  w0) (fun u : va_W => wpost dC dI cy (va_A w0 sz) u) (va_A w0 sz)) 0 0 (va_A w0 sz) := by
  refine Met.ofW (cc := cX12_town) (maxL := 3) (ret := (some .int)) (by decide) rfl ?_
  intro p e s m args below meth c s₁ Bk hml hv
  obtain ⟨rfl, ⟨hsz, hP, hK, hD0⟩, hE, hSR⟩ := hv
  have hx := Bk.exec
  have hb := Bk.bytes
  have hr := Bk.returns
  have hlocks := Bk.notSynchronized
  have hC : CallFix p m c cX12_town 3 s _ wsX12_town RX12 := ⟨hx, hb, hml, findClass_of_methodNamed Bk.named, atoms_spec (ws := wsX12_town) Bk.pre⟩
  subst hsz
  have hD := hD0.self (sz := s.heap.size)
  generalize hAe : va_A w0 s.heap.size = A at hD hE ⊢
  have hA : ∀ q : Nat, s.heap.size ≤ q → A q := fun q h => by rw [← hAe]; exact Or.inr h
  have hw : Wd dC dI A s.heap s.heap [] w0 := ⟨hP, hD, va_S.rf⟩
  have hF : FE ksM [(12, 1, 1), (12, 7, 7), (12, 8, 8), (12, 9, 9), (12, 10, 10), (12, 14, 14), (12, 15, 15), (12, 16, 16), (12, 17, 17), (12, 18, 18), (12, 20, 20), (62, 0, 7), (65, 0, 120), (66, 0, 16), (67, 0, 12), (71, 0, 0), (71, 0, 295), (71, 1, 1), (71, 2, 2), (71, 3, 3), (71, 9, 9), (71, 10, 129), (71, 140, 155), (71, 156, 167)] w0 w0 := FE.rf
  have hl := lv_entry ([.ref (ad 0)]) (n := 3) (Nat.le_of_ble_eq_true rfl)
  rw [lg_entry_eq]
  generalize (lg_sl ([.ref (ad 0)]) ++ List.replicate (3 - (lg_sl ([.ref (ad 0)])).length) Slot.unset).toArray = ls at hl ⊢
  have hl : lv_has ls 3 [(0, .ref (ad 0))] := hl
  generalize hloc : ([] : List Loc) = locs at hw ⊢
  have hinX12 : ∀ w ∈ u_ws RX12 TX12 42, w ∈ wsX12_town := fun _ h => List.mem_cons_of_mem _ (List.mem_append_right _ (h))
  have L189 : ∀ (n189 : Nat) (v189_1 : Int32) (v189_2 : Int32) (f189_0_10 : Int32) (f189_0_20 : Int32) (f189_0_7 : Int32) (f189_0_8 : Int32) (f189_0_9 : Int32) (f189_12_0 : Int32) (f189_12_1 : Int32) (f189_12_2 : Int32) (f189_12_3 : Int32) (f189_12_9 : Int32) (H : Heap) (locs : List Loc) (ls : Array Slot) (w1 : va_W), 0 ≤ v189_1.toInt → 0 ≤ v189_2.toInt → v189_2.toInt ≤ 12 → 0 ≤ f189_0_10.toInt → f189_0_10.toInt ≤ 4 → 0 ≤ f189_0_20.toInt → f189_0_20.toInt ≤ 32 → 0 ≤ f189_0_7.toInt → f189_0_7.toInt ≤ 10 → 0 ≤ f189_0_8.toInt → f189_0_8.toInt ≤ 12 → 0 ≤ f189_0_9.toInt → f189_0_9.toInt ≤ 8 → 0 ≤ f189_12_0.toInt → f189_12_0.toInt ≤ 10 → 0 ≤ f189_12_1.toInt → f189_12_1.toInt ≤ 12 → 0 ≤ f189_12_2.toInt → f189_12_2.toInt ≤ 8 → 0 ≤ f189_12_3.toInt → f189_12_3.toInt ≤ 4 → 0 ≤ f189_12_9.toInt → (12 - v189_2.toInt).toNat < n189 → Wd dC dI A s.heap H locs w1 → TW ksM ad cy B qr 12 w1 → FE ksM [(12, 1, 1), (12, 7, 7), (12, 8, 8), (12, 9, 9), (12, 10, 10), (12, 14, 14), (12, 15, 15), (12, 16, 16), (12, 17, 17), (12, 18, 18), (12, 20, 20), (62, 0, 7), (65, 0, 120), (66, 0, 16), (67, 0, 12), (71, 0, 0), (71, 0, 295), (71, 1, 1), (71, 2, 2), (71, 3, 3), (71, 9, 9), (71, 10, 129), (71, 140, 155), (71, 156, 167)] w0 w1 → gi w1 0 1 = 0 → gi w1 0 10 = f189_0_10 → gi w1 0 15 = 0 → gi w1 0 17 = 6 → gi w1 0 18 = 0 → gi w1 0 20 = f189_0_20 → gi w1 0 7 = f189_0_7 → gi w1 0 8 = f189_0_8 → gi w1 0 9 = f189_0_9 → gi w1 12 0 = f189_12_0 → gi w1 12 1 = f189_12_1 → gi w1 12 2 = f189_12_2 → gi w1 12 3 = f189_12_3 → gi w1 12 9 = f189_12_9 → lv_has ls 3 [(0, .ref (ad 0)), (1, .int v189_1), (2, .int v189_2)] → W p l e ({ frames := 7, cells := 0, slots := 0, locals := 149 }) s m (List.toArray [.ref (ad 0)]) below meth c H locs 0 0 (MQ below (va_Qi (P_X12_town_1 ad cy B qr s1  w0) (fun u : va_W => wpost dC dI cy A u) A) (List.toArray [.ref (ad 0)]) s 0 0 A) (F0 m 189 ls []) := by
    intro n189
    induction n189 with
    | zero => intro v189_1 v189_2 f189_0_10 f189_0_20 f189_0_7 f189_0_8 f189_0_9 f189_12_0 f189_12_1 f189_12_2 f189_12_3 f189_12_9 H locs ls w1 r2 r3 t4 r6 t7 r12 t13 r15 t16 r18 t19 r21 t22 r24 t25 r27 t28 r30 t31 r33 t34 r36 hm189 hw hT hF c5 c8 c9 c10 c11 c14 c17 c20 c23 c26 c29 c32 c35 c37 hl; omega
    | succ n189 ih189 =>
      intro v189_1 v189_2 f189_0_10 f189_0_20 f189_0_7 f189_0_8 f189_0_9 f189_12_0 f189_12_1 f189_12_2 f189_12_3 f189_12_9 H locs ls w1 r2 r3 t4 r6 t7 r12 t13 r15 t16 r18 t19 r21 t22 r24 t25 r27 t28 r30 t31 r33 t34 r36 hm189 hw hT hF c5 c8 c9 c10 c11 c14 c17 c20 c23 c26 c29 c32 c35 c37 hl
      refine lv_iload_n hx hb dX12_town_189 rfl (lv_at hl 2 rfl) ?_
      refine lv_iconst (v := 3) hx hb dX12_town_190 (by decide) ?_
      refine lv_aload_n hx hb dX12_town_191 rfl (lv_at hl 0 rfl) ?_
      refine tk_geti hC hK hw hT hinX12 kM_at0 (by decide) rfl 10 (by decide) (List.mem_of_getElem? (i := 5) rfl) rfl rfl dX12_town_192 (fun x38 c39 rx38 tx38 => ?_)
      refine wk_top f189_0_10 (c39.symm.trans c8) ?_
      refine lv_imul hx hb dX12_town_195 ?_
      refine lv_topi (fun x40 ex40 => ?_)
      have ex40 : x40.toInt = (3 : Int) * f189_0_10.toInt := by rw [ex40]; exact wk_mul (show (-2147483648) ≤ (3 : Int) * f189_0_10.toInt by omega) (show (3 : Int) * f189_0_10.toInt ≤ 2147483647 by omega)
      refine lv_icmp_ge (tgt := 221) hx hb dX12_town_196 (by decide) (fun c41 => ?_) (fun c41 => ?_)
      · have c41 : x40.toInt ≤ v189_2.toInt := wk_le.mp c41
        refine lv_aload_n hx hb dX12_town_221 rfl (lv_at hl 0 rfl) ?_
        refine tk_geti hC hK hw hT hinX12 kM_at0 (by decide) rfl 8 (by decide) (List.mem_of_getElem? (i := 3) rfl) rfl rfl dX12_town_222 (fun x42 c43 rx42 tx42 => ?_)
        refine wk_top f189_0_8 (c43.symm.trans c20) ?_
        exact tk_iret hC hr hlocks hK ⟨hT, hF, (Or.inr ⟨(show 0 ≤ f189_0_8.toInt by omega), (show f189_0_8.toInt ≤ 12 by omega), ⟨0, c5, (by decide), (by decide)⟩, ⟨0, c9, (by decide), (by decide)⟩, ⟨6, c10, (by decide), (by decide)⟩, ⟨0, c11, (by decide), (by decide)⟩, ⟨f189_0_20, c14, (show 0 ≤ f189_0_20.toInt by omega), (show f189_0_20.toInt ≤ 32 by omega)⟩⟩)⟩ hw dX12_town_225
      · have c41 : v189_2.toInt < x40.toInt := wk_leF c41
        refine lv_aload_n hx hb dX12_town_199 rfl (lv_at hl 0 rfl) ?_
        refine tk_getA hC hK hw hT hinX12 kM_at0 (by decide) rfl 26 (by decide) (List.mem_of_getElem? (i := 7) rfl) rfl rfl dX12_town_200 ?_
        refine lv_sipush (v := 156) hx hb dX12_town_203 (by decide) ?_
        refine lv_iload_n hx hb dX12_town_206 rfl (lv_at hl 2 rfl) ?_
        refine lv_iadd hx hb dX12_town_207 ?_
        refine lv_topi (fun x44 ex44 => ?_)
        have ex44 : x44.toInt = (156 : Int) + v189_2.toInt := by rw [ex44]; exact wk_add (show (-2147483648) ≤ (156 : Int) + v189_2.toInt by omega) (show (156 : Int) + v189_2.toInt ≤ 2147483647 by omega)
        refine lv_aload_n hx hb dX12_town_208 rfl (lv_at hl 0 rfl) ?_
        refine tk_getA hC hK hw hT hinX12 kM_at0 (by decide) rfl 13 (by decide) (List.mem_of_getElem? (i := 10) rfl) rfl rfl dX12_town_209 ?_
        refine lv_iload_n hx hb dX12_town_212 rfl (lv_at hl 2 rfl) ?_
        refine tk_iald hC hK hw hT kM_at8 rfl rfl (show 0 ≤ v189_2.toInt by omega) (show v189_2.toInt < 12 by omega) dX12_town_213 (fun x45 c46 rx45 tx45 => ?_)
        refine tk_iastR hC hK hw hT kM_at12 (by decide) rfl (show 0 ≤ x44.toInt by omega) (show x44.toInt < 296 by omega) (tk_rgS rfl 156 1 12 (-2147483648) 2147483647 (by decide +kernel) ⟨(v189_2.toInt - 0).toNat, by omega, show x44.toInt.toNat = 156 + 1 * (v189_2.toInt - 0).toNat by omega⟩ (wk_i32 x45).1 (wk_i32 x45).2) dX12_town_214 (fun H locs w47 hw hT k49 c48 => ?_)
        have hF := hF.put kM_at12 (inE_of (a := 156) (b := 167) (by decide) (show 156 ≤ x44.toInt.toNat by omega) (show x44.toInt.toNat ≤ 167 by omega)) k49
        have c50 := k49.gi (Or.inl (tk_ne kM_at0 kM_at12 (by decide))) c5
        have c51 := k49.gi (Or.inl (tk_ne kM_at0 kM_at12 (by decide))) c8
        have c52 := k49.gi (Or.inl (tk_ne kM_at0 kM_at12 (by decide))) c9
        have c53 := k49.gi (Or.inl (tk_ne kM_at0 kM_at12 (by decide))) c10
        have c54 := k49.gi (Or.inl (tk_ne kM_at0 kM_at12 (by decide))) c11
        have c55 := k49.gi (Or.inl (tk_ne kM_at0 kM_at12 (by decide))) c14
        have c56 := k49.gi (Or.inl (tk_ne kM_at0 kM_at12 (by decide))) c17
        have c57 := k49.gi (Or.inl (tk_ne kM_at0 kM_at12 (by decide))) c20
        have c58 := k49.gi (Or.inl (tk_ne kM_at0 kM_at12 (by decide))) c23
        have c59 := k49.gi (Or.inr (show 0 ≠ x44.toInt.toNat by omega)) c26
        have c60 := k49.gi (Or.inr (show 1 ≠ x44.toInt.toNat by omega)) c29
        have c61 := k49.gi (Or.inr (show 2 ≠ x44.toInt.toNat by omega)) c32
        have c62 := k49.gi (Or.inr (show 3 ≠ x44.toInt.toNat by omega)) c35
        have c63 := k49.gi (Or.inr (show 9 ≠ x44.toInt.toNat by omega)) c37
        obtain ⟨x64, ex64⟩ : ∃ y : Int32, y = v189_2 + Int32.ofInt 1 := ⟨_, rfl⟩
        refine lv_iinc (v := x64) (lv' := [(2, .int x64), (0, .ref (ad 0)), (1, .int v189_1)]) hx hb dX12_town_215 hl (k := 2) rfl ex64.symm (by decide) rfl (fun ls hl => ?_)
        have ex64 : x64.toInt = v189_2.toInt + 1 := by rw [ex64]; exact wk_add (y := 1) (show -2147483648 ≤ v189_2.toInt + 1 by omega) (show v189_2.toInt + 1 ≤ 2147483647 by omega)
        refine lv_goto (tgt := 189) hx hb dX12_town_218 (by decide) ?_
        exact ih189 v189_1 x64 f189_0_10 f189_0_20 f189_0_7 f189_0_8 f189_0_9 f189_12_0 f189_12_1 f189_12_2 f189_12_3 f189_12_9 H locs ls w47 (show 0 ≤ v189_1.toInt by omega) (show 0 ≤ x64.toInt by omega) (show x64.toInt ≤ 12 by omega) (show 0 ≤ f189_0_10.toInt by omega) (show f189_0_10.toInt ≤ 4 by omega) (show 0 ≤ f189_0_20.toInt by omega) (show f189_0_20.toInt ≤ 32 by omega) (show 0 ≤ f189_0_7.toInt by omega) (show f189_0_7.toInt ≤ 10 by omega) (show 0 ≤ f189_0_8.toInt by omega) (show f189_0_8.toInt ≤ 12 by omega) (show 0 ≤ f189_0_9.toInt by omega) (show f189_0_9.toInt ≤ 8 by omega) (show 0 ≤ f189_12_0.toInt by omega) (show f189_12_0.toInt ≤ 10 by omega) (show 0 ≤ f189_12_1.toInt by omega) (show f189_12_1.toInt ≤ 12 by omega) (show 0 ≤ f189_12_2.toInt by omega) (show f189_12_2.toInt ≤ 8 by omega) (show 0 ≤ f189_12_3.toInt by omega) (show f189_12_3.toInt ≤ 4 by omega) (show 0 ≤ f189_12_9.toInt by omega) (show (12 - x64.toInt).toNat < n189 by omega) hw hT hF c50 c51 c52 c53 c54 c55 c56 c57 c58 c59 c60 c61 c62 c63 (lv_sub hl [1, 2, 0] rfl)
  have L155 : ∀ (n155 : Nat) (v155_1 : Int32) (v155_2 : Int32) (f155_0_10 : Int32) (f155_0_20 : Int32) (f155_0_7 : Int32) (f155_0_8 : Int32) (f155_0_9 : Int32) (f155_12_0 : Int32) (f155_12_1 : Int32) (f155_12_2 : Int32) (f155_12_3 : Int32) (f155_12_9 : Int32) (H : Heap) (locs : List Loc) (ls : Array Slot) (w65 : va_W), 0 ≤ v155_1.toInt → 0 ≤ v155_2.toInt → v155_2.toInt ≤ 16 → 0 ≤ f155_0_10.toInt → f155_0_10.toInt ≤ 4 → 0 ≤ f155_0_20.toInt → f155_0_20.toInt ≤ 32 → 0 ≤ f155_0_7.toInt → f155_0_7.toInt ≤ 10 → 0 ≤ f155_0_8.toInt → f155_0_8.toInt ≤ 12 → 0 ≤ f155_0_9.toInt → f155_0_9.toInt ≤ 8 → 0 ≤ f155_12_0.toInt → f155_12_0.toInt ≤ 10 → 0 ≤ f155_12_1.toInt → f155_12_1.toInt ≤ 12 → 0 ≤ f155_12_2.toInt → f155_12_2.toInt ≤ 8 → 0 ≤ f155_12_3.toInt → f155_12_3.toInt ≤ 4 → 0 ≤ f155_12_9.toInt → (16 - v155_2.toInt).toNat < n155 → Wd dC dI A s.heap H locs w65 → TW ksM ad cy B qr 12 w65 → FE ksM [(12, 1, 1), (12, 7, 7), (12, 8, 8), (12, 9, 9), (12, 10, 10), (12, 14, 14), (12, 15, 15), (12, 16, 16), (12, 17, 17), (12, 18, 18), (12, 20, 20), (62, 0, 7), (65, 0, 120), (66, 0, 16), (67, 0, 12), (71, 0, 0), (71, 0, 295), (71, 1, 1), (71, 2, 2), (71, 3, 3), (71, 9, 9), (71, 10, 129), (71, 140, 155), (71, 156, 167)] w0 w65 → gi w65 0 1 = 0 → gi w65 0 10 = f155_0_10 → gi w65 0 15 = 0 → gi w65 0 17 = 6 → gi w65 0 18 = 0 → gi w65 0 20 = f155_0_20 → gi w65 0 7 = f155_0_7 → gi w65 0 8 = f155_0_8 → gi w65 0 9 = f155_0_9 → gi w65 12 0 = f155_12_0 → gi w65 12 1 = f155_12_1 → gi w65 12 2 = f155_12_2 → gi w65 12 3 = f155_12_3 → gi w65 12 9 = f155_12_9 → lv_has ls 3 [(0, .ref (ad 0)), (1, .int v155_1), (2, .int v155_2)] → W p l e ({ frames := 7, cells := 0, slots := 0, locals := 149 }) s m (List.toArray [.ref (ad 0)]) below meth c H locs 0 0 (MQ below (va_Qi (P_X12_town_1 ad cy B qr s1  w0) (fun u : va_W => wpost dC dI cy A u) A) (List.toArray [.ref (ad 0)]) s 0 0 A) (F0 m 155 ls []) := by
    intro n155
    induction n155 with
    | zero => intro v155_1 v155_2 f155_0_10 f155_0_20 f155_0_7 f155_0_8 f155_0_9 f155_12_0 f155_12_1 f155_12_2 f155_12_3 f155_12_9 H locs ls w65 r66 r67 t68 r70 t71 r76 t77 r79 t80 r82 t83 r85 t86 r88 t89 r91 t92 r94 t95 r97 t98 r100 hm155 hw hT hF c69 c72 c73 c74 c75 c78 c81 c84 c87 c90 c93 c96 c99 c101 hl; omega
    | succ n155 ih155 =>
      intro v155_1 v155_2 f155_0_10 f155_0_20 f155_0_7 f155_0_8 f155_0_9 f155_12_0 f155_12_1 f155_12_2 f155_12_3 f155_12_9 H locs ls w65 r66 r67 t68 r70 t71 r76 t77 r79 t80 r82 t83 r85 t86 r88 t89 r91 t92 r94 t95 r97 t98 r100 hm155 hw hT hF c69 c72 c73 c74 c75 c78 c81 c84 c87 c90 c93 c96 c99 c101 hl
      refine lv_iload_n hx hb dX12_town_155 rfl (lv_at hl 2 rfl) ?_
      refine lv_iconst (v := 2) hx hb dX12_town_156 (by decide) ?_
      refine lv_aload_n hx hb dX12_town_157 rfl (lv_at hl 0 rfl) ?_
      refine tk_geti hC hK hw hT hinX12 kM_at0 (by decide) rfl 9 (by decide) (List.mem_of_getElem? (i := 4) rfl) rfl rfl dX12_town_158 (fun x102 c103 rx102 tx102 => ?_)
      refine wk_top f155_0_9 (c103.symm.trans c87) ?_
      refine lv_imul hx hb dX12_town_161 ?_
      refine lv_topi (fun x104 ex104 => ?_)
      have ex104 : x104.toInt = (2 : Int) * f155_0_9.toInt := by rw [ex104]; exact wk_mul (show (-2147483648) ≤ (2 : Int) * f155_0_9.toInt by omega) (show (2 : Int) * f155_0_9.toInt ≤ 2147483647 by omega)
      refine lv_icmp_ge (tgt := 187) hx hb dX12_town_162 (by decide) (fun c105 => ?_) (fun c105 => ?_)
      · have c105 : x104.toInt ≤ v155_2.toInt := wk_le.mp c105
        refine lv_iconst (v := 0) hx hb dX12_town_187 (by decide) ?_
        refine lv_istore_n (lv' := [(2, .int 0), (0, .ref (ad 0)), (1, .int v155_1)]) hx hb dX12_town_188 rfl hl (by decide) rfl (fun ls hl => ?_)
        exact L189 ((12 - (0 : Int)).toNat + 1) v155_1 0 f155_0_10 f155_0_20 f155_0_7 f155_0_8 f155_0_9 f155_12_0 f155_12_1 f155_12_2 f155_12_3 f155_12_9 H locs ls w65 (show 0 ≤ v155_1.toInt by omega) (by decide) (by decide) (show 0 ≤ f155_0_10.toInt by omega) (show f155_0_10.toInt ≤ 4 by omega) (show 0 ≤ f155_0_20.toInt by omega) (show f155_0_20.toInt ≤ 32 by omega) (show 0 ≤ f155_0_7.toInt by omega) (show f155_0_7.toInt ≤ 10 by omega) (show 0 ≤ f155_0_8.toInt by omega) (show f155_0_8.toInt ≤ 12 by omega) (show 0 ≤ f155_0_9.toInt by omega) (show f155_0_9.toInt ≤ 8 by omega) (show 0 ≤ f155_12_0.toInt by omega) (show f155_12_0.toInt ≤ 10 by omega) (show 0 ≤ f155_12_1.toInt by omega) (show f155_12_1.toInt ≤ 12 by omega) (show 0 ≤ f155_12_2.toInt by omega) (show f155_12_2.toInt ≤ 8 by omega) (show 0 ≤ f155_12_3.toInt by omega) (show f155_12_3.toInt ≤ 4 by omega) (show 0 ≤ f155_12_9.toInt by omega) (Nat.lt_succ_self _) hw hT hF c69 c72 c73 c74 c75 c78 c81 c84 c87 c90 c93 c96 c99 c101 (lv_sub hl [1, 2, 0] rfl)
      · have c105 : v155_2.toInt < x104.toInt := wk_leF c105
        refine lv_aload_n hx hb dX12_town_165 rfl (lv_at hl 0 rfl) ?_
        refine tk_getA hC hK hw hT hinX12 kM_at0 (by decide) rfl 26 (by decide) (List.mem_of_getElem? (i := 7) rfl) rfl rfl dX12_town_166 ?_
        refine lv_sipush (v := 140) hx hb dX12_town_169 (by decide) ?_
        refine lv_iload_n hx hb dX12_town_172 rfl (lv_at hl 2 rfl) ?_
        refine lv_iadd hx hb dX12_town_173 ?_
        refine lv_topi (fun x106 ex106 => ?_)
        have ex106 : x106.toInt = (140 : Int) + v155_2.toInt := by rw [ex106]; exact wk_add (show (-2147483648) ≤ (140 : Int) + v155_2.toInt by omega) (show (140 : Int) + v155_2.toInt ≤ 2147483647 by omega)
        refine lv_aload_n hx hb dX12_town_174 rfl (lv_at hl 0 rfl) ?_
        refine tk_getA hC hK hw hT hinX12 kM_at0 (by decide) rfl 12 (by decide) (List.mem_of_getElem? (i := 9) rfl) rfl rfl dX12_town_175 ?_
        refine lv_iload_n hx hb dX12_town_178 rfl (lv_at hl 2 rfl) ?_
        refine tk_iald hC hK hw hT kM_at7 rfl rfl (show 0 ≤ v155_2.toInt by omega) (show v155_2.toInt < 16 by omega) dX12_town_179 (fun x107 c108 rx107 tx107 => ?_)
        refine tk_iastR hC hK hw hT kM_at12 (by decide) rfl (show 0 ≤ x106.toInt by omega) (show x106.toInt < 296 by omega) (tk_rgS rfl 140 1 16 (-2147483648) 2147483647 (by decide +kernel) ⟨(v155_2.toInt - 0).toNat, by omega, show x106.toInt.toNat = 140 + 1 * (v155_2.toInt - 0).toNat by omega⟩ (wk_i32 x107).1 (wk_i32 x107).2) dX12_town_180 (fun H locs w109 hw hT k111 c110 => ?_)
        have hF := hF.put kM_at12 (inE_of (a := 140) (b := 155) (by decide) (show 140 ≤ x106.toInt.toNat by omega) (show x106.toInt.toNat ≤ 155 by omega)) k111
        have c112 := k111.gi (Or.inl (tk_ne kM_at0 kM_at12 (by decide))) c69
        have c113 := k111.gi (Or.inl (tk_ne kM_at0 kM_at12 (by decide))) c72
        have c114 := k111.gi (Or.inl (tk_ne kM_at0 kM_at12 (by decide))) c73
        have c115 := k111.gi (Or.inl (tk_ne kM_at0 kM_at12 (by decide))) c74
        have c116 := k111.gi (Or.inl (tk_ne kM_at0 kM_at12 (by decide))) c75
        have c117 := k111.gi (Or.inl (tk_ne kM_at0 kM_at12 (by decide))) c78
        have c118 := k111.gi (Or.inl (tk_ne kM_at0 kM_at12 (by decide))) c81
        have c119 := k111.gi (Or.inl (tk_ne kM_at0 kM_at12 (by decide))) c84
        have c120 := k111.gi (Or.inl (tk_ne kM_at0 kM_at12 (by decide))) c87
        have c121 := k111.gi (Or.inr (show 0 ≠ x106.toInt.toNat by omega)) c90
        have c122 := k111.gi (Or.inr (show 1 ≠ x106.toInt.toNat by omega)) c93
        have c123 := k111.gi (Or.inr (show 2 ≠ x106.toInt.toNat by omega)) c96
        have c124 := k111.gi (Or.inr (show 3 ≠ x106.toInt.toNat by omega)) c99
        have c125 := k111.gi (Or.inr (show 9 ≠ x106.toInt.toNat by omega)) c101
        obtain ⟨x126, ex126⟩ : ∃ y : Int32, y = v155_2 + Int32.ofInt 1 := ⟨_, rfl⟩
        refine lv_iinc (v := x126) (lv' := [(2, .int x126), (0, .ref (ad 0)), (1, .int v155_1)]) hx hb dX12_town_181 hl (k := 2) rfl ex126.symm (by decide) rfl (fun ls hl => ?_)
        have ex126 : x126.toInt = v155_2.toInt + 1 := by rw [ex126]; exact wk_add (y := 1) (show -2147483648 ≤ v155_2.toInt + 1 by omega) (show v155_2.toInt + 1 ≤ 2147483647 by omega)
        refine lv_goto (tgt := 155) hx hb dX12_town_184 (by decide) ?_
        exact ih155 v155_1 x126 f155_0_10 f155_0_20 f155_0_7 f155_0_8 f155_0_9 f155_12_0 f155_12_1 f155_12_2 f155_12_3 f155_12_9 H locs ls w109 (show 0 ≤ v155_1.toInt by omega) (show 0 ≤ x126.toInt by omega) (show x126.toInt ≤ 16 by omega) (show 0 ≤ f155_0_10.toInt by omega) (show f155_0_10.toInt ≤ 4 by omega) (show 0 ≤ f155_0_20.toInt by omega) (show f155_0_20.toInt ≤ 32 by omega) (show 0 ≤ f155_0_7.toInt by omega) (show f155_0_7.toInt ≤ 10 by omega) (show 0 ≤ f155_0_8.toInt by omega) (show f155_0_8.toInt ≤ 12 by omega) (show 0 ≤ f155_0_9.toInt by omega) (show f155_0_9.toInt ≤ 8 by omega) (show 0 ≤ f155_12_0.toInt by omega) (show f155_12_0.toInt ≤ 10 by omega) (show 0 ≤ f155_12_1.toInt by omega) (show f155_12_1.toInt ≤ 12 by omega) (show 0 ≤ f155_12_2.toInt by omega) (show f155_12_2.toInt ≤ 8 by omega) (show 0 ≤ f155_12_3.toInt by omega) (show f155_12_3.toInt ≤ 4 by omega) (show 0 ≤ f155_12_9.toInt by omega) (show (16 - x126.toInt).toNat < n155 by omega) hw hT hF c112 c113 c114 c115 c116 c117 c118 c119 c120 c121 c122 c123 c124 c125 (lv_sub hl [1, 2, 0] rfl)
  have L121 : ∀ (n121 : Nat) (v121_1 : Int32) (v121_2 : Int32) (f121_0_10 : Int32) (f121_0_20 : Int32) (f121_0_7 : Int32) (f121_0_8 : Int32) (f121_0_9 : Int32) (f121_12_0 : Int32) (f121_12_1 : Int32) (f121_12_2 : Int32) (f121_12_3 : Int32) (f121_12_9 : Int32) (H : Heap) (locs : List Loc) (ls : Array Slot) (w127 : va_W), 0 ≤ v121_1.toInt → 0 ≤ v121_2.toInt → v121_2.toInt ≤ 120 → 0 ≤ f121_0_10.toInt → f121_0_10.toInt ≤ 4 → 0 ≤ f121_0_20.toInt → f121_0_20.toInt ≤ 32 → 0 ≤ f121_0_7.toInt → f121_0_7.toInt ≤ 10 → 0 ≤ f121_0_8.toInt → f121_0_8.toInt ≤ 12 → 0 ≤ f121_0_9.toInt → f121_0_9.toInt ≤ 8 → 0 ≤ f121_12_0.toInt → f121_12_0.toInt ≤ 10 → 0 ≤ f121_12_1.toInt → f121_12_1.toInt ≤ 12 → 0 ≤ f121_12_2.toInt → f121_12_2.toInt ≤ 8 → 0 ≤ f121_12_3.toInt → f121_12_3.toInt ≤ 4 → 0 ≤ f121_12_9.toInt → (120 - v121_2.toInt).toNat < n121 → Wd dC dI A s.heap H locs w127 → TW ksM ad cy B qr 12 w127 → FE ksM [(12, 1, 1), (12, 7, 7), (12, 8, 8), (12, 9, 9), (12, 10, 10), (12, 14, 14), (12, 15, 15), (12, 16, 16), (12, 17, 17), (12, 18, 18), (12, 20, 20), (62, 0, 7), (65, 0, 120), (66, 0, 16), (67, 0, 12), (71, 0, 0), (71, 0, 295), (71, 1, 1), (71, 2, 2), (71, 3, 3), (71, 9, 9), (71, 10, 129), (71, 140, 155), (71, 156, 167)] w0 w127 → gi w127 0 1 = 0 → gi w127 0 10 = f121_0_10 → gi w127 0 15 = 0 → gi w127 0 17 = 6 → gi w127 0 18 = 0 → gi w127 0 20 = f121_0_20 → gi w127 0 7 = f121_0_7 → gi w127 0 8 = f121_0_8 → gi w127 0 9 = f121_0_9 → gi w127 12 0 = f121_12_0 → gi w127 12 1 = f121_12_1 → gi w127 12 2 = f121_12_2 → gi w127 12 3 = f121_12_3 → gi w127 12 9 = f121_12_9 → lv_has ls 3 [(0, .ref (ad 0)), (1, .int v121_1), (2, .int v121_2)] → W p l e ({ frames := 7, cells := 0, slots := 0, locals := 149 }) s m (List.toArray [.ref (ad 0)]) below meth c H locs 0 0 (MQ below (va_Qi (P_X12_town_1 ad cy B qr s1  w0) (fun u : va_W => wpost dC dI cy A u) A) (List.toArray [.ref (ad 0)]) s 0 0 A) (F0 m 121 ls []) := by
    intro n121
    induction n121 with
    | zero => intro v121_1 v121_2 f121_0_10 f121_0_20 f121_0_7 f121_0_8 f121_0_9 f121_12_0 f121_12_1 f121_12_2 f121_12_3 f121_12_9 H locs ls w127 r128 r129 t130 r132 t133 r138 t139 r141 t142 r144 t145 r147 t148 r150 t151 r153 t154 r156 t157 r159 t160 r162 hm121 hw hT hF c131 c134 c135 c136 c137 c140 c143 c146 c149 c152 c155 c158 c161 c163 hl; omega
    | succ n121 ih121 =>
      intro v121_1 v121_2 f121_0_10 f121_0_20 f121_0_7 f121_0_8 f121_0_9 f121_12_0 f121_12_1 f121_12_2 f121_12_3 f121_12_9 H locs ls w127 r128 r129 t130 r132 t133 r138 t139 r141 t142 r144 t145 r147 t148 r150 t151 r153 t154 r156 t157 r159 t160 r162 hm121 hw hT hF c131 c134 c135 c136 c137 c140 c143 c146 c149 c152 c155 c158 c161 c163 hl
      refine lv_iload_n hx hb dX12_town_121 rfl (lv_at hl 2 rfl) ?_
      refine lv_bipush (v := 10) hx hb dX12_town_122 (by decide) ?_
      refine lv_aload_n hx hb dX12_town_124 rfl (lv_at hl 0 rfl) ?_
      refine tk_geti hC hK hw hT hinX12 kM_at0 (by decide) rfl 8 (by decide) (List.mem_of_getElem? (i := 3) rfl) rfl rfl dX12_town_125 (fun x164 c165 rx164 tx164 => ?_)
      refine wk_top f121_0_8 (c165.symm.trans c146) ?_
      refine lv_imul hx hb dX12_town_128 ?_
      refine lv_topi (fun x166 ex166 => ?_)
      have ex166 : x166.toInt = (10 : Int) * f121_0_8.toInt := by rw [ex166]; exact wk_mul (show (-2147483648) ≤ (10 : Int) * f121_0_8.toInt by omega) (show (10 : Int) * f121_0_8.toInt ≤ 2147483647 by omega)
      refine lv_icmp_ge (tgt := 153) hx hb dX12_town_129 (by decide) (fun c167 => ?_) (fun c167 => ?_)
      · have c167 : x166.toInt ≤ v121_2.toInt := wk_le.mp c167
        refine lv_iconst (v := 0) hx hb dX12_town_153 (by decide) ?_
        refine lv_istore_n (lv' := [(2, .int 0), (0, .ref (ad 0)), (1, .int v121_1)]) hx hb dX12_town_154 rfl hl (by decide) rfl (fun ls hl => ?_)
        exact L155 ((16 - (0 : Int)).toNat + 1) v121_1 0 f121_0_10 f121_0_20 f121_0_7 f121_0_8 f121_0_9 f121_12_0 f121_12_1 f121_12_2 f121_12_3 f121_12_9 H locs ls w127 (show 0 ≤ v121_1.toInt by omega) (by decide) (by decide) (show 0 ≤ f121_0_10.toInt by omega) (show f121_0_10.toInt ≤ 4 by omega) (show 0 ≤ f121_0_20.toInt by omega) (show f121_0_20.toInt ≤ 32 by omega) (show 0 ≤ f121_0_7.toInt by omega) (show f121_0_7.toInt ≤ 10 by omega) (show 0 ≤ f121_0_8.toInt by omega) (show f121_0_8.toInt ≤ 12 by omega) (show 0 ≤ f121_0_9.toInt by omega) (show f121_0_9.toInt ≤ 8 by omega) (show 0 ≤ f121_12_0.toInt by omega) (show f121_12_0.toInt ≤ 10 by omega) (show 0 ≤ f121_12_1.toInt by omega) (show f121_12_1.toInt ≤ 12 by omega) (show 0 ≤ f121_12_2.toInt by omega) (show f121_12_2.toInt ≤ 8 by omega) (show 0 ≤ f121_12_3.toInt by omega) (show f121_12_3.toInt ≤ 4 by omega) (show 0 ≤ f121_12_9.toInt by omega) (Nat.lt_succ_self _) hw hT hF c131 c134 c135 c136 c137 c140 c143 c146 c149 c152 c155 c158 c161 c163 (lv_sub hl [1, 2, 0] rfl)
      · have c167 : v121_2.toInt < x166.toInt := wk_leF c167
        refine lv_aload_n hx hb dX12_town_132 rfl (lv_at hl 0 rfl) ?_
        refine tk_getA hC hK hw hT hinX12 kM_at0 (by decide) rfl 26 (by decide) (List.mem_of_getElem? (i := 7) rfl) rfl rfl dX12_town_133 ?_
        refine lv_bipush (v := 10) hx hb dX12_town_136 (by decide) ?_
        refine lv_iload_n hx hb dX12_town_138 rfl (lv_at hl 2 rfl) ?_
        refine lv_iadd hx hb dX12_town_139 ?_
        refine lv_topi (fun x168 ex168 => ?_)
        have ex168 : x168.toInt = (10 : Int) + v121_2.toInt := by rw [ex168]; exact wk_add (show (-2147483648) ≤ (10 : Int) + v121_2.toInt by omega) (show (10 : Int) + v121_2.toInt ≤ 2147483647 by omega)
        refine lv_aload_n hx hb dX12_town_140 rfl (lv_at hl 0 rfl) ?_
        refine tk_getA hC hK hw hT hinX12 kM_at0 (by decide) rfl 11 (by decide) (List.mem_of_getElem? (i := 8) rfl) rfl rfl dX12_town_141 ?_
        refine lv_iload_n hx hb dX12_town_144 rfl (lv_at hl 2 rfl) ?_
        refine tk_iald hC hK hw hT kM_at6 rfl rfl (show 0 ≤ v121_2.toInt by omega) (show v121_2.toInt < 120 by omega) dX12_town_145 (fun x169 c170 rx169 tx169 => ?_)
        refine tk_iastR hC hK hw hT kM_at12 (by decide) rfl (show 0 ≤ x168.toInt by omega) (show x168.toInt < 296 by omega) (tk_rgS rfl 10 1 120 0 9 (by decide +kernel) ⟨(v121_2.toInt - 0).toNat, by omega, show x168.toInt.toNat = 10 + 1 * (v121_2.toInt - 0).toNat by omega⟩ (show 0 ≤ x169.toInt by omega) (show x169.toInt ≤ 9 by omega)) dX12_town_146 (fun H locs w171 hw hT k173 c172 => ?_)
        have hF := hF.put kM_at12 (inE_of (a := 10) (b := 129) (by decide) (show 10 ≤ x168.toInt.toNat by omega) (show x168.toInt.toNat ≤ 129 by omega)) k173
        have c174 := k173.gi (Or.inl (tk_ne kM_at0 kM_at12 (by decide))) c131
        have c175 := k173.gi (Or.inl (tk_ne kM_at0 kM_at12 (by decide))) c134
        have c176 := k173.gi (Or.inl (tk_ne kM_at0 kM_at12 (by decide))) c135
        have c177 := k173.gi (Or.inl (tk_ne kM_at0 kM_at12 (by decide))) c136
        have c178 := k173.gi (Or.inl (tk_ne kM_at0 kM_at12 (by decide))) c137
        have c179 := k173.gi (Or.inl (tk_ne kM_at0 kM_at12 (by decide))) c140
        have c180 := k173.gi (Or.inl (tk_ne kM_at0 kM_at12 (by decide))) c143
        have c181 := k173.gi (Or.inl (tk_ne kM_at0 kM_at12 (by decide))) c146
        have c182 := k173.gi (Or.inl (tk_ne kM_at0 kM_at12 (by decide))) c149
        have c183 := k173.gi (Or.inr (show 0 ≠ x168.toInt.toNat by omega)) c152
        have c184 := k173.gi (Or.inr (show 1 ≠ x168.toInt.toNat by omega)) c155
        have c185 := k173.gi (Or.inr (show 2 ≠ x168.toInt.toNat by omega)) c158
        have c186 := k173.gi (Or.inr (show 3 ≠ x168.toInt.toNat by omega)) c161
        have c187 := k173.gi (Or.inr (show 9 ≠ x168.toInt.toNat by omega)) c163
        obtain ⟨x188, ex188⟩ : ∃ y : Int32, y = v121_2 + Int32.ofInt 1 := ⟨_, rfl⟩
        refine lv_iinc (v := x188) (lv' := [(2, .int x188), (0, .ref (ad 0)), (1, .int v121_1)]) hx hb dX12_town_147 hl (k := 2) rfl ex188.symm (by decide) rfl (fun ls hl => ?_)
        have ex188 : x188.toInt = v121_2.toInt + 1 := by rw [ex188]; exact wk_add (y := 1) (show -2147483648 ≤ v121_2.toInt + 1 by omega) (show v121_2.toInt + 1 ≤ 2147483647 by omega)
        refine lv_goto (tgt := 121) hx hb dX12_town_150 (by decide) ?_
        exact ih121 v121_1 x188 f121_0_10 f121_0_20 f121_0_7 f121_0_8 f121_0_9 f121_12_0 f121_12_1 f121_12_2 f121_12_3 f121_12_9 H locs ls w171 (show 0 ≤ v121_1.toInt by omega) (show 0 ≤ x188.toInt by omega) (show x188.toInt ≤ 120 by omega) (show 0 ≤ f121_0_10.toInt by omega) (show f121_0_10.toInt ≤ 4 by omega) (show 0 ≤ f121_0_20.toInt by omega) (show f121_0_20.toInt ≤ 32 by omega) (show 0 ≤ f121_0_7.toInt by omega) (show f121_0_7.toInt ≤ 10 by omega) (show 0 ≤ f121_0_8.toInt by omega) (show f121_0_8.toInt ≤ 12 by omega) (show 0 ≤ f121_0_9.toInt by omega) (show f121_0_9.toInt ≤ 8 by omega) (show 0 ≤ f121_12_0.toInt by omega) (show f121_12_0.toInt ≤ 10 by omega) (show 0 ≤ f121_12_1.toInt by omega) (show f121_12_1.toInt ≤ 12 by omega) (show 0 ≤ f121_12_2.toInt by omega) (show f121_12_2.toInt ≤ 8 by omega) (show 0 ≤ f121_12_3.toInt by omega) (show f121_12_3.toInt ≤ 4 by omega) (show 0 ≤ f121_12_9.toInt by omega) (show (120 - x188.toInt).toNat < n121 by omega) hw hT hF c174 c175 c176 c177 c178 c179 c180 c181 c182 c183 c184 c185 c186 c187 (lv_sub hl [1, 2, 0] rfl)
  have L51 : ∀ (n51 : Nat) (v51_1 : Int32) (v51_2 : Int32) (f51_0_20 : Int32) (H : Heap) (locs : List Loc) (ls : Array Slot) (w189 : va_W), 0 ≤ v51_1.toInt → 0 ≤ v51_2.toInt → v51_2.toInt ≤ 296 → 0 ≤ f51_0_20.toInt → f51_0_20.toInt ≤ 32 → (296 - v51_2.toInt).toNat < n51 → Wd dC dI A s.heap H locs w189 → TW ksM ad cy B qr 12 w189 → FE ksM [(12, 1, 1), (12, 7, 7), (12, 8, 8), (12, 9, 9), (12, 10, 10), (12, 14, 14), (12, 15, 15), (12, 16, 16), (12, 17, 17), (12, 18, 18), (12, 20, 20), (62, 0, 7), (65, 0, 120), (66, 0, 16), (67, 0, 12), (71, 0, 0), (71, 0, 295), (71, 1, 1), (71, 2, 2), (71, 3, 3), (71, 9, 9), (71, 10, 129), (71, 140, 155), (71, 156, 167)] w0 w189 → gi w189 0 1 = 0 → gi w189 0 15 = 0 → gi w189 0 17 = 6 → gi w189 0 18 = 0 → gi w189 0 20 = f51_0_20 → lv_has ls 3 [(0, .ref (ad 0)), (1, .int v51_1), (2, .int v51_2)] → W p l e ({ frames := 7, cells := 0, slots := 0, locals := 149 }) s m (List.toArray [.ref (ad 0)]) below meth c H locs 0 0 (MQ below (va_Qi (P_X12_town_1 ad cy B qr s1  w0) (fun u : va_W => wpost dC dI cy A u) A) (List.toArray [.ref (ad 0)]) s 0 0 A) (F0 m 51 ls []) := by
    intro n51
    induction n51 with
    | zero => intro v51_1 v51_2 f51_0_20 H locs ls w189 r190 r191 t192 r197 t198 hm51 hw hT hF c193 c194 c195 c196 c199 hl; omega
    | succ n51 ih51 =>
      intro v51_1 v51_2 f51_0_20 H locs ls w189 r190 r191 t192 r197 t198 hm51 hw hT hF c193 c194 c195 c196 c199 hl
      refine lv_iload_n hx hb dX12_town_51 rfl (lv_at hl 2 rfl) ?_
      refine lv_sipush (v := 296) hx hb dX12_town_52 (by decide) ?_
      refine lv_icmp_ge (tgt := 71) hx hb dX12_town_55 (by decide) (fun c200 => ?_) (fun c200 => ?_)
      · have c200 : (296 : Int) ≤ v51_2.toInt := wk_le.mp c200
        refine lv_aload_n hx hb dX12_town_71 rfl (lv_at hl 0 rfl) ?_
        refine tk_getA hC hK hw hT hinX12 kM_at0 (by decide) rfl 26 (by decide) (List.mem_of_getElem? (i := 7) rfl) rfl rfl dX12_town_72 ?_
        refine lv_iconst (v := 0) hx hb dX12_town_75 (by decide) ?_
        refine lv_aload_n hx hb dX12_town_76 rfl (lv_at hl 0 rfl) ?_
        refine tk_geti hC hK hw hT hinX12 kM_at0 (by decide) rfl 7 (by decide) (List.mem_of_getElem? (i := 2) rfl) rfl rfl dX12_town_77 (fun x201 c202 rx201 tx201 => ?_)
        refine tk_iastR hC hK hw hT kM_at12 (by decide) rfl (by decide) (by decide) (tk_rgS rfl 0 1 1 0 10 (by decide +kernel) ⟨0, by decide, by decide⟩ (show 0 ≤ x201.toInt by omega) (show x201.toInt ≤ 10 by omega)) dX12_town_80 (fun H locs w203 hw hT k205 c204 => ?_)
        have hF := hF.put kM_at12 (inE_of (a := 0) (b := 0) (by decide) (by decide) (by decide)) k205
        have c206 := k205.gi (Or.inl (tk_ne kM_at0 kM_at12 (by decide))) c193
        have c207 := k205.gi (Or.inl (tk_ne kM_at0 kM_at12 (by decide))) c194
        have c208 := k205.gi (Or.inl (tk_ne kM_at0 kM_at12 (by decide))) c195
        have c209 := k205.gi (Or.inl (tk_ne kM_at0 kM_at12 (by decide))) c196
        have c210 := k205.gi (Or.inl (tk_ne kM_at0 kM_at12 (by decide))) c199
        have c211 := k205.gi (Or.inl (tk_ne kM_at0 kM_at12 (by decide))) c202
        have c204 : gi w203 12 0 = x201 := c204
        refine lv_aload_n hx hb dX12_town_81 rfl (lv_at hl 0 rfl) ?_
        refine tk_getA hC hK hw hT hinX12 kM_at0 (by decide) rfl 26 (by decide) (List.mem_of_getElem? (i := 7) rfl) rfl rfl dX12_town_82 ?_
        refine lv_iconst (v := 1) hx hb dX12_town_85 (by decide) ?_
        refine lv_aload_n hx hb dX12_town_86 rfl (lv_at hl 0 rfl) ?_
        refine tk_geti hC hK hw hT hinX12 kM_at0 (by decide) rfl 8 (by decide) (List.mem_of_getElem? (i := 3) rfl) rfl rfl dX12_town_87 (fun x212 c213 rx212 tx212 => ?_)
        refine tk_iastR hC hK hw hT kM_at12 (by decide) rfl (by decide) (by decide) ((tk_rg1 rfl).mpr ⟨(show 0 ≤ x212.toInt by omega), (show x212.toInt ≤ if (71 : Nat) = 71 then (12 : Int) else 12 from (show x212.toInt ≤ 12 by omega))⟩) dX12_town_90 (fun H locs w214 hw hT k216 c215 => ?_)
        have hF := hF.put kM_at12 (inE_of (a := 1) (b := 1) (by decide) (by decide) (by decide)) k216
        have c217 := k216.gi (Or.inl (tk_ne kM_at0 kM_at12 (by decide))) c206
        have c218 := k216.gi (Or.inl (tk_ne kM_at0 kM_at12 (by decide))) c207
        have c219 := k216.gi (Or.inl (tk_ne kM_at0 kM_at12 (by decide))) c208
        have c220 := k216.gi (Or.inl (tk_ne kM_at0 kM_at12 (by decide))) c209
        have c221 := k216.gi (Or.inl (tk_ne kM_at0 kM_at12 (by decide))) c210
        have c222 := k216.gi (Or.inl (tk_ne kM_at0 kM_at12 (by decide))) c211
        have c223 := k216.gi (Or.inr (by decide)) c204
        have c224 := k216.gi (Or.inl (tk_ne kM_at0 kM_at12 (by decide))) c213
        have c215 : gi w214 12 1 = x212 := c215
        refine lv_aload_n hx hb dX12_town_91 rfl (lv_at hl 0 rfl) ?_
        refine tk_getA hC hK hw hT hinX12 kM_at0 (by decide) rfl 26 (by decide) (List.mem_of_getElem? (i := 7) rfl) rfl rfl dX12_town_92 ?_
        refine lv_iconst (v := 2) hx hb dX12_town_95 (by decide) ?_
        refine lv_aload_n hx hb dX12_town_96 rfl (lv_at hl 0 rfl) ?_
        refine tk_geti hC hK hw hT hinX12 kM_at0 (by decide) rfl 9 (by decide) (List.mem_of_getElem? (i := 4) rfl) rfl rfl dX12_town_97 (fun x225 c226 rx225 tx225 => ?_)
        refine tk_iastR hC hK hw hT kM_at12 (by decide) rfl (by decide) (by decide) (tk_rgS rfl 2 1 1 0 8 (by decide +kernel) ⟨0, by decide, by decide⟩ (show 0 ≤ x225.toInt by omega) (show x225.toInt ≤ 8 by omega)) dX12_town_100 (fun H locs w227 hw hT k229 c228 => ?_)
        have hF := hF.put kM_at12 (inE_of (a := 2) (b := 2) (by decide) (by decide) (by decide)) k229
        have c230 := k229.gi (Or.inl (tk_ne kM_at0 kM_at12 (by decide))) c217
        have c231 := k229.gi (Or.inl (tk_ne kM_at0 kM_at12 (by decide))) c218
        have c232 := k229.gi (Or.inl (tk_ne kM_at0 kM_at12 (by decide))) c219
        have c233 := k229.gi (Or.inl (tk_ne kM_at0 kM_at12 (by decide))) c220
        have c234 := k229.gi (Or.inl (tk_ne kM_at0 kM_at12 (by decide))) c221
        have c235 := k229.gi (Or.inl (tk_ne kM_at0 kM_at12 (by decide))) c222
        have c236 := k229.gi (Or.inr (by decide)) c223
        have c237 := k229.gi (Or.inl (tk_ne kM_at0 kM_at12 (by decide))) c224
        have c238 := k229.gi (Or.inr (by decide)) c215
        have c239 := k229.gi (Or.inl (tk_ne kM_at0 kM_at12 (by decide))) c226
        have c228 : gi w227 12 2 = x225 := c228
        refine lv_aload_n hx hb dX12_town_101 rfl (lv_at hl 0 rfl) ?_
        refine tk_getA hC hK hw hT hinX12 kM_at0 (by decide) rfl 26 (by decide) (List.mem_of_getElem? (i := 7) rfl) rfl rfl dX12_town_102 ?_
        refine lv_iconst (v := 3) hx hb dX12_town_105 (by decide) ?_
        refine lv_aload_n hx hb dX12_town_106 rfl (lv_at hl 0 rfl) ?_
        refine tk_geti hC hK hw hT hinX12 kM_at0 (by decide) rfl 10 (by decide) (List.mem_of_getElem? (i := 5) rfl) rfl rfl dX12_town_107 (fun x240 c241 rx240 tx240 => ?_)
        refine tk_iastR hC hK hw hT kM_at12 (by decide) rfl (by decide) (by decide) (tk_rgS rfl 3 1 1 0 4 (by decide +kernel) ⟨0, by decide, by decide⟩ (show 0 ≤ x240.toInt by omega) (show x240.toInt ≤ 4 by omega)) dX12_town_110 (fun H locs w242 hw hT k244 c243 => ?_)
        have hF := hF.put kM_at12 (inE_of (a := 3) (b := 3) (by decide) (by decide) (by decide)) k244
        have c245 := k244.gi (Or.inl (tk_ne kM_at0 kM_at12 (by decide))) c230
        have c246 := k244.gi (Or.inl (tk_ne kM_at0 kM_at12 (by decide))) c231
        have c247 := k244.gi (Or.inl (tk_ne kM_at0 kM_at12 (by decide))) c232
        have c248 := k244.gi (Or.inl (tk_ne kM_at0 kM_at12 (by decide))) c233
        have c249 := k244.gi (Or.inl (tk_ne kM_at0 kM_at12 (by decide))) c234
        have c250 := k244.gi (Or.inl (tk_ne kM_at0 kM_at12 (by decide))) c235
        have c251 := k244.gi (Or.inr (by decide)) c236
        have c252 := k244.gi (Or.inl (tk_ne kM_at0 kM_at12 (by decide))) c237
        have c253 := k244.gi (Or.inr (by decide)) c238
        have c254 := k244.gi (Or.inl (tk_ne kM_at0 kM_at12 (by decide))) c239
        have c255 := k244.gi (Or.inr (by decide)) c228
        have c256 := k244.gi (Or.inl (tk_ne kM_at0 kM_at12 (by decide))) c241
        have c243 : gi w242 12 3 = x240 := c243
        refine lv_aload_n hx hb dX12_town_111 rfl (lv_at hl 0 rfl) ?_
        refine tk_getA hC hK hw hT hinX12 kM_at0 (by decide) rfl 26 (by decide) (List.mem_of_getElem? (i := 7) rfl) rfl rfl dX12_town_112 ?_
        refine lv_bipush (v := 9) hx hb dX12_town_115 (by decide) ?_
        refine lv_iload_n hx hb dX12_town_117 rfl (lv_at hl 1 rfl) ?_
        refine tk_iastR hC hK hw hT kM_at12 (by decide) rfl (by decide) (by decide) (tk_rgS rfl 9 1 1 0 2147483647 (by decide +kernel) ⟨0, by decide, by decide⟩ (show 0 ≤ v51_1.toInt by omega) (wk_i32 v51_1).2) dX12_town_118 (fun H locs w257 hw hT k259 c258 => ?_)
        have hF := hF.put kM_at12 (inE_of (a := 9) (b := 9) (by decide) (by decide) (by decide)) k259
        have c260 := k259.gi (Or.inl (tk_ne kM_at0 kM_at12 (by decide))) c245
        have c261 := k259.gi (Or.inl (tk_ne kM_at0 kM_at12 (by decide))) c246
        have c262 := k259.gi (Or.inl (tk_ne kM_at0 kM_at12 (by decide))) c247
        have c263 := k259.gi (Or.inl (tk_ne kM_at0 kM_at12 (by decide))) c248
        have c264 := k259.gi (Or.inl (tk_ne kM_at0 kM_at12 (by decide))) c249
        have c265 := k259.gi (Or.inl (tk_ne kM_at0 kM_at12 (by decide))) c250
        have c266 := k259.gi (Or.inr (by decide)) c251
        have c267 := k259.gi (Or.inl (tk_ne kM_at0 kM_at12 (by decide))) c252
        have c268 := k259.gi (Or.inr (by decide)) c253
        have c269 := k259.gi (Or.inl (tk_ne kM_at0 kM_at12 (by decide))) c254
        have c270 := k259.gi (Or.inr (by decide)) c255
        have c271 := k259.gi (Or.inl (tk_ne kM_at0 kM_at12 (by decide))) c256
        have c272 := k259.gi (Or.inr (by decide)) c243
        have c258 : gi w257 12 9 = v51_1 := c258
        refine lv_iconst (v := 0) hx hb dX12_town_119 (by decide) ?_
        refine lv_istore_n (lv' := [(2, .int 0), (0, .ref (ad 0)), (1, .int v51_1)]) hx hb dX12_town_120 rfl hl (by decide) rfl (fun ls hl => ?_)
        exact L121 ((120 - (0 : Int)).toNat + 1) v51_1 0 x240 f51_0_20 x201 x212 x225 x201 x212 x225 x240 v51_1 H locs ls w257 (show 0 ≤ v51_1.toInt by omega) (by decide) (by decide) (show 0 ≤ x240.toInt by omega) (show x240.toInt ≤ 4 by omega) (show 0 ≤ f51_0_20.toInt by omega) (show f51_0_20.toInt ≤ 32 by omega) (show 0 ≤ x201.toInt by omega) (show x201.toInt ≤ 10 by omega) (show 0 ≤ x212.toInt by omega) (show x212.toInt ≤ 12 by omega) (show 0 ≤ x225.toInt by omega) (show x225.toInt ≤ 8 by omega) (show 0 ≤ x201.toInt by omega) (show x201.toInt ≤ 10 by omega) (show 0 ≤ x212.toInt by omega) (show x212.toInt ≤ 12 by omega) (show 0 ≤ x225.toInt by omega) (show x225.toInt ≤ 8 by omega) (show 0 ≤ x240.toInt by omega) (show x240.toInt ≤ 4 by omega) (show 0 ≤ v51_1.toInt by omega) (Nat.lt_succ_self _) hw hT hF c260 c271 c261 c262 c263 c264 c265 c267 c269 c266 c268 c270 c272 c258 (lv_sub hl [1, 2, 0] rfl)
      · have c200 : v51_2.toInt < (296 : Int) := wk_leF c200
        refine lv_aload_n hx hb dX12_town_58 rfl (lv_at hl 0 rfl) ?_
        refine tk_getA hC hK hw hT hinX12 kM_at0 (by decide) rfl 26 (by decide) (List.mem_of_getElem? (i := 7) rfl) rfl rfl dX12_town_59 ?_
        refine lv_iload_n hx hb dX12_town_62 rfl (lv_at hl 2 rfl) ?_
        refine lv_iconst (v := 0) hx hb dX12_town_63 (by decide) ?_
        refine tk_iastR hC hK hw hT kM_at12 (by decide) rfl (show 0 ≤ v51_2.toInt by omega) (show v51_2.toInt < 296 by omega) (tk_rg0 rfl (show 0 ≤ B by omega) (by decide)) dX12_town_64 (fun H locs w273 hw hT k275 c274 => ?_)
        have hF := hF.put kM_at12 (inE_of (a := 0) (b := 295) (by decide) (show 0 ≤ v51_2.toInt.toNat by omega) (show v51_2.toInt.toNat ≤ 295 by omega)) k275
        have c276 := k275.gi (Or.inl (tk_ne kM_at0 kM_at12 (by decide))) c193
        have c277 := k275.gi (Or.inl (tk_ne kM_at0 kM_at12 (by decide))) c194
        have c278 := k275.gi (Or.inl (tk_ne kM_at0 kM_at12 (by decide))) c195
        have c279 := k275.gi (Or.inl (tk_ne kM_at0 kM_at12 (by decide))) c196
        have c280 := k275.gi (Or.inl (tk_ne kM_at0 kM_at12 (by decide))) c199
        obtain ⟨x281, ex281⟩ : ∃ y : Int32, y = v51_2 + Int32.ofInt 1 := ⟨_, rfl⟩
        refine lv_iinc (v := x281) (lv' := [(2, .int x281), (0, .ref (ad 0)), (1, .int v51_1)]) hx hb dX12_town_65 hl (k := 2) rfl ex281.symm (by decide) rfl (fun ls hl => ?_)
        have ex281 : x281.toInt = v51_2.toInt + 1 := by rw [ex281]; exact wk_add (y := 1) (show -2147483648 ≤ v51_2.toInt + 1 by omega) (show v51_2.toInt + 1 ≤ 2147483647 by omega)
        refine lv_goto (tgt := 51) hx hb dX12_town_68 (by decide) ?_
        exact ih51 v51_1 x281 f51_0_20 H locs ls w273 (show 0 ≤ v51_1.toInt by omega) (show 0 ≤ x281.toInt by omega) (show x281.toInt ≤ 296 by omega) (show 0 ≤ f51_0_20.toInt by omega) (show f51_0_20.toInt ≤ 32 by omega) (show (296 - x281.toInt).toNat < n51 by omega) hw hT hF c276 c277 c278 c279 c280 (lv_sub hl [1, 2, 0] rfl)
  refine lv_aload_n hx hb dX12_town_0 rfl (lv_at hl 0 rfl) ?_
  refine lv_bipush (v := 6) hx hb dX12_town_1 (by decide) ?_
  refine tk_puti hC hK hw hT hinX12 tyX12_ok nmX12 kM_at0 (by decide) rfl rfl 17 (by decide) (List.mem_of_getElem? (i := 1) rfl) rfl rfl rfl rfl (by decide) (by decide) dX12_town_3 (fun H locs w282 hw hT k284 c283 => ?_)
  have hF := hF.put kM_at0 (k := 17) (by decide) k284
  refine lv_aload_n hx hb dX12_town_6 rfl (lv_at hl 0 rfl) ?_
  refine lv_iconst (v := 0) hx hb dX12_town_7 (by decide) ?_
  refine tk_puti hC hK hw hT hinX12 tyX12_ok nmX12 kM_at0 (by decide) rfl rfl 7 (by decide) (List.mem_of_getElem? (i := 2) rfl) rfl rfl rfl rfl (by decide) (by decide) dX12_town_8 (fun H locs w285 hw hT k287 c286 => ?_)
  have hF := hF.put kM_at0 (k := 7) (by decide) k287
  have c288 := k287.gi (Or.inr (by decide)) c283
  refine lv_aload_n hx hb dX12_town_11 rfl (lv_at hl 0 rfl) ?_
  refine lv_iconst (v := 0) hx hb dX12_town_12 (by decide) ?_
  refine tk_puti hC hK hw hT hinX12 tyX12_ok nmX12 kM_at0 (by decide) rfl rfl 8 (by decide) (List.mem_of_getElem? (i := 3) rfl) rfl rfl rfl rfl (by decide) (by decide) dX12_town_13 (fun H locs w289 hw hT k291 c290 => ?_)
  have hF := hF.put kM_at0 (k := 8) (by decide) k291
  have c292 := k291.gi (Or.inr (by decide)) c288
  have c293 := k291.gi (Or.inr (by decide)) c286
  refine lv_aload_n hx hb dX12_town_16 rfl (lv_at hl 0 rfl) ?_
  refine lv_iconst (v := 0) hx hb dX12_town_17 (by decide) ?_
  refine tk_puti hC hK hw hT hinX12 tyX12_ok nmX12 kM_at0 (by decide) rfl rfl 9 (by decide) (List.mem_of_getElem? (i := 4) rfl) rfl rfl rfl rfl (by decide) (by decide) dX12_town_18 (fun H locs w294 hw hT k296 c295 => ?_)
  have hF := hF.put kM_at0 (k := 9) (by decide) k296
  have c297 := k296.gi (Or.inr (by decide)) c292
  have c298 := k296.gi (Or.inr (by decide)) c293
  have c299 := k296.gi (Or.inr (by decide)) c290
  refine lv_aload_n hx hb dX12_town_21 rfl (lv_at hl 0 rfl) ?_
  refine lv_iconst (v := 0) hx hb dX12_town_22 (by decide) ?_
  refine tk_puti hC hK hw hT hinX12 tyX12_ok nmX12 kM_at0 (by decide) rfl rfl 10 (by decide) (List.mem_of_getElem? (i := 5) rfl) rfl rfl rfl rfl (by decide) (by decide) dX12_town_23 (fun H locs w300 hw hT k302 c301 => ?_)
  have hF := hF.put kM_at0 (k := 10) (by decide) k302
  have c303 := k302.gi (Or.inr (by decide)) c297
  have c304 := k302.gi (Or.inr (by decide)) c298
  have c305 := k302.gi (Or.inr (by decide)) c299
  have c306 := k302.gi (Or.inr (by decide)) c295
  refine lv_aload_n hx hb dX12_town_26 rfl (lv_at hl 0 rfl) ?_
  obtain ⟨x307, c308, rx307, tx307⟩ := hT.rdi (lo := 0) (hi := 32) (k := 20) kM_at0 (by decide) rfl
  refine tk_Vi hC hK hw hT hA hE hSR kM_at0 (by decide) rfl (k_X12_readsAll_1 l adK adV dC dI cy ad B (by omega) (by omega) qr s1    w300 H.size hT c303 x307 c308 (show 0 ≤ x307.toInt by omega) (show x307.toInt ≤ 32 by omega)) (cwV 0 hC.2.2.2.2 gX12_town_X12_readsAll rfl rfl rfl (by decide +kernel) ⟨Nat.le_of_ble_eq_true rfl, Nat.le_of_ble_eq_true rfl⟩) rfl hl.1 rfl (Nat.le_of_ble_eq_true rfl) dX12_town_27 (fun r309 w311 H locs hp310 hw => ?_)
  obtain ⟨hT, k312, hg333⟩ := hp310
  have hF := hF.tr k312 (by decide)
  have c334 := k312.gi kM_at0 (by decide) c303
  rcases hg333 with ⟨rfl, ⟨x313, c314, rx313, tx313⟩, ⟨x315, c316, rx315, tx315⟩, ⟨x317, c318, rx317, tx317⟩, ⟨x319, c320, rx319, tx319⟩, ⟨x321, c322, rx321, tx321⟩⟩ | ⟨rfl, ⟨x323, c324, rx323, tx323⟩, ⟨x325, c326, rx325, tx325⟩, ⟨x327, c328, rx327, tx327⟩, ⟨x329, c330, rx329, tx329⟩, ⟨x331, c332, rx331, tx331⟩⟩
  · have ex317 : x317.toInt = (6 : Int) := by rw [show x317 = 6 from c318.symm.trans c334]; decide
    refine lv_if_ne (tgt := 41) hx hb dX12_town_30 (by decide) (fun c => absurd (by decide) c) (fun _ => ?_)
    refine lv_bipush (v := (-2)) hx hb dX12_town_33 (by decide) ?_
    refine lv_aload_n hx hb dX12_town_35 rfl (lv_at hl 0 rfl) ?_
    refine tk_geti hC hK hw hT hinX12 kM_at0 (by decide) rfl 15 (by decide) (List.mem_of_getElem? (i := 6) rfl) rfl rfl dX12_town_36 (fun x335 c336 rx335 tx335 => ?_)
    refine wk_top x315 (c336.symm.trans c316) ?_
    refine lv_isub hx hb dX12_town_39 ?_
    refine lv_topi (fun x337 ex337 => ?_)
    have ex337 : x337.toInt = (-2 : Int) - x315.toInt := by rw [ex337]; exact wk_sub (show (-2147483648) ≤ (-2 : Int) - x315.toInt by omega) (show (-2 : Int) - x315.toInt ≤ 2147483647 by omega)
    exact tk_iret hC hr hlocks hK ⟨hT, hF, (Or.inl ⟨(show (-3207) ≤ x337.toInt by omega), (show x337.toInt ≤ (-3) by omega), ⟨x313, c314, (show 0 ≤ x313.toInt by omega), (show x313.toInt ≤ 0 by omega)⟩, ⟨x315, c316, (show 1 ≤ x315.toInt by omega), (show x315.toInt ≤ 3205 by omega)⟩, ⟨6, c334, (by decide), (by decide)⟩, ⟨x319, c320, (show 0 ≤ x319.toInt by omega), (show x319.toInt ≤ 0 by omega)⟩, ⟨x321, c322, (show 0 ≤ x321.toInt by omega), (show x321.toInt ≤ 32 by omega)⟩⟩)⟩ hw dX12_town_40
  · have ex327 : x327.toInt = (6 : Int) := by rw [show x327 = 6 from c328.symm.trans c334]; decide
    refine lv_if_ne (tgt := 41) hx hb dX12_town_30 (by decide) (fun _ => ?_) (fun c => absurd c (by decide))
    refine lv_aload_n hx hb dX12_town_41 rfl (lv_at hl 0 rfl) ?_
    refine tk_getA hC hK hw hT hinX12 kM_at0 (by decide) rfl 26 (by decide) (List.mem_of_getElem? (i := 7) rfl) rfl rfl dX12_town_42 ?_
    refine lv_bipush (v := 9) hx hb dX12_town_45 (by decide) ?_
    refine tk_ialdR hC hK hw hT kM_at12 rfl (by decide) (by decide) dX12_town_47 (fun x338 c339 Ex338 => ?_)
    have bx338 := tk_rgI rfl 9 1 1 0 2147483647 (by decide +kernel) ⟨0, by decide, by decide⟩ Ex338
    have c339 : gi w311 12 9 = x338 := c339
    refine lv_istore_n (lv' := [(1, .int x338), (0, .ref (ad 0))]) hx hb dX12_town_48 rfl hl (by decide) rfl (fun ls hl => ?_)
    refine lv_iconst (v := 0) hx hb dX12_town_49 (by decide) ?_
    refine lv_istore_n (lv' := [(2, .int 0), (1, .int x338), (0, .ref (ad 0))]) hx hb dX12_town_50 rfl hl (by decide) rfl (fun ls hl => ?_)
    obtain rfl : x323 = 0 := wk_eq.mpr (show x323.toInt = 0 by omega)
    obtain rfl : x325 = 0 := wk_eq.mpr (show x325.toInt = 0 by omega)
    obtain rfl : x329 = 0 := wk_eq.mpr (show x329.toInt = 0 by omega)
    exact L51 ((296 - (0 : Int)).toNat + 1) x338 0 x331 H locs ls w311 (show 0 ≤ x338.toInt by omega) (by decide) (by decide) (show 0 ≤ x331.toInt by omega) (show x331.toInt ≤ 32 by omega) (Nat.lt_succ_self _) hw hT hF c324 c326 c334 c330 c332 (lv_sub hl [2, 1, 0] rfl)
abbrev P_X12_isStreet_1 (ad : Nat → Nat) (cy : Nat → ClassId) (B : Int) (qr : Nat) (s1 : Int) (a1 : Int32) (w0 : va_W) : Int32 → va_W → Prop := fun r u => TW ksM ad cy B qr 12 u ∧ FE ksM ([] : List (Nat × Nat × Nat)) w0 u ∧ ((r = 0) ∨ (r = 1 ∧ 0 ≤ a1.toInt ∧ a1.toInt ≤ 11 ∧ (∃ y : Int32, gi u 12 1 = y ∧ 1 ≤ y.toInt ∧ y.toInt ≤ 12)))
set_option maxHeartbeats 4000000 in
set_option maxRecDepth 100000 in
theorem k_X12_isStreet_1 (l : Launch) (adK adV : Nat → Nat) (dC : Nat → ClassId) (dI : Nat → Nat → Nat) (cy : Nat → ClassId) (ad : Nat → Nat) (B : Int) (hB0 : 100000 ≤ B) (hB1 : B ≤ 1073741824) (qr : Nat) (s1 : Int)  (a1 : Int32) (w0 : va_W) (sz : Nat) (hT : TW ksM ad cy B qr 12 w0)  : Met l yX12_isStreet wsX12_isStreet ({ frames := 1, cells := 0, slots := 0, locals := 12 }) (va_Pc [.ref (ad 0), .int a1] (wpreS adK adV dC dI cy sz w0)) (va_Qi (P_X12_isStreet_1 ad cy B qr s1 a1 w0) (fun u : va_W => wpost dC dI cy (va_A w0 sz) u) (va_A w0 sz)) 0 0 (va_A w0 sz) := by
  refine Met.ofW (cc := cX12_isStreet) (maxL := 2) (ret := (some .boolean)) (by decide) rfl ?_
  intro p e s m args below meth c s₁ Bk hml hv
  obtain ⟨rfl, ⟨hsz, hP, hK, hD0⟩, hE, hSR⟩ := hv
  have hx := Bk.exec
  have hb := Bk.bytes
  have hr := Bk.returns
  have hlocks := Bk.notSynchronized
  have hC : CallFix p m c cX12_isStreet 2 s _ wsX12_isStreet RX12 := ⟨hx, hb, hml, findClass_of_methodNamed Bk.named, atoms_spec (ws := wsX12_isStreet) Bk.pre⟩
  subst hsz
  have hD := hD0.self (sz := s.heap.size)
  generalize hAe : va_A w0 s.heap.size = A at hD hE ⊢
  have hA : ∀ q : Nat, s.heap.size ≤ q → A q := fun q h => by rw [← hAe]; exact Or.inr h
  have hw : Wd dC dI A s.heap s.heap [] w0 := ⟨hP, hD, va_S.rf⟩
  have hF : FE ksM ([] : List (Nat × Nat × Nat)) w0 w0 := FE.rf
  have hl := lv_entry ([.ref (ad 0), .int a1]) (n := 2) (Nat.le_of_ble_eq_true rfl)
  rw [lg_entry_eq]
  generalize (lg_sl ([.ref (ad 0), .int a1]) ++ List.replicate (2 - (lg_sl ([.ref (ad 0), .int a1])).length) Slot.unset).toArray = ls at hl ⊢
  have hl : lv_has ls 2 [(0, .ref (ad 0)), (1, .int a1)] := hl
  generalize hloc : ([] : List Loc) = locs at hw ⊢
  have hinX12 : ∀ w ∈ u_ws RX12 TX12 42, w ∈ wsX12_isStreet := fun _ h => List.mem_cons_of_mem _ (List.mem_append_right _ (h))
  have J18 : ∀ (H : Heap) (locs : List Loc) (ls : Array Slot) (w1 : va_W), Wd dC dI A s.heap H locs w1 → TW ksM ad cy B qr 12 w1 → FE ksM ([] : List (Nat × Nat × Nat)) w0 w1 → lv_has ls 2 [(0, .ref (ad 0)), (1, .int a1)] → W p l e ({ frames := 1, cells := 0, slots := 0, locals := 12 }) s m (List.toArray [.ref (ad 0), .int a1]) below meth c H locs 0 0 (MQ below (va_Qi (P_X12_isStreet_1 ad cy B qr s1 a1 w0) (fun u : va_W => wpost dC dI cy A u) A) (List.toArray [.ref (ad 0), .int a1]) s 0 0 A) (F0 m 18 ls []) := by
    intro H locs ls w1 hw hT hF hl
    refine lv_iconst (v := 0) hx hb dX12_isStreet_18 (by decide) ?_
    exact tk_zret hC hr rfl hlocks hK ⟨hT, hF, (Or.inl rfl)⟩ hw dX12_isStreet_19
  refine lv_iload_n hx hb dX12_isStreet_0 rfl (lv_at hl 1 rfl) ?_
  refine lv_if_lt (tgt := 18) hx hb dX12_isStreet_1 (by decide) (fun c2 => ?_) (fun c2 => ?_)
  · have c2 : a1.toInt < (0 : Int) := wk_lt.mp c2
    exact J18  s.heap locs ls w0   hw hT hF  (lv_sub hl [0, 1] rfl)
  · have c2 : (0 : Int) ≤ a1.toInt := wk_ltF c2
    refine lv_iload_n hx hb dX12_isStreet_4 rfl (lv_at hl 1 rfl) ?_
    refine lv_aload_n hx hb dX12_isStreet_5 rfl (lv_at hl 0 rfl) ?_
    refine tk_getA hC hK hw hT hinX12 kM_at0 (by decide) rfl 26 (by decide) (List.mem_of_getElem? (i := 1) rfl) rfl rfl dX12_isStreet_6 ?_
    refine lv_iconst (v := 1) hx hb dX12_isStreet_9 (by decide) ?_
    refine tk_ialdR hC hK hw hT kM_at12 rfl (by decide) (by decide) dX12_isStreet_10 (fun x3 c4 Ex3 => ?_)
    have bx3 : 0 ≤ x3.toInt ∧ x3.toInt ≤ 12 := (tk_rg1 rfl).mp Ex3
    have c4 : gi w0 12 1 = x3 := c4
    refine lv_icmp_ge (tgt := 18) hx hb dX12_isStreet_11 (by decide) (fun c5 => ?_) (fun c5 => ?_)
    · have c5 : x3.toInt ≤ a1.toInt := wk_le.mp c5
      exact J18  s.heap locs ls w0   hw hT hF  (lv_sub hl [0, 1] rfl)
    · have c5 : a1.toInt < x3.toInt := wk_leF c5
      refine lv_iconst (v := 1) hx hb dX12_isStreet_14 (by decide) ?_
      refine lv_goto (tgt := 19) hx hb dX12_isStreet_15 (by decide) ?_
      exact tk_zret hC hr rfl hlocks hK ⟨hT, hF, (Or.inr ⟨rfl, (show 0 ≤ a1.toInt by omega), (show a1.toInt ≤ 11 by omega), ⟨x3, c4, (show 1 ≤ x3.toInt by omega), (show x3.toInt ≤ 12 by omega)⟩⟩)⟩ hw dX12_isStreet_19
abbrev P_X12_in_9 (ad : Nat → Nat) (cy : Nat → ClassId) (B : Int) (qr : Nat) (s1 : Int) (a0 : Int64) (w0 : va_W) : Int32 → va_W → Prop := fun r u => TW ksM ad cy B qr 12 u ∧ FE ksM ([] : List (Nat × Nat × Nat)) w0 u ∧ ((r = 0) ∨ (r = 1 ∧ 0 ≤ a0.toInt ∧ a0.toInt ≤ 9))
set_option maxHeartbeats 4000000 in
set_option maxRecDepth 100000 in
theorem k_X12_in_9 (l : Launch) (adK adV : Nat → Nat) (dC : Nat → ClassId) (dI : Nat → Nat → Nat) (cy : Nat → ClassId) (ad : Nat → Nat) (B : Int) (hB0 : 100000 ≤ B) (hB1 : B ≤ 1073741824) (qr : Nat) (s1 : Int)  (a0 : Int64) (ra0 : (-2147483648) ≤ a0.toInt) (ta0 : a0.toInt ≤ 2147483647) (w0 : va_W) (sz : Nat) (hT : TW ksM ad cy B qr 12 w0)  : Met l yX12_in wsX12_in ({ frames := 1, cells := 0, slots := 0, locals := 12 }) (va_Pc [.long a0, .long 0, .long 9] (wpreS adK adV dC dI cy sz w0)) (va_Qi (P_X12_in_9 ad cy B qr s1 a0 w0) (fun u : va_W => wpost dC dI cy (va_A w0 sz) u) (va_A w0 sz)) 0 0 (va_A w0 sz) := by
  refine Met.ofW (cc := cX12_in) (maxL := 6) (ret := (some .boolean)) (by decide) rfl ?_
  intro p e s m args below meth c s₁ Bk hml hv
  obtain ⟨rfl, ⟨hsz, hP, hK, hD0⟩, hE, hSR⟩ := hv
  have hx := Bk.exec
  have hb := Bk.bytes
  have hr := Bk.returns
  have hlocks := Bk.notSynchronized
  have hC : CallFix p m c cX12_in 6 s _ wsX12_in RX12 := ⟨hx, hb, hml, findClass_of_methodNamed Bk.named, atoms_spec (ws := wsX12_in) Bk.pre⟩
  subst hsz
  have hD := hD0.self (sz := s.heap.size)
  generalize hAe : va_A w0 s.heap.size = A at hD hE ⊢
  have hA : ∀ q : Nat, s.heap.size ≤ q → A q := fun q h => by rw [← hAe]; exact Or.inr h
  have hw : Wd dC dI A s.heap s.heap [] w0 := ⟨hP, hD, va_S.rf⟩
  have hF : FE ksM ([] : List (Nat × Nat × Nat)) w0 w0 := FE.rf
  have hl := lv_entry ([.long a0, .long 0, .long 9]) (n := 6) (Nat.le_of_ble_eq_true rfl)
  rw [lg_entry_eq]
  generalize (lg_sl ([.long a0, .long 0, .long 9]) ++ List.replicate (6 - (lg_sl ([.long a0, .long 0, .long 9])).length) Slot.unset).toArray = ls at hl ⊢
  have hl : lv_has ls 6 [(0, .long a0), (2, .long 0), (4, .long 9)] := hl
  generalize hloc : ([] : List Loc) = locs at hw ⊢
  have J17 : ∀ (H : Heap) (locs : List Loc) (ls : Array Slot) (w1 : va_W), (-2147483648) ≤ a0.toInt → a0.toInt ≤ 2147483647 → Wd dC dI A s.heap H locs w1 → TW ksM ad cy B qr 12 w1 → FE ksM ([] : List (Nat × Nat × Nat)) w0 w1 → lv_has ls 6 [(0, .long a0), (2, .long 0), (4, .long 9)] → W p l e ({ frames := 1, cells := 0, slots := 0, locals := 12 }) s m (List.toArray [.long a0, .long 0, .long 9]) below meth c H locs 0 0 (MQ below (va_Qi (P_X12_in_9 ad cy B qr s1 a0 w0) (fun u : va_W => wpost dC dI cy A u) A) (List.toArray [.long a0, .long 0, .long 9]) s 0 0 A) (F0 m 17 ls []) := by
    intro H locs ls w1 r2 t3 hw hT hF hl
    refine lv_iconst (v := 0) hx hb dX12_in_17 (by decide) ?_
    exact tk_zret hC hr rfl hlocks hK ⟨hT, hF, (Or.inl rfl)⟩ hw dX12_in_18
  refine lv_lload_n hx hb dX12_in_0 rfl (lv_at hl 0 rfl) ?_
  refine lv_lload_n hx hb dX12_in_1 rfl (lv_at hl 1 rfl) ?_
  refine W.lcmp hx hb dX12_in_2 ?_
  refine lv_if_lt (tgt := 17) hx hb dX12_in_3 (by decide) (fun c4 => ?_) (fun c4 => ?_)
  · have c4 : a0.toInt < (0 : Int) := wk_cltT c4
    exact J17  s.heap locs ls w0 (show (-2147483648) ≤ a0.toInt by omega) (show a0.toInt ≤ 2147483647 by omega)  hw hT hF  (lv_sub hl [0, 1, 2] rfl)
  · have c4 : (0 : Int) ≤ a0.toInt := wk_cltF c4
    refine lv_lload_n hx hb dX12_in_6 rfl (lv_at hl 0 rfl) ?_
    refine lv_lload hx hb dX12_in_7 (lv_at hl 2 rfl) ?_
    refine W.lcmp hx hb dX12_in_9 ?_
    refine lv_if_gt (tgt := 17) hx hb dX12_in_10 (by decide) (fun c5 => ?_) (fun c5 => ?_)
    · have c5 : (9 : Int) < a0.toInt := wk_cgtT c5
      exact J17  s.heap locs ls w0 (show (-2147483648) ≤ a0.toInt by omega) (show a0.toInt ≤ 2147483647 by omega)  hw hT hF  (lv_sub hl [0, 1, 2] rfl)
    · have c5 : a0.toInt ≤ (9 : Int) := wk_cgtF c5
      refine lv_iconst (v := 1) hx hb dX12_in_13 (by decide) ?_
      refine lv_goto (tgt := 18) hx hb dX12_in_14 (by decide) ?_
      exact tk_zret hC hr rfl hlocks hK ⟨hT, hF, (Or.inr ⟨rfl, (show 0 ≤ a0.toInt by omega), (show a0.toInt ≤ 9 by omega)⟩)⟩ hw dX12_in_18
abbrev P_X12_streetOf_1 (ad : Nat → Nat) (cy : Nat → ClassId) (B : Int) (qr : Nat) (s1 : Int) (a1 : Int32) (a2 : Int32) (w0 : va_W) : Int32 → va_W → Prop := fun r u => TW ksM ad cy B qr 12 u ∧ FE ksM ([] : List (Nat × Nat × Nat)) w0 u ∧ ((0 ≤ r.toInt ∧ r.toInt ≤ 9))
set_option maxHeartbeats 4000000 in
set_option maxRecDepth 100000 in
theorem k_X12_streetOf_1 (l : Launch) (adK adV : Nat → Nat) (dC : Nat → ClassId) (dI : Nat → Nat → Nat) (cy : Nat → ClassId) (ad : Nat → Nat) (B : Int) (hB0 : 100000 ≤ B) (hB1 : B ≤ 1073741824) (qr : Nat) (s1 : Int)  (a1 : Int32) (ra1 : 0 ≤ a1.toInt) (ta1 : a1.toInt ≤ 11) (a2 : Int32) (ra2 : 0 ≤ a2.toInt) (ta2 : a2.toInt ≤ 9) (w0 : va_W) (sz : Nat) (hT : TW ksM ad cy B qr 12 w0)  : Met l yX12_streetOf wsX12_streetOf ({ frames := 1, cells := 0, slots := 0, locals := 12 }) (va_Pc [.ref (ad 0), .int a1, .int a2] (wpreS adK adV dC dI cy sz w0)) (va_Qi (P_X12_streetOf_1 ad cy B qr s1 a1 a2 w0) (fun u : va_W => wpost dC dI cy (va_A w0 sz) u) (va_A w0 sz)) 0 0 (va_A w0 sz) := by
  refine Met.ofW (cc := cX12_streetOf) (maxL := 3) (ret := (some .int)) (by decide) rfl ?_
  intro p e s m args below meth c s₁ Bk hml hv
  obtain ⟨rfl, ⟨hsz, hP, hK, hD0⟩, hE, hSR⟩ := hv
  have hx := Bk.exec
  have hb := Bk.bytes
  have hr := Bk.returns
  have hlocks := Bk.notSynchronized
  have hC : CallFix p m c cX12_streetOf 3 s _ wsX12_streetOf RX12 := ⟨hx, hb, hml, findClass_of_methodNamed Bk.named, atoms_spec (ws := wsX12_streetOf) Bk.pre⟩
  subst hsz
  have hD := hD0.self (sz := s.heap.size)
  generalize hAe : va_A w0 s.heap.size = A at hD hE ⊢
  have hA : ∀ q : Nat, s.heap.size ≤ q → A q := fun q h => by rw [← hAe]; exact Or.inr h
  have hw : Wd dC dI A s.heap s.heap [] w0 := ⟨hP, hD, va_S.rf⟩
  have hF : FE ksM ([] : List (Nat × Nat × Nat)) w0 w0 := FE.rf
  have hl := lv_entry ([.ref (ad 0), .int a1, .int a2]) (n := 3) (Nat.le_of_ble_eq_true rfl)
  rw [lg_entry_eq]
  generalize (lg_sl ([.ref (ad 0), .int a1, .int a2]) ++ List.replicate (3 - (lg_sl ([.ref (ad 0), .int a1, .int a2])).length) Slot.unset).toArray = ls at hl ⊢
  have hl : lv_has ls 3 [(0, .ref (ad 0)), (1, .int a1), (2, .int a2)] := hl
  generalize hloc : ([] : List Loc) = locs at hw ⊢
  have hinX12 : ∀ w ∈ u_ws RX12 TX12 42, w ∈ wsX12_streetOf := fun _ h => List.mem_cons_of_mem _ (List.mem_append_right _ (h))
  refine lv_aload_n hx hb dX12_streetOf_0 rfl (lv_at hl 0 rfl) ?_
  refine tk_getA hC hK hw hT hinX12 kM_at0 (by decide) rfl 26 (by decide) (List.mem_of_getElem? (i := 1) rfl) rfl rfl dX12_streetOf_1 ?_
  refine lv_bipush (v := 10) hx hb dX12_streetOf_4 (by decide) ?_
  refine lv_bipush (v := 10) hx hb dX12_streetOf_6 (by decide) ?_
  refine lv_iload_n hx hb dX12_streetOf_8 rfl (lv_at hl 1 rfl) ?_
  refine lv_imul hx hb dX12_streetOf_9 ?_
  refine lv_topi (fun x1 ex1 => ?_)
  have ex1 : x1.toInt = (10 : Int) * a1.toInt := by rw [ex1]; exact wk_mul (show (-2147483648) ≤ (10 : Int) * a1.toInt by omega) (show (10 : Int) * a1.toInt ≤ 2147483647 by omega)
  refine lv_iadd hx hb dX12_streetOf_10 ?_
  refine lv_topi (fun x2 ex2 => ?_)
  have ex2 : x2.toInt = (10 : Int) + x1.toInt := by rw [ex2]; exact wk_add (show (-2147483648) ≤ (10 : Int) + x1.toInt by omega) (show (10 : Int) + x1.toInt ≤ 2147483647 by omega)
  refine lv_iload_n hx hb dX12_streetOf_11 rfl (lv_at hl 2 rfl) ?_
  refine lv_iadd hx hb dX12_streetOf_12 ?_
  refine lv_topi (fun x3 ex3 => ?_)
  have ex3 : x3.toInt = x2.toInt + a2.toInt := by rw [ex3]; exact wk_add (show (-2147483648) ≤ x2.toInt + a2.toInt by omega) (show x2.toInt + a2.toInt ≤ 2147483647 by omega)
  refine tk_ialdR hC hK hw hT kM_at12 rfl (show 0 ≤ x3.toInt by omega) (show x3.toInt < 296 by omega) dX12_streetOf_13 (fun x4 c5 Ex4 => ?_)
  have c5 : gi w0 12 (x3.toInt).toNat = x4 := (congrArg (gi w0 12) (congrArg Int.toNat (show x3.toInt = x3.toInt by omega))).trans c5
  have bx4 := tk_rgI rfl 10 1 120 0 9 (by decide +kernel) ⟨(x3.toInt - 10).toNat, by omega, show x3.toInt.toNat = 10 + 1 * (x3.toInt - 10).toNat by omega⟩ Ex4
  exact tk_iret hC hr hlocks hK ⟨hT, hF, ⟨(show 0 ≤ x4.toInt by omega), (show x4.toInt ≤ 9 by omega)⟩⟩ hw dX12_streetOf_14
abbrev P_X12_street_1 (ad : Nat → Nat) (cy : Nat → ClassId) (B : Int) (qr : Nat) (s1 : Int) (a1 : Int32) (a2 : Int32) (w0 : va_W) : Int32 → va_W → Prop := fun r u => TW ksM ad cy B qr 12 u ∧ FE ksM ([] : List (Nat × Nat × Nat)) w0 u ∧ ((0 ≤ r.toInt ∧ r.toInt ≤ 9 ∧ 0 ≤ a1.toInt ∧ a1.toInt ≤ 11 ∧ 0 ≤ a2.toInt ∧ a2.toInt ≤ 9 ∧ (∃ y : Int32, gi u 12 1 = y ∧ 1 ≤ y.toInt ∧ y.toInt ≤ 12)) ∨ (r = (-1)))
set_option maxHeartbeats 4000000 in
set_option maxRecDepth 100000 in
theorem k_X12_street_1 (l : Launch) (adK adV : Nat → Nat) (dC : Nat → ClassId) (dI : Nat → Nat → Nat) (cy : Nat → ClassId) (ad : Nat → Nat) (B : Int) (hB0 : 100000 ≤ B) (hB1 : B ≤ 1073741824) (qr : Nat) (s1 : Int)  (a1 : Int32) (a2 : Int32) (w0 : va_W) (sz : Nat) (hT : TW ksM ad cy B qr 12 w0)  : Met l yX12_street wsX12_street ({ frames := 2, cells := 0, slots := 0, locals := 37 }) (va_Pc [.ref (ad 0), .int a1, .int a2] (wpreS adK adV dC dI cy sz w0)) (va_Qi (P_X12_street_1 ad cy B qr s1 a1 a2 w0) (fun u : va_W => wpost dC dI cy (va_A w0 sz) u) (va_A w0 sz)) 0 0 (va_A w0 sz) := by
  refine Met.ofW (cc := cX12_street) (maxL := 3) (ret := (some .int)) (by decide) rfl ?_
  intro p e s m args below meth c s₁ Bk hml hv
  obtain ⟨rfl, ⟨hsz, hP, hK, hD0⟩, hE, hSR⟩ := hv
  have hx := Bk.exec
  have hb := Bk.bytes
  have hr := Bk.returns
  have hlocks := Bk.notSynchronized
  have hC : CallFix p m c cX12_street 3 s _ wsX12_street RX12 := ⟨hx, hb, hml, findClass_of_methodNamed Bk.named, atoms_spec (ws := wsX12_street) Bk.pre⟩
  subst hsz
  have hD := hD0.self (sz := s.heap.size)
  generalize hAe : va_A w0 s.heap.size = A at hD hE ⊢
  have hA : ∀ q : Nat, s.heap.size ≤ q → A q := fun q h => by rw [← hAe]; exact Or.inr h
  have hw : Wd dC dI A s.heap s.heap [] w0 := ⟨hP, hD, va_S.rf⟩
  have hF : FE ksM ([] : List (Nat × Nat × Nat)) w0 w0 := FE.rf
  have hl := lv_entry ([.ref (ad 0), .int a1, .int a2]) (n := 3) (Nat.le_of_ble_eq_true rfl)
  rw [lg_entry_eq]
  generalize (lg_sl ([.ref (ad 0), .int a1, .int a2]) ++ List.replicate (3 - (lg_sl ([.ref (ad 0), .int a1, .int a2])).length) Slot.unset).toArray = ls at hl ⊢
  have hl : lv_has ls 3 [(0, .ref (ad 0)), (1, .int a1), (2, .int a2)] := hl
  generalize hloc : ([] : List Loc) = locs at hw ⊢
  have J29 : ∀ (H : Heap) (locs : List Loc) (ls : Array Slot) (w1 : va_W), Wd dC dI A s.heap H locs w1 → TW ksM ad cy B qr 12 w1 → FE ksM ([] : List (Nat × Nat × Nat)) w0 w1 → lv_has ls 3 [(0, .ref (ad 0)), (1, .int a1), (2, .int a2)] → W p l e ({ frames := 2, cells := 0, slots := 0, locals := 37 }) s m (List.toArray [.ref (ad 0), .int a1, .int a2]) below meth c H locs 0 0 (MQ below (va_Qi (P_X12_street_1 ad cy B qr s1 a1 a2 w0) (fun u : va_W => wpost dC dI cy A u) A) (List.toArray [.ref (ad 0), .int a1, .int a2]) s 0 0 A) (F0 m 29 ls []) := by
    intro H locs ls w1 hw hT hF hl
    refine lv_iconst (v := (-1)) hx hb dX12_street_29 (by decide) ?_
    exact tk_iret hC hr hlocks hK ⟨hT, hF, (Or.inr rfl)⟩ hw dX12_street_30
  refine lv_aload_n hx hb dX12_street_0 rfl (lv_at hl 0 rfl) ?_
  refine lv_iload_n hx hb dX12_street_1 rfl (lv_at hl 1 rfl) ?_
  refine tk_Vi hC hK hw hT hA hE hSR kM_at0 (by decide) rfl (k_X12_isStreet_1 l adK adV dC dI cy ad B (by omega) (by omega) qr s1   a1 w0 s.heap.size hT ) (cwV 1 hC.2.2.2.2 gX12_street_X12_isStreet rfl rfl rfl (by decide +kernel) ⟨Nat.le_of_ble_eq_true rfl, Nat.le_of_ble_eq_true rfl⟩) rfl hl.1 rfl (Nat.le_of_ble_eq_true rfl) dX12_street_2 (fun r2 w4 H locs hp3 hw => ?_)
  obtain ⟨hT, k5, hg10⟩ := hp3
  have hF := hF.tr k5 (by decide)
  rcases hg10 with rfl | ⟨rfl, g6, g7, ⟨x8, c9, rx8, tx8⟩⟩
  · refine lv_if_eq (tgt := 29) hx hb dX12_street_5 (by decide) (fun _ => ?_) (fun c => absurd (by decide) c)
    exact J29  H locs ls w4   hw hT hF  (lv_sub hl [0, 1, 2] rfl)
  · refine lv_if_eq (tgt := 29) hx hb dX12_street_5 (by decide) (fun c => absurd c (by decide)) (fun _ => ?_)
    refine lv_iload_n hx hb dX12_street_8 rfl (lv_at hl 2 rfl) ?_
    refine lv_i2l hx hb dX12_street_9 rfl ?_
    refine lv_topl (fun x11 ex11 => ?_)
    have ex11 : x11.toInt = a2.toInt := by rw [ex11]; exact wk_i2l _
    have bx11 := wk_i32 a2
    refine lv_lconst (v := 0) hx hb dX12_street_10 (by decide) ?_
    refine lv_ldc2 (v := 9) hx hb hC.2.2.2.1 (hC.2.2.2.2 _ (List.mem_of_getElem? (i := 1) rfl)) dX12_street_11 ?_
    refine tk_Si hC hK hw hT hA hE hSR (k_X12_in_9 l adK adV dC dI cy ad B (by omega) (by omega) qr s1   x11 (show (-2147483648) ≤ x11.toInt by omega) (show x11.toInt ≤ 2147483647 by omega) w4 H.size hT ) (va_cwS 3 hC.2.2.2.2 gX12_street_X12_in rfl rfl rfl (by decide +kernel) ⟨Nat.le_of_ble_eq_true rfl, Nat.le_of_ble_eq_true rfl⟩) rfl hl.1 rfl (Nat.le_of_ble_eq_true rfl) dX12_street_14 (fun r12 w14 H locs hp13 hw => ?_)
    obtain ⟨hT, k15, hg18⟩ := hp13
    have hF := hF.tr k15 (by decide)
    have c19 := k15.gi kM_at12 (by decide) c9
    rcases hg18 with rfl | ⟨rfl, g16, g17⟩
    · refine lv_if_eq (tgt := 29) hx hb dX12_street_17 (by decide) (fun _ => ?_) (fun c => absurd (by decide) c)
      exact J29  H locs ls w14   hw hT hF  (lv_sub hl [0, 1, 2] rfl)
    · refine lv_if_eq (tgt := 29) hx hb dX12_street_17 (by decide) (fun c => absurd c (by decide)) (fun _ => ?_)
      refine lv_aload_n hx hb dX12_street_20 rfl (lv_at hl 0 rfl) ?_
      refine lv_iload_n hx hb dX12_street_21 rfl (lv_at hl 1 rfl) ?_
      refine lv_iload_n hx hb dX12_street_22 rfl (lv_at hl 2 rfl) ?_
      refine tk_Vi hC hK hw hT hA hE hSR kM_at0 (by decide) rfl (k_X12_streetOf_1 l adK adV dC dI cy ad B (by omega) (by omega) qr s1   a1 (show 0 ≤ a1.toInt by omega) (show a1.toInt ≤ 11 by omega) a2 (show 0 ≤ a2.toInt by omega) (show a2.toInt ≤ 9 by omega) w14 H.size hT ) (cwV 2 hC.2.2.2.2 gX12_street_X12_streetOf rfl rfl rfl (by decide +kernel) ⟨Nat.le_of_ble_eq_true rfl, Nat.le_of_ble_eq_true rfl⟩) rfl hl.1 rfl (Nat.le_of_ble_eq_true rfl) dX12_street_23 (fun r20 w22 H locs hp21 hw => ?_)
      obtain ⟨hT, k23, hg26⟩ := hp21
      have hF := hF.tr k23 (by decide)
      have c27 := k23.gi kM_at12 (by decide) c19
      obtain ⟨g24, g25⟩ := hg26
      refine lv_goto (tgt := 30) hx hb dX12_street_26 (by decide) ?_
      exact tk_iret hC hr hlocks hK ⟨hT, hF, (Or.inl ⟨(show 0 ≤ r20.toInt by omega), (show r20.toInt ≤ 9 by omega), (show 0 ≤ a1.toInt by omega), (show a1.toInt ≤ 11 by omega), (show 0 ≤ a2.toInt by omega), (show a2.toInt ≤ 9 by omega), ⟨x8, c27, (show 1 ≤ x8.toInt by omega), (show x8.toInt ≤ 12 by omega)⟩⟩)⟩ hw dX12_street_30
abbrev P_X12_isCorner_1 (ad : Nat → Nat) (cy : Nat → ClassId) (B : Int) (qr : Nat) (s1 : Int) (a1 : Int32) (w0 : va_W) : Int32 → va_W → Prop := fun r u => TW ksM ad cy B qr 12 u ∧ FE ksM ([] : List (Nat × Nat × Nat)) w0 u ∧ ((r = 0) ∨ (r = 1 ∧ 0 ≤ a1.toInt ∧ a1.toInt ≤ 9 ∧ (∃ y : Int32, gi u 12 0 = y ∧ 1 ≤ y.toInt ∧ y.toInt ≤ 10)))
set_option maxHeartbeats 4000000 in
set_option maxRecDepth 100000 in
theorem k_X12_isCorner_1 (l : Launch) (adK adV : Nat → Nat) (dC : Nat → ClassId) (dI : Nat → Nat → Nat) (cy : Nat → ClassId) (ad : Nat → Nat) (B : Int) (hB0 : 100000 ≤ B) (hB1 : B ≤ 1073741824) (qr : Nat) (s1 : Int)  (a1 : Int32) (w0 : va_W) (sz : Nat) (hT : TW ksM ad cy B qr 12 w0)  : Met l yX12_isCorner wsX12_isCorner ({ frames := 1, cells := 0, slots := 0, locals := 12 }) (va_Pc [.ref (ad 0), .int a1] (wpreS adK adV dC dI cy sz w0)) (va_Qi (P_X12_isCorner_1 ad cy B qr s1 a1 w0) (fun u : va_W => wpost dC dI cy (va_A w0 sz) u) (va_A w0 sz)) 0 0 (va_A w0 sz) := by
  refine Met.ofW (cc := cX12_isCorner) (maxL := 2) (ret := (some .boolean)) (by decide) rfl ?_
  intro p e s m args below meth c s₁ Bk hml hv
  obtain ⟨rfl, ⟨hsz, hP, hK, hD0⟩, hE, hSR⟩ := hv
  have hx := Bk.exec
  have hb := Bk.bytes
  have hr := Bk.returns
  have hlocks := Bk.notSynchronized
  have hC : CallFix p m c cX12_isCorner 2 s _ wsX12_isCorner RX12 := ⟨hx, hb, hml, findClass_of_methodNamed Bk.named, atoms_spec (ws := wsX12_isCorner) Bk.pre⟩
  subst hsz
  have hD := hD0.self (sz := s.heap.size)
  generalize hAe : va_A w0 s.heap.size = A at hD hE ⊢
  have hA : ∀ q : Nat, s.heap.size ≤ q → A q := fun q h => by rw [← hAe]; exact Or.inr h
  have hw : Wd dC dI A s.heap s.heap [] w0 := ⟨hP, hD, va_S.rf⟩
  have hF : FE ksM ([] : List (Nat × Nat × Nat)) w0 w0 := FE.rf
  have hl := lv_entry ([.ref (ad 0), .int a1]) (n := 2) (Nat.le_of_ble_eq_true rfl)
  rw [lg_entry_eq]
  generalize (lg_sl ([.ref (ad 0), .int a1]) ++ List.replicate (2 - (lg_sl ([.ref (ad 0), .int a1])).length) Slot.unset).toArray = ls at hl ⊢
  have hl : lv_has ls 2 [(0, .ref (ad 0)), (1, .int a1)] := hl
  generalize hloc : ([] : List Loc) = locs at hw ⊢
  have hinX12 : ∀ w ∈ u_ws RX12 TX12 42, w ∈ wsX12_isCorner := fun _ h => List.mem_cons_of_mem _ (List.mem_append_right _ (h))
  have J18 : ∀ (H : Heap) (locs : List Loc) (ls : Array Slot) (w1 : va_W), Wd dC dI A s.heap H locs w1 → TW ksM ad cy B qr 12 w1 → FE ksM ([] : List (Nat × Nat × Nat)) w0 w1 → lv_has ls 2 [(0, .ref (ad 0)), (1, .int a1)] → W p l e ({ frames := 1, cells := 0, slots := 0, locals := 12 }) s m (List.toArray [.ref (ad 0), .int a1]) below meth c H locs 0 0 (MQ below (va_Qi (P_X12_isCorner_1 ad cy B qr s1 a1 w0) (fun u : va_W => wpost dC dI cy A u) A) (List.toArray [.ref (ad 0), .int a1]) s 0 0 A) (F0 m 18 ls []) := by
    intro H locs ls w1 hw hT hF hl
    refine lv_iconst (v := 0) hx hb dX12_isCorner_18 (by decide) ?_
    exact tk_zret hC hr rfl hlocks hK ⟨hT, hF, (Or.inl rfl)⟩ hw dX12_isCorner_19
  refine lv_iload_n hx hb dX12_isCorner_0 rfl (lv_at hl 1 rfl) ?_
  refine lv_if_lt (tgt := 18) hx hb dX12_isCorner_1 (by decide) (fun c2 => ?_) (fun c2 => ?_)
  · have c2 : a1.toInt < (0 : Int) := wk_lt.mp c2
    exact J18  s.heap locs ls w0   hw hT hF  (lv_sub hl [0, 1] rfl)
  · have c2 : (0 : Int) ≤ a1.toInt := wk_ltF c2
    refine lv_iload_n hx hb dX12_isCorner_4 rfl (lv_at hl 1 rfl) ?_
    refine lv_aload_n hx hb dX12_isCorner_5 rfl (lv_at hl 0 rfl) ?_
    refine tk_getA hC hK hw hT hinX12 kM_at0 (by decide) rfl 26 (by decide) (List.mem_of_getElem? (i := 1) rfl) rfl rfl dX12_isCorner_6 ?_
    refine lv_iconst (v := 0) hx hb dX12_isCorner_9 (by decide) ?_
    refine tk_ialdR hC hK hw hT kM_at12 rfl (by decide) (by decide) dX12_isCorner_10 (fun x3 c4 Ex3 => ?_)
    have bx3 := tk_rgI rfl 0 1 1 0 10 (by decide +kernel) ⟨0, by decide, by decide⟩ Ex3
    have c4 : gi w0 12 0 = x3 := c4
    refine lv_icmp_ge (tgt := 18) hx hb dX12_isCorner_11 (by decide) (fun c5 => ?_) (fun c5 => ?_)
    · have c5 : x3.toInt ≤ a1.toInt := wk_le.mp c5
      exact J18  s.heap locs ls w0   hw hT hF  (lv_sub hl [0, 1] rfl)
    · have c5 : a1.toInt < x3.toInt := wk_leF c5
      refine lv_iconst (v := 1) hx hb dX12_isCorner_14 (by decide) ?_
      refine lv_goto (tgt := 19) hx hb dX12_isCorner_15 (by decide) ?_
      exact tk_zret hC hr rfl hlocks hK ⟨hT, hF, (Or.inr ⟨rfl, (show 0 ≤ a1.toInt by omega), (show a1.toInt ≤ 9 by omega), ⟨x3, c4, (show 1 ≤ x3.toInt by omega), (show x3.toInt ≤ 10 by omega)⟩⟩)⟩ hw dX12_isCorner_19
abbrev P_X12_streetOf_2 (ad : Nat → Nat) (cy : Nat → ClassId) (B : Int) (qr : Nat) (s1 : Int) (a1 : Int32) (w0 : va_W) : Int32 → va_W → Prop := fun r u => TW ksM ad cy B qr 12 u ∧ FE ksM ([] : List (Nat × Nat × Nat)) w0 u ∧ ((0 ≤ r.toInt ∧ r.toInt ≤ 9 ∧ gi u 12 (10 * a1.toInt + 10).toNat = r))
set_option maxHeartbeats 4000000 in
set_option maxRecDepth 100000 in
theorem k_X12_streetOf_2 (l : Launch) (adK adV : Nat → Nat) (dC : Nat → ClassId) (dI : Nat → Nat → Nat) (cy : Nat → ClassId) (ad : Nat → Nat) (B : Int) (hB0 : 100000 ≤ B) (hB1 : B ≤ 1073741824) (qr : Nat) (s1 : Int)  (a1 : Int32) (ra1 : 0 ≤ a1.toInt) (ta1 : a1.toInt ≤ 11) (w0 : va_W) (sz : Nat) (hT : TW ksM ad cy B qr 12 w0)  : Met l yX12_streetOf wsX12_streetOf ({ frames := 1, cells := 0, slots := 0, locals := 12 }) (va_Pc [.ref (ad 0), .int a1, .int 0] (wpreS adK adV dC dI cy sz w0)) (va_Qi (P_X12_streetOf_2 ad cy B qr s1 a1 w0) (fun u : va_W => wpost dC dI cy (va_A w0 sz) u) (va_A w0 sz)) 0 0 (va_A w0 sz) := by
  refine Met.ofW (cc := cX12_streetOf) (maxL := 3) (ret := (some .int)) (by decide) rfl ?_
  intro p e s m args below meth c s₁ Bk hml hv
  obtain ⟨rfl, ⟨hsz, hP, hK, hD0⟩, hE, hSR⟩ := hv
  have hx := Bk.exec
  have hb := Bk.bytes
  have hr := Bk.returns
  have hlocks := Bk.notSynchronized
  have hC : CallFix p m c cX12_streetOf 3 s _ wsX12_streetOf RX12 := ⟨hx, hb, hml, findClass_of_methodNamed Bk.named, atoms_spec (ws := wsX12_streetOf) Bk.pre⟩
  subst hsz
  have hD := hD0.self (sz := s.heap.size)
  generalize hAe : va_A w0 s.heap.size = A at hD hE ⊢
  have hA : ∀ q : Nat, s.heap.size ≤ q → A q := fun q h => by rw [← hAe]; exact Or.inr h
  have hw : Wd dC dI A s.heap s.heap [] w0 := ⟨hP, hD, va_S.rf⟩
  have hF : FE ksM ([] : List (Nat × Nat × Nat)) w0 w0 := FE.rf
  have hl := lv_entry ([.ref (ad 0), .int a1, .int 0]) (n := 3) (Nat.le_of_ble_eq_true rfl)
  rw [lg_entry_eq]
  generalize (lg_sl ([.ref (ad 0), .int a1, .int 0]) ++ List.replicate (3 - (lg_sl ([.ref (ad 0), .int a1, .int 0])).length) Slot.unset).toArray = ls at hl ⊢
  have hl : lv_has ls 3 [(0, .ref (ad 0)), (1, .int a1), (2, .int 0)] := hl
  generalize hloc : ([] : List Loc) = locs at hw ⊢
  have hinX12 : ∀ w ∈ u_ws RX12 TX12 42, w ∈ wsX12_streetOf := fun _ h => List.mem_cons_of_mem _ (List.mem_append_right _ (h))
  refine lv_aload_n hx hb dX12_streetOf_0 rfl (lv_at hl 0 rfl) ?_
  refine tk_getA hC hK hw hT hinX12 kM_at0 (by decide) rfl 26 (by decide) (List.mem_of_getElem? (i := 1) rfl) rfl rfl dX12_streetOf_1 ?_
  refine lv_bipush (v := 10) hx hb dX12_streetOf_4 (by decide) ?_
  refine lv_bipush (v := 10) hx hb dX12_streetOf_6 (by decide) ?_
  refine lv_iload_n hx hb dX12_streetOf_8 rfl (lv_at hl 1 rfl) ?_
  refine lv_imul hx hb dX12_streetOf_9 ?_
  refine lv_topi (fun x1 ex1 => ?_)
  have ex1 : x1.toInt = (10 : Int) * a1.toInt := by rw [ex1]; exact wk_mul (show (-2147483648) ≤ (10 : Int) * a1.toInt by omega) (show (10 : Int) * a1.toInt ≤ 2147483647 by omega)
  refine lv_iadd hx hb dX12_streetOf_10 ?_
  refine lv_topi (fun x2 ex2 => ?_)
  have ex2 : x2.toInt = (10 : Int) + x1.toInt := by rw [ex2]; exact wk_add (show (-2147483648) ≤ (10 : Int) + x1.toInt by omega) (show (10 : Int) + x1.toInt ≤ 2147483647 by omega)
  refine lv_iload_n hx hb dX12_streetOf_11 rfl (lv_at hl 2 rfl) ?_
  refine lv_iadd hx hb dX12_streetOf_12 ?_
  refine lv_topi (fun x3 ex3 => ?_)
  have ex3 : x3.toInt = x2.toInt + (0 : Int) := by rw [ex3]; exact wk_add (show (-2147483648) ≤ x2.toInt + (0 : Int) by omega) (show x2.toInt + (0 : Int) ≤ 2147483647 by omega)
  refine tk_ialdR hC hK hw hT kM_at12 rfl (show 0 ≤ x3.toInt by omega) (show x3.toInt < 296 by omega) dX12_streetOf_13 (fun x4 c5 Ex4 => ?_)
  have c5 : gi w0 12 (10 * a1.toInt + 10).toNat = x4 := (congrArg (gi w0 12) (congrArg Int.toNat (show 10 * a1.toInt + 10 = x3.toInt by omega))).trans c5
  have bx4 := tk_rgI rfl 10 10 12 0 9 (by decide +kernel) ⟨(a1.toInt - 0).toNat, by omega, show x3.toInt.toNat = 10 + 10 * (a1.toInt - 0).toNat by omega⟩ Ex4
  exact tk_iret hC hr hlocks hK ⟨hT, hF, ⟨(show 0 ≤ x4.toInt by omega), (show x4.toInt ≤ 9 by omega), c5⟩⟩ hw dX12_streetOf_14
abbrev P_X12_streetOf_3 (ad : Nat → Nat) (cy : Nat → ClassId) (B : Int) (qr : Nat) (s1 : Int) (a1 : Int32) (w0 : va_W) : Int32 → va_W → Prop := fun r u => TW ksM ad cy B qr 12 u ∧ FE ksM ([] : List (Nat × Nat × Nat)) w0 u ∧ ((0 ≤ r.toInt ∧ r.toInt ≤ 9 ∧ gi u 12 (10 * a1.toInt + 11).toNat = r))
set_option maxHeartbeats 4000000 in
set_option maxRecDepth 100000 in
theorem k_X12_streetOf_3 (l : Launch) (adK adV : Nat → Nat) (dC : Nat → ClassId) (dI : Nat → Nat → Nat) (cy : Nat → ClassId) (ad : Nat → Nat) (B : Int) (hB0 : 100000 ≤ B) (hB1 : B ≤ 1073741824) (qr : Nat) (s1 : Int)  (a1 : Int32) (ra1 : 0 ≤ a1.toInt) (ta1 : a1.toInt ≤ 11) (w0 : va_W) (sz : Nat) (hT : TW ksM ad cy B qr 12 w0)  : Met l yX12_streetOf wsX12_streetOf ({ frames := 1, cells := 0, slots := 0, locals := 12 }) (va_Pc [.ref (ad 0), .int a1, .int 1] (wpreS adK adV dC dI cy sz w0)) (va_Qi (P_X12_streetOf_3 ad cy B qr s1 a1 w0) (fun u : va_W => wpost dC dI cy (va_A w0 sz) u) (va_A w0 sz)) 0 0 (va_A w0 sz) := by
  refine Met.ofW (cc := cX12_streetOf) (maxL := 3) (ret := (some .int)) (by decide) rfl ?_
  intro p e s m args below meth c s₁ Bk hml hv
  obtain ⟨rfl, ⟨hsz, hP, hK, hD0⟩, hE, hSR⟩ := hv
  have hx := Bk.exec
  have hb := Bk.bytes
  have hr := Bk.returns
  have hlocks := Bk.notSynchronized
  have hC : CallFix p m c cX12_streetOf 3 s _ wsX12_streetOf RX12 := ⟨hx, hb, hml, findClass_of_methodNamed Bk.named, atoms_spec (ws := wsX12_streetOf) Bk.pre⟩
  subst hsz
  have hD := hD0.self (sz := s.heap.size)
  generalize hAe : va_A w0 s.heap.size = A at hD hE ⊢
  have hA : ∀ q : Nat, s.heap.size ≤ q → A q := fun q h => by rw [← hAe]; exact Or.inr h
  have hw : Wd dC dI A s.heap s.heap [] w0 := ⟨hP, hD, va_S.rf⟩
  have hF : FE ksM ([] : List (Nat × Nat × Nat)) w0 w0 := FE.rf
  have hl := lv_entry ([.ref (ad 0), .int a1, .int 1]) (n := 3) (Nat.le_of_ble_eq_true rfl)
  rw [lg_entry_eq]
  generalize (lg_sl ([.ref (ad 0), .int a1, .int 1]) ++ List.replicate (3 - (lg_sl ([.ref (ad 0), .int a1, .int 1])).length) Slot.unset).toArray = ls at hl ⊢
  have hl : lv_has ls 3 [(0, .ref (ad 0)), (1, .int a1), (2, .int 1)] := hl
  generalize hloc : ([] : List Loc) = locs at hw ⊢
  have hinX12 : ∀ w ∈ u_ws RX12 TX12 42, w ∈ wsX12_streetOf := fun _ h => List.mem_cons_of_mem _ (List.mem_append_right _ (h))
  refine lv_aload_n hx hb dX12_streetOf_0 rfl (lv_at hl 0 rfl) ?_
  refine tk_getA hC hK hw hT hinX12 kM_at0 (by decide) rfl 26 (by decide) (List.mem_of_getElem? (i := 1) rfl) rfl rfl dX12_streetOf_1 ?_
  refine lv_bipush (v := 10) hx hb dX12_streetOf_4 (by decide) ?_
  refine lv_bipush (v := 10) hx hb dX12_streetOf_6 (by decide) ?_
  refine lv_iload_n hx hb dX12_streetOf_8 rfl (lv_at hl 1 rfl) ?_
  refine lv_imul hx hb dX12_streetOf_9 ?_
  refine lv_topi (fun x1 ex1 => ?_)
  have ex1 : x1.toInt = (10 : Int) * a1.toInt := by rw [ex1]; exact wk_mul (show (-2147483648) ≤ (10 : Int) * a1.toInt by omega) (show (10 : Int) * a1.toInt ≤ 2147483647 by omega)
  refine lv_iadd hx hb dX12_streetOf_10 ?_
  refine lv_topi (fun x2 ex2 => ?_)
  have ex2 : x2.toInt = (10 : Int) + x1.toInt := by rw [ex2]; exact wk_add (show (-2147483648) ≤ (10 : Int) + x1.toInt by omega) (show (10 : Int) + x1.toInt ≤ 2147483647 by omega)
  refine lv_iload_n hx hb dX12_streetOf_11 rfl (lv_at hl 2 rfl) ?_
  refine lv_iadd hx hb dX12_streetOf_12 ?_
  refine lv_topi (fun x3 ex3 => ?_)
  have ex3 : x3.toInt = x2.toInt + (1 : Int) := by rw [ex3]; exact wk_add (show (-2147483648) ≤ x2.toInt + (1 : Int) by omega) (show x2.toInt + (1 : Int) ≤ 2147483647 by omega)
  refine tk_ialdR hC hK hw hT kM_at12 rfl (show 0 ≤ x3.toInt by omega) (show x3.toInt < 296 by omega) dX12_streetOf_13 (fun x4 c5 Ex4 => ?_)
  have c5 : gi w0 12 (10 * a1.toInt + 11).toNat = x4 := (congrArg (gi w0 12) (congrArg Int.toNat (show 10 * a1.toInt + 11 = x3.toInt by omega))).trans c5
  have bx4 := tk_rgI rfl 11 10 12 0 9 (by decide +kernel) ⟨(a1.toInt - 0).toNat, by omega, show x3.toInt.toNat = 11 + 10 * (a1.toInt - 0).toNat by omega⟩ Ex4
  exact tk_iret hC hr hlocks hK ⟨hT, hF, ⟨(show 0 ≤ x4.toInt by omega), (show x4.toInt ≤ 9 by omega), c5⟩⟩ hw dX12_streetOf_14
abbrev P_X12_isAt_1 (ad : Nat → Nat) (cy : Nat → ClassId) (B : Int) (qr : Nat) (s1 : Int) (a1 : Int32) (a2 : Int32) (w0 : va_W) : Int32 → va_W → Prop := fun r u => TW ksM ad cy B qr 12 u ∧ FE ksM ([] : List (Nat × Nat × Nat)) w0 u ∧ ((r = 0) ∨ (r = 1))
set_option maxHeartbeats 4000000 in
set_option maxRecDepth 100000 in
theorem k_X12_isAt_1 (l : Launch) (adK adV : Nat → Nat) (dC : Nat → ClassId) (dI : Nat → Nat → Nat) (cy : Nat → ClassId) (ad : Nat → Nat) (B : Int) (hB0 : 100000 ≤ B) (hB1 : B ≤ 1073741824) (qr : Nat) (s1 : Int)  (a1 : Int32) (ra1 : 0 ≤ a1.toInt) (ta1 : a1.toInt ≤ 11) (a2 : Int32) (ra2 : 0 ≤ a2.toInt) (ta2 : a2.toInt ≤ 9) (w0 : va_W) (sz : Nat) (hT : TW ksM ad cy B qr 12 w0)  : Met l yX12_isAt wsX12_isAt ({ frames := 2, cells := 0, slots := 0, locals := 34 }) (va_Pc [.ref (ad 0), .int a1, .int a2] (wpreS adK adV dC dI cy sz w0)) (va_Qi (P_X12_isAt_1 ad cy B qr s1 a1 a2 w0) (fun u : va_W => wpost dC dI cy (va_A w0 sz) u) (va_A w0 sz)) 0 0 (va_A w0 sz) := by
  refine Met.ofW (cc := cX12_isAt) (maxL := 3) (ret := (some .boolean)) (by decide) rfl ?_
  intro p e s m args below meth c s₁ Bk hml hv
  obtain ⟨rfl, ⟨hsz, hP, hK, hD0⟩, hE, hSR⟩ := hv
  have hx := Bk.exec
  have hb := Bk.bytes
  have hr := Bk.returns
  have hlocks := Bk.notSynchronized
  have hC : CallFix p m c cX12_isAt 3 s _ wsX12_isAt RX12 := ⟨hx, hb, hml, findClass_of_methodNamed Bk.named, atoms_spec (ws := wsX12_isAt) Bk.pre⟩
  subst hsz
  have hD := hD0.self (sz := s.heap.size)
  generalize hAe : va_A w0 s.heap.size = A at hD hE ⊢
  have hA : ∀ q : Nat, s.heap.size ≤ q → A q := fun q h => by rw [← hAe]; exact Or.inr h
  have hw : Wd dC dI A s.heap s.heap [] w0 := ⟨hP, hD, va_S.rf⟩
  have hF : FE ksM ([] : List (Nat × Nat × Nat)) w0 w0 := FE.rf
  have hl := lv_entry ([.ref (ad 0), .int a1, .int a2]) (n := 3) (Nat.le_of_ble_eq_true rfl)
  rw [lg_entry_eq]
  generalize (lg_sl ([.ref (ad 0), .int a1, .int a2]) ++ List.replicate (3 - (lg_sl ([.ref (ad 0), .int a1, .int a2])).length) Slot.unset).toArray = ls at hl ⊢
  have hl : lv_has ls 3 [(0, .ref (ad 0)), (1, .int a1), (2, .int a2)] := hl
  generalize hloc : ([] : List Loc) = locs at hw ⊢
  have J20 : ∀ (f20_12__10_a1_toInt_10_toNat : Int32) (H : Heap) (locs : List Loc) (ls : Array Slot) (w1 : va_W), 0 ≤ a1.toInt → a1.toInt ≤ 11 → 0 ≤ a2.toInt → a2.toInt ≤ 9 → 0 ≤ f20_12__10_a1_toInt_10_toNat.toInt → f20_12__10_a1_toInt_10_toNat.toInt ≤ 9 → Wd dC dI A s.heap H locs w1 → TW ksM ad cy B qr 12 w1 → FE ksM ([] : List (Nat × Nat × Nat)) w0 w1 → gi w1 12 (10 * a1.toInt + 10).toNat = f20_12__10_a1_toInt_10_toNat → lv_has ls 3 [(0, .ref (ad 0)), (1, .int a1), (2, .int a2)] → W p l e ({ frames := 2, cells := 0, slots := 0, locals := 34 }) s m (List.toArray [.ref (ad 0), .int a1, .int a2]) below meth c H locs 0 0 (MQ below (va_Qi (P_X12_isAt_1 ad cy B qr s1 a1 a2 w0) (fun u : va_W => wpost dC dI cy A u) A) (List.toArray [.ref (ad 0), .int a1, .int a2]) s 0 0 A) (F0 m 20 ls []) := by
    intro f20_12__10_a1_toInt_10_toNat H locs ls w1 r2 t3 r4 t5 r6 t7 hw hT hF c8 hl
    refine lv_iconst (v := 1) hx hb dX12_isAt_20 (by decide) ?_
    refine lv_goto (tgt := 25) hx hb dX12_isAt_21 (by decide) ?_
    exact tk_zret hC hr rfl hlocks hK ⟨hT, hF, (Or.inr rfl)⟩ hw dX12_isAt_25
  refine lv_aload_n hx hb dX12_isAt_0 rfl (lv_at hl 0 rfl) ?_
  refine lv_iload_n hx hb dX12_isAt_1 rfl (lv_at hl 1 rfl) ?_
  refine lv_iconst (v := 0) hx hb dX12_isAt_2 (by decide) ?_
  refine tk_Vi hC hK hw hT hA hE hSR kM_at0 (by decide) rfl (k_X12_streetOf_2 l adK adV dC dI cy ad B (by omega) (by omega) qr s1   a1 (show 0 ≤ a1.toInt by omega) (show a1.toInt ≤ 11 by omega) w0 s.heap.size hT ) (cwV 2 hC.2.2.2.2 gX12_isAt_X12_streetOf rfl rfl rfl (by decide +kernel) ⟨Nat.le_of_ble_eq_true rfl, Nat.le_of_ble_eq_true rfl⟩) rfl hl.1 rfl (Nat.le_of_ble_eq_true rfl) dX12_isAt_3 (fun r9 w11 H locs hp10 hw => ?_)
  obtain ⟨hT, k12, hg16⟩ := hp10
  have hF := hF.tr k12 (by decide)
  obtain ⟨g13, g14, c15⟩ := hg16
  refine lv_iload_n hx hb dX12_isAt_6 rfl (lv_at hl 2 rfl) ?_
  refine lv_icmp_eq (tgt := 20) hx hb dX12_isAt_7 (by decide) (fun c17 => ?_) (fun c17 => ?_)
  · have c17 : r9.toInt = a2.toInt := wk_eq.mp c17
    exact J20 r9 H locs ls w11 (show 0 ≤ a1.toInt by omega) (show a1.toInt ≤ 11 by omega) (show 0 ≤ a2.toInt by omega) (show a2.toInt ≤ 9 by omega) (show 0 ≤ r9.toInt by omega) (show r9.toInt ≤ 9 by omega)  hw hT hF c15 (lv_sub hl [0, 1, 2] rfl)
  · have c17 : ¬ r9.toInt = a2.toInt := wk_eqF c17
    refine lv_aload_n hx hb dX12_isAt_10 rfl (lv_at hl 0 rfl) ?_
    refine lv_iload_n hx hb dX12_isAt_11 rfl (lv_at hl 1 rfl) ?_
    refine lv_iconst (v := 1) hx hb dX12_isAt_12 (by decide) ?_
    refine tk_Vi hC hK hw hT hA hE hSR kM_at0 (by decide) rfl (k_X12_streetOf_3 l adK adV dC dI cy ad B (by omega) (by omega) qr s1   a1 (show 0 ≤ a1.toInt by omega) (show a1.toInt ≤ 11 by omega) w11 H.size hT ) (cwV 2 hC.2.2.2.2 gX12_isAt_X12_streetOf rfl rfl rfl (by decide +kernel) ⟨Nat.le_of_ble_eq_true rfl, Nat.le_of_ble_eq_true rfl⟩) rfl hl.1 rfl (Nat.le_of_ble_eq_true rfl) dX12_isAt_13 (fun r18 w20 H locs hp19 hw => ?_)
    obtain ⟨hT, k21, hg25⟩ := hp19
    have hF := hF.tr k21 (by decide)
    have c26 := k21.gi kM_at12 rfl c15
    obtain ⟨g22, g23, c24⟩ := hg25
    refine lv_iload_n hx hb dX12_isAt_16 rfl (lv_at hl 2 rfl) ?_
    refine lv_icmp_ne (tgt := 24) hx hb dX12_isAt_17 (by decide) (fun c27 => ?_) (fun c27 => ?_)
    · have c27 : ¬ r18.toInt = a2.toInt := wk_eqF c27
      refine lv_iconst (v := 0) hx hb dX12_isAt_24 (by decide) ?_
      exact tk_zret hC hr rfl hlocks hK ⟨hT, hF, (Or.inl rfl)⟩ hw dX12_isAt_25
    · have c27 : r18.toInt = a2.toInt := wk_eq.mp c27
      exact J20 r9 H locs ls w20 (show 0 ≤ a1.toInt by omega) (show a1.toInt ≤ 11 by omega) (show 0 ≤ a2.toInt by omega) (show a2.toInt ≤ 9 by omega) (show 0 ≤ r9.toInt by omega) (show r9.toInt ≤ 9 by omega)  hw hT hF c26 (lv_sub hl [0, 1, 2] rfl)
abbrev P_X12_isHour_1 (ad : Nat → Nat) (cy : Nat → ClassId) (B : Int) (qr : Nat) (s1 : Int) (a0 : Int32) (w0 : va_W) : Int32 → va_W → Prop := fun r u => TW ksM ad cy B qr 12 u ∧ FE ksM ([] : List (Nat × Nat × Nat)) w0 u ∧ ((r = 0) ∨ (r = 1 ∧ 0 ≤ a0.toInt ∧ a0.toInt ≤ 99999))
set_option maxHeartbeats 4000000 in
set_option maxRecDepth 100000 in
theorem k_X12_isHour_1 (l : Launch) (adK adV : Nat → Nat) (dC : Nat → ClassId) (dI : Nat → Nat → Nat) (cy : Nat → ClassId) (ad : Nat → Nat) (B : Int) (hB0 : 100000 ≤ B) (hB1 : B ≤ 1073741824) (qr : Nat) (s1 : Int)  (a0 : Int32) (w0 : va_W) (sz : Nat) (hT : TW ksM ad cy B qr 12 w0)  : Met l yX12_isHour wsX12_isHour ({ frames := 1, cells := 0, slots := 0, locals := 12 }) (va_Pc [.int a0] (wpreS adK adV dC dI cy sz w0)) (va_Qi (P_X12_isHour_1 ad cy B qr s1 a0 w0) (fun u : va_W => wpost dC dI cy (va_A w0 sz) u) (va_A w0 sz)) 0 0 (va_A w0 sz) := by
  refine Met.ofW (cc := cX12_isHour) (maxL := 1) (ret := (some .boolean)) (by decide) rfl ?_
  intro p e s m args below meth c s₁ Bk hml hv
  obtain ⟨rfl, ⟨hsz, hP, hK, hD0⟩, hE, hSR⟩ := hv
  have hx := Bk.exec
  have hb := Bk.bytes
  have hr := Bk.returns
  have hlocks := Bk.notSynchronized
  have hC : CallFix p m c cX12_isHour 1 s _ wsX12_isHour RX12 := ⟨hx, hb, hml, findClass_of_methodNamed Bk.named, atoms_spec (ws := wsX12_isHour) Bk.pre⟩
  subst hsz
  have hD := hD0.self (sz := s.heap.size)
  generalize hAe : va_A w0 s.heap.size = A at hD hE ⊢
  have hA : ∀ q : Nat, s.heap.size ≤ q → A q := fun q h => by rw [← hAe]; exact Or.inr h
  have hw : Wd dC dI A s.heap s.heap [] w0 := ⟨hP, hD, va_S.rf⟩
  have hF : FE ksM ([] : List (Nat × Nat × Nat)) w0 w0 := FE.rf
  have hl := lv_entry ([.int a0]) (n := 1) (Nat.le_of_ble_eq_true rfl)
  rw [lg_entry_eq]
  generalize (lg_sl ([.int a0]) ++ List.replicate (1 - (lg_sl ([.int a0])).length) Slot.unset).toArray = ls at hl ⊢
  have hl : lv_has ls 1 [(0, .int a0)] := hl
  generalize hloc : ([] : List Loc) = locs at hw ⊢
  have J14 : ∀ (H : Heap) (locs : List Loc) (ls : Array Slot) (w1 : va_W), Wd dC dI A s.heap H locs w1 → TW ksM ad cy B qr 12 w1 → FE ksM ([] : List (Nat × Nat × Nat)) w0 w1 → lv_has ls 1 [(0, .int a0)] → W p l e ({ frames := 1, cells := 0, slots := 0, locals := 12 }) s m (List.toArray [.int a0]) below meth c H locs 0 0 (MQ below (va_Qi (P_X12_isHour_1 ad cy B qr s1 a0 w0) (fun u : va_W => wpost dC dI cy A u) A) (List.toArray [.int a0]) s 0 0 A) (F0 m 14 ls []) := by
    intro H locs ls w1 hw hT hF hl
    refine lv_iconst (v := 0) hx hb dX12_isHour_14 (by decide) ?_
    exact tk_zret hC hr rfl hlocks hK ⟨hT, hF, (Or.inl rfl)⟩ hw dX12_isHour_15
  refine lv_iload_n hx hb dX12_isHour_0 rfl (lv_at hl 0 rfl) ?_
  refine lv_if_lt (tgt := 14) hx hb dX12_isHour_1 (by decide) (fun c2 => ?_) (fun c2 => ?_)
  · have c2 : a0.toInt < (0 : Int) := wk_lt.mp c2
    exact J14  s.heap locs ls w0   hw hT hF  (lv_sub hl [0] rfl)
  · have c2 : (0 : Int) ≤ a0.toInt := wk_ltF c2
    refine lv_iload_n hx hb dX12_isHour_4 rfl (lv_at hl 0 rfl) ?_
    refine lv_ldc (v := 99999) hx hb hC.2.2.2.1 (hC.2.2.2.2 _ (List.mem_of_getElem? (i := 1) rfl)) dX12_isHour_5 ?_
    refine lv_icmp_gt (tgt := 14) hx hb dX12_isHour_7 (by decide) (fun c3 => ?_) (fun c3 => ?_)
    · have c3 : (99999 : Int) < a0.toInt := wk_lt.mp c3
      exact J14  s.heap locs ls w0   hw hT hF  (lv_sub hl [0] rfl)
    · have c3 : a0.toInt ≤ (99999 : Int) := wk_ltF c3
      refine lv_iconst (v := 1) hx hb dX12_isHour_10 (by decide) ?_
      refine lv_goto (tgt := 15) hx hb dX12_isHour_11 (by decide) ?_
      exact tk_zret hC hr rfl hlocks hK ⟨hT, hF, (Or.inr ⟨rfl, (show 0 ≤ a0.toInt by omega), (show a0.toInt ≤ 99999 by omega)⟩)⟩ hw dX12_isHour_15
