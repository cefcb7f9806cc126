abbrev P_X12_in_5 (ad : Nat → Nat) (cy : Nat → ClassId) (B : Int) (qr : Nat) (s1 : Int) (a0 : Int64) (a2 : Int64) (w0 : va_W) : Int32 → va_W → Prop := fun r u => w0 = u ∧ ((r = 0) ∨ (r = 1 ∧ 0 ≤ a0.toInt ∧ a0.toInt ≤ 9 ∧ 0 ≤ a2.toInt))
set_option maxHeartbeats 4000000 in
set_option maxRecDepth 100000 in
theorem k_X12_in_5 (l : Launch) (adK adV : Nat → Nat) (dC : Nat → ClassId) (dI : Nat → Nat → Nat) (cy : Nat → ClassId) (ad : Nat → Nat) (B : Int) (hB0 : 100000 ≤ B) (hB1 : B ≤ 1073741824) (qr : Nat) (s1 : Int)  (a0 : Int64) (ra0 : (-2147483648) ≤ a0.toInt) (ta0 : a0.toInt ≤ 2147483647) (a2 : Int64) (ra2 : (-1) ≤ a2.toInt) (ta2 : a2.toInt ≤ 9) (w0 : va_W) (sz : Nat) (hT : TW ksM ad cy B qr 12 w0)  : Met l yX12_in wsX12_in ({ frames := 1, cells := 0, slots := 0, locals := 12 }) (va_Pc [.long a0, .long 0, .long a2] (wpreS adK adV dC dI cy sz w0)) (va_Qi (P_X12_in_5 ad cy B qr s1 a0 a2 w0) (fun u : va_W => wpost dC dI cy (va_A w0 sz) u) (va_A w0 sz)) 0 0 (va_A w0 sz) := by
  refine Met.ofW (cc := cX12_in) (maxL := 6) (ret := (some .boolean)) (by decide) rfl ?_
  intro p e s m args below meth c s₁ Bk hml hv
  obtain ⟨rfl, ⟨hsz, hP, hK, hD0⟩, hE, hSR⟩ := hv
  have hx := Bk.exec
  have hb := Bk.bytes
  have hr := Bk.returns
  have hlocks := Bk.notSynchronized
  have hC : CallFix p m c cX12_in 6 s _ wsX12_in RX12 := ⟨hx, hb, hml, findClass_of_methodNamed Bk.named, atoms_spec (ws := wsX12_in) Bk.pre⟩
  subst hsz
  have hD := hD0.self (sz := s.heap.size)
  generalize hAe : va_A w0 s.heap.size = A at hD hE ⊢
  have hA : ∀ q : Nat, s.heap.size ≤ q → A q := fun q h => by rw [← hAe]; exact Or.inr h
  have hw : Wd dC dI A s.heap s.heap [] w0 := ⟨hP, hD, va_S.rf⟩
  have hF : FE ksM ([] : List (Nat × Nat × Nat)) w0 w0 := FE.rf
  have hl := lv_entry ([.long a0, .long 0, .long a2]) (n := 6) (Nat.le_of_ble_eq_true rfl)
  rw [lg_entry_eq]
  generalize (lg_sl ([.long a0, .long 0, .long a2]) ++ List.replicate (6 - (lg_sl ([.long a0, .long 0, .long a2])).length) Slot.unset).toArray = ls at hl ⊢
  have hl : lv_has ls 6 [(0, .long a0), (2, .long 0), (4, .long a2)] := hl
  generalize hloc : ([] : List Loc) = locs at hw ⊢
  have J17 : ∀ (H : Heap) (locs : List Loc) (ls : Array Slot), (-2147483648) ≤ a0.toInt → a0.toInt ≤ 2147483647 → (-1) ≤ a2.toInt → a2.toInt ≤ 9 → Wd dC dI A s.heap H locs w0 → lv_has ls 6 [(0, .long a0), (2, .long 0), (4, .long a2)] → W p l e ({ frames := 1, cells := 0, slots := 0, locals := 12 }) s m (List.toArray [.long a0, .long 0, .long a2]) below meth c H locs 0 0 (MQ below (va_Qi (P_X12_in_5 ad cy B qr s1 a0 a2 w0) (fun u : va_W => wpost dC dI cy A u) A) (List.toArray [.long a0, .long 0, .long a2]) s 0 0 A) (F0 m 17 ls []) := by
    intro H locs ls r1 t2 r3 t4 hw hl
    refine lv_iconst (v := 0) hx hb dX12_in_17 (by decide) ?_
    exact tk_zret hC hr rfl hlocks hK ⟨rfl, (Or.inl rfl)⟩ hw dX12_in_18
  refine lv_lload_n hx hb dX12_in_0 rfl (lv_at hl 0 rfl) ?_
  refine lv_lload_n hx hb dX12_in_1 rfl (lv_at hl 1 rfl) ?_
  refine W.lcmp hx hb dX12_in_2 ?_
  refine lv_if_lt (tgt := 17) hx hb dX12_in_3 (by decide) (fun c5 => ?_) (fun c5 => ?_)
  · have c5 : a0.toInt < (0 : Int) := wk_cltT c5
    exact J17  s.heap locs ls  (show (-2147483648) ≤ a0.toInt by omega) (show a0.toInt ≤ 2147483647 by omega) (show (-1) ≤ a2.toInt by omega) (show a2.toInt ≤ 9 by omega)  hw   (lv_sub hl [0, 1, 2] rfl)
  · have c5 : (0 : Int) ≤ a0.toInt := wk_cltF c5
    refine lv_lload_n hx hb dX12_in_6 rfl (lv_at hl 0 rfl) ?_
    refine lv_lload hx hb dX12_in_7 (lv_at hl 2 rfl) ?_
    refine W.lcmp hx hb dX12_in_9 ?_
    refine lv_if_gt (tgt := 17) hx hb dX12_in_10 (by decide) (fun c6 => ?_) (fun c6 => ?_)
    · have c6 : a2.toInt < a0.toInt := wk_cgtT c6
      exact J17  s.heap locs ls  (show (-2147483648) ≤ a0.toInt by omega) (show a0.toInt ≤ 2147483647 by omega) (show (-1) ≤ a2.toInt by omega) (show a2.toInt ≤ 9 by omega)  hw   (lv_sub hl [0, 1, 2] rfl)
    · have c6 : a0.toInt ≤ a2.toInt := wk_cgtF c6
      refine lv_iconst (v := 1) hx hb dX12_in_13 (by decide) ?_
      refine lv_goto (tgt := 18) hx hb dX12_in_14 (by decide) ?_
      exact tk_zret hC hr rfl hlocks hK ⟨rfl, (Or.inr ⟨rfl, (show 0 ≤ a0.toInt by omega), (show a0.toInt ≤ 9 by omega), (show 0 ≤ a2.toInt by omega)⟩)⟩ hw dX12_in_18
abbrev P_X12_numberHere_5 (ad : Nat → Nat) (cy : Nat → ClassId) (B : Int) (qr : Nat) (s1 : Int) (a2 : Int32) (w0 : va_W) : Int32 → va_W → Prop := fun r u => TW ksM ad cy B qr 12 u ∧ FE ksM [(12, 14, 14), (12, 15, 15), (12, 16, 16)] w0 u ∧ ((r = 0 ∧ (∃ y : Int32, gi u 0 1 = y ∧ 1 ≤ y.toInt ∧ y.toInt ≤ 400) ∧ (∃ y : Int32, gi u 0 15 = y ∧ 1 ≤ y.toInt ∧ y.toInt ≤ 3205)) ∨ (r = 0 ∧ (∃ y : Int32, gi u 0 1 = y ∧ 0 ≤ y.toInt ∧ y.toInt ≤ 400) ∧ (∃ y : Int32, gi u 0 15 = y ∧ 1 ≤ y.toInt ∧ y.toInt ≤ 3205)) ∨ (r = 1 ∧ 0 ≤ a2.toInt ∧ (∃ y : Int32, gi u 0 1 = y ∧ 1 ≤ y.toInt ∧ y.toInt ≤ 400) ∧ (∃ y : Int32, gi u 0 16 = y ∧ 0 ≤ y.toInt ∧ y.toInt ≤ 9)))
set_option maxHeartbeats 4000000 in
set_option maxRecDepth 100000 in
theorem k_X12_numberHere_5 (l : Launch) (adK adV : Nat → Nat) (dC : Nat → ClassId) (dI : Nat → Nat → Nat) (cy : Nat → ClassId) (ad : Nat → Nat) (B : Int) (hB0 : 100000 ≤ B) (hB1 : B ≤ 1073741824) (qr : Nat) (s1 : Int)  (a2 : Int32) (ra2 : (-1) ≤ a2.toInt) (ta2 : a2.toInt ≤ 9) (w0 : va_W) (sz : Nat) (hT : TW ksM ad cy B qr 12 w0)  : Met l yX12_numberHere wsX12_numberHere ({ frames := 2, cells := 0, slots := 0, locals := 37 }) (va_Pc [.ref (ad 0), .int 0, .int a2] (wpreS adK adV dC dI cy sz w0)) (va_Qi (P_X12_numberHere_5 ad cy B qr s1 a2 w0) (fun u : va_W => wpost dC dI cy (va_A w0 sz) u) (va_A w0 sz)) 0 0 (va_A w0 sz) := by
  refine Met.ofW (cc := cX12_numberHere) (maxL := 5) (ret := (some .boolean)) (by decide) rfl ?_
  intro p e s m args below meth c s₁ Bk hml hv
  obtain ⟨rfl, ⟨hsz, hP, hK, hD0⟩, hE, hSR⟩ := hv
  have hx := Bk.exec
  have hb := Bk.bytes
  have hr := Bk.returns
  have hlocks := Bk.notSynchronized
  have hC : CallFix p m c cX12_numberHere 5 s _ wsX12_numberHere RX12 := ⟨hx, hb, hml, findClass_of_methodNamed Bk.named, atoms_spec (ws := wsX12_numberHere) Bk.pre⟩
  subst hsz
  have hD := hD0.self (sz := s.heap.size)
  generalize hAe : va_A w0 s.heap.size = A at hD hE ⊢
  have hA : ∀ q : Nat, s.heap.size ≤ q → A q := fun q h => by rw [← hAe]; exact Or.inr h
  have hw : Wd dC dI A s.heap s.heap [] w0 := ⟨hP, hD, va_S.rf⟩
  have hF : FE ksM [(12, 14, 14), (12, 15, 15), (12, 16, 16)] w0 w0 := FE.rf
  have hl := lv_entry ([.ref (ad 0), .int 0, .int a2]) (n := 5) (Nat.le_of_ble_eq_true rfl)
  rw [lg_entry_eq]
  generalize (lg_sl ([.ref (ad 0), .int 0, .int a2]) ++ List.replicate (5 - (lg_sl ([.ref (ad 0), .int 0, .int a2])).length) Slot.unset).toArray = ls at hl ⊢
  have hl : lv_has ls 5 [(0, .ref (ad 0)), (1, .int 0), (2, .int a2)] := hl
  generalize hloc : ([] : List Loc) = locs at hw ⊢
  have hinX12 : ∀ w ∈ u_ws RX12 TX12 42, w ∈ wsX12_numberHere := fun _ h => List.mem_cons_of_mem _ (List.mem_append_right _ (h))
  have J126 : ∀ (v126_3 : Int32) (v126_4 : Int32) (f126_0_1 : Int32) (f126_0_14 : Int32) (f126_0_16 : Int32) (H : Heap) (locs : List Loc) (ls : Array Slot) (w1 : va_W), 0 ≤ a2.toInt → a2.toInt ≤ 9 → 0 ≤ v126_3.toInt → v126_3.toInt ≤ 399 → 0 ≤ v126_4.toInt → v126_4.toInt ≤ 9 → 1 ≤ f126_0_1.toInt → f126_0_1.toInt ≤ 400 → 0 ≤ f126_0_14.toInt → f126_0_14.toInt ≤ 400 → 0 ≤ f126_0_16.toInt → f126_0_16.toInt ≤ 9 → Wd dC dI A s.heap H locs w1 → TW ksM ad cy B qr 12 w1 → FE ksM [(12, 14, 14), (12, 15, 15), (12, 16, 16)] w0 w1 → gi w1 0 1 = f126_0_1 → gi w1 0 14 = f126_0_14 → gi w1 0 16 = f126_0_16 → lv_has ls 5 [(0, .ref (ad 0)), (1, .int 0), (2, .int a2), (3, .int v126_3), (4, .int v126_4)] → W p l e ({ frames := 2, cells := 0, slots := 0, locals := 37 }) s m (List.toArray [.ref (ad 0), .int 0, .int a2]) below meth c H locs 0 0 (MQ below (va_Qi (P_X12_numberHere_5 ad cy B qr s1 a2 w0) (fun u : va_W => wpost dC dI cy A u) A) (List.toArray [.ref (ad 0), .int 0, .int a2]) s 0 0 A) (F0 m 126 ls []) := by
    intro v126_3 v126_4 f126_0_1 f126_0_14 f126_0_16 H locs ls w1 r2 t3 r4 t5 r6 t7 r8 t9 r11 t12 r14 t15 hw hT hF c10 c13 c16 hl
    refine lv_iconst (v := 1) hx hb dX12_numberHere_126 (by decide) ?_
    refine lv_goto (tgt := 131) hx hb dX12_numberHere_127 (by decide) ?_
    exact tk_zret hC hr rfl hlocks hK ⟨hT, hF, (Or.inr (Or.inr ⟨rfl, (show 0 ≤ a2.toInt by omega), ⟨f126_0_1, c10, (show 1 ≤ f126_0_1.toInt by omega), (show f126_0_1.toInt ≤ 400 by omega)⟩, ⟨f126_0_16, c16, (show 0 ≤ f126_0_16.toInt by omega), (show f126_0_16.toInt ≤ 9 by omega)⟩⟩))⟩ hw dX12_numberHere_131
  have J117 : ∀ (v117_3 : Int32) (v117_4 : Int32) (f117_0_1 : Int32) (f117_0_14 : Int32) (f117_0_16 : Int32) (H : Heap) (locs : List Loc) (ls : Array Slot) (w17 : va_W), (-1) ≤ a2.toInt → a2.toInt ≤ 9 → 0 ≤ v117_3.toInt → v117_3.toInt ≤ 399 → 1 ≤ f117_0_1.toInt → f117_0_1.toInt ≤ 400 → 0 ≤ f117_0_14.toInt → f117_0_14.toInt ≤ 400 → Wd dC dI A s.heap H locs w17 → TW ksM ad cy B qr 12 w17 → FE ksM [(12, 14, 14), (12, 15, 15), (12, 16, 16)] w0 w17 → gi w17 0 1 = f117_0_1 → gi w17 0 14 = f117_0_14 → gi w17 0 16 = f117_0_16 → lv_has ls 5 [(0, .ref (ad 0)), (1, .int 0), (2, .int a2), (3, .int v117_3), (4, .int v117_4)] → W p l e ({ frames := 2, cells := 0, slots := 0, locals := 37 }) s m (List.toArray [.ref (ad 0), .int 0, .int a2]) below meth c H locs 0 0 (MQ below (va_Qi (P_X12_numberHere_5 ad cy B qr s1 a2 w0) (fun u : va_W => wpost dC dI cy A u) A) (List.toArray [.ref (ad 0), .int 0, .int a2]) s 0 0 A) (F0 m 117 ls []) := by
    intro v117_3 v117_4 f117_0_1 f117_0_14 f117_0_16 H locs ls w17 r18 t19 r20 t21 r22 t23 r25 t26 hw hT hF c24 c27 c28 hl
    refine lv_aload_n hx hb dX12_numberHere_117 rfl (lv_at hl 0 rfl) ?_
    refine lv_iconst (v := 1) hx hb dX12_numberHere_118 (by decide) ?_
    refine lv_iload_n hx hb dX12_numberHere_119 rfl (lv_at hl 3 rfl) ?_
    refine tk_Vi hC hK hw hT hA hE hSR kM_at0 (by decide) rfl (k_X12_fails_1 l adK adV dC dI cy ad B (by omega) (by omega) qr s1   1 (by decide) (by decide) v117_3 (show 0 ≤ v117_3.toInt by omega) (show v117_3.toInt ≤ 400 by omega) w17 H.size hT ) (cwV 2 hC.2.2.2.2 gX12_numberHere_X12_fails rfl rfl rfl (by decide +kernel) ⟨Nat.le_of_ble_eq_true rfl, Nat.le_of_ble_eq_true rfl⟩) rfl hl.1 rfl (Nat.le_of_ble_eq_true rfl) dX12_numberHere_120 (fun r29 w31 H locs hp30 hw => ?_)
    obtain ⟨hT, k32, hg35⟩ := hp30
    have hF := hF.tr k32 (by decide)
    have c36 := k32.gi kM_at0 (by decide) c24
    have c37 := k32.gi kM_at0 (by decide) c27
    have c38 := k32.gi kM_at0 (by decide) c28
    obtain ⟨rfl, ⟨x33, c34, rx33, tx33⟩⟩ := hg35
    refine lv_if_eq (tgt := 130) hx hb dX12_numberHere_123 (by decide) (fun _ => ?_) (fun c => absurd (by decide) c)
    refine lv_iconst (v := 0) hx hb dX12_numberHere_130 (by decide) ?_
    exact tk_zret hC hr rfl hlocks hK ⟨hT, hF, (Or.inl ⟨rfl, ⟨f117_0_1, c36, (show 1 ≤ f117_0_1.toInt by omega), (show f117_0_1.toInt ≤ 400 by omega)⟩, ⟨x33, c34, (show 1 ≤ x33.toInt by omega), (show x33.toInt ≤ 3205 by omega)⟩⟩)⟩ hw dX12_numberHere_131
  have L34 : ∀ (n34 : Nat) (v34_3 : Int32) (v34_4 : Int32) (f34_0_1 : Int32) (f34_0_14 : Int32) (H : Heap) (locs : List Loc) (ls : Array Slot) (w39 : va_W), (-1) ≤ a2.toInt → a2.toInt ≤ 9 → 0 ≤ v34_3.toInt → v34_3.toInt ≤ 399 → 1 ≤ f34_0_1.toInt → f34_0_1.toInt ≤ 400 → 0 ≤ f34_0_14.toInt → f34_0_14.toInt ≤ 400 → (400 - f34_0_14.toInt).toNat < n34 → Wd dC dI A s.heap H locs w39 → TW ksM ad cy B qr 12 w39 → FE ksM [(12, 14, 14), (12, 15, 15), (12, 16, 16)] w0 w39 → gi w39 0 1 = f34_0_1 → gi w39 0 14 = f34_0_14 → lv_has ls 5 [(0, .ref (ad 0)), (1, .int 0), (2, .int a2), (3, .int v34_3), (4, .int v34_4)] → W p l e ({ frames := 2, cells := 0, slots := 0, locals := 37 }) s m (List.toArray [.ref (ad 0), .int 0, .int a2]) below meth c H locs 0 0 (MQ below (va_Qi (P_X12_numberHere_5 ad cy B qr s1 a2 w0) (fun u : va_W => wpost dC dI cy A u) A) (List.toArray [.ref (ad 0), .int 0, .int a2]) s 0 0 A) (F0 m 34 ls []) := by
    intro n34
    induction n34 with
    | zero => intro v34_3 v34_4 f34_0_1 f34_0_14 H locs ls w39 r40 t41 r42 t43 r44 t45 r47 t48 hm34 hw hT hF c46 c49 hl; omega
    | succ n34 ih34 =>
      intro v34_3 v34_4 f34_0_1 f34_0_14 H locs ls w39 r40 t41 r42 t43 r44 t45 r47 t48 hm34 hw hT hF c46 c49 hl
      have J75 : ∀ (v75_4 : Int32) (H : Heap) (locs : List Loc) (ls : Array Slot) (w50 : va_W), (-1) ≤ a2.toInt → a2.toInt ≤ 9 → 0 ≤ v34_3.toInt → v34_3.toInt ≤ 399 → 1 ≤ f34_0_1.toInt → f34_0_1.toInt ≤ 400 → 0 ≤ f34_0_14.toInt → f34_0_14.toInt ≤ 399 → Wd dC dI A s.heap H locs w50 → TW ksM ad cy B qr 12 w50 → FE ksM [(12, 14, 14), (12, 15, 15), (12, 16, 16)] w0 w50 → gi w50 0 1 = f34_0_1 → gi w50 0 14 = f34_0_14 → lv_has ls 5 [(0, .ref (ad 0)), (1, .int 0), (2, .int a2), (3, .int v34_3), (4, .int v75_4)] → W p l e ({ frames := 2, cells := 0, slots := 0, locals := 37 }) s m (List.toArray [.ref (ad 0), .int 0, .int a2]) below meth c H locs 0 0 (MQ below (va_Qi (P_X12_numberHere_5 ad cy B qr s1 a2 w0) (fun u : va_W => wpost dC dI cy A u) A) (List.toArray [.ref (ad 0), .int 0, .int a2]) s 0 0 A) (F0 m 75 ls []) := by
        intro v75_4 H locs ls w50 r51 t52 r53 t54 r55 t56 r58 t59 hw hT hF c57 c60 hl
        refine lv_aload_n hx hb dX12_numberHere_75 rfl (lv_at hl 0 rfl) ?_
        refine lv_dup hx hb dX12_numberHere_76 rfl ?_
        refine tk_geti hC hK hw hT hinX12 kM_at0 (by decide) rfl 14 (by decide) (List.mem_of_getElem? (i := 1) rfl) rfl rfl dX12_numberHere_77 (fun x61 c62 rx61 tx61 => ?_)
        refine wk_top f34_0_14 (c62.symm.trans c60) ?_
        refine lv_iconst (v := 1) hx hb dX12_numberHere_80 (by decide) ?_
        refine lv_iadd hx hb dX12_numberHere_81 ?_
        refine lv_topi (fun x63 ex63 => ?_)
        have ex63 : x63.toInt = f34_0_14.toInt + (1 : Int) := by rw [ex63]; exact wk_add (show (-2147483648) ≤ f34_0_14.toInt + (1 : Int) by omega) (show f34_0_14.toInt + (1 : Int) ≤ 2147483647 by omega)
        refine tk_puti hC hK hw hT hinX12 tyX12_ok nmX12 kM_at0 (by decide) rfl rfl 14 (by decide) (List.mem_of_getElem? (i := 1) rfl) rfl rfl rfl rfl (show 0 ≤ x63.toInt by omega) (show x63.toInt ≤ 400 by omega) dX12_numberHere_82 (fun H locs w64 hw hT k66 c65 => ?_)
        have hF := hF.put kM_at0 (k := 14) (by decide) k66
        have c67 := k66.gi (Or.inr (by decide)) c57
        refine lv_goto (tgt := 34) hx hb dX12_numberHere_85 (by decide) ?_
        exact ih34 v34_3 v75_4 f34_0_1 x63 H locs ls w64 (show (-1) ≤ a2.toInt by omega) (show a2.toInt ≤ 9 by omega) (show 0 ≤ v34_3.toInt by omega) (show v34_3.toInt ≤ 399 by omega) (show 1 ≤ f34_0_1.toInt by omega) (show f34_0_1.toInt ≤ 400 by omega) (show 0 ≤ x63.toInt by omega) (show x63.toInt ≤ 400 by omega) (show (400 - x63.toInt).toNat < n34 by omega) hw hT hF c67 c65 (lv_sub hl [0, 1, 2, 3, 4] rfl)
      refine lv_aload_n hx hb dX12_numberHere_34 rfl (lv_at hl 0 rfl) ?_
      refine lv_aload_n hx hb dX12_numberHere_35 rfl (lv_at hl 0 rfl) ?_
      refine tk_geti hC hK hw hT hinX12 kM_at0 (by decide) rfl 14 (by decide) (List.mem_of_getElem? (i := 1) rfl) rfl rfl dX12_numberHere_36 (fun x68 c69 rx68 tx68 => ?_)
      refine wk_top f34_0_14 (c69.symm.trans c49) ?_
      refine tk_Vi hC hK hw hT hA hE hSR kM_at0 (by decide) rfl (k_X12_isDigit_2 l adK adV dC dI cy ad B (by omega) (by omega) qr s1   f34_0_14 (show 0 ≤ f34_0_14.toInt by omega) (show f34_0_14.toInt ≤ 400 by omega) w39 H.size hT ) (cwV 1 hC.2.2.2.2 gX12_numberHere_X12_isDigit rfl rfl rfl (by decide +kernel) ⟨Nat.le_of_ble_eq_true rfl, Nat.le_of_ble_eq_true rfl⟩) rfl hl.1 rfl (Nat.le_of_ble_eq_true rfl) dX12_numberHere_39 (fun r70 w72 H locs hp71 hw => ?_)
      obtain ⟨rfl, hg79⟩ := hp71
      rcases hg79 with ⟨rfl, ⟨x74, c75, rx74, tx74⟩⟩ | ⟨rfl, g76, ⟨x77, c78, rx77, tx77⟩⟩
      · have ex74 : x74.toInt = f34_0_1.toInt := by rw [← c46.symm.trans c75]
        refine lv_if_eq (tgt := 88) hx hb dX12_numberHere_42 (by decide) (fun _ => ?_) (fun c => absurd (by decide) c)
        refine lv_aload_n hx hb dX12_numberHere_88 rfl (lv_at hl 0 rfl) ?_
        refine lv_iload hx hb dX12_numberHere_89 (lv_at hl 4 rfl) ?_
        refine tk_puti hC hK hw hT hinX12 tyX12_ok nmX12 kM_at0 (by decide) rfl rfl 16 (by decide) (List.mem_of_getElem? (i := 3) rfl) rfl rfl rfl rfl (wk_i32 v34_4).1 (wk_i32 v34_4).2 dX12_numberHere_91 (fun H locs w80 hw hT k82 c81 => ?_)
        have hF := hF.put kM_at0 (k := 16) (by decide) k82
        have c83 := k82.gi (Or.inr (by decide)) c46
        have c84 := k82.gi (Or.inr (by decide)) c49
        refine lv_aload_n hx hb dX12_numberHere_94 rfl (lv_at hl 0 rfl) ?_
        refine tk_geti hC hK hw hT hinX12 kM_at0 (by decide) rfl 14 (by decide) (List.mem_of_getElem? (i := 1) rfl) rfl rfl dX12_numberHere_95 (fun x85 c86 rx85 tx85 => ?_)
        refine wk_top f34_0_14 (c86.symm.trans c84) ?_
        refine lv_iload_n hx hb dX12_numberHere_98 rfl (lv_at hl 3 rfl) ?_
        refine lv_isub hx hb dX12_numberHere_99 ?_
        refine lv_topi (fun x87 ex87 => ?_)
        have ex87 : x87.toInt = f34_0_14.toInt - v34_3.toInt := by rw [ex87]; exact wk_sub (show (-2147483648) ≤ f34_0_14.toInt - v34_3.toInt by omega) (show f34_0_14.toInt - v34_3.toInt ≤ 2147483647 by omega)
        refine lv_iconst (v := 5) hx hb dX12_numberHere_100 (by decide) ?_
        refine lv_icmp_gt (tgt := 117) hx hb dX12_numberHere_101 (by decide) (fun c88 => ?_) (fun c88 => ?_)
        · have c88 : (5 : Int) < x87.toInt := wk_lt.mp c88
          exact J117 v34_3 v34_4 f34_0_1 f34_0_14 v34_4 H locs ls w80 (show (-1) ≤ a2.toInt by omega) (show a2.toInt ≤ 9 by omega) (show 0 ≤ v34_3.toInt by omega) (show v34_3.toInt ≤ 399 by omega) (show 1 ≤ f34_0_1.toInt by omega) (show f34_0_1.toInt ≤ 400 by omega) (show 0 ≤ f34_0_14.toInt by omega) (show f34_0_14.toInt ≤ 400 by omega)  hw hT hF c83 c84 c81 (lv_sub hl [0, 1, 2, 3, 4] rfl)
        · have c88 : x87.toInt ≤ (5 : Int) := wk_ltF c88
          refine lv_iload hx hb dX12_numberHere_104 (lv_at hl 4 rfl) ?_
          refine lv_i2l hx hb dX12_numberHere_106 rfl ?_
          refine lv_topl (fun x89 ex89 => ?_)
          have ex89 : x89.toInt = v34_4.toInt := by rw [ex89]; exact wk_i2l _
          have bx89 := wk_i32 v34_4
          refine lv_iload_n hx hb dX12_numberHere_107 rfl (lv_at hl 1 rfl) ?_
          refine lv_i2l hx hb dX12_numberHere_108 rfl ?_
          refine wk_topl 0 (by decide) ?_
          refine lv_iload_n hx hb dX12_numberHere_109 rfl (lv_at hl 2 rfl) ?_
          refine lv_i2l hx hb dX12_numberHere_110 rfl ?_
          refine lv_topl (fun x90 ex90 => ?_)
          have ex90 : x90.toInt = a2.toInt := by rw [ex90]; exact wk_i2l _
          have bx90 := wk_i32 a2
          refine tk_Si hC hK hw hT hA hE hSR (k_X12_in_5 l adK adV dC dI cy ad B (by omega) (by omega) qr s1   x89 (show (-2147483648) ≤ x89.toInt by omega) (show x89.toInt ≤ 2147483647 by omega) x90 (show (-1) ≤ x90.toInt by omega) (show x90.toInt ≤ 9 by omega) w80 H.size hT ) (va_cwS 3 hC.2.2.2.2 gX12_numberHere_X12_in rfl rfl rfl (by decide +kernel) ⟨Nat.le_of_ble_eq_true rfl, Nat.le_of_ble_eq_true rfl⟩) rfl hl.1 rfl (Nat.le_of_ble_eq_true rfl) dX12_numberHere_111 (fun r91 w93 H locs hp92 hw => ?_)
          obtain ⟨rfl, hg98⟩ := hp92
          rcases hg98 with rfl | ⟨rfl, g95, g96, g97⟩
          · refine lv_if_ne (tgt := 126) hx hb dX12_numberHere_114 (by decide) (fun c => absurd (by decide) c) (fun _ => ?_)
            exact J117 v34_3 v34_4 f34_0_1 f34_0_14 v34_4 H locs ls w80 (show (-1) ≤ a2.toInt by omega) (show a2.toInt ≤ 9 by omega) (show 0 ≤ v34_3.toInt by omega) (show v34_3.toInt ≤ 399 by omega) (show 1 ≤ f34_0_1.toInt by omega) (show f34_0_1.toInt ≤ 400 by omega) (show 0 ≤ f34_0_14.toInt by omega) (show f34_0_14.toInt ≤ 400 by omega)  hw hT hF c83 c84 c81 (lv_sub hl [0, 1, 2, 3, 4] rfl)
          · refine lv_if_ne (tgt := 126) hx hb dX12_numberHere_114 (by decide) (fun _ => ?_) (fun c => absurd c (by decide))
            exact J126 v34_3 v34_4 f34_0_1 f34_0_14 v34_4 H locs ls w80 (show 0 ≤ a2.toInt by omega) (show a2.toInt ≤ 9 by omega) (show 0 ≤ v34_3.toInt by omega) (show v34_3.toInt ≤ 399 by omega) (show 0 ≤ v34_4.toInt by omega) (show v34_4.toInt ≤ 9 by omega) (show 1 ≤ f34_0_1.toInt by omega) (show f34_0_1.toInt ≤ 400 by omega) (show 0 ≤ f34_0_14.toInt by omega) (show f34_0_14.toInt ≤ 400 by omega) (show 0 ≤ v34_4.toInt by omega) (show v34_4.toInt ≤ 9 by omega)  hw hT hF c83 c84 c81 (lv_sub hl [0, 1, 2, 3, 4] rfl)
      · have ex77 : x77.toInt = f34_0_1.toInt := by rw [← c46.symm.trans c78]
        refine lv_if_eq (tgt := 88) hx hb dX12_numberHere_42 (by decide) (fun c => absurd c (by decide)) (fun _ => ?_)
        refine lv_aload_n hx hb dX12_numberHere_45 rfl (lv_at hl 0 rfl) ?_
        refine tk_geti hC hK hw hT hinX12 kM_at0 (by decide) rfl 14 (by decide) (List.mem_of_getElem? (i := 1) rfl) rfl rfl dX12_numberHere_46 (fun x99 c100 rx99 tx99 => ?_)
        refine wk_top f34_0_14 (c100.symm.trans c49) ?_
        refine lv_iload_n hx hb dX12_numberHere_49 rfl (lv_at hl 3 rfl) ?_
        refine lv_isub hx hb dX12_numberHere_50 ?_
        refine lv_topi (fun x101 ex101 => ?_)
        have ex101 : x101.toInt = f34_0_14.toInt - v34_3.toInt := by rw [ex101]; exact wk_sub (show (-2147483648) ≤ f34_0_14.toInt - v34_3.toInt by omega) (show f34_0_14.toInt - v34_3.toInt ≤ 2147483647 by omega)
        refine lv_iconst (v := 5) hx hb dX12_numberHere_51 (by decide) ?_
        refine lv_icmp_ge (tgt := 75) hx hb dX12_numberHere_52 (by decide) (fun c102 => ?_) (fun c102 => ?_)
        · have c102 : (5 : Int) ≤ x101.toInt := wk_le.mp c102
          exact J75 v34_4 H locs ls w39 (show (-1) ≤ a2.toInt by omega) (show a2.toInt ≤ 9 by omega) (show 0 ≤ v34_3.toInt by omega) (show v34_3.toInt ≤ 399 by omega) (show 1 ≤ f34_0_1.toInt by omega) (show f34_0_1.toInt ≤ 400 by omega) (show 0 ≤ f34_0_14.toInt by omega) (show f34_0_14.toInt ≤ 399 by omega)  hw hT hF c46 c49 (lv_sub hl [0, 1, 2, 3, 4] rfl)
        · have c102 : x101.toInt < (5 : Int) := wk_leF c102
          refine lv_bipush (v := 10) hx hb dX12_numberHere_55 (by decide) ?_
          refine lv_iload hx hb dX12_numberHere_57 (lv_at hl 4 rfl) ?_
          refine lv_imul hx hb dX12_numberHere_59 ?_
          have nx103 := wk_i32 v34_4
          refine lv_topi (fun x104 ex104 => ?_)
          refine lv_aload_n hx hb dX12_numberHere_60 rfl (lv_at hl 0 rfl) ?_
          refine tk_getA hC hK hw hT hinX12 kM_at0 (by decide) rfl 0 (by decide) (List.mem_of_getElem? (i := 2) rfl) rfl rfl dX12_numberHere_61 ?_
          refine lv_aload_n hx hb dX12_numberHere_64 rfl (lv_at hl 0 rfl) ?_
          refine tk_geti hC hK hw hT hinX12 kM_at0 (by decide) rfl 14 (by decide) (List.mem_of_getElem? (i := 1) rfl) rfl rfl dX12_numberHere_65 (fun x105 c106 rx105 tx105 => ?_)
          refine wk_top f34_0_14 (c106.symm.trans c49) ?_
          refine tk_bald hC hK hw hT kM_at1 rfl rfl (show 0 ≤ f34_0_14.toInt by omega) (show f34_0_14.toInt < 400 by omega) dX12_numberHere_68 (fun x107 c108 rx107 tx107 => ?_)
          have c108 : gi w39 1 (f34_0_14.toInt).toNat = x107 := (congrArg (gi w39 1) (congrArg Int.toNat (show f34_0_14.toInt = f34_0_14.toInt by omega))).trans c108
          refine lv_iadd hx hb dX12_numberHere_69 ?_
          have nx109 := wk_i32 x104
          refine lv_topi (fun x110 ex110 => ?_)
          refine lv_bipush (v := 48) hx hb dX12_numberHere_70 (by decide) ?_
          refine lv_isub hx hb dX12_numberHere_72 ?_
          have nx111 := wk_i32 x110
          refine lv_topi (fun x112 ex112 => ?_)
          refine lv_istore (lv' := [(4, .int x112), (0, .ref (ad 0)), (1, .int 0), (2, .int a2), (3, .int v34_3)]) hx hb dX12_numberHere_73 hl (by decide) rfl (fun ls hl => ?_)
          exact J75 x112 H locs ls w39 (show (-1) ≤ a2.toInt by omega) (show a2.toInt ≤ 9 by omega) (show 0 ≤ v34_3.toInt by omega) (show v34_3.toInt ≤ 399 by omega) (show 1 ≤ f34_0_1.toInt by omega) (show f34_0_1.toInt ≤ 400 by omega) (show 0 ≤ f34_0_14.toInt by omega) (show f34_0_14.toInt ≤ 399 by omega)  hw hT hF c46 c49 (lv_sub hl [1, 2, 3, 4, 0] rfl)
  refine lv_aload_n hx hb dX12_numberHere_0 rfl (lv_at hl 0 rfl) ?_
  obtain ⟨x113, c114, rx113, tx113⟩ := hT.rdi (lo := 0) (hi := 400) (k := 14) kM_at0 (by decide) rfl
  refine tk_Vi hC hK hw hT hA hE hSR kM_at0 (by decide) rfl (k_X12_see_1 l adK adV dC dI cy ad B (by omega) (by omega) qr s1    w0 s.heap.size hT x113 c114 (show 0 ≤ x113.toInt by omega) (show x113.toInt ≤ 400 by omega)) (cwV 0 hC.2.2.2.2 gX12_numberHere_X12_see rfl rfl rfl (by decide +kernel) ⟨Nat.le_of_ble_eq_true rfl, Nat.le_of_ble_eq_true rfl⟩) rfl hl.1 rfl (Nat.le_of_ble_eq_true rfl) dX12_numberHere_1 (fun r115 w117 H locs hp116 hw => ?_)
  obtain ⟨hT, k118, hg135⟩ := hp116
  have hF := hF.tr k118 (by decide)
  rcases hg135 with ⟨g119, g120, ⟨x121, c122, rx121, tx121⟩, ⟨x123, c124, rx123, tx123⟩, g125, g126⟩ | ⟨rfl, ⟨x127, c128, rx127, tx127⟩, ⟨x129, c130, rx129, tx129⟩, g131⟩ | ⟨rfl, ⟨x132, c133, rx132, tx132⟩, g134⟩
  · have g125 : (gi w117 1 (x123.toInt).toNat).toInt ≠ 32 := by have q := g125; simp only [c124] at q; omega
    have g126 : (x123.toInt = x113.toInt ∨ (gi w0 1 (x113.toInt).toNat).toInt = 32) := by have q := g126; simp only [c114, c124] at q; omega
    refine lv_pop hx hb dX12_numberHere_4 rfl ?_
    refine lv_aload_n hx hb dX12_numberHere_5 rfl (lv_at hl 0 rfl) ?_
    refine lv_aload_n hx hb dX12_numberHere_6 rfl (lv_at hl 0 rfl) ?_
    refine tk_geti hC hK hw hT hinX12 kM_at0 (by decide) rfl 14 (by decide) (List.mem_of_getElem? (i := 1) rfl) rfl rfl dX12_numberHere_7 (fun x138 c139 rx138 tx138 => ?_)
    refine wk_top x123 (c139.symm.trans c124) ?_
    refine tk_Vi hC hK hw hT hA hE hSR kM_at0 (by decide) rfl (k_X12_isDigit_1 l adK adV dC dI cy ad B (by omega) (by omega) qr s1   x123 (show 0 ≤ x123.toInt by omega) (show x123.toInt ≤ 399 by omega) w117 H.size hT ) (cwV 1 hC.2.2.2.2 gX12_numberHere_X12_isDigit rfl rfl rfl (by decide +kernel) ⟨Nat.le_of_ble_eq_true rfl, Nat.le_of_ble_eq_true rfl⟩) rfl hl.1 rfl (Nat.le_of_ble_eq_true rfl) dX12_numberHere_10 (fun r140 w142 H locs hp141 hw => ?_)
    obtain ⟨rfl, hg148⟩ := hp141
    rcases hg148 with ⟨rfl, ⟨x144, c145, rx144, tx144⟩⟩ | ⟨rfl, ⟨x146, c147, rx146, tx146⟩⟩
    · have ex144 : x144.toInt = x121.toInt := by rw [← c122.symm.trans c145]
      refine lv_if_ne (tgt := 26) hx hb dX12_numberHere_13 (by decide) (fun c => absurd (by decide) c) (fun _ => ?_)
      refine lv_aload_n hx hb dX12_numberHere_16 rfl (lv_at hl 0 rfl) ?_
      refine lv_iconst (v := 0) hx hb dX12_numberHere_17 (by decide) ?_
      refine lv_aload_n hx hb dX12_numberHere_18 rfl (lv_at hl 0 rfl) ?_
      refine tk_geti hC hK hw hT hinX12 kM_at0 (by decide) rfl 14 (by decide) (List.mem_of_getElem? (i := 1) rfl) rfl rfl dX12_numberHere_19 (fun x149 c150 rx149 tx149 => ?_)
      refine wk_top x123 (c150.symm.trans c124) ?_
      refine tk_Vi hC hK hw hT hA hE hSR kM_at0 (by decide) rfl (k_X12_fails_1 l adK adV dC dI cy ad B (by omega) (by omega) qr s1   0 (by decide) (by decide) x123 (show 0 ≤ x123.toInt by omega) (show x123.toInt ≤ 400 by omega) w117 H.size hT ) (cwV 2 hC.2.2.2.2 gX12_numberHere_X12_fails rfl rfl rfl (by decide +kernel) ⟨Nat.le_of_ble_eq_true rfl, Nat.le_of_ble_eq_true rfl⟩) rfl hl.1 rfl (Nat.le_of_ble_eq_true rfl) dX12_numberHere_22 (fun r151 w153 H locs hp152 hw => ?_)
      obtain ⟨hT, k154, hg157⟩ := hp152
      have hF := hF.tr k154 (by decide)
      have c158 := k154.gi kM_at0 (by decide) c122
      have c159 := k154.gi kM_at0 (by decide) c124
      obtain ⟨rfl, ⟨x155, c156, rx155, tx155⟩⟩ := hg157
      exact tk_zret hC hr rfl hlocks hK ⟨hT, hF, (Or.inl ⟨rfl, ⟨x121, c158, (show 1 ≤ x121.toInt by omega), (show x121.toInt ≤ 400 by omega)⟩, ⟨x155, c156, (show 1 ≤ x155.toInt by omega), (show x155.toInt ≤ 3205 by omega)⟩⟩)⟩ hw dX12_numberHere_25
    · have ex146 : x146.toInt = x121.toInt := by rw [← c122.symm.trans c147]
      refine lv_if_ne (tgt := 26) hx hb dX12_numberHere_13 (by decide) (fun _ => ?_) (fun c => absurd c (by decide))
      refine lv_aload_n hx hb dX12_numberHere_26 rfl (lv_at hl 0 rfl) ?_
      refine tk_geti hC hK hw hT hinX12 kM_at0 (by decide) rfl 14 (by decide) (List.mem_of_getElem? (i := 1) rfl) rfl rfl dX12_numberHere_27 (fun x160 c161 rx160 tx160 => ?_)
      refine wk_top x123 (c161.symm.trans c124) ?_
      refine lv_istore_n (lv' := [(3, .int x123), (0, .ref (ad 0)), (1, .int 0), (2, .int a2)]) hx hb dX12_numberHere_30 rfl hl (by decide) rfl (fun ls hl => ?_)
      refine lv_iconst (v := 0) hx hb dX12_numberHere_31 (by decide) ?_
      refine lv_istore (lv' := [(4, .int 0), (3, .int x123), (0, .ref (ad 0)), (1, .int 0), (2, .int a2)]) hx hb dX12_numberHere_32 hl (by decide) rfl (fun ls hl => ?_)
      exact L34 ((400 - x123.toInt).toNat + 1) x123 0 x121 x123 H locs ls w117 (show (-1) ≤ a2.toInt by omega) (show a2.toInt ≤ 9 by omega) (show 0 ≤ x123.toInt by omega) (show x123.toInt ≤ 399 by omega) (show 1 ≤ x121.toInt by omega) (show x121.toInt ≤ 400 by omega) (show 0 ≤ x123.toInt by omega) (show x123.toInt ≤ 400 by omega) (Nat.lt_succ_self _) hw hT hF c122 c124 (lv_sub hl [2, 3, 4, 1, 0] rfl)
  · have g131 : (x129.toInt = x113.toInt ∨ (gi w0 1 (x113.toInt).toNat).toInt = 32) := by have q := g131; simp only [c114, c130] at q; omega
    refine lv_pop hx hb dX12_numberHere_4 rfl ?_
    refine lv_aload_n hx hb dX12_numberHere_5 rfl (lv_at hl 0 rfl) ?_
    refine lv_aload_n hx hb dX12_numberHere_6 rfl (lv_at hl 0 rfl) ?_
    refine tk_geti hC hK hw hT hinX12 kM_at0 (by decide) rfl 14 (by decide) (List.mem_of_getElem? (i := 1) rfl) rfl rfl dX12_numberHere_7 (fun x162 c163 rx162 tx162 => ?_)
    refine wk_top x129 (c163.symm.trans c130) ?_
    refine tk_Vi hC hK hw hT hA hE hSR kM_at0 (by decide) rfl (k_X12_isDigit_3 l adK adV dC dI cy ad B (by omega) (by omega) qr s1   x129 (show 1 ≤ x129.toInt by omega) (show x129.toInt ≤ 399 by omega) w117 H.size hT ) (cwV 1 hC.2.2.2.2 gX12_numberHere_X12_isDigit rfl rfl rfl (by decide +kernel) ⟨Nat.le_of_ble_eq_true rfl, Nat.le_of_ble_eq_true rfl⟩) rfl hl.1 rfl (Nat.le_of_ble_eq_true rfl) dX12_numberHere_10 (fun r164 w166 H locs hp165 hw => ?_)
    obtain ⟨rfl, hg172⟩ := hp165
    rcases hg172 with ⟨rfl, ⟨x168, c169, rx168, tx168⟩⟩ | ⟨rfl, ⟨x170, c171, rx170, tx170⟩⟩
    · have ex168 : x168.toInt = x127.toInt := by rw [← c128.symm.trans c169]
      refine lv_if_ne (tgt := 26) hx hb dX12_numberHere_13 (by decide) (fun c => absurd (by decide) c) (fun _ => ?_)
      refine lv_aload_n hx hb dX12_numberHere_16 rfl (lv_at hl 0 rfl) ?_
      refine lv_iconst (v := 0) hx hb dX12_numberHere_17 (by decide) ?_
      refine lv_aload_n hx hb dX12_numberHere_18 rfl (lv_at hl 0 rfl) ?_
      refine tk_geti hC hK hw hT hinX12 kM_at0 (by decide) rfl 14 (by decide) (List.mem_of_getElem? (i := 1) rfl) rfl rfl dX12_numberHere_19 (fun x173 c174 rx173 tx173 => ?_)
      refine wk_top x129 (c174.symm.trans c130) ?_
      refine tk_Vi hC hK hw hT hA hE hSR kM_at0 (by decide) rfl (k_X12_fails_1 l adK adV dC dI cy ad B (by omega) (by omega) qr s1   0 (by decide) (by decide) x129 (show 0 ≤ x129.toInt by omega) (show x129.toInt ≤ 400 by omega) w117 H.size hT ) (cwV 2 hC.2.2.2.2 gX12_numberHere_X12_fails rfl rfl rfl (by decide +kernel) ⟨Nat.le_of_ble_eq_true rfl, Nat.le_of_ble_eq_true rfl⟩) rfl hl.1 rfl (Nat.le_of_ble_eq_true rfl) dX12_numberHere_22 (fun r175 w177 H locs hp176 hw => ?_)
      obtain ⟨hT, k178, hg181⟩ := hp176
      have hF := hF.tr k178 (by decide)
      have c182 := k178.gi kM_at0 (by decide) c128
      have c183 := k178.gi kM_at0 (by decide) c130
      obtain ⟨rfl, ⟨x179, c180, rx179, tx179⟩⟩ := hg181
      exact tk_zret hC hr rfl hlocks hK ⟨hT, hF, (Or.inl ⟨rfl, ⟨x127, c182, (show 1 ≤ x127.toInt by omega), (show x127.toInt ≤ 400 by omega)⟩, ⟨x179, c180, (show 1 ≤ x179.toInt by omega), (show x179.toInt ≤ 3205 by omega)⟩⟩)⟩ hw dX12_numberHere_25
    · have ex170 : x170.toInt = x127.toInt := by rw [← c128.symm.trans c171]
      refine lv_if_ne (tgt := 26) hx hb dX12_numberHere_13 (by decide) (fun _ => ?_) (fun c => absurd c (by decide))
      refine lv_aload_n hx hb dX12_numberHere_26 rfl (lv_at hl 0 rfl) ?_
      refine tk_geti hC hK hw hT hinX12 kM_at0 (by decide) rfl 14 (by decide) (List.mem_of_getElem? (i := 1) rfl) rfl rfl dX12_numberHere_27 (fun x184 c185 rx184 tx184 => ?_)
      refine wk_top x129 (c185.symm.trans c130) ?_
      refine lv_istore_n (lv' := [(3, .int x129), (0, .ref (ad 0)), (1, .int 0), (2, .int a2)]) hx hb dX12_numberHere_30 rfl hl (by decide) rfl (fun ls hl => ?_)
      refine lv_iconst (v := 0) hx hb dX12_numberHere_31 (by decide) ?_
      refine lv_istore (lv' := [(4, .int 0), (3, .int x129), (0, .ref (ad 0)), (1, .int 0), (2, .int a2)]) hx hb dX12_numberHere_32 hl (by decide) rfl (fun ls hl => ?_)
      exact L34 ((400 - x129.toInt).toNat + 1) x129 0 x127 x129 H locs ls w117 (show (-1) ≤ a2.toInt by omega) (show a2.toInt ≤ 9 by omega) (show 0 ≤ x129.toInt by omega) (show x129.toInt ≤ 399 by omega) (show 1 ≤ x127.toInt by omega) (show x127.toInt ≤ 400 by omega) (show 0 ≤ x129.toInt by omega) (show x129.toInt ≤ 400 by omega) (Nat.lt_succ_self _) hw hT hF c128 c130 (lv_sub hl [2, 3, 4, 1, 0] rfl)
  · obtain ⟨x136, c137, rx136, tx136⟩ := hT.rdi (lo := 0) (hi := 400) (k := 14) kM_at0 (by decide) rfl
    have g134 : (x136.toInt = x113.toInt ∨ (gi w0 1 (x113.toInt).toNat).toInt = 32) := by have q := g134; simp only [c114, c137] at q; omega
    refine lv_pop hx hb dX12_numberHere_4 rfl ?_
    refine lv_aload_n hx hb dX12_numberHere_5 rfl (lv_at hl 0 rfl) ?_
    refine lv_aload_n hx hb dX12_numberHere_6 rfl (lv_at hl 0 rfl) ?_
    refine tk_geti hC hK hw hT hinX12 kM_at0 (by decide) rfl 14 (by decide) (List.mem_of_getElem? (i := 1) rfl) rfl rfl dX12_numberHere_7 (fun x186 c187 rx186 tx186 => ?_)
    refine wk_top x136 (c187.symm.trans c137) ?_
    refine tk_Vi hC hK hw hT hA hE hSR kM_at0 (by decide) rfl (k_X12_isDigit_2 l adK adV dC dI cy ad B (by omega) (by omega) qr s1   x136 (show 0 ≤ x136.toInt by omega) (show x136.toInt ≤ 400 by omega) w117 H.size hT ) (cwV 1 hC.2.2.2.2 gX12_numberHere_X12_isDigit rfl rfl rfl (by decide +kernel) ⟨Nat.le_of_ble_eq_true rfl, Nat.le_of_ble_eq_true rfl⟩) rfl hl.1 rfl (Nat.le_of_ble_eq_true rfl) dX12_numberHere_10 (fun r188 w190 H locs hp189 hw => ?_)
    obtain ⟨rfl, hg197⟩ := hp189
    rcases hg197 with ⟨rfl, ⟨x192, c193, rx192, tx192⟩⟩ | ⟨rfl, g194, ⟨x195, c196, rx195, tx195⟩⟩
    · have ex192 : x192.toInt = x132.toInt := by rw [← c133.symm.trans c193]
      refine lv_if_ne (tgt := 26) hx hb dX12_numberHere_13 (by decide) (fun c => absurd (by decide) c) (fun _ => ?_)
      refine lv_aload_n hx hb dX12_numberHere_16 rfl (lv_at hl 0 rfl) ?_
      refine lv_iconst (v := 0) hx hb dX12_numberHere_17 (by decide) ?_
      refine lv_aload_n hx hb dX12_numberHere_18 rfl (lv_at hl 0 rfl) ?_
      refine tk_geti hC hK hw hT hinX12 kM_at0 (by decide) rfl 14 (by decide) (List.mem_of_getElem? (i := 1) rfl) rfl rfl dX12_numberHere_19 (fun x198 c199 rx198 tx198 => ?_)
      refine wk_top x136 (c199.symm.trans c137) ?_
      refine tk_Vi hC hK hw hT hA hE hSR kM_at0 (by decide) rfl (k_X12_fails_1 l adK adV dC dI cy ad B (by omega) (by omega) qr s1   0 (by decide) (by decide) x136 (show 0 ≤ x136.toInt by omega) (show x136.toInt ≤ 400 by omega) w117 H.size hT ) (cwV 2 hC.2.2.2.2 gX12_numberHere_X12_fails rfl rfl rfl (by decide +kernel) ⟨Nat.le_of_ble_eq_true rfl, Nat.le_of_ble_eq_true rfl⟩) rfl hl.1 rfl (Nat.le_of_ble_eq_true rfl) dX12_numberHere_22 (fun r200 w202 H locs hp201 hw => ?_)
      obtain ⟨hT, k203, hg206⟩ := hp201
      have hF := hF.tr k203 (by decide)
      have c207 := k203.gi kM_at0 (by decide) c133
      have c208 := k203.gi kM_at0 (by decide) c137
      obtain ⟨rfl, ⟨x204, c205, rx204, tx204⟩⟩ := hg206
      exact tk_zret hC hr rfl hlocks hK ⟨hT, hF, (Or.inr (Or.inl ⟨rfl, ⟨x132, c207, (show 0 ≤ x132.toInt by omega), (show x132.toInt ≤ 400 by omega)⟩, ⟨x204, c205, (show 1 ≤ x204.toInt by omega), (show x204.toInt ≤ 3205 by omega)⟩⟩))⟩ hw dX12_numberHere_25
    · have ex195 : x195.toInt = x132.toInt := by rw [← c133.symm.trans c196]
      refine lv_if_ne (tgt := 26) hx hb dX12_numberHere_13 (by decide) (fun _ => ?_) (fun c => absurd c (by decide))
      refine lv_aload_n hx hb dX12_numberHere_26 rfl (lv_at hl 0 rfl) ?_
      refine tk_geti hC hK hw hT hinX12 kM_at0 (by decide) rfl 14 (by decide) (List.mem_of_getElem? (i := 1) rfl) rfl rfl dX12_numberHere_27 (fun x209 c210 rx209 tx209 => ?_)
      refine wk_top x136 (c210.symm.trans c137) ?_
      refine lv_istore_n (lv' := [(3, .int x136), (0, .ref (ad 0)), (1, .int 0), (2, .int a2)]) hx hb dX12_numberHere_30 rfl hl (by decide) rfl (fun ls hl => ?_)
      refine lv_iconst (v := 0) hx hb dX12_numberHere_31 (by decide) ?_
      refine lv_istore (lv' := [(4, .int 0), (3, .int x136), (0, .ref (ad 0)), (1, .int 0), (2, .int a2)]) hx hb dX12_numberHere_32 hl (by decide) rfl (fun ls hl => ?_)
      exact L34 ((400 - x136.toInt).toNat + 1) x136 0 x132 x136 H locs ls w117 (show (-1) ≤ a2.toInt by omega) (show a2.toInt ≤ 9 by omega) (show 0 ≤ x136.toInt by omega) (show x136.toInt ≤ 399 by omega) (show 1 ≤ x132.toInt by omega) (show x132.toInt ≤ 400 by omega) (show 0 ≤ x136.toInt by omega) (show x136.toInt ≤ 400 by omega) (Nat.lt_succ_self _) hw hT hF c133 c137 (lv_sub hl [2, 3, 4, 1, 0] rfl)
abbrev P_X12_in_6 (ad : Nat → Nat) (cy : Nat → ClassId) (B : Int) (qr : Nat) (s1 : Int) (a0 : Int64) (w0 : va_W) : Int32 → va_W → Prop := fun r u => w0 = u ∧ ((r = 0) ∨ (r = 1 ∧ 0 ≤ a0.toInt ∧ a0.toInt ≤ 359))
set_option maxHeartbeats 4000000 in
set_option maxRecDepth 100000 in
theorem k_X12_in_6 (l : Launch) (adK adV : Nat → Nat) (dC : Nat → ClassId) (dI : Nat → Nat → Nat) (cy : Nat → ClassId) (ad : Nat → Nat) (B : Int) (hB0 : 100000 ≤ B) (hB1 : B ≤ 1073741824) (qr : Nat) (s1 : Int)  (a0 : Int64) (ra0 : (-2147483648) ≤ a0.toInt) (ta0 : a0.toInt ≤ 2147483647) (w0 : va_W) (sz : Nat) (hT : TW ksM ad cy B qr 12 w0)  : Met l yX12_in wsX12_in ({ frames := 1, cells := 0, slots := 0, locals := 12 }) (va_Pc [.long a0, .long 0, .long 359] (wpreS adK adV dC dI cy sz w0)) (va_Qi (P_X12_in_6 ad cy B qr s1 a0 w0) (fun u : va_W => wpost dC dI cy (va_A w0 sz) u) (va_A w0 sz)) 0 0 (va_A w0 sz) := by
  refine Met.ofW (cc := cX12_in) (maxL := 6) (ret := (some .boolean)) (by decide) rfl ?_
  intro p e s m args below meth c s₁ Bk hml hv
  obtain ⟨rfl, ⟨hsz, hP, hK, hD0⟩, hE, hSR⟩ := hv
  have hx := Bk.exec
  have hb := Bk.bytes
  have hr := Bk.returns
  have hlocks := Bk.notSynchronized
  have hC : CallFix p m c cX12_in 6 s _ wsX12_in RX12 := ⟨hx, hb, hml, findClass_of_methodNamed Bk.named, atoms_spec (ws := wsX12_in) Bk.pre⟩
  subst hsz
  have hD := hD0.self (sz := s.heap.size)
  generalize hAe : va_A w0 s.heap.size = A at hD hE ⊢
  have hA : ∀ q : Nat, s.heap.size ≤ q → A q := fun q h => by rw [← hAe]; exact Or.inr h
  have hw : Wd dC dI A s.heap s.heap [] w0 := ⟨hP, hD, va_S.rf⟩
  have hF : FE ksM ([] : List (Nat × Nat × Nat)) w0 w0 := FE.rf
  have hl := lv_entry ([.long a0, .long 0, .long 359]) (n := 6) (Nat.le_of_ble_eq_true rfl)
  rw [lg_entry_eq]
  generalize (lg_sl ([.long a0, .long 0, .long 359]) ++ List.replicate (6 - (lg_sl ([.long a0, .long 0, .long 359])).length) Slot.unset).toArray = ls at hl ⊢
  have hl : lv_has ls 6 [(0, .long a0), (2, .long 0), (4, .long 359)] := hl
  generalize hloc : ([] : List Loc) = locs at hw ⊢
  have J17 : ∀ (H : Heap) (locs : List Loc) (ls : Array Slot), (-2147483648) ≤ a0.toInt → a0.toInt ≤ 2147483647 → Wd dC dI A s.heap H locs w0 → lv_has ls 6 [(0, .long a0), (2, .long 0), (4, .long 359)] → W p l e ({ frames := 1, cells := 0, slots := 0, locals := 12 }) s m (List.toArray [.long a0, .long 0, .long 359]) below meth c H locs 0 0 (MQ below (va_Qi (P_X12_in_6 ad cy B qr s1 a0 w0) (fun u : va_W => wpost dC dI cy A u) A) (List.toArray [.long a0, .long 0, .long 359]) s 0 0 A) (F0 m 17 ls []) := by
    intro H locs ls r1 t2 hw hl
    refine lv_iconst (v := 0) hx hb dX12_in_17 (by decide) ?_
    exact tk_zret hC hr rfl hlocks hK ⟨rfl, (Or.inl rfl)⟩ hw dX12_in_18
  refine lv_lload_n hx hb dX12_in_0 rfl (lv_at hl 0 rfl) ?_
  refine lv_lload_n hx hb dX12_in_1 rfl (lv_at hl 1 rfl) ?_
  refine W.lcmp hx hb dX12_in_2 ?_
  refine lv_if_lt (tgt := 17) hx hb dX12_in_3 (by decide) (fun c3 => ?_) (fun c3 => ?_)
  · have c3 : a0.toInt < (0 : Int) := wk_cltT c3
    exact J17  s.heap locs ls  (show (-2147483648) ≤ a0.toInt by omega) (show a0.toInt ≤ 2147483647 by omega)  hw   (lv_sub hl [0, 1, 2] rfl)
  · have c3 : (0 : Int) ≤ a0.toInt := wk_cltF c3
    refine lv_lload_n hx hb dX12_in_6 rfl (lv_at hl 0 rfl) ?_
    refine lv_lload hx hb dX12_in_7 (lv_at hl 2 rfl) ?_
    refine W.lcmp hx hb dX12_in_9 ?_
    refine lv_if_gt (tgt := 17) hx hb dX12_in_10 (by decide) (fun c4 => ?_) (fun c4 => ?_)
    · have c4 : (359 : Int) < a0.toInt := wk_cgtT c4
      exact J17  s.heap locs ls  (show (-2147483648) ≤ a0.toInt by omega) (show a0.toInt ≤ 2147483647 by omega)  hw   (lv_sub hl [0, 1, 2] rfl)
    · have c4 : a0.toInt ≤ (359 : Int) := wk_cgtF c4
      refine lv_iconst (v := 1) hx hb dX12_in_13 (by decide) ?_
      refine lv_goto (tgt := 18) hx hb dX12_in_14 (by decide) ?_
      exact tk_zret hC hr rfl hlocks hK ⟨rfl, (Or.inr ⟨rfl, (show 0 ≤ a0.toInt by omega), (show a0.toInt ≤ 359 by omega)⟩)⟩ hw dX12_in_18
abbrev P_X12_numberHere_6 (ad : Nat → Nat) (cy : Nat → ClassId) (B : Int) (qr : Nat) (s1 : Int)  (w0 : va_W) : Int32 → va_W → Prop := fun r u => TW ksM ad cy B qr 12 u ∧ FE ksM [(12, 14, 14), (12, 15, 15), (12, 16, 16)] w0 u ∧ ((r = 0 ∧ (∃ y : Int32, gi u 0 1 = y ∧ 1 ≤ y.toInt ∧ y.toInt ≤ 400) ∧ (∃ y : Int32, gi u 0 15 = y ∧ 1 ≤ y.toInt ∧ y.toInt ≤ 3205)) ∨ (r = 0 ∧ (∃ y : Int32, gi u 0 1 = y ∧ 0 ≤ y.toInt ∧ y.toInt ≤ 400) ∧ (∃ y : Int32, gi u 0 15 = y ∧ 1 ≤ y.toInt ∧ y.toInt ≤ 3205)) ∨ (r = 1 ∧ (∃ y : Int32, gi u 0 1 = y ∧ 1 ≤ y.toInt ∧ y.toInt ≤ 400) ∧ (∃ y : Int32, gi u 0 16 = y ∧ 0 ≤ y.toInt ∧ y.toInt ≤ 359)))
set_option maxHeartbeats 4000000 in
set_option maxRecDepth 100000 in
theorem k_X12_numberHere_6 (l : Launch) (adK adV : Nat → Nat) (dC : Nat → ClassId) (dI : Nat → Nat → Nat) (cy : Nat → ClassId) (ad : Nat → Nat) (B : Int) (hB0 : 100000 ≤ B) (hB1 : B ≤ 1073741824) (qr : Nat) (s1 : Int)   (w0 : va_W) (sz : Nat) (hT : TW ksM ad cy B qr 12 w0)  : Met l yX12_numberHere wsX12_numberHere ({ frames := 2, cells := 0, slots := 0, locals := 37 }) (va_Pc [.ref (ad 0), .int 0, .int 359] (wpreS adK adV dC dI cy sz w0)) (va_Qi (P_X12_numberHere_6 ad cy B qr s1  w0) (fun u : va_W => wpost dC dI cy (va_A w0 sz) u) (va_A w0 sz)) 0 0 (va_A w0 sz) := by
  refine Met.ofW (cc := cX12_numberHere) (maxL := 5) (ret := (some .boolean)) (by decide) rfl ?_
  intro p e s m args below meth c s₁ Bk hml hv
  obtain ⟨rfl, ⟨hsz, hP, hK, hD0⟩, hE, hSR⟩ := hv
  have hx := Bk.exec
  have hb := Bk.bytes
  have hr := Bk.returns
  have hlocks := Bk.notSynchronized
  have hC : CallFix p m c cX12_numberHere 5 s _ wsX12_numberHere RX12 := ⟨hx, hb, hml, findClass_of_methodNamed Bk.named, atoms_spec (ws := wsX12_numberHere) Bk.pre⟩
  subst hsz
  have hD := hD0.self (sz := s.heap.size)
  generalize hAe : va_A w0 s.heap.size = A at hD hE ⊢
  have hA : ∀ q : Nat, s.heap.size ≤ q → A q := fun q h => by rw [← hAe]; exact Or.inr h
  have hw : Wd dC dI A s.heap s.heap [] w0 := ⟨hP, hD, va_S.rf⟩
  have hF : FE ksM [(12, 14, 14), (12, 15, 15), (12, 16, 16)] w0 w0 := FE.rf
  have hl := lv_entry ([.ref (ad 0), .int 0, .int 359]) (n := 5) (Nat.le_of_ble_eq_true rfl)
  rw [lg_entry_eq]
  generalize (lg_sl ([.ref (ad 0), .int 0, .int 359]) ++ List.replicate (5 - (lg_sl ([.ref (ad 0), .int 0, .int 359])).length) Slot.unset).toArray = ls at hl ⊢
  have hl : lv_has ls 5 [(0, .ref (ad 0)), (1, .int 0), (2, .int 359)] := hl
  generalize hloc : ([] : List Loc) = locs at hw ⊢
  have hinX12 : ∀ w ∈ u_ws RX12 TX12 42, w ∈ wsX12_numberHere := fun _ h => List.mem_cons_of_mem _ (List.mem_append_right _ (h))
  have J126 : ∀ (v126_3 : Int32) (v126_4 : Int32) (f126_0_1 : Int32) (f126_0_14 : Int32) (f126_0_16 : Int32) (H : Heap) (locs : List Loc) (ls : Array Slot) (w1 : va_W), 0 ≤ v126_3.toInt → v126_3.toInt ≤ 399 → 0 ≤ v126_4.toInt → v126_4.toInt ≤ 359 → 1 ≤ f126_0_1.toInt → f126_0_1.toInt ≤ 400 → 0 ≤ f126_0_14.toInt → f126_0_14.toInt ≤ 400 → 0 ≤ f126_0_16.toInt → f126_0_16.toInt ≤ 359 → Wd dC dI A s.heap H locs w1 → TW ksM ad cy B qr 12 w1 → FE ksM [(12, 14, 14), (12, 15, 15), (12, 16, 16)] w0 w1 → gi w1 0 1 = f126_0_1 → gi w1 0 14 = f126_0_14 → gi w1 0 16 = f126_0_16 → lv_has ls 5 [(0, .ref (ad 0)), (1, .int 0), (2, .int 359), (3, .int v126_3), (4, .int v126_4)] → W p l e ({ frames := 2, cells := 0, slots := 0, locals := 37 }) s m (List.toArray [.ref (ad 0), .int 0, .int 359]) below meth c H locs 0 0 (MQ below (va_Qi (P_X12_numberHere_6 ad cy B qr s1  w0) (fun u : va_W => wpost dC dI cy A u) A) (List.toArray [.ref (ad 0), .int 0, .int 359]) s 0 0 A) (F0 m 126 ls []) := by
    intro v126_3 v126_4 f126_0_1 f126_0_14 f126_0_16 H locs ls w1 r2 t3 r4 t5 r6 t7 r9 t10 r12 t13 hw hT hF c8 c11 c14 hl
    refine lv_iconst (v := 1) hx hb dX12_numberHere_126 (by decide) ?_
    refine lv_goto (tgt := 131) hx hb dX12_numberHere_127 (by decide) ?_
    exact tk_zret hC hr rfl hlocks hK ⟨hT, hF, (Or.inr (Or.inr ⟨rfl, ⟨f126_0_1, c8, (show 1 ≤ f126_0_1.toInt by omega), (show f126_0_1.toInt ≤ 400 by omega)⟩, ⟨f126_0_16, c14, (show 0 ≤ f126_0_16.toInt by omega), (show f126_0_16.toInt ≤ 359 by omega)⟩⟩))⟩ hw dX12_numberHere_131
  have J117 : ∀ (v117_3 : Int32) (v117_4 : Int32) (f117_0_1 : Int32) (f117_0_14 : Int32) (f117_0_16 : Int32) (H : Heap) (locs : List Loc) (ls : Array Slot) (w15 : va_W), 0 ≤ v117_3.toInt → v117_3.toInt ≤ 399 → 1 ≤ f117_0_1.toInt → f117_0_1.toInt ≤ 400 → 0 ≤ f117_0_14.toInt → f117_0_14.toInt ≤ 400 → Wd dC dI A s.heap H locs w15 → TW ksM ad cy B qr 12 w15 → FE ksM [(12, 14, 14), (12, 15, 15), (12, 16, 16)] w0 w15 → gi w15 0 1 = f117_0_1 → gi w15 0 14 = f117_0_14 → gi w15 0 16 = f117_0_16 → lv_has ls 5 [(0, .ref (ad 0)), (1, .int 0), (2, .int 359), (3, .int v117_3), (4, .int v117_4)] → W p l e ({ frames := 2, cells := 0, slots := 0, locals := 37 }) s m (List.toArray [.ref (ad 0), .int 0, .int 359]) below meth c H locs 0 0 (MQ below (va_Qi (P_X12_numberHere_6 ad cy B qr s1  w0) (fun u : va_W => wpost dC dI cy A u) A) (List.toArray [.ref (ad 0), .int 0, .int 359]) s 0 0 A) (F0 m 117 ls []) := by
    intro v117_3 v117_4 f117_0_1 f117_0_14 f117_0_16 H locs ls w15 r16 t17 r18 t19 r21 t22 hw hT hF c20 c23 c24 hl
    refine lv_aload_n hx hb dX12_numberHere_117 rfl (lv_at hl 0 rfl) ?_
    refine lv_iconst (v := 1) hx hb dX12_numberHere_118 (by decide) ?_
    refine lv_iload_n hx hb dX12_numberHere_119 rfl (lv_at hl 3 rfl) ?_
    refine tk_Vi hC hK hw hT hA hE hSR kM_at0 (by decide) rfl (k_X12_fails_1 l adK adV dC dI cy ad B (by omega) (by omega) qr s1   1 (by decide) (by decide) v117_3 (show 0 ≤ v117_3.toInt by omega) (show v117_3.toInt ≤ 400 by omega) w15 H.size hT ) (cwV 2 hC.2.2.2.2 gX12_numberHere_X12_fails rfl rfl rfl (by decide +kernel) ⟨Nat.le_of_ble_eq_true rfl, Nat.le_of_ble_eq_true rfl⟩) rfl hl.1 rfl (Nat.le_of_ble_eq_true rfl) dX12_numberHere_120 (fun r25 w27 H locs hp26 hw => ?_)
    obtain ⟨hT, k28, hg31⟩ := hp26
    have hF := hF.tr k28 (by decide)
    have c32 := k28.gi kM_at0 (by decide) c20
    have c33 := k28.gi kM_at0 (by decide) c23
    have c34 := k28.gi kM_at0 (by decide) c24
    obtain ⟨rfl, ⟨x29, c30, rx29, tx29⟩⟩ := hg31
    refine lv_if_eq (tgt := 130) hx hb dX12_numberHere_123 (by decide) (fun _ => ?_) (fun c => absurd (by decide) c)
    refine lv_iconst (v := 0) hx hb dX12_numberHere_130 (by decide) ?_
    exact tk_zret hC hr rfl hlocks hK ⟨hT, hF, (Or.inl ⟨rfl, ⟨f117_0_1, c32, (show 1 ≤ f117_0_1.toInt by omega), (show f117_0_1.toInt ≤ 400 by omega)⟩, ⟨x29, c30, (show 1 ≤ x29.toInt by omega), (show x29.toInt ≤ 3205 by omega)⟩⟩)⟩ hw dX12_numberHere_131
  have L34 : ∀ (n34 : Nat) (v34_3 : Int32) (v34_4 : Int32) (f34_0_1 : Int32) (f34_0_14 : Int32) (H : Heap) (locs : List Loc) (ls : Array Slot) (w35 : va_W), 0 ≤ v34_3.toInt → v34_3.toInt ≤ 399 → 1 ≤ f34_0_1.toInt → f34_0_1.toInt ≤ 400 → 0 ≤ f34_0_14.toInt → f34_0_14.toInt ≤ 400 → (400 - f34_0_14.toInt).toNat < n34 → Wd dC dI A s.heap H locs w35 → TW ksM ad cy B qr 12 w35 → FE ksM [(12, 14, 14), (12, 15, 15), (12, 16, 16)] w0 w35 → gi w35 0 1 = f34_0_1 → gi w35 0 14 = f34_0_14 → lv_has ls 5 [(0, .ref (ad 0)), (1, .int 0), (2, .int 359), (3, .int v34_3), (4, .int v34_4)] → W p l e ({ frames := 2, cells := 0, slots := 0, locals := 37 }) s m (List.toArray [.ref (ad 0), .int 0, .int 359]) below meth c H locs 0 0 (MQ below (va_Qi (P_X12_numberHere_6 ad cy B qr s1  w0) (fun u : va_W => wpost dC dI cy A u) A) (List.toArray [.ref (ad 0), .int 0, .int 359]) s 0 0 A) (F0 m 34 ls []) := by
    intro n34
    induction n34 with
    | zero => intro v34_3 v34_4 f34_0_1 f34_0_14 H locs ls w35 r36 t37 r38 t39 r41 t42 hm34 hw hT hF c40 c43 hl; omega
    | succ n34 ih34 =>
      intro v34_3 v34_4 f34_0_1 f34_0_14 H locs ls w35 r36 t37 r38 t39 r41 t42 hm34 hw hT hF c40 c43 hl
      have J75 : ∀ (v75_4 : Int32) (H : Heap) (locs : List Loc) (ls : Array Slot) (w44 : va_W), 0 ≤ v34_3.toInt → v34_3.toInt ≤ 399 → 1 ≤ f34_0_1.toInt → f34_0_1.toInt ≤ 400 → 0 ≤ f34_0_14.toInt → f34_0_14.toInt ≤ 399 → Wd dC dI A s.heap H locs w44 → TW ksM ad cy B qr 12 w44 → FE ksM [(12, 14, 14), (12, 15, 15), (12, 16, 16)] w0 w44 → gi w44 0 1 = f34_0_1 → gi w44 0 14 = f34_0_14 → lv_has ls 5 [(0, .ref (ad 0)), (1, .int 0), (2, .int 359), (3, .int v34_3), (4, .int v75_4)] → W p l e ({ frames := 2, cells := 0, slots := 0, locals := 37 }) s m (List.toArray [.ref (ad 0), .int 0, .int 359]) below meth c H locs 0 0 (MQ below (va_Qi (P_X12_numberHere_6 ad cy B qr s1  w0) (fun u : va_W => wpost dC dI cy A u) A) (List.toArray [.ref (ad 0), .int 0, .int 359]) s 0 0 A) (F0 m 75 ls []) := by
        intro v75_4 H locs ls w44 r45 t46 r47 t48 r50 t51 hw hT hF c49 c52 hl
        refine lv_aload_n hx hb dX12_numberHere_75 rfl (lv_at hl 0 rfl) ?_
        refine lv_dup hx hb dX12_numberHere_76 rfl ?_
        refine tk_geti hC hK hw hT hinX12 kM_at0 (by decide) rfl 14 (by decide) (List.mem_of_getElem? (i := 1) rfl) rfl rfl dX12_numberHere_77 (fun x53 c54 rx53 tx53 => ?_)
        refine wk_top f34_0_14 (c54.symm.trans c52) ?_
        refine lv_iconst (v := 1) hx hb dX12_numberHere_80 (by decide) ?_
        refine lv_iadd hx hb dX12_numberHere_81 ?_
        refine lv_topi (fun x55 ex55 => ?_)
        have ex55 : x55.toInt = f34_0_14.toInt + (1 : Int) := by rw [ex55]; exact wk_add (show (-2147483648) ≤ f34_0_14.toInt + (1 : Int) by omega) (show f34_0_14.toInt + (1 : Int) ≤ 2147483647 by omega)
        refine tk_puti hC hK hw hT hinX12 tyX12_ok nmX12 kM_at0 (by decide) rfl rfl 14 (by decide) (List.mem_of_getElem? (i := 1) rfl) rfl rfl rfl rfl (show 0 ≤ x55.toInt by omega) (show x55.toInt ≤ 400 by omega) dX12_numberHere_82 (fun H locs w56 hw hT k58 c57 => ?_)
        have hF := hF.put kM_at0 (k := 14) (by decide) k58
        have c59 := k58.gi (Or.inr (by decide)) c49
        refine lv_goto (tgt := 34) hx hb dX12_numberHere_85 (by decide) ?_
        exact ih34 v34_3 v75_4 f34_0_1 x55 H locs ls w56 (show 0 ≤ v34_3.toInt by omega) (show v34_3.toInt ≤ 399 by omega) (show 1 ≤ f34_0_1.toInt by omega) (show f34_0_1.toInt ≤ 400 by omega) (show 0 ≤ x55.toInt by omega) (show x55.toInt ≤ 400 by omega) (show (400 - x55.toInt).toNat < n34 by omega) hw hT hF c59 c57 (lv_sub hl [0, 1, 2, 3, 4] rfl)
      refine lv_aload_n hx hb dX12_numberHere_34 rfl (lv_at hl 0 rfl) ?_
      refine lv_aload_n hx hb dX12_numberHere_35 rfl (lv_at hl 0 rfl) ?_
      refine tk_geti hC hK hw hT hinX12 kM_at0 (by decide) rfl 14 (by decide) (List.mem_of_getElem? (i := 1) rfl) rfl rfl dX12_numberHere_36 (fun x60 c61 rx60 tx60 => ?_)
      refine wk_top f34_0_14 (c61.symm.trans c43) ?_
      refine tk_Vi hC hK hw hT hA hE hSR kM_at0 (by decide) rfl (k_X12_isDigit_2 l adK adV dC dI cy ad B (by omega) (by omega) qr s1   f34_0_14 (show 0 ≤ f34_0_14.toInt by omega) (show f34_0_14.toInt ≤ 400 by omega) w35 H.size hT ) (cwV 1 hC.2.2.2.2 gX12_numberHere_X12_isDigit rfl rfl rfl (by decide +kernel) ⟨Nat.le_of_ble_eq_true rfl, Nat.le_of_ble_eq_true rfl⟩) rfl hl.1 rfl (Nat.le_of_ble_eq_true rfl) dX12_numberHere_39 (fun r62 w64 H locs hp63 hw => ?_)
      obtain ⟨rfl, hg71⟩ := hp63
      rcases hg71 with ⟨rfl, ⟨x66, c67, rx66, tx66⟩⟩ | ⟨rfl, g68, ⟨x69, c70, rx69, tx69⟩⟩
      · have ex66 : x66.toInt = f34_0_1.toInt := by rw [← c40.symm.trans c67]
        refine lv_if_eq (tgt := 88) hx hb dX12_numberHere_42 (by decide) (fun _ => ?_) (fun c => absurd (by decide) c)
        refine lv_aload_n hx hb dX12_numberHere_88 rfl (lv_at hl 0 rfl) ?_
        refine lv_iload hx hb dX12_numberHere_89 (lv_at hl 4 rfl) ?_
        refine tk_puti hC hK hw hT hinX12 tyX12_ok nmX12 kM_at0 (by decide) rfl rfl 16 (by decide) (List.mem_of_getElem? (i := 3) rfl) rfl rfl rfl rfl (wk_i32 v34_4).1 (wk_i32 v34_4).2 dX12_numberHere_91 (fun H locs w72 hw hT k74 c73 => ?_)
        have hF := hF.put kM_at0 (k := 16) (by decide) k74
        have c75 := k74.gi (Or.inr (by decide)) c40
        have c76 := k74.gi (Or.inr (by decide)) c43
        refine lv_aload_n hx hb dX12_numberHere_94 rfl (lv_at hl 0 rfl) ?_
        refine tk_geti hC hK hw hT hinX12 kM_at0 (by decide) rfl 14 (by decide) (List.mem_of_getElem? (i := 1) rfl) rfl rfl dX12_numberHere_95 (fun x77 c78 rx77 tx77 => ?_)
        refine wk_top f34_0_14 (c78.symm.trans c76) ?_
        refine lv_iload_n hx hb dX12_numberHere_98 rfl (lv_at hl 3 rfl) ?_
        refine lv_isub hx hb dX12_numberHere_99 ?_
        refine lv_topi (fun x79 ex79 => ?_)
        have ex79 : x79.toInt = f34_0_14.toInt - v34_3.toInt := by rw [ex79]; exact wk_sub (show (-2147483648) ≤ f34_0_14.toInt - v34_3.toInt by omega) (show f34_0_14.toInt - v34_3.toInt ≤ 2147483647 by omega)
        refine lv_iconst (v := 5) hx hb dX12_numberHere_100 (by decide) ?_
        refine lv_icmp_gt (tgt := 117) hx hb dX12_numberHere_101 (by decide) (fun c80 => ?_) (fun c80 => ?_)
        · have c80 : (5 : Int) < x79.toInt := wk_lt.mp c80
          exact J117 v34_3 v34_4 f34_0_1 f34_0_14 v34_4 H locs ls w72 (show 0 ≤ v34_3.toInt by omega) (show v34_3.toInt ≤ 399 by omega) (show 1 ≤ f34_0_1.toInt by omega) (show f34_0_1.toInt ≤ 400 by omega) (show 0 ≤ f34_0_14.toInt by omega) (show f34_0_14.toInt ≤ 400 by omega)  hw hT hF c75 c76 c73 (lv_sub hl [0, 1, 2, 3, 4] rfl)
        · have c80 : x79.toInt ≤ (5 : Int) := wk_ltF c80
          refine lv_iload hx hb dX12_numberHere_104 (lv_at hl 4 rfl) ?_
          refine lv_i2l hx hb dX12_numberHere_106 rfl ?_
          refine lv_topl (fun x81 ex81 => ?_)
          have ex81 : x81.toInt = v34_4.toInt := by rw [ex81]; exact wk_i2l _
          have bx81 := wk_i32 v34_4
          refine lv_iload_n hx hb dX12_numberHere_107 rfl (lv_at hl 1 rfl) ?_
          refine lv_i2l hx hb dX12_numberHere_108 rfl ?_
          refine wk_topl 0 (by decide) ?_
          refine lv_iload_n hx hb dX12_numberHere_109 rfl (lv_at hl 2 rfl) ?_
          refine lv_i2l hx hb dX12_numberHere_110 rfl ?_
          refine wk_topl 359 (by decide) ?_
          refine tk_Si hC hK hw hT hA hE hSR (k_X12_in_6 l adK adV dC dI cy ad B (by omega) (by omega) qr s1   x81 (show (-2147483648) ≤ x81.toInt by omega) (show x81.toInt ≤ 2147483647 by omega) w72 H.size hT ) (va_cwS 3 hC.2.2.2.2 gX12_numberHere_X12_in rfl rfl rfl (by decide +kernel) ⟨Nat.le_of_ble_eq_true rfl, Nat.le_of_ble_eq_true rfl⟩) rfl hl.1 rfl (Nat.le_of_ble_eq_true rfl) dX12_numberHere_111 (fun r82 w84 H locs hp83 hw => ?_)
          obtain ⟨rfl, hg88⟩ := hp83
          rcases hg88 with rfl | ⟨rfl, g86, g87⟩
          · refine lv_if_ne (tgt := 126) hx hb dX12_numberHere_114 (by decide) (fun c => absurd (by decide) c) (fun _ => ?_)
            exact J117 v34_3 v34_4 f34_0_1 f34_0_14 v34_4 H locs ls w72 (show 0 ≤ v34_3.toInt by omega) (show v34_3.toInt ≤ 399 by omega) (show 1 ≤ f34_0_1.toInt by omega) (show f34_0_1.toInt ≤ 400 by omega) (show 0 ≤ f34_0_14.toInt by omega) (show f34_0_14.toInt ≤ 400 by omega)  hw hT hF c75 c76 c73 (lv_sub hl [0, 1, 2, 3, 4] rfl)
          · refine lv_if_ne (tgt := 126) hx hb dX12_numberHere_114 (by decide) (fun _ => ?_) (fun c => absurd c (by decide))
            exact J126 v34_3 v34_4 f34_0_1 f34_0_14 v34_4 H locs ls w72 (show 0 ≤ v34_3.toInt by omega) (show v34_3.toInt ≤ 399 by omega) (show 0 ≤ v34_4.toInt by omega) (show v34_4.toInt ≤ 359 by omega) (show 1 ≤ f34_0_1.toInt by omega) (show f34_0_1.toInt ≤ 400 by omega) (show 0 ≤ f34_0_14.toInt by omega) (show f34_0_14.toInt ≤ 400 by omega) (show 0 ≤ v34_4.toInt by omega) (show v34_4.toInt ≤ 359 by omega)  hw hT hF c75 c76 c73 (lv_sub hl [0, 1, 2, 3, 4] rfl)
      · have ex69 : x69.toInt = f34_0_1.toInt := by rw [← c40.symm.trans c70]
        refine lv_if_eq (tgt := 88) hx hb dX12_numberHere_42 (by decide) (fun c => absurd c (by decide)) (fun _ => ?_)
        refine lv_aload_n hx hb dX12_numberHere_45 rfl (lv_at hl 0 rfl) ?_
        refine tk_geti hC hK hw hT hinX12 kM_at0 (by decide) rfl 14 (by decide) (List.mem_of_getElem? (i := 1) rfl) rfl rfl dX12_numberHere_46 (fun x89 c90 rx89 tx89 => ?_)
        refine wk_top f34_0_14 (c90.symm.trans c43) ?_
        refine lv_iload_n hx hb dX12_numberHere_49 rfl (lv_at hl 3 rfl) ?_
        refine lv_isub hx hb dX12_numberHere_50 ?_
        refine lv_topi (fun x91 ex91 => ?_)
        have ex91 : x91.toInt = f34_0_14.toInt - v34_3.toInt := by rw [ex91]; exact wk_sub (show (-2147483648) ≤ f34_0_14.toInt - v34_3.toInt by omega) (show f34_0_14.toInt - v34_3.toInt ≤ 2147483647 by omega)
        refine lv_iconst (v := 5) hx hb dX12_numberHere_51 (by decide) ?_
        refine lv_icmp_ge (tgt := 75) hx hb dX12_numberHere_52 (by decide) (fun c92 => ?_) (fun c92 => ?_)
        · have c92 : (5 : Int) ≤ x91.toInt := wk_le.mp c92
          exact J75 v34_4 H locs ls w35 (show 0 ≤ v34_3.toInt by omega) (show v34_3.toInt ≤ 399 by omega) (show 1 ≤ f34_0_1.toInt by omega) (show f34_0_1.toInt ≤ 400 by omega) (show 0 ≤ f34_0_14.toInt by omega) (show f34_0_14.toInt ≤ 399 by omega)  hw hT hF c40 c43 (lv_sub hl [0, 1, 2, 3, 4] rfl)
        · have c92 : x91.toInt < (5 : Int) := wk_leF c92
          refine lv_bipush (v := 10) hx hb dX12_numberHere_55 (by decide) ?_
          refine lv_iload hx hb dX12_numberHere_57 (lv_at hl 4 rfl) ?_
          refine lv_imul hx hb dX12_numberHere_59 ?_
          have nx93 := wk_i32 v34_4
          refine lv_topi (fun x94 ex94 => ?_)
          refine lv_aload_n hx hb dX12_numberHere_60 rfl (lv_at hl 0 rfl) ?_
          refine tk_getA hC hK hw hT hinX12 kM_at0 (by decide) rfl 0 (by decide) (List.mem_of_getElem? (i := 2) rfl) rfl rfl dX12_numberHere_61 ?_
          refine lv_aload_n hx hb dX12_numberHere_64 rfl (lv_at hl 0 rfl) ?_
          refine tk_geti hC hK hw hT hinX12 kM_at0 (by decide) rfl 14 (by decide) (List.mem_of_getElem? (i := 1) rfl) rfl rfl dX12_numberHere_65 (fun x95 c96 rx95 tx95 => ?_)
          refine wk_top f34_0_14 (c96.symm.trans c43) ?_
          refine tk_bald hC hK hw hT kM_at1 rfl rfl (show 0 ≤ f34_0_14.toInt by omega) (show f34_0_14.toInt < 400 by omega) dX12_numberHere_68 (fun x97 c98 rx97 tx97 => ?_)
          have c98 : gi w35 1 (f34_0_14.toInt).toNat = x97 := (congrArg (gi w35 1) (congrArg Int.toNat (show f34_0_14.toInt = f34_0_14.toInt by omega))).trans c98
          refine lv_iadd hx hb dX12_numberHere_69 ?_
          have nx99 := wk_i32 x94
          refine lv_topi (fun x100 ex100 => ?_)
          refine lv_bipush (v := 48) hx hb dX12_numberHere_70 (by decide) ?_
          refine lv_isub hx hb dX12_numberHere_72 ?_
          have nx101 := wk_i32 x100
          refine lv_topi (fun x102 ex102 => ?_)
          refine lv_istore (lv' := [(4, .int x102), (0, .ref (ad 0)), (1, .int 0), (2, .int 359), (3, .int v34_3)]) hx hb dX12_numberHere_73 hl (by decide) rfl (fun ls hl => ?_)
          exact J75 x102 H locs ls w35 (show 0 ≤ v34_3.toInt by omega) (show v34_3.toInt ≤ 399 by omega) (show 1 ≤ f34_0_1.toInt by omega) (show f34_0_1.toInt ≤ 400 by omega) (show 0 ≤ f34_0_14.toInt by omega) (show f34_0_14.toInt ≤ 399 by omega)  hw hT hF c40 c43 (lv_sub hl [1, 2, 3, 4, 0] rfl)
  refine lv_aload_n hx hb dX12_numberHere_0 rfl (lv_at hl 0 rfl) ?_
  obtain ⟨x103, c104, rx103, tx103⟩ := hT.rdi (lo := 0) (hi := 400) (k := 14) kM_at0 (by decide) rfl
  refine tk_Vi hC hK hw hT hA hE hSR kM_at0 (by decide) rfl (k_X12_see_1 l adK adV dC dI cy ad B (by omega) (by omega) qr s1    w0 s.heap.size hT x103 c104 (show 0 ≤ x103.toInt by omega) (show x103.toInt ≤ 400 by omega)) (cwV 0 hC.2.2.2.2 gX12_numberHere_X12_see rfl rfl rfl (by decide +kernel) ⟨Nat.le_of_ble_eq_true rfl, Nat.le_of_ble_eq_true rfl⟩) rfl hl.1 rfl (Nat.le_of_ble_eq_true rfl) dX12_numberHere_1 (fun r105 w107 H locs hp106 hw => ?_)
  obtain ⟨hT, k108, hg125⟩ := hp106
  have hF := hF.tr k108 (by decide)
  rcases hg125 with ⟨g109, g110, ⟨x111, c112, rx111, tx111⟩, ⟨x113, c114, rx113, tx113⟩, g115, g116⟩ | ⟨rfl, ⟨x117, c118, rx117, tx117⟩, ⟨x119, c120, rx119, tx119⟩, g121⟩ | ⟨rfl, ⟨x122, c123, rx122, tx122⟩, g124⟩
  · have g115 : (gi w107 1 (x113.toInt).toNat).toInt ≠ 32 := by have q := g115; simp only [c114] at q; omega
    have g116 : (x113.toInt = x103.toInt ∨ (gi w0 1 (x103.toInt).toNat).toInt = 32) := by have q := g116; simp only [c104, c114] at q; omega
    refine lv_pop hx hb dX12_numberHere_4 rfl ?_
    refine lv_aload_n hx hb dX12_numberHere_5 rfl (lv_at hl 0 rfl) ?_
    refine lv_aload_n hx hb dX12_numberHere_6 rfl (lv_at hl 0 rfl) ?_
    refine tk_geti hC hK hw hT hinX12 kM_at0 (by decide) rfl 14 (by decide) (List.mem_of_getElem? (i := 1) rfl) rfl rfl dX12_numberHere_7 (fun x128 c129 rx128 tx128 => ?_)
    refine wk_top x113 (c129.symm.trans c114) ?_
    refine tk_Vi hC hK hw hT hA hE hSR kM_at0 (by decide) rfl (k_X12_isDigit_1 l adK adV dC dI cy ad B (by omega) (by omega) qr s1   x113 (show 0 ≤ x113.toInt by omega) (show x113.toInt ≤ 399 by omega) w107 H.size hT ) (cwV 1 hC.2.2.2.2 gX12_numberHere_X12_isDigit rfl rfl rfl (by decide +kernel) ⟨Nat.le_of_ble_eq_true rfl, Nat.le_of_ble_eq_true rfl⟩) rfl hl.1 rfl (Nat.le_of_ble_eq_true rfl) dX12_numberHere_10 (fun r130 w132 H locs hp131 hw => ?_)
    obtain ⟨rfl, hg138⟩ := hp131
    rcases hg138 with ⟨rfl, ⟨x134, c135, rx134, tx134⟩⟩ | ⟨rfl, ⟨x136, c137, rx136, tx136⟩⟩
    · have ex134 : x134.toInt = x111.toInt := by rw [← c112.symm.trans c135]
      refine lv_if_ne (tgt := 26) hx hb dX12_numberHere_13 (by decide) (fun c => absurd (by decide) c) (fun _ => ?_)
      refine lv_aload_n hx hb dX12_numberHere_16 rfl (lv_at hl 0 rfl) ?_
      refine lv_iconst (v := 0) hx hb dX12_numberHere_17 (by decide) ?_
      refine lv_aload_n hx hb dX12_numberHere_18 rfl (lv_at hl 0 rfl) ?_
      refine tk_geti hC hK hw hT hinX12 kM_at0 (by decide) rfl 14 (by decide) (List.mem_of_getElem? (i := 1) rfl) rfl rfl dX12_numberHere_19 (fun x139 c140 rx139 tx139 => ?_)
      refine wk_top x113 (c140.symm.trans c114) ?_
      refine tk_Vi hC hK hw hT hA hE hSR kM_at0 (by decide) rfl (k_X12_fails_1 l adK adV dC dI cy ad B (by omega) (by omega) qr s1   0 (by decide) (by decide) x113 (show 0 ≤ x113.toInt by omega) (show x113.toInt ≤ 400 by omega) w107 H.size hT ) (cwV 2 hC.2.2.2.2 gX12_numberHere_X12_fails rfl rfl rfl (by decide +kernel) ⟨Nat.le_of_ble_eq_true rfl, Nat.le_of_ble_eq_true rfl⟩) rfl hl.1 rfl (Nat.le_of_ble_eq_true rfl) dX12_numberHere_22 (fun r141 w143 H locs hp142 hw => ?_)
      obtain ⟨hT, k144, hg147⟩ := hp142
      have hF := hF.tr k144 (by decide)
      have c148 := k144.gi kM_at0 (by decide) c112
      have c149 := k144.gi kM_at0 (by decide) c114
      obtain ⟨rfl, ⟨x145, c146, rx145, tx145⟩⟩ := hg147
      exact tk_zret hC hr rfl hlocks hK ⟨hT, hF, (Or.inl ⟨rfl, ⟨x111, c148, (show 1 ≤ x111.toInt by omega), (show x111.toInt ≤ 400 by omega)⟩, ⟨x145, c146, (show 1 ≤ x145.toInt by omega), (show x145.toInt ≤ 3205 by omega)⟩⟩)⟩ hw dX12_numberHere_25
    · have ex136 : x136.toInt = x111.toInt := by rw [← c112.symm.trans c137]
      refine lv_if_ne (tgt := 26) hx hb dX12_numberHere_13 (by decide) (fun _ => ?_) (fun c => absurd c (by decide))
      refine lv_aload_n hx hb dX12_numberHere_26 rfl (lv_at hl 0 rfl) ?_
      refine tk_geti hC hK hw hT hinX12 kM_at0 (by decide) rfl 14 (by decide) (List.mem_of_getElem? (i := 1) rfl) rfl rfl dX12_numberHere_27 (fun x150 c151 rx150 tx150 => ?_)
      refine wk_top x113 (c151.symm.trans c114) ?_
      refine lv_istore_n (lv' := [(3, .int x113), (0, .ref (ad 0)), (1, .int 0), (2, .int 359)]) hx hb dX12_numberHere_30 rfl hl (by decide) rfl (fun ls hl => ?_)
      refine lv_iconst (v := 0) hx hb dX12_numberHere_31 (by decide) ?_
      refine lv_istore (lv' := [(4, .int 0), (3, .int x113), (0, .ref (ad 0)), (1, .int 0), (2, .int 359)]) hx hb dX12_numberHere_32 hl (by decide) rfl (fun ls hl => ?_)
      exact L34 ((400 - x113.toInt).toNat + 1) x113 0 x111 x113 H locs ls w107 (show 0 ≤ x113.toInt by omega) (show x113.toInt ≤ 399 by omega) (show 1 ≤ x111.toInt by omega) (show x111.toInt ≤ 400 by omega) (show 0 ≤ x113.toInt by omega) (show x113.toInt ≤ 400 by omega) (Nat.lt_succ_self _) hw hT hF c112 c114 (lv_sub hl [2, 3, 4, 1, 0] rfl)
  · have g121 : (x119.toInt = x103.toInt ∨ (gi w0 1 (x103.toInt).toNat).toInt = 32) := by have q := g121; simp only [c104, c120] at q; omega
    refine lv_pop hx hb dX12_numberHere_4 rfl ?_
    refine lv_aload_n hx hb dX12_numberHere_5 rfl (lv_at hl 0 rfl) ?_
    refine lv_aload_n hx hb dX12_numberHere_6 rfl (lv_at hl 0 rfl) ?_
    refine tk_geti hC hK hw hT hinX12 kM_at0 (by decide) rfl 14 (by decide) (List.mem_of_getElem? (i := 1) rfl) rfl rfl dX12_numberHere_7 (fun x152 c153 rx152 tx152 => ?_)
    refine wk_top x119 (c153.symm.trans c120) ?_
    refine tk_Vi hC hK hw hT hA hE hSR kM_at0 (by decide) rfl (k_X12_isDigit_3 l adK adV dC dI cy ad B (by omega) (by omega) qr s1   x119 (show 1 ≤ x119.toInt by omega) (show x119.toInt ≤ 399 by omega) w107 H.size hT ) (cwV 1 hC.2.2.2.2 gX12_numberHere_X12_isDigit rfl rfl rfl (by decide +kernel) ⟨Nat.le_of_ble_eq_true rfl, Nat.le_of_ble_eq_true rfl⟩) rfl hl.1 rfl (Nat.le_of_ble_eq_true rfl) dX12_numberHere_10 (fun r154 w156 H locs hp155 hw => ?_)
    obtain ⟨rfl, hg162⟩ := hp155
    rcases hg162 with ⟨rfl, ⟨x158, c159, rx158, tx158⟩⟩ | ⟨rfl, ⟨x160, c161, rx160, tx160⟩⟩
    · have ex158 : x158.toInt = x117.toInt := by rw [← c118.symm.trans c159]
      refine lv_if_ne (tgt := 26) hx hb dX12_numberHere_13 (by decide) (fun c => absurd (by decide) c) (fun _ => ?_)
      refine lv_aload_n hx hb dX12_numberHere_16 rfl (lv_at hl 0 rfl) ?_
      refine lv_iconst (v := 0) hx hb dX12_numberHere_17 (by decide) ?_
      refine lv_aload_n hx hb dX12_numberHere_18 rfl (lv_at hl 0 rfl) ?_
      refine tk_geti hC hK hw hT hinX12 kM_at0 (by decide) rfl 14 (by decide) (List.mem_of_getElem? (i := 1) rfl) rfl rfl dX12_numberHere_19 (fun x163 c164 rx163 tx163 => ?_)
      refine wk_top x119 (c164.symm.trans c120) ?_
      refine tk_Vi hC hK hw hT hA hE hSR kM_at0 (by decide) rfl (k_X12_fails_1 l adK adV dC dI cy ad B (by omega) (by omega) qr s1   0 (by decide) (by decide) x119 (show 0 ≤ x119.toInt by omega) (show x119.toInt ≤ 400 by omega) w107 H.size hT ) (cwV 2 hC.2.2.2.2 gX12_numberHere_X12_fails rfl rfl rfl (by decide +kernel) ⟨Nat.le_of_ble_eq_true rfl, Nat.le_of_ble_eq_true rfl⟩) rfl hl.1 rfl (Nat.le_of_ble_eq_true rfl) dX12_numberHere_22 (fun r165 w167 H locs hp166 hw => ?_)
      obtain ⟨hT, k168, hg171⟩ := hp166
      have hF := hF.tr k168 (by decide)
      have c172 := k168.gi kM_at0 (by decide) c118
      have c173 := k168.gi kM_at0 (by decide) c120
      obtain ⟨rfl, ⟨x169, c170, rx169, tx169⟩⟩ := hg171
      exact tk_zret hC hr rfl hlocks hK ⟨hT, hF, (Or.inl ⟨rfl, ⟨x117, c172, (show 1 ≤ x117.toInt by omega), (show x117.toInt ≤ 400 by omega)⟩, ⟨x169, c170, (show 1 ≤ x169.toInt by omega), (show x169.toInt ≤ 3205 by omega)⟩⟩)⟩ hw dX12_numberHere_25
    · have ex160 : x160.toInt = x117.toInt := by rw [← c118.symm.trans c161]
      refine lv_if_ne (tgt := 26) hx hb dX12_numberHere_13 (by decide) (fun _ => ?_) (fun c => absurd c (by decide))
      refine lv_aload_n hx hb dX12_numberHere_26 rfl (lv_at hl 0 rfl) ?_
      refine tk_geti hC hK hw hT hinX12 kM_at0 (by decide) rfl 14 (by decide) (List.mem_of_getElem? (i := 1) rfl) rfl rfl dX12_numberHere_27 (fun x174 c175 rx174 tx174 => ?_)
      refine wk_top x119 (c175.symm.trans c120) ?_
      refine lv_istore_n (lv' := [(3, .int x119), (0, .ref (ad 0)), (1, .int 0), (2, .int 359)]) hx hb dX12_numberHere_30 rfl hl (by decide) rfl (fun ls hl => ?_)
      refine lv_iconst (v := 0) hx hb dX12_numberHere_31 (by decide) ?_
      refine lv_istore (lv' := [(4, .int 0), (3, .int x119), (0, .ref (ad 0)), (1, .int 0), (2, .int 359)]) hx hb dX12_numberHere_32 hl (by decide) rfl (fun ls hl => ?_)
      exact L34 ((400 - x119.toInt).toNat + 1) x119 0 x117 x119 H locs ls w107 (show 0 ≤ x119.toInt by omega) (show x119.toInt ≤ 399 by omega) (show 1 ≤ x117.toInt by omega) (show x117.toInt ≤ 400 by omega) (show 0 ≤ x119.toInt by omega) (show x119.toInt ≤ 400 by omega) (Nat.lt_succ_self _) hw hT hF c118 c120 (lv_sub hl [2, 3, 4, 1, 0] rfl)
  · obtain ⟨x126, c127, rx126, tx126⟩ := hT.rdi (lo := 0) (hi := 400) (k := 14) kM_at0 (by decide) rfl
    have g124 : (x126.toInt = x103.toInt ∨ (gi w0 1 (x103.toInt).toNat).toInt = 32) := by have q := g124; simp only [c104, c127] at q; omega
    refine lv_pop hx hb dX12_numberHere_4 rfl ?_
    refine lv_aload_n hx hb dX12_numberHere_5 rfl (lv_at hl 0 rfl) ?_
    refine lv_aload_n hx hb dX12_numberHere_6 rfl (lv_at hl 0 rfl) ?_
    refine tk_geti hC hK hw hT hinX12 kM_at0 (by decide) rfl 14 (by decide) (List.mem_of_getElem? (i := 1) rfl) rfl rfl dX12_numberHere_7 (fun x176 c177 rx176 tx176 => ?_)
    refine wk_top x126 (c177.symm.trans c127) ?_
    refine tk_Vi hC hK hw hT hA hE hSR kM_at0 (by decide) rfl (k_X12_isDigit_2 l adK adV dC dI cy ad B (by omega) (by omega) qr s1   x126 (show 0 ≤ x126.toInt by omega) (show x126.toInt ≤ 400 by omega) w107 H.size hT ) (cwV 1 hC.2.2.2.2 gX12_numberHere_X12_isDigit rfl rfl rfl (by decide +kernel) ⟨Nat.le_of_ble_eq_true rfl, Nat.le_of_ble_eq_true rfl⟩) rfl hl.1 rfl (Nat.le_of_ble_eq_true rfl) dX12_numberHere_10 (fun r178 w180 H locs hp179 hw => ?_)
    obtain ⟨rfl, hg187⟩ := hp179
    rcases hg187 with ⟨rfl, ⟨x182, c183, rx182, tx182⟩⟩ | ⟨rfl, g184, ⟨x185, c186, rx185, tx185⟩⟩
    · have ex182 : x182.toInt = x122.toInt := by rw [← c123.symm.trans c183]
      refine lv_if_ne (tgt := 26) hx hb dX12_numberHere_13 (by decide) (fun c => absurd (by decide) c) (fun _ => ?_)
      refine lv_aload_n hx hb dX12_numberHere_16 rfl (lv_at hl 0 rfl) ?_
      refine lv_iconst (v := 0) hx hb dX12_numberHere_17 (by decide) ?_
      refine lv_aload_n hx hb dX12_numberHere_18 rfl (lv_at hl 0 rfl) ?_
      refine tk_geti hC hK hw hT hinX12 kM_at0 (by decide) rfl 14 (by decide) (List.mem_of_getElem? (i := 1) rfl) rfl rfl dX12_numberHere_19 (fun x188 c189 rx188 tx188 => ?_)
      refine wk_top x126 (c189.symm.trans c127) ?_
      refine tk_Vi hC hK hw hT hA hE hSR kM_at0 (by decide) rfl (k_X12_fails_1 l adK adV dC dI cy ad B (by omega) (by omega) qr s1   0 (by decide) (by decide) x126 (show 0 ≤ x126.toInt by omega) (show x126.toInt ≤ 400 by omega) w107 H.size hT ) (cwV 2 hC.2.2.2.2 gX12_numberHere_X12_fails rfl rfl rfl (by decide +kernel) ⟨Nat.le_of_ble_eq_true rfl, Nat.le_of_ble_eq_true rfl⟩) rfl hl.1 rfl (Nat.le_of_ble_eq_true rfl) dX12_numberHere_22 (fun r190 w192 H locs hp191 hw => ?_)
      obtain ⟨hT, k193, hg196⟩ := hp191
      have hF := hF.tr k193 (by decide)
      have c197 := k193.gi kM_at0 (by decide) c123
      have c198 := k193.gi kM_at0 (by decide) c127
      obtain ⟨rfl, ⟨x194, c195, rx194, tx194⟩⟩ := hg196
      exact tk_zret hC hr rfl hlocks hK ⟨hT, hF, (Or.inr (Or.inl ⟨rfl, ⟨x122, c197, (show 0 ≤ x122.toInt by omega), (show x122.toInt ≤ 400 by omega)⟩, ⟨x194, c195, (show 1 ≤ x194.toInt by omega), (show x194.toInt ≤ 3205 by omega)⟩⟩))⟩ hw dX12_numberHere_25
    · have ex185 : x185.toInt = x122.toInt := by rw [← c123.symm.trans c186]
      refine lv_if_ne (tgt := 26) hx hb dX12_numberHere_13 (by decide) (fun _ => ?_) (fun c => absurd c (by decide))
      refine lv_aload_n hx hb dX12_numberHere_26 rfl (lv_at hl 0 rfl) ?_
      refine tk_geti hC hK hw hT hinX12 kM_at0 (by decide) rfl 14 (by decide) (List.mem_of_getElem? (i := 1) rfl) rfl rfl dX12_numberHere_27 (fun x199 c200 rx199 tx199 => ?_)
      refine wk_top x126 (c200.symm.trans c127) ?_
      refine lv_istore_n (lv' := [(3, .int x126), (0, .ref (ad 0)), (1, .int 0), (2, .int 359)]) hx hb dX12_numberHere_30 rfl hl (by decide) rfl (fun ls hl => ?_)
      refine lv_iconst (v := 0) hx hb dX12_numberHere_31 (by decide) ?_
      refine lv_istore (lv' := [(4, .int 0), (3, .int x126), (0, .ref (ad 0)), (1, .int 0), (2, .int 359)]) hx hb dX12_numberHere_32 hl (by decide) rfl (fun ls hl => ?_)
      exact L34 ((400 - x126.toInt).toNat + 1) x126 0 x122 x126 H locs ls w107 (show 0 ≤ x126.toInt by omega) (show x126.toInt ≤ 399 by omega) (show 1 ≤ x122.toInt by omega) (show x122.toInt ≤ 400 by omega) (show 0 ≤ x126.toInt by omega) (show x126.toInt ≤ 400 by omega) (Nat.lt_succ_self _) hw hT hF c123 c127 (lv_sub hl [2, 3, 4, 1, 0] rfl)
abbrev P_X12_isSaintHere_1 (ad : Nat → Nat) (cy : Nat → ClassId) (B : Int) (qr : Nat) (s1 : Int) (a1 : Int32) (w0 : va_W) : Int32 → va_W → Prop := fun r u => TW ksM ad cy B qr 12 u ∧ FE ksM [(12, 9, 9), (12, 14, 14), (12, 15, 15), (12, 16, 16), (66, 0, 16)] w0 u ∧ ((r = 0 ∧ (∃ y : Int32, gi u 0 9 = y ∧ 8 ≤ y.toInt ∧ y.toInt ≤ 8) ∧ (∃ y : Int32, gi u 0 15 = y ∧ 1 ≤ y.toInt ∧ y.toInt ≤ 3205)) ∨ (r = 0 ∧ (∃ y : Int32, gi u 0 1 = y ∧ 1 ≤ y.toInt ∧ y.toInt ≤ 400) ∧ (∃ y : Int32, gi u 0 9 = y ∧ 0 ≤ y.toInt ∧ y.toInt ≤ 7) ∧ (∃ y : Int32, gi u 0 15 = y ∧ 1 ≤ y.toInt ∧ y.toInt ≤ 3205)) ∨ (r = 0 ∧ (∃ y : Int32, gi u 0 1 = y ∧ 0 ≤ y.toInt ∧ y.toInt ≤ 400) ∧ (∃ y : Int32, gi u 0 9 = y ∧ 0 ≤ y.toInt ∧ y.toInt ≤ 7) ∧ (∃ y : Int32, gi u 0 15 = y ∧ 1 ≤ y.toInt ∧ y.toInt ≤ 3205)) ∨ (r = 1 ∧ (∃ y : Int32, gi u 0 1 = y ∧ 1 ≤ y.toInt ∧ y.toInt ≤ 400) ∧ (∃ y : Int32, gi u 0 7 = y ∧ 1 ≤ y.toInt ∧ y.toInt ≤ 10) ∧ (∃ y : Int32, gi u 0 9 = y ∧ 1 ≤ y.toInt ∧ y.toInt ≤ 8) ∧ (∃ y : Int32, gi u 0 16 = y ∧ 0 ≤ y.toInt ∧ y.toInt ≤ 359)))
set_option maxHeartbeats 4000000 in
set_option maxRecDepth 100000 in
theorem k_X12_isSaintHere_1 (l : Launch) (adK adV : Nat → Nat) (dC : Nat → ClassId) (dI : Nat → Nat → Nat) (cy : Nat → ClassId) (ad : Nat → Nat) (B : Int) (hB0 : 100000 ≤ B) (hB1 : B ≤ 1073741824) (qr : Nat) (s1 : Int)  (a1 : Int32) (ra1 : 0 ≤ a1.toInt) (ta1 : a1.toInt ≤ 400) (w0 : va_W) (sz : Nat) (hT : TW ksM ad cy B qr 12 w0)  : Met l yX12_isSaintHere wsX12_isSaintHere ({ frames := 3, cells := 0, slots := 0, locals := 61 }) (va_Pc [.ref (ad 0), .int a1] (wpreS adK adV dC dI cy sz w0)) (va_Qi (P_X12_isSaintHere_1 ad cy B qr s1 a1 w0) (fun u : va_W => wpost dC dI cy (va_A w0 sz) u) (va_A w0 sz)) 0 0 (va_A w0 sz) := by
  refine Met.ofW (cc := cX12_isSaintHere) (maxL := 2) (ret := (some .boolean)) (by decide) rfl ?_
  intro p e s m args below meth c s₁ Bk hml hv
  obtain ⟨rfl, ⟨hsz, hP, hK, hD0⟩, hE, hSR⟩ := hv
  have hx := Bk.exec
  have hb := Bk.bytes
  have hr := Bk.returns
  have hlocks := Bk.notSynchronized
  have hC : CallFix p m c cX12_isSaintHere 2 s _ wsX12_isSaintHere RX12 := ⟨hx, hb, hml, findClass_of_methodNamed Bk.named, atoms_spec (ws := wsX12_isSaintHere) Bk.pre⟩
  subst hsz
  have hD := hD0.self (sz := s.heap.size)
  generalize hAe : va_A w0 s.heap.size = A at hD hE ⊢
  have hA : ∀ q : Nat, s.heap.size ≤ q → A q := fun q h => by rw [← hAe]; exact Or.inr h
  have hw : Wd dC dI A s.heap s.heap [] w0 := ⟨hP, hD, va_S.rf⟩
  have hF : FE ksM [(12, 9, 9), (12, 14, 14), (12, 15, 15), (12, 16, 16), (66, 0, 16)] w0 w0 := FE.rf
  have hl := lv_entry ([.ref (ad 0), .int a1]) (n := 2) (Nat.le_of_ble_eq_true rfl)
  rw [lg_entry_eq]
  generalize (lg_sl ([.ref (ad 0), .int a1]) ++ List.replicate (2 - (lg_sl ([.ref (ad 0), .int a1])).length) Slot.unset).toArray = ls at hl ⊢
  have hl : lv_has ls 2 [(0, .ref (ad 0)), (1, .int a1)] := hl
  generalize hloc : ([] : List Loc) = locs at hw ⊢
  have hinX12 : ∀ w ∈ u_ws RX12 TX12 42, w ∈ wsX12_isSaintHere := fun _ h => List.mem_cons_of_mem _ (List.mem_append_right _ (h))
  refine lv_aload_n hx hb dX12_isSaintHere_0 rfl (lv_at hl 0 rfl) ?_
  refine tk_geti hC hK hw hT hinX12 kM_at0 (by decide) rfl 9 (by decide) (List.mem_of_getElem? (i := 1) rfl) rfl rfl dX12_isSaintHere_1 (fun x1 c2 rx1 tx1 => ?_)
  refine lv_bipush (v := 8) hx hb dX12_isSaintHere_4 (by decide) ?_
  refine lv_icmp_ne (tgt := 16) hx hb dX12_isSaintHere_6 (by decide) (fun c3 => ?_) (fun c3 => ?_)
  · have c3 : ¬ x1.toInt = (8 : Int) := wk_eqF c3
    refine lv_aload_n hx hb dX12_isSaintHere_16 rfl (lv_at hl 0 rfl) ?_
    refine tk_Vv hC hK hw hT hA hE hSR kM_at0 (by decide) rfl (k_X12_passWord_1 l adK adV dC dI cy ad B (by omega) (by omega) qr s1    w0 s.heap.size hT ) (cwV 0 hC.2.2.2.2 gX12_isSaintHere_X12_passWord rfl rfl rfl (by decide +kernel) ⟨Nat.le_of_ble_eq_true rfl, Nat.le_of_ble_eq_true rfl⟩) rfl hl.1 rfl (Nat.le_of_ble_eq_true rfl) dX12_isSaintHere_17 (fun w6 H locs hp5 hw => ?_)
    obtain ⟨hT, k7, hg14⟩ := hp5
    have hF := hF.tr k7 (by decide)
    have c15 := k7.gi kM_at0 (by decide) c2
    rcases hg14 with ⟨⟨x8, c9, rx8, tx8⟩, ⟨x10, c11, rx10, tx10⟩⟩ | ⟨x12, c13, rx12, tx12⟩
    · refine lv_aload_n hx hb dX12_isSaintHere_20 rfl (lv_at hl 0 rfl) ?_
      refine lv_iconst (v := 0) hx hb dX12_isSaintHere_21 (by decide) ?_
      refine lv_aload_n hx hb dX12_isSaintHere_22 rfl (lv_at hl 0 rfl) ?_
      refine tk_geti hC hK hw hT hinX12 kM_at0 (by decide) rfl 7 (by decide) (List.mem_of_getElem? (i := 2) rfl) rfl rfl dX12_isSaintHere_23 (fun x16 c17 rx16 tx16 => ?_)
      refine lv_iconst (v := 1) hx hb dX12_isSaintHere_26 (by decide) ?_
      refine lv_isub hx hb dX12_isSaintHere_27 ?_
      refine lv_topi (fun x18 ex18 => ?_)
      have ex18 : x18.toInt = x16.toInt - (1 : Int) := by rw [ex18]; exact wk_sub (show (-2147483648) ≤ x16.toInt - (1 : Int) by omega) (show x16.toInt - (1 : Int) ≤ 2147483647 by omega)
      refine tk_Vi hC hK hw hT hA hE hSR kM_at0 (by decide) rfl (k_X12_numberHere_5 l adK adV dC dI cy ad B (by omega) (by omega) qr s1   x18 (show (-1) ≤ x18.toInt by omega) (show x18.toInt ≤ 9 by omega) w6 H.size hT ) (cwV 2 hC.2.2.2.2 gX12_isSaintHere_X12_numberHere rfl rfl rfl (by decide +kernel) ⟨Nat.le_of_ble_eq_true rfl, Nat.le_of_ble_eq_true rfl⟩) rfl hl.1 rfl (Nat.le_of_ble_eq_true rfl) dX12_isSaintHere_28 (fun r19 w21 H locs hp20 hw => ?_)
      obtain ⟨hT, k22, hg36⟩ := hp20
      have hF := hF.tr k22 (by decide)
      have c37 := k22.gi kM_at0 (by decide) c15
      have c38 := k22.gi kM_at0 (by decide) c9
      have c39 := k22.gi kM_at0 (by decide) c17
      rcases hg36 with ⟨rfl, ⟨x23, c24, rx23, tx23⟩, ⟨x25, c26, rx25, tx25⟩⟩ | ⟨rfl, ⟨x27, c28, rx27, tx27⟩, ⟨x29, c30, rx29, tx29⟩⟩ | ⟨rfl, g31, ⟨x32, c33, rx32, tx32⟩, ⟨x34, c35, rx34, tx34⟩⟩
      · have ex23 : x23.toInt = x8.toInt := by rw [← c38.symm.trans c24]
        refine lv_if_ne (tgt := 36) hx hb dX12_isSaintHere_31 (by decide) (fun c => absurd (by decide) c) (fun _ => ?_)
        refine lv_iconst (v := 0) hx hb dX12_isSaintHere_34 (by decide) ?_
        exact tk_zret hC hr rfl hlocks hK ⟨hT, hF, (Or.inr (Or.inl ⟨rfl, ⟨x8, c38, (show 1 ≤ x8.toInt by omega), (show x8.toInt ≤ 400 by omega)⟩, ⟨x1, c37, (show 0 ≤ x1.toInt by omega), (show x1.toInt ≤ 7 by omega)⟩, ⟨x25, c26, (show 1 ≤ x25.toInt by omega), (show x25.toInt ≤ 3205 by omega)⟩⟩))⟩ hw dX12_isSaintHere_35
      · have ex27 : x27.toInt = x8.toInt := by rw [← c38.symm.trans c28]
        refine lv_if_ne (tgt := 36) hx hb dX12_isSaintHere_31 (by decide) (fun c => absurd (by decide) c) (fun _ => ?_)
        refine lv_iconst (v := 0) hx hb dX12_isSaintHere_34 (by decide) ?_
        exact tk_zret hC hr rfl hlocks hK ⟨hT, hF, (Or.inr (Or.inl ⟨rfl, ⟨x8, c38, (show 1 ≤ x8.toInt by omega), (show x8.toInt ≤ 400 by omega)⟩, ⟨x1, c37, (show 0 ≤ x1.toInt by omega), (show x1.toInt ≤ 7 by omega)⟩, ⟨x29, c30, (show 1 ≤ x29.toInt by omega), (show x29.toInt ≤ 3205 by omega)⟩⟩))⟩ hw dX12_isSaintHere_35
      · have ex32 : x32.toInt = x8.toInt := by rw [← c38.symm.trans c33]
        refine lv_if_ne (tgt := 36) hx hb dX12_isSaintHere_31 (by decide) (fun _ => ?_) (fun c => absurd c (by decide))
        refine lv_aload_n hx hb dX12_isSaintHere_36 rfl (lv_at hl 0 rfl) ?_
        refine tk_getA hC hK hw hT hinX12 kM_at0 (by decide) rfl 12 (by decide) (List.mem_of_getElem? (i := 3) rfl) rfl rfl dX12_isSaintHere_37 ?_
        refine lv_iconst (v := 2) hx hb dX12_isSaintHere_40 (by decide) ?_
        refine lv_aload_n hx hb dX12_isSaintHere_41 rfl (lv_at hl 0 rfl) ?_
        refine tk_geti hC hK hw hT hinX12 kM_at0 (by decide) rfl 9 (by decide) (List.mem_of_getElem? (i := 1) rfl) rfl rfl dX12_isSaintHere_42 (fun x40 c41 rx40 tx40 => ?_)
        refine wk_top x1 (c41.symm.trans c37) ?_
        refine lv_imul hx hb dX12_isSaintHere_45 ?_
        refine lv_topi (fun x42 ex42 => ?_)
        have ex42 : x42.toInt = (2 : Int) * x1.toInt := by rw [ex42]; exact wk_mul (show (-2147483648) ≤ (2 : Int) * x1.toInt by omega) (show (2 : Int) * x1.toInt ≤ 2147483647 by omega)
        refine lv_aload_n hx hb dX12_isSaintHere_46 rfl (lv_at hl 0 rfl) ?_
        refine tk_geti hC hK hw hT hinX12 kM_at0 (by decide) rfl 16 (by decide) (List.mem_of_getElem? (i := 4) rfl) rfl rfl dX12_isSaintHere_47 (fun x43 c44 rx43 tx43 => ?_)
        refine wk_top x34 (c44.symm.trans c35) ?_
        refine tk_iast hC hK hw hT kM_at7 (by decide) rfl rfl (show 0 ≤ x42.toInt by omega) (show x42.toInt < 16 by omega) (wk_i32 x34).1 (wk_i32 x34).2 dX12_isSaintHere_50 (fun H locs w45 hw hT k47 c46 => ?_)
        have hF := hF.put kM_at7 (inE_of (a := 0) (b := 16) (by decide) (show 0 ≤ x42.toInt.toNat by omega) (show x42.toInt.toNat ≤ 16 by omega)) k47
        have c48 := k47.gi (Or.inl (tk_ne kM_at0 kM_at7 (by decide))) c37
        have c49 := k47.gi (Or.inl (tk_ne kM_at0 kM_at7 (by decide))) c38
        have c50 := k47.gi (Or.inl (tk_ne kM_at0 kM_at7 (by decide))) c39
        have c51 := k47.gi (Or.inl (tk_ne kM_at0 kM_at7 (by decide))) c35
        refine lv_aload_n hx hb dX12_isSaintHere_51 rfl (lv_at hl 0 rfl) ?_
        refine lv_iconst (v := 0) hx hb dX12_isSaintHere_52 (by decide) ?_
        refine lv_sipush (v := 359) hx hb dX12_isSaintHere_53 (by decide) ?_
        refine tk_Vi hC hK hw hT hA hE hSR kM_at0 (by decide) rfl (k_X12_numberHere_6 l adK adV dC dI cy ad B (by omega) (by omega) qr s1    w45 H.size hT ) (cwV 2 hC.2.2.2.2 gX12_isSaintHere_X12_numberHere rfl rfl rfl (by decide +kernel) ⟨Nat.le_of_ble_eq_true rfl, Nat.le_of_ble_eq_true rfl⟩) rfl hl.1 rfl (Nat.le_of_ble_eq_true rfl) dX12_isSaintHere_56 (fun r52 w54 H locs hp53 hw => ?_)
        obtain ⟨hT, k55, hg68⟩ := hp53
        have hF := hF.tr k55 (by decide)
        have c69 := k55.gi kM_at0 (by decide) c48
        have c70 := k55.gi kM_at0 (by decide) c49
        have c71 := k55.gi kM_at0 (by decide) c50
        rcases hg68 with ⟨rfl, ⟨x56, c57, rx56, tx56⟩, ⟨x58, c59, rx58, tx58⟩⟩ | ⟨rfl, ⟨x60, c61, rx60, tx60⟩, ⟨x62, c63, rx62, tx62⟩⟩ | ⟨rfl, ⟨x64, c65, rx64, tx64⟩, ⟨x66, c67, rx66, tx66⟩⟩
        · have ex56 : x56.toInt = x8.toInt := by rw [← c70.symm.trans c57]
          refine lv_if_ne (tgt := 64) hx hb dX12_isSaintHere_59 (by decide) (fun c => absurd (by decide) c) (fun _ => ?_)
          refine lv_iconst (v := 0) hx hb dX12_isSaintHere_62 (by decide) ?_
          exact tk_zret hC hr rfl hlocks hK ⟨hT, hF, (Or.inr (Or.inl ⟨rfl, ⟨x8, c70, (show 1 ≤ x8.toInt by omega), (show x8.toInt ≤ 400 by omega)⟩, ⟨x1, c69, (show 0 ≤ x1.toInt by omega), (show x1.toInt ≤ 7 by omega)⟩, ⟨x58, c59, (show 1 ≤ x58.toInt by omega), (show x58.toInt ≤ 3205 by omega)⟩⟩))⟩ hw dX12_isSaintHere_63
        · have ex60 : x60.toInt = x8.toInt := by rw [← c70.symm.trans c61]
          refine lv_if_ne (tgt := 64) hx hb dX12_isSaintHere_59 (by decide) (fun c => absurd (by decide) c) (fun _ => ?_)
          refine lv_iconst (v := 0) hx hb dX12_isSaintHere_62 (by decide) ?_
          exact tk_zret hC hr rfl hlocks hK ⟨hT, hF, (Or.inr (Or.inl ⟨rfl, ⟨x8, c70, (show 1 ≤ x8.toInt by omega), (show x8.toInt ≤ 400 by omega)⟩, ⟨x1, c69, (show 0 ≤ x1.toInt by omega), (show x1.toInt ≤ 7 by omega)⟩, ⟨x62, c63, (show 1 ≤ x62.toInt by omega), (show x62.toInt ≤ 3205 by omega)⟩⟩))⟩ hw dX12_isSaintHere_63
        · have ex64 : x64.toInt = x8.toInt := by rw [← c70.symm.trans c65]
          refine lv_if_ne (tgt := 64) hx hb dX12_isSaintHere_59 (by decide) (fun _ => ?_) (fun c => absurd c (by decide))
          refine lv_aload_n hx hb dX12_isSaintHere_64 rfl (lv_at hl 0 rfl) ?_
          refine tk_getA hC hK hw hT hinX12 kM_at0 (by decide) rfl 12 (by decide) (List.mem_of_getElem? (i := 3) rfl) rfl rfl dX12_isSaintHere_65 ?_
          refine lv_iconst (v := 2) hx hb dX12_isSaintHere_68 (by decide) ?_
          refine lv_aload_n hx hb dX12_isSaintHere_69 rfl (lv_at hl 0 rfl) ?_
          refine tk_geti hC hK hw hT hinX12 kM_at0 (by decide) rfl 9 (by decide) (List.mem_of_getElem? (i := 1) rfl) rfl rfl dX12_isSaintHere_70 (fun x72 c73 rx72 tx72 => ?_)
          refine wk_top x1 (c73.symm.trans c69) ?_
          refine lv_imul hx hb dX12_isSaintHere_73 ?_
          refine lv_topi (fun x74 ex74 => ?_)
          have ex74 : x74.toInt = (2 : Int) * x1.toInt := by rw [ex74]; exact wk_mul (show (-2147483648) ≤ (2 : Int) * x1.toInt by omega) (show (2 : Int) * x1.toInt ≤ 2147483647 by omega)
          refine lv_iconst (v := 1) hx hb dX12_isSaintHere_74 (by decide) ?_
          refine lv_iadd hx hb dX12_isSaintHere_75 ?_
          refine lv_topi (fun x75 ex75 => ?_)
          have ex75 : x75.toInt = x74.toInt + (1 : Int) := by rw [ex75]; exact wk_add (show (-2147483648) ≤ x74.toInt + (1 : Int) by omega) (show x74.toInt + (1 : Int) ≤ 2147483647 by omega)
          refine lv_aload_n hx hb dX12_isSaintHere_76 rfl (lv_at hl 0 rfl) ?_
          refine tk_geti hC hK hw hT hinX12 kM_at0 (by decide) rfl 16 (by decide) (List.mem_of_getElem? (i := 4) rfl) rfl rfl dX12_isSaintHere_77 (fun x76 c77 rx76 tx76 => ?_)
          refine wk_top x66 (c77.symm.trans c67) ?_
          refine tk_iast hC hK hw hT kM_at7 (by decide) rfl rfl (show 0 ≤ x75.toInt by omega) (show x75.toInt < 16 by omega) (wk_i32 x66).1 (wk_i32 x66).2 dX12_isSaintHere_80 (fun H locs w78 hw hT k80 c79 => ?_)
          have hF := hF.put kM_at7 (inE_of (a := 0) (b := 16) (by decide) (show 0 ≤ x75.toInt.toNat by omega) (show x75.toInt.toNat ≤ 16 by omega)) k80
          have c81 := k80.gi (Or.inl (tk_ne kM_at0 kM_at7 (by decide))) c69
          have c82 := k80.gi (Or.inl (tk_ne kM_at0 kM_at7 (by decide))) c70
          have c83 := k80.gi (Or.inl (tk_ne kM_at0 kM_at7 (by decide))) c71
          have c84 := k80.gi (Or.inl (tk_ne kM_at0 kM_at7 (by decide))) c67
          refine lv_aload_n hx hb dX12_isSaintHere_81 rfl (lv_at hl 0 rfl) ?_
          refine lv_dup hx hb dX12_isSaintHere_82 rfl ?_
          refine tk_geti hC hK hw hT hinX12 kM_at0 (by decide) rfl 9 (by decide) (List.mem_of_getElem? (i := 1) rfl) rfl rfl dX12_isSaintHere_83 (fun x85 c86 rx85 tx85 => ?_)
          refine wk_top x1 (c86.symm.trans c81) ?_
          refine lv_iconst (v := 1) hx hb dX12_isSaintHere_86 (by decide) ?_
          refine lv_iadd hx hb dX12_isSaintHere_87 ?_
          refine lv_topi (fun x87 ex87 => ?_)
          have ex87 : x87.toInt = x1.toInt + (1 : Int) := by rw [ex87]; exact wk_add (show (-2147483648) ≤ x1.toInt + (1 : Int) by omega) (show x1.toInt + (1 : Int) ≤ 2147483647 by omega)
          refine tk_puti hC hK hw hT hinX12 tyX12_ok nmX12 kM_at0 (by decide) rfl rfl 9 (by decide) (List.mem_of_getElem? (i := 1) rfl) rfl rfl rfl rfl (show 0 ≤ x87.toInt by omega) (show x87.toInt ≤ 8 by omega) dX12_isSaintHere_88 (fun H locs w88 hw hT k90 c89 => ?_)
          have hF := hF.put kM_at0 (k := 9) (by decide) k90
          have c91 := k90.gi (Or.inr (by decide)) c82
          have c92 := k90.gi (Or.inr (by decide)) c83
          have c93 := k90.gi (Or.inr (by decide)) c84
          refine lv_iconst (v := 1) hx hb dX12_isSaintHere_91 (by decide) ?_
          exact tk_zret hC hr rfl hlocks hK ⟨hT, hF, (Or.inr (Or.inr (Or.inr ⟨rfl, ⟨x8, c91, (show 1 ≤ x8.toInt by omega), (show x8.toInt ≤ 400 by omega)⟩, ⟨x16, c92, (show 1 ≤ x16.toInt by omega), (show x16.toInt ≤ 10 by omega)⟩, ⟨x87, c89, (show 1 ≤ x87.toInt by omega), (show x87.toInt ≤ 8 by omega)⟩, ⟨x66, c93, (show 0 ≤ x66.toInt by omega), (show x66.toInt ≤ 359 by omega)⟩⟩)))⟩ hw dX12_isSaintHere_92
    · refine lv_aload_n hx hb dX12_isSaintHere_20 rfl (lv_at hl 0 rfl) ?_
      refine lv_iconst (v := 0) hx hb dX12_isSaintHere_21 (by decide) ?_
      refine lv_aload_n hx hb dX12_isSaintHere_22 rfl (lv_at hl 0 rfl) ?_
      refine tk_geti hC hK hw hT hinX12 kM_at0 (by decide) rfl 7 (by decide) (List.mem_of_getElem? (i := 2) rfl) rfl rfl dX12_isSaintHere_23 (fun x94 c95 rx94 tx94 => ?_)
      refine lv_iconst (v := 1) hx hb dX12_isSaintHere_26 (by decide) ?_
      refine lv_isub hx hb dX12_isSaintHere_27 ?_
      refine lv_topi (fun x96 ex96 => ?_)
      have ex96 : x96.toInt = x94.toInt - (1 : Int) := by rw [ex96]; exact wk_sub (show (-2147483648) ≤ x94.toInt - (1 : Int) by omega) (show x94.toInt - (1 : Int) ≤ 2147483647 by omega)
      refine tk_Vi hC hK hw hT hA hE hSR kM_at0 (by decide) rfl (k_X12_numberHere_5 l adK adV dC dI cy ad B (by omega) (by omega) qr s1   x96 (show (-1) ≤ x96.toInt by omega) (show x96.toInt ≤ 9 by omega) w6 H.size hT ) (cwV 2 hC.2.2.2.2 gX12_isSaintHere_X12_numberHere rfl rfl rfl (by decide +kernel) ⟨Nat.le_of_ble_eq_true rfl, Nat.le_of_ble_eq_true rfl⟩) rfl hl.1 rfl (Nat.le_of_ble_eq_true rfl) dX12_isSaintHere_28 (fun r97 w99 H locs hp98 hw => ?_)
      obtain ⟨hT, k100, hg114⟩ := hp98
      have hF := hF.tr k100 (by decide)
      have c115 := k100.gi kM_at0 (by decide) c15
      have c116 := k100.gi kM_at0 (by decide) c13
      have c117 := k100.gi kM_at0 (by decide) c95
      rcases hg114 with ⟨rfl, ⟨x101, c102, rx101, tx101⟩, ⟨x103, c104, rx103, tx103⟩⟩ | ⟨rfl, ⟨x105, c106, rx105, tx105⟩, ⟨x107, c108, rx107, tx107⟩⟩ | ⟨rfl, g109, ⟨x110, c111, rx110, tx110⟩, ⟨x112, c113, rx112, tx112⟩⟩
      · have ex101 : x101.toInt = x12.toInt := by rw [← c116.symm.trans c102]
        refine lv_if_ne (tgt := 36) hx hb dX12_isSaintHere_31 (by decide) (fun c => absurd (by decide) c) (fun _ => ?_)
        refine lv_iconst (v := 0) hx hb dX12_isSaintHere_34 (by decide) ?_
        exact tk_zret hC hr rfl hlocks hK ⟨hT, hF, (Or.inr (Or.inl ⟨rfl, ⟨x12, c116, (show 1 ≤ x12.toInt by omega), (show x12.toInt ≤ 400 by omega)⟩, ⟨x1, c115, (show 0 ≤ x1.toInt by omega), (show x1.toInt ≤ 7 by omega)⟩, ⟨x103, c104, (show 1 ≤ x103.toInt by omega), (show x103.toInt ≤ 3205 by omega)⟩⟩))⟩ hw dX12_isSaintHere_35
      · have ex105 : x105.toInt = x12.toInt := by rw [← c116.symm.trans c106]
        refine lv_if_ne (tgt := 36) hx hb dX12_isSaintHere_31 (by decide) (fun c => absurd (by decide) c) (fun _ => ?_)
        refine lv_iconst (v := 0) hx hb dX12_isSaintHere_34 (by decide) ?_
        exact tk_zret hC hr rfl hlocks hK ⟨hT, hF, (Or.inr (Or.inr (Or.inl ⟨rfl, ⟨x12, c116, (show 0 ≤ x12.toInt by omega), (show x12.toInt ≤ 400 by omega)⟩, ⟨x1, c115, (show 0 ≤ x1.toInt by omega), (show x1.toInt ≤ 7 by omega)⟩, ⟨x107, c108, (show 1 ≤ x107.toInt by omega), (show x107.toInt ≤ 3205 by omega)⟩⟩)))⟩ hw dX12_isSaintHere_35
      · have ex110 : x110.toInt = x12.toInt := by rw [← c116.symm.trans c111]
        refine lv_if_ne (tgt := 36) hx hb dX12_isSaintHere_31 (by decide) (fun _ => ?_) (fun c => absurd c (by decide))
        refine lv_aload_n hx hb dX12_isSaintHere_36 rfl (lv_at hl 0 rfl) ?_
        refine tk_getA hC hK hw hT hinX12 kM_at0 (by decide) rfl 12 (by decide) (List.mem_of_getElem? (i := 3) rfl) rfl rfl dX12_isSaintHere_37 ?_
        refine lv_iconst (v := 2) hx hb dX12_isSaintHere_40 (by decide) ?_
        refine lv_aload_n hx hb dX12_isSaintHere_41 rfl (lv_at hl 0 rfl) ?_
        refine tk_geti hC hK hw hT hinX12 kM_at0 (by decide) rfl 9 (by decide) (List.mem_of_getElem? (i := 1) rfl) rfl rfl dX12_isSaintHere_42 (fun x118 c119 rx118 tx118 => ?_)
        refine wk_top x1 (c119.symm.trans c115) ?_
        refine lv_imul hx hb dX12_isSaintHere_45 ?_
        refine lv_topi (fun x120 ex120 => ?_)
        have ex120 : x120.toInt = (2 : Int) * x1.toInt := by rw [ex120]; exact wk_mul (show (-2147483648) ≤ (2 : Int) * x1.toInt by omega) (show (2 : Int) * x1.toInt ≤ 2147483647 by omega)
        refine lv_aload_n hx hb dX12_isSaintHere_46 rfl (lv_at hl 0 rfl) ?_
        refine tk_geti hC hK hw hT hinX12 kM_at0 (by decide) rfl 16 (by decide) (List.mem_of_getElem? (i := 4) rfl) rfl rfl dX12_isSaintHere_47 (fun x121 c122 rx121 tx121 => ?_)
        refine wk_top x112 (c122.symm.trans c113) ?_
        refine tk_iast hC hK hw hT kM_at7 (by decide) rfl rfl (show 0 ≤ x120.toInt by omega) (show x120.toInt < 16 by omega) (wk_i32 x112).1 (wk_i32 x112).2 dX12_isSaintHere_50 (fun H locs w123 hw hT k125 c124 => ?_)
        have hF := hF.put kM_at7 (inE_of (a := 0) (b := 16) (by decide) (show 0 ≤ x120.toInt.toNat by omega) (show x120.toInt.toNat ≤ 16 by omega)) k125
        have c126 := k125.gi (Or.inl (tk_ne kM_at0 kM_at7 (by decide))) c115
        have c127 := k125.gi (Or.inl (tk_ne kM_at0 kM_at7 (by decide))) c116
        have c128 := k125.gi (Or.inl (tk_ne kM_at0 kM_at7 (by decide))) c117
        have c129 := k125.gi (Or.inl (tk_ne kM_at0 kM_at7 (by decide))) c113
        refine lv_aload_n hx hb dX12_isSaintHere_51 rfl (lv_at hl 0 rfl) ?_
        refine lv_iconst (v := 0) hx hb dX12_isSaintHere_52 (by decide) ?_
        refine lv_sipush (v := 359) hx hb dX12_isSaintHere_53 (by decide) ?_
        refine tk_Vi hC hK hw hT hA hE hSR kM_at0 (by decide) rfl (k_X12_numberHere_6 l adK adV dC dI cy ad B (by omega) (by omega) qr s1    w123 H.size hT ) (cwV 2 hC.2.2.2.2 gX12_isSaintHere_X12_numberHere rfl rfl rfl (by decide +kernel) ⟨Nat.le_of_ble_eq_true rfl, Nat.le_of_ble_eq_true rfl⟩) rfl hl.1 rfl (Nat.le_of_ble_eq_true rfl) dX12_isSaintHere_56 (fun r130 w132 H locs hp131 hw => ?_)
        obtain ⟨hT, k133, hg146⟩ := hp131
        have hF := hF.tr k133 (by decide)
        have c147 := k133.gi kM_at0 (by decide) c126
        have c148 := k133.gi kM_at0 (by decide) c127
        have c149 := k133.gi kM_at0 (by decide) c128
        rcases hg146 with ⟨rfl, ⟨x134, c135, rx134, tx134⟩, ⟨x136, c137, rx136, tx136⟩⟩ | ⟨rfl, ⟨x138, c139, rx138, tx138⟩, ⟨x140, c141, rx140, tx140⟩⟩ | ⟨rfl, ⟨x142, c143, rx142, tx142⟩, ⟨x144, c145, rx144, tx144⟩⟩
        · have ex134 : x134.toInt = x12.toInt := by rw [← c148.symm.trans c135]
          refine lv_if_ne (tgt := 64) hx hb dX12_isSaintHere_59 (by decide) (fun c => absurd (by decide) c) (fun _ => ?_)
          refine lv_iconst (v := 0) hx hb dX12_isSaintHere_62 (by decide) ?_
          exact tk_zret hC hr rfl hlocks hK ⟨hT, hF, (Or.inr (Or.inl ⟨rfl, ⟨x12, c148, (show 1 ≤ x12.toInt by omega), (show x12.toInt ≤ 400 by omega)⟩, ⟨x1, c147, (show 0 ≤ x1.toInt by omega), (show x1.toInt ≤ 7 by omega)⟩, ⟨x136, c137, (show 1 ≤ x136.toInt by omega), (show x136.toInt ≤ 3205 by omega)⟩⟩))⟩ hw dX12_isSaintHere_63
        · have ex138 : x138.toInt = x12.toInt := by rw [← c148.symm.trans c139]
          refine lv_if_ne (tgt := 64) hx hb dX12_isSaintHere_59 (by decide) (fun c => absurd (by decide) c) (fun _ => ?_)
          refine lv_iconst (v := 0) hx hb dX12_isSaintHere_62 (by decide) ?_
          exact tk_zret hC hr rfl hlocks hK ⟨hT, hF, (Or.inr (Or.inl ⟨rfl, ⟨x12, c148, (show 1 ≤ x12.toInt by omega), (show x12.toInt ≤ 400 by omega)⟩, ⟨x1, c147, (show 0 ≤ x1.toInt by omega), (show x1.toInt ≤ 7 by omega)⟩, ⟨x140, c141, (show 1 ≤ x140.toInt by omega), (show x140.toInt ≤ 3205 by omega)⟩⟩))⟩ hw dX12_isSaintHere_63
        · have ex142 : x142.toInt = x12.toInt := by rw [← c148.symm.trans c143]
          refine lv_if_ne (tgt := 64) hx hb dX12_isSaintHere_59 (by decide) (fun _ => ?_) (fun c => absurd c (by decide))
          refine lv_aload_n hx hb dX12_isSaintHere_64 rfl (lv_at hl 0 rfl) ?_
          refine tk_getA hC hK hw hT hinX12 kM_at0 (by decide) rfl 12 (by decide) (List.mem_of_getElem? (i := 3) rfl) rfl rfl dX12_isSaintHere_65 ?_
          refine lv_iconst (v := 2) hx hb dX12_isSaintHere_68 (by decide) ?_
          refine lv_aload_n hx hb dX12_isSaintHere_69 rfl (lv_at hl 0 rfl) ?_
          refine tk_geti hC hK hw hT hinX12 kM_at0 (by decide) rfl 9 (by decide) (List.mem_of_getElem? (i := 1) rfl) rfl rfl dX12_isSaintHere_70 (fun x150 c151 rx150 tx150 => ?_)
          refine wk_top x1 (c151.symm.trans c147) ?_
          refine lv_imul hx hb dX12_isSaintHere_73 ?_
          refine lv_topi (fun x152 ex152 => ?_)
          have ex152 : x152.toInt = (2 : Int) * x1.toInt := by rw [ex152]; exact wk_mul (show (-2147483648) ≤ (2 : Int) * x1.toInt by omega) (show (2 : Int) * x1.toInt ≤ 2147483647 by omega)
          refine lv_iconst (v := 1) hx hb dX12_isSaintHere_74 (by decide) ?_
          refine lv_iadd hx hb dX12_isSaintHere_75 ?_
          refine lv_topi (fun x153 ex153 => ?_)
          have ex153 : x153.toInt = x152.toInt + (1 : Int) := by rw [ex153]; exact wk_add (show (-2147483648) ≤ x152.toInt + (1 : Int) by omega) (show x152.toInt + (1 : Int) ≤ 2147483647 by omega)
          refine lv_aload_n hx hb dX12_isSaintHere_76 rfl (lv_at hl 0 rfl) ?_
          refine tk_geti hC hK hw hT hinX12 kM_at0 (by decide) rfl 16 (by decide) (List.mem_of_getElem? (i := 4) rfl) rfl rfl dX12_isSaintHere_77 (fun x154 c155 rx154 tx154 => ?_)
          refine wk_top x144 (c155.symm.trans c145) ?_
          refine tk_iast hC hK hw hT kM_at7 (by decide) rfl rfl (show 0 ≤ x153.toInt by omega) (show x153.toInt < 16 by omega) (wk_i32 x144).1 (wk_i32 x144).2 dX12_isSaintHere_80 (fun H locs w156 hw hT k158 c157 => ?_)
          have hF := hF.put kM_at7 (inE_of (a := 0) (b := 16) (by decide) (show 0 ≤ x153.toInt.toNat by omega) (show x153.toInt.toNat ≤ 16 by omega)) k158
          have c159 := k158.gi (Or.inl (tk_ne kM_at0 kM_at7 (by decide))) c147
          have c160 := k158.gi (Or.inl (tk_ne kM_at0 kM_at7 (by decide))) c148
          have c161 := k158.gi (Or.inl (tk_ne kM_at0 kM_at7 (by decide))) c149
          have c162 := k158.gi (Or.inl (tk_ne kM_at0 kM_at7 (by decide))) c145
          refine lv_aload_n hx hb dX12_isSaintHere_81 rfl (lv_at hl 0 rfl) ?_
          refine lv_dup hx hb dX12_isSaintHere_82 rfl ?_
          refine tk_geti hC hK hw hT hinX12 kM_at0 (by decide) rfl 9 (by decide) (List.mem_of_getElem? (i := 1) rfl) rfl rfl dX12_isSaintHere_83 (fun x163 c164 rx163 tx163 => ?_)
          refine wk_top x1 (c164.symm.trans c159) ?_
          refine lv_iconst (v := 1) hx hb dX12_isSaintHere_86 (by decide) ?_
          refine lv_iadd hx hb dX12_isSaintHere_87 ?_
          refine lv_topi (fun x165 ex165 => ?_)
          have ex165 : x165.toInt = x1.toInt + (1 : Int) := by rw [ex165]; exact wk_add (show (-2147483648) ≤ x1.toInt + (1 : Int) by omega) (show x1.toInt + (1 : Int) ≤ 2147483647 by omega)
          refine tk_puti hC hK hw hT hinX12 tyX12_ok nmX12 kM_at0 (by decide) rfl rfl 9 (by decide) (List.mem_of_getElem? (i := 1) rfl) rfl rfl rfl rfl (show 0 ≤ x165.toInt by omega) (show x165.toInt ≤ 8 by omega) dX12_isSaintHere_88 (fun H locs w166 hw hT k168 c167 => ?_)
          have hF := hF.put kM_at0 (k := 9) (by decide) k168
          have c169 := k168.gi (Or.inr (by decide)) c160
          have c170 := k168.gi (Or.inr (by decide)) c161
          have c171 := k168.gi (Or.inr (by decide)) c162
          refine lv_iconst (v := 1) hx hb dX12_isSaintHere_91 (by decide) ?_
          exact tk_zret hC hr rfl hlocks hK ⟨hT, hF, (Or.inr (Or.inr (Or.inr ⟨rfl, ⟨x12, c169, (show 1 ≤ x12.toInt by omega), (show x12.toInt ≤ 400 by omega)⟩, ⟨x94, c170, (show 1 ≤ x94.toInt by omega), (show x94.toInt ≤ 10 by omega)⟩, ⟨x165, c167, (show 1 ≤ x165.toInt by omega), (show x165.toInt ≤ 8 by omega)⟩, ⟨x144, c171, (show 0 ≤ x144.toInt by omega), (show x144.toInt ≤ 359 by omega)⟩⟩)))⟩ hw dX12_isSaintHere_92
  · have c3 : x1.toInt = (8 : Int) := wk_eq.mp c3
    refine lv_aload_n hx hb dX12_isSaintHere_9 rfl (lv_at hl 0 rfl) ?_
    refine lv_iconst (v := 4) hx hb dX12_isSaintHere_10 (by decide) ?_
    refine lv_iload_n hx hb dX12_isSaintHere_11 rfl (lv_at hl 1 rfl) ?_
    refine tk_Vi hC hK hw hT hA hE hSR kM_at0 (by decide) rfl (k_X12_fails_1 l adK adV dC dI cy ad B (by omega) (by omega) qr s1   4 (by decide) (by decide) a1 (show 0 ≤ a1.toInt by omega) (show a1.toInt ≤ 400 by omega) w0 s.heap.size hT ) (cwV 2 hC.2.2.2.2 gX12_isSaintHere_X12_fails rfl rfl rfl (by decide +kernel) ⟨Nat.le_of_ble_eq_true rfl, Nat.le_of_ble_eq_true rfl⟩) rfl hl.1 rfl (Nat.le_of_ble_eq_true rfl) dX12_isSaintHere_12 (fun r172 w174 H locs hp173 hw => ?_)
    obtain ⟨hT, k175, hg178⟩ := hp173
    have hF := hF.tr k175 (by decide)
    have c179 := k175.gi kM_at0 (by decide) c2
    obtain ⟨rfl, ⟨x176, c177, rx176, tx176⟩⟩ := hg178
    exact tk_zret hC hr rfl hlocks hK ⟨hT, hF, (Or.inl ⟨rfl, ⟨x1, c179, (show 8 ≤ x1.toInt by omega), (show x1.toInt ≤ 8 by omega)⟩, ⟨x176, c177, (show 1 ≤ x176.toInt by omega), (show x176.toInt ≤ 3205 by omega)⟩⟩)⟩ hw dX12_isSaintHere_15
abbrev P_X12_signHere_1 (ad : Nat → Nat) (cy : Nat → ClassId) (B : Int) (qr : Nat) (s1 : Int)  (w0 : va_W) : Int32 → va_W → Prop := fun r u => w0 = u ∧ ((0 ≤ r.toInt ∧ r.toInt ≤ 3 ∧ (∃ y : Int32, gi u 0 1 = y ∧ 1 ≤ y.toInt ∧ y.toInt ≤ 400) ∧ (∃ y : Int32, gi u 0 14 = y ∧ 0 ≤ y.toInt ∧ y.toInt ≤ 399)) ∨ (r = (-1) ∧ (∃ y : Int32, gi u 0 1 = y ∧ 1 ≤ y.toInt ∧ y.toInt ≤ 400) ∧ (∃ y : Int32, gi u 0 14 = y ∧ 0 ≤ y.toInt ∧ y.toInt ≤ 399)) ∨ (r = (-1) ∧ (∃ y : Int32, gi u 0 1 = y ∧ 0 ≤ y.toInt ∧ y.toInt ≤ 400)))
set_option maxHeartbeats 4000000 in
set_option maxRecDepth 100000 in
theorem k_X12_signHere_1 (l : Launch) (adK adV : Nat → Nat) (dC : Nat → ClassId) (dI : Nat → Nat → Nat) (cy : Nat → ClassId) (ad : Nat → Nat) (B : Int) (hB0 : 100000 ≤ B) (hB1 : B ≤ 1073741824) (qr : Nat) (s1 : Int)   (w0 : va_W) (sz : Nat) (hT : TW ksM ad cy B qr 12 w0)  : Met l yX12_signHere wsX12_signHere ({ frames := 1, cells := 0, slots := 0, locals := 12 }) (va_Pc [.ref (ad 0)] (wpreS adK adV dC dI cy sz w0)) (va_Qi (P_X12_signHere_1 ad cy B qr s1  w0) (fun u : va_W => wpost dC dI cy (va_A w0 sz) u) (va_A w0 sz)) 0 0 (va_A w0 sz) := by
  refine Met.ofW (cc := cX12_signHere) (maxL := 2) (ret := (some .int)) (by decide) rfl ?_
  intro p e s m args below meth c s₁ Bk hml hv
  obtain ⟨rfl, ⟨hsz, hP, hK, hD0⟩, hE, hSR⟩ := hv
  have hx := Bk.exec
  have hb := Bk.bytes
  have hr := Bk.returns
  have hlocks := Bk.notSynchronized
  have hC : CallFix p m c cX12_signHere 2 s _ wsX12_signHere RX12 := ⟨hx, hb, hml, findClass_of_methodNamed Bk.named, atoms_spec (ws := wsX12_signHere) Bk.pre⟩
  subst hsz
  have hD := hD0.self (sz := s.heap.size)
  generalize hAe : va_A w0 s.heap.size = A at hD hE ⊢
  have hA : ∀ q : Nat, s.heap.size ≤ q → A q := fun q h => by rw [← hAe]; exact Or.inr h
  have hw : Wd dC dI A s.heap s.heap [] w0 := ⟨hP, hD, va_S.rf⟩
  have hF : FE ksM ([] : List (Nat × Nat × Nat)) w0 w0 := FE.rf
  have hl := lv_entry ([.ref (ad 0)]) (n := 2) (Nat.le_of_ble_eq_true rfl)
  rw [lg_entry_eq]
  generalize (lg_sl ([.ref (ad 0)]) ++ List.replicate (2 - (lg_sl ([.ref (ad 0)])).length) Slot.unset).toArray = ls at hl ⊢
  have hl : lv_has ls 2 [(0, .ref (ad 0))] := hl
  generalize hloc : ([] : List Loc) = locs at hw ⊢
  have hinX12 : ∀ w ∈ u_ws RX12 TX12 42, w ∈ wsX12_signHere := fun _ h => List.mem_cons_of_mem _ (List.mem_append_right _ (h))
  refine lv_aload_n hx hb dX12_signHere_0 rfl (lv_at hl 0 rfl) ?_
  refine tk_geti hC hK hw hT hinX12 kM_at0 (by decide) rfl 14 (by decide) (List.mem_of_getElem? (i := 1) rfl) rfl rfl dX12_signHere_1 (fun x1 c2 rx1 tx1 => ?_)
  refine lv_aload_n hx hb dX12_signHere_4 rfl (lv_at hl 0 rfl) ?_
  refine tk_geti hC hK hw hT hinX12 kM_at0 (by decide) rfl 1 (by decide) (List.mem_of_getElem? (i := 2) rfl) rfl rfl dX12_signHere_5 (fun x3 c4 rx3 tx3 => ?_)
  refine lv_icmp_ge (tgt := 23) hx hb dX12_signHere_8 (by decide) (fun c5 => ?_) (fun c5 => ?_)
  · have c5 : x3.toInt ≤ x1.toInt := wk_le.mp c5
    refine lv_iconst (v := 0) hx hb dX12_signHere_23 (by decide) ?_
    refine lv_istore_n (lv' := [(1, .int 0), (0, .ref (ad 0))]) hx hb dX12_signHere_24 rfl hl (by decide) rfl (fun ls hl => ?_)
    refine lv_iload_n hx hb dX12_signHere_25 rfl (lv_at hl 0 rfl) ?_
    refine lv_bipush (v := 46) hx hb dX12_signHere_26 (by decide) ?_
    refine lv_icmp_ne (tgt := 35) hx hb dX12_signHere_28 (by decide) (fun _ => ?_) (fun c => absurd c (by decide))
    refine lv_iload_n hx hb dX12_signHere_35 rfl (lv_at hl 0 rfl) ?_
    refine lv_bipush (v := 62) hx hb dX12_signHere_36 (by decide) ?_
    refine lv_icmp_ne (tgt := 45) hx hb dX12_signHere_38 (by decide) (fun _ => ?_) (fun c => absurd c (by decide))
    refine lv_iload_n hx hb dX12_signHere_45 rfl (lv_at hl 0 rfl) ?_
    refine lv_bipush (v := 60) hx hb dX12_signHere_46 (by decide) ?_
    refine lv_icmp_ne (tgt := 55) hx hb dX12_signHere_48 (by decide) (fun _ => ?_) (fun c => absurd c (by decide))
    refine lv_iload_n hx hb dX12_signHere_55 rfl (lv_at hl 0 rfl) ?_
    refine lv_bipush (v := 61) hx hb dX12_signHere_56 (by decide) ?_
    refine lv_icmp_ne (tgt := 65) hx hb dX12_signHere_58 (by decide) (fun _ => ?_) (fun c => absurd c (by decide))
    refine lv_iconst (v := (-1)) hx hb dX12_signHere_65 (by decide) ?_
    exact tk_iret hC hr hlocks hK ⟨rfl, (Or.inr (Or.inr ⟨rfl, ⟨x3, c4, (show 0 ≤ x3.toInt by omega), (show x3.toInt ≤ 400 by omega)⟩⟩))⟩ hw dX12_signHere_66
  · have c5 : x1.toInt < x3.toInt := wk_leF c5
    refine lv_aload_n hx hb dX12_signHere_11 rfl (lv_at hl 0 rfl) ?_
    refine tk_getA hC hK hw hT hinX12 kM_at0 (by decide) rfl 0 (by decide) (List.mem_of_getElem? (i := 3) rfl) rfl rfl dX12_signHere_12 ?_
    refine lv_aload_n hx hb dX12_signHere_15 rfl (lv_at hl 0 rfl) ?_
    refine tk_geti hC hK hw hT hinX12 kM_at0 (by decide) rfl 14 (by decide) (List.mem_of_getElem? (i := 1) rfl) rfl rfl dX12_signHere_16 (fun x6 c7 rx6 tx6 => ?_)
    refine wk_top x1 (c7.symm.trans c2) ?_
    refine tk_bald hC hK hw hT kM_at1 rfl rfl (show 0 ≤ x1.toInt by omega) (show x1.toInt < 400 by omega) dX12_signHere_19 (fun x8 c9 rx8 tx8 => ?_)
    have c9 : gi w0 1 (x1.toInt).toNat = x8 := (congrArg (gi w0 1) (congrArg Int.toNat (show x1.toInt = x1.toInt by omega))).trans c9
    refine lv_goto (tgt := 24) hx hb dX12_signHere_20 (by decide) ?_
    refine lv_istore_n (lv' := [(1, .int x8), (0, .ref (ad 0))]) hx hb dX12_signHere_24 rfl hl (by decide) rfl (fun ls hl => ?_)
    refine lv_iload_n hx hb dX12_signHere_25 rfl (lv_at hl 0 rfl) ?_
    refine lv_bipush (v := 46) hx hb dX12_signHere_26 (by decide) ?_
    refine lv_icmp_ne (tgt := 35) hx hb dX12_signHere_28 (by decide) (fun c10 => ?_) (fun c10 => ?_)
    · have c10 : ¬ x8.toInt = (46 : Int) := wk_eqF c10
      refine lv_iload_n hx hb dX12_signHere_35 rfl (lv_at hl 0 rfl) ?_
      refine lv_bipush (v := 62) hx hb dX12_signHere_36 (by decide) ?_
      refine lv_icmp_ne (tgt := 45) hx hb dX12_signHere_38 (by decide) (fun c11 => ?_) (fun c11 => ?_)
      · have c11 : ¬ x8.toInt = (62 : Int) := wk_eqF c11
        refine lv_iload_n hx hb dX12_signHere_45 rfl (lv_at hl 0 rfl) ?_
        refine lv_bipush (v := 60) hx hb dX12_signHere_46 (by decide) ?_
        refine lv_icmp_ne (tgt := 55) hx hb dX12_signHere_48 (by decide) (fun c12 => ?_) (fun c12 => ?_)
        · have c12 : ¬ x8.toInt = (60 : Int) := wk_eqF c12
          refine lv_iload_n hx hb dX12_signHere_55 rfl (lv_at hl 0 rfl) ?_
          refine lv_bipush (v := 61) hx hb dX12_signHere_56 (by decide) ?_
          refine lv_icmp_ne (tgt := 65) hx hb dX12_signHere_58 (by decide) (fun c13 => ?_) (fun c13 => ?_)
          · have c13 : ¬ x8.toInt = (61 : Int) := wk_eqF c13
            refine lv_iconst (v := (-1)) hx hb dX12_signHere_65 (by decide) ?_
            exact tk_iret hC hr hlocks hK ⟨rfl, (Or.inr (Or.inl ⟨rfl, ⟨x3, c4, (show 1 ≤ x3.toInt by omega), (show x3.toInt ≤ 400 by omega)⟩, ⟨x1, c2, (show 0 ≤ x1.toInt by omega), (show x1.toInt ≤ 399 by omega)⟩⟩))⟩ hw dX12_signHere_66
          · have c13 : x8.toInt = (61 : Int) := wk_eq.mp c13
            refine lv_iconst (v := 3) hx hb dX12_signHere_61 (by decide) ?_
            refine lv_goto (tgt := 66) hx hb dX12_signHere_62 (by decide) ?_
            exact tk_iret hC hr hlocks hK ⟨rfl, (Or.inl ⟨(by decide), (by decide), ⟨x3, c4, (show 1 ≤ x3.toInt by omega), (show x3.toInt ≤ 400 by omega)⟩, ⟨x1, c2, (show 0 ≤ x1.toInt by omega), (show x1.toInt ≤ 399 by omega)⟩⟩)⟩ hw dX12_signHere_66
        · have c12 : x8.toInt = (60 : Int) := wk_eq.mp c12
          refine lv_iconst (v := 2) hx hb dX12_signHere_51 (by decide) ?_
          refine lv_goto (tgt := 66) hx hb dX12_signHere_52 (by decide) ?_
          exact tk_iret hC hr hlocks hK ⟨rfl, (Or.inl ⟨(by decide), (by decide), ⟨x3, c4, (show 1 ≤ x3.toInt by omega), (show x3.toInt ≤ 400 by omega)⟩, ⟨x1, c2, (show 0 ≤ x1.toInt by omega), (show x1.toInt ≤ 399 by omega)⟩⟩)⟩ hw dX12_signHere_66
      · have c11 : x8.toInt = (62 : Int) := wk_eq.mp c11
        refine lv_iconst (v := 1) hx hb dX12_signHere_41 (by decide) ?_
        refine lv_goto (tgt := 66) hx hb dX12_signHere_42 (by decide) ?_
        exact tk_iret hC hr hlocks hK ⟨rfl, (Or.inl ⟨(by decide), (by decide), ⟨x3, c4, (show 1 ≤ x3.toInt by omega), (show x3.toInt ≤ 400 by omega)⟩, ⟨x1, c2, (show 0 ≤ x1.toInt by omega), (show x1.toInt ≤ 399 by omega)⟩⟩)⟩ hw dX12_signHere_66
    · have c10 : x8.toInt = (46 : Int) := wk_eq.mp c10
      refine lv_iconst (v := 0) hx hb dX12_signHere_31 (by decide) ?_
      refine lv_goto (tgt := 66) hx hb dX12_signHere_32 (by decide) ?_
      exact tk_iret hC hr hlocks hK ⟨rfl, (Or.inl ⟨(by decide), (by decide), ⟨x3, c4, (show 1 ≤ x3.toInt by omega), (show x3.toInt ≤ 400 by omega)⟩, ⟨x1, c2, (show 0 ≤ x1.toInt by omega), (show x1.toInt ≤ 399 by omega)⟩⟩)⟩ hw dX12_signHere_66
abbrev P_X12_areSignsHere_1 (ad : Nat → Nat) (cy : Nat → ClassId) (B : Int) (qr : Nat) (s1 : Int) (a1 : Int32) (w0 : va_W) : Int32 → va_W → Prop := fun r u => TW ksM ad cy B qr 12 u ∧ FE ksM [(12, 14, 14), (12, 15, 15), (65, 0, 120)] w0 u ∧ ((r = 0 ∧ (∃ y : Int32, gi u 0 1 = y ∧ 1 ≤ y.toInt ∧ y.toInt ≤ 400) ∧ (∃ y : Int32, gi u 0 14 = y ∧ 0 ≤ y.toInt ∧ y.toInt ≤ 399) ∧ (∃ y : Int32, gi u 0 15 = y ∧ 1 ≤ y.toInt ∧ y.toInt ≤ 3205)) ∨ (r = 0 ∧ (∃ y : Int32, gi u 0 1 = y ∧ 0 ≤ y.toInt ∧ y.toInt ≤ 400) ∧ (∃ y : Int32, gi u 0 15 = y ∧ 1 ≤ y.toInt ∧ y.toInt ≤ 3205)) ∨ (r = 1 ∧ (∃ y : Int32, gi u 0 1 = y ∧ 0 ≤ y.toInt ∧ y.toInt ≤ 400)))
set_option maxHeartbeats 4000000 in
set_option maxRecDepth 100000 in
theorem k_X12_areSignsHere_1 (l : Launch) (adK adV : Nat → Nat) (dC : Nat → ClassId) (dI : Nat → Nat → Nat) (cy : Nat → ClassId) (ad : Nat → Nat) (B : Int) (hB0 : 100000 ≤ B) (hB1 : B ≤ 1073741824) (qr : Nat) (s1 : Int)  (a1 : Int32) (ra1 : 3 ≤ a1.toInt) (ta1 : a1.toInt ≤ 113) (w0 : va_W) (sz : Nat) (hT : TW ksM ad cy B qr 12 w0)  : Met l yX12_areSignsHere wsX12_areSignsHere ({ frames := 2, cells := 0, slots := 0, locals := 34 }) (va_Pc [.ref (ad 0), .int a1] (wpreS adK adV dC dI cy sz w0)) (va_Qi (P_X12_areSignsHere_1 ad cy B qr s1 a1 w0) (fun u : va_W => wpost dC dI cy (va_A w0 sz) u) (va_A w0 sz)) 0 0 (va_A w0 sz) := by
  refine Met.ofW (cc := cX12_areSignsHere) (maxL := 4) (ret := (some .boolean)) (by decide) rfl ?_
  intro p e s m args below meth c s₁ Bk hml hv
  obtain ⟨rfl, ⟨hsz, hP, hK, hD0⟩, hE, hSR⟩ := hv
  have hx := Bk.exec
  have hb := Bk.bytes
  have hr := Bk.returns
  have hlocks := Bk.notSynchronized
  have hC : CallFix p m c cX12_areSignsHere 4 s _ wsX12_areSignsHere RX12 := ⟨hx, hb, hml, findClass_of_methodNamed Bk.named, atoms_spec (ws := wsX12_areSignsHere) Bk.pre⟩
  subst hsz
  have hD := hD0.self (sz := s.heap.size)
  generalize hAe : va_A w0 s.heap.size = A at hD hE ⊢
  have hA : ∀ q : Nat, s.heap.size ≤ q → A q := fun q h => by rw [← hAe]; exact Or.inr h
  have hw : Wd dC dI A s.heap s.heap [] w0 := ⟨hP, hD, va_S.rf⟩
  have hF : FE ksM [(12, 14, 14), (12, 15, 15), (65, 0, 120)] w0 w0 := FE.rf
  have hl := lv_entry ([.ref (ad 0), .int a1]) (n := 4) (Nat.le_of_ble_eq_true rfl)
  rw [lg_entry_eq]
  generalize (lg_sl ([.ref (ad 0), .int a1]) ++ List.replicate (4 - (lg_sl ([.ref (ad 0), .int a1])).length) Slot.unset).toArray = ls at hl ⊢
  have hl : lv_has ls 4 [(0, .ref (ad 0)), (1, .int a1)] := hl
  generalize hloc : ([] : List Loc) = locs at hw ⊢
  have hinX12 : ∀ w ∈ u_ws RX12 TX12 42, w ∈ wsX12_areSignsHere := fun _ h => List.mem_cons_of_mem _ (List.mem_append_right _ (h))
  have L7 : ∀ (n7 : Nat) (v7_2 : Int32) (f7_0_1 : Int32) (f7_0_14 : Int32) (H : Heap) (locs : List Loc) (ls : Array Slot) (w1 : va_W), 3 ≤ a1.toInt → a1.toInt ≤ 113 → 0 ≤ v7_2.toInt → v7_2.toInt ≤ 7 → 0 ≤ f7_0_1.toInt → f7_0_1.toInt ≤ 400 → 0 ≤ f7_0_14.toInt → f7_0_14.toInt ≤ 400 → (7 - v7_2.toInt).toNat < n7 → Wd dC dI A s.heap H locs w1 → TW ksM ad cy B qr 12 w1 → FE ksM [(12, 14, 14), (12, 15, 15), (65, 0, 120)] w0 w1 → gi w1 0 1 = f7_0_1 → gi w1 0 14 = f7_0_14 → lv_has ls 4 [(0, .ref (ad 0)), (1, .int a1), (2, .int v7_2)] → W p l e ({ frames := 2, cells := 0, slots := 0, locals := 34 }) s m (List.toArray [.ref (ad 0), .int a1]) below meth c H locs 0 0 (MQ below (va_Qi (P_X12_areSignsHere_1 ad cy B qr s1 a1 w0) (fun u : va_W => wpost dC dI cy A u) A) (List.toArray [.ref (ad 0), .int a1]) s 0 0 A) (F0 m 7 ls []) := by
    intro n7
    induction n7 with
    | zero => intro v7_2 f7_0_1 f7_0_14 H locs ls w1 r2 t3 r4 t5 r6 t7 r9 t10 hm7 hw hT hF c8 c11 hl; omega
    | succ n7 ih7 =>
      intro v7_2 f7_0_1 f7_0_14 H locs ls w1 r2 t3 r4 t5 r6 t7 r9 t10 hm7 hw hT hF c8 c11 hl
      refine lv_iload_n hx hb dX12_areSignsHere_7 rfl (lv_at hl 2 rfl) ?_
      refine lv_bipush (v := 7) hx hb dX12_areSignsHere_8 (by decide) ?_
      refine lv_icmp_ge (tgt := 57) hx hb dX12_areSignsHere_10 (by decide) (fun c12 => ?_) (fun c12 => ?_)
      · have c12 : (7 : Int) ≤ v7_2.toInt := wk_le.mp c12
        refine lv_iconst (v := 1) hx hb dX12_areSignsHere_57 (by decide) ?_
        exact tk_zret hC hr rfl hlocks hK ⟨hT, hF, (Or.inr (Or.inr ⟨rfl, ⟨f7_0_1, c8, (show 0 ≤ f7_0_1.toInt by omega), (show f7_0_1.toInt ≤ 400 by omega)⟩⟩))⟩ hw dX12_areSignsHere_58
      · have c12 : v7_2.toInt < (7 : Int) := wk_leF c12
        refine lv_aload_n hx hb dX12_areSignsHere_13 rfl (lv_at hl 0 rfl) ?_
        refine tk_Vi hC hK hw hT hA hE hSR kM_at0 (by decide) rfl (k_X12_signHere_1 l adK adV dC dI cy ad B (by omega) (by omega) qr s1    w1 H.size hT ) (cwV 0 hC.2.2.2.2 gX12_areSignsHere_X12_signHere rfl rfl rfl (by decide +kernel) ⟨Nat.le_of_ble_eq_true rfl, Nat.le_of_ble_eq_true rfl⟩) rfl hl.1 rfl (Nat.le_of_ble_eq_true rfl) dX12_areSignsHere_14 (fun r13 w15 H locs hp14 hw => ?_)
        obtain ⟨rfl, hg29⟩ := hp14
        rcases hg29 with ⟨g17, g18, ⟨x19, c20, rx19, tx19⟩, ⟨x21, c22, rx21, tx21⟩⟩ | ⟨rfl, ⟨x23, c24, rx23, tx23⟩, ⟨x25, c26, rx25, tx25⟩⟩ | ⟨rfl, ⟨x27, c28, rx27, tx27⟩⟩
        · have ex19 : x19.toInt = f7_0_1.toInt := by rw [← c8.symm.trans c20]
          have ex21 : x21.toInt = f7_0_14.toInt := by rw [← c11.symm.trans c22]
          refine lv_istore_n (lv' := [(3, .int r13), (0, .ref (ad 0)), (1, .int a1), (2, .int v7_2)]) hx hb dX12_areSignsHere_17 rfl hl (by decide) rfl (fun ls hl => ?_)
          refine lv_iload_n hx hb dX12_areSignsHere_18 rfl (lv_at hl 0 rfl) ?_
          refine lv_if_ge (tgt := 32) hx hb dX12_areSignsHere_19 (by decide) (fun _ => ?_) (fun c => (c (wk_le.mpr (show (0 : Int) ≤ r13.toInt by omega))).elim)
          refine lv_aload_n hx hb dX12_areSignsHere_32 rfl (lv_at hl 1 rfl) ?_
          refine tk_getA hC hK hw hT hinX12 kM_at0 (by decide) rfl 11 (by decide) (List.mem_of_getElem? (i := 2) rfl) rfl rfl dX12_areSignsHere_33 ?_
          refine lv_iload_n hx hb dX12_areSignsHere_36 rfl (lv_at hl 2 rfl) ?_
          refine lv_iload_n hx hb dX12_areSignsHere_37 rfl (lv_at hl 3 rfl) ?_
          refine lv_iadd hx hb dX12_areSignsHere_38 ?_
          refine lv_topi (fun x30 ex30 => ?_)
          have ex30 : x30.toInt = a1.toInt + v7_2.toInt := by rw [ex30]; exact wk_add (show (-2147483648) ≤ a1.toInt + v7_2.toInt by omega) (show a1.toInt + v7_2.toInt ≤ 2147483647 by omega)
          refine lv_iload_n hx hb dX12_areSignsHere_39 rfl (lv_at hl 0 rfl) ?_
          refine tk_iast hC hK hw hT kM_at6 (by decide) rfl rfl (show 0 ≤ x30.toInt by omega) (show x30.toInt < 120 by omega) (show 0 ≤ r13.toInt by omega) (show r13.toInt ≤ 9 by omega) dX12_areSignsHere_40 (fun H locs w31 hw hT k33 c32 => ?_)
          have hF := hF.put kM_at6 (inE_of (a := 0) (b := 120) (by decide) (show 0 ≤ x30.toInt.toNat by omega) (show x30.toInt.toNat ≤ 120 by omega)) k33
          have c34 := k33.gi (Or.inl (tk_ne kM_at0 kM_at6 (by decide))) c8
          have c35 := k33.gi (Or.inl (tk_ne kM_at0 kM_at6 (by decide))) c11
          refine lv_aload_n hx hb dX12_areSignsHere_41 rfl (lv_at hl 1 rfl) ?_
          refine lv_dup hx hb dX12_areSignsHere_42 rfl ?_
          refine tk_geti hC hK hw hT hinX12 kM_at0 (by decide) rfl 14 (by decide) (List.mem_of_getElem? (i := 1) rfl) rfl rfl dX12_areSignsHere_43 (fun x36 c37 rx36 tx36 => ?_)
          refine wk_top f7_0_14 (c37.symm.trans c35) ?_
          refine lv_iconst (v := 1) hx hb dX12_areSignsHere_46 (by decide) ?_
          refine lv_iadd hx hb dX12_areSignsHere_47 ?_
          refine lv_topi (fun x38 ex38 => ?_)
          have ex38 : x38.toInt = f7_0_14.toInt + (1 : Int) := by rw [ex38]; exact wk_add (show (-2147483648) ≤ f7_0_14.toInt + (1 : Int) by omega) (show f7_0_14.toInt + (1 : Int) ≤ 2147483647 by omega)
          refine tk_puti hC hK hw hT hinX12 tyX12_ok nmX12 kM_at0 (by decide) rfl rfl 14 (by decide) (List.mem_of_getElem? (i := 1) rfl) rfl rfl rfl rfl (show 0 ≤ x38.toInt by omega) (show x38.toInt ≤ 400 by omega) dX12_areSignsHere_48 (fun H locs w39 hw hT k41 c40 => ?_)
          have hF := hF.put kM_at0 (k := 14) (by decide) k41
          have c42 := k41.gi (Or.inr (by decide)) c34
          obtain ⟨x43, ex43⟩ : ∃ y : Int32, y = v7_2 + Int32.ofInt 1 := ⟨_, rfl⟩
          refine lv_iinc (v := x43) (lv' := [(2, .int x43), (3, .int r13), (0, .ref (ad 0)), (1, .int a1)]) hx hb dX12_areSignsHere_51 hl (k := 3) rfl ex43.symm (by decide) rfl (fun ls hl => ?_)
          have ex43 : x43.toInt = v7_2.toInt + 1 := by rw [ex43]; exact wk_add (y := 1) (show -2147483648 ≤ v7_2.toInt + 1 by omega) (show v7_2.toInt + 1 ≤ 2147483647 by omega)
          refine lv_goto (tgt := 7) hx hb dX12_areSignsHere_54 (by decide) ?_
          exact ih7 x43 f7_0_1 x38 H locs ls w39 (show 3 ≤ a1.toInt by omega) (show a1.toInt ≤ 113 by omega) (show 0 ≤ x43.toInt by omega) (show x43.toInt ≤ 7 by omega) (show 0 ≤ f7_0_1.toInt by omega) (show f7_0_1.toInt ≤ 400 by omega) (show 0 ≤ x38.toInt by omega) (show x38.toInt ≤ 400 by omega) (show (7 - x43.toInt).toNat < n7 by omega) hw hT hF c42 c40 (lv_sub hl [2, 3, 0] rfl)
        · have ex23 : x23.toInt = f7_0_1.toInt := by rw [← c8.symm.trans c24]
          have ex25 : x25.toInt = f7_0_14.toInt := by rw [← c11.symm.trans c26]
          refine lv_istore_n (lv' := [(3, .int (-1)), (0, .ref (ad 0)), (1, .int a1), (2, .int v7_2)]) hx hb dX12_areSignsHere_17 rfl hl (by decide) rfl (fun ls hl => ?_)
          refine lv_iload_n hx hb dX12_areSignsHere_18 rfl (lv_at hl 0 rfl) ?_
          refine lv_if_ge (tgt := 32) hx hb dX12_areSignsHere_19 (by decide) (fun c => absurd c (by decide)) (fun _ => ?_)
          refine lv_aload_n hx hb dX12_areSignsHere_22 rfl (lv_at hl 1 rfl) ?_
          refine lv_iconst (v := 0) hx hb dX12_areSignsHere_23 (by decide) ?_
          refine lv_aload_n hx hb dX12_areSignsHere_24 rfl (lv_at hl 1 rfl) ?_
          refine tk_geti hC hK hw hT hinX12 kM_at0 (by decide) rfl 14 (by decide) (List.mem_of_getElem? (i := 1) rfl) rfl rfl dX12_areSignsHere_25 (fun x44 c45 rx44 tx44 => ?_)
          refine wk_top f7_0_14 (c45.symm.trans c11) ?_
          refine tk_Vi hC hK hw hT hA hE hSR kM_at0 (by decide) rfl (k_X12_fails_1 l adK adV dC dI cy ad B (by omega) (by omega) qr s1   0 (by decide) (by decide) f7_0_14 (show 0 ≤ f7_0_14.toInt by omega) (show f7_0_14.toInt ≤ 400 by omega) w1 H.size hT ) (cwV 2 hC.2.2.2.2 gX12_areSignsHere_X12_fails rfl rfl rfl (by decide +kernel) ⟨Nat.le_of_ble_eq_true rfl, Nat.le_of_ble_eq_true rfl⟩) rfl hl.1 rfl (Nat.le_of_ble_eq_true rfl) dX12_areSignsHere_28 (fun r46 w48 H locs hp47 hw => ?_)
          obtain ⟨hT, k49, hg52⟩ := hp47
          have hF := hF.tr k49 (by decide)
          have c53 := k49.gi kM_at0 (by decide) c8
          have c54 := k49.gi kM_at0 (by decide) c11
          obtain ⟨rfl, ⟨x50, c51, rx50, tx50⟩⟩ := hg52
          exact tk_zret hC hr rfl hlocks hK ⟨hT, hF, (Or.inl ⟨rfl, ⟨f7_0_1, c53, (show 1 ≤ f7_0_1.toInt by omega), (show f7_0_1.toInt ≤ 400 by omega)⟩, ⟨f7_0_14, c54, (show 0 ≤ f7_0_14.toInt by omega), (show f7_0_14.toInt ≤ 399 by omega)⟩, ⟨x50, c51, (show 1 ≤ x50.toInt by omega), (show x50.toInt ≤ 3205 by omega)⟩⟩)⟩ hw dX12_areSignsHere_31
        · have ex27 : x27.toInt = f7_0_1.toInt := by rw [← c8.symm.trans c28]
          refine lv_istore_n (lv' := [(3, .int (-1)), (0, .ref (ad 0)), (1, .int a1), (2, .int v7_2)]) hx hb dX12_areSignsHere_17 rfl hl (by decide) rfl (fun ls hl => ?_)
          refine lv_iload_n hx hb dX12_areSignsHere_18 rfl (lv_at hl 0 rfl) ?_
          refine lv_if_ge (tgt := 32) hx hb dX12_areSignsHere_19 (by decide) (fun c => absurd c (by decide)) (fun _ => ?_)
          refine lv_aload_n hx hb dX12_areSignsHere_22 rfl (lv_at hl 1 rfl) ?_
          refine lv_iconst (v := 0) hx hb dX12_areSignsHere_23 (by decide) ?_
          refine lv_aload_n hx hb dX12_areSignsHere_24 rfl (lv_at hl 1 rfl) ?_
          refine tk_geti hC hK hw hT hinX12 kM_at0 (by decide) rfl 14 (by decide) (List.mem_of_getElem? (i := 1) rfl) rfl rfl dX12_areSignsHere_25 (fun x55 c56 rx55 tx55 => ?_)
          refine wk_top f7_0_14 (c56.symm.trans c11) ?_
          refine tk_Vi hC hK hw hT hA hE hSR kM_at0 (by decide) rfl (k_X12_fails_1 l adK adV dC dI cy ad B (by omega) (by omega) qr s1   0 (by decide) (by decide) f7_0_14 (show 0 ≤ f7_0_14.toInt by omega) (show f7_0_14.toInt ≤ 400 by omega) w1 H.size hT ) (cwV 2 hC.2.2.2.2 gX12_areSignsHere_X12_fails rfl rfl rfl (by decide +kernel) ⟨Nat.le_of_ble_eq_true rfl, Nat.le_of_ble_eq_true rfl⟩) rfl hl.1 rfl (Nat.le_of_ble_eq_true rfl) dX12_areSignsHere_28 (fun r57 w59 H locs hp58 hw => ?_)
          obtain ⟨hT, k60, hg63⟩ := hp58
          have hF := hF.tr k60 (by decide)
          have c64 := k60.gi kM_at0 (by decide) c8
          have c65 := k60.gi kM_at0 (by decide) c11
          obtain ⟨rfl, ⟨x61, c62, rx61, tx61⟩⟩ := hg63
          exact tk_zret hC hr rfl hlocks hK ⟨hT, hF, (Or.inr (Or.inl ⟨rfl, ⟨f7_0_1, c64, (show 0 ≤ f7_0_1.toInt by omega), (show f7_0_1.toInt ≤ 400 by omega)⟩, ⟨x61, c62, (show 1 ≤ x61.toInt by omega), (show x61.toInt ≤ 3205 by omega)⟩⟩))⟩ hw dX12_areSignsHere_31
  refine lv_aload_n hx hb dX12_areSignsHere_0 rfl (lv_at hl 0 rfl) ?_
  obtain ⟨x66, c67, rx66, tx66⟩ := hT.rdi (lo := 0) (hi := 400) (k := 14) kM_at0 (by decide) rfl
  refine tk_Vi hC hK hw hT hA hE hSR kM_at0 (by decide) rfl (k_X12_see_1 l adK adV dC dI cy ad B (by omega) (by omega) qr s1    w0 s.heap.size hT x66 c67 (show 0 ≤ x66.toInt by omega) (show x66.toInt ≤ 400 by omega)) (cwV 0 hC.2.2.2.2 gX12_areSignsHere_X12_see rfl rfl rfl (by decide +kernel) ⟨Nat.le_of_ble_eq_true rfl, Nat.le_of_ble_eq_true rfl⟩) rfl hl.1 rfl (Nat.le_of_ble_eq_true rfl) dX12_areSignsHere_1 (fun r68 w70 H locs hp69 hw => ?_)
  obtain ⟨hT, k71, hg88⟩ := hp69
  have hF := hF.tr k71 (by decide)
  rcases hg88 with ⟨g72, g73, ⟨x74, c75, rx74, tx74⟩, ⟨x76, c77, rx76, tx76⟩, g78, g79⟩ | ⟨rfl, ⟨x80, c81, rx80, tx80⟩, ⟨x82, c83, rx82, tx82⟩, g84⟩ | ⟨rfl, ⟨x85, c86, rx85, tx85⟩, g87⟩
  · have g78 : (gi w70 1 (x76.toInt).toNat).toInt ≠ 32 := by have q := g78; simp only [c77] at q; omega
    have g79 : (x76.toInt = x66.toInt ∨ (gi w0 1 (x66.toInt).toNat).toInt = 32) := by have q := g79; simp only [c67, c77] at q; omega
    refine lv_pop hx hb dX12_areSignsHere_4 rfl ?_
    refine lv_iconst (v := 0) hx hb dX12_areSignsHere_5 (by decide) ?_
    refine lv_istore_n (lv' := [(2, .int 0), (0, .ref (ad 0)), (1, .int a1)]) hx hb dX12_areSignsHere_6 rfl hl (by decide) rfl (fun ls hl => ?_)
    exact L7 ((7 - (0 : Int)).toNat + 1) 0 x74 x76 H locs ls w70 (show 3 ≤ a1.toInt by omega) (show a1.toInt ≤ 113 by omega) (by decide) (by decide) (show 0 ≤ x74.toInt by omega) (show x74.toInt ≤ 400 by omega) (show 0 ≤ x76.toInt by omega) (show x76.toInt ≤ 400 by omega) (Nat.lt_succ_self _) hw hT hF c75 c77 (lv_sub hl [1, 2, 0] rfl)
  · have g84 : (x82.toInt = x66.toInt ∨ (gi w0 1 (x66.toInt).toNat).toInt = 32) := by have q := g84; simp only [c67, c83] at q; omega
    refine lv_pop hx hb dX12_areSignsHere_4 rfl ?_
    refine lv_iconst (v := 0) hx hb dX12_areSignsHere_5 (by decide) ?_
    refine lv_istore_n (lv' := [(2, .int 0), (0, .ref (ad 0)), (1, .int a1)]) hx hb dX12_areSignsHere_6 rfl hl (by decide) rfl (fun ls hl => ?_)
    exact L7 ((7 - (0 : Int)).toNat + 1) 0 x80 x82 H locs ls w70 (show 3 ≤ a1.toInt by omega) (show a1.toInt ≤ 113 by omega) (by decide) (by decide) (show 0 ≤ x80.toInt by omega) (show x80.toInt ≤ 400 by omega) (show 0 ≤ x82.toInt by omega) (show x82.toInt ≤ 400 by omega) (Nat.lt_succ_self _) hw hT hF c81 c83 (lv_sub hl [1, 2, 0] rfl)
  · obtain ⟨x89, c90, rx89, tx89⟩ := hT.rdi (lo := 0) (hi := 400) (k := 14) kM_at0 (by decide) rfl
    have g87 : (x89.toInt = x66.toInt ∨ (gi w0 1 (x66.toInt).toNat).toInt = 32) := by have q := g87; simp only [c67, c90] at q; omega
    refine lv_pop hx hb dX12_areSignsHere_4 rfl ?_
    refine lv_iconst (v := 0) hx hb dX12_areSignsHere_5 (by decide) ?_
    refine lv_istore_n (lv' := [(2, .int 0), (0, .ref (ad 0)), (1, .int a1)]) hx hb dX12_areSignsHere_6 rfl hl (by decide) rfl (fun ls hl => ?_)
    exact L7 ((7 - (0 : Int)).toNat + 1) 0 x85 x89 H locs ls w70 (show 3 ≤ a1.toInt by omega) (show a1.toInt ≤ 113 by omega) (by decide) (by decide) (show 0 ≤ x85.toInt by omega) (show x85.toInt ≤ 400 by omega) (show 0 ≤ x89.toInt by omega) (show x89.toInt ≤ 400 by omega) (Nat.lt_succ_self _) hw hT hF c86 c90 (lv_sub hl [1, 2, 0] rfl)
abbrev P_X12_in_7 (ad : Nat → Nat) (cy : Nat → ClassId) (B : Int) (qr : Nat) (s1 : Int) (a0 : Int64) (a2 : Int64) (w0 : va_W) : Int32 → va_W → Prop := fun r u => w0 = u ∧ ((r = 0) ∨ (r = 1 ∧ 0 ≤ a0.toInt ∧ a0.toInt ≤ 9))
set_option maxHeartbeats 4000000 in
set_option maxRecDepth 100000 in
theorem k_X12_in_7 (l : Launch) (adK adV : Nat → Nat) (dC : Nat → ClassId) (dI : Nat → Nat → Nat) (cy : Nat → ClassId) (ad : Nat → Nat) (B : Int) (hB0 : 100000 ≤ B) (hB1 : B ≤ 1073741824) (qr : Nat) (s1 : Int)  (a0 : Int64) (ra0 : (-2147483648) ≤ a0.toInt) (ta0 : a0.toInt ≤ 2147483647) (a2 : Int64) (ra2 : 0 ≤ a2.toInt) (ta2 : a2.toInt ≤ 9) (w0 : va_W) (sz : Nat) (hT : TW ksM ad cy B qr 12 w0)  : Met l yX12_in wsX12_in ({ frames := 1, cells := 0, slots := 0, locals := 12 }) (va_Pc [.long a0, .long 0, .long a2] (wpreS adK adV dC dI cy sz w0)) (va_Qi (P_X12_in_7 ad cy B qr s1 a0 a2 w0) (fun u : va_W => wpost dC dI cy (va_A w0 sz) u) (va_A w0 sz)) 0 0 (va_A w0 sz) := by
  refine Met.ofW (cc := cX12_in) (maxL := 6) (ret := (some .boolean)) (by decide) rfl ?_
  intro p e s m args below meth c s₁ Bk hml hv
  obtain ⟨rfl, ⟨hsz, hP, hK, hD0⟩, hE, hSR⟩ := hv
  have hx := Bk.exec
  have hb := Bk.bytes
  have hr := Bk.returns
  have hlocks := Bk.notSynchronized
  have hC : CallFix p m c cX12_in 6 s _ wsX12_in RX12 := ⟨hx, hb, hml, findClass_of_methodNamed Bk.named, atoms_spec (ws := wsX12_in) Bk.pre⟩
  subst hsz
  have hD := hD0.self (sz := s.heap.size)
  generalize hAe : va_A w0 s.heap.size = A at hD hE ⊢
  have hA : ∀ q : Nat, s.heap.size ≤ q → A q := fun q h => by rw [← hAe]; exact Or.inr h
  have hw : Wd dC dI A s.heap s.heap [] w0 := ⟨hP, hD, va_S.rf⟩
  have hF : FE ksM ([] : List (Nat × Nat × Nat)) w0 w0 := FE.rf
  have hl := lv_entry ([.long a0, .long 0, .long a2]) (n := 6) (Nat.le_of_ble_eq_true rfl)
  rw [lg_entry_eq]
  generalize (lg_sl ([.long a0, .long 0, .long a2]) ++ List.replicate (6 - (lg_sl ([.long a0, .long 0, .long a2])).length) Slot.unset).toArray = ls at hl ⊢
  have hl : lv_has ls 6 [(0, .long a0), (2, .long 0), (4, .long a2)] := hl
  generalize hloc : ([] : List Loc) = locs at hw ⊢
  have J17 : ∀ (H : Heap) (locs : List Loc) (ls : Array Slot), (-2147483648) ≤ a0.toInt → a0.toInt ≤ 2147483647 → 0 ≤ a2.toInt → a2.toInt ≤ 9 → Wd dC dI A s.heap H locs w0 → lv_has ls 6 [(0, .long a0), (2, .long 0), (4, .long a2)] → W p l e ({ frames := 1, cells := 0, slots := 0, locals := 12 }) s m (List.toArray [.long a0, .long 0, .long a2]) below meth c H locs 0 0 (MQ below (va_Qi (P_X12_in_7 ad cy B qr s1 a0 a2 w0) (fun u : va_W => wpost dC dI cy A u) A) (List.toArray [.long a0, .long 0, .long a2]) s 0 0 A) (F0 m 17 ls []) := by
    intro H locs ls r1 t2 r3 t4 hw hl
    refine lv_iconst (v := 0) hx hb dX12_in_17 (by decide) ?_
    exact tk_zret hC hr rfl hlocks hK ⟨rfl, (Or.inl rfl)⟩ hw dX12_in_18
  refine lv_lload_n hx hb dX12_in_0 rfl (lv_at hl 0 rfl) ?_
  refine lv_lload_n hx hb dX12_in_1 rfl (lv_at hl 1 rfl) ?_
  refine W.lcmp hx hb dX12_in_2 ?_
  refine lv_if_lt (tgt := 17) hx hb dX12_in_3 (by decide) (fun c5 => ?_) (fun c5 => ?_)
  · have c5 : a0.toInt < (0 : Int) := wk_cltT c5
    exact J17  s.heap locs ls  (show (-2147483648) ≤ a0.toInt by omega) (show a0.toInt ≤ 2147483647 by omega) (show 0 ≤ a2.toInt by omega) (show a2.toInt ≤ 9 by omega)  hw   (lv_sub hl [0, 1, 2] rfl)
  · have c5 : (0 : Int) ≤ a0.toInt := wk_cltF c5
    refine lv_lload_n hx hb dX12_in_6 rfl (lv_at hl 0 rfl) ?_
    refine lv_lload hx hb dX12_in_7 (lv_at hl 2 rfl) ?_
    refine W.lcmp hx hb dX12_in_9 ?_
    refine lv_if_gt (tgt := 17) hx hb dX12_in_10 (by decide) (fun c6 => ?_) (fun c6 => ?_)
    · have c6 : a2.toInt < a0.toInt := wk_cgtT c6
      exact J17  s.heap locs ls  (show (-2147483648) ≤ a0.toInt by omega) (show a0.toInt ≤ 2147483647 by omega) (show 0 ≤ a2.toInt by omega) (show a2.toInt ≤ 9 by omega)  hw   (lv_sub hl [0, 1, 2] rfl)
    · have c6 : a0.toInt ≤ a2.toInt := wk_cgtF c6
      refine lv_iconst (v := 1) hx hb dX12_in_13 (by decide) ?_
      refine lv_goto (tgt := 18) hx hb dX12_in_14 (by decide) ?_
      exact tk_zret hC hr rfl hlocks hK ⟨rfl, (Or.inr ⟨rfl, (show 0 ≤ a0.toInt by omega), (show a0.toInt ≤ 9 by omega)⟩)⟩ hw dX12_in_18
abbrev P_X12_numberHere_7 (ad : Nat → Nat) (cy : Nat → ClassId) (B : Int) (qr : Nat) (s1 : Int) (a2 : Int32) (w0 : va_W) : Int32 → va_W → Prop := fun r u => TW ksM ad cy B qr 12 u ∧ FE ksM [(12, 14, 14), (12, 15, 15), (12, 16, 16)] w0 u ∧ ((r = 0 ∧ (∃ y : Int32, gi u 0 1 = y ∧ 1 ≤ y.toInt ∧ y.toInt ≤ 400) ∧ (∃ y : Int32, gi u 0 15 = y ∧ 1 ≤ y.toInt ∧ y.toInt ≤ 3205)) ∨ (r = 0 ∧ (∃ y : Int32, gi u 0 1 = y ∧ 0 ≤ y.toInt ∧ y.toInt ≤ 400) ∧ (∃ y : Int32, gi u 0 15 = y ∧ 1 ≤ y.toInt ∧ y.toInt ≤ 3205)) ∨ (r = 1 ∧ (∃ y : Int32, gi u 0 1 = y ∧ 1 ≤ y.toInt ∧ y.toInt ≤ 400) ∧ (∃ y : Int32, gi u 0 16 = y ∧ 0 ≤ y.toInt ∧ y.toInt ≤ 9)))
set_option maxHeartbeats 4000000 in
set_option maxRecDepth 100000 in
theorem k_X12_numberHere_7 (l : Launch) (adK adV : Nat → Nat) (dC : Nat → ClassId) (dI : Nat → Nat → Nat) (cy : Nat → ClassId) (ad : Nat → Nat) (B : Int) (hB0 : 100000 ≤ B) (hB1 : B ≤ 1073741824) (qr : Nat) (s1 : Int)  (a2 : Int32) (ra2 : 0 ≤ a2.toInt) (ta2 : a2.toInt ≤ 9) (w0 : va_W) (sz : Nat) (hT : TW ksM ad cy B qr 12 w0)  : Met l yX12_numberHere wsX12_numberHere ({ frames := 2, cells := 0, slots := 0, locals := 37 }) (va_Pc [.ref (ad 0), .int 0, .int a2] (wpreS adK adV dC dI cy sz w0)) (va_Qi (P_X12_numberHere_7 ad cy B qr s1 a2 w0) (fun u : va_W => wpost dC dI cy (va_A w0 sz) u) (va_A w0 sz)) 0 0 (va_A w0 sz) := by
  refine Met.ofW (cc := cX12_numberHere) (maxL := 5) (ret := (some .boolean)) (by decide) rfl ?_
  intro p e s m args below meth c s₁ Bk hml hv
  obtain ⟨rfl, ⟨hsz, hP, hK, hD0⟩, hE, hSR⟩ := hv
  have hx := Bk.exec
  have hb := Bk.bytes
  have hr := Bk.returns
  have hlocks := Bk.notSynchronized
  have hC : CallFix p m c cX12_numberHere 5 s _ wsX12_numberHere RX12 := ⟨hx, hb, hml, findClass_of_methodNamed Bk.named, atoms_spec (ws := wsX12_numberHere) Bk.pre⟩
  subst hsz
  have hD := hD0.self (sz := s.heap.size)
  generalize hAe : va_A w0 s.heap.size = A at hD hE ⊢
  have hA : ∀ q : Nat, s.heap.size ≤ q → A q := fun q h => by rw [← hAe]; exact Or.inr h
  have hw : Wd dC dI A s.heap s.heap [] w0 := ⟨hP, hD, va_S.rf⟩
  have hF : FE ksM [(12, 14, 14), (12, 15, 15), (12, 16, 16)] w0 w0 := FE.rf
  have hl := lv_entry ([.ref (ad 0), .int 0, .int a2]) (n := 5) (Nat.le_of_ble_eq_true rfl)
  rw [lg_entry_eq]
  generalize (lg_sl ([.ref (ad 0), .int 0, .int a2]) ++ List.replicate (5 - (lg_sl ([.ref (ad 0), .int 0, .int a2])).length) Slot.unset).toArray = ls at hl ⊢
  have hl : lv_has ls 5 [(0, .ref (ad 0)), (1, .int 0), (2, .int a2)] := hl
  generalize hloc : ([] : List Loc) = locs at hw ⊢
  have hinX12 : ∀ w ∈ u_ws RX12 TX12 42, w ∈ wsX12_numberHere := fun _ h => List.mem_cons_of_mem _ (List.mem_append_right _ (h))
  have J126 : ∀ (v126_3 : Int32) (v126_4 : Int32) (f126_0_1 : Int32) (f126_0_14 : Int32) (f126_0_16 : Int32) (H : Heap) (locs : List Loc) (ls : Array Slot) (w1 : va_W), 0 ≤ a2.toInt → a2.toInt ≤ 9 → 0 ≤ v126_3.toInt → v126_3.toInt ≤ 399 → 0 ≤ v126_4.toInt → v126_4.toInt ≤ 9 → 1 ≤ f126_0_1.toInt → f126_0_1.toInt ≤ 400 → 0 ≤ f126_0_14.toInt → f126_0_14.toInt ≤ 400 → 0 ≤ f126_0_16.toInt → f126_0_16.toInt ≤ 9 → Wd dC dI A s.heap H locs w1 → TW ksM ad cy B qr 12 w1 → FE ksM [(12, 14, 14), (12, 15, 15), (12, 16, 16)] w0 w1 → gi w1 0 1 = f126_0_1 → gi w1 0 14 = f126_0_14 → gi w1 0 16 = f126_0_16 → lv_has ls 5 [(0, .ref (ad 0)), (1, .int 0), (2, .int a2), (3, .int v126_3), (4, .int v126_4)] → W p l e ({ frames := 2, cells := 0, slots := 0, locals := 37 }) s m (List.toArray [.ref (ad 0), .int 0, .int a2]) below meth c H locs 0 0 (MQ below (va_Qi (P_X12_numberHere_7 ad cy B qr s1 a2 w0) (fun u : va_W => wpost dC dI cy A u) A) (List.toArray [.ref (ad 0), .int 0, .int a2]) s 0 0 A) (F0 m 126 ls []) := by
    intro v126_3 v126_4 f126_0_1 f126_0_14 f126_0_16 H locs ls w1 r2 t3 r4 t5 r6 t7 r8 t9 r11 t12 r14 t15 hw hT hF c10 c13 c16 hl
    refine lv_iconst (v := 1) hx hb dX12_numberHere_126 (by decide) ?_
    refine lv_goto (tgt := 131) hx hb dX12_numberHere_127 (by decide) ?_
    exact tk_zret hC hr rfl hlocks hK ⟨hT, hF, (Or.inr (Or.inr ⟨rfl, ⟨f126_0_1, c10, (show 1 ≤ f126_0_1.toInt by omega), (show f126_0_1.toInt ≤ 400 by omega)⟩, ⟨f126_0_16, c16, (show 0 ≤ f126_0_16.toInt by omega), (show f126_0_16.toInt ≤ 9 by omega)⟩⟩))⟩ hw dX12_numberHere_131
  have J117 : ∀ (v117_3 : Int32) (v117_4 : Int32) (f117_0_1 : Int32) (f117_0_14 : Int32) (f117_0_16 : Int32) (H : Heap) (locs : List Loc) (ls : Array Slot) (w17 : va_W), 0 ≤ a2.toInt → a2.toInt ≤ 9 → 0 ≤ v117_3.toInt → v117_3.toInt ≤ 399 → 1 ≤ f117_0_1.toInt → f117_0_1.toInt ≤ 400 → 0 ≤ f117_0_14.toInt → f117_0_14.toInt ≤ 400 → Wd dC dI A s.heap H locs w17 → TW ksM ad cy B qr 12 w17 → FE ksM [(12, 14, 14), (12, 15, 15), (12, 16, 16)] w0 w17 → gi w17 0 1 = f117_0_1 → gi w17 0 14 = f117_0_14 → gi w17 0 16 = f117_0_16 → lv_has ls 5 [(0, .ref (ad 0)), (1, .int 0), (2, .int a2), (3, .int v117_3), (4, .int v117_4)] → W p l e ({ frames := 2, cells := 0, slots := 0, locals := 37 }) s m (List.toArray [.ref (ad 0), .int 0, .int a2]) below meth c H locs 0 0 (MQ below (va_Qi (P_X12_numberHere_7 ad cy B qr s1 a2 w0) (fun u : va_W => wpost dC dI cy A u) A) (List.toArray [.ref (ad 0), .int 0, .int a2]) s 0 0 A) (F0 m 117 ls []) := by
    intro v117_3 v117_4 f117_0_1 f117_0_14 f117_0_16 H locs ls w17 r18 t19 r20 t21 r22 t23 r25 t26 hw hT hF c24 c27 c28 hl
    refine lv_aload_n hx hb dX12_numberHere_117 rfl (lv_at hl 0 rfl) ?_
    refine lv_iconst (v := 1) hx hb dX12_numberHere_118 (by decide) ?_
    refine lv_iload_n hx hb dX12_numberHere_119 rfl (lv_at hl 3 rfl) ?_
    refine tk_Vi hC hK hw hT hA hE hSR kM_at0 (by decide) rfl (k_X12_fails_1 l adK adV dC dI cy ad B (by omega) (by omega) qr s1   1 (by decide) (by decide) v117_3 (show 0 ≤ v117_3.toInt by omega) (show v117_3.toInt ≤ 400 by omega) w17 H.size hT ) (cwV 2 hC.2.2.2.2 gX12_numberHere_X12_fails rfl rfl rfl (by decide +kernel) ⟨Nat.le_of_ble_eq_true rfl, Nat.le_of_ble_eq_true rfl⟩) rfl hl.1 rfl (Nat.le_of_ble_eq_true rfl) dX12_numberHere_120 (fun r29 w31 H locs hp30 hw => ?_)
    obtain ⟨hT, k32, hg35⟩ := hp30
    have hF := hF.tr k32 (by decide)
    have c36 := k32.gi kM_at0 (by decide) c24
    have c37 := k32.gi kM_at0 (by decide) c27
    have c38 := k32.gi kM_at0 (by decide) c28
    obtain ⟨rfl, ⟨x33, c34, rx33, tx33⟩⟩ := hg35
    refine lv_if_eq (tgt := 130) hx hb dX12_numberHere_123 (by decide) (fun _ => ?_) (fun c => absurd (by decide) c)
    refine lv_iconst (v := 0) hx hb dX12_numberHere_130 (by decide) ?_
    exact tk_zret hC hr rfl hlocks hK ⟨hT, hF, (Or.inl ⟨rfl, ⟨f117_0_1, c36, (show 1 ≤ f117_0_1.toInt by omega), (show f117_0_1.toInt ≤ 400 by omega)⟩, ⟨x33, c34, (show 1 ≤ x33.toInt by omega), (show x33.toInt ≤ 3205 by omega)⟩⟩)⟩ hw dX12_numberHere_131
  have L34 : ∀ (n34 : Nat) (v34_3 : Int32) (v34_4 : Int32) (f34_0_1 : Int32) (f34_0_14 : Int32) (H : Heap) (locs : List Loc) (ls : Array Slot) (w39 : va_W), 0 ≤ a2.toInt → a2.toInt ≤ 9 → 0 ≤ v34_3.toInt → v34_3.toInt ≤ 399 → 1 ≤ f34_0_1.toInt → f34_0_1.toInt ≤ 400 → 0 ≤ f34_0_14.toInt → f34_0_14.toInt ≤ 400 → (400 - f34_0_14.toInt).toNat < n34 → Wd dC dI A s.heap H locs w39 → TW ksM ad cy B qr 12 w39 → FE ksM [(12, 14, 14), (12, 15, 15), (12, 16, 16)] w0 w39 → gi w39 0 1 = f34_0_1 → gi w39 0 14 = f34_0_14 → lv_has ls 5 [(0, .ref (ad 0)), (1, .int 0), (2, .int a2), (3, .int v34_3), (4, .int v34_4)] → W p l e ({ frames := 2, cells := 0, slots := 0, locals := 37 }) s m (List.toArray [.ref (ad 0), .int 0, .int a2]) below meth c H locs 0 0 (MQ below (va_Qi (P_X12_numberHere_7 ad cy B qr s1 a2 w0) (fun u : va_W => wpost dC dI cy A u) A) (List.toArray [.ref (ad 0), .int 0, .int a2]) s 0 0 A) (F0 m 34 ls []) := by
    intro n34
    induction n34 with
    | zero => intro v34_3 v34_4 f34_0_1 f34_0_14 H locs ls w39 r40 t41 r42 t43 r44 t45 r47 t48 hm34 hw hT hF c46 c49 hl; omega
    | succ n34 ih34 =>
      intro v34_3 v34_4 f34_0_1 f34_0_14 H locs ls w39 r40 t41 r42 t43 r44 t45 r47 t48 hm34 hw hT hF c46 c49 hl
      have J75 : ∀ (v75_4 : Int32) (H : Heap) (locs : List Loc) (ls : Array Slot) (w50 : va_W), 0 ≤ a2.toInt → a2.toInt ≤ 9 → 0 ≤ v34_3.toInt → v34_3.toInt ≤ 399 → 1 ≤ f34_0_1.toInt → f34_0_1.toInt ≤ 400 → 0 ≤ f34_0_14.toInt → f34_0_14.toInt ≤ 399 → Wd dC dI A s.heap H locs w50 → TW ksM ad cy B qr 12 w50 → FE ksM [(12, 14, 14), (12, 15, 15), (12, 16, 16)] w0 w50 → gi w50 0 1 = f34_0_1 → gi w50 0 14 = f34_0_14 → lv_has ls 5 [(0, .ref (ad 0)), (1, .int 0), (2, .int a2), (3, .int v34_3), (4, .int v75_4)] → W p l e ({ frames := 2, cells := 0, slots := 0, locals := 37 }) s m (List.toArray [.ref (ad 0), .int 0, .int a2]) below meth c H locs 0 0 (MQ below (va_Qi (P_X12_numberHere_7 ad cy B qr s1 a2 w0) (fun u : va_W => wpost dC dI cy A u) A) (List.toArray [.ref (ad 0), .int 0, .int a2]) s 0 0 A) (F0 m 75 ls []) := by
        intro v75_4 H locs ls w50 r51 t52 r53 t54 r55 t56 r58 t59 hw hT hF c57 c60 hl
        refine lv_aload_n hx hb dX12_numberHere_75 rfl (lv_at hl 0 rfl) ?_
        refine lv_dup hx hb dX12_numberHere_76 rfl ?_
        refine tk_geti hC hK hw hT hinX12 kM_at0 (by decide) rfl 14 (by decide) (List.mem_of_getElem? (i := 1) rfl) rfl rfl dX12_numberHere_77 (fun x61 c62 rx61 tx61 => ?_)
        refine wk_top f34_0_14 (c62.symm.trans c60) ?_
        refine lv_iconst (v := 1) hx hb dX12_numberHere_80 (by decide) ?_
        refine lv_iadd hx hb dX12_numberHere_81 ?_
        refine lv_topi (fun x63 ex63 => ?_)
        have ex63 : x63.toInt = f34_0_14.toInt + (1 : Int) := by rw [ex63]; exact wk_add (show (-2147483648) ≤ f34_0_14.toInt + (1 : Int) by omega) (show f34_0_14.toInt + (1 : Int) ≤ 2147483647 by omega)
        refine tk_puti hC hK hw hT hinX12 tyX12_ok nmX12 kM_at0 (by decide) rfl rfl 14 (by decide) (List.mem_of_getElem? (i := 1) rfl) rfl rfl rfl rfl (show 0 ≤ x63.toInt by omega) (show x63.toInt ≤ 400 by omega) dX12_numberHere_82 (fun H locs w64 hw hT k66 c65 => ?_)
        have hF := hF.put kM_at0 (k := 14) (by decide) k66
        have c67 := k66.gi (Or.inr (by decide)) c57
        refine lv_goto (tgt := 34) hx hb dX12_numberHere_85 (by decide) ?_
        exact ih34 v34_3 v75_4 f34_0_1 x63 H locs ls w64 (show 0 ≤ a2.toInt by omega) (show a2.toInt ≤ 9 by omega) (show 0 ≤ v34_3.toInt by omega) (show v34_3.toInt ≤ 399 by omega) (show 1 ≤ f34_0_1.toInt by omega) (show f34_0_1.toInt ≤ 400 by omega) (show 0 ≤ x63.toInt by omega) (show x63.toInt ≤ 400 by omega) (show (400 - x63.toInt).toNat < n34 by omega) hw hT hF c67 c65 (lv_sub hl [0, 1, 2, 3, 4] rfl)
      refine lv_aload_n hx hb dX12_numberHere_34 rfl (lv_at hl 0 rfl) ?_
      refine lv_aload_n hx hb dX12_numberHere_35 rfl (lv_at hl 0 rfl) ?_
      refine tk_geti hC hK hw hT hinX12 kM_at0 (by decide) rfl 14 (by decide) (List.mem_of_getElem? (i := 1) rfl) rfl rfl dX12_numberHere_36 (fun x68 c69 rx68 tx68 => ?_)
      refine wk_top f34_0_14 (c69.symm.trans c49) ?_
      refine tk_Vi hC hK hw hT hA hE hSR kM_at0 (by decide) rfl (k_X12_isDigit_2 l adK adV dC dI cy ad B (by omega) (by omega) qr s1   f34_0_14 (show 0 ≤ f34_0_14.toInt by omega) (show f34_0_14.toInt ≤ 400 by omega) w39 H.size hT ) (cwV 1 hC.2.2.2.2 gX12_numberHere_X12_isDigit rfl rfl rfl (by decide +kernel) ⟨Nat.le_of_ble_eq_true rfl, Nat.le_of_ble_eq_true rfl⟩) rfl hl.1 rfl (Nat.le_of_ble_eq_true rfl) dX12_numberHere_39 (fun r70 w72 H locs hp71 hw => ?_)
      obtain ⟨rfl, hg79⟩ := hp71
      rcases hg79 with ⟨rfl, ⟨x74, c75, rx74, tx74⟩⟩ | ⟨rfl, g76, ⟨x77, c78, rx77, tx77⟩⟩
      · have ex74 : x74.toInt = f34_0_1.toInt := by rw [← c46.symm.trans c75]
        refine lv_if_eq (tgt := 88) hx hb dX12_numberHere_42 (by decide) (fun _ => ?_) (fun c => absurd (by decide) c)
        refine lv_aload_n hx hb dX12_numberHere_88 rfl (lv_at hl 0 rfl) ?_
        refine lv_iload hx hb dX12_numberHere_89 (lv_at hl 4 rfl) ?_
        refine tk_puti hC hK hw hT hinX12 tyX12_ok nmX12 kM_at0 (by decide) rfl rfl 16 (by decide) (List.mem_of_getElem? (i := 3) rfl) rfl rfl rfl rfl (wk_i32 v34_4).1 (wk_i32 v34_4).2 dX12_numberHere_91 (fun H locs w80 hw hT k82 c81 => ?_)
        have hF := hF.put kM_at0 (k := 16) (by decide) k82
        have c83 := k82.gi (Or.inr (by decide)) c46
        have c84 := k82.gi (Or.inr (by decide)) c49
        refine lv_aload_n hx hb dX12_numberHere_94 rfl (lv_at hl 0 rfl) ?_
        refine tk_geti hC hK hw hT hinX12 kM_at0 (by decide) rfl 14 (by decide) (List.mem_of_getElem? (i := 1) rfl) rfl rfl dX12_numberHere_95 (fun x85 c86 rx85 tx85 => ?_)
        refine wk_top f34_0_14 (c86.symm.trans c84) ?_
        refine lv_iload_n hx hb dX12_numberHere_98 rfl (lv_at hl 3 rfl) ?_
        refine lv_isub hx hb dX12_numberHere_99 ?_
        refine lv_topi (fun x87 ex87 => ?_)
        have ex87 : x87.toInt = f34_0_14.toInt - v34_3.toInt := by rw [ex87]; exact wk_sub (show (-2147483648) ≤ f34_0_14.toInt - v34_3.toInt by omega) (show f34_0_14.toInt - v34_3.toInt ≤ 2147483647 by omega)
        refine lv_iconst (v := 5) hx hb dX12_numberHere_100 (by decide) ?_
        refine lv_icmp_gt (tgt := 117) hx hb dX12_numberHere_101 (by decide) (fun c88 => ?_) (fun c88 => ?_)
        · have c88 : (5 : Int) < x87.toInt := wk_lt.mp c88
          exact J117 v34_3 v34_4 f34_0_1 f34_0_14 v34_4 H locs ls w80 (show 0 ≤ a2.toInt by omega) (show a2.toInt ≤ 9 by omega) (show 0 ≤ v34_3.toInt by omega) (show v34_3.toInt ≤ 399 by omega) (show 1 ≤ f34_0_1.toInt by omega) (show f34_0_1.toInt ≤ 400 by omega) (show 0 ≤ f34_0_14.toInt by omega) (show f34_0_14.toInt ≤ 400 by omega)  hw hT hF c83 c84 c81 (lv_sub hl [0, 1, 2, 3, 4] rfl)
        · have c88 : x87.toInt ≤ (5 : Int) := wk_ltF c88
          refine lv_iload hx hb dX12_numberHere_104 (lv_at hl 4 rfl) ?_
          refine lv_i2l hx hb dX12_numberHere_106 rfl ?_
          refine lv_topl (fun x89 ex89 => ?_)
          have ex89 : x89.toInt = v34_4.toInt := by rw [ex89]; exact wk_i2l _
          have bx89 := wk_i32 v34_4
          refine lv_iload_n hx hb dX12_numberHere_107 rfl (lv_at hl 1 rfl) ?_
          refine lv_i2l hx hb dX12_numberHere_108 rfl ?_
          refine wk_topl 0 (by decide) ?_
          refine lv_iload_n hx hb dX12_numberHere_109 rfl (lv_at hl 2 rfl) ?_
          refine lv_i2l hx hb dX12_numberHere_110 rfl ?_
          refine lv_topl (fun x90 ex90 => ?_)
          have ex90 : x90.toInt = a2.toInt := by rw [ex90]; exact wk_i2l _
          have bx90 := wk_i32 a2
          refine tk_Si hC hK hw hT hA hE hSR (k_X12_in_7 l adK adV dC dI cy ad B (by omega) (by omega) qr s1   x89 (show (-2147483648) ≤ x89.toInt by omega) (show x89.toInt ≤ 2147483647 by omega) x90 (show 0 ≤ x90.toInt by omega) (show x90.toInt ≤ 9 by omega) w80 H.size hT ) (va_cwS 3 hC.2.2.2.2 gX12_numberHere_X12_in rfl rfl rfl (by decide +kernel) ⟨Nat.le_of_ble_eq_true rfl, Nat.le_of_ble_eq_true rfl⟩) rfl hl.1 rfl (Nat.le_of_ble_eq_true rfl) dX12_numberHere_111 (fun r91 w93 H locs hp92 hw => ?_)
          obtain ⟨rfl, hg97⟩ := hp92
          rcases hg97 with rfl | ⟨rfl, g95, g96⟩
          · refine lv_if_ne (tgt := 126) hx hb dX12_numberHere_114 (by decide) (fun c => absurd (by decide) c) (fun _ => ?_)
            exact J117 v34_3 v34_4 f34_0_1 f34_0_14 v34_4 H locs ls w80 (show 0 ≤ a2.toInt by omega) (show a2.toInt ≤ 9 by omega) (show 0 ≤ v34_3.toInt by omega) (show v34_3.toInt ≤ 399 by omega) (show 1 ≤ f34_0_1.toInt by omega) (show f34_0_1.toInt ≤ 400 by omega) (show 0 ≤ f34_0_14.toInt by omega) (show f34_0_14.toInt ≤ 400 by omega)  hw hT hF c83 c84 c81 (lv_sub hl [0, 1, 2, 3, 4] rfl)
          · refine lv_if_ne (tgt := 126) hx hb dX12_numberHere_114 (by decide) (fun _ => ?_) (fun c => absurd c (by decide))
            exact J126 v34_3 v34_4 f34_0_1 f34_0_14 v34_4 H locs ls w80 (show 0 ≤ a2.toInt by omega) (show a2.toInt ≤ 9 by omega) (show 0 ≤ v34_3.toInt by omega) (show v34_3.toInt ≤ 399 by omega) (show 0 ≤ v34_4.toInt by omega) (show v34_4.toInt ≤ 9 by omega) (show 1 ≤ f34_0_1.toInt by omega) (show f34_0_1.toInt ≤ 400 by omega) (show 0 ≤ f34_0_14.toInt by omega) (show f34_0_14.toInt ≤ 400 by omega) (show 0 ≤ v34_4.toInt by omega) (show v34_4.toInt ≤ 9 by omega)  hw hT hF c83 c84 c81 (lv_sub hl [0, 1, 2, 3, 4] rfl)
      · have ex77 : x77.toInt = f34_0_1.toInt := by rw [← c46.symm.trans c78]
        refine lv_if_eq (tgt := 88) hx hb dX12_numberHere_42 (by decide) (fun c => absurd c (by decide)) (fun _ => ?_)
        refine lv_aload_n hx hb dX12_numberHere_45 rfl (lv_at hl 0 rfl) ?_
        refine tk_geti hC hK hw hT hinX12 kM_at0 (by decide) rfl 14 (by decide) (List.mem_of_getElem? (i := 1) rfl) rfl rfl dX12_numberHere_46 (fun x98 c99 rx98 tx98 => ?_)
        refine wk_top f34_0_14 (c99.symm.trans c49) ?_
        refine lv_iload_n hx hb dX12_numberHere_49 rfl (lv_at hl 3 rfl) ?_
        refine lv_isub hx hb dX12_numberHere_50 ?_
        refine lv_topi (fun x100 ex100 => ?_)
        have ex100 : x100.toInt = f34_0_14.toInt - v34_3.toInt := by rw [ex100]; exact wk_sub (show (-2147483648) ≤ f34_0_14.toInt - v34_3.toInt by omega) (show f34_0_14.toInt - v34_3.toInt ≤ 2147483647 by omega)
        refine lv_iconst (v := 5) hx hb dX12_numberHere_51 (by decide) ?_
        refine lv_icmp_ge (tgt := 75) hx hb dX12_numberHere_52 (by decide) (fun c101 => ?_) (fun c101 => ?_)
        · have c101 : (5 : Int) ≤ x100.toInt := wk_le.mp c101
          exact J75 v34_4 H locs ls w39 (show 0 ≤ a2.toInt by omega) (show a2.toInt ≤ 9 by omega) (show 0 ≤ v34_3.toInt by omega) (show v34_3.toInt ≤ 399 by omega) (show 1 ≤ f34_0_1.toInt by omega) (show f34_0_1.toInt ≤ 400 by omega) (show 0 ≤ f34_0_14.toInt by omega) (show f34_0_14.toInt ≤ 399 by omega)  hw hT hF c46 c49 (lv_sub hl [0, 1, 2, 3, 4] rfl)
        · have c101 : x100.toInt < (5 : Int) := wk_leF c101
          refine lv_bipush (v := 10) hx hb dX12_numberHere_55 (by decide) ?_
          refine lv_iload hx hb dX12_numberHere_57 (lv_at hl 4 rfl) ?_
          refine lv_imul hx hb dX12_numberHere_59 ?_
          have nx102 := wk_i32 v34_4
          refine lv_topi (fun x103 ex103 => ?_)
          refine lv_aload_n hx hb dX12_numberHere_60 rfl (lv_at hl 0 rfl) ?_
          refine tk_getA hC hK hw hT hinX12 kM_at0 (by decide) rfl 0 (by decide) (List.mem_of_getElem? (i := 2) rfl) rfl rfl dX12_numberHere_61 ?_
          refine lv_aload_n hx hb dX12_numberHere_64 rfl (lv_at hl 0 rfl) ?_
          refine tk_geti hC hK hw hT hinX12 kM_at0 (by decide) rfl 14 (by decide) (List.mem_of_getElem? (i := 1) rfl) rfl rfl dX12_numberHere_65 (fun x104 c105 rx104 tx104 => ?_)
          refine wk_top f34_0_14 (c105.symm.trans c49) ?_
          refine tk_bald hC hK hw hT kM_at1 rfl rfl (show 0 ≤ f34_0_14.toInt by omega) (show f34_0_14.toInt < 400 by omega) dX12_numberHere_68 (fun x106 c107 rx106 tx106 => ?_)
          have c107 : gi w39 1 (f34_0_14.toInt).toNat = x106 := (congrArg (gi w39 1) (congrArg Int.toNat (show f34_0_14.toInt = f34_0_14.toInt by omega))).trans c107
          refine lv_iadd hx hb dX12_numberHere_69 ?_
          have nx108 := wk_i32 x103
          refine lv_topi (fun x109 ex109 => ?_)
          refine lv_bipush (v := 48) hx hb dX12_numberHere_70 (by decide) ?_
          refine lv_isub hx hb dX12_numberHere_72 ?_
          have nx110 := wk_i32 x109
          refine lv_topi (fun x111 ex111 => ?_)
          refine lv_istore (lv' := [(4, .int x111), (0, .ref (ad 0)), (1, .int 0), (2, .int a2), (3, .int v34_3)]) hx hb dX12_numberHere_73 hl (by decide) rfl (fun ls hl => ?_)
          exact J75 x111 H locs ls w39 (show 0 ≤ a2.toInt by omega) (show a2.toInt ≤ 9 by omega) (show 0 ≤ v34_3.toInt by omega) (show v34_3.toInt ≤ 399 by omega) (show 1 ≤ f34_0_1.toInt by omega) (show f34_0_1.toInt ≤ 400 by omega) (show 0 ≤ f34_0_14.toInt by omega) (show f34_0_14.toInt ≤ 399 by omega)  hw hT hF c46 c49 (lv_sub hl [1, 2, 3, 4, 0] rfl)
  refine lv_aload_n hx hb dX12_numberHere_0 rfl (lv_at hl 0 rfl) ?_
  obtain ⟨x112, c113, rx112, tx112⟩ := hT.rdi (lo := 0) (hi := 400) (k := 14) kM_at0 (by decide) rfl
  refine tk_Vi hC hK hw hT hA hE hSR kM_at0 (by decide) rfl (k_X12_see_1 l adK adV dC dI cy ad B (by omega) (by omega) qr s1    w0 s.heap.size hT x112 c113 (show 0 ≤ x112.toInt by omega) (show x112.toInt ≤ 400 by omega)) (cwV 0 hC.2.2.2.2 gX12_numberHere_X12_see rfl rfl rfl (by decide +kernel) ⟨Nat.le_of_ble_eq_true rfl, Nat.le_of_ble_eq_true rfl⟩) rfl hl.1 rfl (Nat.le_of_ble_eq_true rfl) dX12_numberHere_1 (fun r114 w116 H locs hp115 hw => ?_)
  obtain ⟨hT, k117, hg134⟩ := hp115
  have hF := hF.tr k117 (by decide)
  rcases hg134 with ⟨g118, g119, ⟨x120, c121, rx120, tx120⟩, ⟨x122, c123, rx122, tx122⟩, g124, g125⟩ | ⟨rfl, ⟨x126, c127, rx126, tx126⟩, ⟨x128, c129, rx128, tx128⟩, g130⟩ | ⟨rfl, ⟨x131, c132, rx131, tx131⟩, g133⟩
  · have g124 : (gi w116 1 (x122.toInt).toNat).toInt ≠ 32 := by have q := g124; simp only [c123] at q; omega
    have g125 : (x122.toInt = x112.toInt ∨ (gi w0 1 (x112.toInt).toNat).toInt = 32) := by have q := g125; simp only [c113, c123] at q; omega
    refine lv_pop hx hb dX12_numberHere_4 rfl ?_
    refine lv_aload_n hx hb dX12_numberHere_5 rfl (lv_at hl 0 rfl) ?_
    refine lv_aload_n hx hb dX12_numberHere_6 rfl (lv_at hl 0 rfl) ?_
    refine tk_geti hC hK hw hT hinX12 kM_at0 (by decide) rfl 14 (by decide) (List.mem_of_getElem? (i := 1) rfl) rfl rfl dX12_numberHere_7 (fun x137 c138 rx137 tx137 => ?_)
    refine wk_top x122 (c138.symm.trans c123) ?_
    refine tk_Vi hC hK hw hT hA hE hSR kM_at0 (by decide) rfl (k_X12_isDigit_1 l adK adV dC dI cy ad B (by omega) (by omega) qr s1   x122 (show 0 ≤ x122.toInt by omega) (show x122.toInt ≤ 399 by omega) w116 H.size hT ) (cwV 1 hC.2.2.2.2 gX12_numberHere_X12_isDigit rfl rfl rfl (by decide +kernel) ⟨Nat.le_of_ble_eq_true rfl, Nat.le_of_ble_eq_true rfl⟩) rfl hl.1 rfl (Nat.le_of_ble_eq_true rfl) dX12_numberHere_10 (fun r139 w141 H locs hp140 hw => ?_)
    obtain ⟨rfl, hg147⟩ := hp140
    rcases hg147 with ⟨rfl, ⟨x143, c144, rx143, tx143⟩⟩ | ⟨rfl, ⟨x145, c146, rx145, tx145⟩⟩
    · have ex143 : x143.toInt = x120.toInt := by rw [← c121.symm.trans c144]
      refine lv_if_ne (tgt := 26) hx hb dX12_numberHere_13 (by decide) (fun c => absurd (by decide) c) (fun _ => ?_)
      refine lv_aload_n hx hb dX12_numberHere_16 rfl (lv_at hl 0 rfl) ?_
      refine lv_iconst (v := 0) hx hb dX12_numberHere_17 (by decide) ?_
      refine lv_aload_n hx hb dX12_numberHere_18 rfl (lv_at hl 0 rfl) ?_
      refine tk_geti hC hK hw hT hinX12 kM_at0 (by decide) rfl 14 (by decide) (List.mem_of_getElem? (i := 1) rfl) rfl rfl dX12_numberHere_19 (fun x148 c149 rx148 tx148 => ?_)
      refine wk_top x122 (c149.symm.trans c123) ?_
      refine tk_Vi hC hK hw hT hA hE hSR kM_at0 (by decide) rfl (k_X12_fails_1 l adK adV dC dI cy ad B (by omega) (by omega) qr s1   0 (by decide) (by decide) x122 (show 0 ≤ x122.toInt by omega) (show x122.toInt ≤ 400 by omega) w116 H.size hT ) (cwV 2 hC.2.2.2.2 gX12_numberHere_X12_fails rfl rfl rfl (by decide +kernel) ⟨Nat.le_of_ble_eq_true rfl, Nat.le_of_ble_eq_true rfl⟩) rfl hl.1 rfl (Nat.le_of_ble_eq_true rfl) dX12_numberHere_22 (fun r150 w152 H locs hp151 hw => ?_)
      obtain ⟨hT, k153, hg156⟩ := hp151
      have hF := hF.tr k153 (by decide)
      have c157 := k153.gi kM_at0 (by decide) c121
      have c158 := k153.gi kM_at0 (by decide) c123
      obtain ⟨rfl, ⟨x154, c155, rx154, tx154⟩⟩ := hg156
      exact tk_zret hC hr rfl hlocks hK ⟨hT, hF, (Or.inl ⟨rfl, ⟨x120, c157, (show 1 ≤ x120.toInt by omega), (show x120.toInt ≤ 400 by omega)⟩, ⟨x154, c155, (show 1 ≤ x154.toInt by omega), (show x154.toInt ≤ 3205 by omega)⟩⟩)⟩ hw dX12_numberHere_25
    · have ex145 : x145.toInt = x120.toInt := by rw [← c121.symm.trans c146]
      refine lv_if_ne (tgt := 26) hx hb dX12_numberHere_13 (by decide) (fun _ => ?_) (fun c => absurd c (by decide))
      refine lv_aload_n hx hb dX12_numberHere_26 rfl (lv_at hl 0 rfl) ?_
      refine tk_geti hC hK hw hT hinX12 kM_at0 (by decide) rfl 14 (by decide) (List.mem_of_getElem? (i := 1) rfl) rfl rfl dX12_numberHere_27 (fun x159 c160 rx159 tx159 => ?_)
      refine wk_top x122 (c160.symm.trans c123) ?_
      refine lv_istore_n (lv' := [(3, .int x122), (0, .ref (ad 0)), (1, .int 0), (2, .int a2)]) hx hb dX12_numberHere_30 rfl hl (by decide) rfl (fun ls hl => ?_)
      refine lv_iconst (v := 0) hx hb dX12_numberHere_31 (by decide) ?_
      refine lv_istore (lv' := [(4, .int 0), (3, .int x122), (0, .ref (ad 0)), (1, .int 0), (2, .int a2)]) hx hb dX12_numberHere_32 hl (by decide) rfl (fun ls hl => ?_)
      exact L34 ((400 - x122.toInt).toNat + 1) x122 0 x120 x122 H locs ls w116 (show 0 ≤ a2.toInt by omega) (show a2.toInt ≤ 9 by omega) (show 0 ≤ x122.toInt by omega) (show x122.toInt ≤ 399 by omega) (show 1 ≤ x120.toInt by omega) (show x120.toInt ≤ 400 by omega) (show 0 ≤ x122.toInt by omega) (show x122.toInt ≤ 400 by omega) (Nat.lt_succ_self _) hw hT hF c121 c123 (lv_sub hl [2, 3, 4, 1, 0] rfl)
  · have g130 : (x128.toInt = x112.toInt ∨ (gi w0 1 (x112.toInt).toNat).toInt = 32) := by have q := g130; simp only [c113, c129] at q; omega
    refine lv_pop hx hb dX12_numberHere_4 rfl ?_
    refine lv_aload_n hx hb dX12_numberHere_5 rfl (lv_at hl 0 rfl) ?_
    refine lv_aload_n hx hb dX12_numberHere_6 rfl (lv_at hl 0 rfl) ?_
    refine tk_geti hC hK hw hT hinX12 kM_at0 (by decide) rfl 14 (by decide) (List.mem_of_getElem? (i := 1) rfl) rfl rfl dX12_numberHere_7 (fun x161 c162 rx161 tx161 => ?_)
    refine wk_top x128 (c162.symm.trans c129) ?_
    refine tk_Vi hC hK hw hT hA hE hSR kM_at0 (by decide) rfl (k_X12_isDigit_3 l adK adV dC dI cy ad B (by omega) (by omega) qr s1   x128 (show 1 ≤ x128.toInt by omega) (show x128.toInt ≤ 399 by omega) w116 H.size hT ) (cwV 1 hC.2.2.2.2 gX12_numberHere_X12_isDigit rfl rfl rfl (by decide +kernel) ⟨Nat.le_of_ble_eq_true rfl, Nat.le_of_ble_eq_true rfl⟩) rfl hl.1 rfl (Nat.le_of_ble_eq_true rfl) dX12_numberHere_10 (fun r163 w165 H locs hp164 hw => ?_)
    obtain ⟨rfl, hg171⟩ := hp164
    rcases hg171 with ⟨rfl, ⟨x167, c168, rx167, tx167⟩⟩ | ⟨rfl, ⟨x169, c170, rx169, tx169⟩⟩
    · have ex167 : x167.toInt = x126.toInt := by rw [← c127.symm.trans c168]
      refine lv_if_ne (tgt := 26) hx hb dX12_numberHere_13 (by decide) (fun c => absurd (by decide) c) (fun _ => ?_)
      refine lv_aload_n hx hb dX12_numberHere_16 rfl (lv_at hl 0 rfl) ?_
      refine lv_iconst (v := 0) hx hb dX12_numberHere_17 (by decide) ?_
      refine lv_aload_n hx hb dX12_numberHere_18 rfl (lv_at hl 0 rfl) ?_
      refine tk_geti hC hK hw hT hinX12 kM_at0 (by decide) rfl 14 (by decide) (List.mem_of_getElem? (i := 1) rfl) rfl rfl dX12_numberHere_19 (fun x172 c173 rx172 tx172 => ?_)
      refine wk_top x128 (c173.symm.trans c129) ?_
      refine tk_Vi hC hK hw hT hA hE hSR kM_at0 (by decide) rfl (k_X12_fails_1 l adK adV dC dI cy ad B (by omega) (by omega) qr s1   0 (by decide) (by decide) x128 (show 0 ≤ x128.toInt by omega) (show x128.toInt ≤ 400 by omega) w116 H.size hT ) (cwV 2 hC.2.2.2.2 gX12_numberHere_X12_fails rfl rfl rfl (by decide +kernel) ⟨Nat.le_of_ble_eq_true rfl, Nat.le_of_ble_eq_true rfl⟩) rfl hl.1 rfl (Nat.le_of_ble_eq_true rfl) dX12_numberHere_22 (fun r174 w176 H locs hp175 hw => ?_)
      obtain ⟨hT, k177, hg180⟩ := hp175
      have hF := hF.tr k177 (by decide)
      have c181 := k177.gi kM_at0 (by decide) c127
      have c182 := k177.gi kM_at0 (by decide) c129
      obtain ⟨rfl, ⟨x178, c179, rx178, tx178⟩⟩ := hg180
      exact tk_zret hC hr rfl hlocks hK ⟨hT, hF, (Or.inl ⟨rfl, ⟨x126, c181, (show 1 ≤ x126.toInt by omega), (show x126.toInt ≤ 400 by omega)⟩, ⟨x178, c179, (show 1 ≤ x178.toInt by omega), (show x178.toInt ≤ 3205 by omega)⟩⟩)⟩ hw dX12_numberHere_25
    · have ex169 : x169.toInt = x126.toInt := by rw [← c127.symm.trans c170]
      refine lv_if_ne (tgt := 26) hx hb dX12_numberHere_13 (by decide) (fun _ => ?_) (fun c => absurd c (by decide))
      refine lv_aload_n hx hb dX12_numberHere_26 rfl (lv_at hl 0 rfl) ?_
      refine tk_geti hC hK hw hT hinX12 kM_at0 (by decide) rfl 14 (by decide) (List.mem_of_getElem? (i := 1) rfl) rfl rfl dX12_numberHere_27 (fun x183 c184 rx183 tx183 => ?_)
      refine wk_top x128 (c184.symm.trans c129) ?_
      refine lv_istore_n (lv' := [(3, .int x128), (0, .ref (ad 0)), (1, .int 0), (2, .int a2)]) hx hb dX12_numberHere_30 rfl hl (by decide) rfl (fun ls hl => ?_)
      refine lv_iconst (v := 0) hx hb dX12_numberHere_31 (by decide) ?_
      refine lv_istore (lv' := [(4, .int 0), (3, .int x128), (0, .ref (ad 0)), (1, .int 0), (2, .int a2)]) hx hb dX12_numberHere_32 hl (by decide) rfl (fun ls hl => ?_)
      exact L34 ((400 - x128.toInt).toNat + 1) x128 0 x126 x128 H locs ls w116 (show 0 ≤ a2.toInt by omega) (show a2.toInt ≤ 9 by omega) (show 0 ≤ x128.toInt by omega) (show x128.toInt ≤ 399 by omega) (show 1 ≤ x126.toInt by omega) (show x126.toInt ≤ 400 by omega) (show 0 ≤ x128.toInt by omega) (show x128.toInt ≤ 400 by omega) (Nat.lt_succ_self _) hw hT hF c127 c129 (lv_sub hl [2, 3, 4, 1, 0] rfl)
  · obtain ⟨x135, c136, rx135, tx135⟩ := hT.rdi (lo := 0) (hi := 400) (k := 14) kM_at0 (by decide) rfl
    have g133 : (x135.toInt = x112.toInt ∨ (gi w0 1 (x112.toInt).toNat).toInt = 32) := by have q := g133; simp only [c113, c136] at q; omega
    refine lv_pop hx hb dX12_numberHere_4 rfl ?_
    refine lv_aload_n hx hb dX12_numberHere_5 rfl (lv_at hl 0 rfl) ?_
    refine lv_aload_n hx hb dX12_numberHere_6 rfl (lv_at hl 0 rfl) ?_
    refine tk_geti hC hK hw hT hinX12 kM_at0 (by decide) rfl 14 (by decide) (List.mem_of_getElem? (i := 1) rfl) rfl rfl dX12_numberHere_7 (fun x185 c186 rx185 tx185 => ?_)
    refine wk_top x135 (c186.symm.trans c136) ?_
    refine tk_Vi hC hK hw hT hA hE hSR kM_at0 (by decide) rfl (k_X12_isDigit_2 l adK adV dC dI cy ad B (by omega) (by omega) qr s1   x135 (show 0 ≤ x135.toInt by omega) (show x135.toInt ≤ 400 by omega) w116 H.size hT ) (cwV 1 hC.2.2.2.2 gX12_numberHere_X12_isDigit rfl rfl rfl (by decide +kernel) ⟨Nat.le_of_ble_eq_true rfl, Nat.le_of_ble_eq_true rfl⟩) rfl hl.1 rfl (Nat.le_of_ble_eq_true rfl) dX12_numberHere_10 (fun r187 w189 H locs hp188 hw => ?_)
    obtain ⟨rfl, hg196⟩ := hp188
    rcases hg196 with ⟨rfl, ⟨x191, c192, rx191, tx191⟩⟩ | ⟨rfl, g193, ⟨x194, c195, rx194, tx194⟩⟩
    · have ex191 : x191.toInt = x131.toInt := by rw [← c132.symm.trans c192]
      refine lv_if_ne (tgt := 26) hx hb dX12_numberHere_13 (by decide) (fun c => absurd (by decide) c) (fun _ => ?_)
      refine lv_aload_n hx hb dX12_numberHere_16 rfl (lv_at hl 0 rfl) ?_
      refine lv_iconst (v := 0) hx hb dX12_numberHere_17 (by decide) ?_
      refine lv_aload_n hx hb dX12_numberHere_18 rfl (lv_at hl 0 rfl) ?_
      refine tk_geti hC hK hw hT hinX12 kM_at0 (by decide) rfl 14 (by decide) (List.mem_of_getElem? (i := 1) rfl) rfl rfl dX12_numberHere_19 (fun x197 c198 rx197 tx197 => ?_)
      refine wk_top x135 (c198.symm.trans c136) ?_
      refine tk_Vi hC hK hw hT hA hE hSR kM_at0 (by decide) rfl (k_X12_fails_1 l adK adV dC dI cy ad B (by omega) (by omega) qr s1   0 (by decide) (by decide) x135 (show 0 ≤ x135.toInt by omega) (show x135.toInt ≤ 400 by omega) w116 H.size hT ) (cwV 2 hC.2.2.2.2 gX12_numberHere_X12_fails rfl rfl rfl (by decide +kernel) ⟨Nat.le_of_ble_eq_true rfl, Nat.le_of_ble_eq_true rfl⟩) rfl hl.1 rfl (Nat.le_of_ble_eq_true rfl) dX12_numberHere_22 (fun r199 w201 H locs hp200 hw => ?_)
      obtain ⟨hT, k202, hg205⟩ := hp200
      have hF := hF.tr k202 (by decide)
      have c206 := k202.gi kM_at0 (by decide) c132
      have c207 := k202.gi kM_at0 (by decide) c136
      obtain ⟨rfl, ⟨x203, c204, rx203, tx203⟩⟩ := hg205
      exact tk_zret hC hr rfl hlocks hK ⟨hT, hF, (Or.inr (Or.inl ⟨rfl, ⟨x131, c206, (show 0 ≤ x131.toInt by omega), (show x131.toInt ≤ 400 by omega)⟩, ⟨x203, c204, (show 1 ≤ x203.toInt by omega), (show x203.toInt ≤ 3205 by omega)⟩⟩))⟩ hw dX12_numberHere_25
    · have ex194 : x194.toInt = x131.toInt := by rw [← c132.symm.trans c195]
      refine lv_if_ne (tgt := 26) hx hb dX12_numberHere_13 (by decide) (fun _ => ?_) (fun c => absurd c (by decide))
      refine lv_aload_n hx hb dX12_numberHere_26 rfl (lv_at hl 0 rfl) ?_
      refine tk_geti hC hK hw hT hinX12 kM_at0 (by decide) rfl 14 (by decide) (List.mem_of_getElem? (i := 1) rfl) rfl rfl dX12_numberHere_27 (fun x208 c209 rx208 tx208 => ?_)
      refine wk_top x135 (c209.symm.trans c136) ?_
      refine lv_istore_n (lv' := [(3, .int x135), (0, .ref (ad 0)), (1, .int 0), (2, .int a2)]) hx hb dX12_numberHere_30 rfl hl (by decide) rfl (fun ls hl => ?_)
      refine lv_iconst (v := 0) hx hb dX12_numberHere_31 (by decide) ?_
      refine lv_istore (lv' := [(4, .int 0), (3, .int x135), (0, .ref (ad 0)), (1, .int 0), (2, .int a2)]) hx hb dX12_numberHere_32 hl (by decide) rfl (fun ls hl => ?_)
      exact L34 ((400 - x135.toInt).toNat + 1) x135 0 x131 x135 H locs ls w116 (show 0 ≤ a2.toInt by omega) (show a2.toInt ≤ 9 by omega) (show 0 ≤ x135.toInt by omega) (show x135.toInt ≤ 399 by omega) (show 1 ≤ x131.toInt by omega) (show x131.toInt ≤ 400 by omega) (show 0 ≤ x135.toInt by omega) (show x135.toInt ≤ 400 by omega) (Nat.lt_succ_self _) hw hT hF c132 c136 (lv_sub hl [2, 3, 4, 1, 0] rfl)
abbrev P_X12_in_8 (ad : Nat → Nat) (cy : Nat → ClassId) (B : Int) (qr : Nat) (s1 : Int) (a0 : Int64) (w0 : va_W) : Int32 → va_W → Prop := fun r u => w0 = u ∧ ((r = 0) ∨ (r = 1 ∧ 1 ≤ a0.toInt ∧ a0.toInt ≤ 9))
set_option maxHeartbeats 4000000 in
set_option maxRecDepth 100000 in
theorem k_X12_in_8 (l : Launch) (adK adV : Nat → Nat) (dC : Nat → ClassId) (dI : Nat → Nat → Nat) (cy : Nat → ClassId) (ad : Nat → Nat) (B : Int) (hB0 : 100000 ≤ B) (hB1 : B ≤ 1073741824) (qr : Nat) (s1 : Int)  (a0 : Int64) (ra0 : (-2147483648) ≤ a0.toInt) (ta0 : a0.toInt ≤ 2147483647) (w0 : va_W) (sz : Nat) (hT : TW ksM ad cy B qr 12 w0)  : Met l yX12_in wsX12_in ({ frames := 1, cells := 0, slots := 0, locals := 12 }) (va_Pc [.long a0, .long 1, .long 9] (wpreS adK adV dC dI cy sz w0)) (va_Qi (P_X12_in_8 ad cy B qr s1 a0 w0) (fun u : va_W => wpost dC dI cy (va_A w0 sz) u) (va_A w0 sz)) 0 0 (va_A w0 sz) := by
  refine Met.ofW (cc := cX12_in) (maxL := 6) (ret := (some .boolean)) (by decide) rfl ?_
  intro p e s m args below meth c s₁ Bk hml hv
  obtain ⟨rfl, ⟨hsz, hP, hK, hD0⟩, hE, hSR⟩ := hv
  have hx := Bk.exec
  have hb := Bk.bytes
  have hr := Bk.returns
  have hlocks := Bk.notSynchronized
  have hC : CallFix p m c cX12_in 6 s _ wsX12_in RX12 := ⟨hx, hb, hml, findClass_of_methodNamed Bk.named, atoms_spec (ws := wsX12_in) Bk.pre⟩
  subst hsz
  have hD := hD0.self (sz := s.heap.size)
  generalize hAe : va_A w0 s.heap.size = A at hD hE ⊢
  have hA : ∀ q : Nat, s.heap.size ≤ q → A q := fun q h => by rw [← hAe]; exact Or.inr h
  have hw : Wd dC dI A s.heap s.heap [] w0 := ⟨hP, hD, va_S.rf⟩
  have hF : FE ksM ([] : List (Nat × Nat × Nat)) w0 w0 := FE.rf
  have hl := lv_entry ([.long a0, .long 1, .long 9]) (n := 6) (Nat.le_of_ble_eq_true rfl)
  rw [lg_entry_eq]
  generalize (lg_sl ([.long a0, .long 1, .long 9]) ++ List.replicate (6 - (lg_sl ([.long a0, .long 1, .long 9])).length) Slot.unset).toArray = ls at hl ⊢
  have hl : lv_has ls 6 [(0, .long a0), (2, .long 1), (4, .long 9)] := hl
  generalize hloc : ([] : List Loc) = locs at hw ⊢
  have J17 : ∀ (H : Heap) (locs : List Loc) (ls : Array Slot), (-2147483648) ≤ a0.toInt → a0.toInt ≤ 2147483647 → Wd dC dI A s.heap H locs w0 → lv_has ls 6 [(0, .long a0), (2, .long 1), (4, .long 9)] → W p l e ({ frames := 1, cells := 0, slots := 0, locals := 12 }) s m (List.toArray [.long a0, .long 1, .long 9]) below meth c H locs 0 0 (MQ below (va_Qi (P_X12_in_8 ad cy B qr s1 a0 w0) (fun u : va_W => wpost dC dI cy A u) A) (List.toArray [.long a0, .long 1, .long 9]) s 0 0 A) (F0 m 17 ls []) := by
    intro H locs ls r1 t2 hw hl
    refine lv_iconst (v := 0) hx hb dX12_in_17 (by decide) ?_
    exact tk_zret hC hr rfl hlocks hK ⟨rfl, (Or.inl rfl)⟩ hw dX12_in_18
  refine lv_lload_n hx hb dX12_in_0 rfl (lv_at hl 0 rfl) ?_
  refine lv_lload_n hx hb dX12_in_1 rfl (lv_at hl 1 rfl) ?_
  refine W.lcmp hx hb dX12_in_2 ?_
  refine lv_if_lt (tgt := 17) hx hb dX12_in_3 (by decide) (fun c3 => ?_) (fun c3 => ?_)
  · have c3 : a0.toInt < (1 : Int) := wk_cltT c3
    exact J17  s.heap locs ls  (show (-2147483648) ≤ a0.toInt by omega) (show a0.toInt ≤ 2147483647 by omega)  hw   (lv_sub hl [0, 1, 2] rfl)
  · have c3 : (1 : Int) ≤ a0.toInt := wk_cltF c3
    refine lv_lload_n hx hb dX12_in_6 rfl (lv_at hl 0 rfl) ?_
    refine lv_lload hx hb dX12_in_7 (lv_at hl 2 rfl) ?_
    refine W.lcmp hx hb dX12_in_9 ?_
    refine lv_if_gt (tgt := 17) hx hb dX12_in_10 (by decide) (fun c4 => ?_) (fun c4 => ?_)
    · have c4 : (9 : Int) < a0.toInt := wk_cgtT c4
      exact J17  s.heap locs ls  (show (-2147483648) ≤ a0.toInt by omega) (show a0.toInt ≤ 2147483647 by omega)  hw   (lv_sub hl [0, 1, 2] rfl)
    · have c4 : a0.toInt ≤ (9 : Int) := wk_cgtF c4
      refine lv_iconst (v := 1) hx hb dX12_in_13 (by decide) ?_
      refine lv_goto (tgt := 18) hx hb dX12_in_14 (by decide) ?_
      exact tk_zret hC hr rfl hlocks hK ⟨rfl, (Or.inr ⟨rfl, (show 1 ≤ a0.toInt by omega), (show a0.toInt ≤ 9 by omega)⟩)⟩ hw dX12_in_18
abbrev P_X12_numberHere_8 (ad : Nat → Nat) (cy : Nat → ClassId) (B : Int) (qr : Nat) (s1 : Int)  (w0 : va_W) : Int32 → va_W → Prop := fun r u => TW ksM ad cy B qr 12 u ∧ FE ksM [(12, 14, 14), (12, 15, 15), (12, 16, 16)] w0 u ∧ ((r = 0 ∧ (∃ y : Int32, gi u 0 1 = y ∧ 1 ≤ y.toInt ∧ y.toInt ≤ 400) ∧ (∃ y : Int32, gi u 0 15 = y ∧ 1 ≤ y.toInt ∧ y.toInt ≤ 3205)) ∨ (r = 0 ∧ (∃ y : Int32, gi u 0 1 = y ∧ 0 ≤ y.toInt ∧ y.toInt ≤ 400) ∧ (∃ y : Int32, gi u 0 15 = y ∧ 1 ≤ y.toInt ∧ y.toInt ≤ 3205)) ∨ (r = 1 ∧ (∃ y : Int32, gi u 0 1 = y ∧ 1 ≤ y.toInt ∧ y.toInt ≤ 400) ∧ (∃ y : Int32, gi u 0 16 = y ∧ 1 ≤ y.toInt ∧ y.toInt ≤ 9)))
set_option maxHeartbeats 4000000 in
set_option maxRecDepth 100000 in
theorem k_X12_numberHere_8 (l : Launch) (adK adV : Nat → Nat) (dC : Nat → ClassId) (dI : Nat → Nat → Nat) (cy : Nat → ClassId) (ad : Nat → Nat) (B : Int) (hB0 : 100000 ≤ B) (hB1 : B ≤ 1073741824) (qr : Nat) (s1 : Int)   (w0 : va_W) (sz : Nat) (hT : TW ksM ad cy B qr 12 w0)  : Met l yX12_numberHere wsX12_numberHere ({ frames := 2, cells := 0, slots := 0, locals := 37 }) (va_Pc [.ref (ad 0), .int 1, .int 9] (wpreS adK adV dC dI cy sz w0)) (va_Qi (P_X12_numberHere_8 ad cy B qr s1  w0) (fun u : va_W => wpost dC dI cy (va_A w0 sz) u) (va_A w0 sz)) 0 0 (va_A w0 sz) := by
  refine Met.ofW (cc := cX12_numberHere) (maxL := 5) (ret := (some .boolean)) (by decide) rfl ?_
  intro p e s m args below meth c s₁ Bk hml hv
  obtain ⟨rfl, ⟨hsz, hP, hK, hD0⟩, hE, hSR⟩ := hv
  have hx := Bk.exec
  have hb := Bk.bytes
  have hr := Bk.returns
  have hlocks := Bk.notSynchronized
  have hC : CallFix p m c cX12_numberHere 5 s _ wsX12_numberHere RX12 := ⟨hx, hb, hml, findClass_of_methodNamed Bk.named, atoms_spec (ws := wsX12_numberHere) Bk.pre⟩
  subst hsz
  have hD := hD0.self (sz := s.heap.size)
  generalize hAe : va_A w0 s.heap.size = A at hD hE ⊢
  have hA : ∀ q : Nat, s.heap.size ≤ q → A q := fun q h => by rw [← hAe]; exact Or.inr h
  have hw : Wd dC dI A s.heap s.heap [] w0 := ⟨hP, hD, va_S.rf⟩
  have hF : FE ksM [(12, 14, 14), (12, 15, 15), (12, 16, 16)] w0 w0 := FE.rf
  have hl := lv_entry ([.ref (ad 0), .int 1, .int 9]) (n := 5) (Nat.le_of_ble_eq_true rfl)
  rw [lg_entry_eq]
  generalize (lg_sl ([.ref (ad 0), .int 1, .int 9]) ++ List.replicate (5 - (lg_sl ([.ref (ad 0), .int 1, .int 9])).length) Slot.unset).toArray = ls at hl ⊢
  have hl : lv_has ls 5 [(0, .ref (ad 0)), (1, .int 1), (2, .int 9)] := hl
  generalize hloc : ([] : List Loc) = locs at hw ⊢
  have hinX12 : ∀ w ∈ u_ws RX12 TX12 42, w ∈ wsX12_numberHere := fun _ h => List.mem_cons_of_mem _ (List.mem_append_right _ (h))
  have J126 : ∀ (v126_3 : Int32) (v126_4 : Int32) (f126_0_1 : Int32) (f126_0_14 : Int32) (f126_0_16 : Int32) (H : Heap) (locs : List Loc) (ls : Array Slot) (w1 : va_W), 0 ≤ v126_3.toInt → v126_3.toInt ≤ 399 → 1 ≤ v126_4.toInt → v126_4.toInt ≤ 9 → 1 ≤ f126_0_1.toInt → f126_0_1.toInt ≤ 400 → 0 ≤ f126_0_14.toInt → f126_0_14.toInt ≤ 400 → 1 ≤ f126_0_16.toInt → f126_0_16.toInt ≤ 9 → Wd dC dI A s.heap H locs w1 → TW ksM ad cy B qr 12 w1 → FE ksM [(12, 14, 14), (12, 15, 15), (12, 16, 16)] w0 w1 → gi w1 0 1 = f126_0_1 → gi w1 0 14 = f126_0_14 → gi w1 0 16 = f126_0_16 → lv_has ls 5 [(0, .ref (ad 0)), (1, .int 1), (2, .int 9), (3, .int v126_3), (4, .int v126_4)] → W p l e ({ frames := 2, cells := 0, slots := 0, locals := 37 }) s m (List.toArray [.ref (ad 0), .int 1, .int 9]) below meth c H locs 0 0 (MQ below (va_Qi (P_X12_numberHere_8 ad cy B qr s1  w0) (fun u : va_W => wpost dC dI cy A u) A) (List.toArray [.ref (ad 0), .int 1, .int 9]) s 0 0 A) (F0 m 126 ls []) := by
    intro v126_3 v126_4 f126_0_1 f126_0_14 f126_0_16 H locs ls w1 r2 t3 r4 t5 r6 t7 r9 t10 r12 t13 hw hT hF c8 c11 c14 hl
    refine lv_iconst (v := 1) hx hb dX12_numberHere_126 (by decide) ?_
    refine lv_goto (tgt := 131) hx hb dX12_numberHere_127 (by decide) ?_
    exact tk_zret hC hr rfl hlocks hK ⟨hT, hF, (Or.inr (Or.inr ⟨rfl, ⟨f126_0_1, c8, (show 1 ≤ f126_0_1.toInt by omega), (show f126_0_1.toInt ≤ 400 by omega)⟩, ⟨f126_0_16, c14, (show 1 ≤ f126_0_16.toInt by omega), (show f126_0_16.toInt ≤ 9 by omega)⟩⟩))⟩ hw dX12_numberHere_131
  have J117 : ∀ (v117_3 : Int32) (v117_4 : Int32) (f117_0_1 : Int32) (f117_0_14 : Int32) (f117_0_16 : Int32) (H : Heap) (locs : List Loc) (ls : Array Slot) (w15 : va_W), 0 ≤ v117_3.toInt → v117_3.toInt ≤ 399 → 1 ≤ f117_0_1.toInt → f117_0_1.toInt ≤ 400 → 0 ≤ f117_0_14.toInt → f117_0_14.toInt ≤ 400 → Wd dC dI A s.heap H locs w15 → TW ksM ad cy B qr 12 w15 → FE ksM [(12, 14, 14), (12, 15, 15), (12, 16, 16)] w0 w15 → gi w15 0 1 = f117_0_1 → gi w15 0 14 = f117_0_14 → gi w15 0 16 = f117_0_16 → lv_has ls 5 [(0, .ref (ad 0)), (1, .int 1), (2, .int 9), (3, .int v117_3), (4, .int v117_4)] → W p l e ({ frames := 2, cells := 0, slots := 0, locals := 37 }) s m (List.toArray [.ref (ad 0), .int 1, .int 9]) below meth c H locs 0 0 (MQ below (va_Qi (P_X12_numberHere_8 ad cy B qr s1  w0) (fun u : va_W => wpost dC dI cy A u) A) (List.toArray [.ref (ad 0), .int 1, .int 9]) s 0 0 A) (F0 m 117 ls []) := by
    intro v117_3 v117_4 f117_0_1 f117_0_14 f117_0_16 H locs ls w15 r16 t17 r18 t19 r21 t22 hw hT hF c20 c23 c24 hl
    refine lv_aload_n hx hb dX12_numberHere_117 rfl (lv_at hl 0 rfl) ?_
    refine lv_iconst (v := 1) hx hb dX12_numberHere_118 (by decide) ?_
    refine lv_iload_n hx hb dX12_numberHere_119 rfl (lv_at hl 3 rfl) ?_
    refine tk_Vi hC hK hw hT hA hE hSR kM_at0 (by decide) rfl (k_X12_fails_1 l adK adV dC dI cy ad B (by omega) (by omega) qr s1   1 (by decide) (by decide) v117_3 (show 0 ≤ v117_3.toInt by omega) (show v117_3.toInt ≤ 400 by omega) w15 H.size hT ) (cwV 2 hC.2.2.2.2 gX12_numberHere_X12_fails rfl rfl rfl (by decide +kernel) ⟨Nat.le_of_ble_eq_true rfl, Nat.le_of_ble_eq_true rfl⟩) rfl hl.1 rfl (Nat.le_of_ble_eq_true rfl) dX12_numberHere_120 (fun r25 w27 H locs hp26 hw => ?_)
    obtain ⟨hT, k28, hg31⟩ := hp26
    have hF := hF.tr k28 (by decide)
    have c32 := k28.gi kM_at0 (by decide) c20
    have c33 := k28.gi kM_at0 (by decide) c23
    have c34 := k28.gi kM_at0 (by decide) c24
    obtain ⟨rfl, ⟨x29, c30, rx29, tx29⟩⟩ := hg31
    refine lv_if_eq (tgt := 130) hx hb dX12_numberHere_123 (by decide) (fun _ => ?_) (fun c => absurd (by decide) c)
    refine lv_iconst (v := 0) hx hb dX12_numberHere_130 (by decide) ?_
    exact tk_zret hC hr rfl hlocks hK ⟨hT, hF, (Or.inl ⟨rfl, ⟨f117_0_1, c32, (show 1 ≤ f117_0_1.toInt by omega), (show f117_0_1.toInt ≤ 400 by omega)⟩, ⟨x29, c30, (show 1 ≤ x29.toInt by omega), (show x29.toInt ≤ 3205 by omega)⟩⟩)⟩ hw dX12_numberHere_131
  have L34 : ∀ (n34 : Nat) (v34_3 : Int32) (v34_4 : Int32) (f34_0_1 : Int32) (f34_0_14 : Int32) (H : Heap) (locs : List Loc) (ls : Array Slot) (w35 : va_W), 0 ≤ v34_3.toInt → v34_3.toInt ≤ 399 → 1 ≤ f34_0_1.toInt → f34_0_1.toInt ≤ 400 → 0 ≤ f34_0_14.toInt → f34_0_14.toInt ≤ 400 → (400 - f34_0_14.toInt).toNat < n34 → Wd dC dI A s.heap H locs w35 → TW ksM ad cy B qr 12 w35 → FE ksM [(12, 14, 14), (12, 15, 15), (12, 16, 16)] w0 w35 → gi w35 0 1 = f34_0_1 → gi w35 0 14 = f34_0_14 → lv_has ls 5 [(0, .ref (ad 0)), (1, .int 1), (2, .int 9), (3, .int v34_3), (4, .int v34_4)] → W p l e ({ frames := 2, cells := 0, slots := 0, locals := 37 }) s m (List.toArray [.ref (ad 0), .int 1, .int 9]) below meth c H locs 0 0 (MQ below (va_Qi (P_X12_numberHere_8 ad cy B qr s1  w0) (fun u : va_W => wpost dC dI cy A u) A) (List.toArray [.ref (ad 0), .int 1, .int 9]) s 0 0 A) (F0 m 34 ls []) := by
    intro n34
    induction n34 with
    | zero => intro v34_3 v34_4 f34_0_1 f34_0_14 H locs ls w35 r36 t37 r38 t39 r41 t42 hm34 hw hT hF c40 c43 hl; omega
    | succ n34 ih34 =>
      intro v34_3 v34_4 f34_0_1 f34_0_14 H locs ls w35 r36 t37 r38 t39 r41 t42 hm34 hw hT hF c40 c43 hl
      have J75 : ∀ (v75_4 : Int32) (H : Heap) (locs : List Loc) (ls : Array Slot) (w44 : va_W), 0 ≤ v34_3.toInt → v34_3.toInt ≤ 399 → 1 ≤ f34_0_1.toInt → f34_0_1.toInt ≤ 400 → 0 ≤ f34_0_14.toInt → f34_0_14.toInt ≤ 399 → Wd dC dI A s.heap H locs w44 → TW ksM ad cy B qr 12 w44 → FE ksM [(12, 14, 14), (12, 15, 15), (12, 16, 16)] w0 w44 → gi w44 0 1 = f34_0_1 → gi w44 0 14 = f34_0_14 → lv_has ls 5 [(0, .ref (ad 0)), (1, .int 1), (2, .int 9), (3, .int v34_3), (4, .int v75_4)] → W p l e ({ frames := 2, cells := 0, slots := 0, locals := 37 }) s m (List.toArray [.ref (ad 0), .int 1, .int 9]) below meth c H locs 0 0 (MQ below (va_Qi (P_X12_numberHere_8 ad cy B qr s1  w0) (fun u : va_W => wpost dC dI cy A u) A) (List.toArray [.ref (ad 0), .int 1, .int 9]) s 0 0 A) (F0 m 75 ls []) := by
        intro v75_4 H locs ls w44 r45 t46 r47 t48 r50 t51 hw hT hF c49 c52 hl
        refine lv_aload_n hx hb dX12_numberHere_75 rfl (lv_at hl 0 rfl) ?_
        refine lv_dup hx hb dX12_numberHere_76 rfl ?_
        refine tk_geti hC hK hw hT hinX12 kM_at0 (by decide) rfl 14 (by decide) (List.mem_of_getElem? (i := 1) rfl) rfl rfl dX12_numberHere_77 (fun x53 c54 rx53 tx53 => ?_)
        refine wk_top f34_0_14 (c54.symm.trans c52) ?_
        refine lv_iconst (v := 1) hx hb dX12_numberHere_80 (by decide) ?_
        refine lv_iadd hx hb dX12_numberHere_81 ?_
        refine lv_topi (fun x55 ex55 => ?_)
        have ex55 : x55.toInt = f34_0_14.toInt + (1 : Int) := by rw [ex55]; exact wk_add (show (-2147483648) ≤ f34_0_14.toInt + (1 : Int) by omega) (show f34_0_14.toInt + (1 : Int) ≤ 2147483647 by omega)
        refine tk_puti hC hK hw hT hinX12 tyX12_ok nmX12 kM_at0 (by decide) rfl rfl 14 (by decide) (List.mem_of_getElem? (i := 1) rfl) rfl rfl rfl rfl (show 0 ≤ x55.toInt by omega) (show x55.toInt ≤ 400 by omega) dX12_numberHere_82 (fun H locs w56 hw hT k58 c57 => ?_)
        have hF := hF.put kM_at0 (k := 14) (by decide) k58
        have c59 := k58.gi (Or.inr (by decide)) c49
        refine lv_goto (tgt := 34) hx hb dX12_numberHere_85 (by decide) ?_
        exact ih34 v34_3 v75_4 f34_0_1 x55 H locs ls w56 (show 0 ≤ v34_3.toInt by omega) (show v34_3.toInt ≤ 399 by omega) (show 1 ≤ f34_0_1.toInt by omega) (show f34_0_1.toInt ≤ 400 by omega) (show 0 ≤ x55.toInt by omega) (show x55.toInt ≤ 400 by omega) (show (400 - x55.toInt).toNat < n34 by omega) hw hT hF c59 c57 (lv_sub hl [0, 1, 2, 3, 4] rfl)
      refine lv_aload_n hx hb dX12_numberHere_34 rfl (lv_at hl 0 rfl) ?_
      refine lv_aload_n hx hb dX12_numberHere_35 rfl (lv_at hl 0 rfl) ?_
      refine tk_geti hC hK hw hT hinX12 kM_at0 (by decide) rfl 14 (by decide) (List.mem_of_getElem? (i := 1) rfl) rfl rfl dX12_numberHere_36 (fun x60 c61 rx60 tx60 => ?_)
      refine wk_top f34_0_14 (c61.symm.trans c43) ?_
      refine tk_Vi hC hK hw hT hA hE hSR kM_at0 (by decide) rfl (k_X12_isDigit_2 l adK adV dC dI cy ad B (by omega) (by omega) qr s1   f34_0_14 (show 0 ≤ f34_0_14.toInt by omega) (show f34_0_14.toInt ≤ 400 by omega) w35 H.size hT ) (cwV 1 hC.2.2.2.2 gX12_numberHere_X12_isDigit rfl rfl rfl (by decide +kernel) ⟨Nat.le_of_ble_eq_true rfl, Nat.le_of_ble_eq_true rfl⟩) rfl hl.1 rfl (Nat.le_of_ble_eq_true rfl) dX12_numberHere_39 (fun r62 w64 H locs hp63 hw => ?_)
      obtain ⟨rfl, hg71⟩ := hp63
      rcases hg71 with ⟨rfl, ⟨x66, c67, rx66, tx66⟩⟩ | ⟨rfl, g68, ⟨x69, c70, rx69, tx69⟩⟩
      · have ex66 : x66.toInt = f34_0_1.toInt := by rw [← c40.symm.trans c67]
        refine lv_if_eq (tgt := 88) hx hb dX12_numberHere_42 (by decide) (fun _ => ?_) (fun c => absurd (by decide) c)
        refine lv_aload_n hx hb dX12_numberHere_88 rfl (lv_at hl 0 rfl) ?_
        refine lv_iload hx hb dX12_numberHere_89 (lv_at hl 4 rfl) ?_
        refine tk_puti hC hK hw hT hinX12 tyX12_ok nmX12 kM_at0 (by decide) rfl rfl 16 (by decide) (List.mem_of_getElem? (i := 3) rfl) rfl rfl rfl rfl (wk_i32 v34_4).1 (wk_i32 v34_4).2 dX12_numberHere_91 (fun H locs w72 hw hT k74 c73 => ?_)
        have hF := hF.put kM_at0 (k := 16) (by decide) k74
        have c75 := k74.gi (Or.inr (by decide)) c40
        have c76 := k74.gi (Or.inr (by decide)) c43
        refine lv_aload_n hx hb dX12_numberHere_94 rfl (lv_at hl 0 rfl) ?_
        refine tk_geti hC hK hw hT hinX12 kM_at0 (by decide) rfl 14 (by decide) (List.mem_of_getElem? (i := 1) rfl) rfl rfl dX12_numberHere_95 (fun x77 c78 rx77 tx77 => ?_)
        refine wk_top f34_0_14 (c78.symm.trans c76) ?_
        refine lv_iload_n hx hb dX12_numberHere_98 rfl (lv_at hl 3 rfl) ?_
        refine lv_isub hx hb dX12_numberHere_99 ?_
        refine lv_topi (fun x79 ex79 => ?_)
        have ex79 : x79.toInt = f34_0_14.toInt - v34_3.toInt := by rw [ex79]; exact wk_sub (show (-2147483648) ≤ f34_0_14.toInt - v34_3.toInt by omega) (show f34_0_14.toInt - v34_3.toInt ≤ 2147483647 by omega)
        refine lv_iconst (v := 5) hx hb dX12_numberHere_100 (by decide) ?_
        refine lv_icmp_gt (tgt := 117) hx hb dX12_numberHere_101 (by decide) (fun c80 => ?_) (fun c80 => ?_)
        · have c80 : (5 : Int) < x79.toInt := wk_lt.mp c80
          exact J117 v34_3 v34_4 f34_0_1 f34_0_14 v34_4 H locs ls w72 (show 0 ≤ v34_3.toInt by omega) (show v34_3.toInt ≤ 399 by omega) (show 1 ≤ f34_0_1.toInt by omega) (show f34_0_1.toInt ≤ 400 by omega) (show 0 ≤ f34_0_14.toInt by omega) (show f34_0_14.toInt ≤ 400 by omega)  hw hT hF c75 c76 c73 (lv_sub hl [0, 1, 2, 3, 4] rfl)
        · have c80 : x79.toInt ≤ (5 : Int) := wk_ltF c80
          refine lv_iload hx hb dX12_numberHere_104 (lv_at hl 4 rfl) ?_
          refine lv_i2l hx hb dX12_numberHere_106 rfl ?_
          refine lv_topl (fun x81 ex81 => ?_)
          have ex81 : x81.toInt = v34_4.toInt := by rw [ex81]; exact wk_i2l _
          have bx81 := wk_i32 v34_4
          refine lv_iload_n hx hb dX12_numberHere_107 rfl (lv_at hl 1 rfl) ?_
          refine lv_i2l hx hb dX12_numberHere_108 rfl ?_
          refine wk_topl 1 (by decide) ?_
          refine lv_iload_n hx hb dX12_numberHere_109 rfl (lv_at hl 2 rfl) ?_
          refine lv_i2l hx hb dX12_numberHere_110 rfl ?_
          refine wk_topl 9 (by decide) ?_
          refine tk_Si hC hK hw hT hA hE hSR (k_X12_in_8 l adK adV dC dI cy ad B (by omega) (by omega) qr s1   x81 (show (-2147483648) ≤ x81.toInt by omega) (show x81.toInt ≤ 2147483647 by omega) w72 H.size hT ) (va_cwS 3 hC.2.2.2.2 gX12_numberHere_X12_in rfl rfl rfl (by decide +kernel) ⟨Nat.le_of_ble_eq_true rfl, Nat.le_of_ble_eq_true rfl⟩) rfl hl.1 rfl (Nat.le_of_ble_eq_true rfl) dX12_numberHere_111 (fun r82 w84 H locs hp83 hw => ?_)
          obtain ⟨rfl, hg88⟩ := hp83
          rcases hg88 with rfl | ⟨rfl, g86, g87⟩
          · refine lv_if_ne (tgt := 126) hx hb dX12_numberHere_114 (by decide) (fun c => absurd (by decide) c) (fun _ => ?_)
            exact J117 v34_3 v34_4 f34_0_1 f34_0_14 v34_4 H locs ls w72 (show 0 ≤ v34_3.toInt by omega) (show v34_3.toInt ≤ 399 by omega) (show 1 ≤ f34_0_1.toInt by omega) (show f34_0_1.toInt ≤ 400 by omega) (show 0 ≤ f34_0_14.toInt by omega) (show f34_0_14.toInt ≤ 400 by omega)  hw hT hF c75 c76 c73 (lv_sub hl [0, 1, 2, 3, 4] rfl)
          · refine lv_if_ne (tgt := 126) hx hb dX12_numberHere_114 (by decide) (fun _ => ?_) (fun c => absurd c (by decide))
            exact J126 v34_3 v34_4 f34_0_1 f34_0_14 v34_4 H locs ls w72 (show 0 ≤ v34_3.toInt by omega) (show v34_3.toInt ≤ 399 by omega) (show 1 ≤ v34_4.toInt by omega) (show v34_4.toInt ≤ 9 by omega) (show 1 ≤ f34_0_1.toInt by omega) (show f34_0_1.toInt ≤ 400 by omega) (show 0 ≤ f34_0_14.toInt by omega) (show f34_0_14.toInt ≤ 400 by omega) (show 1 ≤ v34_4.toInt by omega) (show v34_4.toInt ≤ 9 by omega)  hw hT hF c75 c76 c73 (lv_sub hl [0, 1, 2, 3, 4] rfl)
      · have ex69 : x69.toInt = f34_0_1.toInt := by rw [← c40.symm.trans c70]
        refine lv_if_eq (tgt := 88) hx hb dX12_numberHere_42 (by decide) (fun c => absurd c (by decide)) (fun _ => ?_)
        refine lv_aload_n hx hb dX12_numberHere_45 rfl (lv_at hl 0 rfl) ?_
        refine tk_geti hC hK hw hT hinX12 kM_at0 (by decide) rfl 14 (by decide) (List.mem_of_getElem? (i := 1) rfl) rfl rfl dX12_numberHere_46 (fun x89 c90 rx89 tx89 => ?_)
        refine wk_top f34_0_14 (c90.symm.trans c43) ?_
        refine lv_iload_n hx hb dX12_numberHere_49 rfl (lv_at hl 3 rfl) ?_
        refine lv_isub hx hb dX12_numberHere_50 ?_
        refine lv_topi (fun x91 ex91 => ?_)
        have ex91 : x91.toInt = f34_0_14.toInt - v34_3.toInt := by rw [ex91]; exact wk_sub (show (-2147483648) ≤ f34_0_14.toInt - v34_3.toInt by omega) (show f34_0_14.toInt - v34_3.toInt ≤ 2147483647 by omega)
        refine lv_iconst (v := 5) hx hb dX12_numberHere_51 (by decide) ?_
        refine lv_icmp_ge (tgt := 75) hx hb dX12_numberHere_52 (by decide) (fun c92 => ?_) (fun c92 => ?_)
        · have c92 : (5 : Int) ≤ x91.toInt := wk_le.mp c92
          exact J75 v34_4 H locs ls w35 (show 0 ≤ v34_3.toInt by omega) (show v34_3.toInt ≤ 399 by omega) (show 1 ≤ f34_0_1.toInt by omega) (show f34_0_1.toInt ≤ 400 by omega) (show 0 ≤ f34_0_14.toInt by omega) (show f34_0_14.toInt ≤ 399 by omega)  hw hT hF c40 c43 (lv_sub hl [0, 1, 2, 3, 4] rfl)
        · have c92 : x91.toInt < (5 : Int) := wk_leF c92
          refine lv_bipush (v := 10) hx hb dX12_numberHere_55 (by decide) ?_
          refine lv_iload hx hb dX12_numberHere_57 (lv_at hl 4 rfl) ?_
          refine lv_imul hx hb dX12_numberHere_59 ?_
          have nx93 := wk_i32 v34_4
          refine lv_topi (fun x94 ex94 => ?_)
          refine lv_aload_n hx hb dX12_numberHere_60 rfl (lv_at hl 0 rfl) ?_
          refine tk_getA hC hK hw hT hinX12 kM_at0 (by decide) rfl 0 (by decide) (List.mem_of_getElem? (i := 2) rfl) rfl rfl dX12_numberHere_61 ?_
          refine lv_aload_n hx hb dX12_numberHere_64 rfl (lv_at hl 0 rfl) ?_
          refine tk_geti hC hK hw hT hinX12 kM_at0 (by decide) rfl 14 (by decide) (List.mem_of_getElem? (i := 1) rfl) rfl rfl dX12_numberHere_65 (fun x95 c96 rx95 tx95 => ?_)
          refine wk_top f34_0_14 (c96.symm.trans c43) ?_
          refine tk_bald hC hK hw hT kM_at1 rfl rfl (show 0 ≤ f34_0_14.toInt by omega) (show f34_0_14.toInt < 400 by omega) dX12_numberHere_68 (fun x97 c98 rx97 tx97 => ?_)
          have c98 : gi w35 1 (f34_0_14.toInt).toNat = x97 := (congrArg (gi w35 1) (congrArg Int.toNat (show f34_0_14.toInt = f34_0_14.toInt by omega))).trans c98
          refine lv_iadd hx hb dX12_numberHere_69 ?_
          have nx99 := wk_i32 x94
          refine lv_topi (fun x100 ex100 => ?_)
          refine lv_bipush (v := 48) hx hb dX12_numberHere_70 (by decide) ?_
          refine lv_isub hx hb dX12_numberHere_72 ?_
          have nx101 := wk_i32 x100
          refine lv_topi (fun x102 ex102 => ?_)
          refine lv_istore (lv' := [(4, .int x102), (0, .ref (ad 0)), (1, .int 1), (2, .int 9), (3, .int v34_3)]) hx hb dX12_numberHere_73 hl (by decide) rfl (fun ls hl => ?_)
          exact J75 x102 H locs ls w35 (show 0 ≤ v34_3.toInt by omega) (show v34_3.toInt ≤ 399 by omega) (show 1 ≤ f34_0_1.toInt by omega) (show f34_0_1.toInt ≤ 400 by omega) (show 0 ≤ f34_0_14.toInt by omega) (show f34_0_14.toInt ≤ 399 by omega)  hw hT hF c40 c43 (lv_sub hl [1, 2, 3, 4, 0] rfl)
  refine lv_aload_n hx hb dX12_numberHere_0 rfl (lv_at hl 0 rfl) ?_
  obtain ⟨x103, c104, rx103, tx103⟩ := hT.rdi (lo := 0) (hi := 400) (k := 14) kM_at0 (by decide) rfl
  refine tk_Vi hC hK hw hT hA hE hSR kM_at0 (by decide) rfl (k_X12_see_1 l adK adV dC dI cy ad B (by omega) (by omega) qr s1    w0 s.heap.size hT x103 c104 (show 0 ≤ x103.toInt by omega) (show x103.toInt ≤ 400 by omega)) (cwV 0 hC.2.2.2.2 gX12_numberHere_X12_see rfl rfl rfl (by decide +kernel) ⟨Nat.le_of_ble_eq_true rfl, Nat.le_of_ble_eq_true rfl⟩) rfl hl.1 rfl (Nat.le_of_ble_eq_true rfl) dX12_numberHere_1 (fun r105 w107 H locs hp106 hw => ?_)
  obtain ⟨hT, k108, hg125⟩ := hp106
  have hF := hF.tr k108 (by decide)
  rcases hg125 with ⟨g109, g110, ⟨x111, c112, rx111, tx111⟩, ⟨x113, c114, rx113, tx113⟩, g115, g116⟩ | ⟨rfl, ⟨x117, c118, rx117, tx117⟩, ⟨x119, c120, rx119, tx119⟩, g121⟩ | ⟨rfl, ⟨x122, c123, rx122, tx122⟩, g124⟩
  · have g115 : (gi w107 1 (x113.toInt).toNat).toInt ≠ 32 := by have q := g115; simp only [c114] at q; omega
    have g116 : (x113.toInt = x103.toInt ∨ (gi w0 1 (x103.toInt).toNat).toInt = 32) := by have q := g116; simp only [c104, c114] at q; omega
    refine lv_pop hx hb dX12_numberHere_4 rfl ?_
    refine lv_aload_n hx hb dX12_numberHere_5 rfl (lv_at hl 0 rfl) ?_
    refine lv_aload_n hx hb dX12_numberHere_6 rfl (lv_at hl 0 rfl) ?_
    refine tk_geti hC hK hw hT hinX12 kM_at0 (by decide) rfl 14 (by decide) (List.mem_of_getElem? (i := 1) rfl) rfl rfl dX12_numberHere_7 (fun x128 c129 rx128 tx128 => ?_)
    refine wk_top x113 (c129.symm.trans c114) ?_
    refine tk_Vi hC hK hw hT hA hE hSR kM_at0 (by decide) rfl (k_X12_isDigit_1 l adK adV dC dI cy ad B (by omega) (by omega) qr s1   x113 (show 0 ≤ x113.toInt by omega) (show x113.toInt ≤ 399 by omega) w107 H.size hT ) (cwV 1 hC.2.2.2.2 gX12_numberHere_X12_isDigit rfl rfl rfl (by decide +kernel) ⟨Nat.le_of_ble_eq_true rfl, Nat.le_of_ble_eq_true rfl⟩) rfl hl.1 rfl (Nat.le_of_ble_eq_true rfl) dX12_numberHere_10 (fun r130 w132 H locs hp131 hw => ?_)
    obtain ⟨rfl, hg138⟩ := hp131
    rcases hg138 with ⟨rfl, ⟨x134, c135, rx134, tx134⟩⟩ | ⟨rfl, ⟨x136, c137, rx136, tx136⟩⟩
    · have ex134 : x134.toInt = x111.toInt := by rw [← c112.symm.trans c135]
      refine lv_if_ne (tgt := 26) hx hb dX12_numberHere_13 (by decide) (fun c => absurd (by decide) c) (fun _ => ?_)
      refine lv_aload_n hx hb dX12_numberHere_16 rfl (lv_at hl 0 rfl) ?_
      refine lv_iconst (v := 0) hx hb dX12_numberHere_17 (by decide) ?_
      refine lv_aload_n hx hb dX12_numberHere_18 rfl (lv_at hl 0 rfl) ?_
      refine tk_geti hC hK hw hT hinX12 kM_at0 (by decide) rfl 14 (by decide) (List.mem_of_getElem? (i := 1) rfl) rfl rfl dX12_numberHere_19 (fun x139 c140 rx139 tx139 => ?_)
      refine wk_top x113 (c140.symm.trans c114) ?_
      refine tk_Vi hC hK hw hT hA hE hSR kM_at0 (by decide) rfl (k_X12_fails_1 l adK adV dC dI cy ad B (by omega) (by omega) qr s1   0 (by decide) (by decide) x113 (show 0 ≤ x113.toInt by omega) (show x113.toInt ≤ 400 by omega) w107 H.size hT ) (cwV 2 hC.2.2.2.2 gX12_numberHere_X12_fails rfl rfl rfl (by decide +kernel) ⟨Nat.le_of_ble_eq_true rfl, Nat.le_of_ble_eq_true rfl⟩) rfl hl.1 rfl (Nat.le_of_ble_eq_true rfl) dX12_numberHere_22 (fun r141 w143 H locs hp142 hw => ?_)
      obtain ⟨hT, k144, hg147⟩ := hp142
      have hF := hF.tr k144 (by decide)
      have c148 := k144.gi kM_at0 (by decide) c112
      have c149 := k144.gi kM_at0 (by decide) c114
      obtain ⟨rfl, ⟨x145, c146, rx145, tx145⟩⟩ := hg147
      exact tk_zret hC hr rfl hlocks hK ⟨hT, hF, (Or.inl ⟨rfl, ⟨x111, c148, (show 1 ≤ x111.toInt by omega), (show x111.toInt ≤ 400 by omega)⟩, ⟨x145, c146, (show 1 ≤ x145.toInt by omega), (show x145.toInt ≤ 3205 by omega)⟩⟩)⟩ hw dX12_numberHere_25
    · have ex136 : x136.toInt = x111.toInt := by rw [← c112.symm.trans c137]
      refine lv_if_ne (tgt := 26) hx hb dX12_numberHere_13 (by decide) (fun _ => ?_) (fun c => absurd c (by decide))
      refine lv_aload_n hx hb dX12_numberHere_26 rfl (lv_at hl 0 rfl) ?_
      refine tk_geti hC hK hw hT hinX12 kM_at0 (by decide) rfl 14 (by decide) (List.mem_of_getElem? (i := 1) rfl) rfl rfl dX12_numberHere_27 (fun x150 c151 rx150 tx150 => ?_)
      refine wk_top x113 (c151.symm.trans c114) ?_
      refine lv_istore_n (lv' := [(3, .int x113), (0, .ref (ad 0)), (1, .int 1), (2, .int 9)]) hx hb dX12_numberHere_30 rfl hl (by decide) rfl (fun ls hl => ?_)
      refine lv_iconst (v := 0) hx hb dX12_numberHere_31 (by decide) ?_
      refine lv_istore (lv' := [(4, .int 0), (3, .int x113), (0, .ref (ad 0)), (1, .int 1), (2, .int 9)]) hx hb dX12_numberHere_32 hl (by decide) rfl (fun ls hl => ?_)
      exact L34 ((400 - x113.toInt).toNat + 1) x113 0 x111 x113 H locs ls w107 (show 0 ≤ x113.toInt by omega) (show x113.toInt ≤ 399 by omega) (show 1 ≤ x111.toInt by omega) (show x111.toInt ≤ 400 by omega) (show 0 ≤ x113.toInt by omega) (show x113.toInt ≤ 400 by omega) (Nat.lt_succ_self _) hw hT hF c112 c114 (lv_sub hl [2, 3, 4, 1, 0] rfl)
  · have g121 : (x119.toInt = x103.toInt ∨ (gi w0 1 (x103.toInt).toNat).toInt = 32) := by have q := g121; simp only [c104, c120] at q; omega
    refine lv_pop hx hb dX12_numberHere_4 rfl ?_
    refine lv_aload_n hx hb dX12_numberHere_5 rfl (lv_at hl 0 rfl) ?_
    refine lv_aload_n hx hb dX12_numberHere_6 rfl (lv_at hl 0 rfl) ?_
    refine tk_geti hC hK hw hT hinX12 kM_at0 (by decide) rfl 14 (by decide) (List.mem_of_getElem? (i := 1) rfl) rfl rfl dX12_numberHere_7 (fun x152 c153 rx152 tx152 => ?_)
    refine wk_top x119 (c153.symm.trans c120) ?_
    refine tk_Vi hC hK hw hT hA hE hSR kM_at0 (by decide) rfl (k_X12_isDigit_3 l adK adV dC dI cy ad B (by omega) (by omega) qr s1   x119 (show 1 ≤ x119.toInt by omega) (show x119.toInt ≤ 399 by omega) w107 H.size hT ) (cwV 1 hC.2.2.2.2 gX12_numberHere_X12_isDigit rfl rfl rfl (by decide +kernel) ⟨Nat.le_of_ble_eq_true rfl, Nat.le_of_ble_eq_true rfl⟩) rfl hl.1 rfl (Nat.le_of_ble_eq_true rfl) dX12_numberHere_10 (fun r154 w156 H locs hp155 hw => ?_)
    obtain ⟨rfl, hg162⟩ := hp155
    rcases hg162 with ⟨rfl, ⟨x158, c159, rx158, tx158⟩⟩ | ⟨rfl, ⟨x160, c161, rx160, tx160⟩⟩
    · have ex158 : x158.toInt = x117.toInt := by rw [← c118.symm.trans c159]
      refine lv_if_ne (tgt := 26) hx hb dX12_numberHere_13 (by decide) (fun c => absurd (by decide) c) (fun _ => ?_)
      refine lv_aload_n hx hb dX12_numberHere_16 rfl (lv_at hl 0 rfl) ?_
      refine lv_iconst (v := 0) hx hb dX12_numberHere_17 (by decide) ?_
      refine lv_aload_n hx hb dX12_numberHere_18 rfl (lv_at hl 0 rfl) ?_
      refine tk_geti hC hK hw hT hinX12 kM_at0 (by decide) rfl 14 (by decide) (List.mem_of_getElem? (i := 1) rfl) rfl rfl dX12_numberHere_19 (fun x163 c164 rx163 tx163 => ?_)
      refine wk_top x119 (c164.symm.trans c120) ?_
      refine tk_Vi hC hK hw hT hA hE hSR kM_at0 (by decide) rfl (k_X12_fails_1 l adK adV dC dI cy ad B (by omega) (by omega) qr s1   0 (by decide) (by decide) x119 (show 0 ≤ x119.toInt by omega) (show x119.toInt ≤ 400 by omega) w107 H.size hT ) (cwV 2 hC.2.2.2.2 gX12_numberHere_X12_fails rfl rfl rfl (by decide +kernel) ⟨Nat.le_of_ble_eq_true rfl, Nat.le_of_ble_eq_true rfl⟩) rfl hl.1 rfl (Nat.le_of_ble_eq_true rfl) dX12_numberHere_22 (fun r165 w167 H locs hp166 hw => ?_)
      obtain ⟨hT, k168, hg171⟩ := hp166
      have hF := hF.tr k168 (by decide)
      have c172 := k168.gi kM_at0 (by decide) c118
      have c173 := k168.gi kM_at0 (by decide) c120
      obtain ⟨rfl, ⟨x169, c170, rx169, tx169⟩⟩ := hg171
      exact tk_zret hC hr rfl hlocks hK ⟨hT, hF, (Or.inl ⟨rfl, ⟨x117, c172, (show 1 ≤ x117.toInt by omega), (show x117.toInt ≤ 400 by omega)⟩, ⟨x169, c170, (show 1 ≤ x169.toInt by omega), (show x169.toInt ≤ 3205 by omega)⟩⟩)⟩ hw dX12_numberHere_25
    · have ex160 : x160.toInt = x117.toInt := by rw [← c118.symm.trans c161]
      refine lv_if_ne (tgt := 26) hx hb dX12_numberHere_13 (by decide) (fun _ => ?_) (fun c => absurd c (by decide))
      refine lv_aload_n hx hb dX12_numberHere_26 rfl (lv_at hl 0 rfl) ?_
      refine tk_geti hC hK hw hT hinX12 kM_at0 (by decide) rfl 14 (by decide) (List.mem_of_getElem? (i := 1) rfl) rfl rfl dX12_numberHere_27 (fun x174 c175 rx174 tx174 => ?_)
      refine wk_top x119 (c175.symm.trans c120) ?_
      refine lv_istore_n (lv' := [(3, .int x119), (0, .ref (ad 0)), (1, .int 1), (2, .int 9)]) hx hb dX12_numberHere_30 rfl hl (by decide) rfl (fun ls hl => ?_)
      refine lv_iconst (v := 0) hx hb dX12_numberHere_31 (by decide) ?_
      refine lv_istore (lv' := [(4, .int 0), (3, .int x119), (0, .ref (ad 0)), (1, .int 1), (2, .int 9)]) hx hb dX12_numberHere_32 hl (by decide) rfl (fun ls hl => ?_)
      exact L34 ((400 - x119.toInt).toNat + 1) x119 0 x117 x119 H locs ls w107 (show 0 ≤ x119.toInt by omega) (show x119.toInt ≤ 399 by omega) (show 1 ≤ x117.toInt by omega) (show x117.toInt ≤ 400 by omega) (show 0 ≤ x119.toInt by omega) (show x119.toInt ≤ 400 by omega) (Nat.lt_succ_self _) hw hT hF c118 c120 (lv_sub hl [2, 3, 4, 1, 0] rfl)
  · obtain ⟨x126, c127, rx126, tx126⟩ := hT.rdi (lo := 0) (hi := 400) (k := 14) kM_at0 (by decide) rfl
    have g124 : (x126.toInt = x103.toInt ∨ (gi w0 1 (x103.toInt).toNat).toInt = 32) := by have q := g124; simp only [c104, c127] at q; omega
    refine lv_pop hx hb dX12_numberHere_4 rfl ?_
    refine lv_aload_n hx hb dX12_numberHere_5 rfl (lv_at hl 0 rfl) ?_
    refine lv_aload_n hx hb dX12_numberHere_6 rfl (lv_at hl 0 rfl) ?_
    refine tk_geti hC hK hw hT hinX12 kM_at0 (by decide) rfl 14 (by decide) (List.mem_of_getElem? (i := 1) rfl) rfl rfl dX12_numberHere_7 (fun x176 c177 rx176 tx176 => ?_)
    refine wk_top x126 (c177.symm.trans c127) ?_
    refine tk_Vi hC hK hw hT hA hE hSR kM_at0 (by decide) rfl (k_X12_isDigit_2 l adK adV dC dI cy ad B (by omega) (by omega) qr s1   x126 (show 0 ≤ x126.toInt by omega) (show x126.toInt ≤ 400 by omega) w107 H.size hT ) (cwV 1 hC.2.2.2.2 gX12_numberHere_X12_isDigit rfl rfl rfl (by decide +kernel) ⟨Nat.le_of_ble_eq_true rfl, Nat.le_of_ble_eq_true rfl⟩) rfl hl.1 rfl (Nat.le_of_ble_eq_true rfl) dX12_numberHere_10 (fun r178 w180 H locs hp179 hw => ?_)
    obtain ⟨rfl, hg187⟩ := hp179
    rcases hg187 with ⟨rfl, ⟨x182, c183, rx182, tx182⟩⟩ | ⟨rfl, g184, ⟨x185, c186, rx185, tx185⟩⟩
    · have ex182 : x182.toInt = x122.toInt := by rw [← c123.symm.trans c183]
      refine lv_if_ne (tgt := 26) hx hb dX12_numberHere_13 (by decide) (fun c => absurd (by decide) c) (fun _ => ?_)
      refine lv_aload_n hx hb dX12_numberHere_16 rfl (lv_at hl 0 rfl) ?_
      refine lv_iconst (v := 0) hx hb dX12_numberHere_17 (by decide) ?_
      refine lv_aload_n hx hb dX12_numberHere_18 rfl (lv_at hl 0 rfl) ?_
      refine tk_geti hC hK hw hT hinX12 kM_at0 (by decide) rfl 14 (by decide) (List.mem_of_getElem? (i := 1) rfl) rfl rfl dX12_numberHere_19 (fun x188 c189 rx188 tx188 => ?_)
      refine wk_top x126 (c189.symm.trans c127) ?_
      refine tk_Vi hC hK hw hT hA hE hSR kM_at0 (by decide) rfl (k_X12_fails_1 l adK adV dC dI cy ad B (by omega) (by omega) qr s1   0 (by decide) (by decide) x126 (show 0 ≤ x126.toInt by omega) (show x126.toInt ≤ 400 by omega) w107 H.size hT ) (cwV 2 hC.2.2.2.2 gX12_numberHere_X12_fails rfl rfl rfl (by decide +kernel) ⟨Nat.le_of_ble_eq_true rfl, Nat.le_of_ble_eq_true rfl⟩) rfl hl.1 rfl (Nat.le_of_ble_eq_true rfl) dX12_numberHere_22 (fun r190 w192 H locs hp191 hw => ?_)
      obtain ⟨hT, k193, hg196⟩ := hp191
      have hF := hF.tr k193 (by decide)
      have c197 := k193.gi kM_at0 (by decide) c123
      have c198 := k193.gi kM_at0 (by decide) c127
      obtain ⟨rfl, ⟨x194, c195, rx194, tx194⟩⟩ := hg196
      exact tk_zret hC hr rfl hlocks hK ⟨hT, hF, (Or.inr (Or.inl ⟨rfl, ⟨x122, c197, (show 0 ≤ x122.toInt by omega), (show x122.toInt ≤ 400 by omega)⟩, ⟨x194, c195, (show 1 ≤ x194.toInt by omega), (show x194.toInt ≤ 3205 by omega)⟩⟩))⟩ hw dX12_numberHere_25
    · have ex185 : x185.toInt = x122.toInt := by rw [← c123.symm.trans c186]
      refine lv_if_ne (tgt := 26) hx hb dX12_numberHere_13 (by decide) (fun _ => ?_) (fun c => absurd c (by decide))
      refine lv_aload_n hx hb dX12_numberHere_26 rfl (lv_at hl 0 rfl) ?_
      refine tk_geti hC hK hw hT hinX12 kM_at0 (by decide) rfl 14 (by decide) (List.mem_of_getElem? (i := 1) rfl) rfl rfl dX12_numberHere_27 (fun x199 c200 rx199 tx199 => ?_)
      refine wk_top x126 (c200.symm.trans c127) ?_
      refine lv_istore_n (lv' := [(3, .int x126), (0, .ref (ad 0)), (1, .int 1), (2, .int 9)]) hx hb dX12_numberHere_30 rfl hl (by decide) rfl (fun ls hl => ?_)
      refine lv_iconst (v := 0) hx hb dX12_numberHere_31 (by decide) ?_
      refine lv_istore (lv' := [(4, .int 0), (3, .int x126), (0, .ref (ad 0)), (1, .int 1), (2, .int 9)]) hx hb dX12_numberHere_32 hl (by decide) rfl (fun ls hl => ?_)
      exact L34 ((400 - x126.toInt).toNat + 1) x126 0 x122 x126 H locs ls w107 (show 0 ≤ x126.toInt by omega) (show x126.toInt ≤ 399 by omega) (show 1 ≤ x122.toInt by omega) (show x122.toInt ≤ 400 by omega) (show 0 ≤ x126.toInt by omega) (show x126.toInt ≤ 400 by omega) (Nat.lt_succ_self _) hw hT hF c123 c127 (lv_sub hl [2, 3, 4, 1, 0] rfl)
abbrev P_X12_isStreetHere_1 (ad : Nat → Nat) (cy : Nat → ClassId) (B : Int) (qr : Nat) (s1 : Int) (a1 : Int32) (w0 : va_W) : Int32 → va_W → Prop := fun r u => TW ksM ad cy B qr 12 u ∧ FE ksM [(12, 8, 8), (12, 14, 14), (12, 15, 15), (12, 16, 16), (65, 0, 120)] w0 u ∧ ((r = 0 ∧ (∃ y : Int32, gi u 0 8 = y ∧ 12 ≤ y.toInt ∧ y.toInt ≤ 12) ∧ (∃ y : Int32, gi u 0 15 = y ∧ 1 ≤ y.toInt ∧ y.toInt ≤ 3205)) ∨ (r = 0 ∧ (∃ y : Int32, gi u 0 1 = y ∧ 1 ≤ y.toInt ∧ y.toInt ≤ 400) ∧ (∃ y : Int32, gi u 0 8 = y ∧ 0 ≤ y.toInt ∧ y.toInt ≤ 11) ∧ (∃ y : Int32, gi u 0 15 = y ∧ 1 ≤ y.toInt ∧ y.toInt ≤ 3205)) ∨ (r = 0 ∧ (∃ y : Int32, gi u 0 1 = y ∧ 0 ≤ y.toInt ∧ y.toInt ≤ 400) ∧ (∃ y : Int32, gi u 0 8 = y ∧ 0 ≤ y.toInt ∧ y.toInt ≤ 11) ∧ (∃ y : Int32, gi u 0 15 = y ∧ 1 ≤ y.toInt ∧ y.toInt ≤ 3205)) ∨ (r = 1 ∧ (∃ y : Int32, gi u 0 1 = y ∧ 1 ≤ y.toInt ∧ y.toInt ≤ 400) ∧ (∃ y : Int32, gi u 0 7 = y ∧ 1 ≤ y.toInt ∧ y.toInt ≤ 10) ∧ (∃ y : Int32, gi u 0 8 = y ∧ 1 ≤ y.toInt ∧ y.toInt ≤ 12) ∧ (∃ y : Int32, gi u 0 16 = y ∧ 1 ≤ y.toInt ∧ y.toInt ≤ 9)))
set_option maxHeartbeats 4000000 in
set_option maxRecDepth 100000 in
theorem k_X12_isStreetHere_1 (l : Launch) (adK adV : Nat → Nat) (dC : Nat → ClassId) (dI : Nat → Nat → Nat) (cy : Nat → ClassId) (ad : Nat → Nat) (B : Int) (hB0 : 100000 ≤ B) (hB1 : B ≤ 1073741824) (qr : Nat) (s1 : Int)  (a1 : Int32) (ra1 : 0 ≤ a1.toInt) (ta1 : a1.toInt ≤ 400) (w0 : va_W) (sz : Nat) (hT : TW ksM ad cy B qr 12 w0)  : Met l yX12_isStreetHere wsX12_isStreetHere ({ frames := 3, cells := 0, slots := 0, locals := 61 }) (va_Pc [.ref (ad 0), .int a1] (wpreS adK adV dC dI cy sz w0)) (va_Qi (P_X12_isStreetHere_1 ad cy B qr s1 a1 w0) (fun u : va_W => wpost dC dI cy (va_A w0 sz) u) (va_A w0 sz)) 0 0 (va_A w0 sz) := by
  refine Met.ofW (cc := cX12_isStreetHere) (maxL := 4) (ret := (some .boolean)) (by decide) rfl ?_
  intro p e s m args below meth c s₁ Bk hml hv
  obtain ⟨rfl, ⟨hsz, hP, hK, hD0⟩, hE, hSR⟩ := hv
  have hx := Bk.exec
  have hb := Bk.bytes
  have hr := Bk.returns
  have hlocks := Bk.notSynchronized
  have hC : CallFix p m c cX12_isStreetHere 4 s _ wsX12_isStreetHere RX12 := ⟨hx, hb, hml, findClass_of_methodNamed Bk.named, atoms_spec (ws := wsX12_isStreetHere) Bk.pre⟩
  subst hsz
  have hD := hD0.self (sz := s.heap.size)
  generalize hAe : va_A w0 s.heap.size = A at hD hE ⊢
  have hA : ∀ q : Nat, s.heap.size ≤ q → A q := fun q h => by rw [← hAe]; exact Or.inr h
  have hw : Wd dC dI A s.heap s.heap [] w0 := ⟨hP, hD, va_S.rf⟩
  have hF : FE ksM [(12, 8, 8), (12, 14, 14), (12, 15, 15), (12, 16, 16), (65, 0, 120)] w0 w0 := FE.rf
  have hl := lv_entry ([.ref (ad 0), .int a1]) (n := 4) (Nat.le_of_ble_eq_true rfl)
  rw [lg_entry_eq]
  generalize (lg_sl ([.ref (ad 0), .int a1]) ++ List.replicate (4 - (lg_sl ([.ref (ad 0), .int a1])).length) Slot.unset).toArray = ls at hl ⊢
  have hl : lv_has ls 4 [(0, .ref (ad 0)), (1, .int a1)] := hl
  generalize hloc : ([] : List Loc) = locs at hw ⊢
  have hinX12 : ∀ w ∈ u_ws RX12 TX12 42, w ∈ wsX12_isStreetHere := fun _ h => List.mem_cons_of_mem _ (List.mem_append_right _ (h))
  refine lv_aload_n hx hb dX12_isStreetHere_0 rfl (lv_at hl 0 rfl) ?_
  refine tk_geti hC hK hw hT hinX12 kM_at0 (by decide) rfl 8 (by decide) (List.mem_of_getElem? (i := 1) rfl) rfl rfl dX12_isStreetHere_1 (fun x1 c2 rx1 tx1 => ?_)
  refine lv_bipush (v := 12) hx hb dX12_isStreetHere_4 (by decide) ?_
  refine lv_icmp_ne (tgt := 16) hx hb dX12_isStreetHere_6 (by decide) (fun c3 => ?_) (fun c3 => ?_)
  · have c3 : ¬ x1.toInt = (12 : Int) := wk_eqF c3
    refine lv_aload_n hx hb dX12_isStreetHere_16 rfl (lv_at hl 0 rfl) ?_
    refine tk_Vv hC hK hw hT hA hE hSR kM_at0 (by decide) rfl (k_X12_passWord_1 l adK adV dC dI cy ad B (by omega) (by omega) qr s1    w0 s.heap.size hT ) (cwV 0 hC.2.2.2.2 gX12_isStreetHere_X12_passWord rfl rfl rfl (by decide +kernel) ⟨Nat.le_of_ble_eq_true rfl, Nat.le_of_ble_eq_true rfl⟩) rfl hl.1 rfl (Nat.le_of_ble_eq_true rfl) dX12_isStreetHere_17 (fun w6 H locs hp5 hw => ?_)
    obtain ⟨hT, k7, hg14⟩ := hp5
    have hF := hF.tr k7 (by decide)
    have c15 := k7.gi kM_at0 (by decide) c2
    rcases hg14 with ⟨⟨x8, c9, rx8, tx8⟩, ⟨x10, c11, rx10, tx10⟩⟩ | ⟨x12, c13, rx12, tx12⟩
    · refine lv_bipush (v := 10) hx hb dX12_isStreetHere_20 (by decide) ?_
      refine lv_aload_n hx hb dX12_isStreetHere_22 rfl (lv_at hl 0 rfl) ?_
      refine tk_geti hC hK hw hT hinX12 kM_at0 (by decide) rfl 8 (by decide) (List.mem_of_getElem? (i := 1) rfl) rfl rfl dX12_isStreetHere_23 (fun x16 c17 rx16 tx16 => ?_)
      refine wk_top x1 (c17.symm.trans c15) ?_
      refine lv_imul hx hb dX12_isStreetHere_26 ?_
      refine lv_topi (fun x18 ex18 => ?_)
      have ex18 : x18.toInt = (10 : Int) * x1.toInt := by rw [ex18]; exact wk_mul (show (-2147483648) ≤ (10 : Int) * x1.toInt by omega) (show (10 : Int) * x1.toInt ≤ 2147483647 by omega)
      refine lv_istore_n (lv' := [(2, .int x18), (0, .ref (ad 0)), (1, .int a1)]) hx hb dX12_isStreetHere_27 rfl hl (by decide) rfl (fun ls hl => ?_)
      refine lv_aload_n hx hb dX12_isStreetHere_28 rfl (lv_at hl 1 rfl) ?_
      refine lv_iconst (v := 0) hx hb dX12_isStreetHere_29 (by decide) ?_
      refine lv_aload_n hx hb dX12_isStreetHere_30 rfl (lv_at hl 1 rfl) ?_
      refine tk_geti hC hK hw hT hinX12 kM_at0 (by decide) rfl 7 (by decide) (List.mem_of_getElem? (i := 2) rfl) rfl rfl dX12_isStreetHere_31 (fun x19 c20 rx19 tx19 => ?_)
      refine lv_iconst (v := 1) hx hb dX12_isStreetHere_34 (by decide) ?_
      refine lv_isub hx hb dX12_isStreetHere_35 ?_
      refine lv_topi (fun x21 ex21 => ?_)
      have ex21 : x21.toInt = x19.toInt - (1 : Int) := by rw [ex21]; exact wk_sub (show (-2147483648) ≤ x19.toInt - (1 : Int) by omega) (show x19.toInt - (1 : Int) ≤ 2147483647 by omega)
      refine tk_Vi hC hK hw hT hA hE hSR kM_at0 (by decide) rfl (k_X12_numberHere_5 l adK adV dC dI cy ad B (by omega) (by omega) qr s1   x21 (show (-1) ≤ x21.toInt by omega) (show x21.toInt ≤ 9 by omega) w6 H.size hT ) (cwV 2 hC.2.2.2.2 gX12_isStreetHere_X12_numberHere rfl rfl rfl (by decide +kernel) ⟨Nat.le_of_ble_eq_true rfl, Nat.le_of_ble_eq_true rfl⟩) rfl hl.1 rfl (Nat.le_of_ble_eq_true rfl) dX12_isStreetHere_36 (fun r22 w24 H locs hp23 hw => ?_)
      obtain ⟨hT, k25, hg39⟩ := hp23
      have hF := hF.tr k25 (by decide)
      have c40 := k25.gi kM_at0 (by decide) c15
      have c41 := k25.gi kM_at0 (by decide) c9
      have c42 := k25.gi kM_at0 (by decide) c20
      rcases hg39 with ⟨rfl, ⟨x26, c27, rx26, tx26⟩, ⟨x28, c29, rx28, tx28⟩⟩ | ⟨rfl, ⟨x30, c31, rx30, tx30⟩, ⟨x32, c33, rx32, tx32⟩⟩ | ⟨rfl, g34, ⟨x35, c36, rx35, tx35⟩, ⟨x37, c38, rx37, tx37⟩⟩
      · have ex26 : x26.toInt = x8.toInt := by rw [← c41.symm.trans c27]
        refine lv_if_ne (tgt := 44) hx hb dX12_isStreetHere_39 (by decide) (fun c => absurd (by decide) c) (fun _ => ?_)
        refine lv_iconst (v := 0) hx hb dX12_isStreetHere_42 (by decide) ?_
        exact tk_zret hC hr rfl hlocks hK ⟨hT, hF, (Or.inr (Or.inl ⟨rfl, ⟨x8, c41, (show 1 ≤ x8.toInt by omega), (show x8.toInt ≤ 400 by omega)⟩, ⟨x1, c40, (show 0 ≤ x1.toInt by omega), (show x1.toInt ≤ 11 by omega)⟩, ⟨x28, c29, (show 1 ≤ x28.toInt by omega), (show x28.toInt ≤ 3205 by omega)⟩⟩))⟩ hw dX12_isStreetHere_43
      · have ex30 : x30.toInt = x8.toInt := by rw [← c41.symm.trans c31]
        refine lv_if_ne (tgt := 44) hx hb dX12_isStreetHere_39 (by decide) (fun c => absurd (by decide) c) (fun _ => ?_)
        refine lv_iconst (v := 0) hx hb dX12_isStreetHere_42 (by decide) ?_
        exact tk_zret hC hr rfl hlocks hK ⟨hT, hF, (Or.inr (Or.inl ⟨rfl, ⟨x8, c41, (show 1 ≤ x8.toInt by omega), (show x8.toInt ≤ 400 by omega)⟩, ⟨x1, c40, (show 0 ≤ x1.toInt by omega), (show x1.toInt ≤ 11 by omega)⟩, ⟨x32, c33, (show 1 ≤ x32.toInt by omega), (show x32.toInt ≤ 3205 by omega)⟩⟩))⟩ hw dX12_isStreetHere_43
      · have ex35 : x35.toInt = x8.toInt := by rw [← c41.symm.trans c36]
        refine lv_if_ne (tgt := 44) hx hb dX12_isStreetHere_39 (by decide) (fun _ => ?_) (fun c => absurd c (by decide))
        refine lv_aload_n hx hb dX12_isStreetHere_44 rfl (lv_at hl 1 rfl) ?_
        refine tk_getA hC hK hw hT hinX12 kM_at0 (by decide) rfl 11 (by decide) (List.mem_of_getElem? (i := 3) rfl) rfl rfl dX12_isStreetHere_45 ?_
        refine lv_iload_n hx hb dX12_isStreetHere_48 rfl (lv_at hl 0 rfl) ?_
        refine lv_aload_n hx hb dX12_isStreetHere_49 rfl (lv_at hl 1 rfl) ?_
        refine tk_geti hC hK hw hT hinX12 kM_at0 (by decide) rfl 16 (by decide) (List.mem_of_getElem? (i := 4) rfl) rfl rfl dX12_isStreetHere_50 (fun x43 c44 rx43 tx43 => ?_)
        refine wk_top x37 (c44.symm.trans c38) ?_
        refine tk_iast hC hK hw hT kM_at6 (by decide) rfl rfl (show 0 ≤ x18.toInt by omega) (show x18.toInt < 120 by omega) (show 0 ≤ x37.toInt by omega) (show x37.toInt ≤ 9 by omega) dX12_isStreetHere_53 (fun H locs w45 hw hT k47 c46 => ?_)
        have hF := hF.put kM_at6 (inE_of (a := 0) (b := 120) (by decide) (show 0 ≤ x18.toInt.toNat by omega) (show x18.toInt.toNat ≤ 120 by omega)) k47
        have c48 := k47.gi (Or.inl (tk_ne kM_at0 kM_at6 (by decide))) c40
        have c49 := k47.gi (Or.inl (tk_ne kM_at0 kM_at6 (by decide))) c41
        have c50 := k47.gi (Or.inl (tk_ne kM_at0 kM_at6 (by decide))) c42
        have c51 := k47.gi (Or.inl (tk_ne kM_at0 kM_at6 (by decide))) c38
        refine lv_aload_n hx hb dX12_isStreetHere_54 rfl (lv_at hl 1 rfl) ?_
        obtain ⟨x52, c53, rx52, tx52⟩ := hT.rdi (lo := 0) (hi := 400) (k := 14) kM_at0 (by decide) rfl
        refine tk_Vi hC hK hw hT hA hE hSR kM_at0 (by decide) rfl (k_X12_see_1 l adK adV dC dI cy ad B (by omega) (by omega) qr s1    w45 H.size hT x52 c53 (show 0 ≤ x52.toInt by omega) (show x52.toInt ≤ 400 by omega)) (cwV 0 hC.2.2.2.2 gX12_isStreetHere_X12_see rfl rfl rfl (by decide +kernel) ⟨Nat.le_of_ble_eq_true rfl, Nat.le_of_ble_eq_true rfl⟩) rfl hl.1 rfl (Nat.le_of_ble_eq_true rfl) dX12_isStreetHere_55 (fun r54 w56 H locs hp55 hw => ?_)
        obtain ⟨hT, k57, hg74⟩ := hp55
        have hF := hF.tr k57 (by decide)
        have c75 := k57.gi kM_at0 (by decide) c48
        have c76 := k57.gi kM_at0 (by decide) c49
        have c77 := k57.gi kM_at0 (by decide) c50
        have c78 := k57.gi kM_at0 (by decide) c51
        rcases hg74 with ⟨g58, g59, ⟨x60, c61, rx60, tx60⟩, ⟨x62, c63, rx62, tx62⟩, g64, g65⟩ | ⟨rfl, ⟨x66, c67, rx66, tx66⟩, ⟨x68, c69, rx68, tx68⟩, g70⟩ | ⟨rfl, ⟨x71, c72, rx71, tx71⟩, g73⟩
        · have ex60 : x60.toInt = x8.toInt := by rw [← c76.symm.trans c61]
          have g64 : (gi w56 1 (x62.toInt).toNat).toInt ≠ 32 := by have q := g64; simp only [c63] at q; omega
          have g65 : (x62.toInt = x52.toInt ∨ (gi w45 1 (x52.toInt).toNat).toInt = 32) := by have q := g65; simp only [c53, c63] at q; omega
          refine lv_pop hx hb dX12_isStreetHere_58 rfl ?_
          refine lv_aload_n hx hb dX12_isStreetHere_59 rfl (lv_at hl 1 rfl) ?_
          refine tk_geti hC hK hw hT hinX12 kM_at0 (by decide) rfl 14 (by decide) (List.mem_of_getElem? (i := 5) rfl) rfl rfl dX12_isStreetHere_60 (fun x81 c82 rx81 tx81 => ?_)
          refine wk_top x62 (c82.symm.trans c63) ?_
          refine lv_istore_n (lv' := [(3, .int x62), (2, .int x18), (0, .ref (ad 0)), (1, .int a1)]) hx hb dX12_isStreetHere_63 rfl hl (by decide) rfl (fun ls hl => ?_)
          refine lv_aload_n hx hb dX12_isStreetHere_64 rfl (lv_at hl 2 rfl) ?_
          refine lv_iconst (v := 0) hx hb dX12_isStreetHere_65 (by decide) ?_
          refine lv_aload_n hx hb dX12_isStreetHere_66 rfl (lv_at hl 2 rfl) ?_
          refine tk_geti hC hK hw hT hinX12 kM_at0 (by decide) rfl 7 (by decide) (List.mem_of_getElem? (i := 2) rfl) rfl rfl dX12_isStreetHere_67 (fun x83 c84 rx83 tx83 => ?_)
          refine wk_top x19 (c84.symm.trans c77) ?_
          refine lv_iconst (v := 1) hx hb dX12_isStreetHere_70 (by decide) ?_
          refine lv_isub hx hb dX12_isStreetHere_71 ?_
          refine lv_topi (fun x85 ex85 => ?_)
          have ex85 : x85.toInt = x19.toInt - (1 : Int) := by rw [ex85]; exact wk_sub (show (-2147483648) ≤ x19.toInt - (1 : Int) by omega) (show x19.toInt - (1 : Int) ≤ 2147483647 by omega)
          refine tk_Vi hC hK hw hT hA hE hSR kM_at0 (by decide) rfl (k_X12_numberHere_7 l adK adV dC dI cy ad B (by omega) (by omega) qr s1   x85 (show 0 ≤ x85.toInt by omega) (show x85.toInt ≤ 9 by omega) w56 H.size hT ) (cwV 2 hC.2.2.2.2 gX12_isStreetHere_X12_numberHere rfl rfl rfl (by decide +kernel) ⟨Nat.le_of_ble_eq_true rfl, Nat.le_of_ble_eq_true rfl⟩) rfl hl.1 rfl (Nat.le_of_ble_eq_true rfl) dX12_isStreetHere_72 (fun r86 w88 H locs hp87 hw => ?_)
          obtain ⟨hT, k89, hg102⟩ := hp87
          have hF := hF.tr k89 (by decide)
          have c103 := k89.gi kM_at0 (by decide) c75
          have c104 := k89.gi kM_at0 (by decide) c76
          have c105 := k89.gi kM_at0 (by decide) c77
          rcases hg102 with ⟨rfl, ⟨x90, c91, rx90, tx90⟩, ⟨x92, c93, rx92, tx92⟩⟩ | ⟨rfl, ⟨x94, c95, rx94, tx94⟩, ⟨x96, c97, rx96, tx96⟩⟩ | ⟨rfl, ⟨x98, c99, rx98, tx98⟩, ⟨x100, c101, rx100, tx100⟩⟩
          · have ex90 : x90.toInt = x8.toInt := by rw [← c104.symm.trans c91]
            refine lv_if_ne (tgt := 80) hx hb dX12_isStreetHere_75 (by decide) (fun c => absurd (by decide) c) (fun _ => ?_)
            refine lv_iconst (v := 0) hx hb dX12_isStreetHere_78 (by decide) ?_
            exact tk_zret hC hr rfl hlocks hK ⟨hT, hF, (Or.inr (Or.inl ⟨rfl, ⟨x8, c104, (show 1 ≤ x8.toInt by omega), (show x8.toInt ≤ 400 by omega)⟩, ⟨x1, c103, (show 0 ≤ x1.toInt by omega), (show x1.toInt ≤ 11 by omega)⟩, ⟨x92, c93, (show 1 ≤ x92.toInt by omega), (show x92.toInt ≤ 3205 by omega)⟩⟩))⟩ hw dX12_isStreetHere_79
          · have ex94 : x94.toInt = x8.toInt := by rw [← c104.symm.trans c95]
            refine lv_if_ne (tgt := 80) hx hb dX12_isStreetHere_75 (by decide) (fun c => absurd (by decide) c) (fun _ => ?_)
            refine lv_iconst (v := 0) hx hb dX12_isStreetHere_78 (by decide) ?_
            exact tk_zret hC hr rfl hlocks hK ⟨hT, hF, (Or.inr (Or.inl ⟨rfl, ⟨x8, c104, (show 1 ≤ x8.toInt by omega), (show x8.toInt ≤ 400 by omega)⟩, ⟨x1, c103, (show 0 ≤ x1.toInt by omega), (show x1.toInt ≤ 11 by omega)⟩, ⟨x96, c97, (show 1 ≤ x96.toInt by omega), (show x96.toInt ≤ 3205 by omega)⟩⟩))⟩ hw dX12_isStreetHere_79
          · have ex98 : x98.toInt = x8.toInt := by rw [← c104.symm.trans c99]
            refine lv_if_ne (tgt := 80) hx hb dX12_isStreetHere_75 (by decide) (fun _ => ?_) (fun c => absurd c (by decide))
            refine lv_aload_n hx hb dX12_isStreetHere_80 rfl (lv_at hl 2 rfl) ?_
            refine tk_geti hC hK hw hT hinX12 kM_at0 (by decide) rfl 16 (by decide) (List.mem_of_getElem? (i := 4) rfl) rfl rfl dX12_isStreetHere_81 (fun x106 c107 rx106 tx106 => ?_)
            refine wk_top x100 (c107.symm.trans c101) ?_
            refine lv_aload_n hx hb dX12_isStreetHere_84 rfl (lv_at hl 2 rfl) ?_
            refine tk_getA hC hK hw hT hinX12 kM_at0 (by decide) rfl 11 (by decide) (List.mem_of_getElem? (i := 3) rfl) rfl rfl dX12_isStreetHere_85 ?_
            refine lv_iload_n hx hb dX12_isStreetHere_88 rfl (lv_at hl 1 rfl) ?_
            refine tk_iald hC hK hw hT kM_at6 rfl rfl (show 0 ≤ x18.toInt by omega) (show x18.toInt < 120 by omega) dX12_isStreetHere_89 (fun x108 c109 rx108 tx108 => ?_)
            refine lv_icmp_ne (tgt := 100) hx hb dX12_isStreetHere_90 (by decide) (fun c110 => ?_) (fun c110 => ?_)
            · have c110 : ¬ x100.toInt = x108.toInt := wk_eqF c110
              refine lv_aload_n hx hb dX12_isStreetHere_100 rfl (lv_at hl 2 rfl) ?_
              refine tk_getA hC hK hw hT hinX12 kM_at0 (by decide) rfl 11 (by decide) (List.mem_of_getElem? (i := 3) rfl) rfl rfl dX12_isStreetHere_101 ?_
              refine lv_iload_n hx hb dX12_isStreetHere_104 rfl (lv_at hl 1 rfl) ?_
              refine lv_iconst (v := 1) hx hb dX12_isStreetHere_105 (by decide) ?_
              refine lv_iadd hx hb dX12_isStreetHere_106 ?_
              refine lv_topi (fun x111 ex111 => ?_)
              have ex111 : x111.toInt = x18.toInt + (1 : Int) := by rw [ex111]; exact wk_add (show (-2147483648) ≤ x18.toInt + (1 : Int) by omega) (show x18.toInt + (1 : Int) ≤ 2147483647 by omega)
              refine lv_aload_n hx hb dX12_isStreetHere_107 rfl (lv_at hl 2 rfl) ?_
              refine tk_geti hC hK hw hT hinX12 kM_at0 (by decide) rfl 16 (by decide) (List.mem_of_getElem? (i := 4) rfl) rfl rfl dX12_isStreetHere_108 (fun x112 c113 rx112 tx112 => ?_)
              refine wk_top x100 (c113.symm.trans c101) ?_
              refine tk_iast hC hK hw hT kM_at6 (by decide) rfl rfl (show 0 ≤ x111.toInt by omega) (show x111.toInt < 120 by omega) (show 0 ≤ x100.toInt by omega) (show x100.toInt ≤ 9 by omega) dX12_isStreetHere_111 (fun H locs w114 hw hT k116 c115 => ?_)
              have hF := hF.put kM_at6 (inE_of (a := 0) (b := 120) (by decide) (show 0 ≤ x111.toInt.toNat by omega) (show x111.toInt.toNat ≤ 120 by omega)) k116
              have c117 := k116.gi (Or.inl (tk_ne kM_at0 kM_at6 (by decide))) c103
              have c118 := k116.gi (Or.inl (tk_ne kM_at0 kM_at6 (by decide))) c104
              have c119 := k116.gi (Or.inl (tk_ne kM_at0 kM_at6 (by decide))) c105
              have c120 := k116.gi (Or.inl (tk_ne kM_at0 kM_at6 (by decide))) c101
              refine lv_aload_n hx hb dX12_isStreetHere_112 rfl (lv_at hl 2 rfl) ?_
              refine lv_iconst (v := 1) hx hb dX12_isStreetHere_113 (by decide) ?_
              refine lv_bipush (v := 9) hx hb dX12_isStreetHere_114 (by decide) ?_
              refine tk_Vi hC hK hw hT hA hE hSR kM_at0 (by decide) rfl (k_X12_numberHere_8 l adK adV dC dI cy ad B (by omega) (by omega) qr s1    w114 H.size hT ) (cwV 2 hC.2.2.2.2 gX12_isStreetHere_X12_numberHere rfl rfl rfl (by decide +kernel) ⟨Nat.le_of_ble_eq_true rfl, Nat.le_of_ble_eq_true rfl⟩) rfl hl.1 rfl (Nat.le_of_ble_eq_true rfl) dX12_isStreetHere_116 (fun r121 w123 H locs hp122 hw => ?_)
              obtain ⟨hT, k124, hg137⟩ := hp122
              have hF := hF.tr k124 (by decide)
              have c138 := k124.gi kM_at0 (by decide) c117
              have c139 := k124.gi kM_at0 (by decide) c118
              have c140 := k124.gi kM_at0 (by decide) c119
              rcases hg137 with ⟨rfl, ⟨x125, c126, rx125, tx125⟩, ⟨x127, c128, rx127, tx127⟩⟩ | ⟨rfl, ⟨x129, c130, rx129, tx129⟩, ⟨x131, c132, rx131, tx131⟩⟩ | ⟨rfl, ⟨x133, c134, rx133, tx133⟩, ⟨x135, c136, rx135, tx135⟩⟩
              · have ex125 : x125.toInt = x8.toInt := by rw [← c139.symm.trans c126]
                refine lv_if_ne (tgt := 124) hx hb dX12_isStreetHere_119 (by decide) (fun c => absurd (by decide) c) (fun _ => ?_)
                refine lv_iconst (v := 0) hx hb dX12_isStreetHere_122 (by decide) ?_
                exact tk_zret hC hr rfl hlocks hK ⟨hT, hF, (Or.inr (Or.inl ⟨rfl, ⟨x8, c139, (show 1 ≤ x8.toInt by omega), (show x8.toInt ≤ 400 by omega)⟩, ⟨x1, c138, (show 0 ≤ x1.toInt by omega), (show x1.toInt ≤ 11 by omega)⟩, ⟨x127, c128, (show 1 ≤ x127.toInt by omega), (show x127.toInt ≤ 3205 by omega)⟩⟩))⟩ hw dX12_isStreetHere_123
              · have ex129 : x129.toInt = x8.toInt := by rw [← c139.symm.trans c130]
                refine lv_if_ne (tgt := 124) hx hb dX12_isStreetHere_119 (by decide) (fun c => absurd (by decide) c) (fun _ => ?_)
                refine lv_iconst (v := 0) hx hb dX12_isStreetHere_122 (by decide) ?_
                exact tk_zret hC hr rfl hlocks hK ⟨hT, hF, (Or.inr (Or.inl ⟨rfl, ⟨x8, c139, (show 1 ≤ x8.toInt by omega), (show x8.toInt ≤ 400 by omega)⟩, ⟨x1, c138, (show 0 ≤ x1.toInt by omega), (show x1.toInt ≤ 11 by omega)⟩, ⟨x131, c132, (show 1 ≤ x131.toInt by omega), (show x131.toInt ≤ 3205 by omega)⟩⟩))⟩ hw dX12_isStreetHere_123
              · have ex133 : x133.toInt = x8.toInt := by rw [← c139.symm.trans c134]
                refine lv_if_ne (tgt := 124) hx hb dX12_isStreetHere_119 (by decide) (fun _ => ?_) (fun c => absurd c (by decide))
                refine lv_aload_n hx hb dX12_isStreetHere_124 rfl (lv_at hl 2 rfl) ?_
                refine tk_getA hC hK hw hT hinX12 kM_at0 (by decide) rfl 11 (by decide) (List.mem_of_getElem? (i := 3) rfl) rfl rfl dX12_isStreetHere_125 ?_
                refine lv_iload_n hx hb dX12_isStreetHere_128 rfl (lv_at hl 1 rfl) ?_
                refine lv_iconst (v := 2) hx hb dX12_isStreetHere_129 (by decide) ?_
                refine lv_iadd hx hb dX12_isStreetHere_130 ?_
                refine lv_topi (fun x141 ex141 => ?_)
                have ex141 : x141.toInt = x18.toInt + (2 : Int) := by rw [ex141]; exact wk_add (show (-2147483648) ≤ x18.toInt + (2 : Int) by omega) (show x18.toInt + (2 : Int) ≤ 2147483647 by omega)
                refine lv_aload_n hx hb dX12_isStreetHere_131 rfl (lv_at hl 2 rfl) ?_
                refine tk_geti hC hK hw hT hinX12 kM_at0 (by decide) rfl 16 (by decide) (List.mem_of_getElem? (i := 4) rfl) rfl rfl dX12_isStreetHere_132 (fun x142 c143 rx142 tx142 => ?_)
                refine wk_top x135 (c143.symm.trans c136) ?_
                refine tk_iast hC hK hw hT kM_at6 (by decide) rfl rfl (show 0 ≤ x141.toInt by omega) (show x141.toInt < 120 by omega) (show 0 ≤ x135.toInt by omega) (show x135.toInt ≤ 9 by omega) dX12_isStreetHere_135 (fun H locs w144 hw hT k146 c145 => ?_)
                have hF := hF.put kM_at6 (inE_of (a := 0) (b := 120) (by decide) (show 0 ≤ x141.toInt.toNat by omega) (show x141.toInt.toNat ≤ 120 by omega)) k146
                have c147 := k146.gi (Or.inl (tk_ne kM_at0 kM_at6 (by decide))) c138
                have c148 := k146.gi (Or.inl (tk_ne kM_at0 kM_at6 (by decide))) c139
                have c149 := k146.gi (Or.inl (tk_ne kM_at0 kM_at6 (by decide))) c140
                have c150 := k146.gi (Or.inl (tk_ne kM_at0 kM_at6 (by decide))) c136
                refine lv_aload_n hx hb dX12_isStreetHere_136 rfl (lv_at hl 2 rfl) ?_
                refine lv_iload_n hx hb dX12_isStreetHere_137 rfl (lv_at hl 1 rfl) ?_
                refine lv_iconst (v := 3) hx hb dX12_isStreetHere_138 (by decide) ?_
                refine lv_iadd hx hb dX12_isStreetHere_139 ?_
                refine lv_topi (fun x151 ex151 => ?_)
                have ex151 : x151.toInt = x18.toInt + (3 : Int) := by rw [ex151]; exact wk_add (show (-2147483648) ≤ x18.toInt + (3 : Int) by omega) (show x18.toInt + (3 : Int) ≤ 2147483647 by omega)
                refine tk_Vi hC hK hw hT hA hE hSR kM_at0 (by decide) rfl (k_X12_areSignsHere_1 l adK adV dC dI cy ad B (by omega) (by omega) qr s1   x151 (show 3 ≤ x151.toInt by omega) (show x151.toInt ≤ 113 by omega) w144 H.size hT ) (cwV 1 hC.2.2.2.2 gX12_isStreetHere_X12_areSignsHere rfl rfl rfl (by decide +kernel) ⟨Nat.le_of_ble_eq_true rfl, Nat.le_of_ble_eq_true rfl⟩) rfl hl.1 rfl (Nat.le_of_ble_eq_true rfl) dX12_isStreetHere_140 (fun r152 w154 H locs hp153 hw => ?_)
                obtain ⟨hT, k155, hg168⟩ := hp153
                have hF := hF.tr k155 (by decide)
                have c169 := k155.gi kM_at0 (by decide) c147
                have c170 := k155.gi kM_at0 (by decide) c148
                have c171 := k155.gi kM_at0 (by decide) c149
                have c172 := k155.gi kM_at0 (by decide) c150
                rcases hg168 with ⟨rfl, ⟨x156, c157, rx156, tx156⟩, ⟨x158, c159, rx158, tx158⟩, ⟨x160, c161, rx160, tx160⟩⟩ | ⟨rfl, ⟨x162, c163, rx162, tx162⟩, ⟨x164, c165, rx164, tx164⟩⟩ | ⟨rfl, ⟨x166, c167, rx166, tx166⟩⟩
                · have ex156 : x156.toInt = x8.toInt := by rw [← c170.symm.trans c157]
                  refine lv_if_ne (tgt := 148) hx hb dX12_isStreetHere_143 (by decide) (fun c => absurd (by decide) c) (fun _ => ?_)
                  refine lv_iconst (v := 0) hx hb dX12_isStreetHere_146 (by decide) ?_
                  exact tk_zret hC hr rfl hlocks hK ⟨hT, hF, (Or.inr (Or.inl ⟨rfl, ⟨x8, c170, (show 1 ≤ x8.toInt by omega), (show x8.toInt ≤ 400 by omega)⟩, ⟨x1, c169, (show 0 ≤ x1.toInt by omega), (show x1.toInt ≤ 11 by omega)⟩, ⟨x160, c161, (show 1 ≤ x160.toInt by omega), (show x160.toInt ≤ 3205 by omega)⟩⟩))⟩ hw dX12_isStreetHere_147
                · have ex162 : x162.toInt = x8.toInt := by rw [← c170.symm.trans c163]
                  refine lv_if_ne (tgt := 148) hx hb dX12_isStreetHere_143 (by decide) (fun c => absurd (by decide) c) (fun _ => ?_)
                  refine lv_iconst (v := 0) hx hb dX12_isStreetHere_146 (by decide) ?_
                  exact tk_zret hC hr rfl hlocks hK ⟨hT, hF, (Or.inr (Or.inl ⟨rfl, ⟨x8, c170, (show 1 ≤ x8.toInt by omega), (show x8.toInt ≤ 400 by omega)⟩, ⟨x1, c169, (show 0 ≤ x1.toInt by omega), (show x1.toInt ≤ 11 by omega)⟩, ⟨x164, c165, (show 1 ≤ x164.toInt by omega), (show x164.toInt ≤ 3205 by omega)⟩⟩))⟩ hw dX12_isStreetHere_147
                · have ex166 : x166.toInt = x8.toInt := by rw [← c170.symm.trans c167]
                  refine lv_if_ne (tgt := 148) hx hb dX12_isStreetHere_143 (by decide) (fun _ => ?_) (fun c => absurd c (by decide))
                  refine lv_aload_n hx hb dX12_isStreetHere_148 rfl (lv_at hl 2 rfl) ?_
                  refine lv_dup hx hb dX12_isStreetHere_149 rfl ?_
                  refine tk_geti hC hK hw hT hinX12 kM_at0 (by decide) rfl 8 (by decide) (List.mem_of_getElem? (i := 1) rfl) rfl rfl dX12_isStreetHere_150 (fun x173 c174 rx173 tx173 => ?_)
                  refine wk_top x1 (c174.symm.trans c169) ?_
                  refine lv_iconst (v := 1) hx hb dX12_isStreetHere_153 (by decide) ?_
                  refine lv_iadd hx hb dX12_isStreetHere_154 ?_
                  refine lv_topi (fun x175 ex175 => ?_)
                  have ex175 : x175.toInt = x1.toInt + (1 : Int) := by rw [ex175]; exact wk_add (show (-2147483648) ≤ x1.toInt + (1 : Int) by omega) (show x1.toInt + (1 : Int) ≤ 2147483647 by omega)
                  refine tk_puti hC hK hw hT hinX12 tyX12_ok nmX12 kM_at0 (by decide) rfl rfl 8 (by decide) (List.mem_of_getElem? (i := 1) rfl) rfl rfl rfl rfl (show 0 ≤ x175.toInt by omega) (show x175.toInt ≤ 12 by omega) dX12_isStreetHere_155 (fun H locs w176 hw hT k178 c177 => ?_)
                  have hF := hF.put kM_at0 (k := 8) (by decide) k178
                  have c179 := k178.gi (Or.inr (by decide)) c170
                  have c180 := k178.gi (Or.inr (by decide)) c171
                  have c181 := k178.gi (Or.inr (by decide)) c172
                  refine lv_iconst (v := 1) hx hb dX12_isStreetHere_158 (by decide) ?_
                  exact tk_zret hC hr rfl hlocks hK ⟨hT, hF, (Or.inr (Or.inr (Or.inr ⟨rfl, ⟨x8, c179, (show 1 ≤ x8.toInt by omega), (show x8.toInt ≤ 400 by omega)⟩, ⟨x19, c180, (show 1 ≤ x19.toInt by omega), (show x19.toInt ≤ 10 by omega)⟩, ⟨x175, c177, (show 1 ≤ x175.toInt by omega), (show x175.toInt ≤ 12 by omega)⟩, ⟨x135, c181, (show 1 ≤ x135.toInt by omega), (show x135.toInt ≤ 9 by omega)⟩⟩)))⟩ hw dX12_isStreetHere_159
            · have c110 : x100.toInt = x108.toInt := wk_eq.mp c110
              refine lv_aload_n hx hb dX12_isStreetHere_93 rfl (lv_at hl 2 rfl) ?_
              refine lv_iconst (v := 1) hx hb dX12_isStreetHere_94 (by decide) ?_
              refine lv_iload_n hx hb dX12_isStreetHere_95 rfl (lv_at hl 0 rfl) ?_
              refine tk_Vi hC hK hw hT hA hE hSR kM_at0 (by decide) rfl (k_X12_fails_1 l adK adV dC dI cy ad B (by omega) (by omega) qr s1   1 (by decide) (by decide) x62 (show 0 ≤ x62.toInt by omega) (show x62.toInt ≤ 400 by omega) w88 H.size hT ) (cwV 2 hC.2.2.2.2 gX12_isStreetHere_X12_fails rfl rfl rfl (by decide +kernel) ⟨Nat.le_of_ble_eq_true rfl, Nat.le_of_ble_eq_true rfl⟩) rfl hl.1 rfl (Nat.le_of_ble_eq_true rfl) dX12_isStreetHere_96 (fun r182 w184 H locs hp183 hw => ?_)
              obtain ⟨hT, k185, hg188⟩ := hp183
              have hF := hF.tr k185 (by decide)
              have c189 := k185.gi kM_at0 (by decide) c103
              have c190 := k185.gi kM_at0 (by decide) c104
              have c191 := k185.gi kM_at0 (by decide) c105
              have c192 := k185.gi kM_at0 (by decide) c101
              obtain ⟨rfl, ⟨x186, c187, rx186, tx186⟩⟩ := hg188
              exact tk_zret hC hr rfl hlocks hK ⟨hT, hF, (Or.inr (Or.inl ⟨rfl, ⟨x8, c190, (show 1 ≤ x8.toInt by omega), (show x8.toInt ≤ 400 by omega)⟩, ⟨x1, c189, (show 0 ≤ x1.toInt by omega), (show x1.toInt ≤ 11 by omega)⟩, ⟨x186, c187, (show 1 ≤ x186.toInt by omega), (show x186.toInt ≤ 3205 by omega)⟩⟩))⟩ hw dX12_isStreetHere_99
        · have ex66 : x66.toInt = x8.toInt := by rw [← c76.symm.trans c67]
          have g70 : (x68.toInt = x52.toInt ∨ (gi w45 1 (x52.toInt).toNat).toInt = 32) := by have q := g70; simp only [c53, c69] at q; omega
          refine lv_pop hx hb dX12_isStreetHere_58 rfl ?_
          refine lv_aload_n hx hb dX12_isStreetHere_59 rfl (lv_at hl 1 rfl) ?_
          refine tk_geti hC hK hw hT hinX12 kM_at0 (by decide) rfl 14 (by decide) (List.mem_of_getElem? (i := 5) rfl) rfl rfl dX12_isStreetHere_60 (fun x193 c194 rx193 tx193 => ?_)
          refine wk_top x68 (c194.symm.trans c69) ?_
          refine lv_istore_n (lv' := [(3, .int x68), (2, .int x18), (0, .ref (ad 0)), (1, .int a1)]) hx hb dX12_isStreetHere_63 rfl hl (by decide) rfl (fun ls hl => ?_)
          refine lv_aload_n hx hb dX12_isStreetHere_64 rfl (lv_at hl 2 rfl) ?_
          refine lv_iconst (v := 0) hx hb dX12_isStreetHere_65 (by decide) ?_
          refine lv_aload_n hx hb dX12_isStreetHere_66 rfl (lv_at hl 2 rfl) ?_
          refine tk_geti hC hK hw hT hinX12 kM_at0 (by decide) rfl 7 (by decide) (List.mem_of_getElem? (i := 2) rfl) rfl rfl dX12_isStreetHere_67 (fun x195 c196 rx195 tx195 => ?_)
          refine wk_top x19 (c196.symm.trans c77) ?_
          refine lv_iconst (v := 1) hx hb dX12_isStreetHere_70 (by decide) ?_
          refine lv_isub hx hb dX12_isStreetHere_71 ?_
          refine lv_topi (fun x197 ex197 => ?_)
          have ex197 : x197.toInt = x19.toInt - (1 : Int) := by rw [ex197]; exact wk_sub (show (-2147483648) ≤ x19.toInt - (1 : Int) by omega) (show x19.toInt - (1 : Int) ≤ 2147483647 by omega)
          refine tk_Vi hC hK hw hT hA hE hSR kM_at0 (by decide) rfl (k_X12_numberHere_7 l adK adV dC dI cy ad B (by omega) (by omega) qr s1   x197 (show 0 ≤ x197.toInt by omega) (show x197.toInt ≤ 9 by omega) w56 H.size hT ) (cwV 2 hC.2.2.2.2 gX12_isStreetHere_X12_numberHere rfl rfl rfl (by decide +kernel) ⟨Nat.le_of_ble_eq_true rfl, Nat.le_of_ble_eq_true rfl⟩) rfl hl.1 rfl (Nat.le_of_ble_eq_true rfl) dX12_isStreetHere_72 (fun r198 w200 H locs hp199 hw => ?_)
          obtain ⟨hT, k201, hg214⟩ := hp199
          have hF := hF.tr k201 (by decide)
          have c215 := k201.gi kM_at0 (by decide) c75
          have c216 := k201.gi kM_at0 (by decide) c76
          have c217 := k201.gi kM_at0 (by decide) c77
          rcases hg214 with ⟨rfl, ⟨x202, c203, rx202, tx202⟩, ⟨x204, c205, rx204, tx204⟩⟩ | ⟨rfl, ⟨x206, c207, rx206, tx206⟩, ⟨x208, c209, rx208, tx208⟩⟩ | ⟨rfl, ⟨x210, c211, rx210, tx210⟩, ⟨x212, c213, rx212, tx212⟩⟩
          · have ex202 : x202.toInt = x8.toInt := by rw [← c216.symm.trans c203]
            refine lv_if_ne (tgt := 80) hx hb dX12_isStreetHere_75 (by decide) (fun c => absurd (by decide) c) (fun _ => ?_)
            refine lv_iconst (v := 0) hx hb dX12_isStreetHere_78 (by decide) ?_
            exact tk_zret hC hr rfl hlocks hK ⟨hT, hF, (Or.inr (Or.inl ⟨rfl, ⟨x8, c216, (show 1 ≤ x8.toInt by omega), (show x8.toInt ≤ 400 by omega)⟩, ⟨x1, c215, (show 0 ≤ x1.toInt by omega), (show x1.toInt ≤ 11 by omega)⟩, ⟨x204, c205, (show 1 ≤ x204.toInt by omega), (show x204.toInt ≤ 3205 by omega)⟩⟩))⟩ hw dX12_isStreetHere_79
          · have ex206 : x206.toInt = x8.toInt := by rw [← c216.symm.trans c207]
            refine lv_if_ne (tgt := 80) hx hb dX12_isStreetHere_75 (by decide) (fun c => absurd (by decide) c) (fun _ => ?_)
            refine lv_iconst (v := 0) hx hb dX12_isStreetHere_78 (by decide) ?_
            exact tk_zret hC hr rfl hlocks hK ⟨hT, hF, (Or.inr (Or.inl ⟨rfl, ⟨x8, c216, (show 1 ≤ x8.toInt by omega), (show x8.toInt ≤ 400 by omega)⟩, ⟨x1, c215, (show 0 ≤ x1.toInt by omega), (show x1.toInt ≤ 11 by omega)⟩, ⟨x208, c209, (show 1 ≤ x208.toInt by omega), (show x208.toInt ≤ 3205 by omega)⟩⟩))⟩ hw dX12_isStreetHere_79
          · have ex210 : x210.toInt = x8.toInt := by rw [← c216.symm.trans c211]
            refine lv_if_ne (tgt := 80) hx hb dX12_isStreetHere_75 (by decide) (fun _ => ?_) (fun c => absurd c (by decide))
            refine lv_aload_n hx hb dX12_isStreetHere_80 rfl (lv_at hl 2 rfl) ?_
            refine tk_geti hC hK hw hT hinX12 kM_at0 (by decide) rfl 16 (by decide) (List.mem_of_getElem? (i := 4) rfl) rfl rfl dX12_isStreetHere_81 (fun x218 c219 rx218 tx218 => ?_)
            refine wk_top x212 (c219.symm.trans c213) ?_
            refine lv_aload_n hx hb dX12_isStreetHere_84 rfl (lv_at hl 2 rfl) ?_
            refine tk_getA hC hK hw hT hinX12 kM_at0 (by decide) rfl 11 (by decide) (List.mem_of_getElem? (i := 3) rfl) rfl rfl dX12_isStreetHere_85 ?_
            refine lv_iload_n hx hb dX12_isStreetHere_88 rfl (lv_at hl 1 rfl) ?_
            refine tk_iald hC hK hw hT kM_at6 rfl rfl (show 0 ≤ x18.toInt by omega) (show x18.toInt < 120 by omega) dX12_isStreetHere_89 (fun x220 c221 rx220 tx220 => ?_)
            refine lv_icmp_ne (tgt := 100) hx hb dX12_isStreetHere_90 (by decide) (fun c222 => ?_) (fun c222 => ?_)
            · have c222 : ¬ x212.toInt = x220.toInt := wk_eqF c222
              refine lv_aload_n hx hb dX12_isStreetHere_100 rfl (lv_at hl 2 rfl) ?_
              refine tk_getA hC hK hw hT hinX12 kM_at0 (by decide) rfl 11 (by decide) (List.mem_of_getElem? (i := 3) rfl) rfl rfl dX12_isStreetHere_101 ?_
              refine lv_iload_n hx hb dX12_isStreetHere_104 rfl (lv_at hl 1 rfl) ?_
              refine lv_iconst (v := 1) hx hb dX12_isStreetHere_105 (by decide) ?_
              refine lv_iadd hx hb dX12_isStreetHere_106 ?_
              refine lv_topi (fun x223 ex223 => ?_)
              have ex223 : x223.toInt = x18.toInt + (1 : Int) := by rw [ex223]; exact wk_add (show (-2147483648) ≤ x18.toInt + (1 : Int) by omega) (show x18.toInt + (1 : Int) ≤ 2147483647 by omega)
              refine lv_aload_n hx hb dX12_isStreetHere_107 rfl (lv_at hl 2 rfl) ?_
              refine tk_geti hC hK hw hT hinX12 kM_at0 (by decide) rfl 16 (by decide) (List.mem_of_getElem? (i := 4) rfl) rfl rfl dX12_isStreetHere_108 (fun x224 c225 rx224 tx224 => ?_)
              refine wk_top x212 (c225.symm.trans c213) ?_
              refine tk_iast hC hK hw hT kM_at6 (by decide) rfl rfl (show 0 ≤ x223.toInt by omega) (show x223.toInt < 120 by omega) (show 0 ≤ x212.toInt by omega) (show x212.toInt ≤ 9 by omega) dX12_isStreetHere_111 (fun H locs w226 hw hT k228 c227 => ?_)
              have hF := hF.put kM_at6 (inE_of (a := 0) (b := 120) (by decide) (show 0 ≤ x223.toInt.toNat by omega) (show x223.toInt.toNat ≤ 120 by omega)) k228
              have c229 := k228.gi (Or.inl (tk_ne kM_at0 kM_at6 (by decide))) c215
              have c230 := k228.gi (Or.inl (tk_ne kM_at0 kM_at6 (by decide))) c216
              have c231 := k228.gi (Or.inl (tk_ne kM_at0 kM_at6 (by decide))) c217
              have c232 := k228.gi (Or.inl (tk_ne kM_at0 kM_at6 (by decide))) c213
              refine lv_aload_n hx hb dX12_isStreetHere_112 rfl (lv_at hl 2 rfl) ?_
              refine lv_iconst (v := 1) hx hb dX12_isStreetHere_113 (by decide) ?_
              refine lv_bipush (v := 9) hx hb dX12_isStreetHere_114 (by decide) ?_
              refine tk_Vi hC hK hw hT hA hE hSR kM_at0 (by decide) rfl (k_X12_numberHere_8 l adK adV dC dI cy ad B (by omega) (by omega) qr s1    w226 H.size hT ) (cwV 2 hC.2.2.2.2 gX12_isStreetHere_X12_numberHere rfl rfl rfl (by decide +kernel) ⟨Nat.le_of_ble_eq_true rfl, Nat.le_of_ble_eq_true rfl⟩) rfl hl.1 rfl (Nat.le_of_ble_eq_true rfl) dX12_isStreetHere_116 (fun r233 w235 H locs hp234 hw => ?_)
              obtain ⟨hT, k236, hg249⟩ := hp234
              have hF := hF.tr k236 (by decide)
              have c250 := k236.gi kM_at0 (by decide) c229
              have c251 := k236.gi kM_at0 (by decide) c230
              have c252 := k236.gi kM_at0 (by decide) c231
              rcases hg249 with ⟨rfl, ⟨x237, c238, rx237, tx237⟩, ⟨x239, c240, rx239, tx239⟩⟩ | ⟨rfl, ⟨x241, c242, rx241, tx241⟩, ⟨x243, c244, rx243, tx243⟩⟩ | ⟨rfl, ⟨x245, c246, rx245, tx245⟩, ⟨x247, c248, rx247, tx247⟩⟩
              · have ex237 : x237.toInt = x8.toInt := by rw [← c251.symm.trans c238]
                refine lv_if_ne (tgt := 124) hx hb dX12_isStreetHere_119 (by decide) (fun c => absurd (by decide) c) (fun _ => ?_)
                refine lv_iconst (v := 0) hx hb dX12_isStreetHere_122 (by decide) ?_
                exact tk_zret hC hr rfl hlocks hK ⟨hT, hF, (Or.inr (Or.inl ⟨rfl, ⟨x8, c251, (show 1 ≤ x8.toInt by omega), (show x8.toInt ≤ 400 by omega)⟩, ⟨x1, c250, (show 0 ≤ x1.toInt by omega), (show x1.toInt ≤ 11 by omega)⟩, ⟨x239, c240, (show 1 ≤ x239.toInt by omega), (show x239.toInt ≤ 3205 by omega)⟩⟩))⟩ hw dX12_isStreetHere_123
              · have ex241 : x241.toInt = x8.toInt := by rw [← c251.symm.trans c242]
                refine lv_if_ne (tgt := 124) hx hb dX12_isStreetHere_119 (by decide) (fun c => absurd (by decide) c) (fun _ => ?_)
                refine lv_iconst (v := 0) hx hb dX12_isStreetHere_122 (by decide) ?_
                exact tk_zret hC hr rfl hlocks hK ⟨hT, hF, (Or.inr (Or.inl ⟨rfl, ⟨x8, c251, (show 1 ≤ x8.toInt by omega), (show x8.toInt ≤ 400 by omega)⟩, ⟨x1, c250, (show 0 ≤ x1.toInt by omega), (show x1.toInt ≤ 11 by omega)⟩, ⟨x243, c244, (show 1 ≤ x243.toInt by omega), (show x243.toInt ≤ 3205 by omega)⟩⟩))⟩ hw dX12_isStreetHere_123
              · have ex245 : x245.toInt = x8.toInt := by rw [← c251.symm.trans c246]
                refine lv_if_ne (tgt := 124) hx hb dX12_isStreetHere_119 (by decide) (fun _ => ?_) (fun c => absurd c (by decide))
                refine lv_aload_n hx hb dX12_isStreetHere_124 rfl (lv_at hl 2 rfl) ?_
                refine tk_getA hC hK hw hT hinX12 kM_at0 (by decide) rfl 11 (by decide) (List.mem_of_getElem? (i := 3) rfl) rfl rfl dX12_isStreetHere_125 ?_
                refine lv_iload_n hx hb dX12_isStreetHere_128 rfl (lv_at hl 1 rfl) ?_
                refine lv_iconst (v := 2) hx hb dX12_isStreetHere_129 (by decide) ?_
                refine lv_iadd hx hb dX12_isStreetHere_130 ?_
                refine lv_topi (fun x253 ex253 => ?_)
                have ex253 : x253.toInt = x18.toInt + (2 : Int) := by rw [ex253]; exact wk_add (show (-2147483648) ≤ x18.toInt + (2 : Int) by omega) (show x18.toInt + (2 : Int) ≤ 2147483647 by omega)
                refine lv_aload_n hx hb dX12_isStreetHere_131 rfl (lv_at hl 2 rfl) ?_
                refine tk_geti hC hK hw hT hinX12 kM_at0 (by decide) rfl 16 (by decide) (List.mem_of_getElem? (i := 4) rfl) rfl rfl dX12_isStreetHere_132 (fun x254 c255 rx254 tx254 => ?_)
                refine wk_top x247 (c255.symm.trans c248) ?_
                refine tk_iast hC hK hw hT kM_at6 (by decide) rfl rfl (show 0 ≤ x253.toInt by omega) (show x253.toInt < 120 by omega) (show 0 ≤ x247.toInt by omega) (show x247.toInt ≤ 9 by omega) dX12_isStreetHere_135 (fun H locs w256 hw hT k258 c257 => ?_)
                have hF := hF.put kM_at6 (inE_of (a := 0) (b := 120) (by decide) (show 0 ≤ x253.toInt.toNat by omega) (show x253.toInt.toNat ≤ 120 by omega)) k258
                have c259 := k258.gi (Or.inl (tk_ne kM_at0 kM_at6 (by decide))) c250
                have c260 := k258.gi (Or.inl (tk_ne kM_at0 kM_at6 (by decide))) c251
                have c261 := k258.gi (Or.inl (tk_ne kM_at0 kM_at6 (by decide))) c252
                have c262 := k258.gi (Or.inl (tk_ne kM_at0 kM_at6 (by decide))) c248
                refine lv_aload_n hx hb dX12_isStreetHere_136 rfl (lv_at hl 2 rfl) ?_
                refine lv_iload_n hx hb dX12_isStreetHere_137 rfl (lv_at hl 1 rfl) ?_
                refine lv_iconst (v := 3) hx hb dX12_isStreetHere_138 (by decide) ?_
                refine lv_iadd hx hb dX12_isStreetHere_139 ?_
                refine lv_topi (fun x263 ex263 => ?_)
                have ex263 : x263.toInt = x18.toInt + (3 : Int) := by rw [ex263]; exact wk_add (show (-2147483648) ≤ x18.toInt + (3 : Int) by omega) (show x18.toInt + (3 : Int) ≤ 2147483647 by omega)
                refine tk_Vi hC hK hw hT hA hE hSR kM_at0 (by decide) rfl (k_X12_areSignsHere_1 l adK adV dC dI cy ad B (by omega) (by omega) qr s1   x263 (show 3 ≤ x263.toInt by omega) (show x263.toInt ≤ 113 by omega) w256 H.size hT ) (cwV 1 hC.2.2.2.2 gX12_isStreetHere_X12_areSignsHere rfl rfl rfl (by decide +kernel) ⟨Nat.le_of_ble_eq_true rfl, Nat.le_of_ble_eq_true rfl⟩) rfl hl.1 rfl (Nat.le_of_ble_eq_true rfl) dX12_isStreetHere_140 (fun r264 w266 H locs hp265 hw => ?_)
                obtain ⟨hT, k267, hg280⟩ := hp265
                have hF := hF.tr k267 (by decide)
                have c281 := k267.gi kM_at0 (by decide) c259
                have c282 := k267.gi kM_at0 (by decide) c260
                have c283 := k267.gi kM_at0 (by decide) c261
                have c284 := k267.gi kM_at0 (by decide) c262
                rcases hg280 with ⟨rfl, ⟨x268, c269, rx268, tx268⟩, ⟨x270, c271, rx270, tx270⟩, ⟨x272, c273, rx272, tx272⟩⟩ | ⟨rfl, ⟨x274, c275, rx274, tx274⟩, ⟨x276, c277, rx276, tx276⟩⟩ | ⟨rfl, ⟨x278, c279, rx278, tx278⟩⟩
                · have ex268 : x268.toInt = x8.toInt := by rw [← c282.symm.trans c269]
                  refine lv_if_ne (tgt := 148) hx hb dX12_isStreetHere_143 (by decide) (fun c => absurd (by decide) c) (fun _ => ?_)
                  refine lv_iconst (v := 0) hx hb dX12_isStreetHere_146 (by decide) ?_
                  exact tk_zret hC hr rfl hlocks hK ⟨hT, hF, (Or.inr (Or.inl ⟨rfl, ⟨x8, c282, (show 1 ≤ x8.toInt by omega), (show x8.toInt ≤ 400 by omega)⟩, ⟨x1, c281, (show 0 ≤ x1.toInt by omega), (show x1.toInt ≤ 11 by omega)⟩, ⟨x272, c273, (show 1 ≤ x272.toInt by omega), (show x272.toInt ≤ 3205 by omega)⟩⟩))⟩ hw dX12_isStreetHere_147
                · have ex274 : x274.toInt = x8.toInt := by rw [← c282.symm.trans c275]
                  refine lv_if_ne (tgt := 148) hx hb dX12_isStreetHere_143 (by decide) (fun c => absurd (by decide) c) (fun _ => ?_)
                  refine lv_iconst (v := 0) hx hb dX12_isStreetHere_146 (by decide) ?_
                  exact tk_zret hC hr rfl hlocks hK ⟨hT, hF, (Or.inr (Or.inl ⟨rfl, ⟨x8, c282, (show 1 ≤ x8.toInt by omega), (show x8.toInt ≤ 400 by omega)⟩, ⟨x1, c281, (show 0 ≤ x1.toInt by omega), (show x1.toInt ≤ 11 by omega)⟩, ⟨x276, c277, (show 1 ≤ x276.toInt by omega), (show x276.toInt ≤ 3205 by omega)⟩⟩))⟩ hw dX12_isStreetHere_147
                · have ex278 : x278.toInt = x8.toInt := by rw [← c282.symm.trans c279]
                  refine lv_if_ne (tgt := 148) hx hb dX12_isStreetHere_143 (by decide) (fun _ => ?_) (fun c => absurd c (by decide))
                  refine lv_aload_n hx hb dX12_isStreetHere_148 rfl (lv_at hl 2 rfl) ?_
                  refine lv_dup hx hb dX12_isStreetHere_149 rfl ?_
                  refine tk_geti hC hK hw hT hinX12 kM_at0 (by decide) rfl 8 (by decide) (List.mem_of_getElem? (i := 1) rfl) rfl rfl dX12_isStreetHere_150 (fun x285 c286 rx285 tx285 => ?_)
                  refine wk_top x1 (c286.symm.trans c281) ?_
                  refine lv_iconst (v := 1) hx hb dX12_isStreetHere_153 (by decide) ?_
                  refine lv_iadd hx hb dX12_isStreetHere_154 ?_
                  refine lv_topi (fun x287 ex287 => ?_)
                  have ex287 : x287.toInt = x1.toInt + (1 : Int) := by rw [ex287]; exact wk_add (show (-2147483648) ≤ x1.toInt + (1 : Int) by omega) (show x1.toInt + (1 : Int) ≤ 2147483647 by omega)
                  refine tk_puti hC hK hw hT hinX12 tyX12_ok nmX12 kM_at0 (by decide) rfl rfl 8 (by decide) (List.mem_of_getElem? (i := 1) rfl) rfl rfl rfl rfl (show 0 ≤ x287.toInt by omega) (show x287.toInt ≤ 12 by omega) dX12_isStreetHere_155 (fun H locs w288 hw hT k290 c289 => ?_)
                  have hF := hF.put kM_at0 (k := 8) (by decide) k290
                  have c291 := k290.gi (Or.inr (by decide)) c282
                  have c292 := k290.gi (Or.inr (by decide)) c283
                  have c293 := k290.gi (Or.inr (by decide)) c284
                  refine lv_iconst (v := 1) hx hb dX12_isStreetHere_158 (by decide) ?_
                  exact tk_zret hC hr rfl hlocks hK ⟨hT, hF, (Or.inr (Or.inr (Or.inr ⟨rfl, ⟨x8, c291, (show 1 ≤ x8.toInt by omega), (show x8.toInt ≤ 400 by omega)⟩, ⟨x19, c292, (show 1 ≤ x19.toInt by omega), (show x19.toInt ≤ 10 by omega)⟩, ⟨x287, c289, (show 1 ≤ x287.toInt by omega), (show x287.toInt ≤ 12 by omega)⟩, ⟨x247, c293, (show 1 ≤ x247.toInt by omega), (show x247.toInt ≤ 9 by omega)⟩⟩)))⟩ hw dX12_isStreetHere_159
            · have c222 : x212.toInt = x220.toInt := wk_eq.mp c222
              refine lv_aload_n hx hb dX12_isStreetHere_93 rfl (lv_at hl 2 rfl) ?_
              refine lv_iconst (v := 1) hx hb dX12_isStreetHere_94 (by decide) ?_
              refine lv_iload_n hx hb dX12_isStreetHere_95 rfl (lv_at hl 0 rfl) ?_
              refine tk_Vi hC hK hw hT hA hE hSR kM_at0 (by decide) rfl (k_X12_fails_1 l adK adV dC dI cy ad B (by omega) (by omega) qr s1   1 (by decide) (by decide) x68 (show 0 ≤ x68.toInt by omega) (show x68.toInt ≤ 400 by omega) w200 H.size hT ) (cwV 2 hC.2.2.2.2 gX12_isStreetHere_X12_fails rfl rfl rfl (by decide +kernel) ⟨Nat.le_of_ble_eq_true rfl, Nat.le_of_ble_eq_true rfl⟩) rfl hl.1 rfl (Nat.le_of_ble_eq_true rfl) dX12_isStreetHere_96 (fun r294 w296 H locs hp295 hw => ?_)
              obtain ⟨hT, k297, hg300⟩ := hp295
              have hF := hF.tr k297 (by decide)
              have c301 := k297.gi kM_at0 (by decide) c215
              have c302 := k297.gi kM_at0 (by decide) c216
              have c303 := k297.gi kM_at0 (by decide) c217
              have c304 := k297.gi kM_at0 (by decide) c213
              obtain ⟨rfl, ⟨x298, c299, rx298, tx298⟩⟩ := hg300
              exact tk_zret hC hr rfl hlocks hK ⟨hT, hF, (Or.inr (Or.inl ⟨rfl, ⟨x8, c302, (show 1 ≤ x8.toInt by omega), (show x8.toInt ≤ 400 by omega)⟩, ⟨x1, c301, (show 0 ≤ x1.toInt by omega), (show x1.toInt ≤ 11 by omega)⟩, ⟨x298, c299, (show 1 ≤ x298.toInt by omega), (show x298.toInt ≤ 3205 by omega)⟩⟩))⟩ hw dX12_isStreetHere_99
        · have ex71 : x71.toInt = x8.toInt := by rw [← c76.symm.trans c72]
          obtain ⟨x79, c80, rx79, tx79⟩ := hT.rdi (lo := 0) (hi := 400) (k := 14) kM_at0 (by decide) rfl
          have g73 : (x79.toInt = x52.toInt ∨ (gi w45 1 (x52.toInt).toNat).toInt = 32) := by have q := g73; simp only [c53, c80] at q; omega
          refine lv_pop hx hb dX12_isStreetHere_58 rfl ?_
          refine lv_aload_n hx hb dX12_isStreetHere_59 rfl (lv_at hl 1 rfl) ?_
          refine tk_geti hC hK hw hT hinX12 kM_at0 (by decide) rfl 14 (by decide) (List.mem_of_getElem? (i := 5) rfl) rfl rfl dX12_isStreetHere_60 (fun x305 c306 rx305 tx305 => ?_)
          refine wk_top x79 (c306.symm.trans c80) ?_
          refine lv_istore_n (lv' := [(3, .int x79), (2, .int x18), (0, .ref (ad 0)), (1, .int a1)]) hx hb dX12_isStreetHere_63 rfl hl (by decide) rfl (fun ls hl => ?_)
          refine lv_aload_n hx hb dX12_isStreetHere_64 rfl (lv_at hl 2 rfl) ?_
          refine lv_iconst (v := 0) hx hb dX12_isStreetHere_65 (by decide) ?_
          refine lv_aload_n hx hb dX12_isStreetHere_66 rfl (lv_at hl 2 rfl) ?_
          refine tk_geti hC hK hw hT hinX12 kM_at0 (by decide) rfl 7 (by decide) (List.mem_of_getElem? (i := 2) rfl) rfl rfl dX12_isStreetHere_67 (fun x307 c308 rx307 tx307 => ?_)
          refine wk_top x19 (c308.symm.trans c77) ?_
          refine lv_iconst (v := 1) hx hb dX12_isStreetHere_70 (by decide) ?_
          refine lv_isub hx hb dX12_isStreetHere_71 ?_
          refine lv_topi (fun x309 ex309 => ?_)
          have ex309 : x309.toInt = x19.toInt - (1 : Int) := by rw [ex309]; exact wk_sub (show (-2147483648) ≤ x19.toInt - (1 : Int) by omega) (show x19.toInt - (1 : Int) ≤ 2147483647 by omega)
          refine tk_Vi hC hK hw hT hA hE hSR kM_at0 (by decide) rfl (k_X12_numberHere_7 l adK adV dC dI cy ad B (by omega) (by omega) qr s1   x309 (show 0 ≤ x309.toInt by omega) (show x309.toInt ≤ 9 by omega) w56 H.size hT ) (cwV 2 hC.2.2.2.2 gX12_isStreetHere_X12_numberHere rfl rfl rfl (by decide +kernel) ⟨Nat.le_of_ble_eq_true rfl, Nat.le_of_ble_eq_true rfl⟩) rfl hl.1 rfl (Nat.le_of_ble_eq_true rfl) dX12_isStreetHere_72 (fun r310 w312 H locs hp311 hw => ?_)
          obtain ⟨hT, k313, hg326⟩ := hp311
          have hF := hF.tr k313 (by decide)
          have c327 := k313.gi kM_at0 (by decide) c75
          have c328 := k313.gi kM_at0 (by decide) c76
          have c329 := k313.gi kM_at0 (by decide) c77
          rcases hg326 with ⟨rfl, ⟨x314, c315, rx314, tx314⟩, ⟨x316, c317, rx316, tx316⟩⟩ | ⟨rfl, ⟨x318, c319, rx318, tx318⟩, ⟨x320, c321, rx320, tx320⟩⟩ | ⟨rfl, ⟨x322, c323, rx322, tx322⟩, ⟨x324, c325, rx324, tx324⟩⟩
          · have ex314 : x314.toInt = x8.toInt := by rw [← c328.symm.trans c315]
            refine lv_if_ne (tgt := 80) hx hb dX12_isStreetHere_75 (by decide) (fun c => absurd (by decide) c) (fun _ => ?_)
            refine lv_iconst (v := 0) hx hb dX12_isStreetHere_78 (by decide) ?_
            exact tk_zret hC hr rfl hlocks hK ⟨hT, hF, (Or.inr (Or.inl ⟨rfl, ⟨x8, c328, (show 1 ≤ x8.toInt by omega), (show x8.toInt ≤ 400 by omega)⟩, ⟨x1, c327, (show 0 ≤ x1.toInt by omega), (show x1.toInt ≤ 11 by omega)⟩, ⟨x316, c317, (show 1 ≤ x316.toInt by omega), (show x316.toInt ≤ 3205 by omega)⟩⟩))⟩ hw dX12_isStreetHere_79
          · have ex318 : x318.toInt = x8.toInt := by rw [← c328.symm.trans c319]
            refine lv_if_ne (tgt := 80) hx hb dX12_isStreetHere_75 (by decide) (fun c => absurd (by decide) c) (fun _ => ?_)
            refine lv_iconst (v := 0) hx hb dX12_isStreetHere_78 (by decide) ?_
            exact tk_zret hC hr rfl hlocks hK ⟨hT, hF, (Or.inr (Or.inl ⟨rfl, ⟨x8, c328, (show 1 ≤ x8.toInt by omega), (show x8.toInt ≤ 400 by omega)⟩, ⟨x1, c327, (show 0 ≤ x1.toInt by omega), (show x1.toInt ≤ 11 by omega)⟩, ⟨x320, c321, (show 1 ≤ x320.toInt by omega), (show x320.toInt ≤ 3205 by omega)⟩⟩))⟩ hw dX12_isStreetHere_79
          · have ex322 : x322.toInt = x8.toInt := by rw [← c328.symm.trans c323]
            refine lv_if_ne (tgt := 80) hx hb dX12_isStreetHere_75 (by decide) (fun _ => ?_) (fun c => absurd c (by decide))
            refine lv_aload_n hx hb dX12_isStreetHere_80 rfl (lv_at hl 2 rfl) ?_
            refine tk_geti hC hK hw hT hinX12 kM_at0 (by decide) rfl 16 (by decide) (List.mem_of_getElem? (i := 4) rfl) rfl rfl dX12_isStreetHere_81 (fun x330 c331 rx330 tx330 => ?_)
            refine wk_top x324 (c331.symm.trans c325) ?_
            refine lv_aload_n hx hb dX12_isStreetHere_84 rfl (lv_at hl 2 rfl) ?_
            refine tk_getA hC hK hw hT hinX12 kM_at0 (by decide) rfl 11 (by decide) (List.mem_of_getElem? (i := 3) rfl) rfl rfl dX12_isStreetHere_85 ?_
            refine lv_iload_n hx hb dX12_isStreetHere_88 rfl (lv_at hl 1 rfl) ?_
            refine tk_iald hC hK hw hT kM_at6 rfl rfl (show 0 ≤ x18.toInt by omega) (show x18.toInt < 120 by omega) dX12_isStreetHere_89 (fun x332 c333 rx332 tx332 => ?_)
            refine lv_icmp_ne (tgt := 100) hx hb dX12_isStreetHere_90 (by decide) (fun c334 => ?_) (fun c334 => ?_)
            · have c334 : ¬ x324.toInt = x332.toInt := wk_eqF c334
              refine lv_aload_n hx hb dX12_isStreetHere_100 rfl (lv_at hl 2 rfl) ?_
              refine tk_getA hC hK hw hT hinX12 kM_at0 (by decide) rfl 11 (by decide) (List.mem_of_getElem? (i := 3) rfl) rfl rfl dX12_isStreetHere_101 ?_
              refine lv_iload_n hx hb dX12_isStreetHere_104 rfl (lv_at hl 1 rfl) ?_
              refine lv_iconst (v := 1) hx hb dX12_isStreetHere_105 (by decide) ?_
              refine lv_iadd hx hb dX12_isStreetHere_106 ?_
              refine lv_topi (fun x335 ex335 => ?_)
              have ex335 : x335.toInt = x18.toInt + (1 : Int) := by rw [ex335]; exact wk_add (show (-2147483648) ≤ x18.toInt + (1 : Int) by omega) (show x18.toInt + (1 : Int) ≤ 2147483647 by omega)
              refine lv_aload_n hx hb dX12_isStreetHere_107 rfl (lv_at hl 2 rfl) ?_
              refine tk_geti hC hK hw hT hinX12 kM_at0 (by decide) rfl 16 (by decide) (List.mem_of_getElem? (i := 4) rfl) rfl rfl dX12_isStreetHere_108 (fun x336 c337 rx336 tx336 => ?_)
              refine wk_top x324 (c337.symm.trans c325) ?_
              refine tk_iast hC hK hw hT kM_at6 (by decide) rfl rfl (show 0 ≤ x335.toInt by omega) (show x335.toInt < 120 by omega) (show 0 ≤ x324.toInt by omega) (show x324.toInt ≤ 9 by omega) dX12_isStreetHere_111 (fun H locs w338 hw hT k340 c339 => ?_)
              have hF := hF.put kM_at6 (inE_of (a := 0) (b := 120) (by decide) (show 0 ≤ x335.toInt.toNat by omega) (show x335.toInt.toNat ≤ 120 by omega)) k340
              have c341 := k340.gi (Or.inl (tk_ne kM_at0 kM_at6 (by decide))) c327
              have c342 := k340.gi (Or.inl (tk_ne kM_at0 kM_at6 (by decide))) c328
              have c343 := k340.gi (Or.inl (tk_ne kM_at0 kM_at6 (by decide))) c329
              have c344 := k340.gi (Or.inl (tk_ne kM_at0 kM_at6 (by decide))) c325
              refine lv_aload_n hx hb dX12_isStreetHere_112 rfl (lv_at hl 2 rfl) ?_
              refine lv_iconst (v := 1) hx hb dX12_isStreetHere_113 (by decide) ?_
              refine lv_bipush (v := 9) hx hb dX12_isStreetHere_114 (by decide) ?_
              refine tk_Vi hC hK hw hT hA hE hSR kM_at0 (by decide) rfl (k_X12_numberHere_8 l adK adV dC dI cy ad B (by omega) (by omega) qr s1    w338 H.size hT ) (cwV 2 hC.2.2.2.2 gX12_isStreetHere_X12_numberHere rfl rfl rfl (by decide +kernel) ⟨Nat.le_of_ble_eq_true rfl, Nat.le_of_ble_eq_true rfl⟩) rfl hl.1 rfl (Nat.le_of_ble_eq_true rfl) dX12_isStreetHere_116 (fun r345 w347 H locs hp346 hw => ?_)
              obtain ⟨hT, k348, hg361⟩ := hp346
              have hF := hF.tr k348 (by decide)
              have c362 := k348.gi kM_at0 (by decide) c341
              have c363 := k348.gi kM_at0 (by decide) c342
              have c364 := k348.gi kM_at0 (by decide) c343
              rcases hg361 with ⟨rfl, ⟨x349, c350, rx349, tx349⟩, ⟨x351, c352, rx351, tx351⟩⟩ | ⟨rfl, ⟨x353, c354, rx353, tx353⟩, ⟨x355, c356, rx355, tx355⟩⟩ | ⟨rfl, ⟨x357, c358, rx357, tx357⟩, ⟨x359, c360, rx359, tx359⟩⟩
              · have ex349 : x349.toInt = x8.toInt := by rw [← c363.symm.trans c350]
                refine lv_if_ne (tgt := 124) hx hb dX12_isStreetHere_119 (by decide) (fun c => absurd (by decide) c) (fun _ => ?_)
                refine lv_iconst (v := 0) hx hb dX12_isStreetHere_122 (by decide) ?_
                exact tk_zret hC hr rfl hlocks hK ⟨hT, hF, (Or.inr (Or.inl ⟨rfl, ⟨x8, c363, (show 1 ≤ x8.toInt by omega), (show x8.toInt ≤ 400 by omega)⟩, ⟨x1, c362, (show 0 ≤ x1.toInt by omega), (show x1.toInt ≤ 11 by omega)⟩, ⟨x351, c352, (show 1 ≤ x351.toInt by omega), (show x351.toInt ≤ 3205 by omega)⟩⟩))⟩ hw dX12_isStreetHere_123
              · have ex353 : x353.toInt = x8.toInt := by rw [← c363.symm.trans c354]
                refine lv_if_ne (tgt := 124) hx hb dX12_isStreetHere_119 (by decide) (fun c => absurd (by decide) c) (fun _ => ?_)
                refine lv_iconst (v := 0) hx hb dX12_isStreetHere_122 (by decide) ?_
                exact tk_zret hC hr rfl hlocks hK ⟨hT, hF, (Or.inr (Or.inl ⟨rfl, ⟨x8, c363, (show 1 ≤ x8.toInt by omega), (show x8.toInt ≤ 400 by omega)⟩, ⟨x1, c362, (show 0 ≤ x1.toInt by omega), (show x1.toInt ≤ 11 by omega)⟩, ⟨x355, c356, (show 1 ≤ x355.toInt by omega), (show x355.toInt ≤ 3205 by omega)⟩⟩))⟩ hw dX12_isStreetHere_123
              · have ex357 : x357.toInt = x8.toInt := by rw [← c363.symm.trans c358]
                refine lv_if_ne (tgt := 124) hx hb dX12_isStreetHere_119 (by decide) (fun _ => ?_) (fun c => absurd c (by decide))
                refine lv_aload_n hx hb dX12_isStreetHere_124 rfl (lv_at hl 2 rfl) ?_
                refine tk_getA hC hK hw hT hinX12 kM_at0 (by decide) rfl 11 (by decide) (List.mem_of_getElem? (i := 3) rfl) rfl rfl dX12_isStreetHere_125 ?_
                refine lv_iload_n hx hb dX12_isStreetHere_128 rfl (lv_at hl 1 rfl) ?_
                refine lv_iconst (v := 2) hx hb dX12_isStreetHere_129 (by decide) ?_
                refine lv_iadd hx hb dX12_isStreetHere_130 ?_
                refine lv_topi (fun x365 ex365 => ?_)
                have ex365 : x365.toInt = x18.toInt + (2 : Int) := by rw [ex365]; exact wk_add (show (-2147483648) ≤ x18.toInt + (2 : Int) by omega) (show x18.toInt + (2 : Int) ≤ 2147483647 by omega)
                refine lv_aload_n hx hb dX12_isStreetHere_131 rfl (lv_at hl 2 rfl) ?_
                refine tk_geti hC hK hw hT hinX12 kM_at0 (by decide) rfl 16 (by decide) (List.mem_of_getElem? (i := 4) rfl) rfl rfl dX12_isStreetHere_132 (fun x366 c367 rx366 tx366 => ?_)
                refine wk_top x359 (c367.symm.trans c360) ?_
                refine tk_iast hC hK hw hT kM_at6 (by decide) rfl rfl (show 0 ≤ x365.toInt by omega) (show x365.toInt < 120 by omega) (show 0 ≤ x359.toInt by omega) (show x359.toInt ≤ 9 by omega) dX12_isStreetHere_135 (fun H locs w368 hw hT k370 c369 => ?_)
                have hF := hF.put kM_at6 (inE_of (a := 0) (b := 120) (by decide) (show 0 ≤ x365.toInt.toNat by omega) (show x365.toInt.toNat ≤ 120 by omega)) k370
                have c371 := k370.gi (Or.inl (tk_ne kM_at0 kM_at6 (by decide))) c362
                have c372 := k370.gi (Or.inl (tk_ne kM_at0 kM_at6 (by decide))) c363
                have c373 := k370.gi (Or.inl (tk_ne kM_at0 kM_at6 (by decide))) c364
                have c374 := k370.gi (Or.inl (tk_ne kM_at0 kM_at6 (by decide))) c360
                refine lv_aload_n hx hb dX12_isStreetHere_136 rfl (lv_at hl 2 rfl) ?_
                refine lv_iload_n hx hb dX12_isStreetHere_137 rfl (lv_at hl 1 rfl) ?_
                refine lv_iconst (v := 3) hx hb dX12_isStreetHere_138 (by decide) ?_
                refine lv_iadd hx hb dX12_isStreetHere_139 ?_
                refine lv_topi (fun x375 ex375 => ?_)
                have ex375 : x375.toInt = x18.toInt + (3 : Int) := by rw [ex375]; exact wk_add (show (-2147483648) ≤ x18.toInt + (3 : Int) by omega) (show x18.toInt + (3 : Int) ≤ 2147483647 by omega)
                refine tk_Vi hC hK hw hT hA hE hSR kM_at0 (by decide) rfl (k_X12_areSignsHere_1 l adK adV dC dI cy ad B (by omega) (by omega) qr s1   x375 (show 3 ≤ x375.toInt by omega) (show x375.toInt ≤ 113 by omega) w368 H.size hT ) (cwV 1 hC.2.2.2.2 gX12_isStreetHere_X12_areSignsHere rfl rfl rfl (by decide +kernel) ⟨Nat.le_of_ble_eq_true rfl, Nat.le_of_ble_eq_true rfl⟩) rfl hl.1 rfl (Nat.le_of_ble_eq_true rfl) dX12_isStreetHere_140 (fun r376 w378 H locs hp377 hw => ?_)
                obtain ⟨hT, k379, hg392⟩ := hp377
                have hF := hF.tr k379 (by decide)
                have c393 := k379.gi kM_at0 (by decide) c371
                have c394 := k379.gi kM_at0 (by decide) c372
                have c395 := k379.gi kM_at0 (by decide) c373
                have c396 := k379.gi kM_at0 (by decide) c374
                rcases hg392 with ⟨rfl, ⟨x380, c381, rx380, tx380⟩, ⟨x382, c383, rx382, tx382⟩, ⟨x384, c385, rx384, tx384⟩⟩ | ⟨rfl, ⟨x386, c387, rx386, tx386⟩, ⟨x388, c389, rx388, tx388⟩⟩ | ⟨rfl, ⟨x390, c391, rx390, tx390⟩⟩
                · have ex380 : x380.toInt = x8.toInt := by rw [← c394.symm.trans c381]
                  refine lv_if_ne (tgt := 148) hx hb dX12_isStreetHere_143 (by decide) (fun c => absurd (by decide) c) (fun _ => ?_)
                  refine lv_iconst (v := 0) hx hb dX12_isStreetHere_146 (by decide) ?_
                  exact tk_zret hC hr rfl hlocks hK ⟨hT, hF, (Or.inr (Or.inl ⟨rfl, ⟨x8, c394, (show 1 ≤ x8.toInt by omega), (show x8.toInt ≤ 400 by omega)⟩, ⟨x1, c393, (show 0 ≤ x1.toInt by omega), (show x1.toInt ≤ 11 by omega)⟩, ⟨x384, c385, (show 1 ≤ x384.toInt by omega), (show x384.toInt ≤ 3205 by omega)⟩⟩))⟩ hw dX12_isStreetHere_147
                · have ex386 : x386.toInt = x8.toInt := by rw [← c394.symm.trans c387]
                  refine lv_if_ne (tgt := 148) hx hb dX12_isStreetHere_143 (by decide) (fun c => absurd (by decide) c) (fun _ => ?_)
                  refine lv_iconst (v := 0) hx hb dX12_isStreetHere_146 (by decide) ?_
                  exact tk_zret hC hr rfl hlocks hK ⟨hT, hF, (Or.inr (Or.inl ⟨rfl, ⟨x8, c394, (show 1 ≤ x8.toInt by omega), (show x8.toInt ≤ 400 by omega)⟩, ⟨x1, c393, (show 0 ≤ x1.toInt by omega), (show x1.toInt ≤ 11 by omega)⟩, ⟨x388, c389, (show 1 ≤ x388.toInt by omega), (show x388.toInt ≤ 3205 by omega)⟩⟩))⟩ hw dX12_isStreetHere_147
                · have ex390 : x390.toInt = x8.toInt := by rw [← c394.symm.trans c391]
                  refine lv_if_ne (tgt := 148) hx hb dX12_isStreetHere_143 (by decide) (fun _ => ?_) (fun c => absurd c (by decide))
                  refine lv_aload_n hx hb dX12_isStreetHere_148 rfl (lv_at hl 2 rfl) ?_
                  refine lv_dup hx hb dX12_isStreetHere_149 rfl ?_
                  refine tk_geti hC hK hw hT hinX12 kM_at0 (by decide) rfl 8 (by decide) (List.mem_of_getElem? (i := 1) rfl) rfl rfl dX12_isStreetHere_150 (fun x397 c398 rx397 tx397 => ?_)
                  refine wk_top x1 (c398.symm.trans c393) ?_
                  refine lv_iconst (v := 1) hx hb dX12_isStreetHere_153 (by decide) ?_
                  refine lv_iadd hx hb dX12_isStreetHere_154 ?_
                  refine lv_topi (fun x399 ex399 => ?_)
                  have ex399 : x399.toInt = x1.toInt + (1 : Int) := by rw [ex399]; exact wk_add (show (-2147483648) ≤ x1.toInt + (1 : Int) by omega) (show x1.toInt + (1 : Int) ≤ 2147483647 by omega)
                  refine tk_puti hC hK hw hT hinX12 tyX12_ok nmX12 kM_at0 (by decide) rfl rfl 8 (by decide) (List.mem_of_getElem? (i := 1) rfl) rfl rfl rfl rfl (show 0 ≤ x399.toInt by omega) (show x399.toInt ≤ 12 by omega) dX12_isStreetHere_155 (fun H locs w400 hw hT k402 c401 => ?_)
                  have hF := hF.put kM_at0 (k := 8) (by decide) k402
                  have c403 := k402.gi (Or.inr (by decide)) c394
                  have c404 := k402.gi (Or.inr (by decide)) c395
                  have c405 := k402.gi (Or.inr (by decide)) c396
                  refine lv_iconst (v := 1) hx hb dX12_isStreetHere_158 (by decide) ?_
                  exact tk_zret hC hr rfl hlocks hK ⟨hT, hF, (Or.inr (Or.inr (Or.inr ⟨rfl, ⟨x8, c403, (show 1 ≤ x8.toInt by omega), (show x8.toInt ≤ 400 by omega)⟩, ⟨x19, c404, (show 1 ≤ x19.toInt by omega), (show x19.toInt ≤ 10 by omega)⟩, ⟨x399, c401, (show 1 ≤ x399.toInt by omega), (show x399.toInt ≤ 12 by omega)⟩, ⟨x359, c405, (show 1 ≤ x359.toInt by omega), (show x359.toInt ≤ 9 by omega)⟩⟩)))⟩ hw dX12_isStreetHere_159
            · have c334 : x324.toInt = x332.toInt := wk_eq.mp c334
              refine lv_aload_n hx hb dX12_isStreetHere_93 rfl (lv_at hl 2 rfl) ?_
              refine lv_iconst (v := 1) hx hb dX12_isStreetHere_94 (by decide) ?_
              refine lv_iload_n hx hb dX12_isStreetHere_95 rfl (lv_at hl 0 rfl) ?_
              refine tk_Vi hC hK hw hT hA hE hSR kM_at0 (by decide) rfl (k_X12_fails_1 l adK adV dC dI cy ad B (by omega) (by omega) qr s1   1 (by decide) (by decide) x79 (show 0 ≤ x79.toInt by omega) (show x79.toInt ≤ 400 by omega) w312 H.size hT ) (cwV 2 hC.2.2.2.2 gX12_isStreetHere_X12_fails rfl rfl rfl (by decide +kernel) ⟨Nat.le_of_ble_eq_true rfl, Nat.le_of_ble_eq_true rfl⟩) rfl hl.1 rfl (Nat.le_of_ble_eq_true rfl) dX12_isStreetHere_96 (fun r406 w408 H locs hp407 hw => ?_)
              obtain ⟨hT, k409, hg412⟩ := hp407
              have hF := hF.tr k409 (by decide)
              have c413 := k409.gi kM_at0 (by decide) c327
              have c414 := k409.gi kM_at0 (by decide) c328
              have c415 := k409.gi kM_at0 (by decide) c329
              have c416 := k409.gi kM_at0 (by decide) c325
              obtain ⟨rfl, ⟨x410, c411, rx410, tx410⟩⟩ := hg412
              exact tk_zret hC hr rfl hlocks hK ⟨hT, hF, (Or.inr (Or.inl ⟨rfl, ⟨x8, c414, (show 1 ≤ x8.toInt by omega), (show x8.toInt ≤ 400 by omega)⟩, ⟨x1, c413, (show 0 ≤ x1.toInt by omega), (show x1.toInt ≤ 11 by omega)⟩, ⟨x410, c411, (show 1 ≤ x410.toInt by omega), (show x410.toInt ≤ 3205 by omega)⟩⟩))⟩ hw dX12_isStreetHere_99
    · refine lv_bipush (v := 10) hx hb dX12_isStreetHere_20 (by decide) ?_
      refine lv_aload_n hx hb dX12_isStreetHere_22 rfl (lv_at hl 0 rfl) ?_
      refine tk_geti hC hK hw hT hinX12 kM_at0 (by decide) rfl 8 (by decide) (List.mem_of_getElem? (i := 1) rfl) rfl rfl dX12_isStreetHere_23 (fun x417 c418 rx417 tx417 => ?_)
      refine wk_top x1 (c418.symm.trans c15) ?_
      refine lv_imul hx hb dX12_isStreetHere_26 ?_
      refine lv_topi (fun x419 ex419 => ?_)
      have ex419 : x419.toInt = (10 : Int) * x1.toInt := by rw [ex419]; exact wk_mul (show (-2147483648) ≤ (10 : Int) * x1.toInt by omega) (show (10 : Int) * x1.toInt ≤ 2147483647 by omega)
      refine lv_istore_n (lv' := [(2, .int x419), (0, .ref (ad 0)), (1, .int a1)]) hx hb dX12_isStreetHere_27 rfl hl (by decide) rfl (fun ls hl => ?_)
      refine lv_aload_n hx hb dX12_isStreetHere_28 rfl (lv_at hl 1 rfl) ?_
      refine lv_iconst (v := 0) hx hb dX12_isStreetHere_29 (by decide) ?_
      refine lv_aload_n hx hb dX12_isStreetHere_30 rfl (lv_at hl 1 rfl) ?_
      refine tk_geti hC hK hw hT hinX12 kM_at0 (by decide) rfl 7 (by decide) (List.mem_of_getElem? (i := 2) rfl) rfl rfl dX12_isStreetHere_31 (fun x420 c421 rx420 tx420 => ?_)
      refine lv_iconst (v := 1) hx hb dX12_isStreetHere_34 (by decide) ?_
      refine lv_isub hx hb dX12_isStreetHere_35 ?_
      refine lv_topi (fun x422 ex422 => ?_)
      have ex422 : x422.toInt = x420.toInt - (1 : Int) := by rw [ex422]; exact wk_sub (show (-2147483648) ≤ x420.toInt - (1 : Int) by omega) (show x420.toInt - (1 : Int) ≤ 2147483647 by omega)
      refine tk_Vi hC hK hw hT hA hE hSR kM_at0 (by decide) rfl (k_X12_numberHere_5 l adK adV dC dI cy ad B (by omega) (by omega) qr s1   x422 (show (-1) ≤ x422.toInt by omega) (show x422.toInt ≤ 9 by omega) w6 H.size hT ) (cwV 2 hC.2.2.2.2 gX12_isStreetHere_X12_numberHere rfl rfl rfl (by decide +kernel) ⟨Nat.le_of_ble_eq_true rfl, Nat.le_of_ble_eq_true rfl⟩) rfl hl.1 rfl (Nat.le_of_ble_eq_true rfl) dX12_isStreetHere_36 (fun r423 w425 H locs hp424 hw => ?_)
      obtain ⟨hT, k426, hg440⟩ := hp424
      have hF := hF.tr k426 (by decide)
      have c441 := k426.gi kM_at0 (by decide) c15
      have c442 := k426.gi kM_at0 (by decide) c13
      have c443 := k426.gi kM_at0 (by decide) c421
      rcases hg440 with ⟨rfl, ⟨x427, c428, rx427, tx427⟩, ⟨x429, c430, rx429, tx429⟩⟩ | ⟨rfl, ⟨x431, c432, rx431, tx431⟩, ⟨x433, c434, rx433, tx433⟩⟩ | ⟨rfl, g435, ⟨x436, c437, rx436, tx436⟩, ⟨x438, c439, rx438, tx438⟩⟩
      · have ex427 : x427.toInt = x12.toInt := by rw [← c442.symm.trans c428]
        refine lv_if_ne (tgt := 44) hx hb dX12_isStreetHere_39 (by decide) (fun c => absurd (by decide) c) (fun _ => ?_)
        refine lv_iconst (v := 0) hx hb dX12_isStreetHere_42 (by decide) ?_
        exact tk_zret hC hr rfl hlocks hK ⟨hT, hF, (Or.inr (Or.inl ⟨rfl, ⟨x12, c442, (show 1 ≤ x12.toInt by omega), (show x12.toInt ≤ 400 by omega)⟩, ⟨x1, c441, (show 0 ≤ x1.toInt by omega), (show x1.toInt ≤ 11 by omega)⟩, ⟨x429, c430, (show 1 ≤ x429.toInt by omega), (show x429.toInt ≤ 3205 by omega)⟩⟩))⟩ hw dX12_isStreetHere_43
      · have ex431 : x431.toInt = x12.toInt := by rw [← c442.symm.trans c432]
        refine lv_if_ne (tgt := 44) hx hb dX12_isStreetHere_39 (by decide) (fun c => absurd (by decide) c) (fun _ => ?_)
        refine lv_iconst (v := 0) hx hb dX12_isStreetHere_42 (by decide) ?_
        exact tk_zret hC hr rfl hlocks hK ⟨hT, hF, (Or.inr (Or.inr (Or.inl ⟨rfl, ⟨x12, c442, (show 0 ≤ x12.toInt by omega), (show x12.toInt ≤ 400 by omega)⟩, ⟨x1, c441, (show 0 ≤ x1.toInt by omega), (show x1.toInt ≤ 11 by omega)⟩, ⟨x433, c434, (show 1 ≤ x433.toInt by omega), (show x433.toInt ≤ 3205 by omega)⟩⟩)))⟩ hw dX12_isStreetHere_43
      · have ex436 : x436.toInt = x12.toInt := by rw [← c442.symm.trans c437]
        refine lv_if_ne (tgt := 44) hx hb dX12_isStreetHere_39 (by decide) (fun _ => ?_) (fun c => absurd c (by decide))
        refine lv_aload_n hx hb dX12_isStreetHere_44 rfl (lv_at hl 1 rfl) ?_
        refine tk_getA hC hK hw hT hinX12 kM_at0 (by decide) rfl 11 (by decide) (List.mem_of_getElem? (i := 3) rfl) rfl rfl dX12_isStreetHere_45 ?_
        refine lv_iload_n hx hb dX12_isStreetHere_48 rfl (lv_at hl 0 rfl) ?_
        refine lv_aload_n hx hb dX12_isStreetHere_49 rfl (lv_at hl 1 rfl) ?_
        refine tk_geti hC hK hw hT hinX12 kM_at0 (by decide) rfl 16 (by decide) (List.mem_of_getElem? (i := 4) rfl) rfl rfl dX12_isStreetHere_50 (fun x444 c445 rx444 tx444 => ?_)
        refine wk_top x438 (c445.symm.trans c439) ?_
        refine tk_iast hC hK hw hT kM_at6 (by decide) rfl rfl (show 0 ≤ x419.toInt by omega) (show x419.toInt < 120 by omega) (show 0 ≤ x438.toInt by omega) (show x438.toInt ≤ 9 by omega) dX12_isStreetHere_53 (fun H locs w446 hw hT k448 c447 => ?_)
        have hF := hF.put kM_at6 (inE_of (a := 0) (b := 120) (by decide) (show 0 ≤ x419.toInt.toNat by omega) (show x419.toInt.toNat ≤ 120 by omega)) k448
        have c449 := k448.gi (Or.inl (tk_ne kM_at0 kM_at6 (by decide))) c441
        have c450 := k448.gi (Or.inl (tk_ne kM_at0 kM_at6 (by decide))) c442
        have c451 := k448.gi (Or.inl (tk_ne kM_at0 kM_at6 (by decide))) c443
        have c452 := k448.gi (Or.inl (tk_ne kM_at0 kM_at6 (by decide))) c439
        refine lv_aload_n hx hb dX12_isStreetHere_54 rfl (lv_at hl 1 rfl) ?_
        obtain ⟨x453, c454, rx453, tx453⟩ := hT.rdi (lo := 0) (hi := 400) (k := 14) kM_at0 (by decide) rfl
        refine tk_Vi hC hK hw hT hA hE hSR kM_at0 (by decide) rfl (k_X12_see_1 l adK adV dC dI cy ad B (by omega) (by omega) qr s1    w446 H.size hT x453 c454 (show 0 ≤ x453.toInt by omega) (show x453.toInt ≤ 400 by omega)) (cwV 0 hC.2.2.2.2 gX12_isStreetHere_X12_see rfl rfl rfl (by decide +kernel) ⟨Nat.le_of_ble_eq_true rfl, Nat.le_of_ble_eq_true rfl⟩) rfl hl.1 rfl (Nat.le_of_ble_eq_true rfl) dX12_isStreetHere_55 (fun r455 w457 H locs hp456 hw => ?_)
        obtain ⟨hT, k458, hg475⟩ := hp456
        have hF := hF.tr k458 (by decide)
        have c476 := k458.gi kM_at0 (by decide) c449
        have c477 := k458.gi kM_at0 (by decide) c450
        have c478 := k458.gi kM_at0 (by decide) c451
        have c479 := k458.gi kM_at0 (by decide) c452
        rcases hg475 with ⟨g459, g460, ⟨x461, c462, rx461, tx461⟩, ⟨x463, c464, rx463, tx463⟩, g465, g466⟩ | ⟨rfl, ⟨x467, c468, rx467, tx467⟩, ⟨x469, c470, rx469, tx469⟩, g471⟩ | ⟨rfl, ⟨x472, c473, rx472, tx472⟩, g474⟩
        · have ex461 : x461.toInt = x12.toInt := by rw [← c477.symm.trans c462]
          have g465 : (gi w457 1 (x463.toInt).toNat).toInt ≠ 32 := by have q := g465; simp only [c464] at q; omega
          have g466 : (x463.toInt = x453.toInt ∨ (gi w446 1 (x453.toInt).toNat).toInt = 32) := by have q := g466; simp only [c454, c464] at q; omega
          refine lv_pop hx hb dX12_isStreetHere_58 rfl ?_
          refine lv_aload_n hx hb dX12_isStreetHere_59 rfl (lv_at hl 1 rfl) ?_
          refine tk_geti hC hK hw hT hinX12 kM_at0 (by decide) rfl 14 (by decide) (List.mem_of_getElem? (i := 5) rfl) rfl rfl dX12_isStreetHere_60 (fun x482 c483 rx482 tx482 => ?_)
          refine wk_top x463 (c483.symm.trans c464) ?_
          refine lv_istore_n (lv' := [(3, .int x463), (2, .int x419), (0, .ref (ad 0)), (1, .int a1)]) hx hb dX12_isStreetHere_63 rfl hl (by decide) rfl (fun ls hl => ?_)
          refine lv_aload_n hx hb dX12_isStreetHere_64 rfl (lv_at hl 2 rfl) ?_
          refine lv_iconst (v := 0) hx hb dX12_isStreetHere_65 (by decide) ?_
          refine lv_aload_n hx hb dX12_isStreetHere_66 rfl (lv_at hl 2 rfl) ?_
          refine tk_geti hC hK hw hT hinX12 kM_at0 (by decide) rfl 7 (by decide) (List.mem_of_getElem? (i := 2) rfl) rfl rfl dX12_isStreetHere_67 (fun x484 c485 rx484 tx484 => ?_)
          refine wk_top x420 (c485.symm.trans c478) ?_
          refine lv_iconst (v := 1) hx hb dX12_isStreetHere_70 (by decide) ?_
          refine lv_isub hx hb dX12_isStreetHere_71 ?_
          refine lv_topi (fun x486 ex486 => ?_)
          have ex486 : x486.toInt = x420.toInt - (1 : Int) := by rw [ex486]; exact wk_sub (show (-2147483648) ≤ x420.toInt - (1 : Int) by omega) (show x420.toInt - (1 : Int) ≤ 2147483647 by omega)
          refine tk_Vi hC hK hw hT hA hE hSR kM_at0 (by decide) rfl (k_X12_numberHere_7 l adK adV dC dI cy ad B (by omega) (by omega) qr s1   x486 (show 0 ≤ x486.toInt by omega) (show x486.toInt ≤ 9 by omega) w457 H.size hT ) (cwV 2 hC.2.2.2.2 gX12_isStreetHere_X12_numberHere rfl rfl rfl (by decide +kernel) ⟨Nat.le_of_ble_eq_true rfl, Nat.le_of_ble_eq_true rfl⟩) rfl hl.1 rfl (Nat.le_of_ble_eq_true rfl) dX12_isStreetHere_72 (fun r487 w489 H locs hp488 hw => ?_)
          obtain ⟨hT, k490, hg503⟩ := hp488
          have hF := hF.tr k490 (by decide)
          have c504 := k490.gi kM_at0 (by decide) c476
          have c505 := k490.gi kM_at0 (by decide) c477
          have c506 := k490.gi kM_at0 (by decide) c478
          rcases hg503 with ⟨rfl, ⟨x491, c492, rx491, tx491⟩, ⟨x493, c494, rx493, tx493⟩⟩ | ⟨rfl, ⟨x495, c496, rx495, tx495⟩, ⟨x497, c498, rx497, tx497⟩⟩ | ⟨rfl, ⟨x499, c500, rx499, tx499⟩, ⟨x501, c502, rx501, tx501⟩⟩
          · have ex491 : x491.toInt = x12.toInt := by rw [← c505.symm.trans c492]
            refine lv_if_ne (tgt := 80) hx hb dX12_isStreetHere_75 (by decide) (fun c => absurd (by decide) c) (fun _ => ?_)
            refine lv_iconst (v := 0) hx hb dX12_isStreetHere_78 (by decide) ?_
            exact tk_zret hC hr rfl hlocks hK ⟨hT, hF, (Or.inr (Or.inl ⟨rfl, ⟨x12, c505, (show 1 ≤ x12.toInt by omega), (show x12.toInt ≤ 400 by omega)⟩, ⟨x1, c504, (show 0 ≤ x1.toInt by omega), (show x1.toInt ≤ 11 by omega)⟩, ⟨x493, c494, (show 1 ≤ x493.toInt by omega), (show x493.toInt ≤ 3205 by omega)⟩⟩))⟩ hw dX12_isStreetHere_79
          · have ex495 : x495.toInt = x12.toInt := by rw [← c505.symm.trans c496]
            refine lv_if_ne (tgt := 80) hx hb dX12_isStreetHere_75 (by decide) (fun c => absurd (by decide) c) (fun _ => ?_)
            refine lv_iconst (v := 0) hx hb dX12_isStreetHere_78 (by decide) ?_
            exact tk_zret hC hr rfl hlocks hK ⟨hT, hF, (Or.inr (Or.inl ⟨rfl, ⟨x12, c505, (show 1 ≤ x12.toInt by omega), (show x12.toInt ≤ 400 by omega)⟩, ⟨x1, c504, (show 0 ≤ x1.toInt by omega), (show x1.toInt ≤ 11 by omega)⟩, ⟨x497, c498, (show 1 ≤ x497.toInt by omega), (show x497.toInt ≤ 3205 by omega)⟩⟩))⟩ hw dX12_isStreetHere_79
          · have ex499 : x499.toInt = x12.toInt := by rw [← c505.symm.trans c500]
            refine lv_if_ne (tgt := 80) hx hb dX12_isStreetHere_75 (by decide) (fun _ => ?_) (fun c => absurd c (by decide))
            refine lv_aload_n hx hb dX12_isStreetHere_80 rfl (lv_at hl 2 rfl) ?_
            refine tk_geti hC hK hw hT hinX12 kM_at0 (by decide) rfl 16 (by decide) (List.mem_of_getElem? (i := 4) rfl) rfl rfl dX12_isStreetHere_81 (fun x507 c508 rx507 tx507 => ?_)
            refine wk_top x501 (c508.symm.trans c502) ?_
            refine lv_aload_n hx hb dX12_isStreetHere_84 rfl (lv_at hl 2 rfl) ?_
            refine tk_getA hC hK hw hT hinX12 kM_at0 (by decide) rfl 11 (by decide) (List.mem_of_getElem? (i := 3) rfl) rfl rfl dX12_isStreetHere_85 ?_
            refine lv_iload_n hx hb dX12_isStreetHere_88 rfl (lv_at hl 1 rfl) ?_
            refine tk_iald hC hK hw hT kM_at6 rfl rfl (show 0 ≤ x419.toInt by omega) (show x419.toInt < 120 by omega) dX12_isStreetHere_89 (fun x509 c510 rx509 tx509 => ?_)
            refine lv_icmp_ne (tgt := 100) hx hb dX12_isStreetHere_90 (by decide) (fun c511 => ?_) (fun c511 => ?_)
            · have c511 : ¬ x501.toInt = x509.toInt := wk_eqF c511
              refine lv_aload_n hx hb dX12_isStreetHere_100 rfl (lv_at hl 2 rfl) ?_
              refine tk_getA hC hK hw hT hinX12 kM_at0 (by decide) rfl 11 (by decide) (List.mem_of_getElem? (i := 3) rfl) rfl rfl dX12_isStreetHere_101 ?_
              refine lv_iload_n hx hb dX12_isStreetHere_104 rfl (lv_at hl 1 rfl) ?_
              refine lv_iconst (v := 1) hx hb dX12_isStreetHere_105 (by decide) ?_
              refine lv_iadd hx hb dX12_isStreetHere_106 ?_
              refine lv_topi (fun x512 ex512 => ?_)
              have ex512 : x512.toInt = x419.toInt + (1 : Int) := by rw [ex512]; exact wk_add (show (-2147483648) ≤ x419.toInt + (1 : Int) by omega) (show x419.toInt + (1 : Int) ≤ 2147483647 by omega)
              refine lv_aload_n hx hb dX12_isStreetHere_107 rfl (lv_at hl 2 rfl) ?_
              refine tk_geti hC hK hw hT hinX12 kM_at0 (by decide) rfl 16 (by decide) (List.mem_of_getElem? (i := 4) rfl) rfl rfl dX12_isStreetHere_108 (fun x513 c514 rx513 tx513 => ?_)
              refine wk_top x501 (c514.symm.trans c502) ?_
              refine tk_iast hC hK hw hT kM_at6 (by decide) rfl rfl (show 0 ≤ x512.toInt by omega) (show x512.toInt < 120 by omega) (show 0 ≤ x501.toInt by omega) (show x501.toInt ≤ 9 by omega) dX12_isStreetHere_111 (fun H locs w515 hw hT k517 c516 => ?_)
              have hF := hF.put kM_at6 (inE_of (a := 0) (b := 120) (by decide) (show 0 ≤ x512.toInt.toNat by omega) (show x512.toInt.toNat ≤ 120 by omega)) k517
              have c518 := k517.gi (Or.inl (tk_ne kM_at0 kM_at6 (by decide))) c504
              have c519 := k517.gi (Or.inl (tk_ne kM_at0 kM_at6 (by decide))) c505
              have c520 := k517.gi (Or.inl (tk_ne kM_at0 kM_at6 (by decide))) c506
              have c521 := k517.gi (Or.inl (tk_ne kM_at0 kM_at6 (by decide))) c502
              refine lv_aload_n hx hb dX12_isStreetHere_112 rfl (lv_at hl 2 rfl) ?_
              refine lv_iconst (v := 1) hx hb dX12_isStreetHere_113 (by decide) ?_
              refine lv_bipush (v := 9) hx hb dX12_isStreetHere_114 (by decide) ?_
              refine tk_Vi hC hK hw hT hA hE hSR kM_at0 (by decide) rfl (k_X12_numberHere_8 l adK adV dC dI cy ad B (by omega) (by omega) qr s1    w515 H.size hT ) (cwV 2 hC.2.2.2.2 gX12_isStreetHere_X12_numberHere rfl rfl rfl (by decide +kernel) ⟨Nat.le_of_ble_eq_true rfl, Nat.le_of_ble_eq_true rfl⟩) rfl hl.1 rfl (Nat.le_of_ble_eq_true rfl) dX12_isStreetHere_116 (fun r522 w524 H locs hp523 hw => ?_)
              obtain ⟨hT, k525, hg538⟩ := hp523
              have hF := hF.tr k525 (by decide)
              have c539 := k525.gi kM_at0 (by decide) c518
              have c540 := k525.gi kM_at0 (by decide) c519
              have c541 := k525.gi kM_at0 (by decide) c520
              rcases hg538 with ⟨rfl, ⟨x526, c527, rx526, tx526⟩, ⟨x528, c529, rx528, tx528⟩⟩ | ⟨rfl, ⟨x530, c531, rx530, tx530⟩, ⟨x532, c533, rx532, tx532⟩⟩ | ⟨rfl, ⟨x534, c535, rx534, tx534⟩, ⟨x536, c537, rx536, tx536⟩⟩
              · have ex526 : x526.toInt = x12.toInt := by rw [← c540.symm.trans c527]
                refine lv_if_ne (tgt := 124) hx hb dX12_isStreetHere_119 (by decide) (fun c => absurd (by decide) c) (fun _ => ?_)
                refine lv_iconst (v := 0) hx hb dX12_isStreetHere_122 (by decide) ?_
                exact tk_zret hC hr rfl hlocks hK ⟨hT, hF, (Or.inr (Or.inl ⟨rfl, ⟨x12, c540, (show 1 ≤ x12.toInt by omega), (show x12.toInt ≤ 400 by omega)⟩, ⟨x1, c539, (show 0 ≤ x1.toInt by omega), (show x1.toInt ≤ 11 by omega)⟩, ⟨x528, c529, (show 1 ≤ x528.toInt by omega), (show x528.toInt ≤ 3205 by omega)⟩⟩))⟩ hw dX12_isStreetHere_123
              · have ex530 : x530.toInt = x12.toInt := by rw [← c540.symm.trans c531]
                refine lv_if_ne (tgt := 124) hx hb dX12_isStreetHere_119 (by decide) (fun c => absurd (by decide) c) (fun _ => ?_)
                refine lv_iconst (v := 0) hx hb dX12_isStreetHere_122 (by decide) ?_
                exact tk_zret hC hr rfl hlocks hK ⟨hT, hF, (Or.inr (Or.inl ⟨rfl, ⟨x12, c540, (show 1 ≤ x12.toInt by omega), (show x12.toInt ≤ 400 by omega)⟩, ⟨x1, c539, (show 0 ≤ x1.toInt by omega), (show x1.toInt ≤ 11 by omega)⟩, ⟨x532, c533, (show 1 ≤ x532.toInt by omega), (show x532.toInt ≤ 3205 by omega)⟩⟩))⟩ hw dX12_isStreetHere_123
              · have ex534 : x534.toInt = x12.toInt := by rw [← c540.symm.trans c535]
                refine lv_if_ne (tgt := 124) hx hb dX12_isStreetHere_119 (by decide) (fun _ => ?_) (fun c => absurd c (by decide))
                refine lv_aload_n hx hb dX12_isStreetHere_124 rfl (lv_at hl 2 rfl) ?_
                refine tk_getA hC hK hw hT hinX12 kM_at0 (by decide) rfl 11 (by decide) (List.mem_of_getElem? (i := 3) rfl) rfl rfl dX12_isStreetHere_125 ?_
                refine lv_iload_n hx hb dX12_isStreetHere_128 rfl (lv_at hl 1 rfl) ?_
                refine lv_iconst (v := 2) hx hb dX12_isStreetHere_129 (by decide) ?_
                refine lv_iadd hx hb dX12_isStreetHere_130 ?_
                refine lv_topi (fun x542 ex542 => ?_)
                have ex542 : x542.toInt = x419.toInt + (2 : Int) := by rw [ex542]; exact wk_add (show (-2147483648) ≤ x419.toInt + (2 : Int) by omega) (show x419.toInt + (2 : Int) ≤ 2147483647 by omega)
                refine lv_aload_n hx hb dX12_isStreetHere_131 rfl (lv_at hl 2 rfl) ?_
                refine tk_geti hC hK hw hT hinX12 kM_at0 (by decide) rfl 16 (by decide) (List.mem_of_getElem? (i := 4) rfl) rfl rfl dX12_isStreetHere_132 (fun x543 c544 rx543 tx543 => ?_)
                refine wk_top x536 (c544.symm.trans c537) ?_
                refine tk_iast hC hK hw hT kM_at6 (by decide) rfl rfl (show 0 ≤ x542.toInt by omega) (show x542.toInt < 120 by omega) (show 0 ≤ x536.toInt by omega) (show x536.toInt ≤ 9 by omega) dX12_isStreetHere_135 (fun H locs w545 hw hT k547 c546 => ?_)
                have hF := hF.put kM_at6 (inE_of (a := 0) (b := 120) (by decide) (show 0 ≤ x542.toInt.toNat by omega) (show x542.toInt.toNat ≤ 120 by omega)) k547
                have c548 := k547.gi (Or.inl (tk_ne kM_at0 kM_at6 (by decide))) c539
                have c549 := k547.gi (Or.inl (tk_ne kM_at0 kM_at6 (by decide))) c540
                have c550 := k547.gi (Or.inl (tk_ne kM_at0 kM_at6 (by decide))) c541
                have c551 := k547.gi (Or.inl (tk_ne kM_at0 kM_at6 (by decide))) c537
                refine lv_aload_n hx hb dX12_isStreetHere_136 rfl (lv_at hl 2 rfl) ?_
                refine lv_iload_n hx hb dX12_isStreetHere_137 rfl (lv_at hl 1 rfl) ?_
                refine lv_iconst (v := 3) hx hb dX12_isStreetHere_138 (by decide) ?_
                refine lv_iadd hx hb dX12_isStreetHere_139 ?_
                refine lv_topi (fun x552 ex552 => ?_)
                have ex552 : x552.toInt = x419.toInt + (3 : Int) := by rw [ex552]; exact wk_add (show (-2147483648) ≤ x419.toInt + (3 : Int) by omega) (show x419.toInt + (3 : Int) ≤ 2147483647 by omega)
                refine tk_Vi hC hK hw hT hA hE hSR kM_at0 (by decide) rfl (k_X12_areSignsHere_1 l adK adV dC dI cy ad B (by omega) (by omega) qr s1   x552 (show 3 ≤ x552.toInt by omega) (show x552.toInt ≤ 113 by omega) w545 H.size hT ) (cwV 1 hC.2.2.2.2 gX12_isStreetHere_X12_areSignsHere rfl rfl rfl (by decide +kernel) ⟨Nat.le_of_ble_eq_true rfl, Nat.le_of_ble_eq_true rfl⟩) rfl hl.1 rfl (Nat.le_of_ble_eq_true rfl) dX12_isStreetHere_140 (fun r553 w555 H locs hp554 hw => ?_)
                obtain ⟨hT, k556, hg569⟩ := hp554
                have hF := hF.tr k556 (by decide)
                have c570 := k556.gi kM_at0 (by decide) c548
                have c571 := k556.gi kM_at0 (by decide) c549
                have c572 := k556.gi kM_at0 (by decide) c550
                have c573 := k556.gi kM_at0 (by decide) c551
                rcases hg569 with ⟨rfl, ⟨x557, c558, rx557, tx557⟩, ⟨x559, c560, rx559, tx559⟩, ⟨x561, c562, rx561, tx561⟩⟩ | ⟨rfl, ⟨x563, c564, rx563, tx563⟩, ⟨x565, c566, rx565, tx565⟩⟩ | ⟨rfl, ⟨x567, c568, rx567, tx567⟩⟩
                · have ex557 : x557.toInt = x12.toInt := by rw [← c571.symm.trans c558]
                  refine lv_if_ne (tgt := 148) hx hb dX12_isStreetHere_143 (by decide) (fun c => absurd (by decide) c) (fun _ => ?_)
                  refine lv_iconst (v := 0) hx hb dX12_isStreetHere_146 (by decide) ?_
                  exact tk_zret hC hr rfl hlocks hK ⟨hT, hF, (Or.inr (Or.inl ⟨rfl, ⟨x12, c571, (show 1 ≤ x12.toInt by omega), (show x12.toInt ≤ 400 by omega)⟩, ⟨x1, c570, (show 0 ≤ x1.toInt by omega), (show x1.toInt ≤ 11 by omega)⟩, ⟨x561, c562, (show 1 ≤ x561.toInt by omega), (show x561.toInt ≤ 3205 by omega)⟩⟩))⟩ hw dX12_isStreetHere_147
                · have ex563 : x563.toInt = x12.toInt := by rw [← c571.symm.trans c564]
                  refine lv_if_ne (tgt := 148) hx hb dX12_isStreetHere_143 (by decide) (fun c => absurd (by decide) c) (fun _ => ?_)
                  refine lv_iconst (v := 0) hx hb dX12_isStreetHere_146 (by decide) ?_
                  exact tk_zret hC hr rfl hlocks hK ⟨hT, hF, (Or.inr (Or.inl ⟨rfl, ⟨x12, c571, (show 1 ≤ x12.toInt by omega), (show x12.toInt ≤ 400 by omega)⟩, ⟨x1, c570, (show 0 ≤ x1.toInt by omega), (show x1.toInt ≤ 11 by omega)⟩, ⟨x565, c566, (show 1 ≤ x565.toInt by omega), (show x565.toInt ≤ 3205 by omega)⟩⟩))⟩ hw dX12_isStreetHere_147
                · have ex567 : x567.toInt = x12.toInt := by rw [← c571.symm.trans c568]
                  refine lv_if_ne (tgt := 148) hx hb dX12_isStreetHere_143 (by decide) (fun _ => ?_) (fun c => absurd c (by decide))
                  refine lv_aload_n hx hb dX12_isStreetHere_148 rfl (lv_at hl 2 rfl) ?_
                  refine lv_dup hx hb dX12_isStreetHere_149 rfl ?_
                  refine tk_geti hC hK hw hT hinX12 kM_at0 (by decide) rfl 8 (by decide) (List.mem_of_getElem? (i := 1) rfl) rfl rfl dX12_isStreetHere_150 (fun x574 c575 rx574 tx574 => ?_)
                  refine wk_top x1 (c575.symm.trans c570) ?_
                  refine lv_iconst (v := 1) hx hb dX12_isStreetHere_153 (by decide) ?_
                  refine lv_iadd hx hb dX12_isStreetHere_154 ?_
                  refine lv_topi (fun x576 ex576 => ?_)
                  have ex576 : x576.toInt = x1.toInt + (1 : Int) := by rw [ex576]; exact wk_add (show (-2147483648) ≤ x1.toInt + (1 : Int) by omega) (show x1.toInt + (1 : Int) ≤ 2147483647 by omega)
                  refine tk_puti hC hK hw hT hinX12 tyX12_ok nmX12 kM_at0 (by decide) rfl rfl 8 (by decide) (List.mem_of_getElem? (i := 1) rfl) rfl rfl rfl rfl (show 0 ≤ x576.toInt by omega) (show x576.toInt ≤ 12 by omega) dX12_isStreetHere_155 (fun H locs w577 hw hT k579 c578 => ?_)
                  have hF := hF.put kM_at0 (k := 8) (by decide) k579
                  have c580 := k579.gi (Or.inr (by decide)) c571
                  have c581 := k579.gi (Or.inr (by decide)) c572
                  have c582 := k579.gi (Or.inr (by decide)) c573
                  refine lv_iconst (v := 1) hx hb dX12_isStreetHere_158 (by decide) ?_
                  exact tk_zret hC hr rfl hlocks hK ⟨hT, hF, (Or.inr (Or.inr (Or.inr ⟨rfl, ⟨x12, c580, (show 1 ≤ x12.toInt by omega), (show x12.toInt ≤ 400 by omega)⟩, ⟨x420, c581, (show 1 ≤ x420.toInt by omega), (show x420.toInt ≤ 10 by omega)⟩, ⟨x576, c578, (show 1 ≤ x576.toInt by omega), (show x576.toInt ≤ 12 by omega)⟩, ⟨x536, c582, (show 1 ≤ x536.toInt by omega), (show x536.toInt ≤ 9 by omega)⟩⟩)))⟩ hw dX12_isStreetHere_159
            · have c511 : x501.toInt = x509.toInt := wk_eq.mp c511
              refine lv_aload_n hx hb dX12_isStreetHere_93 rfl (lv_at hl 2 rfl) ?_
              refine lv_iconst (v := 1) hx hb dX12_isStreetHere_94 (by decide) ?_
              refine lv_iload_n hx hb dX12_isStreetHere_95 rfl (lv_at hl 0 rfl) ?_
              refine tk_Vi hC hK hw hT hA hE hSR kM_at0 (by decide) rfl (k_X12_fails_1 l adK adV dC dI cy ad B (by omega) (by omega) qr s1   1 (by decide) (by decide) x463 (show 0 ≤ x463.toInt by omega) (show x463.toInt ≤ 400 by omega) w489 H.size hT ) (cwV 2 hC.2.2.2.2 gX12_isStreetHere_X12_fails rfl rfl rfl (by decide +kernel) ⟨Nat.le_of_ble_eq_true rfl, Nat.le_of_ble_eq_true rfl⟩) rfl hl.1 rfl (Nat.le_of_ble_eq_true rfl) dX12_isStreetHere_96 (fun r583 w585 H locs hp584 hw => ?_)
              obtain ⟨hT, k586, hg589⟩ := hp584
              have hF := hF.tr k586 (by decide)
              have c590 := k586.gi kM_at0 (by decide) c504
              have c591 := k586.gi kM_at0 (by decide) c505
              have c592 := k586.gi kM_at0 (by decide) c506
              have c593 := k586.gi kM_at0 (by decide) c502
              obtain ⟨rfl, ⟨x587, c588, rx587, tx587⟩⟩ := hg589
              exact tk_zret hC hr rfl hlocks hK ⟨hT, hF, (Or.inr (Or.inl ⟨rfl, ⟨x12, c591, (show 1 ≤ x12.toInt by omega), (show x12.toInt ≤ 400 by omega)⟩, ⟨x1, c590, (show 0 ≤ x1.toInt by omega), (show x1.toInt ≤ 11 by omega)⟩, ⟨x587, c588, (show 1 ≤ x587.toInt by omega), (show x587.toInt ≤ 3205 by omega)⟩⟩))⟩ hw dX12_isStreetHere_99
        · have ex467 : x467.toInt = x12.toInt := by rw [← c477.symm.trans c468]
          have g471 : (x469.toInt = x453.toInt ∨ (gi w446 1 (x453.toInt).toNat).toInt = 32) := by have q := g471; simp only [c454, c470] at q; omega
          refine lv_pop hx hb dX12_isStreetHere_58 rfl ?_
          refine lv_aload_n hx hb dX12_isStreetHere_59 rfl (lv_at hl 1 rfl) ?_
          refine tk_geti hC hK hw hT hinX12 kM_at0 (by decide) rfl 14 (by decide) (List.mem_of_getElem? (i := 5) rfl) rfl rfl dX12_isStreetHere_60 (fun x594 c595 rx594 tx594 => ?_)
          refine wk_top x469 (c595.symm.trans c470) ?_
          refine lv_istore_n (lv' := [(3, .int x469), (2, .int x419), (0, .ref (ad 0)), (1, .int a1)]) hx hb dX12_isStreetHere_63 rfl hl (by decide) rfl (fun ls hl => ?_)
          refine lv_aload_n hx hb dX12_isStreetHere_64 rfl (lv_at hl 2 rfl) ?_
          refine lv_iconst (v := 0) hx hb dX12_isStreetHere_65 (by decide) ?_
          refine lv_aload_n hx hb dX12_isStreetHere_66 rfl (lv_at hl 2 rfl) ?_
          refine tk_geti hC hK hw hT hinX12 kM_at0 (by decide) rfl 7 (by decide) (List.mem_of_getElem? (i := 2) rfl) rfl rfl dX12_isStreetHere_67 (fun x596 c597 rx596 tx596 => ?_)
          refine wk_top x420 (c597.symm.trans c478) ?_
          refine lv_iconst (v := 1) hx hb dX12_isStreetHere_70 (by decide) ?_
          refine lv_isub hx hb dX12_isStreetHere_71 ?_
          refine lv_topi (fun x598 ex598 => ?_)
          have ex598 : x598.toInt = x420.toInt - (1 : Int) := by rw [ex598]; exact wk_sub (show (-2147483648) ≤ x420.toInt - (1 : Int) by omega) (show x420.toInt - (1 : Int) ≤ 2147483647 by omega)
          refine tk_Vi hC hK hw hT hA hE hSR kM_at0 (by decide) rfl (k_X12_numberHere_7 l adK adV dC dI cy ad B (by omega) (by omega) qr s1   x598 (show 0 ≤ x598.toInt by omega) (show x598.toInt ≤ 9 by omega) w457 H.size hT ) (cwV 2 hC.2.2.2.2 gX12_isStreetHere_X12_numberHere rfl rfl rfl (by decide +kernel) ⟨Nat.le_of_ble_eq_true rfl, Nat.le_of_ble_eq_true rfl⟩) rfl hl.1 rfl (Nat.le_of_ble_eq_true rfl) dX12_isStreetHere_72 (fun r599 w601 H locs hp600 hw => ?_)
          obtain ⟨hT, k602, hg615⟩ := hp600
          have hF := hF.tr k602 (by decide)
          have c616 := k602.gi kM_at0 (by decide) c476
          have c617 := k602.gi kM_at0 (by decide) c477
          have c618 := k602.gi kM_at0 (by decide) c478
          rcases hg615 with ⟨rfl, ⟨x603, c604, rx603, tx603⟩, ⟨x605, c606, rx605, tx605⟩⟩ | ⟨rfl, ⟨x607, c608, rx607, tx607⟩, ⟨x609, c610, rx609, tx609⟩⟩ | ⟨rfl, ⟨x611, c612, rx611, tx611⟩, ⟨x613, c614, rx613, tx613⟩⟩
          · have ex603 : x603.toInt = x12.toInt := by rw [← c617.symm.trans c604]
            refine lv_if_ne (tgt := 80) hx hb dX12_isStreetHere_75 (by decide) (fun c => absurd (by decide) c) (fun _ => ?_)
            refine lv_iconst (v := 0) hx hb dX12_isStreetHere_78 (by decide) ?_
            exact tk_zret hC hr rfl hlocks hK ⟨hT, hF, (Or.inr (Or.inl ⟨rfl, ⟨x12, c617, (show 1 ≤ x12.toInt by omega), (show x12.toInt ≤ 400 by omega)⟩, ⟨x1, c616, (show 0 ≤ x1.toInt by omega), (show x1.toInt ≤ 11 by omega)⟩, ⟨x605, c606, (show 1 ≤ x605.toInt by omega), (show x605.toInt ≤ 3205 by omega)⟩⟩))⟩ hw dX12_isStreetHere_79
          · have ex607 : x607.toInt = x12.toInt := by rw [← c617.symm.trans c608]
            refine lv_if_ne (tgt := 80) hx hb dX12_isStreetHere_75 (by decide) (fun c => absurd (by decide) c) (fun _ => ?_)
            refine lv_iconst (v := 0) hx hb dX12_isStreetHere_78 (by decide) ?_
            exact tk_zret hC hr rfl hlocks hK ⟨hT, hF, (Or.inr (Or.inl ⟨rfl, ⟨x12, c617, (show 1 ≤ x12.toInt by omega), (show x12.toInt ≤ 400 by omega)⟩, ⟨x1, c616, (show 0 ≤ x1.toInt by omega), (show x1.toInt ≤ 11 by omega)⟩, ⟨x609, c610, (show 1 ≤ x609.toInt by omega), (show x609.toInt ≤ 3205 by omega)⟩⟩))⟩ hw dX12_isStreetHere_79
          · have ex611 : x611.toInt = x12.toInt := by rw [← c617.symm.trans c612]
            refine lv_if_ne (tgt := 80) hx hb dX12_isStreetHere_75 (by decide) (fun _ => ?_) (fun c => absurd c (by decide))
            refine lv_aload_n hx hb dX12_isStreetHere_80 rfl (lv_at hl 2 rfl) ?_
            refine tk_geti hC hK hw hT hinX12 kM_at0 (by decide) rfl 16 (by decide) (List.mem_of_getElem? (i := 4) rfl) rfl rfl dX12_isStreetHere_81 (fun x619 c620 rx619 tx619 => ?_)
            refine wk_top x613 (c620.symm.trans c614) ?_
            refine lv_aload_n hx hb dX12_isStreetHere_84 rfl (lv_at hl 2 rfl) ?_
            refine tk_getA hC hK hw hT hinX12 kM_at0 (by decide) rfl 11 (by decide) (List.mem_of_getElem? (i := 3) rfl) rfl rfl dX12_isStreetHere_85 ?_
            refine lv_iload_n hx hb dX12_isStreetHere_88 rfl (lv_at hl 1 rfl) ?_
            refine tk_iald hC hK hw hT kM_at6 rfl rfl (show 0 ≤ x419.toInt by omega) (show x419.toInt < 120 by omega) dX12_isStreetHere_89 (fun x621 c622 rx621 tx621 => ?_)
            refine lv_icmp_ne (tgt := 100) hx hb dX12_isStreetHere_90 (by decide) (fun c623 => ?_) (fun c623 => ?_)
            · have c623 : ¬ x613.toInt = x621.toInt := wk_eqF c623
              refine lv_aload_n hx hb dX12_isStreetHere_100 rfl (lv_at hl 2 rfl) ?_
              refine tk_getA hC hK hw hT hinX12 kM_at0 (by decide) rfl 11 (by decide) (List.mem_of_getElem? (i := 3) rfl) rfl rfl dX12_isStreetHere_101 ?_
              refine lv_iload_n hx hb dX12_isStreetHere_104 rfl (lv_at hl 1 rfl) ?_
              refine lv_iconst (v := 1) hx hb dX12_isStreetHere_105 (by decide) ?_
              refine lv_iadd hx hb dX12_isStreetHere_106 ?_
              refine lv_topi (fun x624 ex624 => ?_)
              have ex624 : x624.toInt = x419.toInt + (1 : Int) := by rw [ex624]; exact wk_add (show (-2147483648) ≤ x419.toInt + (1 : Int) by omega) (show x419.toInt + (1 : Int) ≤ 2147483647 by omega)
              refine lv_aload_n hx hb dX12_isStreetHere_107 rfl (lv_at hl 2 rfl) ?_
              refine tk_geti hC hK hw hT hinX12 kM_at0 (by decide) rfl 16 (by decide) (List.mem_of_getElem? (i := 4) rfl) rfl rfl dX12_isStreetHere_108 (fun x625 c626 rx625 tx625 => ?_)
              refine wk_top x613 (c626.symm.trans c614) ?_
              refine tk_iast hC hK hw hT kM_at6 (by decide) rfl rfl (show 0 ≤ x624.toInt by omega) (show x624.toInt < 120 by omega) (show 0 ≤ x613.toInt by omega) (show x613.toInt ≤ 9 by omega) dX12_isStreetHere_111 (fun H locs w627 hw hT k629 c628 => ?_)
              have hF := hF.put kM_at6 (inE_of (a := 0) (b := 120) (by decide) (show 0 ≤ x624.toInt.toNat by omega) (show x624.toInt.toNat ≤ 120 by omega)) k629
              have c630 := k629.gi (Or.inl (tk_ne kM_at0 kM_at6 (by decide))) c616
              have c631 := k629.gi (Or.inl (tk_ne kM_at0 kM_at6 (by decide))) c617
              have c632 := k629.gi (Or.inl (tk_ne kM_at0 kM_at6 (by decide))) c618
              have c633 := k629.gi (Or.inl (tk_ne kM_at0 kM_at6 (by decide))) c614
              refine lv_aload_n hx hb dX12_isStreetHere_112 rfl (lv_at hl 2 rfl) ?_
              refine lv_iconst (v := 1) hx hb dX12_isStreetHere_113 (by decide) ?_
              refine lv_bipush (v := 9) hx hb dX12_isStreetHere_114 (by decide) ?_
              refine tk_Vi hC hK hw hT hA hE hSR kM_at0 (by decide) rfl (k_X12_numberHere_8 l adK adV dC dI cy ad B (by omega) (by omega) qr s1    w627 H.size hT ) (cwV 2 hC.2.2.2.2 gX12_isStreetHere_X12_numberHere rfl rfl rfl (by decide +kernel) ⟨Nat.le_of_ble_eq_true rfl, Nat.le_of_ble_eq_true rfl⟩) rfl hl.1 rfl (Nat.le_of_ble_eq_true rfl) dX12_isStreetHere_116 (fun r634 w636 H locs hp635 hw => ?_)
              obtain ⟨hT, k637, hg650⟩ := hp635
              have hF := hF.tr k637 (by decide)
              have c651 := k637.gi kM_at0 (by decide) c630
              have c652 := k637.gi kM_at0 (by decide) c631
              have c653 := k637.gi kM_at0 (by decide) c632
              rcases hg650 with ⟨rfl, ⟨x638, c639, rx638, tx638⟩, ⟨x640, c641, rx640, tx640⟩⟩ | ⟨rfl, ⟨x642, c643, rx642, tx642⟩, ⟨x644, c645, rx644, tx644⟩⟩ | ⟨rfl, ⟨x646, c647, rx646, tx646⟩, ⟨x648, c649, rx648, tx648⟩⟩
              · have ex638 : x638.toInt = x12.toInt := by rw [← c652.symm.trans c639]
                refine lv_if_ne (tgt := 124) hx hb dX12_isStreetHere_119 (by decide) (fun c => absurd (by decide) c) (fun _ => ?_)
                refine lv_iconst (v := 0) hx hb dX12_isStreetHere_122 (by decide) ?_
                exact tk_zret hC hr rfl hlocks hK ⟨hT, hF, (Or.inr (Or.inl ⟨rfl, ⟨x12, c652, (show 1 ≤ x12.toInt by omega), (show x12.toInt ≤ 400 by omega)⟩, ⟨x1, c651, (show 0 ≤ x1.toInt by omega), (show x1.toInt ≤ 11 by omega)⟩, ⟨x640, c641, (show 1 ≤ x640.toInt by omega), (show x640.toInt ≤ 3205 by omega)⟩⟩))⟩ hw dX12_isStreetHere_123
              · have ex642 : x642.toInt = x12.toInt := by rw [← c652.symm.trans c643]
                refine lv_if_ne (tgt := 124) hx hb dX12_isStreetHere_119 (by decide) (fun c => absurd (by decide) c) (fun _ => ?_)
                refine lv_iconst (v := 0) hx hb dX12_isStreetHere_122 (by decide) ?_
                exact tk_zret hC hr rfl hlocks hK ⟨hT, hF, (Or.inr (Or.inl ⟨rfl, ⟨x12, c652, (show 1 ≤ x12.toInt by omega), (show x12.toInt ≤ 400 by omega)⟩, ⟨x1, c651, (show 0 ≤ x1.toInt by omega), (show x1.toInt ≤ 11 by omega)⟩, ⟨x644, c645, (show 1 ≤ x644.toInt by omega), (show x644.toInt ≤ 3205 by omega)⟩⟩))⟩ hw dX12_isStreetHere_123
              · have ex646 : x646.toInt = x12.toInt := by rw [← c652.symm.trans c647]
                refine lv_if_ne (tgt := 124) hx hb dX12_isStreetHere_119 (by decide) (fun _ => ?_) (fun c => absurd c (by decide))
                refine lv_aload_n hx hb dX12_isStreetHere_124 rfl (lv_at hl 2 rfl) ?_
                refine tk_getA hC hK hw hT hinX12 kM_at0 (by decide) rfl 11 (by decide) (List.mem_of_getElem? (i := 3) rfl) rfl rfl dX12_isStreetHere_125 ?_
                refine lv_iload_n hx hb dX12_isStreetHere_128 rfl (lv_at hl 1 rfl) ?_
                refine lv_iconst (v := 2) hx hb dX12_isStreetHere_129 (by decide) ?_
                refine lv_iadd hx hb dX12_isStreetHere_130 ?_
                refine lv_topi (fun x654 ex654 => ?_)
                have ex654 : x654.toInt = x419.toInt + (2 : Int) := by rw [ex654]; exact wk_add (show (-2147483648) ≤ x419.toInt + (2 : Int) by omega) (show x419.toInt + (2 : Int) ≤ 2147483647 by omega)
                refine lv_aload_n hx hb dX12_isStreetHere_131 rfl (lv_at hl 2 rfl) ?_
                refine tk_geti hC hK hw hT hinX12 kM_at0 (by decide) rfl 16 (by decide) (List.mem_of_getElem? (i := 4) rfl) rfl rfl dX12_isStreetHere_132 (fun x655 c656 rx655 tx655 => ?_)
                refine wk_top x648 (c656.symm.trans c649) ?_
                refine tk_iast hC hK hw hT kM_at6 (by decide) rfl rfl (show 0 ≤ x654.toInt by omega) (show x654.toInt < 120 by omega) (show 0 ≤ x648.toInt by omega) (show x648.toInt ≤ 9 by omega) dX12_isStreetHere_135 (fun H locs w657 hw hT k659 c658 => ?_)
                have hF := hF.put kM_at6 (inE_of (a := 0) (b := 120) (by decide) (show 0 ≤ x654.toInt.toNat by omega) (show x654.toInt.toNat ≤ 120 by omega)) k659
                have c660 := k659.gi (Or.inl (tk_ne kM_at0 kM_at6 (by decide))) c651
                have c661 := k659.gi (Or.inl (tk_ne kM_at0 kM_at6 (by decide))) c652
                have c662 := k659.gi (Or.inl (tk_ne kM_at0 kM_at6 (by decide))) c653
                have c663 := k659.gi (Or.inl (tk_ne kM_at0 kM_at6 (by decide))) c649
                refine lv_aload_n hx hb dX12_isStreetHere_136 rfl (lv_at hl 2 rfl) ?_
                refine lv_iload_n hx hb dX12_isStreetHere_137 rfl (lv_at hl 1 rfl) ?_
                refine lv_iconst (v := 3) hx hb dX12_isStreetHere_138 (by decide) ?_
                refine lv_iadd hx hb dX12_isStreetHere_139 ?_
                refine lv_topi (fun x664 ex664 => ?_)
                have ex664 : x664.toInt = x419.toInt + (3 : Int) := by rw [ex664]; exact wk_add (show (-2147483648) ≤ x419.toInt + (3 : Int) by omega) (show x419.toInt + (3 : Int) ≤ 2147483647 by omega)
                refine tk_Vi hC hK hw hT hA hE hSR kM_at0 (by decide) rfl (k_X12_areSignsHere_1 l adK adV dC dI cy ad B (by omega) (by omega) qr s1   x664 (show 3 ≤ x664.toInt by omega) (show x664.toInt ≤ 113 by omega) w657 H.size hT ) (cwV 1 hC.2.2.2.2 gX12_isStreetHere_X12_areSignsHere rfl rfl rfl (by decide +kernel) ⟨Nat.le_of_ble_eq_true rfl, Nat.le_of_ble_eq_true rfl⟩) rfl hl.1 rfl (Nat.le_of_ble_eq_true rfl) dX12_isStreetHere_140 (fun r665 w667 H locs hp666 hw => ?_)
                obtain ⟨hT, k668, hg681⟩ := hp666
                have hF := hF.tr k668 (by decide)
                have c682 := k668.gi kM_at0 (by decide) c660
                have c683 := k668.gi kM_at0 (by decide) c661
                have c684 := k668.gi kM_at0 (by decide) c662
                have c685 := k668.gi kM_at0 (by decide) c663
                rcases hg681 with ⟨rfl, ⟨x669, c670, rx669, tx669⟩, ⟨x671, c672, rx671, tx671⟩, ⟨x673, c674, rx673, tx673⟩⟩ | ⟨rfl, ⟨x675, c676, rx675, tx675⟩, ⟨x677, c678, rx677, tx677⟩⟩ | ⟨rfl, ⟨x679, c680, rx679, tx679⟩⟩
                · have ex669 : x669.toInt = x12.toInt := by rw [← c683.symm.trans c670]
                  refine lv_if_ne (tgt := 148) hx hb dX12_isStreetHere_143 (by decide) (fun c => absurd (by decide) c) (fun _ => ?_)
                  refine lv_iconst (v := 0) hx hb dX12_isStreetHere_146 (by decide) ?_
                  exact tk_zret hC hr rfl hlocks hK ⟨hT, hF, (Or.inr (Or.inl ⟨rfl, ⟨x12, c683, (show 1 ≤ x12.toInt by omega), (show x12.toInt ≤ 400 by omega)⟩, ⟨x1, c682, (show 0 ≤ x1.toInt by omega), (show x1.toInt ≤ 11 by omega)⟩, ⟨x673, c674, (show 1 ≤ x673.toInt by omega), (show x673.toInt ≤ 3205 by omega)⟩⟩))⟩ hw dX12_isStreetHere_147
                · have ex675 : x675.toInt = x12.toInt := by rw [← c683.symm.trans c676]
                  refine lv_if_ne (tgt := 148) hx hb dX12_isStreetHere_143 (by decide) (fun c => absurd (by decide) c) (fun _ => ?_)
                  refine lv_iconst (v := 0) hx hb dX12_isStreetHere_146 (by decide) ?_
                  exact tk_zret hC hr rfl hlocks hK ⟨hT, hF, (Or.inr (Or.inl ⟨rfl, ⟨x12, c683, (show 1 ≤ x12.toInt by omega), (show x12.toInt ≤ 400 by omega)⟩, ⟨x1, c682, (show 0 ≤ x1.toInt by omega), (show x1.toInt ≤ 11 by omega)⟩, ⟨x677, c678, (show 1 ≤ x677.toInt by omega), (show x677.toInt ≤ 3205 by omega)⟩⟩))⟩ hw dX12_isStreetHere_147
                · have ex679 : x679.toInt = x12.toInt := by rw [← c683.symm.trans c680]
                  refine lv_if_ne (tgt := 148) hx hb dX12_isStreetHere_143 (by decide) (fun _ => ?_) (fun c => absurd c (by decide))
                  refine lv_aload_n hx hb dX12_isStreetHere_148 rfl (lv_at hl 2 rfl) ?_
                  refine lv_dup hx hb dX12_isStreetHere_149 rfl ?_
                  refine tk_geti hC hK hw hT hinX12 kM_at0 (by decide) rfl 8 (by decide) (List.mem_of_getElem? (i := 1) rfl) rfl rfl dX12_isStreetHere_150 (fun x686 c687 rx686 tx686 => ?_)
                  refine wk_top x1 (c687.symm.trans c682) ?_
                  refine lv_iconst (v := 1) hx hb dX12_isStreetHere_153 (by decide) ?_
                  refine lv_iadd hx hb dX12_isStreetHere_154 ?_
                  refine lv_topi (fun x688 ex688 => ?_)
                  have ex688 : x688.toInt = x1.toInt + (1 : Int) := by rw [ex688]; exact wk_add (show (-2147483648) ≤ x1.toInt + (1 : Int) by omega) (show x1.toInt + (1 : Int) ≤ 2147483647 by omega)
                  refine tk_puti hC hK hw hT hinX12 tyX12_ok nmX12 kM_at0 (by decide) rfl rfl 8 (by decide) (List.mem_of_getElem? (i := 1) rfl) rfl rfl rfl rfl (show 0 ≤ x688.toInt by omega) (show x688.toInt ≤ 12 by omega) dX12_isStreetHere_155 (fun H locs w689 hw hT k691 c690 => ?_)
                  have hF := hF.put kM_at0 (k := 8) (by decide) k691
                  have c692 := k691.gi (Or.inr (by decide)) c683
                  have c693 := k691.gi (Or.inr (by decide)) c684
                  have c694 := k691.gi (Or.inr (by decide)) c685
                  refine lv_iconst (v := 1) hx hb dX12_isStreetHere_158 (by decide) ?_
                  exact tk_zret hC hr rfl hlocks hK ⟨hT, hF, (Or.inr (Or.inr (Or.inr ⟨rfl, ⟨x12, c692, (show 1 ≤ x12.toInt by omega), (show x12.toInt ≤ 400 by omega)⟩, ⟨x420, c693, (show 1 ≤ x420.toInt by omega), (show x420.toInt ≤ 10 by omega)⟩, ⟨x688, c690, (show 1 ≤ x688.toInt by omega), (show x688.toInt ≤ 12 by omega)⟩, ⟨x648, c694, (show 1 ≤ x648.toInt by omega), (show x648.toInt ≤ 9 by omega)⟩⟩)))⟩ hw dX12_isStreetHere_159
            · have c623 : x613.toInt = x621.toInt := wk_eq.mp c623
              refine lv_aload_n hx hb dX12_isStreetHere_93 rfl (lv_at hl 2 rfl) ?_
              refine lv_iconst (v := 1) hx hb dX12_isStreetHere_94 (by decide) ?_
              refine lv_iload_n hx hb dX12_isStreetHere_95 rfl (lv_at hl 0 rfl) ?_
              refine tk_Vi hC hK hw hT hA hE hSR kM_at0 (by decide) rfl (k_X12_fails_1 l adK adV dC dI cy ad B (by omega) (by omega) qr s1   1 (by decide) (by decide) x469 (show 0 ≤ x469.toInt by omega) (show x469.toInt ≤ 400 by omega) w601 H.size hT ) (cwV 2 hC.2.2.2.2 gX12_isStreetHere_X12_fails rfl rfl rfl (by decide +kernel) ⟨Nat.le_of_ble_eq_true rfl, Nat.le_of_ble_eq_true rfl⟩) rfl hl.1 rfl (Nat.le_of_ble_eq_true rfl) dX12_isStreetHere_96 (fun r695 w697 H locs hp696 hw => ?_)
              obtain ⟨hT, k698, hg701⟩ := hp696
              have hF := hF.tr k698 (by decide)
              have c702 := k698.gi kM_at0 (by decide) c616
              have c703 := k698.gi kM_at0 (by decide) c617
              have c704 := k698.gi kM_at0 (by decide) c618
              have c705 := k698.gi kM_at0 (by decide) c614
              obtain ⟨rfl, ⟨x699, c700, rx699, tx699⟩⟩ := hg701
              exact tk_zret hC hr rfl hlocks hK ⟨hT, hF, (Or.inr (Or.inl ⟨rfl, ⟨x12, c703, (show 1 ≤ x12.toInt by omega), (show x12.toInt ≤ 400 by omega)⟩, ⟨x1, c702, (show 0 ≤ x1.toInt by omega), (show x1.toInt ≤ 11 by omega)⟩, ⟨x699, c700, (show 1 ≤ x699.toInt by omega), (show x699.toInt ≤ 3205 by omega)⟩⟩))⟩ hw dX12_isStreetHere_99
        · have ex472 : x472.toInt = x12.toInt := by rw [← c477.symm.trans c473]
          obtain ⟨x480, c481, rx480, tx480⟩ := hT.rdi (lo := 0) (hi := 400) (k := 14) kM_at0 (by decide) rfl
          have g474 : (x480.toInt = x453.toInt ∨ (gi w446 1 (x453.toInt).toNat).toInt = 32) := by have q := g474; simp only [c454, c481] at q; omega
          refine lv_pop hx hb dX12_isStreetHere_58 rfl ?_
          refine lv_aload_n hx hb dX12_isStreetHere_59 rfl (lv_at hl 1 rfl) ?_
          refine tk_geti hC hK hw hT hinX12 kM_at0 (by decide) rfl 14 (by decide) (List.mem_of_getElem? (i := 5) rfl) rfl rfl dX12_isStreetHere_60 (fun x706 c707 rx706 tx706 => ?_)
          refine wk_top x480 (c707.symm.trans c481) ?_
          refine lv_istore_n (lv' := [(3, .int x480), (2, .int x419), (0, .ref (ad 0)), (1, .int a1)]) hx hb dX12_isStreetHere_63 rfl hl (by decide) rfl (fun ls hl => ?_)
          refine lv_aload_n hx hb dX12_isStreetHere_64 rfl (lv_at hl 2 rfl) ?_
          refine lv_iconst (v := 0) hx hb dX12_isStreetHere_65 (by decide) ?_
          refine lv_aload_n hx hb dX12_isStreetHere_66 rfl (lv_at hl 2 rfl) ?_
          refine tk_geti hC hK hw hT hinX12 kM_at0 (by decide) rfl 7 (by decide) (List.mem_of_getElem? (i := 2) rfl) rfl rfl dX12_isStreetHere_67 (fun x708 c709 rx708 tx708 => ?_)
          refine wk_top x420 (c709.symm.trans c478) ?_
          refine lv_iconst (v := 1) hx hb dX12_isStreetHere_70 (by decide) ?_
          refine lv_isub hx hb dX12_isStreetHere_71 ?_
          refine lv_topi (fun x710 ex710 => ?_)
          have ex710 : x710.toInt = x420.toInt - (1 : Int) := by rw [ex710]; exact wk_sub (show (-2147483648) ≤ x420.toInt - (1 : Int) by omega) (show x420.toInt - (1 : Int) ≤ 2147483647 by omega)
          refine tk_Vi hC hK hw hT hA hE hSR kM_at0 (by decide) rfl (k_X12_numberHere_7 l adK adV dC dI cy ad B (by omega) (by omega) qr s1   x710 (show 0 ≤ x710.toInt by omega) (show x710.toInt ≤ 9 by omega) w457 H.size hT ) (cwV 2 hC.2.2.2.2 gX12_isStreetHere_X12_numberHere rfl rfl rfl (by decide +kernel) ⟨Nat.le_of_ble_eq_true rfl, Nat.le_of_ble_eq_true rfl⟩) rfl hl.1 rfl (Nat.le_of_ble_eq_true rfl) dX12_isStreetHere_72 (fun r711 w713 H locs hp712 hw => ?_)
          obtain ⟨hT, k714, hg727⟩ := hp712
          have hF := hF.tr k714 (by decide)
          have c728 := k714.gi kM_at0 (by decide) c476
          have c729 := k714.gi kM_at0 (by decide) c477
          have c730 := k714.gi kM_at0 (by decide) c478
          rcases hg727 with ⟨rfl, ⟨x715, c716, rx715, tx715⟩, ⟨x717, c718, rx717, tx717⟩⟩ | ⟨rfl, ⟨x719, c720, rx719, tx719⟩, ⟨x721, c722, rx721, tx721⟩⟩ | ⟨rfl, ⟨x723, c724, rx723, tx723⟩, ⟨x725, c726, rx725, tx725⟩⟩
          · have ex715 : x715.toInt = x12.toInt := by rw [← c729.symm.trans c716]
            refine lv_if_ne (tgt := 80) hx hb dX12_isStreetHere_75 (by decide) (fun c => absurd (by decide) c) (fun _ => ?_)
            refine lv_iconst (v := 0) hx hb dX12_isStreetHere_78 (by decide) ?_
            exact tk_zret hC hr rfl hlocks hK ⟨hT, hF, (Or.inr (Or.inl ⟨rfl, ⟨x12, c729, (show 1 ≤ x12.toInt by omega), (show x12.toInt ≤ 400 by omega)⟩, ⟨x1, c728, (show 0 ≤ x1.toInt by omega), (show x1.toInt ≤ 11 by omega)⟩, ⟨x717, c718, (show 1 ≤ x717.toInt by omega), (show x717.toInt ≤ 3205 by omega)⟩⟩))⟩ hw dX12_isStreetHere_79
          · have ex719 : x719.toInt = x12.toInt := by rw [← c729.symm.trans c720]
            refine lv_if_ne (tgt := 80) hx hb dX12_isStreetHere_75 (by decide) (fun c => absurd (by decide) c) (fun _ => ?_)
            refine lv_iconst (v := 0) hx hb dX12_isStreetHere_78 (by decide) ?_
            exact tk_zret hC hr rfl hlocks hK ⟨hT, hF, (Or.inr (Or.inl ⟨rfl, ⟨x12, c729, (show 1 ≤ x12.toInt by omega), (show x12.toInt ≤ 400 by omega)⟩, ⟨x1, c728, (show 0 ≤ x1.toInt by omega), (show x1.toInt ≤ 11 by omega)⟩, ⟨x721, c722, (show 1 ≤ x721.toInt by omega), (show x721.toInt ≤ 3205 by omega)⟩⟩))⟩ hw dX12_isStreetHere_79
          · have ex723 : x723.toInt = x12.toInt := by rw [← c729.symm.trans c724]
            refine lv_if_ne (tgt := 80) hx hb dX12_isStreetHere_75 (by decide) (fun _ => ?_) (fun c => absurd c (by decide))
            refine lv_aload_n hx hb dX12_isStreetHere_80 rfl (lv_at hl 2 rfl) ?_
            refine tk_geti hC hK hw hT hinX12 kM_at0 (by decide) rfl 16 (by decide) (List.mem_of_getElem? (i := 4) rfl) rfl rfl dX12_isStreetHere_81 (fun x731 c732 rx731 tx731 => ?_)
            refine wk_top x725 (c732.symm.trans c726) ?_
            refine lv_aload_n hx hb dX12_isStreetHere_84 rfl (lv_at hl 2 rfl) ?_
            refine tk_getA hC hK hw hT hinX12 kM_at0 (by decide) rfl 11 (by decide) (List.mem_of_getElem? (i := 3) rfl) rfl rfl dX12_isStreetHere_85 ?_
            refine lv_iload_n hx hb dX12_isStreetHere_88 rfl (lv_at hl 1 rfl) ?_
            refine tk_iald hC hK hw hT kM_at6 rfl rfl (show 0 ≤ x419.toInt by omega) (show x419.toInt < 120 by omega) dX12_isStreetHere_89 (fun x733 c734 rx733 tx733 => ?_)
            refine lv_icmp_ne (tgt := 100) hx hb dX12_isStreetHere_90 (by decide) (fun c735 => ?_) (fun c735 => ?_)
            · have c735 : ¬ x725.toInt = x733.toInt := wk_eqF c735
              refine lv_aload_n hx hb dX12_isStreetHere_100 rfl (lv_at hl 2 rfl) ?_
              refine tk_getA hC hK hw hT hinX12 kM_at0 (by decide) rfl 11 (by decide) (List.mem_of_getElem? (i := 3) rfl) rfl rfl dX12_isStreetHere_101 ?_
              refine lv_iload_n hx hb dX12_isStreetHere_104 rfl (lv_at hl 1 rfl) ?_
              refine lv_iconst (v := 1) hx hb dX12_isStreetHere_105 (by decide) ?_
              refine lv_iadd hx hb dX12_isStreetHere_106 ?_
              refine lv_topi (fun x736 ex736 => ?_)
              have ex736 : x736.toInt = x419.toInt + (1 : Int) := by rw [ex736]; exact wk_add (show (-2147483648) ≤ x419.toInt + (1 : Int) by omega) (show x419.toInt + (1 : Int) ≤ 2147483647 by omega)
              refine lv_aload_n hx hb dX12_isStreetHere_107 rfl (lv_at hl 2 rfl) ?_
              refine tk_geti hC hK hw hT hinX12 kM_at0 (by decide) rfl 16 (by decide) (List.mem_of_getElem? (i := 4) rfl) rfl rfl dX12_isStreetHere_108 (fun x737 c738 rx737 tx737 => ?_)
              refine wk_top x725 (c738.symm.trans c726) ?_
              refine tk_iast hC hK hw hT kM_at6 (by decide) rfl rfl (show 0 ≤ x736.toInt by omega) (show x736.toInt < 120 by omega) (show 0 ≤ x725.toInt by omega) (show x725.toInt ≤ 9 by omega) dX12_isStreetHere_111 (fun H locs w739 hw hT k741 c740 => ?_)
              have hF := hF.put kM_at6 (inE_of (a := 0) (b := 120) (by decide) (show 0 ≤ x736.toInt.toNat by omega) (show x736.toInt.toNat ≤ 120 by omega)) k741
              have c742 := k741.gi (Or.inl (tk_ne kM_at0 kM_at6 (by decide))) c728
              have c743 := k741.gi (Or.inl (tk_ne kM_at0 kM_at6 (by decide))) c729
              have c744 := k741.gi (Or.inl (tk_ne kM_at0 kM_at6 (by decide))) c730
              have c745 := k741.gi (Or.inl (tk_ne kM_at0 kM_at6 (by decide))) c726
              refine lv_aload_n hx hb dX12_isStreetHere_112 rfl (lv_at hl 2 rfl) ?_
              refine lv_iconst (v := 1) hx hb dX12_isStreetHere_113 (by decide) ?_
              refine lv_bipush (v := 9) hx hb dX12_isStreetHere_114 (by decide) ?_
              refine tk_Vi hC hK hw hT hA hE hSR kM_at0 (by decide) rfl (k_X12_numberHere_8 l adK adV dC dI cy ad B (by omega) (by omega) qr s1    w739 H.size hT ) (cwV 2 hC.2.2.2.2 gX12_isStreetHere_X12_numberHere rfl rfl rfl (by decide +kernel) ⟨Nat.le_of_ble_eq_true rfl, Nat.le_of_ble_eq_true rfl⟩) rfl hl.1 rfl (Nat.le_of_ble_eq_true rfl) dX12_isStreetHere_116 (fun r746 w748 H locs hp747 hw => ?_)
              obtain ⟨hT, k749, hg762⟩ := hp747
              have hF := hF.tr k749 (by decide)
              have c763 := k749.gi kM_at0 (by decide) c742
              have c764 := k749.gi kM_at0 (by decide) c743
              have c765 := k749.gi kM_at0 (by decide) c744
              rcases hg762 with ⟨rfl, ⟨x750, c751, rx750, tx750⟩, ⟨x752, c753, rx752, tx752⟩⟩ | ⟨rfl, ⟨x754, c755, rx754, tx754⟩, ⟨x756, c757, rx756, tx756⟩⟩ | ⟨rfl, ⟨x758, c759, rx758, tx758⟩, ⟨x760, c761, rx760, tx760⟩⟩
              · have ex750 : x750.toInt = x12.toInt := by rw [← c764.symm.trans c751]
                refine lv_if_ne (tgt := 124) hx hb dX12_isStreetHere_119 (by decide) (fun c => absurd (by decide) c) (fun _ => ?_)
                refine lv_iconst (v := 0) hx hb dX12_isStreetHere_122 (by decide) ?_
                exact tk_zret hC hr rfl hlocks hK ⟨hT, hF, (Or.inr (Or.inl ⟨rfl, ⟨x12, c764, (show 1 ≤ x12.toInt by omega), (show x12.toInt ≤ 400 by omega)⟩, ⟨x1, c763, (show 0 ≤ x1.toInt by omega), (show x1.toInt ≤ 11 by omega)⟩, ⟨x752, c753, (show 1 ≤ x752.toInt by omega), (show x752.toInt ≤ 3205 by omega)⟩⟩))⟩ hw dX12_isStreetHere_123
              · have ex754 : x754.toInt = x12.toInt := by rw [← c764.symm.trans c755]
                refine lv_if_ne (tgt := 124) hx hb dX12_isStreetHere_119 (by decide) (fun c => absurd (by decide) c) (fun _ => ?_)
                refine lv_iconst (v := 0) hx hb dX12_isStreetHere_122 (by decide) ?_
                exact tk_zret hC hr rfl hlocks hK ⟨hT, hF, (Or.inr (Or.inl ⟨rfl, ⟨x12, c764, (show 1 ≤ x12.toInt by omega), (show x12.toInt ≤ 400 by omega)⟩, ⟨x1, c763, (show 0 ≤ x1.toInt by omega), (show x1.toInt ≤ 11 by omega)⟩, ⟨x756, c757, (show 1 ≤ x756.toInt by omega), (show x756.toInt ≤ 3205 by omega)⟩⟩))⟩ hw dX12_isStreetHere_123
              · have ex758 : x758.toInt = x12.toInt := by rw [← c764.symm.trans c759]
                refine lv_if_ne (tgt := 124) hx hb dX12_isStreetHere_119 (by decide) (fun _ => ?_) (fun c => absurd c (by decide))
                refine lv_aload_n hx hb dX12_isStreetHere_124 rfl (lv_at hl 2 rfl) ?_
                refine tk_getA hC hK hw hT hinX12 kM_at0 (by decide) rfl 11 (by decide) (List.mem_of_getElem? (i := 3) rfl) rfl rfl dX12_isStreetHere_125 ?_
                refine lv_iload_n hx hb dX12_isStreetHere_128 rfl (lv_at hl 1 rfl) ?_
                refine lv_iconst (v := 2) hx hb dX12_isStreetHere_129 (by decide) ?_
                refine lv_iadd hx hb dX12_isStreetHere_130 ?_
                refine lv_topi (fun x766 ex766 => ?_)
                have ex766 : x766.toInt = x419.toInt + (2 : Int) := by rw [ex766]; exact wk_add (show (-2147483648) ≤ x419.toInt + (2 : Int) by omega) (show x419.toInt + (2 : Int) ≤ 2147483647 by omega)
                refine lv_aload_n hx hb dX12_isStreetHere_131 rfl (lv_at hl 2 rfl) ?_
                refine tk_geti hC hK hw hT hinX12 kM_at0 (by decide) rfl 16 (by decide) (List.mem_of_getElem? (i := 4) rfl) rfl rfl dX12_isStreetHere_132 (fun x767 c768 rx767 tx767 => ?_)
                refine wk_top x760 (c768.symm.trans c761) ?_
                refine tk_iast hC hK hw hT kM_at6 (by decide) rfl rfl (show 0 ≤ x766.toInt by omega) (show x766.toInt < 120 by omega) (show 0 ≤ x760.toInt by omega) (show x760.toInt ≤ 9 by omega) dX12_isStreetHere_135 (fun H locs w769 hw hT k771 c770 => ?_)
                have hF := hF.put kM_at6 (inE_of (a := 0) (b := 120) (by decide) (show 0 ≤ x766.toInt.toNat by omega) (show x766.toInt.toNat ≤ 120 by omega)) k771
                have c772 := k771.gi (Or.inl (tk_ne kM_at0 kM_at6 (by decide))) c763
                have c773 := k771.gi (Or.inl (tk_ne kM_at0 kM_at6 (by decide))) c764
                have c774 := k771.gi (Or.inl (tk_ne kM_at0 kM_at6 (by decide))) c765
                have c775 := k771.gi (Or.inl (tk_ne kM_at0 kM_at6 (by decide))) c761
                refine lv_aload_n hx hb dX12_isStreetHere_136 rfl (lv_at hl 2 rfl) ?_
                refine lv_iload_n hx hb dX12_isStreetHere_137 rfl (lv_at hl 1 rfl) ?_
                refine lv_iconst (v := 3) hx hb dX12_isStreetHere_138 (by decide) ?_
                refine lv_iadd hx hb dX12_isStreetHere_139 ?_
                refine lv_topi (fun x776 ex776 => ?_)
                have ex776 : x776.toInt = x419.toInt + (3 : Int) := by rw [ex776]; exact wk_add (show (-2147483648) ≤ x419.toInt + (3 : Int) by omega) (show x419.toInt + (3 : Int) ≤ 2147483647 by omega)
                refine tk_Vi hC hK hw hT hA hE hSR kM_at0 (by decide) rfl (k_X12_areSignsHere_1 l adK adV dC dI cy ad B (by omega) (by omega) qr s1   x776 (show 3 ≤ x776.toInt by omega) (show x776.toInt ≤ 113 by omega) w769 H.size hT ) (cwV 1 hC.2.2.2.2 gX12_isStreetHere_X12_areSignsHere rfl rfl rfl (by decide +kernel) ⟨Nat.le_of_ble_eq_true rfl, Nat.le_of_ble_eq_true rfl⟩) rfl hl.1 rfl (Nat.le_of_ble_eq_true rfl) dX12_isStreetHere_140 (fun r777 w779 H locs hp778 hw => ?_)
                obtain ⟨hT, k780, hg793⟩ := hp778
                have hF := hF.tr k780 (by decide)
                have c794 := k780.gi kM_at0 (by decide) c772
                have c795 := k780.gi kM_at0 (by decide) c773
                have c796 := k780.gi kM_at0 (by decide) c774
                have c797 := k780.gi kM_at0 (by decide) c775
                rcases hg793 with ⟨rfl, ⟨x781, c782, rx781, tx781⟩, ⟨x783, c784, rx783, tx783⟩, ⟨x785, c786, rx785, tx785⟩⟩ | ⟨rfl, ⟨x787, c788, rx787, tx787⟩, ⟨x789, c790, rx789, tx789⟩⟩ | ⟨rfl, ⟨x791, c792, rx791, tx791⟩⟩
                · have ex781 : x781.toInt = x12.toInt := by rw [← c795.symm.trans c782]
                  refine lv_if_ne (tgt := 148) hx hb dX12_isStreetHere_143 (by decide) (fun c => absurd (by decide) c) (fun _ => ?_)
                  refine lv_iconst (v := 0) hx hb dX12_isStreetHere_146 (by decide) ?_
                  exact tk_zret hC hr rfl hlocks hK ⟨hT, hF, (Or.inr (Or.inl ⟨rfl, ⟨x12, c795, (show 1 ≤ x12.toInt by omega), (show x12.toInt ≤ 400 by omega)⟩, ⟨x1, c794, (show 0 ≤ x1.toInt by omega), (show x1.toInt ≤ 11 by omega)⟩, ⟨x785, c786, (show 1 ≤ x785.toInt by omega), (show x785.toInt ≤ 3205 by omega)⟩⟩))⟩ hw dX12_isStreetHere_147
                · have ex787 : x787.toInt = x12.toInt := by rw [← c795.symm.trans c788]
                  refine lv_if_ne (tgt := 148) hx hb dX12_isStreetHere_143 (by decide) (fun c => absurd (by decide) c) (fun _ => ?_)
                  refine lv_iconst (v := 0) hx hb dX12_isStreetHere_146 (by decide) ?_
                  exact tk_zret hC hr rfl hlocks hK ⟨hT, hF, (Or.inr (Or.inl ⟨rfl, ⟨x12, c795, (show 1 ≤ x12.toInt by omega), (show x12.toInt ≤ 400 by omega)⟩, ⟨x1, c794, (show 0 ≤ x1.toInt by omega), (show x1.toInt ≤ 11 by omega)⟩, ⟨x789, c790, (show 1 ≤ x789.toInt by omega), (show x789.toInt ≤ 3205 by omega)⟩⟩))⟩ hw dX12_isStreetHere_147
                · have ex791 : x791.toInt = x12.toInt := by rw [← c795.symm.trans c792]
                  refine lv_if_ne (tgt := 148) hx hb dX12_isStreetHere_143 (by decide) (fun _ => ?_) (fun c => absurd c (by decide))
                  refine lv_aload_n hx hb dX12_isStreetHere_148 rfl (lv_at hl 2 rfl) ?_
                  refine lv_dup hx hb dX12_isStreetHere_149 rfl ?_
                  refine tk_geti hC hK hw hT hinX12 kM_at0 (by decide) rfl 8 (by decide) (List.mem_of_getElem? (i := 1) rfl) rfl rfl dX12_isStreetHere_150 (fun x798 c799 rx798 tx798 => ?_)
                  refine wk_top x1 (c799.symm.trans c794) ?_
                  refine lv_iconst (v := 1) hx hb dX12_isStreetHere_153 (by decide) ?_
                  refine lv_iadd hx hb dX12_isStreetHere_154 ?_
                  refine lv_topi (fun x800 ex800 => ?_)
                  have ex800 : x800.toInt = x1.toInt + (1 : Int) := by rw [ex800]; exact wk_add (show (-2147483648) ≤ x1.toInt + (1 : Int) by omega) (show x1.toInt + (1 : Int) ≤ 2147483647 by omega)
                  refine tk_puti hC hK hw hT hinX12 tyX12_ok nmX12 kM_at0 (by decide) rfl rfl 8 (by decide) (List.mem_of_getElem? (i := 1) rfl) rfl rfl rfl rfl (show 0 ≤ x800.toInt by omega) (show x800.toInt ≤ 12 by omega) dX12_isStreetHere_155 (fun H locs w801 hw hT k803 c802 => ?_)
                  have hF := hF.put kM_at0 (k := 8) (by decide) k803
                  have c804 := k803.gi (Or.inr (by decide)) c795
                  have c805 := k803.gi (Or.inr (by decide)) c796
                  have c806 := k803.gi (Or.inr (by decide)) c797
                  refine lv_iconst (v := 1) hx hb dX12_isStreetHere_158 (by decide) ?_
                  exact tk_zret hC hr rfl hlocks hK ⟨hT, hF, (Or.inr (Or.inr (Or.inr ⟨rfl, ⟨x12, c804, (show 1 ≤ x12.toInt by omega), (show x12.toInt ≤ 400 by omega)⟩, ⟨x420, c805, (show 1 ≤ x420.toInt by omega), (show x420.toInt ≤ 10 by omega)⟩, ⟨x800, c802, (show 1 ≤ x800.toInt by omega), (show x800.toInt ≤ 12 by omega)⟩, ⟨x760, c806, (show 1 ≤ x760.toInt by omega), (show x760.toInt ≤ 9 by omega)⟩⟩)))⟩ hw dX12_isStreetHere_159
            · have c735 : x725.toInt = x733.toInt := wk_eq.mp c735
              refine lv_aload_n hx hb dX12_isStreetHere_93 rfl (lv_at hl 2 rfl) ?_
              refine lv_iconst (v := 1) hx hb dX12_isStreetHere_94 (by decide) ?_
              refine lv_iload_n hx hb dX12_isStreetHere_95 rfl (lv_at hl 0 rfl) ?_
              refine tk_Vi hC hK hw hT hA hE hSR kM_at0 (by decide) rfl (k_X12_fails_1 l adK adV dC dI cy ad B (by omega) (by omega) qr s1   1 (by decide) (by decide) x480 (show 0 ≤ x480.toInt by omega) (show x480.toInt ≤ 400 by omega) w713 H.size hT ) (cwV 2 hC.2.2.2.2 gX12_isStreetHere_X12_fails rfl rfl rfl (by decide +kernel) ⟨Nat.le_of_ble_eq_true rfl, Nat.le_of_ble_eq_true rfl⟩) rfl hl.1 rfl (Nat.le_of_ble_eq_true rfl) dX12_isStreetHere_96 (fun r807 w809 H locs hp808 hw => ?_)
              obtain ⟨hT, k810, hg813⟩ := hp808
              have hF := hF.tr k810 (by decide)
              have c814 := k810.gi kM_at0 (by decide) c728
              have c815 := k810.gi kM_at0 (by decide) c729
              have c816 := k810.gi kM_at0 (by decide) c730
              have c817 := k810.gi kM_at0 (by decide) c726
              obtain ⟨rfl, ⟨x811, c812, rx811, tx811⟩⟩ := hg813
              exact tk_zret hC hr rfl hlocks hK ⟨hT, hF, (Or.inr (Or.inl ⟨rfl, ⟨x12, c815, (show 1 ≤ x12.toInt by omega), (show x12.toInt ≤ 400 by omega)⟩, ⟨x1, c814, (show 0 ≤ x1.toInt by omega), (show x1.toInt ≤ 11 by omega)⟩, ⟨x811, c812, (show 1 ≤ x811.toInt by omega), (show x811.toInt ≤ 3205 by omega)⟩⟩))⟩ hw dX12_isStreetHere_99
  · have c3 : x1.toInt = (12 : Int) := wk_eq.mp c3
    refine lv_aload_n hx hb dX12_isStreetHere_9 rfl (lv_at hl 0 rfl) ?_
    refine lv_iconst (v := 4) hx hb dX12_isStreetHere_10 (by decide) ?_
    refine lv_iload_n hx hb dX12_isStreetHere_11 rfl (lv_at hl 1 rfl) ?_
    refine tk_Vi hC hK hw hT hA hE hSR kM_at0 (by decide) rfl (k_X12_fails_1 l adK adV dC dI cy ad B (by omega) (by omega) qr s1   4 (by decide) (by decide) a1 (show 0 ≤ a1.toInt by omega) (show a1.toInt ≤ 400 by omega) w0 s.heap.size hT ) (cwV 2 hC.2.2.2.2 gX12_isStreetHere_X12_fails rfl rfl rfl (by decide +kernel) ⟨Nat.le_of_ble_eq_true rfl, Nat.le_of_ble_eq_true rfl⟩) rfl hl.1 rfl (Nat.le_of_ble_eq_true rfl) dX12_isStreetHere_12 (fun r818 w820 H locs hp819 hw => ?_)
    obtain ⟨hT, k821, hg824⟩ := hp819
    have hF := hF.tr k821 (by decide)
    have c825 := k821.gi kM_at0 (by decide) c2
    obtain ⟨rfl, ⟨x822, c823, rx822, tx822⟩⟩ := hg824
    exact tk_zret hC hr rfl hlocks hK ⟨hT, hF, (Or.inl ⟨rfl, ⟨x1, c825, (show 12 ≤ x1.toInt by omega), (show x1.toInt ≤ 12 by omega)⟩, ⟨x822, c823, (show 1 ≤ x822.toInt by omega), (show x822.toInt ≤ 3205 by omega)⟩⟩)⟩ hw dX12_isStreetHere_15
abbrev P_X12_townLineHere_1 (ad : Nat → Nat) (cy : Nat → ClassId) (B : Int) (qr : Nat) (s1 : Int) (a1 : Int32) (w0 : va_W) : Int32 → va_W → Prop := fun r u => TW ksM ad cy B qr 12 u ∧ FE ksM [(12, 7, 7), (12, 8, 8), (12, 9, 9), (12, 10, 10), (12, 14, 14), (12, 15, 15), (12, 16, 16), (65, 0, 120), (66, 0, 16), (67, 0, 12)] w0 u ∧ ((r = 0 ∧ (∃ y : Int32, gi u 0 1 = y ∧ 1 ≤ y.toInt ∧ y.toInt ≤ 400) ∧ (∃ y : Int32, gi u 0 7 = y ∧ 0 ≤ y.toInt ∧ y.toInt ≤ 10) ∧ (∃ y : Int32, gi u 0 15 = y ∧ 1 ≤ y.toInt ∧ y.toInt ≤ 3205)) ∨ (r = 0 ∧ (∃ y : Int32, gi u 0 1 = y ∧ 0 ≤ y.toInt ∧ y.toInt ≤ 400) ∧ (∃ y : Int32, gi u 0 7 = y ∧ 0 ≤ y.toInt ∧ y.toInt ≤ 10) ∧ (∃ y : Int32, gi u 0 15 = y ∧ 1 ≤ y.toInt ∧ y.toInt ≤ 3205)) ∨ (r = 1 ∧ (∃ y : Int32, gi u 0 1 = y ∧ 1 ≤ y.toInt ∧ y.toInt ≤ 400) ∧ (∃ y : Int32, gi u 0 7 = y ∧ 1 ≤ y.toInt ∧ y.toInt ≤ 10) ∧ (∃ y : Int32, gi u 0 16 = y ∧ 0 ≤ y.toInt ∧ y.toInt ≤ 359)))
set_option maxHeartbeats 4000000 in
set_option maxRecDepth 100000 in
theorem k_X12_townLineHere_1 (l : Launch) (adK adV : Nat → Nat) (dC : Nat → ClassId) (dI : Nat → Nat → Nat) (cy : Nat → ClassId) (ad : Nat → Nat) (B : Int) (hB0 : 100000 ≤ B) (hB1 : B ≤ 1073741824) (qr : Nat) (s1 : Int)  (a1 : Int32) (ra1 : 0 ≤ a1.toInt) (ta1 : a1.toInt ≤ 400) (w0 : va_W) (sz : Nat) (hT : TW ksM ad cy B qr 12 w0)  : Met l yX12_townLineHere wsX12_townLineHere ({ frames := 4, cells := 0, slots := 0, locals := 84 }) (va_Pc [.ref (ad 0), .int a1] (wpreS adK adV dC dI cy sz w0)) (va_Qi (P_X12_townLineHere_1 ad cy B qr s1 a1 w0) (fun u : va_W => wpost dC dI cy (va_A w0 sz) u) (va_A w0 sz)) 0 0 (va_A w0 sz) := by
  refine Met.ofW (cc := cX12_townLineHere) (maxL := 2) (ret := (some .boolean)) (by decide) rfl ?_
  intro p e s m args below meth c s₁ Bk hml hv
  obtain ⟨rfl, ⟨hsz, hP, hK, hD0⟩, hE, hSR⟩ := hv
  have hx := Bk.exec
  have hb := Bk.bytes
  have hr := Bk.returns
  have hlocks := Bk.notSynchronized
  have hC : CallFix p m c cX12_townLineHere 2 s _ wsX12_townLineHere RX12 := ⟨hx, hb, hml, findClass_of_methodNamed Bk.named, atoms_spec (ws := wsX12_townLineHere) Bk.pre⟩
  subst hsz
  have hD := hD0.self (sz := s.heap.size)
  generalize hAe : va_A w0 s.heap.size = A at hD hE ⊢
  have hA : ∀ q : Nat, s.heap.size ≤ q → A q := fun q h => by rw [← hAe]; exact Or.inr h
  have hw : Wd dC dI A s.heap s.heap [] w0 := ⟨hP, hD, va_S.rf⟩
  have hF : FE ksM [(12, 7, 7), (12, 8, 8), (12, 9, 9), (12, 10, 10), (12, 14, 14), (12, 15, 15), (12, 16, 16), (65, 0, 120), (66, 0, 16), (67, 0, 12)] w0 w0 := FE.rf
  have hl := lv_entry ([.ref (ad 0), .int a1]) (n := 2) (Nat.le_of_ble_eq_true rfl)
  rw [lg_entry_eq]
  generalize (lg_sl ([.ref (ad 0), .int a1]) ++ List.replicate (2 - (lg_sl ([.ref (ad 0), .int a1])).length) Slot.unset).toArray = ls at hl ⊢
  have hl : lv_has ls 2 [(0, .ref (ad 0)), (1, .int a1)] := hl
  generalize hloc : ([] : List Loc) = locs at hw ⊢
  have hinX12 : ∀ w ∈ u_ws RX12 TX12 42, w ∈ wsX12_townLineHere := fun _ h => List.mem_cons_of_mem _ (List.mem_append_right _ (h))
  refine lv_aload_n hx hb dX12_townLineHere_0 rfl (lv_at hl 0 rfl) ?_
  refine lv_ldc2 (v := 27988559963452019) hx hb hC.2.2.2.1 (hC.2.2.2.2 _ (List.mem_of_getElem? (i := 1) rfl)) dX12_townLineHere_1 ?_
  obtain ⟨x1, c2, rx1, tx1⟩ := hT.rdi (lo := 0) (hi := 400) (k := 14) kM_at0 (by decide) rfl
  refine tk_Vi hC hK hw hT hA hE hSR kM_at0 (by decide) rfl (k_X12_isWord_3 l adK adV dC dI cy ad B (by omega) (by omega) qr s1    w0 s.heap.size hT x1 c2 (show 0 ≤ x1.toInt by omega) (show x1.toInt ≤ 400 by omega)) (cwV 1 hC.2.2.2.2 gX12_townLineHere_X12_isWord rfl rfl rfl (by decide +kernel) ⟨Nat.le_of_ble_eq_true rfl, Nat.le_of_ble_eq_true rfl⟩) rfl hl.1 rfl (Nat.le_of_ble_eq_true rfl) dX12_townLineHere_4 (fun r3 w5 H locs hp4 hw => ?_)
  obtain ⟨hT, k6, hg13⟩ := hp4
  have hF := hF.tr k6 (by decide)
  rcases hg13 with ⟨rfl, ⟨x7, c8, rx7, tx7⟩, g9⟩ | ⟨rfl, ⟨x10, c11, rx10, tx10⟩, g12⟩
  · obtain ⟨x14, c15, rx14, tx14⟩ := hT.rdi (lo := 0) (hi := 400) (k := 14) kM_at0 (by decide) rfl
    have g9 : (x14.toInt = x1.toInt ∨ (gi w0 1 (x1.toInt).toNat).toInt = 32) := by have q := g9; simp only [c2, c15] at q; omega
    refine lv_if_eq (tgt := 16) hx hb dX12_townLineHere_7 (by decide) (fun _ => ?_) (fun c => absurd (by decide) c)
    refine lv_aload_n hx hb dX12_townLineHere_16 rfl (lv_at hl 0 rfl) ?_
    refine tk_geti hC hK hw hT hinX12 kM_at0 (by decide) rfl 7 (by decide) (List.mem_of_getElem? (i := 2) rfl) rfl rfl dX12_townLineHere_17 (fun x18 c19 rx18 tx18 => ?_)
    refine lv_if_ne (tgt := 30) hx hb dX12_townLineHere_20 (by decide) (fun c20 => ?_) (fun c20 => ?_)
    · have c20 : ¬ x18.toInt = (0 : Int) := wk_eqF c20
      refine lv_aload_n hx hb dX12_townLineHere_30 rfl (lv_at hl 0 rfl) ?_
      refine lv_ldc2 (v := 126943972648308) hx hb hC.2.2.2.1 (hC.2.2.2.2 _ (List.mem_of_getElem? (i := 3) rfl)) dX12_townLineHere_31 ?_
      refine tk_Vi hC hK hw hT hA hE hSR kM_at0 (by decide) rfl (k_X12_isWord_1 l adK adV dC dI cy ad B (by omega) (by omega) qr s1    w5 H.size hT x14 c15 (show 0 ≤ x14.toInt by omega) (show x14.toInt ≤ 400 by omega)) (cwV 1 hC.2.2.2.2 gX12_townLineHere_X12_isWord rfl rfl rfl (by decide +kernel) ⟨Nat.le_of_ble_eq_true rfl, Nat.le_of_ble_eq_true rfl⟩) rfl hl.1 rfl (Nat.le_of_ble_eq_true rfl) dX12_townLineHere_34 (fun r21 w23 H locs hp22 hw => ?_)
      obtain ⟨hT, k24, hg31⟩ := hp22
      have hF := hF.tr k24 (by decide)
      have c32 := k24.gi kM_at0 (by decide) c8
      have c33 := k24.gi kM_at0 (by decide) c19
      rcases hg31 with ⟨rfl, ⟨x25, c26, rx25, tx25⟩, g27⟩ | ⟨rfl, ⟨x28, c29, rx28, tx28⟩, g30⟩
      · have ex25 : x25.toInt = x7.toInt := by rw [← c32.symm.trans c26]
        obtain ⟨x34, c35, rx34, tx34⟩ := hT.rdi (lo := 0) (hi := 400) (k := 14) kM_at0 (by decide) rfl
        have g27 : (x34.toInt = x14.toInt ∨ (gi w5 1 (x14.toInt).toNat).toInt = 32) := by have q := g27; simp only [c15, c35] at q; omega
        refine lv_if_eq (tgt := 48) hx hb dX12_townLineHere_37 (by decide) (fun _ => ?_) (fun c => absurd (by decide) c)
        refine lv_aload_n hx hb dX12_townLineHere_48 rfl (lv_at hl 0 rfl) ?_
        refine lv_ldc2 (v := 495555538548) hx hb hC.2.2.2.1 (hC.2.2.2.2 _ (List.mem_of_getElem? (i := 4) rfl)) dX12_townLineHere_49 ?_
        refine tk_Vi hC hK hw hT hA hE hSR kM_at0 (by decide) rfl (k_X12_isWord_4 l adK adV dC dI cy ad B (by omega) (by omega) qr s1    w23 H.size hT x34 c35 (show 0 ≤ x34.toInt by omega) (show x34.toInt ≤ 400 by omega)) (cwV 1 hC.2.2.2.2 gX12_townLineHere_X12_isWord rfl rfl rfl (by decide +kernel) ⟨Nat.le_of_ble_eq_true rfl, Nat.le_of_ble_eq_true rfl⟩) rfl hl.1 rfl (Nat.le_of_ble_eq_true rfl) dX12_townLineHere_52 (fun r38 w40 H locs hp39 hw => ?_)
        obtain ⟨hT, k41, hg48⟩ := hp39
        have hF := hF.tr k41 (by decide)
        have c49 := k41.gi kM_at0 (by decide) c32
        have c50 := k41.gi kM_at0 (by decide) c33
        rcases hg48 with ⟨rfl, ⟨x42, c43, rx42, tx42⟩, g44⟩ | ⟨rfl, ⟨x45, c46, rx45, tx45⟩, g47⟩
        · have ex42 : x42.toInt = x7.toInt := by rw [← c49.symm.trans c43]
          obtain ⟨x51, c52, rx51, tx51⟩ := hT.rdi (lo := 0) (hi := 400) (k := 14) kM_at0 (by decide) rfl
          have g44 : (x51.toInt = x34.toInt ∨ (gi w23 1 (x34.toInt).toNat).toInt = 32) := by have q := g44; simp only [c35, c52] at q; omega
          refine lv_if_eq (tgt := 66) hx hb dX12_townLineHere_55 (by decide) (fun _ => ?_) (fun c => absurd (by decide) c)
          refine lv_aload_n hx hb dX12_townLineHere_66 rfl (lv_at hl 0 rfl) ?_
          refine lv_iload_n hx hb dX12_townLineHere_67 rfl (lv_at hl 1 rfl) ?_
          refine tk_Vi hC hK hw hT hA hE hSR kM_at0 (by decide) rfl (k_X12_isLiftHere_1 l adK adV dC dI cy ad B (by omega) (by omega) qr s1   a1 (show 0 ≤ a1.toInt by omega) (show a1.toInt ≤ 400 by omega) w40 H.size hT ) (cwV 1 hC.2.2.2.2 gX12_townLineHere_X12_isLiftHere rfl rfl rfl (by decide +kernel) ⟨Nat.le_of_ble_eq_true rfl, Nat.le_of_ble_eq_true rfl⟩) rfl hl.1 rfl (Nat.le_of_ble_eq_true rfl) dX12_townLineHere_68 (fun r55 w57 H locs hp56 hw => ?_)
          obtain ⟨hT, k58, hg83⟩ := hp56
          have hF := hF.tr k58 (by decide)
          have c84 := k58.gi kM_at0 (by decide) c49
          have c85 := k58.gi kM_at0 (by decide) c50
          rcases hg83 with ⟨rfl, ⟨x59, c60, rx59, tx59⟩, ⟨x61, c62, rx61, tx61⟩⟩ | ⟨rfl, ⟨x63, c64, rx63, tx63⟩, ⟨x65, c66, rx65, tx65⟩, ⟨x67, c68, rx67, tx67⟩⟩ | ⟨rfl, ⟨x69, c70, rx69, tx69⟩, ⟨x71, c72, rx71, tx71⟩, ⟨x73, c74, rx73, tx73⟩⟩ | ⟨rfl, ⟨x75, c76, rx75, tx75⟩, ⟨x77, c78, rx77, tx77⟩, ⟨x79, c80, rx79, tx79⟩, ⟨x81, c82, rx81, tx81⟩⟩
          · exact tk_zret hC hr rfl hlocks hK ⟨hT, hF, (Or.inr (Or.inl ⟨rfl, ⟨x7, c84, (show 0 ≤ x7.toInt by omega), (show x7.toInt ≤ 400 by omega)⟩, ⟨x18, c85, (show 0 ≤ x18.toInt by omega), (show x18.toInt ≤ 10 by omega)⟩, ⟨x61, c62, (show 1 ≤ x61.toInt by omega), (show x61.toInt ≤ 3205 by omega)⟩⟩))⟩ hw dX12_townLineHere_71
          · have ex63 : x63.toInt = x7.toInt := by rw [← c84.symm.trans c64]
            exact tk_zret hC hr rfl hlocks hK ⟨hT, hF, (Or.inl ⟨rfl, ⟨x7, c84, (show 1 ≤ x7.toInt by omega), (show x7.toInt ≤ 400 by omega)⟩, ⟨x18, c85, (show 0 ≤ x18.toInt by omega), (show x18.toInt ≤ 10 by omega)⟩, ⟨x67, c68, (show 1 ≤ x67.toInt by omega), (show x67.toInt ≤ 3205 by omega)⟩⟩)⟩ hw dX12_townLineHere_71
          · have ex69 : x69.toInt = x7.toInt := by rw [← c84.symm.trans c70]
            exact tk_zret hC hr rfl hlocks hK ⟨hT, hF, (Or.inr (Or.inl ⟨rfl, ⟨x7, c84, (show 0 ≤ x7.toInt by omega), (show x7.toInt ≤ 400 by omega)⟩, ⟨x18, c85, (show 0 ≤ x18.toInt by omega), (show x18.toInt ≤ 10 by omega)⟩, ⟨x73, c74, (show 1 ≤ x73.toInt by omega), (show x73.toInt ≤ 3205 by omega)⟩⟩))⟩ hw dX12_townLineHere_71
          · have ex75 : x75.toInt = x7.toInt := by rw [← c84.symm.trans c76]
            exact tk_zret hC hr rfl hlocks hK ⟨hT, hF, (Or.inr (Or.inr ⟨rfl, ⟨x7, c84, (show 1 ≤ x7.toInt by omega), (show x7.toInt ≤ 400 by omega)⟩, ⟨x18, c85, (show 1 ≤ x18.toInt by omega), (show x18.toInt ≤ 10 by omega)⟩, ⟨x81, c82, (show 0 ≤ x81.toInt by omega), (show x81.toInt ≤ 359 by omega)⟩⟩))⟩ hw dX12_townLineHere_71
        · have ex45 : x45.toInt = x7.toInt := by rw [← c49.symm.trans c46]
          obtain ⟨x53, c54, rx53, tx53⟩ := hT.rdi (lo := 0) (hi := 400) (k := 14) kM_at0 (by decide) rfl
          have g47 : (x53.toInt = x34.toInt ∨ (gi w23 1 (x34.toInt).toNat).toInt = 32) := by have q := g47; simp only [c35, c54] at q; omega
          refine lv_if_eq (tgt := 66) hx hb dX12_townLineHere_55 (by decide) (fun c => absurd c (by decide)) (fun _ => ?_)
          refine lv_aload_n hx hb dX12_townLineHere_58 rfl (lv_at hl 0 rfl) ?_
          refine lv_iload_n hx hb dX12_townLineHere_59 rfl (lv_at hl 1 rfl) ?_
          refine tk_Vi hC hK hw hT hA hE hSR kM_at0 (by decide) rfl (k_X12_isSaintHere_1 l adK adV dC dI cy ad B (by omega) (by omega) qr s1   a1 (show 0 ≤ a1.toInt by omega) (show a1.toInt ≤ 400 by omega) w40 H.size hT ) (cwV 1 hC.2.2.2.2 gX12_townLineHere_X12_isSaintHere rfl rfl rfl (by decide +kernel) ⟨Nat.le_of_ble_eq_true rfl, Nat.le_of_ble_eq_true rfl⟩) rfl hl.1 rfl (Nat.le_of_ble_eq_true rfl) dX12_townLineHere_60 (fun r86 w88 H locs hp87 hw => ?_)
          obtain ⟨hT, k89, hg114⟩ := hp87
          have hF := hF.tr k89 (by decide)
          have c115 := k89.gi kM_at0 (by decide) c49
          have c116 := k89.gi kM_at0 (by decide) c50
          rcases hg114 with ⟨rfl, ⟨x90, c91, rx90, tx90⟩, ⟨x92, c93, rx92, tx92⟩⟩ | ⟨rfl, ⟨x94, c95, rx94, tx94⟩, ⟨x96, c97, rx96, tx96⟩, ⟨x98, c99, rx98, tx98⟩⟩ | ⟨rfl, ⟨x100, c101, rx100, tx100⟩, ⟨x102, c103, rx102, tx102⟩, ⟨x104, c105, rx104, tx104⟩⟩ | ⟨rfl, ⟨x106, c107, rx106, tx106⟩, ⟨x108, c109, rx108, tx108⟩, ⟨x110, c111, rx110, tx110⟩, ⟨x112, c113, rx112, tx112⟩⟩
          · refine lv_goto (tgt := 71) hx hb dX12_townLineHere_63 (by decide) ?_
            exact tk_zret hC hr rfl hlocks hK ⟨hT, hF, (Or.inr (Or.inl ⟨rfl, ⟨x7, c115, (show 0 ≤ x7.toInt by omega), (show x7.toInt ≤ 400 by omega)⟩, ⟨x18, c116, (show 0 ≤ x18.toInt by omega), (show x18.toInt ≤ 10 by omega)⟩, ⟨x92, c93, (show 1 ≤ x92.toInt by omega), (show x92.toInt ≤ 3205 by omega)⟩⟩))⟩ hw dX12_townLineHere_71
          · have ex94 : x94.toInt = x7.toInt := by rw [← c115.symm.trans c95]
            refine lv_goto (tgt := 71) hx hb dX12_townLineHere_63 (by decide) ?_
            exact tk_zret hC hr rfl hlocks hK ⟨hT, hF, (Or.inl ⟨rfl, ⟨x7, c115, (show 1 ≤ x7.toInt by omega), (show x7.toInt ≤ 400 by omega)⟩, ⟨x18, c116, (show 0 ≤ x18.toInt by omega), (show x18.toInt ≤ 10 by omega)⟩, ⟨x98, c99, (show 1 ≤ x98.toInt by omega), (show x98.toInt ≤ 3205 by omega)⟩⟩)⟩ hw dX12_townLineHere_71
          · have ex100 : x100.toInt = x7.toInt := by rw [← c115.symm.trans c101]
            refine lv_goto (tgt := 71) hx hb dX12_townLineHere_63 (by decide) ?_
            exact tk_zret hC hr rfl hlocks hK ⟨hT, hF, (Or.inr (Or.inl ⟨rfl, ⟨x7, c115, (show 0 ≤ x7.toInt by omega), (show x7.toInt ≤ 400 by omega)⟩, ⟨x18, c116, (show 0 ≤ x18.toInt by omega), (show x18.toInt ≤ 10 by omega)⟩, ⟨x104, c105, (show 1 ≤ x104.toInt by omega), (show x104.toInt ≤ 3205 by omega)⟩⟩))⟩ hw dX12_townLineHere_71
          · have ex106 : x106.toInt = x7.toInt := by rw [← c115.symm.trans c107]
            have ex108 : x108.toInt = x18.toInt := by rw [← c116.symm.trans c109]
            refine lv_goto (tgt := 71) hx hb dX12_townLineHere_63 (by decide) ?_
            exact tk_zret hC hr rfl hlocks hK ⟨hT, hF, (Or.inr (Or.inr ⟨rfl, ⟨x7, c115, (show 1 ≤ x7.toInt by omega), (show x7.toInt ≤ 400 by omega)⟩, ⟨x18, c116, (show 1 ≤ x18.toInt by omega), (show x18.toInt ≤ 10 by omega)⟩, ⟨x112, c113, (show 0 ≤ x112.toInt by omega), (show x112.toInt ≤ 359 by omega)⟩⟩))⟩ hw dX12_townLineHere_71
      · have ex28 : x28.toInt = x7.toInt := by rw [← c32.symm.trans c29]
        obtain ⟨x36, c37, rx36, tx36⟩ := hT.rdi (lo := 0) (hi := 400) (k := 14) kM_at0 (by decide) rfl
        have g30 : (x36.toInt = x14.toInt ∨ (gi w5 1 (x14.toInt).toNat).toInt = 32) := by have q := g30; simp only [c15, c37] at q; omega
        refine lv_if_eq (tgt := 48) hx hb dX12_townLineHere_37 (by decide) (fun c => absurd c (by decide)) (fun _ => ?_)
        refine lv_aload_n hx hb dX12_townLineHere_40 rfl (lv_at hl 0 rfl) ?_
        refine lv_iload_n hx hb dX12_townLineHere_41 rfl (lv_at hl 1 rfl) ?_
        refine tk_Vi hC hK hw hT hA hE hSR kM_at0 (by decide) rfl (k_X12_isStreetHere_1 l adK adV dC dI cy ad B (by omega) (by omega) qr s1   a1 (show 0 ≤ a1.toInt by omega) (show a1.toInt ≤ 400 by omega) w23 H.size hT ) (cwV 1 hC.2.2.2.2 gX12_townLineHere_X12_isStreetHere rfl rfl rfl (by decide +kernel) ⟨Nat.le_of_ble_eq_true rfl, Nat.le_of_ble_eq_true rfl⟩) rfl hl.1 rfl (Nat.le_of_ble_eq_true rfl) dX12_townLineHere_42 (fun r117 w119 H locs hp118 hw => ?_)
        obtain ⟨hT, k120, hg145⟩ := hp118
        have hF := hF.tr k120 (by decide)
        have c146 := k120.gi kM_at0 (by decide) c32
        have c147 := k120.gi kM_at0 (by decide) c33
        rcases hg145 with ⟨rfl, ⟨x121, c122, rx121, tx121⟩, ⟨x123, c124, rx123, tx123⟩⟩ | ⟨rfl, ⟨x125, c126, rx125, tx125⟩, ⟨x127, c128, rx127, tx127⟩, ⟨x129, c130, rx129, tx129⟩⟩ | ⟨rfl, ⟨x131, c132, rx131, tx131⟩, ⟨x133, c134, rx133, tx133⟩, ⟨x135, c136, rx135, tx135⟩⟩ | ⟨rfl, ⟨x137, c138, rx137, tx137⟩, ⟨x139, c140, rx139, tx139⟩, ⟨x141, c142, rx141, tx141⟩, ⟨x143, c144, rx143, tx143⟩⟩
        · refine lv_goto (tgt := 71) hx hb dX12_townLineHere_45 (by decide) ?_
          exact tk_zret hC hr rfl hlocks hK ⟨hT, hF, (Or.inr (Or.inl ⟨rfl, ⟨x7, c146, (show 0 ≤ x7.toInt by omega), (show x7.toInt ≤ 400 by omega)⟩, ⟨x18, c147, (show 0 ≤ x18.toInt by omega), (show x18.toInt ≤ 10 by omega)⟩, ⟨x123, c124, (show 1 ≤ x123.toInt by omega), (show x123.toInt ≤ 3205 by omega)⟩⟩))⟩ hw dX12_townLineHere_71
        · have ex125 : x125.toInt = x7.toInt := by rw [← c146.symm.trans c126]
          refine lv_goto (tgt := 71) hx hb dX12_townLineHere_45 (by decide) ?_
          exact tk_zret hC hr rfl hlocks hK ⟨hT, hF, (Or.inl ⟨rfl, ⟨x7, c146, (show 1 ≤ x7.toInt by omega), (show x7.toInt ≤ 400 by omega)⟩, ⟨x18, c147, (show 0 ≤ x18.toInt by omega), (show x18.toInt ≤ 10 by omega)⟩, ⟨x129, c130, (show 1 ≤ x129.toInt by omega), (show x129.toInt ≤ 3205 by omega)⟩⟩)⟩ hw dX12_townLineHere_71
        · have ex131 : x131.toInt = x7.toInt := by rw [← c146.symm.trans c132]
          refine lv_goto (tgt := 71) hx hb dX12_townLineHere_45 (by decide) ?_
          exact tk_zret hC hr rfl hlocks hK ⟨hT, hF, (Or.inr (Or.inl ⟨rfl, ⟨x7, c146, (show 0 ≤ x7.toInt by omega), (show x7.toInt ≤ 400 by omega)⟩, ⟨x18, c147, (show 0 ≤ x18.toInt by omega), (show x18.toInt ≤ 10 by omega)⟩, ⟨x135, c136, (show 1 ≤ x135.toInt by omega), (show x135.toInt ≤ 3205 by omega)⟩⟩))⟩ hw dX12_townLineHere_71
        · have ex137 : x137.toInt = x7.toInt := by rw [← c146.symm.trans c138]
          have ex139 : x139.toInt = x18.toInt := by rw [← c147.symm.trans c140]
          refine lv_goto (tgt := 71) hx hb dX12_townLineHere_45 (by decide) ?_
          exact tk_zret hC hr rfl hlocks hK ⟨hT, hF, (Or.inr (Or.inr ⟨rfl, ⟨x7, c146, (show 1 ≤ x7.toInt by omega), (show x7.toInt ≤ 400 by omega)⟩, ⟨x18, c147, (show 1 ≤ x18.toInt by omega), (show x18.toInt ≤ 10 by omega)⟩, ⟨x143, c144, (show 0 ≤ x143.toInt by omega), (show x143.toInt ≤ 359 by omega)⟩⟩))⟩ hw dX12_townLineHere_71
    · have c20 : x18.toInt = (0 : Int) := wk_eq.mp c20
      refine lv_aload_n hx hb dX12_townLineHere_23 rfl (lv_at hl 0 rfl) ?_
      refine lv_iconst (v := 4) hx hb dX12_townLineHere_24 (by decide) ?_
      refine lv_iload_n hx hb dX12_townLineHere_25 rfl (lv_at hl 1 rfl) ?_
      refine tk_Vi hC hK hw hT hA hE hSR kM_at0 (by decide) rfl (k_X12_fails_1 l adK adV dC dI cy ad B (by omega) (by omega) qr s1   4 (by decide) (by decide) a1 (show 0 ≤ a1.toInt by omega) (show a1.toInt ≤ 400 by omega) w5 H.size hT ) (cwV 2 hC.2.2.2.2 gX12_townLineHere_X12_fails rfl rfl rfl (by decide +kernel) ⟨Nat.le_of_ble_eq_true rfl, Nat.le_of_ble_eq_true rfl⟩) rfl hl.1 rfl (Nat.le_of_ble_eq_true rfl) dX12_townLineHere_26 (fun r148 w150 H locs hp149 hw => ?_)
      obtain ⟨hT, k151, hg154⟩ := hp149
      have hF := hF.tr k151 (by decide)
      have c155 := k151.gi kM_at0 (by decide) c8
      have c156 := k151.gi kM_at0 (by decide) c15
      have c157 := k151.gi kM_at0 (by decide) c19
      obtain ⟨rfl, ⟨x152, c153, rx152, tx152⟩⟩ := hg154
      exact tk_zret hC hr rfl hlocks hK ⟨hT, hF, (Or.inr (Or.inl ⟨rfl, ⟨x7, c155, (show 0 ≤ x7.toInt by omega), (show x7.toInt ≤ 400 by omega)⟩, ⟨x18, c157, (show 0 ≤ x18.toInt by omega), (show x18.toInt ≤ 10 by omega)⟩, ⟨x152, c153, (show 1 ≤ x152.toInt by omega), (show x152.toInt ≤ 3205 by omega)⟩⟩))⟩ hw dX12_townLineHere_29
  · obtain ⟨x16, c17, rx16, tx16⟩ := hT.rdi (lo := 0) (hi := 400) (k := 14) kM_at0 (by decide) rfl
    have g12 : (x16.toInt = x1.toInt ∨ (gi w0 1 (x1.toInt).toNat).toInt = 32) := by have q := g12; simp only [c2, c17] at q; omega
    refine lv_if_eq (tgt := 16) hx hb dX12_townLineHere_7 (by decide) (fun c => absurd c (by decide)) (fun _ => ?_)
    refine lv_aload_n hx hb dX12_townLineHere_10 rfl (lv_at hl 0 rfl) ?_
    refine lv_iload_n hx hb dX12_townLineHere_11 rfl (lv_at hl 1 rfl) ?_
    refine tk_Vi hC hK hw hT hA hE hSR kM_at0 (by decide) rfl (k_X12_areCornersHere_1 l adK adV dC dI cy ad B (by omega) (by omega) qr s1   a1 (show 0 ≤ a1.toInt by omega) (show a1.toInt ≤ 400 by omega) w5 H.size hT ) (cwV 1 hC.2.2.2.2 gX12_townLineHere_X12_areCornersHere rfl rfl rfl (by decide +kernel) ⟨Nat.le_of_ble_eq_true rfl, Nat.le_of_ble_eq_true rfl⟩) rfl hl.1 rfl (Nat.le_of_ble_eq_true rfl) dX12_townLineHere_12 (fun r158 w160 H locs hp159 hw => ?_)
    obtain ⟨hT, k161, hg184⟩ := hp159
    have hF := hF.tr k161 (by decide)
    have c185 := k161.gi kM_at0 (by decide) c11
    rcases hg184 with ⟨rfl, ⟨x162, c163, rx162, tx162⟩, ⟨x164, c165, rx164, tx164⟩⟩ | ⟨rfl, ⟨x166, c167, rx166, tx166⟩, ⟨x168, c169, rx168, tx168⟩, ⟨x170, c171, rx170, tx170⟩⟩ | ⟨rfl, ⟨x172, c173, rx172, tx172⟩, ⟨x174, c175, rx174, tx174⟩, ⟨x176, c177, rx176, tx176⟩⟩ | ⟨rfl, ⟨x178, c179, rx178, tx178⟩, ⟨x180, c181, rx180, tx180⟩, ⟨x182, c183, rx182, tx182⟩⟩
    · exact tk_zret hC hr rfl hlocks hK ⟨hT, hF, (Or.inr (Or.inl ⟨rfl, ⟨x10, c185, (show 0 ≤ x10.toInt by omega), (show x10.toInt ≤ 400 by omega)⟩, ⟨x162, c163, (show 0 ≤ x162.toInt by omega), (show x162.toInt ≤ 10 by omega)⟩, ⟨x164, c165, (show 1 ≤ x164.toInt by omega), (show x164.toInt ≤ 3205 by omega)⟩⟩))⟩ hw dX12_townLineHere_15
    · have ex166 : x166.toInt = x10.toInt := by rw [← c185.symm.trans c167]
      exact tk_zret hC hr rfl hlocks hK ⟨hT, hF, (Or.inl ⟨rfl, ⟨x10, c185, (show 1 ≤ x10.toInt by omega), (show x10.toInt ≤ 400 by omega)⟩, ⟨x168, c169, (show 0 ≤ x168.toInt by omega), (show x168.toInt ≤ 10 by omega)⟩, ⟨x170, c171, (show 1 ≤ x170.toInt by omega), (show x170.toInt ≤ 3205 by omega)⟩⟩)⟩ hw dX12_townLineHere_15
    · have ex172 : x172.toInt = x10.toInt := by rw [← c185.symm.trans c173]
      exact tk_zret hC hr rfl hlocks hK ⟨hT, hF, (Or.inr (Or.inl ⟨rfl, ⟨x10, c185, (show 0 ≤ x10.toInt by omega), (show x10.toInt ≤ 400 by omega)⟩, ⟨x174, c175, (show 0 ≤ x174.toInt by omega), (show x174.toInt ≤ 10 by omega)⟩, ⟨x176, c177, (show 1 ≤ x176.toInt by omega), (show x176.toInt ≤ 3205 by omega)⟩⟩))⟩ hw dX12_townLineHere_15
    · have ex178 : x178.toInt = x10.toInt := by rw [← c185.symm.trans c179]
      exact tk_zret hC hr rfl hlocks hK ⟨hT, hF, (Or.inr (Or.inr ⟨rfl, ⟨x10, c185, (show 1 ≤ x10.toInt by omega), (show x10.toInt ≤ 400 by omega)⟩, ⟨x180, c181, (show 1 ≤ x180.toInt by omega), (show x180.toInt ≤ 10 by omega)⟩, ⟨x182, c183, (show 0 ≤ x182.toInt by omega), (show x182.toInt ≤ 359 by omega)⟩⟩))⟩ hw dX12_townLineHere_15
abbrev P_X12_clauseHere_1 (ad : Nat → Nat) (cy : Nat → ClassId) (B : Int) (qr : Nat) (s1 : Int)  (w0 : va_W) : Int32 → va_W → Prop := fun r u => TW ksM ad cy B qr 12 u ∧ FE ksM [(12, 7, 7), (12, 8, 8), (12, 9, 9), (12, 10, 10), (12, 14, 14), (12, 15, 15), (12, 16, 16), (12, 20, 20), (65, 0, 120), (66, 0, 16), (67, 0, 12)] w0 u ∧ ((r = 0 ∧ (∃ y : Int32, gi u 0 1 = y ∧ 1 ≤ y.toInt ∧ y.toInt ≤ 400) ∧ (∃ y : Int32, gi u 0 15 = y ∧ 1 ≤ y.toInt ∧ y.toInt ≤ 3205) ∧ (∃ y : Int32, gi u 0 17 = y ∧ 6 ≤ y.toInt ∧ y.toInt ≤ 6) ∧ (∃ y : Int32, gi u 0 20 = y ∧ 0 ≤ y.toInt ∧ y.toInt ≤ 32) ∧ ((gi w0 0 20).toInt ≤ (gi u 0 20).toInt)) ∨ (r = 0 ∧ (∃ y : Int32, gi u 0 1 = y ∧ 0 ≤ y.toInt ∧ y.toInt ≤ 400) ∧ (∃ y : Int32, gi u 0 15 = y ∧ 1 ≤ y.toInt ∧ y.toInt ≤ 3205) ∧ (∃ y : Int32, gi u 0 17 = y ∧ 6 ≤ y.toInt ∧ y.toInt ≤ 6) ∧ (∃ y : Int32, gi u 0 20 = y ∧ 0 ≤ y.toInt ∧ y.toInt ≤ 32) ∧ ((gi w0 0 20).toInt ≤ (gi u 0 20).toInt)) ∨ (r = 1 ∧ (∃ y : Int32, gi u 0 1 = y ∧ 1 ≤ y.toInt ∧ y.toInt ≤ 400) ∧ (∃ y : Int32, gi u 0 7 = y ∧ 1 ≤ y.toInt ∧ y.toInt ≤ 10) ∧ (∃ y : Int32, gi u 0 16 = y ∧ 0 ≤ y.toInt ∧ y.toInt ≤ 359) ∧ (∃ y : Int32, gi u 0 17 = y ∧ 6 ≤ y.toInt ∧ y.toInt ≤ 6) ∧ (∃ y : Int32, gi u 0 20 = y ∧ 1 ≤ y.toInt ∧ y.toInt ≤ 32) ∧ ((gi u 0 20).toInt = (gi w0 0 20).toInt + 1)))
set_option maxHeartbeats 4000000 in
set_option maxRecDepth 100000 in
theorem k_X12_clauseHere_1 (l : Launch) (adK adV : Nat → Nat) (dC : Nat → ClassId) (dI : Nat → Nat → Nat) (cy : Nat → ClassId) (ad : Nat → Nat) (B : Int) (hB0 : 100000 ≤ B) (hB1 : B ≤ 1073741824) (qr : Nat) (s1 : Int)   (w0 : va_W) (sz : Nat) (hT : TW ksM ad cy B qr 12 w0) (cf0_ : gi w0 0 17 = 6) (f1_ : Int32) (cf1_ : gi w0 0 20 = f1_) (rf1_ : 0 ≤ f1_.toInt) (tf1_ : f1_.toInt ≤ 32) : Met l yX12_clauseHere wsX12_clauseHere ({ frames := 5, cells := 0, slots := 0, locals := 105 }) (va_Pc [.ref (ad 0)] (wpreS adK adV dC dI cy sz w0)) (va_Qi (P_X12_clauseHere_1 ad cy B qr s1  w0) (fun u : va_W => wpost dC dI cy (va_A w0 sz) u) (va_A w0 sz)) 0 0 (va_A w0 sz) := by
  refine Met.ofW (cc := cX12_clauseHere) (maxL := 4) (ret := (some .boolean)) (by decide) rfl ?_
  intro p e s m args below meth c s₁ Bk hml hv
  obtain ⟨rfl, ⟨hsz, hP, hK, hD0⟩, hE, hSR⟩ := hv
  have hx := Bk.exec
  have hb := Bk.bytes
  have hr := Bk.returns
  have hlocks := Bk.notSynchronized
  have hC : CallFix p m c cX12_clauseHere 4 s _ wsX12_clauseHere RX12 := ⟨hx, hb, hml, findClass_of_methodNamed Bk.named, atoms_spec (ws := wsX12_clauseHere) Bk.pre⟩
  subst hsz
  have hD := hD0.self (sz := s.heap.size)
  generalize hAe : va_A w0 s.heap.size = A at hD hE ⊢
  have hA : ∀ q : Nat, s.heap.size ≤ q → A q := fun q h => by rw [← hAe]; exact Or.inr h
  have hw : Wd dC dI A s.heap s.heap [] w0 := ⟨hP, hD, va_S.rf⟩
  have hF : FE ksM [(12, 7, 7), (12, 8, 8), (12, 9, 9), (12, 10, 10), (12, 14, 14), (12, 15, 15), (12, 16, 16), (12, 20, 20), (65, 0, 120), (66, 0, 16), (67, 0, 12)] w0 w0 := FE.rf
  have hl := lv_entry ([.ref (ad 0)]) (n := 4) (Nat.le_of_ble_eq_true rfl)
  rw [lg_entry_eq]
  generalize (lg_sl ([.ref (ad 0)]) ++ List.replicate (4 - (lg_sl ([.ref (ad 0)])).length) Slot.unset).toArray = ls at hl ⊢
  have hl : lv_has ls 4 [(0, .ref (ad 0))] := hl
  generalize hloc : ([] : List Loc) = locs at hw ⊢
  have hinX12 : ∀ w ∈ u_ws RX12 TX12 42, w ∈ wsX12_clauseHere := fun _ h => List.mem_cons_of_mem _ (List.mem_append_right _ (h))
  have J69 : ∀ (v69_1 : Int32) (f69_0_1 : Int32) (f69_0_14 : Int32) (H : Heap) (locs : List Loc) (ls : Array Slot) (w1 : va_W), 0 ≤ v69_1.toInt → v69_1.toInt ≤ 400 → 0 ≤ f69_0_1.toInt → f69_0_1.toInt ≤ 400 → 0 ≤ f69_0_14.toInt → f69_0_14.toInt ≤ 400 → 0 ≤ f1_.toInt → f1_.toInt ≤ 32 → (f1_.toInt = f1_.toInt) → Wd dC dI A s.heap H locs w1 → TW ksM ad cy B qr 12 w1 → FE ksM [(12, 7, 7), (12, 8, 8), (12, 9, 9), (12, 10, 10), (12, 14, 14), (12, 15, 15), (12, 16, 16), (12, 20, 20), (65, 0, 120), (66, 0, 16), (67, 0, 12)] w0 w1 → gi w1 0 1 = f69_0_1 → gi w1 0 14 = f69_0_14 → gi w1 0 17 = 6 → gi w1 0 20 = f1_ → lv_has ls 4 [(0, .ref (ad 0)), (1, .int v69_1), (2, .int 1)] → W p l e ({ frames := 5, cells := 0, slots := 0, locals := 105 }) s m (List.toArray [.ref (ad 0)]) below meth c H locs 0 0 (MQ below (va_Qi (P_X12_clauseHere_1 ad cy B qr s1  w0) (fun u : va_W => wpost dC dI cy A u) A) (List.toArray [.ref (ad 0)]) s 0 0 A) (F0 m 69 ls []) := by
    intro v69_1 f69_0_1 f69_0_14 H locs ls w1 r2 t3 r4 t5 r7 t8 r11 t12 hcr69_0 hw hT hF c6 c9 c10 c13 hl
    refine lv_iconst (v := 1) hx hb dX12_clauseHere_69 (by decide) ?_
    refine lv_goto (tgt := 89) hx hb dX12_clauseHere_70 (by decide) ?_
    refine lv_istore_n (lv' := [(3, .int 1), (0, .ref (ad 0)), (1, .int v69_1), (2, .int 1)]) hx hb dX12_clauseHere_89 rfl hl (by decide) rfl (fun ls hl => ?_)
    refine lv_iload_n hx hb dX12_clauseHere_90 rfl (lv_at hl 0 rfl) ?_
    refine lv_if_ne (tgt := 101) hx hb dX12_clauseHere_91 (by decide) (fun _ => ?_) (fun c => absurd c (by decide))
    refine lv_aload_n hx hb dX12_clauseHere_101 rfl (lv_at hl 1 rfl) ?_
    refine tk_geti hC hK hw hT hinX12 kM_at0 (by decide) rfl 20 (by decide) (List.mem_of_getElem? (i := 7) rfl) rfl rfl dX12_clauseHere_102 (fun x14 c15 rx14 tx14 => ?_)
    refine wk_top f1_ (c15.symm.trans c13) ?_
    refine lv_iload_n hx hb dX12_clauseHere_105 rfl (lv_at hl 3 rfl) ?_
    refine lv_if_eq (tgt := 114) hx hb dX12_clauseHere_106 (by decide) (fun c => absurd c (by decide)) (fun _ => ?_)
    refine lv_bipush (v := 32) hx hb dX12_clauseHere_109 (by decide) ?_
    refine lv_goto (tgt := 116) hx hb dX12_clauseHere_111 (by decide) ?_
    refine lv_icmp_ne (tgt := 126) hx hb dX12_clauseHere_116 (by decide) (fun c16 => ?_) (fun c16 => ?_)
    · have c16 : ¬ f1_.toInt = (32 : Int) := wk_eqF c16
      refine lv_aload_n hx hb dX12_clauseHere_126 rfl (lv_at hl 1 rfl) ?_
      refine lv_dup hx hb dX12_clauseHere_127 rfl ?_
      refine tk_geti hC hK hw hT hinX12 kM_at0 (by decide) rfl 20 (by decide) (List.mem_of_getElem? (i := 7) rfl) rfl rfl dX12_clauseHere_128 (fun x17 c18 rx17 tx17 => ?_)
      refine wk_top f1_ (c18.symm.trans c13) ?_
      refine lv_iconst (v := 1) hx hb dX12_clauseHere_131 (by decide) ?_
      refine lv_iadd hx hb dX12_clauseHere_132 ?_
      refine lv_topi (fun x19 ex19 => ?_)
      have ex19 : x19.toInt = f1_.toInt + (1 : Int) := by rw [ex19]; exact wk_add (show (-2147483648) ≤ f1_.toInt + (1 : Int) by omega) (show f1_.toInt + (1 : Int) ≤ 2147483647 by omega)
      refine tk_puti hC hK hw hT hinX12 tyX12_ok nmX12 kM_at0 (by decide) rfl rfl 20 (by decide) (List.mem_of_getElem? (i := 7) rfl) rfl rfl rfl rfl (show 0 ≤ x19.toInt by omega) (show x19.toInt ≤ 32 by omega) dX12_clauseHere_133 (fun H locs w20 hw hT k22 c21 => ?_)
      have hF := hF.put kM_at0 (k := 20) (by decide) k22
      have c23 := k22.gi (Or.inr (by decide)) c6
      have c24 := k22.gi (Or.inr (by decide)) c9
      have c25 := k22.gi (Or.inr (by decide)) c10
      refine lv_iload_n hx hb dX12_clauseHere_136 rfl (lv_at hl 3 rfl) ?_
      refine lv_if_eq (tgt := 148) hx hb dX12_clauseHere_137 (by decide) (fun c => absurd c (by decide)) (fun _ => ?_)
      refine lv_aload_n hx hb dX12_clauseHere_140 rfl (lv_at hl 1 rfl) ?_
      refine lv_iload_n hx hb dX12_clauseHere_141 rfl (lv_at hl 2 rfl) ?_
      refine tk_Vi hC hK hw hT hA hE hSR kM_at0 (by decide) rfl (k_X12_townLineHere_1 l adK adV dC dI cy ad B (by omega) (by omega) qr s1   v69_1 (show 0 ≤ v69_1.toInt by omega) (show v69_1.toInt ≤ 400 by omega) w20 H.size hT ) (cwV 1 hC.2.2.2.2 gX12_clauseHere_X12_townLineHere rfl rfl rfl (by decide +kernel) ⟨Nat.le_of_ble_eq_true rfl, Nat.le_of_ble_eq_true rfl⟩) rfl hl.1 rfl (Nat.le_of_ble_eq_true rfl) dX12_clauseHere_142 (fun r26 w28 H locs hp27 hw => ?_)
      obtain ⟨hT, k29, hg48⟩ := hp27
      have hF := hF.tr k29 (by decide)
      have c49 := k29.gi kM_at0 (by decide) c23
      have c50 := k29.gi kM_at0 (by decide) c25
      have c51 := k29.gi kM_at0 (by decide) c21
      rcases hg48 with ⟨rfl, ⟨x30, c31, rx30, tx30⟩, ⟨x32, c33, rx32, tx32⟩, ⟨x34, c35, rx34, tx34⟩⟩ | ⟨rfl, ⟨x36, c37, rx36, tx36⟩, ⟨x38, c39, rx38, tx38⟩, ⟨x40, c41, rx40, tx40⟩⟩ | ⟨rfl, ⟨x42, c43, rx42, tx42⟩, ⟨x44, c45, rx44, tx44⟩, ⟨x46, c47, rx46, tx46⟩⟩
      · have ex30 : x30.toInt = f69_0_1.toInt := by rw [← c49.symm.trans c31]
        refine lv_goto (tgt := 156) hx hb dX12_clauseHere_145 (by decide) ?_
        exact tk_zret hC hr rfl hlocks hK ⟨hT, hF, (Or.inl ⟨rfl, ⟨f69_0_1, c49, (show 1 ≤ f69_0_1.toInt by omega), (show f69_0_1.toInt ≤ 400 by omega)⟩, ⟨x34, c35, (show 1 ≤ x34.toInt by omega), (show x34.toInt ≤ 3205 by omega)⟩, ⟨6, c50, (by decide), (by decide)⟩, ⟨x19, c51, (show 0 ≤ x19.toInt by omega), (show x19.toInt ≤ 32 by omega)⟩, (by simp only [cf1_, c51]; omega)⟩)⟩ hw dX12_clauseHere_156
      · have ex36 : x36.toInt = f69_0_1.toInt := by rw [← c49.symm.trans c37]
        refine lv_goto (tgt := 156) hx hb dX12_clauseHere_145 (by decide) ?_
        exact tk_zret hC hr rfl hlocks hK ⟨hT, hF, (Or.inr (Or.inl ⟨rfl, ⟨f69_0_1, c49, (show 0 ≤ f69_0_1.toInt by omega), (show f69_0_1.toInt ≤ 400 by omega)⟩, ⟨x40, c41, (show 1 ≤ x40.toInt by omega), (show x40.toInt ≤ 3205 by omega)⟩, ⟨6, c50, (by decide), (by decide)⟩, ⟨x19, c51, (show 0 ≤ x19.toInt by omega), (show x19.toInt ≤ 32 by omega)⟩, (by simp only [cf1_, c51]; omega)⟩))⟩ hw dX12_clauseHere_156
      · have ex42 : x42.toInt = f69_0_1.toInt := by rw [← c49.symm.trans c43]
        refine lv_goto (tgt := 156) hx hb dX12_clauseHere_145 (by decide) ?_
        exact tk_zret hC hr rfl hlocks hK ⟨hT, hF, (Or.inr (Or.inr ⟨rfl, ⟨f69_0_1, c49, (show 1 ≤ f69_0_1.toInt by omega), (show f69_0_1.toInt ≤ 400 by omega)⟩, ⟨x44, c45, (show 1 ≤ x44.toInt by omega), (show x44.toInt ≤ 10 by omega)⟩, ⟨x46, c47, (show 0 ≤ x46.toInt by omega), (show x46.toInt ≤ 359 by omega)⟩, ⟨6, c50, (by decide), (by decide)⟩, ⟨x19, c51, (show 1 ≤ x19.toInt by omega), (show x19.toInt ≤ 32 by omega)⟩, (by simp only [cf1_, c51]; omega)⟩))⟩ hw dX12_clauseHere_156
    · have c16 : f1_.toInt = (32 : Int) := wk_eq.mp c16
      refine lv_aload_n hx hb dX12_clauseHere_119 rfl (lv_at hl 1 rfl) ?_
      refine lv_iconst (v := 4) hx hb dX12_clauseHere_120 (by decide) ?_
      refine lv_iload_n hx hb dX12_clauseHere_121 rfl (lv_at hl 2 rfl) ?_
      refine tk_Vi hC hK hw hT hA hE hSR kM_at0 (by decide) rfl (k_X12_fails_1 l adK adV dC dI cy ad B (by omega) (by omega) qr s1   4 (by decide) (by decide) v69_1 (show 0 ≤ v69_1.toInt by omega) (show v69_1.toInt ≤ 400 by omega) w1 H.size hT ) (cwV 2 hC.2.2.2.2 gX12_clauseHere_X12_fails rfl rfl rfl (by decide +kernel) ⟨Nat.le_of_ble_eq_true rfl, Nat.le_of_ble_eq_true rfl⟩) rfl hl.1 rfl (Nat.le_of_ble_eq_true rfl) dX12_clauseHere_122 (fun r52 w54 H locs hp53 hw => ?_)
      obtain ⟨hT, k55, hg58⟩ := hp53
      have hF := hF.tr k55 (by decide)
      have c59 := k55.gi kM_at0 (by decide) c6
      have c60 := k55.gi kM_at0 (by decide) c9
      have c61 := k55.gi kM_at0 (by decide) c10
      have c62 := k55.gi kM_at0 (by decide) c13
      obtain ⟨rfl, ⟨x56, c57, rx56, tx56⟩⟩ := hg58
      exact tk_zret hC hr rfl hlocks hK ⟨hT, hF, (Or.inr (Or.inl ⟨rfl, ⟨f69_0_1, c59, (show 0 ≤ f69_0_1.toInt by omega), (show f69_0_1.toInt ≤ 400 by omega)⟩, ⟨x56, c57, (show 1 ≤ x56.toInt by omega), (show x56.toInt ≤ 3205 by omega)⟩, ⟨6, c61, (by decide), (by decide)⟩, ⟨f1_, c62, (show 0 ≤ f1_.toInt by omega), (show f1_.toInt ≤ 32 by omega)⟩, (by simp only [cf1_, c62]; omega)⟩))⟩ hw dX12_clauseHere_125
  refine lv_aload_n hx hb dX12_clauseHere_0 rfl (lv_at hl 0 rfl) ?_
  obtain ⟨x63, c64, rx63, tx63⟩ := hT.rdi (lo := 0) (hi := 400) (k := 14) kM_at0 (by decide) rfl
  refine tk_Vi hC hK hw hT hA hE hSR kM_at0 (by decide) rfl (k_X12_see_1 l adK adV dC dI cy ad B (by omega) (by omega) qr s1    w0 s.heap.size hT x63 c64 (show 0 ≤ x63.toInt by omega) (show x63.toInt ≤ 400 by omega)) (cwV 0 hC.2.2.2.2 gX12_clauseHere_X12_see rfl rfl rfl (by decide +kernel) ⟨Nat.le_of_ble_eq_true rfl, Nat.le_of_ble_eq_true rfl⟩) rfl hl.1 rfl (Nat.le_of_ble_eq_true rfl) dX12_clauseHere_1 (fun r65 w67 H locs hp66 hw => ?_)
  obtain ⟨hT, k68, hg85⟩ := hp66
  have hF := hF.tr k68 (by decide)
  have c86 := k68.gi kM_at0 (by decide) cf0_
  have c87 := k68.gi kM_at0 (by decide) cf1_
  rcases hg85 with ⟨g69, g70, ⟨x71, c72, rx71, tx71⟩, ⟨x73, c74, rx73, tx73⟩, g75, g76⟩ | ⟨rfl, ⟨x77, c78, rx77, tx77⟩, ⟨x79, c80, rx79, tx79⟩, g81⟩ | ⟨rfl, ⟨x82, c83, rx82, tx82⟩, g84⟩
  · have g75 : (gi w67 1 (x73.toInt).toNat).toInt ≠ 32 := by have q := g75; simp only [c74] at q; omega
    have g76 : (x73.toInt = x63.toInt ∨ (gi w0 1 (x63.toInt).toNat).toInt = 32) := by have q := g76; simp only [c64, c74] at q; omega
    refine lv_pop hx hb dX12_clauseHere_4 rfl ?_
    refine lv_aload_n hx hb dX12_clauseHere_5 rfl (lv_at hl 0 rfl) ?_
    refine tk_geti hC hK hw hT hinX12 kM_at0 (by decide) rfl 14 (by decide) (List.mem_of_getElem? (i := 1) rfl) rfl rfl dX12_clauseHere_6 (fun x90 c91 rx90 tx90 => ?_)
    refine wk_top x73 (c91.symm.trans c74) ?_
    refine lv_istore_n (lv' := [(1, .int x73), (0, .ref (ad 0))]) hx hb dX12_clauseHere_9 rfl hl (by decide) rfl (fun ls hl => ?_)
    refine lv_aload_n hx hb dX12_clauseHere_10 rfl (lv_at hl 1 rfl) ?_
    refine tk_geti hC hK hw hT hinX12 kM_at0 (by decide) rfl 17 (by decide) (List.mem_of_getElem? (i := 2) rfl) rfl rfl dX12_clauseHere_11 (fun x92 c93 rx92 tx92 => ?_)
    refine wk_top 6 (c93.symm.trans c86) ?_
    refine lv_bipush (v := 6) hx hb dX12_clauseHere_14 (by decide) ?_
    refine lv_icmp_ne (tgt := 23) hx hb dX12_clauseHere_16 (by decide) (fun c => absurd (by decide) c) (fun _ => ?_)
    refine lv_iconst (v := 1) hx hb dX12_clauseHere_19 (by decide) ?_
    refine lv_goto (tgt := 24) hx hb dX12_clauseHere_20 (by decide) ?_
    refine lv_istore_n (lv' := [(2, .int 1), (1, .int x73), (0, .ref (ad 0))]) hx hb dX12_clauseHere_24 rfl hl (by decide) rfl (fun ls hl => ?_)
    refine lv_iload_n hx hb dX12_clauseHere_25 rfl (lv_at hl 0 rfl) ?_
    refine lv_if_eq (tgt := 77) hx hb dX12_clauseHere_26 (by decide) (fun c => absurd c (by decide)) (fun _ => ?_)
    refine lv_aload_n hx hb dX12_clauseHere_29 rfl (lv_at hl 2 rfl) ?_
    refine lv_ldc2 (v := 27988559963452019) hx hb hC.2.2.2.1 (hC.2.2.2.2 _ (List.mem_of_getElem? (i := 3) rfl)) dX12_clauseHere_30 ?_
    refine tk_Vi hC hK hw hT hA hE hSR kM_at0 (by decide) rfl (k_X12_isWord_3 l adK adV dC dI cy ad B (by omega) (by omega) qr s1    w67 H.size hT x73 c74 (show 0 ≤ x73.toInt by omega) (show x73.toInt ≤ 400 by omega)) (cwV 1 hC.2.2.2.2 gX12_clauseHere_X12_isWord rfl rfl rfl (by decide +kernel) ⟨Nat.le_of_ble_eq_true rfl, Nat.le_of_ble_eq_true rfl⟩) rfl hl.1 rfl (Nat.le_of_ble_eq_true rfl) dX12_clauseHere_33 (fun r94 w96 H locs hp95 hw => ?_)
    obtain ⟨hT, k97, hg104⟩ := hp95
    have hF := hF.tr k97 (by decide)
    have c105 := k97.gi kM_at0 (by decide) c86
    have c106 := k97.gi kM_at0 (by decide) c87
    have c107 := k97.gi kM_at0 (by decide) c72
    rcases hg104 with ⟨rfl, ⟨x98, c99, rx98, tx98⟩, g100⟩ | ⟨rfl, ⟨x101, c102, rx101, tx101⟩, g103⟩
    · have ex98 : x98.toInt = x71.toInt := by rw [← c107.symm.trans c99]
      obtain ⟨x108, c109, rx108, tx108⟩ := hT.rdi (lo := 0) (hi := 400) (k := 14) kM_at0 (by decide) rfl
      have g100 : (x108.toInt = x73.toInt ∨ (gi w67 1 (x73.toInt).toNat).toInt = 32) := by have q := g100; simp only [c74, c109] at q; omega
      refine lv_if_ne (tgt := 69) hx hb dX12_clauseHere_36 (by decide) (fun c => absurd (by decide) c) (fun _ => ?_)
      refine lv_aload_n hx hb dX12_clauseHere_39 rfl (lv_at hl 2 rfl) ?_
      refine lv_ldc2 (v := 126943972648308) hx hb hC.2.2.2.1 (hC.2.2.2.2 _ (List.mem_of_getElem? (i := 4) rfl)) dX12_clauseHere_40 ?_
      refine tk_Vi hC hK hw hT hA hE hSR kM_at0 (by decide) rfl (k_X12_isWord_1 l adK adV dC dI cy ad B (by omega) (by omega) qr s1    w96 H.size hT x108 c109 (show 0 ≤ x108.toInt by omega) (show x108.toInt ≤ 400 by omega)) (cwV 1 hC.2.2.2.2 gX12_clauseHere_X12_isWord rfl rfl rfl (by decide +kernel) ⟨Nat.le_of_ble_eq_true rfl, Nat.le_of_ble_eq_true rfl⟩) rfl hl.1 rfl (Nat.le_of_ble_eq_true rfl) dX12_clauseHere_43 (fun r112 w114 H locs hp113 hw => ?_)
      obtain ⟨hT, k115, hg122⟩ := hp113
      have hF := hF.tr k115 (by decide)
      have c123 := k115.gi kM_at0 (by decide) c105
      have c124 := k115.gi kM_at0 (by decide) c106
      have c125 := k115.gi kM_at0 (by decide) c107
      rcases hg122 with ⟨rfl, ⟨x116, c117, rx116, tx116⟩, g118⟩ | ⟨rfl, ⟨x119, c120, rx119, tx119⟩, g121⟩
      · have ex116 : x116.toInt = x71.toInt := by rw [← c125.symm.trans c117]
        obtain ⟨x126, c127, rx126, tx126⟩ := hT.rdi (lo := 0) (hi := 400) (k := 14) kM_at0 (by decide) rfl
        have g118 : (x126.toInt = x108.toInt ∨ (gi w96 1 (x108.toInt).toNat).toInt = 32) := by have q := g118; simp only [c109, c127] at q; omega
        refine lv_if_ne (tgt := 69) hx hb dX12_clauseHere_46 (by decide) (fun c => absurd (by decide) c) (fun _ => ?_)
        refine lv_aload_n hx hb dX12_clauseHere_49 rfl (lv_at hl 2 rfl) ?_
        refine lv_ldc2 (v := 495555538548) hx hb hC.2.2.2.1 (hC.2.2.2.2 _ (List.mem_of_getElem? (i := 5) rfl)) dX12_clauseHere_50 ?_
        refine tk_Vi hC hK hw hT hA hE hSR kM_at0 (by decide) rfl (k_X12_isWord_4 l adK adV dC dI cy ad B (by omega) (by omega) qr s1    w114 H.size hT x126 c127 (show 0 ≤ x126.toInt by omega) (show x126.toInt ≤ 400 by omega)) (cwV 1 hC.2.2.2.2 gX12_clauseHere_X12_isWord rfl rfl rfl (by decide +kernel) ⟨Nat.le_of_ble_eq_true rfl, Nat.le_of_ble_eq_true rfl⟩) rfl hl.1 rfl (Nat.le_of_ble_eq_true rfl) dX12_clauseHere_53 (fun r130 w132 H locs hp131 hw => ?_)
        obtain ⟨hT, k133, hg140⟩ := hp131
        have hF := hF.tr k133 (by decide)
        have c141 := k133.gi kM_at0 (by decide) c123
        have c142 := k133.gi kM_at0 (by decide) c124
        have c143 := k133.gi kM_at0 (by decide) c125
        rcases hg140 with ⟨rfl, ⟨x134, c135, rx134, tx134⟩, g136⟩ | ⟨rfl, ⟨x137, c138, rx137, tx137⟩, g139⟩
        · have ex134 : x134.toInt = x71.toInt := by rw [← c143.symm.trans c135]
          obtain ⟨x144, c145, rx144, tx144⟩ := hT.rdi (lo := 0) (hi := 400) (k := 14) kM_at0 (by decide) rfl
          have g136 : (x144.toInt = x126.toInt ∨ (gi w114 1 (x126.toInt).toNat).toInt = 32) := by have q := g136; simp only [c127, c145] at q; omega
          refine lv_if_ne (tgt := 69) hx hb dX12_clauseHere_56 (by decide) (fun c => absurd (by decide) c) (fun _ => ?_)
          refine lv_aload_n hx hb dX12_clauseHere_59 rfl (lv_at hl 2 rfl) ?_
          refine lv_ldc2 (v := 1818846836) hx hb hC.2.2.2.1 (hC.2.2.2.2 _ (List.mem_of_getElem? (i := 6) rfl)) dX12_clauseHere_60 ?_
          refine tk_Vi hC hK hw hT hA hE hSR kM_at0 (by decide) rfl (k_X12_isWord_2 l adK adV dC dI cy ad B (by omega) (by omega) qr s1    w132 H.size hT x144 c145 (show 0 ≤ x144.toInt by omega) (show x144.toInt ≤ 400 by omega)) (cwV 1 hC.2.2.2.2 gX12_clauseHere_X12_isWord rfl rfl rfl (by decide +kernel) ⟨Nat.le_of_ble_eq_true rfl, Nat.le_of_ble_eq_true rfl⟩) rfl hl.1 rfl (Nat.le_of_ble_eq_true rfl) dX12_clauseHere_63 (fun r148 w150 H locs hp149 hw => ?_)
          obtain ⟨hT, k151, hg158⟩ := hp149
          have hF := hF.tr k151 (by decide)
          have c159 := k151.gi kM_at0 (by decide) c141
          have c160 := k151.gi kM_at0 (by decide) c142
          have c161 := k151.gi kM_at0 (by decide) c143
          rcases hg158 with ⟨rfl, ⟨x152, c153, rx152, tx152⟩, g154⟩ | ⟨rfl, ⟨x155, c156, rx155, tx155⟩, g157⟩
          · have ex152 : x152.toInt = x71.toInt := by rw [← c161.symm.trans c153]
            obtain ⟨x162, c163, rx162, tx162⟩ := hT.rdi (lo := 0) (hi := 400) (k := 14) kM_at0 (by decide) rfl
            have g154 : (x162.toInt = x144.toInt ∨ (gi w132 1 (x144.toInt).toNat).toInt = 32) := by have q := g154; simp only [c145, c163] at q; omega
            refine lv_if_eq (tgt := 73) hx hb dX12_clauseHere_66 (by decide) (fun _ => ?_) (fun c => absurd (by decide) c)
            refine lv_iconst (v := 0) hx hb dX12_clauseHere_73 (by decide) ?_
            refine lv_goto (tgt := 89) hx hb dX12_clauseHere_74 (by decide) ?_
            refine lv_istore_n (lv' := [(3, .int 0), (2, .int 1), (1, .int x73), (0, .ref (ad 0))]) hx hb dX12_clauseHere_89 rfl hl (by decide) rfl (fun ls hl => ?_)
            refine lv_iload_n hx hb dX12_clauseHere_90 rfl (lv_at hl 0 rfl) ?_
            refine lv_if_ne (tgt := 101) hx hb dX12_clauseHere_91 (by decide) (fun c => absurd (by decide) c) (fun _ => ?_)
            refine lv_aload_n hx hb dX12_clauseHere_94 rfl (lv_at hl 3 rfl) ?_
            refine lv_iconst (v := 0) hx hb dX12_clauseHere_95 (by decide) ?_
            refine lv_iload_n hx hb dX12_clauseHere_96 rfl (lv_at hl 2 rfl) ?_
            refine tk_Vi hC hK hw hT hA hE hSR kM_at0 (by decide) rfl (k_X12_fails_1 l adK adV dC dI cy ad B (by omega) (by omega) qr s1   0 (by decide) (by decide) x73 (show 0 ≤ x73.toInt by omega) (show x73.toInt ≤ 400 by omega) w150 H.size hT ) (cwV 2 hC.2.2.2.2 gX12_clauseHere_X12_fails rfl rfl rfl (by decide +kernel) ⟨Nat.le_of_ble_eq_true rfl, Nat.le_of_ble_eq_true rfl⟩) rfl hl.1 rfl (Nat.le_of_ble_eq_true rfl) dX12_clauseHere_97 (fun r166 w168 H locs hp167 hw => ?_)
            obtain ⟨hT, k169, hg172⟩ := hp167
            have hF := hF.tr k169 (by decide)
            have c173 := k169.gi kM_at0 (by decide) c159
            have c174 := k169.gi kM_at0 (by decide) c160
            have c175 := k169.gi kM_at0 (by decide) c161
            have c176 := k169.gi kM_at0 (by decide) c163
            obtain ⟨rfl, ⟨x170, c171, rx170, tx170⟩⟩ := hg172
            exact tk_zret hC hr rfl hlocks hK ⟨hT, hF, (Or.inl ⟨rfl, ⟨x71, c175, (show 1 ≤ x71.toInt by omega), (show x71.toInt ≤ 400 by omega)⟩, ⟨x170, c171, (show 1 ≤ x170.toInt by omega), (show x170.toInt ≤ 3205 by omega)⟩, ⟨6, c173, (by decide), (by decide)⟩, ⟨f1_, c174, (show 0 ≤ f1_.toInt by omega), (show f1_.toInt ≤ 32 by omega)⟩, (by simp only [cf1_, c174]; omega)⟩)⟩ hw dX12_clauseHere_100
          · have ex155 : x155.toInt = x71.toInt := by rw [← c161.symm.trans c156]
            obtain ⟨x164, c165, rx164, tx164⟩ := hT.rdi (lo := 0) (hi := 400) (k := 14) kM_at0 (by decide) rfl
            have g157 : (x164.toInt = x144.toInt ∨ (gi w132 1 (x144.toInt).toNat).toInt = 32) := by have q := g157; simp only [c145, c165] at q; omega
            refine lv_if_eq (tgt := 73) hx hb dX12_clauseHere_66 (by decide) (fun c => absurd c (by decide)) (fun _ => ?_)
            exact J69 x73 x71 x164 H locs ls w150 (show 0 ≤ x73.toInt by omega) (show x73.toInt ≤ 400 by omega) (show 0 ≤ x71.toInt by omega) (show x71.toInt ≤ 400 by omega) (show 0 ≤ x164.toInt by omega) (show x164.toInt ≤ 400 by omega) (show 0 ≤ f1_.toInt by omega) (show f1_.toInt ≤ 32 by omega) (show f1_.toInt = f1_.toInt by omega)  hw hT hF c161 c165 c159 c160 (lv_sub hl [2, 1, 0] rfl)
        · have ex137 : x137.toInt = x71.toInt := by rw [← c143.symm.trans c138]
          obtain ⟨x146, c147, rx146, tx146⟩ := hT.rdi (lo := 0) (hi := 400) (k := 14) kM_at0 (by decide) rfl
          have g139 : (x146.toInt = x126.toInt ∨ (gi w114 1 (x126.toInt).toNat).toInt = 32) := by have q := g139; simp only [c127, c147] at q; omega
          refine lv_if_ne (tgt := 69) hx hb dX12_clauseHere_56 (by decide) (fun _ => ?_) (fun c => absurd c (by decide))
          exact J69 x73 x71 x146 H locs ls w132 (show 0 ≤ x73.toInt by omega) (show x73.toInt ≤ 400 by omega) (show 0 ≤ x71.toInt by omega) (show x71.toInt ≤ 400 by omega) (show 0 ≤ x146.toInt by omega) (show x146.toInt ≤ 400 by omega) (show 0 ≤ f1_.toInt by omega) (show f1_.toInt ≤ 32 by omega) (show f1_.toInt = f1_.toInt by omega)  hw hT hF c143 c147 c141 c142 (lv_sub hl [2, 1, 0] rfl)
      · have ex119 : x119.toInt = x71.toInt := by rw [← c125.symm.trans c120]
        obtain ⟨x128, c129, rx128, tx128⟩ := hT.rdi (lo := 0) (hi := 400) (k := 14) kM_at0 (by decide) rfl
        have g121 : (x128.toInt = x108.toInt ∨ (gi w96 1 (x108.toInt).toNat).toInt = 32) := by have q := g121; simp only [c109, c129] at q; omega
        refine lv_if_ne (tgt := 69) hx hb dX12_clauseHere_46 (by decide) (fun _ => ?_) (fun c => absurd c (by decide))
        exact J69 x73 x71 x128 H locs ls w114 (show 0 ≤ x73.toInt by omega) (show x73.toInt ≤ 400 by omega) (show 0 ≤ x71.toInt by omega) (show x71.toInt ≤ 400 by omega) (show 0 ≤ x128.toInt by omega) (show x128.toInt ≤ 400 by omega) (show 0 ≤ f1_.toInt by omega) (show f1_.toInt ≤ 32 by omega) (show f1_.toInt = f1_.toInt by omega)  hw hT hF c125 c129 c123 c124 (lv_sub hl [2, 1, 0] rfl)
    · have ex101 : x101.toInt = x71.toInt := by rw [← c107.symm.trans c102]
      obtain ⟨x110, c111, rx110, tx110⟩ := hT.rdi (lo := 0) (hi := 400) (k := 14) kM_at0 (by decide) rfl
      have g103 : (x110.toInt = x73.toInt ∨ (gi w67 1 (x73.toInt).toNat).toInt = 32) := by have q := g103; simp only [c74, c111] at q; omega
      refine lv_if_ne (tgt := 69) hx hb dX12_clauseHere_36 (by decide) (fun _ => ?_) (fun c => absurd c (by decide))
      exact J69 x73 x71 x110 H locs ls w96 (show 0 ≤ x73.toInt by omega) (show x73.toInt ≤ 400 by omega) (show 0 ≤ x71.toInt by omega) (show x71.toInt ≤ 400 by omega) (show 0 ≤ x110.toInt by omega) (show x110.toInt ≤ 400 by omega) (show 0 ≤ f1_.toInt by omega) (show f1_.toInt ≤ 32 by omega) (show f1_.toInt = f1_.toInt by omega)  hw hT hF c107 c111 c105 c106 (lv_sub hl [2, 1, 0] rfl)
  · have g81 : (x79.toInt = x63.toInt ∨ (gi w0 1 (x63.toInt).toNat).toInt = 32) := by have q := g81; simp only [c64, c80] at q; omega
    refine lv_pop hx hb dX12_clauseHere_4 rfl ?_
    refine lv_aload_n hx hb dX12_clauseHere_5 rfl (lv_at hl 0 rfl) ?_
    refine tk_geti hC hK hw hT hinX12 kM_at0 (by decide) rfl 14 (by decide) (List.mem_of_getElem? (i := 1) rfl) rfl rfl dX12_clauseHere_6 (fun x177 c178 rx177 tx177 => ?_)
    refine wk_top x79 (c178.symm.trans c80) ?_
    refine lv_istore_n (lv' := [(1, .int x79), (0, .ref (ad 0))]) hx hb dX12_clauseHere_9 rfl hl (by decide) rfl (fun ls hl => ?_)
    refine lv_aload_n hx hb dX12_clauseHere_10 rfl (lv_at hl 1 rfl) ?_
    refine tk_geti hC hK hw hT hinX12 kM_at0 (by decide) rfl 17 (by decide) (List.mem_of_getElem? (i := 2) rfl) rfl rfl dX12_clauseHere_11 (fun x179 c180 rx179 tx179 => ?_)
    refine wk_top 6 (c180.symm.trans c86) ?_
    refine lv_bipush (v := 6) hx hb dX12_clauseHere_14 (by decide) ?_
    refine lv_icmp_ne (tgt := 23) hx hb dX12_clauseHere_16 (by decide) (fun c => absurd (by decide) c) (fun _ => ?_)
    refine lv_iconst (v := 1) hx hb dX12_clauseHere_19 (by decide) ?_
    refine lv_goto (tgt := 24) hx hb dX12_clauseHere_20 (by decide) ?_
    refine lv_istore_n (lv' := [(2, .int 1), (1, .int x79), (0, .ref (ad 0))]) hx hb dX12_clauseHere_24 rfl hl (by decide) rfl (fun ls hl => ?_)
    refine lv_iload_n hx hb dX12_clauseHere_25 rfl (lv_at hl 0 rfl) ?_
    refine lv_if_eq (tgt := 77) hx hb dX12_clauseHere_26 (by decide) (fun c => absurd c (by decide)) (fun _ => ?_)
    refine lv_aload_n hx hb dX12_clauseHere_29 rfl (lv_at hl 2 rfl) ?_
    refine lv_ldc2 (v := 27988559963452019) hx hb hC.2.2.2.1 (hC.2.2.2.2 _ (List.mem_of_getElem? (i := 3) rfl)) dX12_clauseHere_30 ?_
    refine tk_Vi hC hK hw hT hA hE hSR kM_at0 (by decide) rfl (k_X12_isWord_3 l adK adV dC dI cy ad B (by omega) (by omega) qr s1    w67 H.size hT x79 c80 (show 0 ≤ x79.toInt by omega) (show x79.toInt ≤ 400 by omega)) (cwV 1 hC.2.2.2.2 gX12_clauseHere_X12_isWord rfl rfl rfl (by decide +kernel) ⟨Nat.le_of_ble_eq_true rfl, Nat.le_of_ble_eq_true rfl⟩) rfl hl.1 rfl (Nat.le_of_ble_eq_true rfl) dX12_clauseHere_33 (fun r181 w183 H locs hp182 hw => ?_)
    obtain ⟨hT, k184, hg191⟩ := hp182
    have hF := hF.tr k184 (by decide)
    have c192 := k184.gi kM_at0 (by decide) c86
    have c193 := k184.gi kM_at0 (by decide) c87
    have c194 := k184.gi kM_at0 (by decide) c78
    rcases hg191 with ⟨rfl, ⟨x185, c186, rx185, tx185⟩, g187⟩ | ⟨rfl, ⟨x188, c189, rx188, tx188⟩, g190⟩
    · have ex185 : x185.toInt = x77.toInt := by rw [← c194.symm.trans c186]
      obtain ⟨x195, c196, rx195, tx195⟩ := hT.rdi (lo := 0) (hi := 400) (k := 14) kM_at0 (by decide) rfl
      have g187 : (x195.toInt = x79.toInt ∨ (gi w67 1 (x79.toInt).toNat).toInt = 32) := by have q := g187; simp only [c80, c196] at q; omega
      refine lv_if_ne (tgt := 69) hx hb dX12_clauseHere_36 (by decide) (fun c => absurd (by decide) c) (fun _ => ?_)
      refine lv_aload_n hx hb dX12_clauseHere_39 rfl (lv_at hl 2 rfl) ?_
      refine lv_ldc2 (v := 126943972648308) hx hb hC.2.2.2.1 (hC.2.2.2.2 _ (List.mem_of_getElem? (i := 4) rfl)) dX12_clauseHere_40 ?_
      refine tk_Vi hC hK hw hT hA hE hSR kM_at0 (by decide) rfl (k_X12_isWord_1 l adK adV dC dI cy ad B (by omega) (by omega) qr s1    w183 H.size hT x195 c196 (show 0 ≤ x195.toInt by omega) (show x195.toInt ≤ 400 by omega)) (cwV 1 hC.2.2.2.2 gX12_clauseHere_X12_isWord rfl rfl rfl (by decide +kernel) ⟨Nat.le_of_ble_eq_true rfl, Nat.le_of_ble_eq_true rfl⟩) rfl hl.1 rfl (Nat.le_of_ble_eq_true rfl) dX12_clauseHere_43 (fun r199 w201 H locs hp200 hw => ?_)
      obtain ⟨hT, k202, hg209⟩ := hp200
      have hF := hF.tr k202 (by decide)
      have c210 := k202.gi kM_at0 (by decide) c192
      have c211 := k202.gi kM_at0 (by decide) c193
      have c212 := k202.gi kM_at0 (by decide) c194
      rcases hg209 with ⟨rfl, ⟨x203, c204, rx203, tx203⟩, g205⟩ | ⟨rfl, ⟨x206, c207, rx206, tx206⟩, g208⟩
      · have ex203 : x203.toInt = x77.toInt := by rw [← c212.symm.trans c204]
        obtain ⟨x213, c214, rx213, tx213⟩ := hT.rdi (lo := 0) (hi := 400) (k := 14) kM_at0 (by decide) rfl
        have g205 : (x213.toInt = x195.toInt ∨ (gi w183 1 (x195.toInt).toNat).toInt = 32) := by have q := g205; simp only [c196, c214] at q; omega
        refine lv_if_ne (tgt := 69) hx hb dX12_clauseHere_46 (by decide) (fun c => absurd (by decide) c) (fun _ => ?_)
        refine lv_aload_n hx hb dX12_clauseHere_49 rfl (lv_at hl 2 rfl) ?_
        refine lv_ldc2 (v := 495555538548) hx hb hC.2.2.2.1 (hC.2.2.2.2 _ (List.mem_of_getElem? (i := 5) rfl)) dX12_clauseHere_50 ?_
        refine tk_Vi hC hK hw hT hA hE hSR kM_at0 (by decide) rfl (k_X12_isWord_4 l adK adV dC dI cy ad B (by omega) (by omega) qr s1    w201 H.size hT x213 c214 (show 0 ≤ x213.toInt by omega) (show x213.toInt ≤ 400 by omega)) (cwV 1 hC.2.2.2.2 gX12_clauseHere_X12_isWord rfl rfl rfl (by decide +kernel) ⟨Nat.le_of_ble_eq_true rfl, Nat.le_of_ble_eq_true rfl⟩) rfl hl.1 rfl (Nat.le_of_ble_eq_true rfl) dX12_clauseHere_53 (fun r217 w219 H locs hp218 hw => ?_)
        obtain ⟨hT, k220, hg227⟩ := hp218
        have hF := hF.tr k220 (by decide)
        have c228 := k220.gi kM_at0 (by decide) c210
        have c229 := k220.gi kM_at0 (by decide) c211
        have c230 := k220.gi kM_at0 (by decide) c212
        rcases hg227 with ⟨rfl, ⟨x221, c222, rx221, tx221⟩, g223⟩ | ⟨rfl, ⟨x224, c225, rx224, tx224⟩, g226⟩
        · have ex221 : x221.toInt = x77.toInt := by rw [← c230.symm.trans c222]
          obtain ⟨x231, c232, rx231, tx231⟩ := hT.rdi (lo := 0) (hi := 400) (k := 14) kM_at0 (by decide) rfl
          have g223 : (x231.toInt = x213.toInt ∨ (gi w201 1 (x213.toInt).toNat).toInt = 32) := by have q := g223; simp only [c214, c232] at q; omega
          refine lv_if_ne (tgt := 69) hx hb dX12_clauseHere_56 (by decide) (fun c => absurd (by decide) c) (fun _ => ?_)
          refine lv_aload_n hx hb dX12_clauseHere_59 rfl (lv_at hl 2 rfl) ?_
          refine lv_ldc2 (v := 1818846836) hx hb hC.2.2.2.1 (hC.2.2.2.2 _ (List.mem_of_getElem? (i := 6) rfl)) dX12_clauseHere_60 ?_
          refine tk_Vi hC hK hw hT hA hE hSR kM_at0 (by decide) rfl (k_X12_isWord_2 l adK adV dC dI cy ad B (by omega) (by omega) qr s1    w219 H.size hT x231 c232 (show 0 ≤ x231.toInt by omega) (show x231.toInt ≤ 400 by omega)) (cwV 1 hC.2.2.2.2 gX12_clauseHere_X12_isWord rfl rfl rfl (by decide +kernel) ⟨Nat.le_of_ble_eq_true rfl, Nat.le_of_ble_eq_true rfl⟩) rfl hl.1 rfl (Nat.le_of_ble_eq_true rfl) dX12_clauseHere_63 (fun r235 w237 H locs hp236 hw => ?_)
          obtain ⟨hT, k238, hg245⟩ := hp236
          have hF := hF.tr k238 (by decide)
          have c246 := k238.gi kM_at0 (by decide) c228
          have c247 := k238.gi kM_at0 (by decide) c229
          have c248 := k238.gi kM_at0 (by decide) c230
          rcases hg245 with ⟨rfl, ⟨x239, c240, rx239, tx239⟩, g241⟩ | ⟨rfl, ⟨x242, c243, rx242, tx242⟩, g244⟩
          · have ex239 : x239.toInt = x77.toInt := by rw [← c248.symm.trans c240]
            obtain ⟨x249, c250, rx249, tx249⟩ := hT.rdi (lo := 0) (hi := 400) (k := 14) kM_at0 (by decide) rfl
            have g241 : (x249.toInt = x231.toInt ∨ (gi w219 1 (x231.toInt).toNat).toInt = 32) := by have q := g241; simp only [c232, c250] at q; omega
            refine lv_if_eq (tgt := 73) hx hb dX12_clauseHere_66 (by decide) (fun _ => ?_) (fun c => absurd (by decide) c)
            refine lv_iconst (v := 0) hx hb dX12_clauseHere_73 (by decide) ?_
            refine lv_goto (tgt := 89) hx hb dX12_clauseHere_74 (by decide) ?_
            refine lv_istore_n (lv' := [(3, .int 0), (2, .int 1), (1, .int x79), (0, .ref (ad 0))]) hx hb dX12_clauseHere_89 rfl hl (by decide) rfl (fun ls hl => ?_)
            refine lv_iload_n hx hb dX12_clauseHere_90 rfl (lv_at hl 0 rfl) ?_
            refine lv_if_ne (tgt := 101) hx hb dX12_clauseHere_91 (by decide) (fun c => absurd (by decide) c) (fun _ => ?_)
            refine lv_aload_n hx hb dX12_clauseHere_94 rfl (lv_at hl 3 rfl) ?_
            refine lv_iconst (v := 0) hx hb dX12_clauseHere_95 (by decide) ?_
            refine lv_iload_n hx hb dX12_clauseHere_96 rfl (lv_at hl 2 rfl) ?_
            refine tk_Vi hC hK hw hT hA hE hSR kM_at0 (by decide) rfl (k_X12_fails_1 l adK adV dC dI cy ad B (by omega) (by omega) qr s1   0 (by decide) (by decide) x79 (show 0 ≤ x79.toInt by omega) (show x79.toInt ≤ 400 by omega) w237 H.size hT ) (cwV 2 hC.2.2.2.2 gX12_clauseHere_X12_fails rfl rfl rfl (by decide +kernel) ⟨Nat.le_of_ble_eq_true rfl, Nat.le_of_ble_eq_true rfl⟩) rfl hl.1 rfl (Nat.le_of_ble_eq_true rfl) dX12_clauseHere_97 (fun r253 w255 H locs hp254 hw => ?_)
            obtain ⟨hT, k256, hg259⟩ := hp254
            have hF := hF.tr k256 (by decide)
            have c260 := k256.gi kM_at0 (by decide) c246
            have c261 := k256.gi kM_at0 (by decide) c247
            have c262 := k256.gi kM_at0 (by decide) c248
            have c263 := k256.gi kM_at0 (by decide) c250
            obtain ⟨rfl, ⟨x257, c258, rx257, tx257⟩⟩ := hg259
            exact tk_zret hC hr rfl hlocks hK ⟨hT, hF, (Or.inl ⟨rfl, ⟨x77, c262, (show 1 ≤ x77.toInt by omega), (show x77.toInt ≤ 400 by omega)⟩, ⟨x257, c258, (show 1 ≤ x257.toInt by omega), (show x257.toInt ≤ 3205 by omega)⟩, ⟨6, c260, (by decide), (by decide)⟩, ⟨f1_, c261, (show 0 ≤ f1_.toInt by omega), (show f1_.toInt ≤ 32 by omega)⟩, (by simp only [cf1_, c261]; omega)⟩)⟩ hw dX12_clauseHere_100
          · have ex242 : x242.toInt = x77.toInt := by rw [← c248.symm.trans c243]
            obtain ⟨x251, c252, rx251, tx251⟩ := hT.rdi (lo := 0) (hi := 400) (k := 14) kM_at0 (by decide) rfl
            have g244 : (x251.toInt = x231.toInt ∨ (gi w219 1 (x231.toInt).toNat).toInt = 32) := by have q := g244; simp only [c232, c252] at q; omega
            refine lv_if_eq (tgt := 73) hx hb dX12_clauseHere_66 (by decide) (fun c => absurd c (by decide)) (fun _ => ?_)
            exact J69 x79 x77 x251 H locs ls w237 (show 0 ≤ x79.toInt by omega) (show x79.toInt ≤ 400 by omega) (show 0 ≤ x77.toInt by omega) (show x77.toInt ≤ 400 by omega) (show 0 ≤ x251.toInt by omega) (show x251.toInt ≤ 400 by omega) (show 0 ≤ f1_.toInt by omega) (show f1_.toInt ≤ 32 by omega) (show f1_.toInt = f1_.toInt by omega)  hw hT hF c248 c252 c246 c247 (lv_sub hl [2, 1, 0] rfl)
        · have ex224 : x224.toInt = x77.toInt := by rw [← c230.symm.trans c225]
          obtain ⟨x233, c234, rx233, tx233⟩ := hT.rdi (lo := 0) (hi := 400) (k := 14) kM_at0 (by decide) rfl
          have g226 : (x233.toInt = x213.toInt ∨ (gi w201 1 (x213.toInt).toNat).toInt = 32) := by have q := g226; simp only [c214, c234] at q; omega
          refine lv_if_ne (tgt := 69) hx hb dX12_clauseHere_56 (by decide) (fun _ => ?_) (fun c => absurd c (by decide))
          exact J69 x79 x77 x233 H locs ls w219 (show 0 ≤ x79.toInt by omega) (show x79.toInt ≤ 400 by omega) (show 0 ≤ x77.toInt by omega) (show x77.toInt ≤ 400 by omega) (show 0 ≤ x233.toInt by omega) (show x233.toInt ≤ 400 by omega) (show 0 ≤ f1_.toInt by omega) (show f1_.toInt ≤ 32 by omega) (show f1_.toInt = f1_.toInt by omega)  hw hT hF c230 c234 c228 c229 (lv_sub hl [2, 1, 0] rfl)
      · have ex206 : x206.toInt = x77.toInt := by rw [← c212.symm.trans c207]
        obtain ⟨x215, c216, rx215, tx215⟩ := hT.rdi (lo := 0) (hi := 400) (k := 14) kM_at0 (by decide) rfl
        have g208 : (x215.toInt = x195.toInt ∨ (gi w183 1 (x195.toInt).toNat).toInt = 32) := by have q := g208; simp only [c196, c216] at q; omega
        refine lv_if_ne (tgt := 69) hx hb dX12_clauseHere_46 (by decide) (fun _ => ?_) (fun c => absurd c (by decide))
        exact J69 x79 x77 x215 H locs ls w201 (show 0 ≤ x79.toInt by omega) (show x79.toInt ≤ 400 by omega) (show 0 ≤ x77.toInt by omega) (show x77.toInt ≤ 400 by omega) (show 0 ≤ x215.toInt by omega) (show x215.toInt ≤ 400 by omega) (show 0 ≤ f1_.toInt by omega) (show f1_.toInt ≤ 32 by omega) (show f1_.toInt = f1_.toInt by omega)  hw hT hF c212 c216 c210 c211 (lv_sub hl [2, 1, 0] rfl)
    · have ex188 : x188.toInt = x77.toInt := by rw [← c194.symm.trans c189]
      obtain ⟨x197, c198, rx197, tx197⟩ := hT.rdi (lo := 0) (hi := 400) (k := 14) kM_at0 (by decide) rfl
      have g190 : (x197.toInt = x79.toInt ∨ (gi w67 1 (x79.toInt).toNat).toInt = 32) := by have q := g190; simp only [c80, c198] at q; omega
      refine lv_if_ne (tgt := 69) hx hb dX12_clauseHere_36 (by decide) (fun _ => ?_) (fun c => absurd c (by decide))
      exact J69 x79 x77 x197 H locs ls w183 (show 0 ≤ x79.toInt by omega) (show x79.toInt ≤ 400 by omega) (show 0 ≤ x77.toInt by omega) (show x77.toInt ≤ 400 by omega) (show 0 ≤ x197.toInt by omega) (show x197.toInt ≤ 400 by omega) (show 0 ≤ f1_.toInt by omega) (show f1_.toInt ≤ 32 by omega) (show f1_.toInt = f1_.toInt by omega)  hw hT hF c194 c198 c192 c193 (lv_sub hl [2, 1, 0] rfl)
  · obtain ⟨x88, c89, rx88, tx88⟩ := hT.rdi (lo := 0) (hi := 400) (k := 14) kM_at0 (by decide) rfl
    have g84 : (x88.toInt = x63.toInt ∨ (gi w0 1 (x63.toInt).toNat).toInt = 32) := by have q := g84; simp only [c64, c89] at q; omega
    refine lv_pop hx hb dX12_clauseHere_4 rfl ?_
    refine lv_aload_n hx hb dX12_clauseHere_5 rfl (lv_at hl 0 rfl) ?_
    refine tk_geti hC hK hw hT hinX12 kM_at0 (by decide) rfl 14 (by decide) (List.mem_of_getElem? (i := 1) rfl) rfl rfl dX12_clauseHere_6 (fun x264 c265 rx264 tx264 => ?_)
    refine wk_top x88 (c265.symm.trans c89) ?_
    refine lv_istore_n (lv' := [(1, .int x88), (0, .ref (ad 0))]) hx hb dX12_clauseHere_9 rfl hl (by decide) rfl (fun ls hl => ?_)
    refine lv_aload_n hx hb dX12_clauseHere_10 rfl (lv_at hl 1 rfl) ?_
    refine tk_geti hC hK hw hT hinX12 kM_at0 (by decide) rfl 17 (by decide) (List.mem_of_getElem? (i := 2) rfl) rfl rfl dX12_clauseHere_11 (fun x266 c267 rx266 tx266 => ?_)
    refine wk_top 6 (c267.symm.trans c86) ?_
    refine lv_bipush (v := 6) hx hb dX12_clauseHere_14 (by decide) ?_
    refine lv_icmp_ne (tgt := 23) hx hb dX12_clauseHere_16 (by decide) (fun c => absurd (by decide) c) (fun _ => ?_)
    refine lv_iconst (v := 1) hx hb dX12_clauseHere_19 (by decide) ?_
    refine lv_goto (tgt := 24) hx hb dX12_clauseHere_20 (by decide) ?_
    refine lv_istore_n (lv' := [(2, .int 1), (1, .int x88), (0, .ref (ad 0))]) hx hb dX12_clauseHere_24 rfl hl (by decide) rfl (fun ls hl => ?_)
    refine lv_iload_n hx hb dX12_clauseHere_25 rfl (lv_at hl 0 rfl) ?_
    refine lv_if_eq (tgt := 77) hx hb dX12_clauseHere_26 (by decide) (fun c => absurd c (by decide)) (fun _ => ?_)
    refine lv_aload_n hx hb dX12_clauseHere_29 rfl (lv_at hl 2 rfl) ?_
    refine lv_ldc2 (v := 27988559963452019) hx hb hC.2.2.2.1 (hC.2.2.2.2 _ (List.mem_of_getElem? (i := 3) rfl)) dX12_clauseHere_30 ?_
    refine tk_Vi hC hK hw hT hA hE hSR kM_at0 (by decide) rfl (k_X12_isWord_3 l adK adV dC dI cy ad B (by omega) (by omega) qr s1    w67 H.size hT x88 c89 (show 0 ≤ x88.toInt by omega) (show x88.toInt ≤ 400 by omega)) (cwV 1 hC.2.2.2.2 gX12_clauseHere_X12_isWord rfl rfl rfl (by decide +kernel) ⟨Nat.le_of_ble_eq_true rfl, Nat.le_of_ble_eq_true rfl⟩) rfl hl.1 rfl (Nat.le_of_ble_eq_true rfl) dX12_clauseHere_33 (fun r268 w270 H locs hp269 hw => ?_)
    obtain ⟨hT, k271, hg278⟩ := hp269
    have hF := hF.tr k271 (by decide)
    have c279 := k271.gi kM_at0 (by decide) c86
    have c280 := k271.gi kM_at0 (by decide) c87
    have c281 := k271.gi kM_at0 (by decide) c83
    rcases hg278 with ⟨rfl, ⟨x272, c273, rx272, tx272⟩, g274⟩ | ⟨rfl, ⟨x275, c276, rx275, tx275⟩, g277⟩
    · have ex272 : x272.toInt = x82.toInt := by rw [← c281.symm.trans c273]
      obtain ⟨x282, c283, rx282, tx282⟩ := hT.rdi (lo := 0) (hi := 400) (k := 14) kM_at0 (by decide) rfl
      have g274 : (x282.toInt = x88.toInt ∨ (gi w67 1 (x88.toInt).toNat).toInt = 32) := by have q := g274; simp only [c89, c283] at q; omega
      refine lv_if_ne (tgt := 69) hx hb dX12_clauseHere_36 (by decide) (fun c => absurd (by decide) c) (fun _ => ?_)
      refine lv_aload_n hx hb dX12_clauseHere_39 rfl (lv_at hl 2 rfl) ?_
      refine lv_ldc2 (v := 126943972648308) hx hb hC.2.2.2.1 (hC.2.2.2.2 _ (List.mem_of_getElem? (i := 4) rfl)) dX12_clauseHere_40 ?_
      refine tk_Vi hC hK hw hT hA hE hSR kM_at0 (by decide) rfl (k_X12_isWord_1 l adK adV dC dI cy ad B (by omega) (by omega) qr s1    w270 H.size hT x282 c283 (show 0 ≤ x282.toInt by omega) (show x282.toInt ≤ 400 by omega)) (cwV 1 hC.2.2.2.2 gX12_clauseHere_X12_isWord rfl rfl rfl (by decide +kernel) ⟨Nat.le_of_ble_eq_true rfl, Nat.le_of_ble_eq_true rfl⟩) rfl hl.1 rfl (Nat.le_of_ble_eq_true rfl) dX12_clauseHere_43 (fun r286 w288 H locs hp287 hw => ?_)
      obtain ⟨hT, k289, hg296⟩ := hp287
      have hF := hF.tr k289 (by decide)
      have c297 := k289.gi kM_at0 (by decide) c279
      have c298 := k289.gi kM_at0 (by decide) c280
      have c299 := k289.gi kM_at0 (by decide) c281
      rcases hg296 with ⟨rfl, ⟨x290, c291, rx290, tx290⟩, g292⟩ | ⟨rfl, ⟨x293, c294, rx293, tx293⟩, g295⟩
      · have ex290 : x290.toInt = x82.toInt := by rw [← c299.symm.trans c291]
        obtain ⟨x300, c301, rx300, tx300⟩ := hT.rdi (lo := 0) (hi := 400) (k := 14) kM_at0 (by decide) rfl
        have g292 : (x300.toInt = x282.toInt ∨ (gi w270 1 (x282.toInt).toNat).toInt = 32) := by have q := g292; simp only [c283, c301] at q; omega
        refine lv_if_ne (tgt := 69) hx hb dX12_clauseHere_46 (by decide) (fun c => absurd (by decide) c) (fun _ => ?_)
        refine lv_aload_n hx hb dX12_clauseHere_49 rfl (lv_at hl 2 rfl) ?_
        refine lv_ldc2 (v := 495555538548) hx hb hC.2.2.2.1 (hC.2.2.2.2 _ (List.mem_of_getElem? (i := 5) rfl)) dX12_clauseHere_50 ?_
        refine tk_Vi hC hK hw hT hA hE hSR kM_at0 (by decide) rfl (k_X12_isWord_4 l adK adV dC dI cy ad B (by omega) (by omega) qr s1    w288 H.size hT x300 c301 (show 0 ≤ x300.toInt by omega) (show x300.toInt ≤ 400 by omega)) (cwV 1 hC.2.2.2.2 gX12_clauseHere_X12_isWord rfl rfl rfl (by decide +kernel) ⟨Nat.le_of_ble_eq_true rfl, Nat.le_of_ble_eq_true rfl⟩) rfl hl.1 rfl (Nat.le_of_ble_eq_true rfl) dX12_clauseHere_53 (fun r304 w306 H locs hp305 hw => ?_)
        obtain ⟨hT, k307, hg314⟩ := hp305
        have hF := hF.tr k307 (by decide)
        have c315 := k307.gi kM_at0 (by decide) c297
        have c316 := k307.gi kM_at0 (by decide) c298
        have c317 := k307.gi kM_at0 (by decide) c299
        rcases hg314 with ⟨rfl, ⟨x308, c309, rx308, tx308⟩, g310⟩ | ⟨rfl, ⟨x311, c312, rx311, tx311⟩, g313⟩
        · have ex308 : x308.toInt = x82.toInt := by rw [← c317.symm.trans c309]
          obtain ⟨x318, c319, rx318, tx318⟩ := hT.rdi (lo := 0) (hi := 400) (k := 14) kM_at0 (by decide) rfl
          have g310 : (x318.toInt = x300.toInt ∨ (gi w288 1 (x300.toInt).toNat).toInt = 32) := by have q := g310; simp only [c301, c319] at q; omega
          refine lv_if_ne (tgt := 69) hx hb dX12_clauseHere_56 (by decide) (fun c => absurd (by decide) c) (fun _ => ?_)
          refine lv_aload_n hx hb dX12_clauseHere_59 rfl (lv_at hl 2 rfl) ?_
          refine lv_ldc2 (v := 1818846836) hx hb hC.2.2.2.1 (hC.2.2.2.2 _ (List.mem_of_getElem? (i := 6) rfl)) dX12_clauseHere_60 ?_
          refine tk_Vi hC hK hw hT hA hE hSR kM_at0 (by decide) rfl (k_X12_isWord_2 l adK adV dC dI cy ad B (by omega) (by omega) qr s1    w306 H.size hT x318 c319 (show 0 ≤ x318.toInt by omega) (show x318.toInt ≤ 400 by omega)) (cwV 1 hC.2.2.2.2 gX12_clauseHere_X12_isWord rfl rfl rfl (by decide +kernel) ⟨Nat.le_of_ble_eq_true rfl, Nat.le_of_ble_eq_true rfl⟩) rfl hl.1 rfl (Nat.le_of_ble_eq_true rfl) dX12_clauseHere_63 (fun r322 w324 H locs hp323 hw => ?_)
          obtain ⟨hT, k325, hg332⟩ := hp323
          have hF := hF.tr k325 (by decide)
          have c333 := k325.gi kM_at0 (by decide) c315
          have c334 := k325.gi kM_at0 (by decide) c316
          have c335 := k325.gi kM_at0 (by decide) c317
          rcases hg332 with ⟨rfl, ⟨x326, c327, rx326, tx326⟩, g328⟩ | ⟨rfl, ⟨x329, c330, rx329, tx329⟩, g331⟩
          · have ex326 : x326.toInt = x82.toInt := by rw [← c335.symm.trans c327]
            obtain ⟨x336, c337, rx336, tx336⟩ := hT.rdi (lo := 0) (hi := 400) (k := 14) kM_at0 (by decide) rfl
            have g328 : (x336.toInt = x318.toInt ∨ (gi w306 1 (x318.toInt).toNat).toInt = 32) := by have q := g328; simp only [c319, c337] at q; omega
            refine lv_if_eq (tgt := 73) hx hb dX12_clauseHere_66 (by decide) (fun _ => ?_) (fun c => absurd (by decide) c)
            refine lv_iconst (v := 0) hx hb dX12_clauseHere_73 (by decide) ?_
            refine lv_goto (tgt := 89) hx hb dX12_clauseHere_74 (by decide) ?_
            refine lv_istore_n (lv' := [(3, .int 0), (2, .int 1), (1, .int x88), (0, .ref (ad 0))]) hx hb dX12_clauseHere_89 rfl hl (by decide) rfl (fun ls hl => ?_)
            refine lv_iload_n hx hb dX12_clauseHere_90 rfl (lv_at hl 0 rfl) ?_
            refine lv_if_ne (tgt := 101) hx hb dX12_clauseHere_91 (by decide) (fun c => absurd (by decide) c) (fun _ => ?_)
            refine lv_aload_n hx hb dX12_clauseHere_94 rfl (lv_at hl 3 rfl) ?_
            refine lv_iconst (v := 0) hx hb dX12_clauseHere_95 (by decide) ?_
            refine lv_iload_n hx hb dX12_clauseHere_96 rfl (lv_at hl 2 rfl) ?_
            refine tk_Vi hC hK hw hT hA hE hSR kM_at0 (by decide) rfl (k_X12_fails_1 l adK adV dC dI cy ad B (by omega) (by omega) qr s1   0 (by decide) (by decide) x88 (show 0 ≤ x88.toInt by omega) (show x88.toInt ≤ 400 by omega) w324 H.size hT ) (cwV 2 hC.2.2.2.2 gX12_clauseHere_X12_fails rfl rfl rfl (by decide +kernel) ⟨Nat.le_of_ble_eq_true rfl, Nat.le_of_ble_eq_true rfl⟩) rfl hl.1 rfl (Nat.le_of_ble_eq_true rfl) dX12_clauseHere_97 (fun r340 w342 H locs hp341 hw => ?_)
            obtain ⟨hT, k343, hg346⟩ := hp341
            have hF := hF.tr k343 (by decide)
            have c347 := k343.gi kM_at0 (by decide) c333
            have c348 := k343.gi kM_at0 (by decide) c334
            have c349 := k343.gi kM_at0 (by decide) c335
            have c350 := k343.gi kM_at0 (by decide) c337
            obtain ⟨rfl, ⟨x344, c345, rx344, tx344⟩⟩ := hg346
            exact tk_zret hC hr rfl hlocks hK ⟨hT, hF, (Or.inr (Or.inl ⟨rfl, ⟨x82, c349, (show 0 ≤ x82.toInt by omega), (show x82.toInt ≤ 400 by omega)⟩, ⟨x344, c345, (show 1 ≤ x344.toInt by omega), (show x344.toInt ≤ 3205 by omega)⟩, ⟨6, c347, (by decide), (by decide)⟩, ⟨f1_, c348, (show 0 ≤ f1_.toInt by omega), (show f1_.toInt ≤ 32 by omega)⟩, (by simp only [cf1_, c348]; omega)⟩))⟩ hw dX12_clauseHere_100
          · have ex329 : x329.toInt = x82.toInt := by rw [← c335.symm.trans c330]
            obtain ⟨x338, c339, rx338, tx338⟩ := hT.rdi (lo := 0) (hi := 400) (k := 14) kM_at0 (by decide) rfl
            have g331 : (x338.toInt = x318.toInt ∨ (gi w306 1 (x318.toInt).toNat).toInt = 32) := by have q := g331; simp only [c319, c339] at q; omega
            refine lv_if_eq (tgt := 73) hx hb dX12_clauseHere_66 (by decide) (fun c => absurd c (by decide)) (fun _ => ?_)
            exact J69 x88 x82 x338 H locs ls w324 (show 0 ≤ x88.toInt by omega) (show x88.toInt ≤ 400 by omega) (show 0 ≤ x82.toInt by omega) (show x82.toInt ≤ 400 by omega) (show 0 ≤ x338.toInt by omega) (show x338.toInt ≤ 400 by omega) (show 0 ≤ f1_.toInt by omega) (show f1_.toInt ≤ 32 by omega) (show f1_.toInt = f1_.toInt by omega)  hw hT hF c335 c339 c333 c334 (lv_sub hl [2, 1, 0] rfl)
        · have ex311 : x311.toInt = x82.toInt := by rw [← c317.symm.trans c312]
          obtain ⟨x320, c321, rx320, tx320⟩ := hT.rdi (lo := 0) (hi := 400) (k := 14) kM_at0 (by decide) rfl
          have g313 : (x320.toInt = x300.toInt ∨ (gi w288 1 (x300.toInt).toNat).toInt = 32) := by have q := g313; simp only [c301, c321] at q; omega
          refine lv_if_ne (tgt := 69) hx hb dX12_clauseHere_56 (by decide) (fun _ => ?_) (fun c => absurd c (by decide))
          exact J69 x88 x82 x320 H locs ls w306 (show 0 ≤ x88.toInt by omega) (show x88.toInt ≤ 400 by omega) (show 0 ≤ x82.toInt by omega) (show x82.toInt ≤ 400 by omega) (show 0 ≤ x320.toInt by omega) (show x320.toInt ≤ 400 by omega) (show 0 ≤ f1_.toInt by omega) (show f1_.toInt ≤ 32 by omega) (show f1_.toInt = f1_.toInt by omega)  hw hT hF c317 c321 c315 c316 (lv_sub hl [2, 1, 0] rfl)
      · have ex293 : x293.toInt = x82.toInt := by rw [← c299.symm.trans c294]
        obtain ⟨x302, c303, rx302, tx302⟩ := hT.rdi (lo := 0) (hi := 400) (k := 14) kM_at0 (by decide) rfl
        have g295 : (x302.toInt = x282.toInt ∨ (gi w270 1 (x282.toInt).toNat).toInt = 32) := by have q := g295; simp only [c283, c303] at q; omega
        refine lv_if_ne (tgt := 69) hx hb dX12_clauseHere_46 (by decide) (fun _ => ?_) (fun c => absurd c (by decide))
        exact J69 x88 x82 x302 H locs ls w288 (show 0 ≤ x88.toInt by omega) (show x88.toInt ≤ 400 by omega) (show 0 ≤ x82.toInt by omega) (show x82.toInt ≤ 400 by omega) (show 0 ≤ x302.toInt by omega) (show x302.toInt ≤ 400 by omega) (show 0 ≤ f1_.toInt by omega) (show f1_.toInt ≤ 32 by omega) (show f1_.toInt = f1_.toInt by omega)  hw hT hF c299 c303 c297 c298 (lv_sub hl [2, 1, 0] rfl)
    · have ex275 : x275.toInt = x82.toInt := by rw [← c281.symm.trans c276]
      obtain ⟨x284, c285, rx284, tx284⟩ := hT.rdi (lo := 0) (hi := 400) (k := 14) kM_at0 (by decide) rfl
      have g277 : (x284.toInt = x88.toInt ∨ (gi w67 1 (x88.toInt).toNat).toInt = 32) := by have q := g277; simp only [c89, c285] at q; omega
      refine lv_if_ne (tgt := 69) hx hb dX12_clauseHere_36 (by decide) (fun _ => ?_) (fun c => absurd c (by decide))
      exact J69 x88 x82 x284 H locs ls w270 (show 0 ≤ x88.toInt by omega) (show x88.toInt ≤ 400 by omega) (show 0 ≤ x82.toInt by omega) (show x82.toInt ≤ 400 by omega) (show 0 ≤ x284.toInt by omega) (show x284.toInt ≤ 400 by omega) (show 0 ≤ f1_.toInt by omega) (show f1_.toInt ≤ 32 by omega) (show f1_.toInt = f1_.toInt by omega)  hw hT hF c281 c285 c279 c280 (lv_sub hl [2, 1, 0] rfl)
abbrev P_X12_readsAll_1 (ad : Nat → Nat) (cy : Nat → ClassId) (B : Int) (qr : Nat) (s1 : Int)  (w0 : va_W) : Int32 → va_W → Prop := fun r u => TW ksM ad cy B qr 12 u ∧ FE ksM [(12, 1, 1), (12, 7, 7), (12, 8, 8), (12, 9, 9), (12, 10, 10), (12, 14, 14), (12, 15, 15), (12, 16, 16), (12, 18, 18), (12, 20, 20), (62, 0, 7), (65, 0, 120), (66, 0, 16), (67, 0, 12)] w0 u ∧ ((r = 0 ∧ (∃ y : Int32, gi u 0 1 = y ∧ 0 ≤ y.toInt ∧ y.toInt ≤ 0) ∧ (∃ y : Int32, gi u 0 15 = y ∧ 1 ≤ y.toInt ∧ y.toInt ≤ 3205) ∧ (∃ y : Int32, gi u 0 17 = y ∧ 6 ≤ y.toInt ∧ y.toInt ≤ 6) ∧ (∃ y : Int32, gi u 0 18 = y ∧ 0 ≤ y.toInt ∧ y.toInt ≤ 0) ∧ (∃ y : Int32, gi u 0 20 = y ∧ 0 ≤ y.toInt ∧ y.toInt ≤ 32)) ∨ (r = 1 ∧ (∃ y : Int32, gi u 0 1 = y ∧ 0 ≤ y.toInt ∧ y.toInt ≤ 0) ∧ (∃ y : Int32, gi u 0 15 = y ∧ 0 ≤ y.toInt ∧ y.toInt ≤ 0) ∧ (∃ y : Int32, gi u 0 17 = y ∧ 6 ≤ y.toInt ∧ y.toInt ≤ 6) ∧ (∃ y : Int32, gi u 0 18 = y ∧ 0 ≤ y.toInt ∧ y.toInt ≤ 0) ∧ (∃ y : Int32, gi u 0 20 = y ∧ 0 ≤ y.toInt ∧ y.toInt ≤ 32)))
set_option maxHeartbeats 4000000 in
set_option maxRecDepth 100000 in
theorem k_X12_readsAll_1 (l : Launch) (adK adV : Nat → Nat) (dC : Nat → ClassId) (dI : Nat → Nat → Nat) (cy : Nat → ClassId) (ad : Nat → Nat) (B : Int) (hB0 : 100000 ≤ B) (hB1 : B ≤ 1073741824) (qr : Nat) (s1 : Int)   (w0 : va_W) (sz : Nat) (hT : TW ksM ad cy B qr 12 w0) (cf0_ : gi w0 0 17 = 6) (f1_ : Int32) (cf1_ : gi w0 0 20 = f1_) (rf1_ : 0 ≤ f1_.toInt) (tf1_ : f1_.toInt ≤ 32) : Met l yX12_readsAll wsX12_readsAll ({ frames := 6, cells := 0, slots := 0, locals := 128 }) (va_Pc [.ref (ad 0)] (wpreS adK adV dC dI cy sz w0)) (va_Qi (P_X12_readsAll_1 ad cy B qr s1  w0) (fun u : va_W => wpost dC dI cy (va_A w0 sz) u) (va_A w0 sz)) 0 0 (va_A w0 sz) := by
  refine Met.ofW (cc := cX12_readsAll) (maxL := 2) (ret := (some .boolean)) (by decide) rfl ?_
  intro p e s m args below meth c s₁ Bk hml hv
  obtain ⟨rfl, ⟨hsz, hP, hK, hD0⟩, hE, hSR⟩ := hv
  have hx := Bk.exec
  have hb := Bk.bytes
  have hr := Bk.returns
  have hlocks := Bk.notSynchronized
  have hC : CallFix p m c cX12_readsAll 2 s _ wsX12_readsAll RX12 := ⟨hx, hb, hml, findClass_of_methodNamed Bk.named, atoms_spec (ws := wsX12_readsAll) Bk.pre⟩
  subst hsz
  have hD := hD0.self (sz := s.heap.size)
  generalize hAe : va_A w0 s.heap.size = A at hD hE ⊢
  have hA : ∀ q : Nat, s.heap.size ≤ q → A q := fun q h => by rw [← hAe]; exact Or.inr h
  have hw : Wd dC dI A s.heap s.heap [] w0 := ⟨hP, hD, va_S.rf⟩
  have hF : FE ksM [(12, 1, 1), (12, 7, 7), (12, 8, 8), (12, 9, 9), (12, 10, 10), (12, 14, 14), (12, 15, 15), (12, 16, 16), (12, 18, 18), (12, 20, 20), (62, 0, 7), (65, 0, 120), (66, 0, 16), (67, 0, 12)] w0 w0 := FE.rf
  have hl := lv_entry ([.ref (ad 0)]) (n := 2) (Nat.le_of_ble_eq_true rfl)
  rw [lg_entry_eq]
  generalize (lg_sl ([.ref (ad 0)]) ++ List.replicate (2 - (lg_sl ([.ref (ad 0)])).length) Slot.unset).toArray = ls at hl ⊢
  have hl : lv_has ls 2 [(0, .ref (ad 0))] := hl
  generalize hloc : ([] : List Loc) = locs at hw ⊢
  have hinX12 : ∀ w ∈ u_ws RX12 TX12 42, w ∈ wsX12_readsAll := fun _ h => List.mem_cons_of_mem _ (List.mem_append_right _ (h))
  have J88 : ∀ (v88_1 : Int32) (f88_0_1 : Int32) (f88_0_20 : Int32) (H : Heap) (locs : List Loc) (ls : Array Slot) (w1 : va_W), 0 ≤ v88_1.toInt → v88_1.toInt ≤ 1 → 0 ≤ f88_0_1.toInt → f88_0_1.toInt ≤ 400 → 0 ≤ f88_0_20.toInt → f88_0_20.toInt ≤ 32 → (f88_0_20.toInt ≤ 32) → Wd dC dI A s.heap H locs w1 → TW ksM ad cy B qr 12 w1 → FE ksM [(12, 1, 1), (12, 7, 7), (12, 8, 8), (12, 9, 9), (12, 10, 10), (12, 14, 14), (12, 15, 15), (12, 16, 16), (12, 18, 18), (12, 20, 20), (62, 0, 7), (65, 0, 120), (66, 0, 16), (67, 0, 12)] w0 w1 → gi w1 0 1 = f88_0_1 → gi w1 0 17 = 6 → gi w1 0 18 = 0 → gi w1 0 20 = f88_0_20 → gi w1 3 6 = 0 → lv_has ls 2 [(0, .ref (ad 0)), (1, .int v88_1)] → W p l e ({ frames := 6, cells := 0, slots := 0, locals := 128 }) s m (List.toArray [.ref (ad 0)]) below meth c H locs 0 0 (MQ below (va_Qi (P_X12_readsAll_1 ad cy B qr s1  w0) (fun u : va_W => wpost dC dI cy A u) A) (List.toArray [.ref (ad 0)]) s 0 0 A) (F0 m 88 ls []) := by
    intro v88_1 f88_0_1 f88_0_20 H locs ls w1 r2 t3 r4 t5 r9 t10 hcr88_0 hw hT hF c6 c7 c8 c11 c12 hl
    refine lv_aload_n hx hb dX12_readsAll_88 rfl (lv_at hl 0 rfl) ?_
    refine lv_iconst (v := 0) hx hb dX12_readsAll_89 (by decide) ?_
    refine tk_puti hC hK hw hT hinX12 tyX12_ok nmX12 kM_at0 (by decide) rfl rfl 1 (by decide) (List.mem_of_getElem? (i := 7) rfl) rfl rfl rfl rfl (by decide) (by decide) dX12_readsAll_90 (fun H locs w13 hw hT k15 c14 => ?_)
    have hF := hF.put kM_at0 (k := 1) (by decide) k15
    have c16 := k15.gi (Or.inr (by decide)) c7
    have c17 := k15.gi (Or.inr (by decide)) c8
    have c18 := k15.gi (Or.inr (by decide)) c11
    have c19 := k15.gi (Or.inr (by decide)) c12
    refine lv_aload_n hx hb dX12_readsAll_93 rfl (lv_at hl 0 rfl) ?_
    refine tk_geti hC hK hw hT hinX12 kM_at0 (by decide) rfl 15 (by decide) (List.mem_of_getElem? (i := 5) rfl) rfl rfl dX12_readsAll_94 (fun x20 c21 rx20 tx20 => ?_)
    refine lv_if_ne (tgt := 104) hx hb dX12_readsAll_97 (by decide) (fun c22 => ?_) (fun c22 => ?_)
    · have c22 : ¬ x20.toInt = (0 : Int) := wk_eqF c22
      refine lv_iconst (v := 0) hx hb dX12_readsAll_104 (by decide) ?_
      exact tk_zret hC hr rfl hlocks hK ⟨hT, hF, (Or.inl ⟨rfl, ⟨0, c14, (by decide), (by decide)⟩, ⟨x20, c21, (show 1 ≤ x20.toInt by omega), (show x20.toInt ≤ 3205 by omega)⟩, ⟨6, c16, (by decide), (by decide)⟩, ⟨0, c17, (by decide), (by decide)⟩, ⟨f88_0_20, c18, (show 0 ≤ f88_0_20.toInt by omega), (show f88_0_20.toInt ≤ 32 by omega)⟩⟩)⟩ hw dX12_readsAll_105
    · have c22 : x20.toInt = (0 : Int) := wk_eq.mp c22
      refine lv_iconst (v := 1) hx hb dX12_readsAll_100 (by decide) ?_
      refine lv_goto (tgt := 105) hx hb dX12_readsAll_101 (by decide) ?_
      exact tk_zret hC hr rfl hlocks hK ⟨hT, hF, (Or.inr ⟨rfl, ⟨0, c14, (by decide), (by decide)⟩, ⟨x20, c21, (show 0 ≤ x20.toInt by omega), (show x20.toInt ≤ 0 by omega)⟩, ⟨6, c16, (by decide), (by decide)⟩, ⟨0, c17, (by decide), (by decide)⟩, ⟨f88_0_20, c18, (show 0 ≤ f88_0_20.toInt by omega), (show f88_0_20.toInt ≤ 32 by omega)⟩⟩)⟩ hw dX12_readsAll_105
  have J66 : ∀ (v66_1 : Int32) (f66_0_1 : Int32) (f66_0_20 : Int32) (H : Heap) (locs : List Loc) (ls : Array Slot) (w23 : va_W), 0 ≤ v66_1.toInt → v66_1.toInt ≤ 1 → 0 ≤ f66_0_1.toInt → f66_0_1.toInt ≤ 400 → 0 ≤ f66_0_20.toInt → f66_0_20.toInt ≤ 32 → (f66_0_20.toInt ≤ 32) → Wd dC dI A s.heap H locs w23 → TW ksM ad cy B qr 12 w23 → FE ksM [(12, 1, 1), (12, 7, 7), (12, 8, 8), (12, 9, 9), (12, 10, 10), (12, 14, 14), (12, 15, 15), (12, 16, 16), (12, 18, 18), (12, 20, 20), (62, 0, 7), (65, 0, 120), (66, 0, 16), (67, 0, 12)] w0 w23 → gi w23 0 1 = f66_0_1 → gi w23 0 17 = 6 → gi w23 0 18 = 0 → gi w23 0 20 = f66_0_20 → gi w23 3 6 = 0 → lv_has ls 2 [(0, .ref (ad 0)), (1, .int v66_1)] → W p l e ({ frames := 6, cells := 0, slots := 0, locals := 128 }) s m (List.toArray [.ref (ad 0)]) below meth c H locs 0 0 (MQ below (va_Qi (P_X12_readsAll_1 ad cy B qr s1  w0) (fun u : va_W => wpost dC dI cy A u) A) (List.toArray [.ref (ad 0)]) s 0 0 A) (F0 m 66 ls []) := by
    intro v66_1 f66_0_1 f66_0_20 H locs ls w23 r24 t25 r26 t27 r31 t32 hcr66_0 hw hT hF c28 c29 c30 c33 c34 hl
    refine lv_iload_n hx hb dX12_readsAll_66 rfl (lv_at hl 1 rfl) ?_
    refine lv_if_eq (tgt := 88) hx hb dX12_readsAll_67 (by decide) (fun c35 => ?_) (fun c35 => ?_)
    · have c35 : v66_1.toInt = (0 : Int) := wk_eq.mp c35
      exact J88 v66_1 f66_0_1 f66_0_20 H locs ls w23 (show 0 ≤ v66_1.toInt by omega) (show v66_1.toInt ≤ 1 by omega) (show 0 ≤ f66_0_1.toInt by omega) (show f66_0_1.toInt ≤ 400 by omega) (show 0 ≤ f66_0_20.toInt by omega) (show f66_0_20.toInt ≤ 32 by omega) (show f66_0_20.toInt ≤ 32 by omega)  hw hT hF c28 c29 c30 c33 c34 (lv_sub hl [0, 1] rfl)
    · have c35 : ¬ v66_1.toInt = (0 : Int) := wk_eqF c35
      refine lv_aload_n hx hb dX12_readsAll_70 rfl (lv_at hl 0 rfl) ?_
      obtain ⟨x36, c37, rx36, tx36⟩ := hT.rdi (lo := 0) (hi := 400) (k := 14) kM_at0 (by decide) rfl
      refine tk_Vi hC hK hw hT hA hE hSR kM_at0 (by decide) rfl (k_X12_see_1 l adK adV dC dI cy ad B (by omega) (by omega) qr s1    w23 H.size hT x36 c37 (show 0 ≤ x36.toInt by omega) (show x36.toInt ≤ 400 by omega)) (cwV 0 hC.2.2.2.2 gX12_readsAll_X12_see rfl rfl rfl (by decide +kernel) ⟨Nat.le_of_ble_eq_true rfl, Nat.le_of_ble_eq_true rfl⟩) rfl hl.1 rfl (Nat.le_of_ble_eq_true rfl) dX12_readsAll_71 (fun r38 w40 H locs hp39 hw => ?_)
      obtain ⟨hT, k41, hg58⟩ := hp39
      have hF := hF.tr k41 (by decide)
      have c59 := k41.gi kM_at0 (by decide) c28
      have c60 := k41.gi kM_at0 (by decide) c29
      have c61 := k41.gi kM_at0 (by decide) c30
      have c62 := k41.gi kM_at0 (by decide) c33
      have c63 := k41.gi kM_at3 (by decide) c34
      rcases hg58 with ⟨g42, g43, ⟨x44, c45, rx44, tx44⟩, ⟨x46, c47, rx46, tx46⟩, g48, g49⟩ | ⟨rfl, ⟨x50, c51, rx50, tx50⟩, ⟨x52, c53, rx52, tx52⟩, g54⟩ | ⟨rfl, ⟨x55, c56, rx55, tx55⟩, g57⟩
      · have ex44 : x44.toInt = f66_0_1.toInt := by rw [← c59.symm.trans c45]
        have g48 : (gi w40 1 (x46.toInt).toNat).toInt ≠ 32 := by have q := g48; simp only [c47] at q; omega
        have g49 : (x46.toInt = x36.toInt ∨ (gi w23 1 (x36.toInt).toNat).toInt = 32) := by have q := g49; simp only [c37, c47] at q; omega
        refine lv_iconst (v := (-1)) hx hb dX12_readsAll_74 (by decide) ?_
        refine lv_icmp_eq (tgt := 88) hx hb dX12_readsAll_75 (by decide) (fun c => absurd c (fun h => absurd (show r38.toInt = (-1 : Int) from wk_eq.mp h) (by omega))) (fun _ => ?_)
        refine lv_aload_n hx hb dX12_readsAll_78 rfl (lv_at hl 0 rfl) ?_
        refine lv_iconst (v := 0) hx hb dX12_readsAll_79 (by decide) ?_
        refine lv_aload_n hx hb dX12_readsAll_80 rfl (lv_at hl 0 rfl) ?_
        refine tk_geti hC hK hw hT hinX12 kM_at0 (by decide) rfl 14 (by decide) (List.mem_of_getElem? (i := 4) rfl) rfl rfl dX12_readsAll_81 (fun x66 c67 rx66 tx66 => ?_)
        refine wk_top x46 (c67.symm.trans c47) ?_
        refine tk_Vi hC hK hw hT hA hE hSR kM_at0 (by decide) rfl (k_X12_fails_1 l adK adV dC dI cy ad B (by omega) (by omega) qr s1   0 (by decide) (by decide) x46 (show 0 ≤ x46.toInt by omega) (show x46.toInt ≤ 400 by omega) w40 H.size hT ) (cwV 2 hC.2.2.2.2 gX12_readsAll_X12_fails rfl rfl rfl (by decide +kernel) ⟨Nat.le_of_ble_eq_true rfl, Nat.le_of_ble_eq_true rfl⟩) rfl hl.1 rfl (Nat.le_of_ble_eq_true rfl) dX12_readsAll_84 (fun r68 w70 H locs hp69 hw => ?_)
        obtain ⟨hT, k71, hg74⟩ := hp69
        have hF := hF.tr k71 (by decide)
        have c75 := k71.gi kM_at0 (by decide) c59
        have c76 := k71.gi kM_at0 (by decide) c60
        have c77 := k71.gi kM_at0 (by decide) c61
        have c78 := k71.gi kM_at0 (by decide) c62
        have c79 := k71.gi kM_at3 (by decide) c63
        have c80 := k71.gi kM_at0 (by decide) c47
        obtain ⟨rfl, ⟨x72, c73, rx72, tx72⟩⟩ := hg74
        refine lv_pop hx hb dX12_readsAll_87 rfl ?_
        exact J88 v66_1 f66_0_1 f66_0_20 H locs ls w70 (show 0 ≤ v66_1.toInt by omega) (show v66_1.toInt ≤ 1 by omega) (show 0 ≤ f66_0_1.toInt by omega) (show f66_0_1.toInt ≤ 400 by omega) (show 0 ≤ f66_0_20.toInt by omega) (show f66_0_20.toInt ≤ 32 by omega) (show f66_0_20.toInt ≤ 32 by omega)  hw hT hF c75 c76 c77 c78 c79 (lv_sub hl [0, 1] rfl)
      · have ex50 : x50.toInt = f66_0_1.toInt := by rw [← c59.symm.trans c51]
        have g54 : (x52.toInt = x36.toInt ∨ (gi w23 1 (x36.toInt).toNat).toInt = 32) := by have q := g54; simp only [c37, c53] at q; omega
        refine lv_iconst (v := (-1)) hx hb dX12_readsAll_74 (by decide) ?_
        refine lv_icmp_eq (tgt := 88) hx hb dX12_readsAll_75 (by decide) (fun _ => ?_) (fun c => absurd (by decide) c)
        exact J88 v66_1 f66_0_1 f66_0_20 H locs ls w40 (show 0 ≤ v66_1.toInt by omega) (show v66_1.toInt ≤ 1 by omega) (show 0 ≤ f66_0_1.toInt by omega) (show f66_0_1.toInt ≤ 400 by omega) (show 0 ≤ f66_0_20.toInt by omega) (show f66_0_20.toInt ≤ 32 by omega) (show f66_0_20.toInt ≤ 32 by omega)  hw hT hF c59 c60 c61 c62 c63 (lv_sub hl [0, 1] rfl)
      · have ex55 : x55.toInt = f66_0_1.toInt := by rw [← c59.symm.trans c56]
        obtain ⟨x64, c65, rx64, tx64⟩ := hT.rdi (lo := 0) (hi := 400) (k := 14) kM_at0 (by decide) rfl
        have g57 : (x64.toInt = x36.toInt ∨ (gi w23 1 (x36.toInt).toNat).toInt = 32) := by have q := g57; simp only [c37, c65] at q; omega
        refine lv_iconst (v := (-1)) hx hb dX12_readsAll_74 (by decide) ?_
        refine lv_icmp_eq (tgt := 88) hx hb dX12_readsAll_75 (by decide) (fun _ => ?_) (fun c => absurd (by decide) c)
        exact J88 v66_1 f66_0_1 f66_0_20 H locs ls w40 (show 0 ≤ v66_1.toInt by omega) (show v66_1.toInt ≤ 1 by omega) (show 0 ≤ f66_0_1.toInt by omega) (show f66_0_1.toInt ≤ 400 by omega) (show 0 ≤ f66_0_20.toInt by omega) (show f66_0_20.toInt ≤ 32 by omega) (show f66_0_20.toInt ≤ 32 by omega)  hw hT hF c59 c60 c61 c62 c63 (lv_sub hl [0, 1] rfl)
  have L35 : ∀ (n35 : Nat) (v35_1 : Int32) (f35_0_1 : Int32) (f35_0_20 : Int32) (H : Heap) (locs : List Loc) (ls : Array Slot) (w81 : va_W), 0 ≤ v35_1.toInt → v35_1.toInt ≤ 1 → 0 ≤ f35_0_1.toInt → f35_0_1.toInt ≤ 400 → 0 ≤ f35_0_20.toInt → f35_0_20.toInt ≤ 32 → (f35_0_20.toInt ≤ 32) → (2 * (32 - f35_0_20.toInt) + v35_1.toInt).toNat < n35 → Wd dC dI A s.heap H locs w81 → TW ksM ad cy B qr 12 w81 → FE ksM [(12, 1, 1), (12, 7, 7), (12, 8, 8), (12, 9, 9), (12, 10, 10), (12, 14, 14), (12, 15, 15), (12, 16, 16), (12, 18, 18), (12, 20, 20), (62, 0, 7), (65, 0, 120), (66, 0, 16), (67, 0, 12)] w0 w81 → gi w81 0 1 = f35_0_1 → gi w81 0 17 = 6 → gi w81 0 18 = 0 → gi w81 0 20 = f35_0_20 → gi w81 3 6 = 0 → lv_has ls 2 [(0, .ref (ad 0)), (1, .int v35_1)] → W p l e ({ frames := 6, cells := 0, slots := 0, locals := 128 }) s m (List.toArray [.ref (ad 0)]) below meth c H locs 0 0 (MQ below (va_Qi (P_X12_readsAll_1 ad cy B qr s1  w0) (fun u : va_W => wpost dC dI cy A u) A) (List.toArray [.ref (ad 0)]) s 0 0 A) (F0 m 35 ls []) := by
    intro n35
    induction n35 with
    | zero => intro v35_1 f35_0_1 f35_0_20 H locs ls w81 r82 t83 r84 t85 r89 t90 hcr35_0 hm35 hw hT hF c86 c87 c88 c91 c92 hl; omega
    | succ n35 ih35 =>
      intro v35_1 f35_0_1 f35_0_20 H locs ls w81 r82 t83 r84 t85 r89 t90 hcr35_0 hm35 hw hT hF c86 c87 c88 c91 c92 hl
      refine lv_iload_n hx hb dX12_readsAll_35 rfl (lv_at hl 1 rfl) ?_
      refine lv_if_eq (tgt := 66) hx hb dX12_readsAll_36 (by decide) (fun c93 => ?_) (fun c93 => ?_)
      · have c93 : v35_1.toInt = (0 : Int) := wk_eq.mp c93
        exact J66 v35_1 f35_0_1 f35_0_20 H locs ls w81 (show 0 ≤ v35_1.toInt by omega) (show v35_1.toInt ≤ 1 by omega) (show 0 ≤ f35_0_1.toInt by omega) (show f35_0_1.toInt ≤ 400 by omega) (show 0 ≤ f35_0_20.toInt by omega) (show f35_0_20.toInt ≤ 32 by omega) (show f35_0_20.toInt ≤ 32 by omega)  hw hT hF c86 c87 c88 c91 c92 (lv_sub hl [0, 1] rfl)
      · have c93 : ¬ v35_1.toInt = (0 : Int) := wk_eqF c93
        refine lv_aload_n hx hb dX12_readsAll_39 rfl (lv_at hl 0 rfl) ?_
        obtain ⟨x94, c95, rx94, tx94⟩ := hT.rdi (lo := 0) (hi := 400) (k := 14) kM_at0 (by decide) rfl
        refine tk_Vi hC hK hw hT hA hE hSR kM_at0 (by decide) rfl (k_X12_see_1 l adK adV dC dI cy ad B (by omega) (by omega) qr s1    w81 H.size hT x94 c95 (show 0 ≤ x94.toInt by omega) (show x94.toInt ≤ 400 by omega)) (cwV 0 hC.2.2.2.2 gX12_readsAll_X12_see rfl rfl rfl (by decide +kernel) ⟨Nat.le_of_ble_eq_true rfl, Nat.le_of_ble_eq_true rfl⟩) rfl hl.1 rfl (Nat.le_of_ble_eq_true rfl) dX12_readsAll_40 (fun r96 w98 H locs hp97 hw => ?_)
        obtain ⟨hT, k99, hg116⟩ := hp97
        have hF := hF.tr k99 (by decide)
        have c117 := k99.gi kM_at0 (by decide) c86
        have c118 := k99.gi kM_at0 (by decide) c87
        have c119 := k99.gi kM_at0 (by decide) c88
        have c120 := k99.gi kM_at0 (by decide) c91
        have c121 := k99.gi kM_at3 (by decide) c92
        rcases hg116 with ⟨g100, g101, ⟨x102, c103, rx102, tx102⟩, ⟨x104, c105, rx104, tx104⟩, g106, g107⟩ | ⟨rfl, ⟨x108, c109, rx108, tx108⟩, ⟨x110, c111, rx110, tx110⟩, g112⟩ | ⟨rfl, ⟨x113, c114, rx113, tx113⟩, g115⟩
        · have ex102 : x102.toInt = f35_0_1.toInt := by rw [← c117.symm.trans c103]
          have g106 : (gi w98 1 (x104.toInt).toNat).toInt ≠ 32 := by have q := g106; simp only [c105] at q; omega
          have g107 : (x104.toInt = x94.toInt ∨ (gi w81 1 (x94.toInt).toNat).toInt = 32) := by have q := g107; simp only [c95, c105] at q; omega
          refine lv_bipush (v := 59) hx hb dX12_readsAll_43 (by decide) ?_
          refine lv_icmp_ne (tgt := 66) hx hb dX12_readsAll_45 (by decide) (fun c124 => ?_) (fun c124 => ?_)
          · have c124 : ¬ r96.toInt = (59 : Int) := wk_eqF c124
            exact J66 v35_1 f35_0_1 f35_0_20 H locs ls w98 (show 0 ≤ v35_1.toInt by omega) (show v35_1.toInt ≤ 1 by omega) (show 0 ≤ f35_0_1.toInt by omega) (show f35_0_1.toInt ≤ 400 by omega) (show 0 ≤ f35_0_20.toInt by omega) (show f35_0_20.toInt ≤ 32 by omega) (show f35_0_20.toInt ≤ 32 by omega)  hw hT hF c117 c118 c119 c120 c121 (lv_sub hl [0, 1] rfl)
          · have c124 : r96.toInt = (59 : Int) := wk_eq.mp c124
            refine lv_aload_n hx hb dX12_readsAll_48 rfl (lv_at hl 0 rfl) ?_
            refine lv_dup hx hb dX12_readsAll_49 rfl ?_
            refine tk_geti hC hK hw hT hinX12 kM_at0 (by decide) rfl 14 (by decide) (List.mem_of_getElem? (i := 4) rfl) rfl rfl dX12_readsAll_50 (fun x125 c126 rx125 tx125 => ?_)
            refine wk_top x104 (c126.symm.trans c105) ?_
            refine lv_iconst (v := 1) hx hb dX12_readsAll_53 (by decide) ?_
            refine lv_iadd hx hb dX12_readsAll_54 ?_
            refine lv_topi (fun x127 ex127 => ?_)
            have ex127 : x127.toInt = x104.toInt + (1 : Int) := by rw [ex127]; exact wk_add (show (-2147483648) ≤ x104.toInt + (1 : Int) by omega) (show x104.toInt + (1 : Int) ≤ 2147483647 by omega)
            refine tk_puti hC hK hw hT hinX12 tyX12_ok nmX12 kM_at0 (by decide) rfl rfl 14 (by decide) (List.mem_of_getElem? (i := 4) rfl) rfl rfl rfl rfl (show 0 ≤ x127.toInt by omega) (show x127.toInt ≤ 400 by omega) dX12_readsAll_55 (fun H locs w128 hw hT k130 c129 => ?_)
            have hF := hF.put kM_at0 (k := 14) (by decide) k130
            have c131 := k130.gi (Or.inr (by decide)) c117
            have c132 := k130.gi (Or.inr (by decide)) c118
            have c133 := k130.gi (Or.inr (by decide)) c119
            have c134 := k130.gi (Or.inr (by decide)) c120
            have c135 := k130.gi (Or.inr (by decide)) c121
            refine lv_aload_n hx hb dX12_readsAll_58 rfl (lv_at hl 0 rfl) ?_
            refine tk_Vi hC hK hw hT hA hE hSR kM_at0 (by decide) rfl (k_X12_clauseHere_1 l adK adV dC dI cy ad B (by omega) (by omega) qr s1    w128 H.size hT c132 f35_0_20 c134 (show 0 ≤ f35_0_20.toInt by omega) (show f35_0_20.toInt ≤ 32 by omega)) (cwV 0 hC.2.2.2.2 gX12_readsAll_X12_clauseHere rfl rfl rfl (by decide +kernel) ⟨Nat.le_of_ble_eq_true rfl, Nat.le_of_ble_eq_true rfl⟩) rfl hl.1 rfl (Nat.le_of_ble_eq_true rfl) dX12_readsAll_59 (fun r136 w138 H locs hp137 hw => ?_)
            obtain ⟨hT, k139, hg169⟩ := hp137
            have hF := hF.tr k139 (by decide)
            have c170 := k139.gi kM_at0 (by decide) c131
            have c171 := k139.gi kM_at0 (by decide) c132
            have c172 := k139.gi kM_at0 (by decide) c133
            have c173 := k139.gi kM_at3 (by decide) c135
            rcases hg169 with ⟨rfl, ⟨x140, c141, rx140, tx140⟩, ⟨x142, c143, rx142, tx142⟩, ⟨x144, c145, rx144, tx144⟩, ⟨x146, c147, rx146, tx146⟩, g148⟩ | ⟨rfl, ⟨x149, c150, rx149, tx149⟩, ⟨x151, c152, rx151, tx151⟩, ⟨x153, c154, rx153, tx153⟩, ⟨x155, c156, rx155, tx155⟩, g157⟩ | ⟨rfl, ⟨x158, c159, rx158, tx158⟩, ⟨x160, c161, rx160, tx160⟩, ⟨x162, c163, rx162, tx162⟩, ⟨x164, c165, rx164, tx164⟩, ⟨x166, c167, rx166, tx166⟩, g168⟩
            · have ex140 : x140.toInt = f35_0_1.toInt := by rw [← c170.symm.trans c141]
              have ex144 : x144.toInt = (6 : Int) := by rw [show x144 = 6 from c145.symm.trans c171]; decide
              have g148 : f35_0_20.toInt ≤ x146.toInt := by have q := g148; simp only [c134, c147] at q; omega
              refine lv_istore_n (lv' := [(1, .int 0), (0, .ref (ad 0))]) hx hb dX12_readsAll_62 rfl hl (by decide) rfl (fun ls hl => ?_)
              refine lv_goto (tgt := 35) hx hb dX12_readsAll_63 (by decide) ?_
              exact ih35 0 f35_0_1 x146 H locs ls w138 (by decide) (by decide) (show 0 ≤ f35_0_1.toInt by omega) (show f35_0_1.toInt ≤ 400 by omega) (show 0 ≤ x146.toInt by omega) (show x146.toInt ≤ 32 by omega) (show x146.toInt ≤ 32 by omega) (show (2 * (32 - x146.toInt) + (0 : Int)).toNat < n35 by omega) hw hT hF c170 c171 c172 c147 c173 (lv_sub hl [1, 0] rfl)
            · have ex149 : x149.toInt = f35_0_1.toInt := by rw [← c170.symm.trans c150]
              have ex153 : x153.toInt = (6 : Int) := by rw [show x153 = 6 from c154.symm.trans c171]; decide
              have g157 : f35_0_20.toInt ≤ x155.toInt := by have q := g157; simp only [c134, c156] at q; omega
              refine lv_istore_n (lv' := [(1, .int 0), (0, .ref (ad 0))]) hx hb dX12_readsAll_62 rfl hl (by decide) rfl (fun ls hl => ?_)
              refine lv_goto (tgt := 35) hx hb dX12_readsAll_63 (by decide) ?_
              exact ih35 0 f35_0_1 x155 H locs ls w138 (by decide) (by decide) (show 0 ≤ f35_0_1.toInt by omega) (show f35_0_1.toInt ≤ 400 by omega) (show 0 ≤ x155.toInt by omega) (show x155.toInt ≤ 32 by omega) (show x155.toInt ≤ 32 by omega) (show (2 * (32 - x155.toInt) + (0 : Int)).toNat < n35 by omega) hw hT hF c170 c171 c172 c156 c173 (lv_sub hl [1, 0] rfl)
            · have ex158 : x158.toInt = f35_0_1.toInt := by rw [← c170.symm.trans c159]
              have ex164 : x164.toInt = (6 : Int) := by rw [show x164 = 6 from c165.symm.trans c171]; decide
              have g168 : x166.toInt = f35_0_20.toInt + 1 := by have q := g168; simp only [c134, c167] at q; omega
              refine lv_istore_n (lv' := [(1, .int 1), (0, .ref (ad 0))]) hx hb dX12_readsAll_62 rfl hl (by decide) rfl (fun ls hl => ?_)
              refine lv_goto (tgt := 35) hx hb dX12_readsAll_63 (by decide) ?_
              exact ih35 1 f35_0_1 x166 H locs ls w138 (by decide) (by decide) (show 0 ≤ f35_0_1.toInt by omega) (show f35_0_1.toInt ≤ 400 by omega) (show 0 ≤ x166.toInt by omega) (show x166.toInt ≤ 32 by omega) (show x166.toInt ≤ 32 by omega) (show (2 * (32 - x166.toInt) + (1 : Int)).toNat < n35 by omega) hw hT hF c170 c171 c172 c167 c173 (lv_sub hl [1, 0] rfl)
        · have ex108 : x108.toInt = f35_0_1.toInt := by rw [← c117.symm.trans c109]
          have g112 : (x110.toInt = x94.toInt ∨ (gi w81 1 (x94.toInt).toNat).toInt = 32) := by have q := g112; simp only [c95, c111] at q; omega
          refine lv_bipush (v := 59) hx hb dX12_readsAll_43 (by decide) ?_
          refine lv_icmp_ne (tgt := 66) hx hb dX12_readsAll_45 (by decide) (fun _ => ?_) (fun c => absurd c (by decide))
          exact J66 v35_1 f35_0_1 f35_0_20 H locs ls w98 (show 0 ≤ v35_1.toInt by omega) (show v35_1.toInt ≤ 1 by omega) (show 0 ≤ f35_0_1.toInt by omega) (show f35_0_1.toInt ≤ 400 by omega) (show 0 ≤ f35_0_20.toInt by omega) (show f35_0_20.toInt ≤ 32 by omega) (show f35_0_20.toInt ≤ 32 by omega)  hw hT hF c117 c118 c119 c120 c121 (lv_sub hl [0, 1] rfl)
        · have ex113 : x113.toInt = f35_0_1.toInt := by rw [← c117.symm.trans c114]
          obtain ⟨x122, c123, rx122, tx122⟩ := hT.rdi (lo := 0) (hi := 400) (k := 14) kM_at0 (by decide) rfl
          have g115 : (x122.toInt = x94.toInt ∨ (gi w81 1 (x94.toInt).toNat).toInt = 32) := by have q := g115; simp only [c95, c123] at q; omega
          refine lv_bipush (v := 59) hx hb dX12_readsAll_43 (by decide) ?_
          refine lv_icmp_ne (tgt := 66) hx hb dX12_readsAll_45 (by decide) (fun _ => ?_) (fun c => absurd c (by decide))
          exact J66 v35_1 f35_0_1 f35_0_20 H locs ls w98 (show 0 ≤ v35_1.toInt by omega) (show v35_1.toInt ≤ 1 by omega) (show 0 ≤ f35_0_1.toInt by omega) (show f35_0_1.toInt ≤ 400 by omega) (show 0 ≤ f35_0_20.toInt by omega) (show f35_0_20.toInt ≤ 32 by omega) (show f35_0_20.toInt ≤ 32 by omega)  hw hT hF c117 c118 c119 c120 c121 (lv_sub hl [0, 1] rfl)
  refine lv_aload_n hx hb dX12_readsAll_0 rfl (lv_at hl 0 rfl) ?_
  refine tk_getA hC hK hw hT hinX12 kM_at0 (by decide) rfl 4 (by decide) (List.mem_of_getElem? (i := 1) rfl) rfl rfl dX12_readsAll_1 ?_
  refine lv_aload_n hx hb dX12_readsAll_4 rfl (lv_at hl 0 rfl) ?_
  refine tk_geti hC hK hw hT hinX12 kM_at0 (by decide) rfl 17 (by decide) (List.mem_of_getElem? (i := 2) rfl) rfl rfl dX12_readsAll_5 (fun x174 c175 rx174 tx174 => ?_)
  refine wk_top 6 (c175.symm.trans cf0_) ?_
  refine lv_iconst (v := 0) hx hb dX12_readsAll_8 (by decide) ?_
  refine tk_iast hC hK hw hT kM_at3 (by decide) rfl rfl (by decide) (by decide) (by decide) (by decide) dX12_readsAll_9 (fun H locs w176 hw hT k178 c177 => ?_)
  have hF := hF.put kM_at3 (inE_of (a := 0) (b := 7) (by decide) (by decide) (by decide)) k178
  have c179 := k178.gi (Or.inl (tk_ne kM_at0 kM_at3 (by decide))) cf0_
  have c180 := k178.gi (Or.inl (tk_ne kM_at0 kM_at3 (by decide))) cf1_
  have c177 : gi w176 3 6 = 0 := c177
  refine lv_aload_n hx hb dX12_readsAll_10 rfl (lv_at hl 0 rfl) ?_
  refine lv_iconst (v := 0) hx hb dX12_readsAll_11 (by decide) ?_
  refine tk_puti hC hK hw hT hinX12 tyX12_ok nmX12 kM_at0 (by decide) rfl rfl 20 (by decide) (List.mem_of_getElem? (i := 3) rfl) rfl rfl rfl rfl (by decide) (by decide) dX12_readsAll_12 (fun H locs w181 hw hT k183 c182 => ?_)
  have hF := hF.put kM_at0 (k := 20) (by decide) k183
  have c184 := k183.gi (Or.inr (by decide)) c179
  have c185 := k183.gi (Or.inr (by decide)) c177
  refine lv_aload_n hx hb dX12_readsAll_15 rfl (lv_at hl 0 rfl) ?_
  refine lv_iconst (v := 0) hx hb dX12_readsAll_16 (by decide) ?_
  refine tk_puti hC hK hw hT hinX12 tyX12_ok nmX12 kM_at0 (by decide) rfl rfl 14 (by decide) (List.mem_of_getElem? (i := 4) rfl) rfl rfl rfl rfl (by decide) (by decide) dX12_readsAll_17 (fun H locs w186 hw hT k188 c187 => ?_)
  have hF := hF.put kM_at0 (k := 14) (by decide) k188
  have c189 := k188.gi (Or.inr (by decide)) c184
  have c190 := k188.gi (Or.inr (by decide)) c185
  have c191 := k188.gi (Or.inr (by decide)) c182
  refine lv_aload_n hx hb dX12_readsAll_20 rfl (lv_at hl 0 rfl) ?_
  refine lv_iconst (v := 0) hx hb dX12_readsAll_21 (by decide) ?_
  refine tk_puti hC hK hw hT hinX12 tyX12_ok nmX12 kM_at0 (by decide) rfl rfl 15 (by decide) (List.mem_of_getElem? (i := 5) rfl) rfl rfl rfl rfl (by decide) (by decide) dX12_readsAll_22 (fun H locs w192 hw hT k194 c193 => ?_)
  have hF := hF.put kM_at0 (k := 15) (by decide) k194
  have c195 := k194.gi (Or.inr (by decide)) c189
  have c196 := k194.gi (Or.inr (by decide)) c190
  have c197 := k194.gi (Or.inr (by decide)) c191
  have c198 := k194.gi (Or.inr (by decide)) c187
  refine lv_aload_n hx hb dX12_readsAll_25 rfl (lv_at hl 0 rfl) ?_
  refine lv_iconst (v := 0) hx hb dX12_readsAll_26 (by decide) ?_
  refine tk_puti hC hK hw hT hinX12 tyX12_ok nmX12 kM_at0 (by decide) rfl rfl 18 (by decide) (List.mem_of_getElem? (i := 6) rfl) rfl rfl rfl rfl (by decide) (by decide) dX12_readsAll_27 (fun H locs w199 hw hT k201 c200 => ?_)
  have hF := hF.put kM_at0 (k := 18) (by decide) k201
  have c202 := k201.gi (Or.inr (by decide)) c195
  have c203 := k201.gi (Or.inr (by decide)) c196
  have c204 := k201.gi (Or.inr (by decide)) c197
  have c205 := k201.gi (Or.inr (by decide)) c198
  have c206 := k201.gi (Or.inr (by decide)) c193
  refine lv_aload_n hx hb dX12_readsAll_30 rfl (lv_at hl 0 rfl) ?_
  refine tk_Vi hC hK hw hT hA hE hSR kM_at0 (by decide) rfl (k_X12_clauseHere_1 l adK adV dC dI cy ad B (by omega) (by omega) qr s1    w199 H.size hT c202 0 c204 (by decide) (by decide)) (cwV 0 hC.2.2.2.2 gX12_readsAll_X12_clauseHere rfl rfl rfl (by decide +kernel) ⟨Nat.le_of_ble_eq_true rfl, Nat.le_of_ble_eq_true rfl⟩) rfl hl.1 rfl (Nat.le_of_ble_eq_true rfl) dX12_readsAll_31 (fun r207 w209 H locs hp208 hw => ?_)
  obtain ⟨hT, k210, hg240⟩ := hp208
  have hF := hF.tr k210 (by decide)
  have c241 := k210.gi kM_at0 (by decide) c202
  have c242 := k210.gi kM_at3 (by decide) c203
  have c243 := k210.gi kM_at0 (by decide) c200
  rcases hg240 with ⟨rfl, ⟨x211, c212, rx211, tx211⟩, ⟨x213, c214, rx213, tx213⟩, ⟨x215, c216, rx215, tx215⟩, ⟨x217, c218, rx217, tx217⟩, g219⟩ | ⟨rfl, ⟨x220, c221, rx220, tx220⟩, ⟨x222, c223, rx222, tx222⟩, ⟨x224, c225, rx224, tx224⟩, ⟨x226, c227, rx226, tx226⟩, g228⟩ | ⟨rfl, ⟨x229, c230, rx229, tx229⟩, ⟨x231, c232, rx231, tx231⟩, ⟨x233, c234, rx233, tx233⟩, ⟨x235, c236, rx235, tx235⟩, ⟨x237, c238, rx237, tx237⟩, g239⟩
  · have ex215 : x215.toInt = (6 : Int) := by rw [show x215 = 6 from c216.symm.trans c241]; decide
    have g219 : (0 : Int) ≤ x217.toInt := by have q := g219; simp only [c204, (show (0 : Int32).toInt = 0 by decide), c218] at q; omega
    refine lv_istore_n (lv' := [(1, .int 0), (0, .ref (ad 0))]) hx hb dX12_readsAll_34 rfl hl (by decide) rfl (fun ls hl => ?_)
    exact L35 ((2 * (32 - x217.toInt) + (0 : Int)).toNat + 1) 0 x211 x217 H locs ls w209 (by decide) (by decide) (show 0 ≤ x211.toInt by omega) (show x211.toInt ≤ 400 by omega) (show 0 ≤ x217.toInt by omega) (show x217.toInt ≤ 32 by omega) (show x217.toInt ≤ 32 by omega) (Nat.lt_succ_self _) hw hT hF c212 c241 c243 c218 c242 (lv_sub hl [1, 0] rfl)
  · have ex224 : x224.toInt = (6 : Int) := by rw [show x224 = 6 from c225.symm.trans c241]; decide
    have g228 : (0 : Int) ≤ x226.toInt := by have q := g228; simp only [c204, (show (0 : Int32).toInt = 0 by decide), c227] at q; omega
    refine lv_istore_n (lv' := [(1, .int 0), (0, .ref (ad 0))]) hx hb dX12_readsAll_34 rfl hl (by decide) rfl (fun ls hl => ?_)
    exact L35 ((2 * (32 - x226.toInt) + (0 : Int)).toNat + 1) 0 x220 x226 H locs ls w209 (by decide) (by decide) (show 0 ≤ x220.toInt by omega) (show x220.toInt ≤ 400 by omega) (show 0 ≤ x226.toInt by omega) (show x226.toInt ≤ 32 by omega) (show x226.toInt ≤ 32 by omega) (Nat.lt_succ_self _) hw hT hF c221 c241 c243 c227 c242 (lv_sub hl [1, 0] rfl)
  · have ex235 : x235.toInt = (6 : Int) := by rw [show x235 = 6 from c236.symm.trans c241]; decide
    have g239 : x237.toInt = (0 : Int) + 1 := by have q := g239; simp only [c204, (show (0 : Int32).toInt = 0 by decide), c238] at q; omega
    refine lv_istore_n (lv' := [(1, .int 1), (0, .ref (ad 0))]) hx hb dX12_readsAll_34 rfl hl (by decide) rfl (fun ls hl => ?_)
    exact L35 ((2 * (32 - x237.toInt) + (1 : Int)).toNat + 1) 1 x229 x237 H locs ls w209 (by decide) (by decide) (show 0 ≤ x229.toInt by omega) (show x229.toInt ≤ 400 by omega) (show 0 ≤ x237.toInt by omega) (show x237.toInt ≤ 32 by omega) (show x237.toInt ≤ 32 by omega) (Nat.lt_succ_self _) hw hT hF c230 c241 c243 c238 c242 (lv_sub hl [1, 0] rfl)
