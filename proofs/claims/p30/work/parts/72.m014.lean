abbrev P_X12_in_10 (ad : Nat → Nat) (cy : Nat → ClassId) (B : Int) (qr : Nat) (s1 : Int) (a0 : Int64) (w0 : va_W) : Int32 → va_W → Prop := fun r u => w0 = u ∧ ((r = 0) ∨ (r = 1 ∧ 0 ≤ a0.toInt ∧ a0.toInt ≤ 6))
set_option maxHeartbeats 4000000 in
set_option maxRecDepth 100000 in
theorem k_X12_in_10 (l : Launch) (adK adV : Nat → Nat) (dC : Nat → ClassId) (dI : Nat → Nat → Nat) (cy : Nat → ClassId) (ad : Nat → Nat) (B : Int) (hB0 : 100000 ≤ B) (hB1 : B ≤ 1073741824) (qr : Nat) (s1 : Int)  (a0 : Int64) (ra0 : (-2147483648) ≤ a0.toInt) (ta0 : a0.toInt ≤ 2147483647) (w0 : va_W) (sz : Nat) (hT : TW ksM ad cy B qr 12 w0)  : Met l yX12_in (wu yX12_in cX12_in 6 (some .boolean)) ({ frames := 1, cells := 0, slots := 0, locals := 12 }) (va_Pc [.long a0, .long 0, .long 6] (wpreS adK adV dC dI cy sz w0)) (va_Qi (P_X12_in_10 ad cy B qr s1 a0 w0) (fun u : va_W => wpost dC dI cy (va_A w0 sz) u) (va_A w0 sz)) 0 0 (va_A w0 sz) := by
  refine Met.ofW (cc := cX12_in) (maxL := 6) (ret := (some .boolean)) (by decide) rfl ?_
  intro p e s m args below meth c s₁ Bk hml hv
  obtain ⟨rfl, ⟨hsz, hP, hK, hD0⟩, hE, hSR⟩ := hv
  have hx := Bk.exec
  have hb := Bk.bytes
  have hr := Bk.returns
  have hlocks := Bk.notSynchronized
  have hC : CallFix p m c cX12_in 6 s _ (wu yX12_in cX12_in 6 (some .boolean)) RX12 := ⟨hx, hb, hml, findClass_of_methodNamed Bk.named, atoms_spec (ws := (wu yX12_in cX12_in 6 (some .boolean))) Bk.pre⟩
  subst hsz
  have hD := hD0.self (sz := s.heap.size)
  generalize hAe : va_A w0 s.heap.size = A at hD hE ⊢
  have hA : ∀ q : Nat, s.heap.size ≤ q → A q := fun q h => by rw [← hAe]; exact Or.inr h
  have hw : Wd dC dI A s.heap s.heap [] w0 := ⟨hP, hD, va_S.rf⟩
  have hF : FE ksM ([] : List (Nat × Nat × Nat)) w0 w0 := FE.rf
  have hl := lv_entry ([.long a0, .long 0, .long 6]) (n := 6) (Nat.le_of_ble_eq_true rfl)
  rw [lg_entry_eq]
  generalize (lg_sl ([.long a0, .long 0, .long 6]) ++ List.replicate (6 - (lg_sl ([.long a0, .long 0, .long 6])).length) Slot.unset).toArray = ls at hl ⊢
  have hl : lv_has ls 6 [(0, .long a0), (2, .long 0), (4, .long 6)] := hl
  generalize hloc : ([] : List Loc) = locs at hw ⊢
  have J17 : ∀ (H : Heap) (locs : List Loc) (ls : Array Slot), (-2147483648) ≤ a0.toInt → a0.toInt ≤ 2147483647 → Wd dC dI A s.heap H locs w0 → lv_has ls 6 [(0, .long a0), (2, .long 0), (4, .long 6)] → W p l e ({ frames := 1, cells := 0, slots := 0, locals := 12 }) s m (List.toArray [.long a0, .long 0, .long 6]) below meth c H locs 0 0 (MQ below (va_Qi (P_X12_in_10 ad cy B qr s1 a0 w0) (fun u : va_W => wpost dC dI cy A u) A) (List.toArray [.long a0, .long 0, .long 6]) s 0 0 A) (F0 m 17 ls []) := by
    intro H locs ls r1 t2 hw hl
    refine lv_iconst (v := 0) hx hb dX12_in_17 (by decide) ?_
    exact tk_zret hC hr rfl hlocks hK ⟨rfl, (Or.inl rfl)⟩ hw dX12_in_18
  refine lv_lload_n hx hb dX12_in_0 rfl (lv_at hl 0 rfl) ?_
  refine lv_lload_n hx hb dX12_in_1 rfl (lv_at hl 1 rfl) ?_
  refine W.lcmp hx hb dX12_in_2 ?_
  refine lv_if_lt (tgt := 17) hx hb dX12_in_3 (by decide) (fun c3 => ?_) (fun c3 => ?_)
  · have c3 : a0.toInt < (0 : Int) := wk_cltT c3
    exact J17  s.heap locs ls  (show (-2147483648) ≤ a0.toInt from ra0) (show a0.toInt ≤ 2147483647 from ta0)  hw   (lv_sub hl [0, 1, 2] rfl)
  · have c3 : (0 : Int) ≤ a0.toInt := wk_cltF c3
    refine lv_lload_n hx hb dX12_in_6 rfl (lv_at hl 0 rfl) ?_
    refine lv_lload hx hb dX12_in_7 (lv_at hl 2 rfl) ?_
    refine W.lcmp hx hb dX12_in_9 ?_
    refine lv_if_gt (tgt := 17) hx hb dX12_in_10 (by decide) (fun c4 => ?_) (fun c4 => ?_)
    · have c4 : (6 : Int) < a0.toInt := wk_cgtT c4
      exact J17  s.heap locs ls  (show (-2147483648) ≤ a0.toInt from ra0) (show a0.toInt ≤ 2147483647 from ta0)  hw   (lv_sub hl [0, 1, 2] rfl)
    · have c4 : a0.toInt ≤ (6 : Int) := wk_cgtF c4
      refine lv_iconst (v := 1) hx hb dX12_in_13 (by decide) ?_
      refine lv_goto (tgt := 18) hx hb dX12_in_14 (by decide) ?_
      exact tk_zret hC hr rfl hlocks hK ⟨rfl, (Or.inr ⟨rfl, (show 0 ≤ a0.toInt from c3), (show a0.toInt ≤ 6 from c4)⟩)⟩ hw dX12_in_18
abbrev P_X12_isTown_1 (ad : Nat → Nat) (cy : Nat → ClassId) (B : Int) (qr : Nat) (s1 : Int)  (w0 : va_W) : Int32 → va_W → Prop := fun r u => w0 = u ∧ ((r = 0 ∧ (∃ y : Int32, gi u 12 0 = y ∧ 0 ≤ y.toInt ∧ y.toInt ≤ 0)) ∨ (r = 1 ∧ (∃ y : Int32, gi u 12 0 = y ∧ 1 ≤ y.toInt ∧ y.toInt ≤ 10)))
set_option maxHeartbeats 4000000 in
set_option maxRecDepth 100000 in
theorem k_X12_isTown_1 (l : Launch) (adK adV : Nat → Nat) (dC : Nat → ClassId) (dI : Nat → Nat → Nat) (cy : Nat → ClassId) (ad : Nat → Nat) (B : Int) (hB0 : 100000 ≤ B) (hB1 : B ≤ 1073741824) (qr : Nat) (s1 : Int)   (w0 : va_W) (sz : Nat) (hT : TW ksM ad cy B qr 12 w0)  : Met l yX12_isTown (wu yX12_isTown cX12_isTown 1 (some .boolean)) ({ frames := 1, cells := 0, slots := 0, locals := 12 }) (va_Pc [.ref (ad 0)] (wpreS adK adV dC dI cy sz w0)) (va_Qi (P_X12_isTown_1 ad cy B qr s1  w0) (fun u : va_W => wpost dC dI cy (va_A w0 sz) u) (va_A w0 sz)) 0 0 (va_A w0 sz) := by
  refine Met.ofW (cc := cX12_isTown) (maxL := 1) (ret := (some .boolean)) (by decide) rfl ?_
  intro p e s m args below meth c s₁ Bk hml hv
  obtain ⟨rfl, ⟨hsz, hP, hK, hD0⟩, hE, hSR⟩ := hv
  have hx := Bk.exec
  have hb := Bk.bytes
  have hr := Bk.returns
  have hlocks := Bk.notSynchronized
  have hC : CallFix p m c cX12_isTown 1 s _ (wu yX12_isTown cX12_isTown 1 (some .boolean)) RX12 := ⟨hx, hb, hml, findClass_of_methodNamed Bk.named, atoms_spec (ws := (wu yX12_isTown cX12_isTown 1 (some .boolean))) Bk.pre⟩
  subst hsz
  have hD := hD0.self (sz := s.heap.size)
  generalize hAe : va_A w0 s.heap.size = A at hD hE ⊢
  have hA : ∀ q : Nat, s.heap.size ≤ q → A q := fun q h => by rw [← hAe]; exact Or.inr h
  have hw : Wd dC dI A s.heap s.heap [] w0 := ⟨hP, hD, va_S.rf⟩
  have hF : FE ksM ([] : List (Nat × Nat × Nat)) w0 w0 := FE.rf
  have hl := lv_entry ([.ref (ad 0)]) (n := 1) (Nat.le_of_ble_eq_true rfl)
  rw [lg_entry_eq]
  generalize (lg_sl ([.ref (ad 0)]) ++ List.replicate (1 - (lg_sl ([.ref (ad 0)])).length) Slot.unset).toArray = ls at hl ⊢
  have hl : lv_has ls 1 [(0, .ref (ad 0))] := hl
  generalize hloc : ([] : List Loc) = locs at hw ⊢
  have hinX12 : ∀ w ∈ u_ws RX12 TX12 42, w ∈ (wu yX12_isTown cX12_isTown 1 (some .boolean)) := fun _ h => List.mem_cons_of_mem _ (up_71 h)
  refine lv_aload_n hx hb dX12_isTown_0 rfl (lv_at hl 0 rfl) ?_
  refine tk_getA hC hK hw hT hinX12 kM_at0 (by decide) rfl 26 (by decide) (List.mem_cons_of_mem _ uw_7_1) rfl rfl dX12_isTown_1 ?_
  refine lv_iconst (v := 0) hx hb dX12_isTown_4 (by decide) ?_
  refine tk_ialdR hC hK hw hT kM_at12 rfl (by decide) (by decide) dX12_isTown_5 (fun x1 c2 Ex1 => ?_)
  have bx1 := tk_rgI rfl 0 1 1 0 10 (by decide +kernel) ⟨0, by decide, by decide⟩ Ex1
  have c2 : gi w0 12 0 = x1 := c2
  refine lv_if_le (tgt := 13) hx hb dX12_isTown_6 (by decide) (fun c3 => ?_) (fun c3 => ?_)
  · have c3 : x1.toInt ≤ (0 : Int) := wk_le.mp c3
    refine lv_iconst (v := 0) hx hb dX12_isTown_13 (by decide) ?_
    exact tk_zret hC hr rfl hlocks hK ⟨rfl, (Or.inl ⟨rfl, ⟨x1, c2, (show 0 ≤ x1.toInt by first | with_reducible assumption | omega), (show x1.toInt ≤ 0 from c3)⟩⟩)⟩ hw dX12_isTown_14
  · have c3 : (0 : Int) < x1.toInt := wk_leF c3
    refine lv_iconst (v := 1) hx hb dX12_isTown_9 (by decide) ?_
    refine lv_goto (tgt := 14) hx hb dX12_isTown_10 (by decide) ?_
    exact tk_zret hC hr rfl hlocks hK ⟨rfl, (Or.inr ⟨rfl, ⟨x1, c2, (show 1 ≤ x1.toInt by first | with_reducible assumption | omega), (show x1.toInt ≤ 10 by first | with_reducible assumption | omega)⟩⟩)⟩ hw dX12_isTown_14
abbrev P_X12_isMap_1 (ad : Nat → Nat) (cy : Nat → ClassId) (B : Int) (qr : Nat) (s1 : Int) (a1 : Int32) (w0 : va_W) : Int32 → va_W → Prop := fun r u => w0 = u ∧ ((r = 0) ∨ (r = 1 ∧ 0 ≤ a1.toInt ∧ a1.toInt ≤ 3 ∧ (∃ y : Int32, gi u 12 4 = y ∧ 1 ≤ y.toInt ∧ y.toInt ≤ 4)))
set_option maxHeartbeats 4000000 in
set_option maxRecDepth 100000 in
theorem k_X12_isMap_1 (l : Launch) (adK adV : Nat → Nat) (dC : Nat → ClassId) (dI : Nat → Nat → Nat) (cy : Nat → ClassId) (ad : Nat → Nat) (B : Int) (hB0 : 100000 ≤ B) (hB1 : B ≤ 1073741824) (qr : Nat) (s1 : Int)  (a1 : Int32) (w0 : va_W) (sz : Nat) (hT : TW ksM ad cy B qr 12 w0)  : Met l yX12_isMap (wu yX12_isMap cX12_isMap 2 (some .boolean)) ({ frames := 1, cells := 0, slots := 0, locals := 12 }) (va_Pc [.ref (ad 0), .int a1] (wpreS adK adV dC dI cy sz w0)) (va_Qi (P_X12_isMap_1 ad cy B qr s1 a1 w0) (fun u : va_W => wpost dC dI cy (va_A w0 sz) u) (va_A w0 sz)) 0 0 (va_A w0 sz) := by
  refine Met.ofW (cc := cX12_isMap) (maxL := 2) (ret := (some .boolean)) (by decide) rfl ?_
  intro p e s m args below meth c s₁ Bk hml hv
  obtain ⟨rfl, ⟨hsz, hP, hK, hD0⟩, hE, hSR⟩ := hv
  have hx := Bk.exec
  have hb := Bk.bytes
  have hr := Bk.returns
  have hlocks := Bk.notSynchronized
  have hC : CallFix p m c cX12_isMap 2 s _ (wu yX12_isMap cX12_isMap 2 (some .boolean)) RX12 := ⟨hx, hb, hml, findClass_of_methodNamed Bk.named, atoms_spec (ws := (wu yX12_isMap cX12_isMap 2 (some .boolean))) Bk.pre⟩
  subst hsz
  have hD := hD0.self (sz := s.heap.size)
  generalize hAe : va_A w0 s.heap.size = A at hD hE ⊢
  have hA : ∀ q : Nat, s.heap.size ≤ q → A q := fun q h => by rw [← hAe]; exact Or.inr h
  have hw : Wd dC dI A s.heap s.heap [] w0 := ⟨hP, hD, va_S.rf⟩
  have hF : FE ksM ([] : List (Nat × Nat × Nat)) w0 w0 := FE.rf
  have hl := lv_entry ([.ref (ad 0), .int a1]) (n := 2) (Nat.le_of_ble_eq_true rfl)
  rw [lg_entry_eq]
  generalize (lg_sl ([.ref (ad 0), .int a1]) ++ List.replicate (2 - (lg_sl ([.ref (ad 0), .int a1])).length) Slot.unset).toArray = ls at hl ⊢
  have hl : lv_has ls 2 [(0, .ref (ad 0)), (1, .int a1)] := hl
  generalize hloc : ([] : List Loc) = locs at hw ⊢
  have hinX12 : ∀ w ∈ u_ws RX12 TX12 42, w ∈ (wu yX12_isMap cX12_isMap 2 (some .boolean)) := fun _ h => List.mem_cons_of_mem _ (up_71 h)
  have J18 : ∀ (H : Heap) (locs : List Loc) (ls : Array Slot), Wd dC dI A s.heap H locs w0 → lv_has ls 2 [(0, .ref (ad 0)), (1, .int a1)] → W p l e ({ frames := 1, cells := 0, slots := 0, locals := 12 }) s m (List.toArray [.ref (ad 0), .int a1]) below meth c H locs 0 0 (MQ below (va_Qi (P_X12_isMap_1 ad cy B qr s1 a1 w0) (fun u : va_W => wpost dC dI cy A u) A) (List.toArray [.ref (ad 0), .int a1]) s 0 0 A) (F0 m 18 ls []) := by
    intro H locs ls hw hl
    refine lv_iconst (v := 0) hx hb dX12_isMap_18 (by decide) ?_
    exact tk_zret hC hr rfl hlocks hK ⟨rfl, (Or.inl rfl)⟩ hw dX12_isMap_19
  refine lv_iload_n hx hb dX12_isMap_0 rfl (lv_at hl 1 rfl) ?_
  refine lv_if_lt (tgt := 18) hx hb dX12_isMap_1 (by decide) (fun c1 => ?_) (fun c1 => ?_)
  · have c1 : a1.toInt < (0 : Int) := wk_lt.mp c1
    exact J18  s.heap locs ls    hw   (lv_sub hl [0, 1] rfl)
  · have c1 : (0 : Int) ≤ a1.toInt := wk_ltF c1
    refine lv_iload_n hx hb dX12_isMap_4 rfl (lv_at hl 1 rfl) ?_
    refine lv_aload_n hx hb dX12_isMap_5 rfl (lv_at hl 0 rfl) ?_
    refine tk_getA hC hK hw hT hinX12 kM_at0 (by decide) rfl 26 (by decide) (List.mem_cons_of_mem _ uw_7_1) rfl rfl dX12_isMap_6 ?_
    refine lv_iconst (v := 4) hx hb dX12_isMap_9 (by decide) ?_
    refine tk_ialdR hC hK hw hT kM_at12 rfl (by decide) (by decide) dX12_isMap_10 (fun x2 c3 Ex2 => ?_)
    have bx2 := tk_rgI rfl 4 1 1 0 4 (by decide +kernel) ⟨0, by decide, by decide⟩ Ex2
    have c3 : gi w0 12 4 = x2 := c3
    refine lv_icmp_ge (tgt := 18) hx hb dX12_isMap_11 (by decide) (fun c4 => ?_) (fun c4 => ?_)
    · have c4 : x2.toInt ≤ a1.toInt := wk_le.mp c4
      exact J18  s.heap locs ls    hw   (lv_sub hl [0, 1] rfl)
    · have c4 : a1.toInt < x2.toInt := wk_leF c4
      refine lv_iconst (v := 1) hx hb dX12_isMap_14 (by decide) ?_
      refine lv_goto (tgt := 19) hx hb dX12_isMap_15 (by decide) ?_
      exact tk_zret hC hr rfl hlocks hK ⟨rfl, (Or.inr ⟨rfl, (show 0 ≤ a1.toInt from c1), (show a1.toInt ≤ 3 by first | with_reducible assumption | omega), ⟨x2, c3, (show 1 ≤ x2.toInt by first | with_reducible assumption | omega), (show x2.toInt ≤ 4 by first | with_reducible assumption | omega)⟩⟩)⟩ hw dX12_isMap_19
abbrev P_X12_in_12 (ad : Nat → Nat) (cy : Nat → ClassId) (B : Int) (qr : Nat) (s1 : Int) (a0 : Int64) (w0 : va_W) : Int32 → va_W → Prop := fun r u => w0 = u ∧ ((r = 0) ∨ (r = 1 ∧ 0 ≤ a0.toInt ∧ a0.toInt ≤ 1))
set_option maxHeartbeats 4000000 in
set_option maxRecDepth 100000 in
theorem k_X12_in_12 (l : Launch) (adK adV : Nat → Nat) (dC : Nat → ClassId) (dI : Nat → Nat → Nat) (cy : Nat → ClassId) (ad : Nat → Nat) (B : Int) (hB0 : 100000 ≤ B) (hB1 : B ≤ 1073741824) (qr : Nat) (s1 : Int)  (a0 : Int64) (ra0 : (-2147483648) ≤ a0.toInt) (ta0 : a0.toInt ≤ 2147483647) (w0 : va_W) (sz : Nat) (hT : TW ksM ad cy B qr 12 w0)  : Met l yX12_in (wu yX12_in cX12_in 6 (some .boolean)) ({ frames := 1, cells := 0, slots := 0, locals := 12 }) (va_Pc [.long a0, .long 0, .long 1] (wpreS adK adV dC dI cy sz w0)) (va_Qi (P_X12_in_12 ad cy B qr s1 a0 w0) (fun u : va_W => wpost dC dI cy (va_A w0 sz) u) (va_A w0 sz)) 0 0 (va_A w0 sz) := by
  refine Met.ofW (cc := cX12_in) (maxL := 6) (ret := (some .boolean)) (by decide) rfl ?_
  intro p e s m args below meth c s₁ Bk hml hv
  obtain ⟨rfl, ⟨hsz, hP, hK, hD0⟩, hE, hSR⟩ := hv
  have hx := Bk.exec
  have hb := Bk.bytes
  have hr := Bk.returns
  have hlocks := Bk.notSynchronized
  have hC : CallFix p m c cX12_in 6 s _ (wu yX12_in cX12_in 6 (some .boolean)) RX12 := ⟨hx, hb, hml, findClass_of_methodNamed Bk.named, atoms_spec (ws := (wu yX12_in cX12_in 6 (some .boolean))) Bk.pre⟩
  subst hsz
  have hD := hD0.self (sz := s.heap.size)
  generalize hAe : va_A w0 s.heap.size = A at hD hE ⊢
  have hA : ∀ q : Nat, s.heap.size ≤ q → A q := fun q h => by rw [← hAe]; exact Or.inr h
  have hw : Wd dC dI A s.heap s.heap [] w0 := ⟨hP, hD, va_S.rf⟩
  have hF : FE ksM ([] : List (Nat × Nat × Nat)) w0 w0 := FE.rf
  have hl := lv_entry ([.long a0, .long 0, .long 1]) (n := 6) (Nat.le_of_ble_eq_true rfl)
  rw [lg_entry_eq]
  generalize (lg_sl ([.long a0, .long 0, .long 1]) ++ List.replicate (6 - (lg_sl ([.long a0, .long 0, .long 1])).length) Slot.unset).toArray = ls at hl ⊢
  have hl : lv_has ls 6 [(0, .long a0), (2, .long 0), (4, .long 1)] := hl
  generalize hloc : ([] : List Loc) = locs at hw ⊢
  have J17 : ∀ (H : Heap) (locs : List Loc) (ls : Array Slot), (-2147483648) ≤ a0.toInt → a0.toInt ≤ 2147483647 → Wd dC dI A s.heap H locs w0 → lv_has ls 6 [(0, .long a0), (2, .long 0), (4, .long 1)] → W p l e ({ frames := 1, cells := 0, slots := 0, locals := 12 }) s m (List.toArray [.long a0, .long 0, .long 1]) below meth c H locs 0 0 (MQ below (va_Qi (P_X12_in_12 ad cy B qr s1 a0 w0) (fun u : va_W => wpost dC dI cy A u) A) (List.toArray [.long a0, .long 0, .long 1]) s 0 0 A) (F0 m 17 ls []) := by
    intro H locs ls r1 t2 hw hl
    refine lv_iconst (v := 0) hx hb dX12_in_17 (by decide) ?_
    exact tk_zret hC hr rfl hlocks hK ⟨rfl, (Or.inl rfl)⟩ hw dX12_in_18
  refine lv_lload_n hx hb dX12_in_0 rfl (lv_at hl 0 rfl) ?_
  refine lv_lload_n hx hb dX12_in_1 rfl (lv_at hl 1 rfl) ?_
  refine W.lcmp hx hb dX12_in_2 ?_
  refine lv_if_lt (tgt := 17) hx hb dX12_in_3 (by decide) (fun c3 => ?_) (fun c3 => ?_)
  · have c3 : a0.toInt < (0 : Int) := wk_cltT c3
    exact J17  s.heap locs ls  (show (-2147483648) ≤ a0.toInt from ra0) (show a0.toInt ≤ 2147483647 from ta0)  hw   (lv_sub hl [0, 1, 2] rfl)
  · have c3 : (0 : Int) ≤ a0.toInt := wk_cltF c3
    refine lv_lload_n hx hb dX12_in_6 rfl (lv_at hl 0 rfl) ?_
    refine lv_lload hx hb dX12_in_7 (lv_at hl 2 rfl) ?_
    refine W.lcmp hx hb dX12_in_9 ?_
    refine lv_if_gt (tgt := 17) hx hb dX12_in_10 (by decide) (fun c4 => ?_) (fun c4 => ?_)
    · have c4 : (1 : Int) < a0.toInt := wk_cgtT c4
      exact J17  s.heap locs ls  (show (-2147483648) ≤ a0.toInt from ra0) (show a0.toInt ≤ 2147483647 from ta0)  hw   (lv_sub hl [0, 1, 2] rfl)
    · have c4 : a0.toInt ≤ (1 : Int) := wk_cgtF c4
      refine lv_iconst (v := 1) hx hb dX12_in_13 (by decide) ?_
      refine lv_goto (tgt := 18) hx hb dX12_in_14 (by decide) ?_
      exact tk_zret hC hr rfl hlocks hK ⟨rfl, (Or.inr ⟨rfl, (show 0 ≤ a0.toInt from c3), (show a0.toInt ≤ 1 from c4)⟩)⟩ hw dX12_in_18
abbrev P_X12_isOf_3 (ad : Nat → Nat) (cy : Nat → ClassId) (B : Int) (qr : Nat) (s1 : Int) (a0 : Int32) (a1 : Int32) (w0 : va_W) : Int32 → va_W → Prop := fun r u => w0 = u ∧ ((r = 0 ∧ (¬ mOf a0 a1)) ∨ (r = 1 ∧ (mOf a0 a1)))
set_option maxHeartbeats 4000000 in
set_option maxRecDepth 100000 in
theorem k_X12_isOf_3 (l : Launch) (adK adV : Nat → Nat) (dC : Nat → ClassId) (dI : Nat → Nat → Nat) (cy : Nat → ClassId) (ad : Nat → Nat) (B : Int) (hB0 : 100000 ≤ B) (hB1 : B ≤ 1073741824) (qr : Nat) (s1 : Int)  (a0 : Int32) (a1 : Int32) (ra1 : 0 ≤ a1.toInt) (ta1 : a1.toInt ≤ 1) (w0 : va_W) (sz : Nat) (hT : TW ksM ad cy B qr 12 w0)  : Met l yX12_isOf (wu yX12_isOf cX12_isOf 2 (some .boolean)) ({ frames := 1, cells := 0, slots := 0, locals := 12 }) (va_Pc [.int a0, .int a1] (wpreS adK adV dC dI cy sz w0)) (va_Qi (P_X12_isOf_3 ad cy B qr s1 a0 a1 w0) (fun u : va_W => wpost dC dI cy (va_A w0 sz) u) (va_A w0 sz)) 0 0 (va_A w0 sz) := by
  refine Met.ofW (cc := cX12_isOf) (maxL := 2) (ret := (some .boolean)) (by decide) rfl ?_
  intro p e s m args below meth c s₁ Bk hml hv
  obtain ⟨rfl, ⟨hsz, hP, hK, hD0⟩, hE, hSR⟩ := hv
  have hx := Bk.exec
  have hb := Bk.bytes
  have hr := Bk.returns
  have hlocks := Bk.notSynchronized
  have hC : CallFix p m c cX12_isOf 2 s _ (wu yX12_isOf cX12_isOf 2 (some .boolean)) RX12 := ⟨hx, hb, hml, findClass_of_methodNamed Bk.named, atoms_spec (ws := (wu yX12_isOf cX12_isOf 2 (some .boolean))) Bk.pre⟩
  subst hsz
  have hD := hD0.self (sz := s.heap.size)
  generalize hAe : va_A w0 s.heap.size = A at hD hE ⊢
  have hA : ∀ q : Nat, s.heap.size ≤ q → A q := fun q h => by rw [← hAe]; exact Or.inr h
  have hw : Wd dC dI A s.heap s.heap [] w0 := ⟨hP, hD, va_S.rf⟩
  have hF : FE ksM ([] : List (Nat × Nat × Nat)) w0 w0 := FE.rf
  have hl := lv_entry ([.int a0, .int a1]) (n := 2) (Nat.le_of_ble_eq_true rfl)
  rw [lg_entry_eq]
  generalize (lg_sl ([.int a0, .int a1]) ++ List.replicate (2 - (lg_sl ([.int a0, .int a1])).length) Slot.unset).toArray = ls at hl ⊢
  have hl : lv_has ls 2 [(0, .int a0), (1, .int a1)] := hl
  generalize hloc : ([] : List Loc) = locs at hw ⊢
  refine lv_iload_n hx hb dX12_isOf_0 rfl (lv_at hl 0 rfl) ?_
  refine lv_iload_n hx hb dX12_isOf_1 rfl (lv_at hl 1 rfl) ?_
  refine lv_ishr hx hb dX12_isOf_2 ?_
  refine lv_topi (fun x1 ex1 => ?_)
  refine lv_iconst (v := 1) hx hb dX12_isOf_3 (by decide) ?_
  refine lv_iand hx hb dX12_isOf_4 ?_
  refine lv_topi (fun x2 ex2 => ?_)
  have bx2 : 0 ≤ x2.toInt ∧ x2.toInt ≤ (1 : Int) := by rw [ex2]; exact wk_and (by decide)
  refine lv_iconst (v := 1) hx hb dX12_isOf_5 (by decide) ?_
  refine lv_icmp_ne (tgt := 13) hx hb dX12_isOf_6 (by decide) (fun c3 => ?_) (fun c3 => ?_)
  · have c3 : ¬ x2.toInt = (1 : Int) := wk_eqF c3
    refine lv_iconst (v := 0) hx hb dX12_isOf_13 (by decide) ?_
    exact tk_zret hC hr rfl hlocks hK ⟨rfl, (Or.inl ⟨rfl, (by unfold mOf; rw [← ex1, ← ex2]; omega)⟩)⟩ hw dX12_isOf_14
  · have c3 : x2.toInt = (1 : Int) := wk_eq.mp c3
    refine lv_iconst (v := 1) hx hb dX12_isOf_9 (by decide) ?_
    refine lv_goto (tgt := 14) hx hb dX12_isOf_10 (by decide) ?_
    exact tk_zret hC hr rfl hlocks hK ⟨rfl, (Or.inr ⟨rfl, (by unfold mOf; rw [← ex1, ← ex2]; omega)⟩)⟩ hw dX12_isOf_14
abbrev P_X12_streetOf_5 (ad : Nat → Nat) (cy : Nat → ClassId) (B : Int) (qr : Nat) (s1 : Int) (a1 : Int32) (a2 : Int32) (w0 : va_W) : Int32 → va_W → Prop := fun r u => w0 = u ∧ ((0 ≤ r.toInt ∧ r.toInt ≤ 9 ∧ gi u 12 (10 * a1.toInt + 1 * a2.toInt + 10).toNat = r))
set_option maxHeartbeats 4000000 in
set_option maxRecDepth 100000 in
theorem k_X12_streetOf_5 (l : Launch) (adK adV : Nat → Nat) (dC : Nat → ClassId) (dI : Nat → Nat → Nat) (cy : Nat → ClassId) (ad : Nat → Nat) (B : Int) (hB0 : 100000 ≤ B) (hB1 : B ≤ 1073741824) (qr : Nat) (s1 : Int)  (a1 : Int32) (ra1 : 0 ≤ a1.toInt) (ta1 : a1.toInt ≤ 11) (a2 : Int32) (ra2 : 0 ≤ a2.toInt) (ta2 : a2.toInt ≤ 1) (w0 : va_W) (sz : Nat) (hT : TW ksM ad cy B qr 12 w0)  : Met l yX12_streetOf (wu yX12_streetOf cX12_streetOf 3 (some .int)) ({ frames := 1, cells := 0, slots := 0, locals := 12 }) (va_Pc [.ref (ad 0), .int a1, .int a2] (wpreS adK adV dC dI cy sz w0)) (va_Qi (P_X12_streetOf_5 ad cy B qr s1 a1 a2 w0) (fun u : va_W => wpost dC dI cy (va_A w0 sz) u) (va_A w0 sz)) 0 0 (va_A w0 sz) := by
  refine Met.ofW (cc := cX12_streetOf) (maxL := 3) (ret := (some .int)) (by decide) rfl ?_
  intro p e s m args below meth c s₁ Bk hml hv
  obtain ⟨rfl, ⟨hsz, hP, hK, hD0⟩, hE, hSR⟩ := hv
  have hx := Bk.exec
  have hb := Bk.bytes
  have hr := Bk.returns
  have hlocks := Bk.notSynchronized
  have hC : CallFix p m c cX12_streetOf 3 s _ (wu yX12_streetOf cX12_streetOf 3 (some .int)) RX12 := ⟨hx, hb, hml, findClass_of_methodNamed Bk.named, atoms_spec (ws := (wu yX12_streetOf cX12_streetOf 3 (some .int))) Bk.pre⟩
  subst hsz
  have hD := hD0.self (sz := s.heap.size)
  generalize hAe : va_A w0 s.heap.size = A at hD hE ⊢
  have hA : ∀ q : Nat, s.heap.size ≤ q → A q := fun q h => by rw [← hAe]; exact Or.inr h
  have hw : Wd dC dI A s.heap s.heap [] w0 := ⟨hP, hD, va_S.rf⟩
  have hF : FE ksM ([] : List (Nat × Nat × Nat)) w0 w0 := FE.rf
  have hl := lv_entry ([.ref (ad 0), .int a1, .int a2]) (n := 3) (Nat.le_of_ble_eq_true rfl)
  rw [lg_entry_eq]
  generalize (lg_sl ([.ref (ad 0), .int a1, .int a2]) ++ List.replicate (3 - (lg_sl ([.ref (ad 0), .int a1, .int a2])).length) Slot.unset).toArray = ls at hl ⊢
  have hl : lv_has ls 3 [(0, .ref (ad 0)), (1, .int a1), (2, .int a2)] := hl
  generalize hloc : ([] : List Loc) = locs at hw ⊢
  have hinX12 : ∀ w ∈ u_ws RX12 TX12 42, w ∈ (wu yX12_streetOf cX12_streetOf 3 (some .int)) := fun _ h => List.mem_cons_of_mem _ (up_71 h)
  refine lv_aload_n hx hb dX12_streetOf_0 rfl (lv_at hl 0 rfl) ?_
  refine tk_getA hC hK hw hT hinX12 kM_at0 (by decide) rfl 26 (by decide) (List.mem_cons_of_mem _ uw_7_1) rfl rfl dX12_streetOf_1 ?_
  refine lv_bipush (v := 10) hx hb dX12_streetOf_4 (by decide) ?_
  refine lv_bipush (v := 10) hx hb dX12_streetOf_6 (by decide) ?_
  refine lv_iload_n hx hb dX12_streetOf_8 rfl (lv_at hl 1 rfl) ?_
  refine lv_imul hx hb dX12_streetOf_9 ?_
  refine lv_topi (fun x1 ex1 => ?_)
  have ex1 : x1.toInt = (10 : Int) * a1.toInt := by rw [ex1]; exact wk_mul (show (-2147483648) ≤ (10 : Int) * a1.toInt by omega) (show (10 : Int) * a1.toInt ≤ 2147483647 by omega)
  refine lv_iadd hx hb dX12_streetOf_10 ?_
  refine lv_topi (fun x2 ex2 => ?_)
  have ex2 : x2.toInt = (10 : Int) + x1.toInt := by rw [ex2]; exact wk_add (show (-2147483648) ≤ (10 : Int) + x1.toInt by omega) (show (10 : Int) + x1.toInt ≤ 2147483647 by omega)
  refine lv_iload_n hx hb dX12_streetOf_11 rfl (lv_at hl 2 rfl) ?_
  refine lv_iadd hx hb dX12_streetOf_12 ?_
  refine lv_topi (fun x3 ex3 => ?_)
  have ex3 : x3.toInt = x2.toInt + a2.toInt := by rw [ex3]; exact wk_add (show (-2147483648) ≤ x2.toInt + a2.toInt by omega) (show x2.toInt + a2.toInt ≤ 2147483647 by omega)
  refine tk_ialdR hC hK hw hT kM_at12 rfl (show 0 ≤ x3.toInt by first | with_reducible assumption | omega) (show x3.toInt < 296 by first | with_reducible assumption | omega) dX12_streetOf_13 (fun x4 c5 Ex4 => ?_)
  have c5 : gi w0 12 (10 * a1.toInt + 1 * a2.toInt + 10).toNat = x4 := (congrArg (gi w0 12) (congrArg Int.toNat (show 10 * a1.toInt + 1 * a2.toInt + 10 = x3.toInt by first | exact Int.le_antisymm (by omega) (by omega) | omega))).trans c5
  have bx4 := tk_rgI rfl 10 1 112 0 9 (by decide +kernel) ⟨(x3.toInt - 10).toNat, by omega, show x3.toInt.toNat = 10 + 1 * (x3.toInt - 10).toNat by omega⟩ Ex4
  exact tk_iret hC hr hlocks hK ⟨rfl, ⟨(show 0 ≤ x4.toInt by first | with_reducible assumption | omega), (show x4.toInt ≤ 9 by first | with_reducible assumption | omega), c5⟩⟩ hw dX12_streetOf_14
abbrev P_X12_streetOf_6 (ad : Nat → Nat) (cy : Nat → ClassId) (B : Int) (qr : Nat) (s1 : Int) (a1 : Int32) (w0 : va_W) : Int32 → va_W → Prop := fun r u => w0 = u ∧ ((0 ≤ r.toInt ∧ r.toInt ≤ 9 ∧ gi u 12 (10 * a1.toInt + 12).toNat = r))
set_option maxHeartbeats 4000000 in
set_option maxRecDepth 100000 in
theorem k_X12_streetOf_6 (l : Launch) (adK adV : Nat → Nat) (dC : Nat → ClassId) (dI : Nat → Nat → Nat) (cy : Nat → ClassId) (ad : Nat → Nat) (B : Int) (hB0 : 100000 ≤ B) (hB1 : B ≤ 1073741824) (qr : Nat) (s1 : Int)  (a1 : Int32) (ra1 : 0 ≤ a1.toInt) (ta1 : a1.toInt ≤ 11) (w0 : va_W) (sz : Nat) (hT : TW ksM ad cy B qr 12 w0)  : Met l yX12_streetOf (wu yX12_streetOf cX12_streetOf 3 (some .int)) ({ frames := 1, cells := 0, slots := 0, locals := 12 }) (va_Pc [.ref (ad 0), .int a1, .int 2] (wpreS adK adV dC dI cy sz w0)) (va_Qi (P_X12_streetOf_6 ad cy B qr s1 a1 w0) (fun u : va_W => wpost dC dI cy (va_A w0 sz) u) (va_A w0 sz)) 0 0 (va_A w0 sz) := by
  refine Met.ofW (cc := cX12_streetOf) (maxL := 3) (ret := (some .int)) (by decide) rfl ?_
  intro p e s m args below meth c s₁ Bk hml hv
  obtain ⟨rfl, ⟨hsz, hP, hK, hD0⟩, hE, hSR⟩ := hv
  have hx := Bk.exec
  have hb := Bk.bytes
  have hr := Bk.returns
  have hlocks := Bk.notSynchronized
  have hC : CallFix p m c cX12_streetOf 3 s _ (wu yX12_streetOf cX12_streetOf 3 (some .int)) RX12 := ⟨hx, hb, hml, findClass_of_methodNamed Bk.named, atoms_spec (ws := (wu yX12_streetOf cX12_streetOf 3 (some .int))) Bk.pre⟩
  subst hsz
  have hD := hD0.self (sz := s.heap.size)
  generalize hAe : va_A w0 s.heap.size = A at hD hE ⊢
  have hA : ∀ q : Nat, s.heap.size ≤ q → A q := fun q h => by rw [← hAe]; exact Or.inr h
  have hw : Wd dC dI A s.heap s.heap [] w0 := ⟨hP, hD, va_S.rf⟩
  have hF : FE ksM ([] : List (Nat × Nat × Nat)) w0 w0 := FE.rf
  have hl := lv_entry ([.ref (ad 0), .int a1, .int 2]) (n := 3) (Nat.le_of_ble_eq_true rfl)
  rw [lg_entry_eq]
  generalize (lg_sl ([.ref (ad 0), .int a1, .int 2]) ++ List.replicate (3 - (lg_sl ([.ref (ad 0), .int a1, .int 2])).length) Slot.unset).toArray = ls at hl ⊢
  have hl : lv_has ls 3 [(0, .ref (ad 0)), (1, .int a1), (2, .int 2)] := hl
  generalize hloc : ([] : List Loc) = locs at hw ⊢
  have hinX12 : ∀ w ∈ u_ws RX12 TX12 42, w ∈ (wu yX12_streetOf cX12_streetOf 3 (some .int)) := fun _ h => List.mem_cons_of_mem _ (up_71 h)
  refine lv_aload_n hx hb dX12_streetOf_0 rfl (lv_at hl 0 rfl) ?_
  refine tk_getA hC hK hw hT hinX12 kM_at0 (by decide) rfl 26 (by decide) (List.mem_cons_of_mem _ uw_7_1) rfl rfl dX12_streetOf_1 ?_
  refine lv_bipush (v := 10) hx hb dX12_streetOf_4 (by decide) ?_
  refine lv_bipush (v := 10) hx hb dX12_streetOf_6 (by decide) ?_
  refine lv_iload_n hx hb dX12_streetOf_8 rfl (lv_at hl 1 rfl) ?_
  refine lv_imul hx hb dX12_streetOf_9 ?_
  refine lv_topi (fun x1 ex1 => ?_)
  have ex1 : x1.toInt = (10 : Int) * a1.toInt := by rw [ex1]; exact wk_mul (show (-2147483648) ≤ (10 : Int) * a1.toInt by omega) (show (10 : Int) * a1.toInt ≤ 2147483647 by omega)
  refine lv_iadd hx hb dX12_streetOf_10 ?_
  refine lv_topi (fun x2 ex2 => ?_)
  have ex2 : x2.toInt = (10 : Int) + x1.toInt := by rw [ex2]; exact wk_add (show (-2147483648) ≤ (10 : Int) + x1.toInt by omega) (show (10 : Int) + x1.toInt ≤ 2147483647 by omega)
  refine lv_iload_n hx hb dX12_streetOf_11 rfl (lv_at hl 2 rfl) ?_
  refine lv_iadd hx hb dX12_streetOf_12 ?_
  refine lv_topi (fun x3 ex3 => ?_)
  have ex3 : x3.toInt = x2.toInt + (2 : Int) := by rw [ex3]; exact wk_add (show (-2147483648) ≤ x2.toInt + (2 : Int) by omega) (show x2.toInt + (2 : Int) ≤ 2147483647 by omega)
  refine tk_ialdR hC hK hw hT kM_at12 rfl (show 0 ≤ x3.toInt by first | with_reducible assumption | omega) (show x3.toInt < 296 by first | with_reducible assumption | omega) dX12_streetOf_13 (fun x4 c5 Ex4 => ?_)
  have c5 : gi w0 12 (10 * a1.toInt + 12).toNat = x4 := (congrArg (gi w0 12) (congrArg Int.toNat (show 10 * a1.toInt + 12 = x3.toInt by first | exact Int.le_antisymm (by omega) (by omega) | omega))).trans c5
  have bx4 := tk_rgI rfl 12 10 12 0 9 (by decide +kernel) ⟨(a1.toInt - 0).toNat, by omega, show x3.toInt.toNat = 12 + 10 * (a1.toInt - 0).toNat by omega⟩ Ex4
  exact tk_iret hC hr hlocks hK ⟨rfl, ⟨(show 0 ≤ x4.toInt by first | with_reducible assumption | omega), (show x4.toInt ≤ 9 by first | with_reducible assumption | omega), c5⟩⟩ hw dX12_streetOf_14
abbrev P_X12_spreads_1 (ad : Nat → Nat) (cy : Nat → ClassId) (B : Int) (qr : Nat) (s1 : Int) (a1 : Int32) (w0 : va_W) : va_W → Prop := fun u => TW ksM ad cy B qr 12 u ∧ FE ksM [(73, 0, 10)] w0 u ∧ ((True))
set_option maxHeartbeats 4000000 in
set_option maxRecDepth 100000 in
theorem k_X12_spreads_1 (l : Launch) (adK adV : Nat → Nat) (dC : Nat → ClassId) (dI : Nat → Nat → Nat) (cy : Nat → ClassId) (ad : Nat → Nat) (B : Int) (hB0 : 100000 ≤ B) (hB1 : B ≤ 1073741824) (qr : Nat) (s1 : Int)  (a1 : Int32) (ra1 : 0 ≤ a1.toInt) (ta1 : a1.toInt ≤ 9) (w0 : va_W) (sz : Nat) (hT : TW ksM ad cy B qr 12 w0)  : Met l yX12_spreads (wu yX12_spreads cX12_spreads 7 none) ({ frames := 2, cells := 0, slots := 0, locals := 34 }) (va_Pc [.ref (ad 0), .int a1] (wpreS adK adV dC dI cy sz w0)) (va_Qv (P_X12_spreads_1 ad cy B qr s1 a1 w0) (fun u : va_W => wpost dC dI cy (va_A w0 sz) u) (va_A w0 sz)) 0 0 (va_A w0 sz) := by
  refine Met.ofW (cc := cX12_spreads) (maxL := 7) (ret := none) (by decide) rfl ?_
  intro p e s m args below meth c s₁ Bk hml hv
  obtain ⟨rfl, ⟨hsz, hP, hK, hD0⟩, hE, hSR⟩ := hv
  have hx := Bk.exec
  have hb := Bk.bytes
  have hr := Bk.returns
  have hlocks := Bk.notSynchronized
  have hC : CallFix p m c cX12_spreads 7 s _ (wu yX12_spreads cX12_spreads 7 none) RX12 := ⟨hx, hb, hml, findClass_of_methodNamed Bk.named, atoms_spec (ws := (wu yX12_spreads cX12_spreads 7 none)) Bk.pre⟩
  subst hsz
  have hD := hD0.self (sz := s.heap.size)
  generalize hAe : va_A w0 s.heap.size = A at hD hE ⊢
  have hA : ∀ q : Nat, s.heap.size ≤ q → A q := fun q h => by rw [← hAe]; exact Or.inr h
  have hw : Wd dC dI A s.heap s.heap [] w0 := ⟨hP, hD, va_S.rf⟩
  have hF : FE ksM [(73, 0, 10)] w0 w0 := FE.rf
  have hl := lv_entry ([.ref (ad 0), .int a1]) (n := 7) (Nat.le_of_ble_eq_true rfl)
  rw [lg_entry_eq]
  generalize (lg_sl ([.ref (ad 0), .int a1]) ++ List.replicate (7 - (lg_sl ([.ref (ad 0), .int a1])).length) Slot.unset).toArray = ls at hl ⊢
  have hl : lv_has ls 7 [(0, .ref (ad 0)), (1, .int a1)] := hl
  generalize hloc : ([] : List Loc) = locs at hw ⊢
  have hinX12 : ∀ w ∈ u_ws RX12 TX12 42, w ∈ (wu yX12_spreads cX12_spreads 7 none) := fun _ h => List.mem_cons_of_mem _ (up_71 h)
  have L34 : ∀ (n34 : Nat) (v34_2 : Int32) (H : Heap) (locs : List Loc) (ls : Array Slot) (w1 : va_W), 0 ≤ a1.toInt → a1.toInt ≤ 9 → 0 ≤ v34_2.toInt → v34_2.toInt ≤ 1 → (0 ≤ (sumG 14 10 w1)) → (2 * (sumG 14 10 w1) + v34_2.toInt).toNat < n34 → Wd dC dI A s.heap H locs w1 → TW ksM ad cy B qr 12 w1 → FE ksM [(73, 0, 10)] w0 w1 → lv_has ls 7 [(0, .ref (ad 0)), (1, .int a1), (2, .int v34_2)] → W p l e ({ frames := 2, cells := 0, slots := 0, locals := 34 }) s m (List.toArray [.ref (ad 0), .int a1]) below meth c H locs 0 0 (MQ below (va_Qv (P_X12_spreads_1 ad cy B qr s1 a1 w0) (fun u : va_W => wpost dC dI cy A u) A) (List.toArray [.ref (ad 0), .int a1]) s 0 0 A) (F0 m 34 ls []) := by
    intro n34
    induction n34 with
    | zero => intro v34_2 H locs ls w1 r2 t3 r4 t5 hcr34_0 hm34 hw hT hF hl; omega
    | succ n34 ih34 =>
      intro v34_2 H locs ls w1 r2 t3 r4 t5 hcr34_0 hm34 hw hT hF hl
      have L42 : ∀ (n42 : Nat) (v42_2 : Int32) (v42_3 : Int32) (H : Heap) (locs : List Loc) (ls : Array Slot) (w6 : va_W), 0 ≤ a1.toInt → a1.toInt ≤ 9 → 0 ≤ v42_2.toInt → v42_2.toInt ≤ 1 → 0 ≤ v42_3.toInt → v42_3.toInt ≤ 12 → ((sumG 14 10 w6) + v42_2.toInt ≤ (sumG 14 10 w1)) → (1 ≤ v34_2.toInt) → (12 - v42_3.toInt).toNat < n42 → Wd dC dI A s.heap H locs w6 → TW ksM ad cy B qr 12 w6 → FE ksM [(73, 0, 10)] w0 w6 → lv_has ls 7 [(0, .ref (ad 0)), (1, .int a1), (2, .int v42_2), (3, .int v42_3)] → W p l e ({ frames := 2, cells := 0, slots := 0, locals := 34 }) s m (List.toArray [.ref (ad 0), .int a1]) below meth c H locs 0 0 (MQ below (va_Qv (P_X12_spreads_1 ad cy B qr s1 a1 w0) (fun u : va_W => wpost dC dI cy A u) A) (List.toArray [.ref (ad 0), .int a1]) s 0 0 A) (F0 m 42 ls []) := by
        intro n42
        induction n42 with
        | zero => intro v42_2 v42_3 H locs ls w6 r7 t8 r9 t10 r11 t12 hcr42_0 hcr42_1 hm42 hw hT hF hl; omega
        | succ n42 ih42 =>
          intro v42_2 v42_3 H locs ls w6 r7 t8 r9 t10 r11 t12 hcr42_0 hcr42_1 hm42 hw hT hF hl
          have L55 : ∀ (n55 : Nat) (v55_2 : Int32) (v55_4 : Int32) (f55_12_1 : Int32) (H : Heap) (locs : List Loc) (ls : Array Slot) (w13 : va_W), 0 ≤ a1.toInt → a1.toInt ≤ 9 → 0 ≤ v55_2.toInt → v55_2.toInt ≤ 1 → 0 ≤ v42_3.toInt → v42_3.toInt ≤ 11 → 0 ≤ v55_4.toInt → v55_4.toInt ≤ 2 → 1 ≤ f55_12_1.toInt → f55_12_1.toInt ≤ 12 → ((sumG 14 10 w13) + v55_2.toInt ≤ (sumG 14 10 w1)) → (2 - v55_4.toInt).toNat < n55 → Wd dC dI A s.heap H locs w13 → TW ksM ad cy B qr 12 w13 → FE ksM [(73, 0, 10)] w0 w13 → gi w13 12 1 = f55_12_1 → lv_has ls 7 [(0, .ref (ad 0)), (1, .int a1), (2, .int v55_2), (3, .int v42_3), (4, .int v55_4)] → W p l e ({ frames := 2, cells := 0, slots := 0, locals := 34 }) s m (List.toArray [.ref (ad 0), .int a1]) below meth c H locs 0 0 (MQ below (va_Qv (P_X12_spreads_1 ad cy B qr s1 a1 w0) (fun u : va_W => wpost dC dI cy A u) A) (List.toArray [.ref (ad 0), .int a1]) s 0 0 A) (F0 m 55 ls []) := by
            intro n55
            induction n55 with
            | zero => intro v55_2 v55_4 f55_12_1 H locs ls w13 r14 t15 r16 t17 r18 t19 r20 t21 r22 t23 hcr55_0 hm55 hw hT hF c24 hl; omega
            | succ n55 ih55 =>
              intro v55_2 v55_4 f55_12_1 H locs ls w13 r14 t15 r16 t17 r18 t19 r20 t21 r22 t23 hcr55_0 hm55 hw hT hF c24 hl
              have J133 : ∀ (v133_2 : Int32) (v133_5 : Int32) (v133_6 : Int32) (f133_12__10_v42_3_toInt_1_v55_4_toInt_10_toNat : Int32) (f133_12__10_v42_3_toInt_12_toNat : Int32) (H : Heap) (locs : List Loc) (ls : Array Slot) (w25 : va_W), 0 ≤ a1.toInt → a1.toInt ≤ 9 → 0 ≤ v133_2.toInt → v133_2.toInt ≤ 1 → 0 ≤ v42_3.toInt → v42_3.toInt ≤ 11 → 0 ≤ v55_4.toInt → v55_4.toInt ≤ 1 → 0 ≤ v133_5.toInt → v133_5.toInt ≤ 9 → 0 ≤ v133_6.toInt → v133_6.toInt ≤ 100000109 → 0 ≤ f133_12__10_v42_3_toInt_1_v55_4_toInt_10_toNat.toInt → f133_12__10_v42_3_toInt_1_v55_4_toInt_10_toNat.toInt ≤ 9 → 0 ≤ f133_12__10_v42_3_toInt_12_toNat.toInt → f133_12__10_v42_3_toInt_12_toNat.toInt ≤ 9 → 1 ≤ f55_12_1.toInt → f55_12_1.toInt ≤ 12 → ((sumG 14 10 w25) + v133_2.toInt ≤ (sumG 14 10 w1)) → Wd dC dI A s.heap H locs w25 → TW ksM ad cy B qr 12 w25 → FE ksM [(73, 0, 10)] w0 w25 → gi w25 12 (10 * v42_3.toInt + 1 * v55_4.toInt + 10).toNat = f133_12__10_v42_3_toInt_1_v55_4_toInt_10_toNat → gi w25 12 (10 * v42_3.toInt + 12).toNat = f133_12__10_v42_3_toInt_12_toNat → gi w25 12 1 = f55_12_1 → lv_has ls 7 [(0, .ref (ad 0)), (1, .int a1), (2, .int v133_2), (3, .int v42_3), (4, .int v55_4), (5, .int v133_5), (6, .int v133_6)] → W p l e ({ frames := 2, cells := 0, slots := 0, locals := 34 }) s m (List.toArray [.ref (ad 0), .int a1]) below meth c H locs 0 0 (MQ below (va_Qv (P_X12_spreads_1 ad cy B qr s1 a1 w0) (fun u : va_W => wpost dC dI cy A u) A) (List.toArray [.ref (ad 0), .int a1]) s 0 0 A) (F0 m 133 ls []) := by
                intro v133_2 v133_5 v133_6 f133_12__10_v42_3_toInt_1_v55_4_toInt_10_toNat f133_12__10_v42_3_toInt_12_toNat H locs ls w25 r26 t27 r28 t29 r30 t31 r32 t33 r34 t35 r36 t37 r38 t39 r41 t42 r44 t45 hcr133_0 hw hT hF c40 c43 c46 hl
                obtain ⟨x47, ex47⟩ : ∃ y : Int32, y = v55_4 + Int32.ofInt 1 := ⟨_, rfl⟩
                refine lv_iinc (v := x47) (lv' := [(4, .int x47), (0, .ref (ad 0)), (1, .int a1), (2, .int v133_2), (3, .int v42_3), (5, .int v133_5), (6, .int v133_6)]) hx hb dX12_spreads_133 hl (k := 4) rfl ex47.symm (by decide) rfl (fun ls hl => ?_)
                have ex47 : x47.toInt = v55_4.toInt + 1 := by rw [ex47]; exact wk_add (y := 1) (show -2147483648 ≤ v55_4.toInt + 1 by omega) (show v55_4.toInt + 1 ≤ 2147483647 by omega)
                refine lv_goto (tgt := 55) hx hb dX12_spreads_136 (by decide) ?_
                have gb48 : 0 ≤ sumG 14 10 w25 ∧ sumG 14 10 w25 ≤ 1000001000 := hT.sum (lo := 0) (hi := 100000100) kM_at14 rfl (by decide) rfl
                exact ih55 v133_2 x47 f55_12_1 H locs ls w25 (show 0 ≤ a1.toInt from r26) (show a1.toInt ≤ 9 from t27) (show 0 ≤ v133_2.toInt from r28) (show v133_2.toInt ≤ 1 from t29) (show 0 ≤ v42_3.toInt from r30) (show v42_3.toInt ≤ 11 from t31) (show 0 ≤ x47.toInt by first | with_reducible assumption | omega) (show x47.toInt ≤ 2 by first | with_reducible assumption | omega) (show 1 ≤ f55_12_1.toInt from r44) (show f55_12_1.toInt ≤ 12 from t45) (show (sumG 14 10 w25) + v133_2.toInt ≤ (sumG 14 10 w1) by omega) (show (2 - x47.toInt).toNat < n55 by first | exact tn_lt hm55 (by omega) (by omega) | omega) hw hT hF c46 (lv_sub hl [1, 2, 3, 4, 0] rfl)
              refine lv_iload hx hb dX12_spreads_55 (lv_at hl 4 rfl) ?_
              refine lv_iconst (v := 2) hx hb dX12_spreads_57 (by decide) ?_
              refine lv_icmp_ge (tgt := 139) hx hb dX12_spreads_58 (by decide) (fun c49 => ?_) (fun c49 => ?_)
              · have c49 : (2 : Int) ≤ v55_4.toInt := wk_le.mp c49
                obtain ⟨x50, ex50⟩ : ∃ y : Int32, y = v42_3 + Int32.ofInt 1 := ⟨_, rfl⟩
                refine lv_iinc (v := x50) (lv' := [(3, .int x50), (0, .ref (ad 0)), (1, .int a1), (2, .int v55_2), (4, .int v55_4)]) hx hb dX12_spreads_139 hl (k := 3) rfl ex50.symm (by decide) rfl (fun ls hl => ?_)
                have ex50 : x50.toInt = v42_3.toInt + 1 := by rw [ex50]; exact wk_add (y := 1) (show -2147483648 ≤ v42_3.toInt + 1 by omega) (show v42_3.toInt + 1 ≤ 2147483647 by omega)
                refine lv_goto (tgt := 42) hx hb dX12_spreads_142 (by decide) ?_
                have gb51 : 0 ≤ sumG 14 10 w13 ∧ sumG 14 10 w13 ≤ 1000001000 := hT.sum (lo := 0) (hi := 100000100) kM_at14 rfl (by decide) rfl
                exact ih42 v55_2 x50 H locs ls w13 (show 0 ≤ a1.toInt from r14) (show a1.toInt ≤ 9 from t15) (show 0 ≤ v55_2.toInt from r16) (show v55_2.toInt ≤ 1 from t17) (show 0 ≤ x50.toInt by first | with_reducible assumption | omega) (show x50.toInt ≤ 12 by first | with_reducible assumption | omega) (show (sumG 14 10 w13) + v55_2.toInt ≤ (sumG 14 10 w1) by omega) (show 1 ≤ v34_2.toInt by first | with_reducible assumption | omega) (show (12 - x50.toInt).toNat < n42 by first | exact tn_lt hm42 (by omega) (by omega) | omega) hw hT hF  (lv_sub hl [1, 2, 3, 0] rfl)
              · have c49 : v55_4.toInt < (2 : Int) := wk_leF c49
                refine lv_aload_n hx hb dX12_spreads_61 rfl (lv_at hl 0 rfl) ?_
                refine lv_iload_n hx hb dX12_spreads_62 rfl (lv_at hl 3 rfl) ?_
                refine lv_iload hx hb dX12_spreads_63 (lv_at hl 4 rfl) ?_
                refine tk_Vi hC hK hw hT hA hE hSR kM_at0 (by decide) rfl (k_X12_streetOf_5 l adK adV dC dI cy ad B hB0 (Int.le_trans hB1 (by decide)) qr s1   v42_3 (show 0 ≤ v42_3.toInt from r18) (show v42_3.toInt ≤ 11 from t19) v55_4 (show 0 ≤ v55_4.toInt from r20) (show v55_4.toInt ≤ 1 by first | with_reducible assumption | omega) w13 H.size hT ) (cwV 2 hC.2.2.2.2 uV_RX12_300 rfl rfl rfl (by decide +kernel) ⟨Nat.le_of_ble_eq_true rfl, Nat.le_of_ble_eq_true rfl⟩) rfl hl.1 rfl (Nat.le_of_ble_eq_true rfl) dX12_spreads_65 (fun r52 w54 H locs hp53 hw => ?_)
                obtain ⟨rfl, hg59⟩ := hp53
                obtain ⟨g56, g57, c58⟩ := hg59
                refine lv_istore (lv' := [(5, .int r52), (0, .ref (ad 0)), (1, .int a1), (2, .int v55_2), (3, .int v42_3), (4, .int v55_4)]) hx hb dX12_spreads_68 hl (by decide) rfl (fun ls hl => ?_)
                refine lv_aload_n hx hb dX12_spreads_70 rfl (lv_at hl 1 rfl) ?_
                refine tk_getA hC hK hw hT hinX12 kM_at0 (by decide) rfl 29 (by decide) (List.mem_cons_of_mem _ uw_7_4) rfl rfl dX12_spreads_71 ?_
                refine lv_aload_n hx hb dX12_spreads_74 rfl (lv_at hl 1 rfl) ?_
                refine lv_iload_n hx hb dX12_spreads_75 rfl (lv_at hl 4 rfl) ?_
                refine lv_iconst (v := 1) hx hb dX12_spreads_76 (by decide) ?_
                refine lv_iload hx hb dX12_spreads_77 (lv_at hl 5 rfl) ?_
                refine lv_isub hx hb dX12_spreads_79 ?_
                refine lv_topi (fun x60 ex60 => ?_)
                have ex60 : x60.toInt = (1 : Int) - v55_4.toInt := by rw [ex60]; exact wk_sub (show (-2147483648) ≤ (1 : Int) - v55_4.toInt by omega) (show (1 : Int) - v55_4.toInt ≤ 2147483647 by omega)
                refine tk_Vi hC hK hw hT hA hE hSR kM_at0 (by decide) rfl (k_X12_streetOf_5 l adK adV dC dI cy ad B hB0 (Int.le_trans hB1 (by decide)) qr s1   v42_3 (show 0 ≤ v42_3.toInt from r18) (show v42_3.toInt ≤ 11 from t19) x60 (show 0 ≤ x60.toInt by first | with_reducible assumption | omega) (show x60.toInt ≤ 1 by first | with_reducible assumption | omega) w13 H.size hT ) (cwV 2 hC.2.2.2.2 uV_RX12_300 rfl rfl rfl (by decide +kernel) ⟨Nat.le_of_ble_eq_true rfl, Nat.le_of_ble_eq_true rfl⟩) rfl hl.1 rfl (Nat.le_of_ble_eq_true rfl) dX12_spreads_80 (fun r61 w63 H locs hp62 hw => ?_)
                obtain ⟨rfl, hg68⟩ := hp62
                obtain ⟨g65, g66, c67⟩ := hg68
                refine tk_iald hC hK hw hT kM_at14 rfl rfl (show 0 ≤ r61.toInt by first | with_reducible assumption | omega) (show r61.toInt < 10 by first | with_reducible assumption | omega) dX12_spreads_83 (fun x69 c70 rx69 tx69 => ?_)
                have c70 : gi w13 14 (r61.toInt).toNat = x69 := (congrArg (gi w13 14) (congrArg Int.toNat (show r61.toInt = r61.toInt from rfl))).trans c70
                refine lv_aload_n hx hb dX12_spreads_84 rfl (lv_at hl 1 rfl) ?_
                refine lv_iload_n hx hb dX12_spreads_85 rfl (lv_at hl 4 rfl) ?_
                refine lv_iconst (v := 2) hx hb dX12_spreads_86 (by decide) ?_
                refine tk_Vi hC hK hw hT hA hE hSR kM_at0 (by decide) rfl (k_X12_streetOf_6 l adK adV dC dI cy ad B hB0 (Int.le_trans hB1 (by decide)) qr s1   v42_3 (show 0 ≤ v42_3.toInt from r18) (show v42_3.toInt ≤ 11 from t19) w13 H.size hT ) (cwV 2 hC.2.2.2.2 uV_RX12_300 rfl rfl rfl (by decide +kernel) ⟨Nat.le_of_ble_eq_true rfl, Nat.le_of_ble_eq_true rfl⟩) rfl hl.1 rfl (Nat.le_of_ble_eq_true rfl) dX12_spreads_87 (fun r71 w73 H locs hp72 hw => ?_)
                obtain ⟨rfl, hg78⟩ := hp72
                obtain ⟨g75, g76, c77⟩ := hg78
                refine lv_iadd hx hb dX12_spreads_90 ?_
                refine lv_topi (fun x79 ex79 => ?_)
                have ex79 : x79.toInt = x69.toInt + r71.toInt := by rw [ex79]; exact wk_add (show (-2147483648) ≤ x69.toInt + r71.toInt by omega) (show x69.toInt + r71.toInt ≤ 2147483647 by omega)
                refine lv_istore (lv' := [(6, .int x79), (5, .int r52), (0, .ref (ad 0)), (1, .int a1), (2, .int v55_2), (3, .int v42_3), (4, .int v55_4)]) hx hb dX12_spreads_91 hl (by decide) rfl (fun ls hl => ?_)
                refine lv_aload_n hx hb dX12_spreads_93 rfl (lv_at hl 2 rfl) ?_
                refine tk_getA hC hK hw hT hinX12 kM_at0 (by decide) rfl 28 (by decide) (List.mem_cons_of_mem _ uw_7_3) rfl rfl dX12_spreads_94 ?_
                refine lv_iload_n hx hb dX12_spreads_97 rfl (lv_at hl 5 rfl) ?_
                refine tk_iald hC hK hw hT kM_at13 rfl rfl (show 0 ≤ v42_3.toInt from r18) (show v42_3.toInt < 12 from Int.lt_of_le_of_lt t19 (by decide)) dX12_spreads_98 (fun x80 c81 rx80 tx80 => ?_)
                refine lv_iload hx hb dX12_spreads_99 (lv_at hl 6 rfl) ?_
                refine tk_Si hC hK hw hT hA hE hSR (k_X12_isOf_3 l adK adV dC dI cy ad B hB0 (Int.le_trans hB1 (by decide)) qr s1   x80 v55_4 (show 0 ≤ v55_4.toInt from r20) (show v55_4.toInt ≤ 1 by first | with_reducible assumption | omega) w13 H.size hT ) (va_cwS 2 hC.2.2.2.2 uS_RX12_304 rfl rfl rfl (by decide +kernel) ⟨Nat.le_of_ble_eq_true rfl, Nat.le_of_ble_eq_true rfl⟩) rfl hl.1 rfl (Nat.le_of_ble_eq_true rfl) dX12_spreads_101 (fun r82 w84 H locs hp83 hw => ?_)
                obtain ⟨rfl, hg88⟩ := hp83
                rcases hg88 with ⟨rfl, hq86⟩ | ⟨rfl, hq87⟩
                · refine lv_if_eq (tgt := 133) hx hb dX12_spreads_104 (by decide) (fun _ => ?_) (fun c => absurd (by decide) c)
                  have gb89 : 0 ≤ sumG 14 10 w13 ∧ sumG 14 10 w13 ≤ 1000001000 := hT.sum (lo := 0) (hi := 100000100) kM_at14 rfl (by decide) rfl
                  exact J133 v55_2 r52 x79 r52 r71 H locs ls w13 (show 0 ≤ a1.toInt from r14) (show a1.toInt ≤ 9 from t15) (show 0 ≤ v55_2.toInt from r16) (show v55_2.toInt ≤ 1 from t17) (show 0 ≤ v42_3.toInt from r18) (show v42_3.toInt ≤ 11 from t19) (show 0 ≤ v55_4.toInt from r20) (show v55_4.toInt ≤ 1 by first | with_reducible assumption | omega) (show 0 ≤ r52.toInt by first | with_reducible assumption | omega) (show r52.toInt ≤ 9 by first | with_reducible assumption | omega) (show 0 ≤ x79.toInt by first | with_reducible assumption | omega) (show x79.toInt ≤ 100000109 by first | with_reducible assumption | omega) (show 0 ≤ r52.toInt by first | with_reducible assumption | omega) (show r52.toInt ≤ 9 by first | with_reducible assumption | omega) (show 0 ≤ r71.toInt by first | with_reducible assumption | omega) (show r71.toInt ≤ 9 by first | with_reducible assumption | omega) (show 1 ≤ f55_12_1.toInt from r22) (show f55_12_1.toInt ≤ 12 from t23) (show (sumG 14 10 w13) + v55_2.toInt ≤ (sumG 14 10 w1) by omega)  hw hT hF c58 c77 c24 (lv_sub hl [2, 3, 4, 5, 6, 1, 0] rfl)
                · refine lv_if_eq (tgt := 133) hx hb dX12_spreads_104 (by decide) (fun c => absurd c (by decide)) (fun _ => ?_)
                  refine lv_iload hx hb dX12_spreads_107 (lv_at hl 0 rfl) ?_
                  refine lv_aload_n hx hb dX12_spreads_109 rfl (lv_at hl 2 rfl) ?_
                  refine tk_getA hC hK hw hT hinX12 kM_at0 (by decide) rfl 29 (by decide) (List.mem_cons_of_mem _ uw_7_4) rfl rfl dX12_spreads_110 ?_
                  refine lv_iload hx hb dX12_spreads_113 (lv_at hl 1 rfl) ?_
                  refine tk_iald hC hK hw hT kM_at14 rfl rfl (show 0 ≤ r52.toInt by first | with_reducible assumption | omega) (show r52.toInt < 10 by first | with_reducible assumption | omega) dX12_spreads_115 (fun x90 c91 rx90 tx90 => ?_)
                  have c91 : gi w13 14 (r52.toInt).toNat = x90 := (congrArg (gi w13 14) (congrArg Int.toNat (show r52.toInt = r52.toInt from rfl))).trans c91
                  refine lv_icmp_lt (tgt := 122) hx hb dX12_spreads_116 (by decide) (fun c92 => ?_) (fun c92 => ?_)
                  · have c92 : x79.toInt < x90.toInt := wk_lt.mp c92
                    refine lv_aload_n hx hb dX12_spreads_122 rfl (lv_at hl 2 rfl) ?_
                    refine tk_getA hC hK hw hT hinX12 kM_at0 (by decide) rfl 29 (by decide) (List.mem_cons_of_mem _ uw_7_4) rfl rfl dX12_spreads_123 ?_
                    refine lv_iload hx hb dX12_spreads_126 (lv_at hl 1 rfl) ?_
                    refine lv_iload hx hb dX12_spreads_128 (lv_at hl 0 rfl) ?_
                    refine tk_iast hC hK hw hT kM_at14 (by decide) rfl rfl (show 0 ≤ r52.toInt by first | with_reducible assumption | omega) (show r52.toInt < 10 by first | with_reducible assumption | omega) (show 0 ≤ x79.toInt by first | with_reducible assumption | omega) (show x79.toInt ≤ 100000100 by first | with_reducible assumption | omega) dX12_spreads_130 (fun H locs w93 hw hT k95 c94 => ?_)
                    have gs96 : sumG 14 10 w93 = sumG 14 10 w13 - (gi w13 14 (r52.toInt.toNat)).toInt + (gi w93 14 (r52.toInt.toNat)).toInt := sumG_up (i := r52.toInt.toNat) k95 10 (show r52.toInt.toNat < 10 by omega)
                    rw [show gi w93 14 (r52.toInt.toNat) = x79 from c94] at gs96
                    rw [c91] at gs96
                    have hF := hF.put kM_at14 (inE_of (a := 0) (b := 10) (by decide) (show 0 ≤ r52.toInt.toNat by omega) (show r52.toInt.toNat ≤ 10 by omega)) k95
                    have c97 := k95.gi (Or.inl (tk_ne kM_at12 kM_at14 (by decide))) c24
                    have c98 := k95.gi (Or.inl (tk_ne kM_at12 kM_at14 (by decide))) c58
                    have c99 := k95.gi (Or.inl (tk_ne kM_at12 kM_at14 (by decide))) c67
                    have c100 := k95.gi (Or.inl (tk_ne kM_at12 kM_at14 (by decide))) c77
                    refine lv_iconst (v := 1) hx hb dX12_spreads_131 (by decide) ?_
                    refine lv_istore_n (lv' := [(2, .int 1), (6, .int x79), (5, .int r52), (0, .ref (ad 0)), (1, .int a1), (3, .int v42_3), (4, .int v55_4)]) hx hb dX12_spreads_132 rfl hl (by decide) rfl (fun ls hl => ?_)
                    have gb101 : 0 ≤ sumG 14 10 w93 ∧ sumG 14 10 w93 ≤ 1000001000 := hT.sum (lo := 0) (hi := 100000100) kM_at14 rfl (by decide) rfl
                    exact J133 1 r52 x79 r52 r71 H locs ls w93 (show 0 ≤ a1.toInt from r14) (show a1.toInt ≤ 9 from t15) (by decide) (by decide) (show 0 ≤ v42_3.toInt from r18) (show v42_3.toInt ≤ 11 from t19) (show 0 ≤ v55_4.toInt from r20) (show v55_4.toInt ≤ 1 by first | with_reducible assumption | omega) (show 0 ≤ r52.toInt by first | with_reducible assumption | omega) (show r52.toInt ≤ 9 by first | with_reducible assumption | omega) (show 0 ≤ x79.toInt by first | with_reducible assumption | omega) (show x79.toInt ≤ 100000109 by first | with_reducible assumption | omega) (show 0 ≤ r52.toInt by first | with_reducible assumption | omega) (show r52.toInt ≤ 9 by first | with_reducible assumption | omega) (show 0 ≤ r71.toInt by first | with_reducible assumption | omega) (show r71.toInt ≤ 9 by first | with_reducible assumption | omega) (show 1 ≤ f55_12_1.toInt from r22) (show f55_12_1.toInt ≤ 12 from t23) (show (sumG 14 10 w93) + (1 : Int) ≤ (sumG 14 10 w1) by omega)  hw hT hF c98 c100 c97 (lv_sub hl [3, 4, 0, 5, 6, 2, 1] rfl)
                  · have c92 : x90.toInt ≤ x79.toInt := wk_ltF c92
                    refine lv_goto (tgt := 133) hx hb dX12_spreads_119 (by decide) ?_
                    have gb102 : 0 ≤ sumG 14 10 w13 ∧ sumG 14 10 w13 ≤ 1000001000 := hT.sum (lo := 0) (hi := 100000100) kM_at14 rfl (by decide) rfl
                    exact J133 v55_2 r52 x79 r52 r71 H locs ls w13 (show 0 ≤ a1.toInt from r14) (show a1.toInt ≤ 9 from t15) (show 0 ≤ v55_2.toInt from r16) (show v55_2.toInt ≤ 1 from t17) (show 0 ≤ v42_3.toInt from r18) (show v42_3.toInt ≤ 11 from t19) (show 0 ≤ v55_4.toInt from r20) (show v55_4.toInt ≤ 1 by first | with_reducible assumption | omega) (show 0 ≤ r52.toInt by first | with_reducible assumption | omega) (show r52.toInt ≤ 9 by first | with_reducible assumption | omega) (show 0 ≤ x79.toInt by first | with_reducible assumption | omega) (show x79.toInt ≤ 100000109 by first | with_reducible assumption | omega) (show 0 ≤ r52.toInt by first | with_reducible assumption | omega) (show r52.toInt ≤ 9 by first | with_reducible assumption | omega) (show 0 ≤ r71.toInt by first | with_reducible assumption | omega) (show r71.toInt ≤ 9 by first | with_reducible assumption | omega) (show 1 ≤ f55_12_1.toInt from r22) (show f55_12_1.toInt ≤ 12 from t23) (show (sumG 14 10 w13) + v55_2.toInt ≤ (sumG 14 10 w1) by omega)  hw hT hF c58 c77 c24 (lv_sub hl [2, 3, 4, 5, 6, 1, 0] rfl)
          refine lv_iload_n hx hb dX12_spreads_42 rfl (lv_at hl 3 rfl) ?_
          refine lv_aload_n hx hb dX12_spreads_43 rfl (lv_at hl 0 rfl) ?_
          refine tk_getA hC hK hw hT hinX12 kM_at0 (by decide) rfl 26 (by decide) (List.mem_cons_of_mem _ uw_7_1) rfl rfl dX12_spreads_44 ?_
          refine lv_iconst (v := 1) hx hb dX12_spreads_47 (by decide) ?_
          refine tk_ialdR hC hK hw hT kM_at12 rfl (by decide) (by decide) dX12_spreads_48 (fun x103 c104 Ex103 => ?_)
          have bx103 : 0 ≤ x103.toInt ∧ x103.toInt ≤ 12 := (tk_rg1 rfl).mp Ex103
          have c104 : gi w6 12 1 = x103 := c104
          refine lv_icmp_ge (tgt := 145) hx hb dX12_spreads_49 (by decide) (fun c105 => ?_) (fun c105 => ?_)
          · have c105 : x103.toInt ≤ v42_3.toInt := wk_le.mp c105
            refine lv_goto (tgt := 34) hx hb dX12_spreads_145 (by decide) ?_
            have gb106 : 0 ≤ sumG 14 10 w6 ∧ sumG 14 10 w6 ≤ 1000001000 := hT.sum (lo := 0) (hi := 100000100) kM_at14 rfl (by decide) rfl
            exact ih34 v42_2 H locs ls w6 (show 0 ≤ a1.toInt from r7) (show a1.toInt ≤ 9 from t8) (show 0 ≤ v42_2.toInt from r9) (show v42_2.toInt ≤ 1 from t10) (show 0 ≤ (sumG 14 10 w6) by omega) (show (2 * (sumG 14 10 w6) + v42_2.toInt).toNat < n34 by first | exact tn_lt hm34 (by omega) (by omega) | omega) hw hT hF  (lv_sub hl [0, 1, 2] rfl)
          · have c105 : v42_3.toInt < x103.toInt := wk_leF c105
            refine lv_iconst (v := 0) hx hb dX12_spreads_52 (by decide) ?_
            refine lv_istore (lv' := [(4, .int 0), (0, .ref (ad 0)), (1, .int a1), (2, .int v42_2), (3, .int v42_3)]) hx hb dX12_spreads_53 hl (by decide) rfl (fun ls hl => ?_)
            have gb107 : 0 ≤ sumG 14 10 w6 ∧ sumG 14 10 w6 ≤ 1000001000 := hT.sum (lo := 0) (hi := 100000100) kM_at14 rfl (by decide) rfl
            exact L55 ((2 - (0 : Int)).toNat + 1) v42_2 0 x103 H locs ls w6 (show 0 ≤ a1.toInt from r7) (show a1.toInt ≤ 9 from t8) (show 0 ≤ v42_2.toInt from r9) (show v42_2.toInt ≤ 1 from t10) (show 0 ≤ v42_3.toInt from r11) (show v42_3.toInt ≤ 11 by first | with_reducible assumption | omega) (by decide) (by decide) (show 1 ≤ x103.toInt by first | with_reducible assumption | omega) (show x103.toInt ≤ 12 by first | with_reducible assumption | omega) (show (sumG 14 10 w6) + v42_2.toInt ≤ (sumG 14 10 w1) by omega) (Nat.lt_succ_self _) hw hT hF c104 (lv_sub hl [1, 2, 3, 4, 0] rfl)
      refine lv_iload_n hx hb dX12_spreads_34 rfl (lv_at hl 2 rfl) ?_
      refine lv_if_eq (tgt := 148) hx hb dX12_spreads_35 (by decide) (fun c108 => ?_) (fun c108 => ?_)
      · have c108 : v34_2.toInt = (0 : Int) := wk_eq.mp c108
        exact tk_vret hC hr hlocks hK ⟨hT, hF, trivial⟩ hw dX12_spreads_148
      · have c108 : ¬ v34_2.toInt = (0 : Int) := wk_eqF c108
        refine lv_iconst (v := 0) hx hb dX12_spreads_38 (by decide) ?_
        refine lv_istore_n (lv' := [(2, .int 0), (0, .ref (ad 0)), (1, .int a1)]) hx hb dX12_spreads_39 rfl hl (by decide) rfl (fun ls hl => ?_)
        refine lv_iconst (v := 0) hx hb dX12_spreads_40 (by decide) ?_
        refine lv_istore_n (lv' := [(3, .int 0), (2, .int 0), (0, .ref (ad 0)), (1, .int a1)]) hx hb dX12_spreads_41 rfl hl (by decide) rfl (fun ls hl => ?_)
        have gb109 : 0 ≤ sumG 14 10 w1 ∧ sumG 14 10 w1 ≤ 1000001000 := hT.sum (lo := 0) (hi := 100000100) kM_at14 rfl (by decide) rfl
        exact L42 ((12 - (0 : Int)).toNat + 1) 0 0 H locs ls w1 (show 0 ≤ a1.toInt from r2) (show a1.toInt ≤ 9 from t3) (by decide) (by decide) (by decide) (by decide) (show (sumG 14 10 w1) + (0 : Int) ≤ (sumG 14 10 w1) by omega) (show 1 ≤ v34_2.toInt by first | with_reducible assumption | omega) (Nat.lt_succ_self _) hw hT hF  (lv_sub hl [2, 3, 1, 0] rfl)
  have L2 : ∀ (n2 : Nat) (v2_2 : Int32) (H : Heap) (locs : List Loc) (ls : Array Slot) (w110 : va_W), 0 ≤ a1.toInt → a1.toInt ≤ 9 → 0 ≤ v2_2.toInt → v2_2.toInt ≤ 10 → (10 - v2_2.toInt).toNat < n2 → Wd dC dI A s.heap H locs w110 → TW ksM ad cy B qr 12 w110 → FE ksM [(73, 0, 10)] w0 w110 → lv_has ls 7 [(0, .ref (ad 0)), (1, .int a1), (2, .int v2_2)] → W p l e ({ frames := 2, cells := 0, slots := 0, locals := 34 }) s m (List.toArray [.ref (ad 0), .int a1]) below meth c H locs 0 0 (MQ below (va_Qv (P_X12_spreads_1 ad cy B qr s1 a1 w0) (fun u : va_W => wpost dC dI cy A u) A) (List.toArray [.ref (ad 0), .int a1]) s 0 0 A) (F0 m 2 ls []) := by
    intro n2
    induction n2 with
    | zero => intro v2_2 H locs ls w110 r111 t112 r113 t114 hm2 hw hT hF hl; omega
    | succ n2 ih2 =>
      intro v2_2 H locs ls w110 r111 t112 r113 t114 hm2 hw hT hF hl
      refine lv_iload_n hx hb dX12_spreads_2 rfl (lv_at hl 2 rfl) ?_
      refine lv_bipush (v := 10) hx hb dX12_spreads_3 (by decide) ?_
      refine lv_icmp_ge (tgt := 32) hx hb dX12_spreads_5 (by decide) (fun c115 => ?_) (fun c115 => ?_)
      · have c115 : (10 : Int) ≤ v2_2.toInt := wk_le.mp c115
        refine lv_iconst (v := 1) hx hb dX12_spreads_32 (by decide) ?_
        refine lv_istore_n (lv' := [(2, .int 1), (0, .ref (ad 0)), (1, .int a1)]) hx hb dX12_spreads_33 rfl hl (by decide) rfl (fun ls hl => ?_)
        have gb116 : 0 ≤ sumG 14 10 w110 ∧ sumG 14 10 w110 ≤ 1000001000 := hT.sum (lo := 0) (hi := 100000100) kM_at14 rfl (by decide) rfl
        exact L34 ((2 * (sumG 14 10 w110) + (1 : Int)).toNat + 1) 1 H locs ls w110 (show 0 ≤ a1.toInt from r111) (show a1.toInt ≤ 9 from t112) (by decide) (by decide) (show 0 ≤ (sumG 14 10 w110) by omega) (Nat.lt_succ_self _) hw hT hF  (lv_sub hl [1, 2, 0] rfl)
      · have c115 : v2_2.toInt < (10 : Int) := wk_leF c115
        refine lv_aload_n hx hb dX12_spreads_8 rfl (lv_at hl 0 rfl) ?_
        refine tk_getA hC hK hw hT hinX12 kM_at0 (by decide) rfl 29 (by decide) (List.mem_cons_of_mem _ uw_7_4) rfl rfl dX12_spreads_9 ?_
        refine lv_iload_n hx hb dX12_spreads_12 rfl (lv_at hl 2 rfl) ?_
        refine lv_iload_n hx hb dX12_spreads_13 rfl (lv_at hl 2 rfl) ?_
        refine lv_iload_n hx hb dX12_spreads_14 rfl (lv_at hl 1 rfl) ?_
        refine lv_icmp_ne (tgt := 22) hx hb dX12_spreads_15 (by decide) (fun c117 => ?_) (fun c117 => ?_)
        · have c117 : ¬ v2_2.toInt = a1.toInt := wk_eqF c117
          refine lv_ldcw (v := 100000000) hx hb hC.2.2.2.1 (hC.2.2.2.2 _ (List.mem_cons_of_mem _ uw_38_2)) dX12_spreads_22 ?_
          refine tk_iast hC hK hw hT kM_at14 (by decide) rfl rfl (show 0 ≤ v2_2.toInt from r113) (show v2_2.toInt < 10 from c115) (by decide) (by decide) dX12_spreads_25 (fun H locs w118 hw hT k120 c119 => ?_)
          have gs121 : sumG 14 10 w118 = sumG 14 10 w110 - (gi w110 14 (v2_2.toInt.toNat)).toInt + (gi w118 14 (v2_2.toInt.toNat)).toInt := sumG_up (i := v2_2.toInt.toNat) k120 10 (show v2_2.toInt.toNat < 10 by omega)
          rw [show gi w118 14 (v2_2.toInt.toNat) = 100000000 from c119] at gs121
          rw [show (100000000 : Int32).toInt = 100000000 by decide] at gs121
          have hF := hF.put kM_at14 (inE_of (a := 0) (b := 10) (by decide) (show 0 ≤ v2_2.toInt.toNat by omega) (show v2_2.toInt.toNat ≤ 10 by omega)) k120
          obtain ⟨x122, ex122⟩ : ∃ y : Int32, y = v2_2 + Int32.ofInt 1 := ⟨_, rfl⟩
          refine lv_iinc (v := x122) (lv' := [(2, .int x122), (0, .ref (ad 0)), (1, .int a1)]) hx hb dX12_spreads_26 hl (k := 2) rfl ex122.symm (by decide) rfl (fun ls hl => ?_)
          have ex122 : x122.toInt = v2_2.toInt + 1 := by rw [ex122]; exact wk_add (y := 1) (show -2147483648 ≤ v2_2.toInt + 1 by omega) (show v2_2.toInt + 1 ≤ 2147483647 by omega)
          refine lv_goto (tgt := 2) hx hb dX12_spreads_29 (by decide) ?_
          exact ih2 x122 H locs ls w118 (show 0 ≤ a1.toInt from r111) (show a1.toInt ≤ 9 from t112) (show 0 ≤ x122.toInt by first | with_reducible assumption | omega) (show x122.toInt ≤ 10 by first | with_reducible assumption | omega) (show (10 - x122.toInt).toNat < n2 by first | exact tn_lt hm2 (by omega) (by omega) | omega) hw hT hF  (lv_sub hl [1, 2, 0] rfl)
        · have c117 : v2_2.toInt = a1.toInt := wk_eq.mp c117
          refine lv_iconst (v := 0) hx hb dX12_spreads_18 (by decide) ?_
          refine lv_goto (tgt := 25) hx hb dX12_spreads_19 (by decide) ?_
          refine tk_iast hC hK hw hT kM_at14 (by decide) rfl rfl (show 0 ≤ v2_2.toInt from r113) (show v2_2.toInt < 10 from c115) (by decide) (by decide) dX12_spreads_25 (fun H locs w123 hw hT k125 c124 => ?_)
          have gs126 : sumG 14 10 w123 = sumG 14 10 w110 - (gi w110 14 (v2_2.toInt.toNat)).toInt + (gi w123 14 (v2_2.toInt.toNat)).toInt := sumG_up (i := v2_2.toInt.toNat) k125 10 (show v2_2.toInt.toNat < 10 by omega)
          rw [show gi w123 14 (v2_2.toInt.toNat) = 0 from c124] at gs126
          rw [show (0 : Int32).toInt = 0 by decide] at gs126
          have hF := hF.put kM_at14 (inE_of (a := 0) (b := 10) (by decide) (show 0 ≤ v2_2.toInt.toNat by omega) (show v2_2.toInt.toNat ≤ 10 by omega)) k125
          obtain ⟨x127, ex127⟩ : ∃ y : Int32, y = v2_2 + Int32.ofInt 1 := ⟨_, rfl⟩
          refine lv_iinc (v := x127) (lv' := [(2, .int x127), (0, .ref (ad 0)), (1, .int a1)]) hx hb dX12_spreads_26 hl (k := 2) rfl ex127.symm (by decide) rfl (fun ls hl => ?_)
          have ex127 : x127.toInt = v2_2.toInt + 1 := by rw [ex127]; exact wk_add (y := 1) (show -2147483648 ≤ v2_2.toInt + 1 by omega) (show v2_2.toInt + 1 ≤ 2147483647 by omega)
          refine lv_goto (tgt := 2) hx hb dX12_spreads_29 (by decide) ?_
          exact ih2 x127 H locs ls w123 (show 0 ≤ a1.toInt from r111) (show a1.toInt ≤ 9 from t112) (show 0 ≤ x127.toInt by first | with_reducible assumption | omega) (show x127.toInt ≤ 10 by first | with_reducible assumption | omega) (show (10 - x127.toInt).toNat < n2 by first | exact tn_lt hm2 (by omega) (by omega) | omega) hw hT hF  (lv_sub hl [1, 2, 0] rfl)
  refine lv_iconst (v := 0) hx hb dX12_spreads_0 (by decide) ?_
  refine lv_istore_n (lv' := [(2, .int 0), (0, .ref (ad 0)), (1, .int a1)]) hx hb dX12_spreads_1 rfl hl (by decide) rfl (fun ls hl => ?_)
  exact L2 ((10 - (0 : Int)).toNat + 1) 0 s.heap locs ls w0 (show 0 ≤ a1.toInt from ra1) (show a1.toInt ≤ 9 from ta1) (by decide) (by decide) (Nat.lt_succ_self _) hw hT hF  (lv_sub hl [1, 2, 0] rfl)
abbrev P_X12_isOf_4 (ad : Nat → Nat) (cy : Nat → ClassId) (B : Int) (qr : Nat) (s1 : Int) (a0 : Int32) (w0 : va_W) : Int32 → va_W → Prop := fun r u => w0 = u ∧ ((r = 0 ∧ (¬ mOf a0 (0 : Int32))) ∨ (r = 1 ∧ (mOf a0 (0 : Int32))))
set_option maxHeartbeats 4000000 in
set_option maxRecDepth 100000 in
theorem k_X12_isOf_4 (l : Launch) (adK adV : Nat → Nat) (dC : Nat → ClassId) (dI : Nat → Nat → Nat) (cy : Nat → ClassId) (ad : Nat → Nat) (B : Int) (hB0 : 100000 ≤ B) (hB1 : B ≤ 1073741824) (qr : Nat) (s1 : Int)  (a0 : Int32) (w0 : va_W) (sz : Nat) (hT : TW ksM ad cy B qr 12 w0)  : Met l yX12_isOf (wu yX12_isOf cX12_isOf 2 (some .boolean)) ({ frames := 1, cells := 0, slots := 0, locals := 12 }) (va_Pc [.int a0, .int 0] (wpreS adK adV dC dI cy sz w0)) (va_Qi (P_X12_isOf_4 ad cy B qr s1 a0 w0) (fun u : va_W => wpost dC dI cy (va_A w0 sz) u) (va_A w0 sz)) 0 0 (va_A w0 sz) := by
  refine Met.ofW (cc := cX12_isOf) (maxL := 2) (ret := (some .boolean)) (by decide) rfl ?_
  intro p e s m args below meth c s₁ Bk hml hv
  obtain ⟨rfl, ⟨hsz, hP, hK, hD0⟩, hE, hSR⟩ := hv
  have hx := Bk.exec
  have hb := Bk.bytes
  have hr := Bk.returns
  have hlocks := Bk.notSynchronized
  have hC : CallFix p m c cX12_isOf 2 s _ (wu yX12_isOf cX12_isOf 2 (some .boolean)) RX12 := ⟨hx, hb, hml, findClass_of_methodNamed Bk.named, atoms_spec (ws := (wu yX12_isOf cX12_isOf 2 (some .boolean))) Bk.pre⟩
  subst hsz
  have hD := hD0.self (sz := s.heap.size)
  generalize hAe : va_A w0 s.heap.size = A at hD hE ⊢
  have hA : ∀ q : Nat, s.heap.size ≤ q → A q := fun q h => by rw [← hAe]; exact Or.inr h
  have hw : Wd dC dI A s.heap s.heap [] w0 := ⟨hP, hD, va_S.rf⟩
  have hF : FE ksM ([] : List (Nat × Nat × Nat)) w0 w0 := FE.rf
  have hl := lv_entry ([.int a0, .int 0]) (n := 2) (Nat.le_of_ble_eq_true rfl)
  rw [lg_entry_eq]
  generalize (lg_sl ([.int a0, .int 0]) ++ List.replicate (2 - (lg_sl ([.int a0, .int 0])).length) Slot.unset).toArray = ls at hl ⊢
  have hl : lv_has ls 2 [(0, .int a0), (1, .int 0)] := hl
  generalize hloc : ([] : List Loc) = locs at hw ⊢
  refine lv_iload_n hx hb dX12_isOf_0 rfl (lv_at hl 0 rfl) ?_
  refine lv_iload_n hx hb dX12_isOf_1 rfl (lv_at hl 1 rfl) ?_
  refine lv_ishr hx hb dX12_isOf_2 ?_
  refine lv_topi (fun x1 ex1 => ?_)
  refine lv_iconst (v := 1) hx hb dX12_isOf_3 (by decide) ?_
  refine lv_iand hx hb dX12_isOf_4 ?_
  refine lv_topi (fun x2 ex2 => ?_)
  have bx2 : 0 ≤ x2.toInt ∧ x2.toInt ≤ (1 : Int) := by rw [ex2]; exact wk_and (by decide)
  refine lv_iconst (v := 1) hx hb dX12_isOf_5 (by decide) ?_
  refine lv_icmp_ne (tgt := 13) hx hb dX12_isOf_6 (by decide) (fun c3 => ?_) (fun c3 => ?_)
  · have c3 : ¬ x2.toInt = (1 : Int) := wk_eqF c3
    refine lv_iconst (v := 0) hx hb dX12_isOf_13 (by decide) ?_
    exact tk_zret hC hr rfl hlocks hK ⟨rfl, (Or.inl ⟨rfl, (by unfold mOf; rw [← ex1, ← ex2]; omega)⟩)⟩ hw dX12_isOf_14
  · have c3 : x2.toInt = (1 : Int) := wk_eq.mp c3
    refine lv_iconst (v := 1) hx hb dX12_isOf_9 (by decide) ?_
    refine lv_goto (tgt := 14) hx hb dX12_isOf_10 (by decide) ?_
    exact tk_zret hC hr rfl hlocks hK ⟨rfl, (Or.inr ⟨rfl, (by unfold mOf; rw [← ex1, ← ex2]; omega)⟩)⟩ hw dX12_isOf_14
abbrev P_X12_isOf_5 (ad : Nat → Nat) (cy : Nat → ClassId) (B : Int) (qr : Nat) (s1 : Int) (a0 : Int32) (w0 : va_W) : Int32 → va_W → Prop := fun r u => w0 = u ∧ ((r = 0 ∧ (¬ mOf a0 (1 : Int32))) ∨ (r = 1 ∧ (mOf a0 (1 : Int32))))
set_option maxHeartbeats 4000000 in
set_option maxRecDepth 100000 in
theorem k_X12_isOf_5 (l : Launch) (adK adV : Nat → Nat) (dC : Nat → ClassId) (dI : Nat → Nat → Nat) (cy : Nat → ClassId) (ad : Nat → Nat) (B : Int) (hB0 : 100000 ≤ B) (hB1 : B ≤ 1073741824) (qr : Nat) (s1 : Int)  (a0 : Int32) (w0 : va_W) (sz : Nat) (hT : TW ksM ad cy B qr 12 w0)  : Met l yX12_isOf (wu yX12_isOf cX12_isOf 2 (some .boolean)) ({ frames := 1, cells := 0, slots := 0, locals := 12 }) (va_Pc [.int a0, .int 1] (wpreS adK adV dC dI cy sz w0)) (va_Qi (P_X12_isOf_5 ad cy B qr s1 a0 w0) (fun u : va_W => wpost dC dI cy (va_A w0 sz) u) (va_A w0 sz)) 0 0 (va_A w0 sz) := by
  refine Met.ofW (cc := cX12_isOf) (maxL := 2) (ret := (some .boolean)) (by decide) rfl ?_
  intro p e s m args below meth c s₁ Bk hml hv
  obtain ⟨rfl, ⟨hsz, hP, hK, hD0⟩, hE, hSR⟩ := hv
  have hx := Bk.exec
  have hb := Bk.bytes
  have hr := Bk.returns
  have hlocks := Bk.notSynchronized
  have hC : CallFix p m c cX12_isOf 2 s _ (wu yX12_isOf cX12_isOf 2 (some .boolean)) RX12 := ⟨hx, hb, hml, findClass_of_methodNamed Bk.named, atoms_spec (ws := (wu yX12_isOf cX12_isOf 2 (some .boolean))) Bk.pre⟩
  subst hsz
  have hD := hD0.self (sz := s.heap.size)
  generalize hAe : va_A w0 s.heap.size = A at hD hE ⊢
  have hA : ∀ q : Nat, s.heap.size ≤ q → A q := fun q h => by rw [← hAe]; exact Or.inr h
  have hw : Wd dC dI A s.heap s.heap [] w0 := ⟨hP, hD, va_S.rf⟩
  have hF : FE ksM ([] : List (Nat × Nat × Nat)) w0 w0 := FE.rf
  have hl := lv_entry ([.int a0, .int 1]) (n := 2) (Nat.le_of_ble_eq_true rfl)
  rw [lg_entry_eq]
  generalize (lg_sl ([.int a0, .int 1]) ++ List.replicate (2 - (lg_sl ([.int a0, .int 1])).length) Slot.unset).toArray = ls at hl ⊢
  have hl : lv_has ls 2 [(0, .int a0), (1, .int 1)] := hl
  generalize hloc : ([] : List Loc) = locs at hw ⊢
  refine lv_iload_n hx hb dX12_isOf_0 rfl (lv_at hl 0 rfl) ?_
  refine lv_iload_n hx hb dX12_isOf_1 rfl (lv_at hl 1 rfl) ?_
  refine lv_ishr hx hb dX12_isOf_2 ?_
  refine lv_topi (fun x1 ex1 => ?_)
  refine lv_iconst (v := 1) hx hb dX12_isOf_3 (by decide) ?_
  refine lv_iand hx hb dX12_isOf_4 ?_
  refine lv_topi (fun x2 ex2 => ?_)
  have bx2 : 0 ≤ x2.toInt ∧ x2.toInt ≤ (1 : Int) := by rw [ex2]; exact wk_and (by decide)
  refine lv_iconst (v := 1) hx hb dX12_isOf_5 (by decide) ?_
  refine lv_icmp_ne (tgt := 13) hx hb dX12_isOf_6 (by decide) (fun c3 => ?_) (fun c3 => ?_)
  · have c3 : ¬ x2.toInt = (1 : Int) := wk_eqF c3
    refine lv_iconst (v := 0) hx hb dX12_isOf_13 (by decide) ?_
    exact tk_zret hC hr rfl hlocks hK ⟨rfl, (Or.inl ⟨rfl, (by unfold mOf; rw [← ex1, ← ex2]; omega)⟩)⟩ hw dX12_isOf_14
  · have c3 : x2.toInt = (1 : Int) := wk_eq.mp c3
    refine lv_iconst (v := 1) hx hb dX12_isOf_9 (by decide) ?_
    refine lv_goto (tgt := 14) hx hb dX12_isOf_10 (by decide) ?_
    exact tk_zret hC hr rfl hlocks hK ⟨rfl, (Or.inr ⟨rfl, (by unfold mOf; rw [← ex1, ← ex2]; omega)⟩)⟩ hw dX12_isOf_14
abbrev P_X12_hasSign_2 (ad : Nat → Nat) (cy : Nat → ClassId) (B : Int) (qr : Nat) (s1 : Int) (a1 : Int32) (a2 : Int32) (a3 : Int32) (w0 : va_W) : Int32 → va_W → Prop := fun r u => w0 = u ∧ ((r = 0 ∧ (¬ mSign w0 a1 a2.toInt a3.toInt)) ∨ (r = 0 ∧ gi u 12 (10 * a2.toInt + 10).toNat = a3 ∧ (¬ mSign w0 a1 a2.toInt a3.toInt)) ∨ (r = 1 ∧ (mSign w0 a1 a2.toInt a3.toInt)) ∨ (r = 1 ∧ gi u 12 (10 * a2.toInt + 10).toNat = a3 ∧ (mSign w0 a1 a2.toInt a3.toInt)))
set_option maxHeartbeats 4000000 in
set_option maxRecDepth 100000 in
theorem k_X12_hasSign_2 (l : Launch) (adK adV : Nat → Nat) (dC : Nat → ClassId) (dI : Nat → Nat → Nat) (cy : Nat → ClassId) (ad : Nat → Nat) (B : Int) (hB0 : 100000 ≤ B) (hB1 : B ≤ 1073741824) (qr : Nat) (s1 : Int)  (a1 : Int32) (a2 : Int32) (ra2 : 0 ≤ a2.toInt) (ta2 : a2.toInt ≤ 11) (a3 : Int32) (ra3 : 0 ≤ a3.toInt) (ta3 : a3.toInt ≤ 9) (w0 : va_W) (sz : Nat) (hT : TW ksM ad cy B qr 12 w0)  : Met l yX12_hasSign (wu yX12_hasSign cX12_hasSign 4 (some .boolean)) ({ frames := 2, cells := 0, slots := 0, locals := 34 }) (va_Pc [.ref (ad 0), .int a1, .int a2, .int a3] (wpreS adK adV dC dI cy sz w0)) (va_Qi (P_X12_hasSign_2 ad cy B qr s1 a1 a2 a3 w0) (fun u : va_W => wpost dC dI cy (va_A w0 sz) u) (va_A w0 sz)) 0 0 (va_A w0 sz) := by
  refine Met.ofW (cc := cX12_hasSign) (maxL := 4) (ret := (some .boolean)) (by decide) rfl ?_
  intro p e s m args below meth c s₁ Bk hml hv
  obtain ⟨rfl, ⟨hsz, hP, hK, hD0⟩, hE, hSR⟩ := hv
  have hx := Bk.exec
  have hb := Bk.bytes
  have hr := Bk.returns
  have hlocks := Bk.notSynchronized
  have hC : CallFix p m c cX12_hasSign 4 s _ (wu yX12_hasSign cX12_hasSign 4 (some .boolean)) RX12 := ⟨hx, hb, hml, findClass_of_methodNamed Bk.named, atoms_spec (ws := (wu yX12_hasSign cX12_hasSign 4 (some .boolean))) Bk.pre⟩
  subst hsz
  have hD := hD0.self (sz := s.heap.size)
  generalize hAe : va_A w0 s.heap.size = A at hD hE ⊢
  have hA : ∀ q : Nat, s.heap.size ≤ q → A q := fun q h => by rw [← hAe]; exact Or.inr h
  have hw : Wd dC dI A s.heap s.heap [] w0 := ⟨hP, hD, va_S.rf⟩
  have hF : FE ksM ([] : List (Nat × Nat × Nat)) w0 w0 := FE.rf
  have hl := lv_entry ([.ref (ad 0), .int a1, .int a2, .int a3]) (n := 4) (Nat.le_of_ble_eq_true rfl)
  rw [lg_entry_eq]
  generalize (lg_sl ([.ref (ad 0), .int a1, .int a2, .int a3]) ++ List.replicate (4 - (lg_sl ([.ref (ad 0), .int a1, .int a2, .int a3])).length) Slot.unset).toArray = ls at hl ⊢
  have hl : lv_has ls 4 [(0, .ref (ad 0)), (1, .int a1), (2, .int a2), (3, .int a3)] := hl
  generalize hloc : ([] : List Loc) = locs at hw ⊢
  refine lv_iload_n hx hb dX12_hasSign_0 rfl (lv_at hl 1 rfl) ?_
  refine lv_aload_n hx hb dX12_hasSign_1 rfl (lv_at hl 0 rfl) ?_
  refine lv_iload_n hx hb dX12_hasSign_2 rfl (lv_at hl 2 rfl) ?_
  refine lv_iconst (v := 0) hx hb dX12_hasSign_3 (by decide) ?_
  refine tk_Vi hC hK hw hT hA hE hSR kM_at0 (by decide) rfl (k_X12_streetOf_2 l adK adV dC dI cy ad B hB0 (Int.le_trans hB1 (by decide)) qr s1   a2 (show 0 ≤ a2.toInt from ra2) (show a2.toInt ≤ 11 from ta2) w0 s.heap.size hT ) (cwV 2 hC.2.2.2.2 uV_RX12_300 rfl rfl rfl (by decide +kernel) ⟨Nat.le_of_ble_eq_true rfl, Nat.le_of_ble_eq_true rfl⟩) rfl hl.1 rfl (Nat.le_of_ble_eq_true rfl) dX12_hasSign_4 (fun r1 w3 H locs hp2 hw => ?_)
  obtain ⟨rfl, hg8⟩ := hp2
  obtain ⟨g5, g6, c7⟩ := hg8
  refine lv_iload_n hx hb dX12_hasSign_7 rfl (lv_at hl 3 rfl) ?_
  refine lv_icmp_ne (tgt := 15) hx hb dX12_hasSign_8 (by decide) (fun c9 => ?_) (fun c9 => ?_)
  · have c9 : ¬ r1.toInt = a3.toInt := wk_eqF c9
    refine lv_iconst (v := 1) hx hb dX12_hasSign_15 (by decide) ?_
    refine tk_Si hC hK hw hT hA hE hSR (k_X12_isOf_5 l adK adV dC dI cy ad B hB0 (Int.le_trans hB1 (by decide)) qr s1   a1 w0 H.size hT ) (va_cwS 2 hC.2.2.2.2 uS_RX12_304 rfl rfl rfl (by decide +kernel) ⟨Nat.le_of_ble_eq_true rfl, Nat.le_of_ble_eq_true rfl⟩) rfl hl.1 rfl (Nat.le_of_ble_eq_true rfl) dX12_hasSign_16 (fun r10 w12 H locs hp11 hw => ?_)
    obtain ⟨rfl, hg16⟩ := hp11
    rcases hg16 with ⟨rfl, hq14⟩ | ⟨rfl, hq15⟩
    · exact tk_zret hC hr rfl hlocks hK ⟨rfl, (Or.inl ⟨rfl, (by unfold mSign; simp only [c7]; first | exact Or.inl ⟨by omega, by assumption⟩ | exact Or.inr ⟨by omega, by assumption⟩ | (rintro (⟨q1, q2⟩ | ⟨q1, q2⟩) <;> first | omega | contradiction))⟩)⟩ hw dX12_hasSign_19
    · exact tk_zret hC hr rfl hlocks hK ⟨rfl, (Or.inr (Or.inr (Or.inl ⟨rfl, (by unfold mSign; simp only [c7]; first | exact Or.inl ⟨by omega, by assumption⟩ | exact Or.inr ⟨by omega, by assumption⟩ | (rintro (⟨q1, q2⟩ | ⟨q1, q2⟩) <;> first | omega | contradiction))⟩)))⟩ hw dX12_hasSign_19
  · have c9 : r1.toInt = a3.toInt := wk_eq.mp c9
    refine lv_iconst (v := 0) hx hb dX12_hasSign_11 (by decide) ?_
    refine lv_goto (tgt := 16) hx hb dX12_hasSign_12 (by decide) ?_
    refine tk_Si hC hK hw hT hA hE hSR (k_X12_isOf_4 l adK adV dC dI cy ad B hB0 (Int.le_trans hB1 (by decide)) qr s1   a1 w0 H.size hT ) (va_cwS 2 hC.2.2.2.2 uS_RX12_304 rfl rfl rfl (by decide +kernel) ⟨Nat.le_of_ble_eq_true rfl, Nat.le_of_ble_eq_true rfl⟩) rfl hl.1 rfl (Nat.le_of_ble_eq_true rfl) dX12_hasSign_16 (fun r17 w19 H locs hp18 hw => ?_)
    obtain ⟨rfl, hg23⟩ := hp18
    rcases hg23 with ⟨rfl, hq21⟩ | ⟨rfl, hq22⟩
    · exact tk_zret hC hr rfl hlocks hK ⟨rfl, (Or.inr (Or.inl ⟨rfl, (c7.trans (wk_eq.mpr (show r1.toInt = a3.toInt by first | exact Int.le_antisymm (by omega) (by omega) | omega))), (by unfold mSign; simp only [c7]; first | exact Or.inl ⟨by omega, by assumption⟩ | exact Or.inr ⟨by omega, by assumption⟩ | (rintro (⟨q1, q2⟩ | ⟨q1, q2⟩) <;> first | omega | contradiction))⟩))⟩ hw dX12_hasSign_19
    · exact tk_zret hC hr rfl hlocks hK ⟨rfl, (Or.inr (Or.inr (Or.inr ⟨rfl, (c7.trans (wk_eq.mpr (show r1.toInt = a3.toInt by first | exact Int.le_antisymm (by omega) (by omega) | omega))), (by unfold mSign; simp only [c7]; first | exact Or.inl ⟨by omega, by assumption⟩ | exact Or.inr ⟨by omega, by assumption⟩ | (rintro (⟨q1, q2⟩ | ⟨q1, q2⟩) <;> first | omega | contradiction))⟩)))⟩ hw dX12_hasSign_19
abbrev P_X12_otherOf_1 (ad : Nat → Nat) (cy : Nat → ClassId) (B : Int) (qr : Nat) (s1 : Int) (a1 : Int32) (a2 : Int32) (w0 : va_W) : Int32 → va_W → Prop := fun r u => w0 = u ∧ ((0 ≤ r.toInt ∧ r.toInt ≤ 9) ∨ (0 ≤ r.toInt ∧ r.toInt ≤ 9 ∧ gi u 12 (10 * a1.toInt + 10).toNat = a2))
set_option maxHeartbeats 4000000 in
set_option maxRecDepth 100000 in
theorem k_X12_otherOf_1 (l : Launch) (adK adV : Nat → Nat) (dC : Nat → ClassId) (dI : Nat → Nat → Nat) (cy : Nat → ClassId) (ad : Nat → Nat) (B : Int) (hB0 : 100000 ≤ B) (hB1 : B ≤ 1073741824) (qr : Nat) (s1 : Int)  (a1 : Int32) (ra1 : 0 ≤ a1.toInt) (ta1 : a1.toInt ≤ 11) (a2 : Int32) (ra2 : 0 ≤ a2.toInt) (ta2 : a2.toInt ≤ 9) (w0 : va_W) (sz : Nat) (hT : TW ksM ad cy B qr 12 w0)  : Met l yX12_otherOf (wu yX12_otherOf cX12_otherOf 3 (some .int)) ({ frames := 2, cells := 0, slots := 0, locals := 34 }) (va_Pc [.ref (ad 0), .int a1, .int a2] (wpreS adK adV dC dI cy sz w0)) (va_Qi (P_X12_otherOf_1 ad cy B qr s1 a1 a2 w0) (fun u : va_W => wpost dC dI cy (va_A w0 sz) u) (va_A w0 sz)) 0 0 (va_A w0 sz) := by
  refine Met.ofW (cc := cX12_otherOf) (maxL := 3) (ret := (some .int)) (by decide) rfl ?_
  intro p e s m args below meth c s₁ Bk hml hv
  obtain ⟨rfl, ⟨hsz, hP, hK, hD0⟩, hE, hSR⟩ := hv
  have hx := Bk.exec
  have hb := Bk.bytes
  have hr := Bk.returns
  have hlocks := Bk.notSynchronized
  have hC : CallFix p m c cX12_otherOf 3 s _ (wu yX12_otherOf cX12_otherOf 3 (some .int)) RX12 := ⟨hx, hb, hml, findClass_of_methodNamed Bk.named, atoms_spec (ws := (wu yX12_otherOf cX12_otherOf 3 (some .int))) Bk.pre⟩
  subst hsz
  have hD := hD0.self (sz := s.heap.size)
  generalize hAe : va_A w0 s.heap.size = A at hD hE ⊢
  have hA : ∀ q : Nat, s.heap.size ≤ q → A q := fun q h => by rw [← hAe]; exact Or.inr h
  have hw : Wd dC dI A s.heap s.heap [] w0 := ⟨hP, hD, va_S.rf⟩
  have hF : FE ksM ([] : List (Nat × Nat × Nat)) w0 w0 := FE.rf
  have hl := lv_entry ([.ref (ad 0), .int a1, .int a2]) (n := 3) (Nat.le_of_ble_eq_true rfl)
  rw [lg_entry_eq]
  generalize (lg_sl ([.ref (ad 0), .int a1, .int a2]) ++ List.replicate (3 - (lg_sl ([.ref (ad 0), .int a1, .int a2])).length) Slot.unset).toArray = ls at hl ⊢
  have hl : lv_has ls 3 [(0, .ref (ad 0)), (1, .int a1), (2, .int a2)] := hl
  generalize hloc : ([] : List Loc) = locs at hw ⊢
  refine lv_aload_n hx hb dX12_otherOf_0 rfl (lv_at hl 0 rfl) ?_
  refine lv_iload_n hx hb dX12_otherOf_1 rfl (lv_at hl 1 rfl) ?_
  refine lv_iconst (v := 0) hx hb dX12_otherOf_2 (by decide) ?_
  refine tk_Vi hC hK hw hT hA hE hSR kM_at0 (by decide) rfl (k_X12_streetOf_2 l adK adV dC dI cy ad B hB0 (Int.le_trans hB1 (by decide)) qr s1   a1 (show 0 ≤ a1.toInt from ra1) (show a1.toInt ≤ 11 from ta1) w0 s.heap.size hT ) (cwV 2 hC.2.2.2.2 uV_RX12_300 rfl rfl rfl (by decide +kernel) ⟨Nat.le_of_ble_eq_true rfl, Nat.le_of_ble_eq_true rfl⟩) rfl hl.1 rfl (Nat.le_of_ble_eq_true rfl) dX12_otherOf_3 (fun r1 w3 H locs hp2 hw => ?_)
  obtain ⟨rfl, hg8⟩ := hp2
  obtain ⟨g5, g6, c7⟩ := hg8
  refine lv_iload_n hx hb dX12_otherOf_6 rfl (lv_at hl 2 rfl) ?_
  refine lv_icmp_ne (tgt := 19) hx hb dX12_otherOf_7 (by decide) (fun c9 => ?_) (fun c9 => ?_)
  · have c9 : ¬ r1.toInt = a2.toInt := wk_eqF c9
    refine lv_aload_n hx hb dX12_otherOf_19 rfl (lv_at hl 0 rfl) ?_
    refine lv_iload_n hx hb dX12_otherOf_20 rfl (lv_at hl 1 rfl) ?_
    refine lv_iconst (v := 0) hx hb dX12_otherOf_21 (by decide) ?_
    refine tk_Vi hC hK hw hT hA hE hSR kM_at0 (by decide) rfl (k_X12_streetOf_2 l adK adV dC dI cy ad B hB0 (Int.le_trans hB1 (by decide)) qr s1   a1 (show 0 ≤ a1.toInt from ra1) (show a1.toInt ≤ 11 from ta1) w0 H.size hT ) (cwV 2 hC.2.2.2.2 uV_RX12_300 rfl rfl rfl (by decide +kernel) ⟨Nat.le_of_ble_eq_true rfl, Nat.le_of_ble_eq_true rfl⟩) rfl hl.1 rfl (Nat.le_of_ble_eq_true rfl) dX12_otherOf_22 (fun r10 w12 H locs hp11 hw => ?_)
    obtain ⟨rfl, hg17⟩ := hp11
    obtain ⟨g14, g15, c16⟩ := hg17
    obtain rfl : r1 = r10 := c7.symm.trans c16
    exact tk_iret hC hr hlocks hK ⟨rfl, (Or.inl ⟨(show 0 ≤ r1.toInt by first | with_reducible assumption | omega), (show r1.toInt ≤ 9 by first | with_reducible assumption | omega)⟩)⟩ hw dX12_otherOf_25
  · have c9 : r1.toInt = a2.toInt := wk_eq.mp c9
    refine lv_aload_n hx hb dX12_otherOf_10 rfl (lv_at hl 0 rfl) ?_
    refine lv_iload_n hx hb dX12_otherOf_11 rfl (lv_at hl 1 rfl) ?_
    refine lv_iconst (v := 1) hx hb dX12_otherOf_12 (by decide) ?_
    refine tk_Vi hC hK hw hT hA hE hSR kM_at0 (by decide) rfl (k_X12_streetOf_3 l adK adV dC dI cy ad B hB0 (Int.le_trans hB1 (by decide)) qr s1   a1 (show 0 ≤ a1.toInt from ra1) (show a1.toInt ≤ 11 from ta1) w0 H.size hT ) (cwV 2 hC.2.2.2.2 uV_RX12_300 rfl rfl rfl (by decide +kernel) ⟨Nat.le_of_ble_eq_true rfl, Nat.le_of_ble_eq_true rfl⟩) rfl hl.1 rfl (Nat.le_of_ble_eq_true rfl) dX12_otherOf_13 (fun r18 w20 H locs hp19 hw => ?_)
    obtain ⟨rfl, hg25⟩ := hp19
    obtain ⟨g22, g23, c24⟩ := hg25
    refine lv_goto (tgt := 25) hx hb dX12_otherOf_16 (by decide) ?_
    exact tk_iret hC hr hlocks hK ⟨rfl, (Or.inr ⟨(show 0 ≤ r18.toInt by first | with_reducible assumption | omega), (show r18.toInt ≤ 9 by first | with_reducible assumption | omega), (c7.trans (wk_eq.mpr (show r1.toInt = a2.toInt by first | exact Int.le_antisymm (by omega) (by omega) | omega)))⟩)⟩ hw dX12_otherOf_25
abbrev P_X12_streetFrom_1 (ad : Nat → Nat) (cy : Nat → ClassId) (B : Int) (qr : Nat) (s1 : Int) (a1 : Int32) (w0 : va_W) : Int32 → va_W → Prop := fun r u => w0 = u ∧ ((0 ≤ r.toInt ∧ r.toInt ≤ 11 ∧ (∃ y : Int32, gi u 12 1 = y ∧ 1 ≤ y.toInt ∧ y.toInt ≤ 12) ∧ gi u 12 (10 * r.toInt + 10).toNat = a1 ∧ gi u 12 (10 * r.toInt + 11).toNat = a1) ∨ (0 ≤ r.toInt ∧ r.toInt ≤ 11 ∧ (∃ y : Int32, gi u 12 1 = y ∧ 1 ≤ y.toInt ∧ y.toInt ≤ 12) ∧ gi u 12 (10 * r.toInt + 10).toNat = a1) ∨ (0 ≤ r.toInt ∧ r.toInt ≤ 11 ∧ (∃ y : Int32, gi u 12 1 = y ∧ 1 ≤ y.toInt ∧ y.toInt ≤ 12) ∧ gi u 12 (10 * r.toInt + 11).toNat = a1) ∨ (r = (-1)))
set_option maxHeartbeats 4000000 in
set_option maxRecDepth 100000 in
theorem k_X12_streetFrom_1 (l : Launch) (adK adV : Nat → Nat) (dC : Nat → ClassId) (dI : Nat → Nat → Nat) (cy : Nat → ClassId) (ad : Nat → Nat) (B : Int) (hB0 : 100000 ≤ B) (hB1 : B ≤ 1073741824) (qr : Nat) (s1 : Int)  (a1 : Int32) (ra1 : 0 ≤ a1.toInt) (ta1 : a1.toInt ≤ 9) (w0 : va_W) (sz : Nat) (hT : TW ksM ad cy B qr 12 w0)  : Met l yX12_streetFrom (wu yX12_streetFrom cX12_streetFrom 3 (some .int)) ({ frames := 3, cells := 0, slots := 0, locals := 57 }) (va_Pc [.ref (ad 0), .int a1] (wpreS adK adV dC dI cy sz w0)) (va_Qi (P_X12_streetFrom_1 ad cy B qr s1 a1 w0) (fun u : va_W => wpost dC dI cy (va_A w0 sz) u) (va_A w0 sz)) 0 0 (va_A w0 sz) := by
  refine Met.ofW (cc := cX12_streetFrom) (maxL := 3) (ret := (some .int)) (by decide) rfl ?_
  intro p e s m args below meth c s₁ Bk hml hv
  obtain ⟨rfl, ⟨hsz, hP, hK, hD0⟩, hE, hSR⟩ := hv
  have hx := Bk.exec
  have hb := Bk.bytes
  have hr := Bk.returns
  have hlocks := Bk.notSynchronized
  have hC : CallFix p m c cX12_streetFrom 3 s _ (wu yX12_streetFrom cX12_streetFrom 3 (some .int)) RX12 := ⟨hx, hb, hml, findClass_of_methodNamed Bk.named, atoms_spec (ws := (wu yX12_streetFrom cX12_streetFrom 3 (some .int))) Bk.pre⟩
  subst hsz
  have hD := hD0.self (sz := s.heap.size)
  generalize hAe : va_A w0 s.heap.size = A at hD hE ⊢
  have hA : ∀ q : Nat, s.heap.size ≤ q → A q := fun q h => by rw [← hAe]; exact Or.inr h
  have hw : Wd dC dI A s.heap s.heap [] w0 := ⟨hP, hD, va_S.rf⟩
  have hF : FE ksM ([] : List (Nat × Nat × Nat)) w0 w0 := FE.rf
  have hl := lv_entry ([.ref (ad 0), .int a1]) (n := 3) (Nat.le_of_ble_eq_true rfl)
  rw [lg_entry_eq]
  generalize (lg_sl ([.ref (ad 0), .int a1]) ++ List.replicate (3 - (lg_sl ([.ref (ad 0), .int a1])).length) Slot.unset).toArray = ls at hl ⊢
  have hl : lv_has ls 3 [(0, .ref (ad 0)), (1, .int a1)] := hl
  generalize hloc : ([] : List Loc) = locs at hw ⊢
  have hinX12 : ∀ w ∈ u_ws RX12 TX12 42, w ∈ (wu yX12_streetFrom cX12_streetFrom 3 (some .int)) := fun _ h => List.mem_cons_of_mem _ (up_71 h)
  have J21 : ∀ (f21_14__a1_toInt_toNat : Int32) (H : Heap) (locs : List Loc) (ls : Array Slot), 0 ≤ a1.toInt → a1.toInt ≤ 9 → 0 ≤ f21_14__a1_toInt_toNat.toInt → f21_14__a1_toInt_toNat.toInt ≤ 100000000 → Wd dC dI A s.heap H locs w0 → gi w0 14 (a1.toInt).toNat = f21_14__a1_toInt_toNat → lv_has ls 3 [(0, .ref (ad 0)), (1, .int a1)] → W p l e ({ frames := 3, cells := 0, slots := 0, locals := 57 }) s m (List.toArray [.ref (ad 0), .int a1]) below meth c H locs 0 0 (MQ below (va_Qi (P_X12_streetFrom_1 ad cy B qr s1 a1 w0) (fun u : va_W => wpost dC dI cy A u) A) (List.toArray [.ref (ad 0), .int a1]) s 0 0 A) (F0 m 21 ls []) := by
    intro f21_14__a1_toInt_toNat H locs ls r1 t2 r3 t4 hw c5 hl
    refine lv_iconst (v := (-1)) hx hb dX12_streetFrom_21 (by decide) ?_
    exact tk_iret hC hr hlocks hK ⟨rfl, (Or.inr (Or.inr (Or.inr rfl)))⟩ hw dX12_streetFrom_22
  have L25 : ∀ (n25 : Nat) (v25_2 : Int32) (f25_14__a1_toInt_toNat : Int32) (H : Heap) (locs : List Loc) (ls : Array Slot), 0 ≤ a1.toInt → a1.toInt ≤ 9 → 0 ≤ v25_2.toInt → v25_2.toInt ≤ 12 → 1 ≤ f25_14__a1_toInt_toNat.toInt → f25_14__a1_toInt_toNat.toInt ≤ 100000100 → (12 - v25_2.toInt).toNat < n25 → Wd dC dI A s.heap H locs w0 → gi w0 14 (a1.toInt).toNat = f25_14__a1_toInt_toNat → lv_has ls 3 [(0, .ref (ad 0)), (1, .int a1), (2, .int v25_2)] → W p l e ({ frames := 3, cells := 0, slots := 0, locals := 57 }) s m (List.toArray [.ref (ad 0), .int a1]) below meth c H locs 0 0 (MQ below (va_Qi (P_X12_streetFrom_1 ad cy B qr s1 a1 w0) (fun u : va_W => wpost dC dI cy A u) A) (List.toArray [.ref (ad 0), .int a1]) s 0 0 A) (F0 m 25 ls []) := by
    intro n25
    induction n25 with
    | zero => intro v25_2 f25_14__a1_toInt_toNat H locs ls r6 t7 r8 t9 r10 t11 hm25 hw c12 hl; omega
    | succ n25 ih25 =>
      intro v25_2 f25_14__a1_toInt_toNat H locs ls r6 t7 r8 t9 r10 t11 hm25 hw c12 hl
      have J88 : ∀ (f88_12_1 : Int32) (H : Heap) (locs : List Loc) (ls : Array Slot), 0 ≤ a1.toInt → a1.toInt ≤ 9 → 0 ≤ v25_2.toInt → v25_2.toInt ≤ 11 → 1 ≤ f88_12_1.toInt → f88_12_1.toInt ≤ 12 → 1 ≤ f25_14__a1_toInt_toNat.toInt → f25_14__a1_toInt_toNat.toInt ≤ 100000100 → Wd dC dI A s.heap H locs w0 → gi w0 12 1 = f88_12_1 → gi w0 14 (a1.toInt).toNat = f25_14__a1_toInt_toNat → lv_has ls 3 [(0, .ref (ad 0)), (1, .int a1), (2, .int v25_2)] → W p l e ({ frames := 3, cells := 0, slots := 0, locals := 57 }) s m (List.toArray [.ref (ad 0), .int a1]) below meth c H locs 0 0 (MQ below (va_Qi (P_X12_streetFrom_1 ad cy B qr s1 a1 w0) (fun u : va_W => wpost dC dI cy A u) A) (List.toArray [.ref (ad 0), .int a1]) s 0 0 A) (F0 m 88 ls []) := by
        intro f88_12_1 H locs ls r13 t14 r15 t16 r17 t18 r20 t21 hw c19 c22 hl
        obtain ⟨x23, ex23⟩ : ∃ y : Int32, y = v25_2 + Int32.ofInt 1 := ⟨_, rfl⟩
        refine lv_iinc (v := x23) (lv' := [(2, .int x23), (0, .ref (ad 0)), (1, .int a1)]) hx hb dX12_streetFrom_88 hl (k := 2) rfl ex23.symm (by decide) rfl (fun ls hl => ?_)
        have ex23 : x23.toInt = v25_2.toInt + 1 := by rw [ex23]; exact wk_add (y := 1) (show -2147483648 ≤ v25_2.toInt + 1 by omega) (show v25_2.toInt + 1 ≤ 2147483647 by omega)
        refine lv_goto (tgt := 25) hx hb dX12_streetFrom_91 (by decide) ?_
        exact ih25 x23 f25_14__a1_toInt_toNat H locs ls  (show 0 ≤ a1.toInt from r13) (show a1.toInt ≤ 9 from t14) (show 0 ≤ x23.toInt by first | with_reducible assumption | omega) (show x23.toInt ≤ 12 by first | with_reducible assumption | omega) (show 1 ≤ f25_14__a1_toInt_toNat.toInt from r20) (show f25_14__a1_toInt_toNat.toInt ≤ 100000100 from t21) (show (12 - x23.toInt).toNat < n25 by first | exact tn_lt hm25 (by omega) (by omega) | omega) hw  c22 (lv_sub hl [1, 2, 0] rfl)
      refine lv_iload_n hx hb dX12_streetFrom_25 rfl (lv_at hl 2 rfl) ?_
      refine lv_aload_n hx hb dX12_streetFrom_26 rfl (lv_at hl 0 rfl) ?_
      refine tk_getA hC hK hw hT hinX12 kM_at0 (by decide) rfl 26 (by decide) (List.mem_cons_of_mem _ uw_7_1) rfl rfl dX12_streetFrom_27 ?_
      refine lv_iconst (v := 1) hx hb dX12_streetFrom_30 (by decide) ?_
      refine tk_ialdR hC hK hw hT kM_at12 rfl (by decide) (by decide) dX12_streetFrom_31 (fun x24 c25 Ex24 => ?_)
      have bx24 : 0 ≤ x24.toInt ∧ x24.toInt ≤ 12 := (tk_rg1 rfl).mp Ex24
      have c25 : gi w0 12 1 = x24 := c25
      refine lv_icmp_ge (tgt := 94) hx hb dX12_streetFrom_32 (by decide) (fun c26 => ?_) (fun c26 => ?_)
      · have c26 : x24.toInt ≤ v25_2.toInt := wk_le.mp c26
        refine lv_iconst (v := (-1)) hx hb dX12_streetFrom_94 (by decide) ?_
        exact tk_iret hC hr hlocks hK ⟨rfl, (Or.inr (Or.inr (Or.inr rfl)))⟩ hw dX12_streetFrom_95
      · have c26 : v25_2.toInt < x24.toInt := wk_leF c26
        refine lv_aload_n hx hb dX12_streetFrom_35 rfl (lv_at hl 0 rfl) ?_
        refine lv_iload_n hx hb dX12_streetFrom_36 rfl (lv_at hl 2 rfl) ?_
        refine lv_iload_n hx hb dX12_streetFrom_37 rfl (lv_at hl 1 rfl) ?_
        refine tk_Vi hC hK hw hT hA hE hSR kM_at0 (by decide) rfl (k_X12_isAt_1 l adK adV dC dI cy ad B hB0 (Int.le_trans hB1 (by decide)) qr s1   v25_2 (show 0 ≤ v25_2.toInt from r8) (show v25_2.toInt ≤ 11 by first | with_reducible assumption | omega) a1 (show 0 ≤ a1.toInt from r6) (show a1.toInt ≤ 9 from t7) w0 H.size hT ) (cwV 2 hC.2.2.2.2 uV_RX12_314 rfl rfl rfl (by decide +kernel) ⟨Nat.le_of_ble_eq_true rfl, Nat.le_of_ble_eq_true rfl⟩) rfl hl.1 rfl (Nat.le_of_ble_eq_true rfl) dX12_streetFrom_38 (fun r27 w29 H locs hp28 hw => ?_)
        obtain ⟨rfl, hg36⟩ := hp28
        rcases hg36 with ⟨rfl, hq31⟩ | ⟨rfl, c32, hq33⟩ | ⟨rfl, c34, hq35⟩
        · refine lv_if_eq (tgt := 88) hx hb dX12_streetFrom_41 (by decide) (fun _ => ?_) (fun c => absurd (by decide) c)
          exact J88 x24 H locs ls  (show 0 ≤ a1.toInt from r6) (show a1.toInt ≤ 9 from t7) (show 0 ≤ v25_2.toInt from r8) (show v25_2.toInt ≤ 11 by first | with_reducible assumption | omega) (show 1 ≤ x24.toInt by first | with_reducible assumption | omega) (show x24.toInt ≤ 12 by first | with_reducible assumption | omega) (show 1 ≤ f25_14__a1_toInt_toNat.toInt from r10) (show f25_14__a1_toInt_toNat.toInt ≤ 100000100 from t11)  hw  c25 c12 (lv_sub hl [0, 1, 2] rfl)
        · refine lv_if_eq (tgt := 88) hx hb dX12_streetFrom_41 (by decide) (fun c => absurd c (by decide)) (fun _ => ?_)
          refine lv_aload_n hx hb dX12_streetFrom_44 rfl (lv_at hl 0 rfl) ?_
          refine lv_aload_n hx hb dX12_streetFrom_45 rfl (lv_at hl 0 rfl) ?_
          refine tk_getA hC hK hw hT hinX12 kM_at0 (by decide) rfl 28 (by decide) (List.mem_cons_of_mem _ uw_7_3) rfl rfl dX12_streetFrom_46 ?_
          refine lv_iload_n hx hb dX12_streetFrom_49 rfl (lv_at hl 2 rfl) ?_
          refine tk_iald hC hK hw hT kM_at13 rfl rfl (show 0 ≤ v25_2.toInt from r8) (show v25_2.toInt < 12 by first | with_reducible assumption | omega) dX12_streetFrom_50 (fun x37 c38 rx37 tx37 => ?_)
          refine lv_iload_n hx hb dX12_streetFrom_51 rfl (lv_at hl 2 rfl) ?_
          refine lv_iload_n hx hb dX12_streetFrom_52 rfl (lv_at hl 1 rfl) ?_
          refine tk_Vi hC hK hw hT hA hE hSR kM_at0 (by decide) rfl (k_X12_hasSign_2 l adK adV dC dI cy ad B hB0 (Int.le_trans hB1 (by decide)) qr s1   x37 v25_2 (show 0 ≤ v25_2.toInt from r8) (show v25_2.toInt ≤ 11 by first | with_reducible assumption | omega) a1 (show 0 ≤ a1.toInt from r6) (show a1.toInt ≤ 9 from t7) w0 H.size hT ) (cwV 3 hC.2.2.2.2 uV_RX12_307 rfl rfl rfl (by decide +kernel) ⟨Nat.le_of_ble_eq_true rfl, Nat.le_of_ble_eq_true rfl⟩) rfl hl.1 rfl (Nat.le_of_ble_eq_true rfl) dX12_streetFrom_53 (fun r39 w41 H locs hp40 hw => ?_)
          obtain ⟨rfl, hg49⟩ := hp40
          rcases hg49 with ⟨rfl, hq43⟩ | ⟨rfl, c44, hq45⟩ | ⟨rfl, hq46⟩ | ⟨rfl, c47, hq48⟩
          · refine lv_if_eq (tgt := 88) hx hb dX12_streetFrom_56 (by decide) (fun _ => ?_) (fun c => absurd (by decide) c)
            exact J88 x24 H locs ls  (show 0 ≤ a1.toInt from r6) (show a1.toInt ≤ 9 from t7) (show 0 ≤ v25_2.toInt from r8) (show v25_2.toInt ≤ 11 by first | with_reducible assumption | omega) (show 1 ≤ x24.toInt by first | with_reducible assumption | omega) (show x24.toInt ≤ 12 by first | with_reducible assumption | omega) (show 1 ≤ f25_14__a1_toInt_toNat.toInt from r10) (show f25_14__a1_toInt_toNat.toInt ≤ 100000100 from t11)  hw  c25 c12 (lv_sub hl [0, 1, 2] rfl)
          · refine lv_if_eq (tgt := 88) hx hb dX12_streetFrom_56 (by decide) (fun _ => ?_) (fun c => absurd (by decide) c)
            exact J88 x24 H locs ls  (show 0 ≤ a1.toInt from r6) (show a1.toInt ≤ 9 from t7) (show 0 ≤ v25_2.toInt from r8) (show v25_2.toInt ≤ 11 by first | with_reducible assumption | omega) (show 1 ≤ x24.toInt by first | with_reducible assumption | omega) (show x24.toInt ≤ 12 by first | with_reducible assumption | omega) (show 1 ≤ f25_14__a1_toInt_toNat.toInt from r10) (show f25_14__a1_toInt_toNat.toInt ≤ 100000100 from t11)  hw  c25 c12 (lv_sub hl [0, 1, 2] rfl)
          · refine lv_if_eq (tgt := 88) hx hb dX12_streetFrom_56 (by decide) (fun c => absurd c (by decide)) (fun _ => ?_)
            refine lv_aload_n hx hb dX12_streetFrom_59 rfl (lv_at hl 0 rfl) ?_
            refine lv_iload_n hx hb dX12_streetFrom_60 rfl (lv_at hl 2 rfl) ?_
            refine lv_iconst (v := 2) hx hb dX12_streetFrom_61 (by decide) ?_
            refine tk_Vi hC hK hw hT hA hE hSR kM_at0 (by decide) rfl (k_X12_streetOf_6 l adK adV dC dI cy ad B hB0 (Int.le_trans hB1 (by decide)) qr s1   v25_2 (show 0 ≤ v25_2.toInt from r8) (show v25_2.toInt ≤ 11 by first | with_reducible assumption | omega) w0 H.size hT ) (cwV 2 hC.2.2.2.2 uV_RX12_300 rfl rfl rfl (by decide +kernel) ⟨Nat.le_of_ble_eq_true rfl, Nat.le_of_ble_eq_true rfl⟩) rfl hl.1 rfl (Nat.le_of_ble_eq_true rfl) dX12_streetFrom_62 (fun r50 w52 H locs hp51 hw => ?_)
            obtain ⟨rfl, hg57⟩ := hp51
            obtain ⟨g54, g55, c56⟩ := hg57
            refine lv_aload_n hx hb dX12_streetFrom_65 rfl (lv_at hl 0 rfl) ?_
            refine tk_getA hC hK hw hT hinX12 kM_at0 (by decide) rfl 29 (by decide) (List.mem_cons_of_mem _ uw_7_4) rfl rfl dX12_streetFrom_66 ?_
            refine lv_aload_n hx hb dX12_streetFrom_69 rfl (lv_at hl 0 rfl) ?_
            refine lv_iload_n hx hb dX12_streetFrom_70 rfl (lv_at hl 2 rfl) ?_
            refine lv_iload_n hx hb dX12_streetFrom_71 rfl (lv_at hl 1 rfl) ?_
            refine tk_Vi hC hK hw hT hA hE hSR kM_at0 (by decide) rfl (k_X12_otherOf_1 l adK adV dC dI cy ad B hB0 (Int.le_trans hB1 (by decide)) qr s1   v25_2 (show 0 ≤ v25_2.toInt from r8) (show v25_2.toInt ≤ 11 by first | with_reducible assumption | omega) a1 (show 0 ≤ a1.toInt from r6) (show a1.toInt ≤ 9 from t7) w0 H.size hT ) (cwV 2 hC.2.2.2.2 uV_RX12_348 rfl rfl rfl (by decide +kernel) ⟨Nat.le_of_ble_eq_true rfl, Nat.le_of_ble_eq_true rfl⟩) rfl hl.1 rfl (Nat.le_of_ble_eq_true rfl) dX12_streetFrom_72 (fun r58 w60 H locs hp59 hw => ?_)
            obtain ⟨rfl, hg67⟩ := hp59
            rcases hg67 with ⟨g62, g63⟩ | ⟨g64, g65, c66⟩
            · refine tk_iald hC hK hw hT kM_at14 rfl rfl (show 0 ≤ r58.toInt by first | with_reducible assumption | omega) (show r58.toInt < 10 by first | with_reducible assumption | omega) dX12_streetFrom_75 (fun x68 c69 rx68 tx68 => ?_)
              have c69 : gi w0 14 (r58.toInt).toNat = x68 := (congrArg (gi w0 14) (congrArg Int.toNat (show r58.toInt = r58.toInt from rfl))).trans c69
              refine lv_iadd hx hb dX12_streetFrom_76 ?_
              refine lv_topi (fun x70 ex70 => ?_)
              have ex70 : x70.toInt = r50.toInt + x68.toInt := by rw [ex70]; exact wk_add (show (-2147483648) ≤ r50.toInt + x68.toInt by omega) (show r50.toInt + x68.toInt ≤ 2147483647 by omega)
              refine lv_aload_n hx hb dX12_streetFrom_77 rfl (lv_at hl 0 rfl) ?_
              refine tk_getA hC hK hw hT hinX12 kM_at0 (by decide) rfl 29 (by decide) (List.mem_cons_of_mem _ uw_7_4) rfl rfl dX12_streetFrom_78 ?_
              refine lv_iload_n hx hb dX12_streetFrom_81 rfl (lv_at hl 1 rfl) ?_
              refine tk_iald hC hK hw hT kM_at14 rfl rfl (show 0 ≤ a1.toInt from r6) (show a1.toInt < 10 from Int.lt_of_le_of_lt t7 (by decide)) dX12_streetFrom_82 (fun x71 c72 rx71 tx71 => ?_)
              have c72 : gi w0 14 (a1.toInt).toNat = x71 := (congrArg (gi w0 14) (congrArg Int.toNat (show a1.toInt = a1.toInt from rfl))).trans c72
              refine wk_top f25_14__a1_toInt_toNat (c72.symm.trans c12) ?_
              refine lv_icmp_ne (tgt := 88) hx hb dX12_streetFrom_83 (by decide) (fun c73 => ?_) (fun c73 => ?_)
              · have c73 : ¬ x70.toInt = f25_14__a1_toInt_toNat.toInt := wk_eqF c73
                exact J88 x24 H locs ls  (show 0 ≤ a1.toInt from r6) (show a1.toInt ≤ 9 from t7) (show 0 ≤ v25_2.toInt from r8) (show v25_2.toInt ≤ 11 by first | with_reducible assumption | omega) (show 1 ≤ x24.toInt by first | with_reducible assumption | omega) (show x24.toInt ≤ 12 by first | with_reducible assumption | omega) (show 1 ≤ f25_14__a1_toInt_toNat.toInt from r10) (show f25_14__a1_toInt_toNat.toInt ≤ 100000100 from t11)  hw  c25 c12 (lv_sub hl [0, 1, 2] rfl)
              · have c73 : x70.toInt = f25_14__a1_toInt_toNat.toInt := wk_eq.mp c73
                refine lv_iload_n hx hb dX12_streetFrom_86 rfl (lv_at hl 2 rfl) ?_
                exact tk_iret hC hr hlocks hK ⟨rfl, (Or.inr (Or.inl ⟨(show 0 ≤ v25_2.toInt from r8), (show v25_2.toInt ≤ 11 by first | with_reducible assumption | omega), ⟨x24, c25, (show 1 ≤ x24.toInt by first | with_reducible assumption | omega), (show x24.toInt ≤ 12 by first | with_reducible assumption | omega)⟩, c32⟩))⟩ hw dX12_streetFrom_87
            · refine tk_iald hC hK hw hT kM_at14 rfl rfl (show 0 ≤ r58.toInt by first | with_reducible assumption | omega) (show r58.toInt < 10 by first | with_reducible assumption | omega) dX12_streetFrom_75 (fun x74 c75 rx74 tx74 => ?_)
              have c75 : gi w0 14 (r58.toInt).toNat = x74 := (congrArg (gi w0 14) (congrArg Int.toNat (show r58.toInt = r58.toInt from rfl))).trans c75
              refine lv_iadd hx hb dX12_streetFrom_76 ?_
              refine lv_topi (fun x76 ex76 => ?_)
              have ex76 : x76.toInt = r50.toInt + x74.toInt := by rw [ex76]; exact wk_add (show (-2147483648) ≤ r50.toInt + x74.toInt by omega) (show r50.toInt + x74.toInt ≤ 2147483647 by omega)
              refine lv_aload_n hx hb dX12_streetFrom_77 rfl (lv_at hl 0 rfl) ?_
              refine tk_getA hC hK hw hT hinX12 kM_at0 (by decide) rfl 29 (by decide) (List.mem_cons_of_mem _ uw_7_4) rfl rfl dX12_streetFrom_78 ?_
              refine lv_iload_n hx hb dX12_streetFrom_81 rfl (lv_at hl 1 rfl) ?_
              refine tk_iald hC hK hw hT kM_at14 rfl rfl (show 0 ≤ a1.toInt from r6) (show a1.toInt < 10 from Int.lt_of_le_of_lt t7 (by decide)) dX12_streetFrom_82 (fun x77 c78 rx77 tx77 => ?_)
              have c78 : gi w0 14 (a1.toInt).toNat = x77 := (congrArg (gi w0 14) (congrArg Int.toNat (show a1.toInt = a1.toInt from rfl))).trans c78
              refine wk_top f25_14__a1_toInt_toNat (c78.symm.trans c12) ?_
              refine lv_icmp_ne (tgt := 88) hx hb dX12_streetFrom_83 (by decide) (fun c79 => ?_) (fun c79 => ?_)
              · have c79 : ¬ x76.toInt = f25_14__a1_toInt_toNat.toInt := wk_eqF c79
                exact J88 x24 H locs ls  (show 0 ≤ a1.toInt from r6) (show a1.toInt ≤ 9 from t7) (show 0 ≤ v25_2.toInt from r8) (show v25_2.toInt ≤ 11 by first | with_reducible assumption | omega) (show 1 ≤ x24.toInt by first | with_reducible assumption | omega) (show x24.toInt ≤ 12 by first | with_reducible assumption | omega) (show 1 ≤ f25_14__a1_toInt_toNat.toInt from r10) (show f25_14__a1_toInt_toNat.toInt ≤ 100000100 from t11)  hw  c25 c12 (lv_sub hl [0, 1, 2] rfl)
              · have c79 : x76.toInt = f25_14__a1_toInt_toNat.toInt := wk_eq.mp c79
                refine lv_iload_n hx hb dX12_streetFrom_86 rfl (lv_at hl 2 rfl) ?_
                exact tk_iret hC hr hlocks hK ⟨rfl, (Or.inr (Or.inl ⟨(show 0 ≤ v25_2.toInt from r8), (show v25_2.toInt ≤ 11 by first | with_reducible assumption | omega), ⟨x24, c25, (show 1 ≤ x24.toInt by first | with_reducible assumption | omega), (show x24.toInt ≤ 12 by first | with_reducible assumption | omega)⟩, c32⟩))⟩ hw dX12_streetFrom_87
          · refine lv_if_eq (tgt := 88) hx hb dX12_streetFrom_56 (by decide) (fun c => absurd c (by decide)) (fun _ => ?_)
            refine lv_aload_n hx hb dX12_streetFrom_59 rfl (lv_at hl 0 rfl) ?_
            refine lv_iload_n hx hb dX12_streetFrom_60 rfl (lv_at hl 2 rfl) ?_
            refine lv_iconst (v := 2) hx hb dX12_streetFrom_61 (by decide) ?_
            refine tk_Vi hC hK hw hT hA hE hSR kM_at0 (by decide) rfl (k_X12_streetOf_6 l adK adV dC dI cy ad B hB0 (Int.le_trans hB1 (by decide)) qr s1   v25_2 (show 0 ≤ v25_2.toInt from r8) (show v25_2.toInt ≤ 11 by first | with_reducible assumption | omega) w0 H.size hT ) (cwV 2 hC.2.2.2.2 uV_RX12_300 rfl rfl rfl (by decide +kernel) ⟨Nat.le_of_ble_eq_true rfl, Nat.le_of_ble_eq_true rfl⟩) rfl hl.1 rfl (Nat.le_of_ble_eq_true rfl) dX12_streetFrom_62 (fun r80 w82 H locs hp81 hw => ?_)
            obtain ⟨rfl, hg87⟩ := hp81
            obtain ⟨g84, g85, c86⟩ := hg87
            refine lv_aload_n hx hb dX12_streetFrom_65 rfl (lv_at hl 0 rfl) ?_
            refine tk_getA hC hK hw hT hinX12 kM_at0 (by decide) rfl 29 (by decide) (List.mem_cons_of_mem _ uw_7_4) rfl rfl dX12_streetFrom_66 ?_
            refine lv_aload_n hx hb dX12_streetFrom_69 rfl (lv_at hl 0 rfl) ?_
            refine lv_iload_n hx hb dX12_streetFrom_70 rfl (lv_at hl 2 rfl) ?_
            refine lv_iload_n hx hb dX12_streetFrom_71 rfl (lv_at hl 1 rfl) ?_
            refine tk_Vi hC hK hw hT hA hE hSR kM_at0 (by decide) rfl (k_X12_otherOf_1 l adK adV dC dI cy ad B hB0 (Int.le_trans hB1 (by decide)) qr s1   v25_2 (show 0 ≤ v25_2.toInt from r8) (show v25_2.toInt ≤ 11 by first | with_reducible assumption | omega) a1 (show 0 ≤ a1.toInt from r6) (show a1.toInt ≤ 9 from t7) w0 H.size hT ) (cwV 2 hC.2.2.2.2 uV_RX12_348 rfl rfl rfl (by decide +kernel) ⟨Nat.le_of_ble_eq_true rfl, Nat.le_of_ble_eq_true rfl⟩) rfl hl.1 rfl (Nat.le_of_ble_eq_true rfl) dX12_streetFrom_72 (fun r88 w90 H locs hp89 hw => ?_)
            obtain ⟨rfl, hg97⟩ := hp89
            rcases hg97 with ⟨g92, g93⟩ | ⟨g94, g95, c96⟩
            · refine tk_iald hC hK hw hT kM_at14 rfl rfl (show 0 ≤ r88.toInt by first | with_reducible assumption | omega) (show r88.toInt < 10 by first | with_reducible assumption | omega) dX12_streetFrom_75 (fun x98 c99 rx98 tx98 => ?_)
              have c99 : gi w0 14 (r88.toInt).toNat = x98 := (congrArg (gi w0 14) (congrArg Int.toNat (show r88.toInt = r88.toInt from rfl))).trans c99
              refine lv_iadd hx hb dX12_streetFrom_76 ?_
              refine lv_topi (fun x100 ex100 => ?_)
              have ex100 : x100.toInt = r80.toInt + x98.toInt := by rw [ex100]; exact wk_add (show (-2147483648) ≤ r80.toInt + x98.toInt by omega) (show r80.toInt + x98.toInt ≤ 2147483647 by omega)
              refine lv_aload_n hx hb dX12_streetFrom_77 rfl (lv_at hl 0 rfl) ?_
              refine tk_getA hC hK hw hT hinX12 kM_at0 (by decide) rfl 29 (by decide) (List.mem_cons_of_mem _ uw_7_4) rfl rfl dX12_streetFrom_78 ?_
              refine lv_iload_n hx hb dX12_streetFrom_81 rfl (lv_at hl 1 rfl) ?_
              refine tk_iald hC hK hw hT kM_at14 rfl rfl (show 0 ≤ a1.toInt from r6) (show a1.toInt < 10 from Int.lt_of_le_of_lt t7 (by decide)) dX12_streetFrom_82 (fun x101 c102 rx101 tx101 => ?_)
              have c102 : gi w0 14 (a1.toInt).toNat = x101 := (congrArg (gi w0 14) (congrArg Int.toNat (show a1.toInt = a1.toInt from rfl))).trans c102
              refine wk_top f25_14__a1_toInt_toNat (c102.symm.trans c12) ?_
              refine lv_icmp_ne (tgt := 88) hx hb dX12_streetFrom_83 (by decide) (fun c103 => ?_) (fun c103 => ?_)
              · have c103 : ¬ x100.toInt = f25_14__a1_toInt_toNat.toInt := wk_eqF c103
                exact J88 x24 H locs ls  (show 0 ≤ a1.toInt from r6) (show a1.toInt ≤ 9 from t7) (show 0 ≤ v25_2.toInt from r8) (show v25_2.toInt ≤ 11 by first | with_reducible assumption | omega) (show 1 ≤ x24.toInt by first | with_reducible assumption | omega) (show x24.toInt ≤ 12 by first | with_reducible assumption | omega) (show 1 ≤ f25_14__a1_toInt_toNat.toInt from r10) (show f25_14__a1_toInt_toNat.toInt ≤ 100000100 from t11)  hw  c25 c12 (lv_sub hl [0, 1, 2] rfl)
              · have c103 : x100.toInt = f25_14__a1_toInt_toNat.toInt := wk_eq.mp c103
                refine lv_iload_n hx hb dX12_streetFrom_86 rfl (lv_at hl 2 rfl) ?_
                exact tk_iret hC hr hlocks hK ⟨rfl, (Or.inr (Or.inl ⟨(show 0 ≤ v25_2.toInt from r8), (show v25_2.toInt ≤ 11 by first | with_reducible assumption | omega), ⟨x24, c25, (show 1 ≤ x24.toInt by first | with_reducible assumption | omega), (show x24.toInt ≤ 12 by first | with_reducible assumption | omega)⟩, c32⟩))⟩ hw dX12_streetFrom_87
            · refine tk_iald hC hK hw hT kM_at14 rfl rfl (show 0 ≤ r88.toInt by first | with_reducible assumption | omega) (show r88.toInt < 10 by first | with_reducible assumption | omega) dX12_streetFrom_75 (fun x104 c105 rx104 tx104 => ?_)
              have c105 : gi w0 14 (r88.toInt).toNat = x104 := (congrArg (gi w0 14) (congrArg Int.toNat (show r88.toInt = r88.toInt from rfl))).trans c105
              refine lv_iadd hx hb dX12_streetFrom_76 ?_
              refine lv_topi (fun x106 ex106 => ?_)
              have ex106 : x106.toInt = r80.toInt + x104.toInt := by rw [ex106]; exact wk_add (show (-2147483648) ≤ r80.toInt + x104.toInt by omega) (show r80.toInt + x104.toInt ≤ 2147483647 by omega)
              refine lv_aload_n hx hb dX12_streetFrom_77 rfl (lv_at hl 0 rfl) ?_
              refine tk_getA hC hK hw hT hinX12 kM_at0 (by decide) rfl 29 (by decide) (List.mem_cons_of_mem _ uw_7_4) rfl rfl dX12_streetFrom_78 ?_
              refine lv_iload_n hx hb dX12_streetFrom_81 rfl (lv_at hl 1 rfl) ?_
              refine tk_iald hC hK hw hT kM_at14 rfl rfl (show 0 ≤ a1.toInt from r6) (show a1.toInt < 10 from Int.lt_of_le_of_lt t7 (by decide)) dX12_streetFrom_82 (fun x107 c108 rx107 tx107 => ?_)
              have c108 : gi w0 14 (a1.toInt).toNat = x107 := (congrArg (gi w0 14) (congrArg Int.toNat (show a1.toInt = a1.toInt from rfl))).trans c108
              refine wk_top f25_14__a1_toInt_toNat (c108.symm.trans c12) ?_
              refine lv_icmp_ne (tgt := 88) hx hb dX12_streetFrom_83 (by decide) (fun c109 => ?_) (fun c109 => ?_)
              · have c109 : ¬ x106.toInt = f25_14__a1_toInt_toNat.toInt := wk_eqF c109
                exact J88 x24 H locs ls  (show 0 ≤ a1.toInt from r6) (show a1.toInt ≤ 9 from t7) (show 0 ≤ v25_2.toInt from r8) (show v25_2.toInt ≤ 11 by first | with_reducible assumption | omega) (show 1 ≤ x24.toInt by first | with_reducible assumption | omega) (show x24.toInt ≤ 12 by first | with_reducible assumption | omega) (show 1 ≤ f25_14__a1_toInt_toNat.toInt from r10) (show f25_14__a1_toInt_toNat.toInt ≤ 100000100 from t11)  hw  c25 c12 (lv_sub hl [0, 1, 2] rfl)
              · have c109 : x106.toInt = f25_14__a1_toInt_toNat.toInt := wk_eq.mp c109
                refine lv_iload_n hx hb dX12_streetFrom_86 rfl (lv_at hl 2 rfl) ?_
                exact tk_iret hC hr hlocks hK ⟨rfl, (Or.inr (Or.inl ⟨(show 0 ≤ v25_2.toInt from r8), (show v25_2.toInt ≤ 11 by first | with_reducible assumption | omega), ⟨x24, c25, (show 1 ≤ x24.toInt by first | with_reducible assumption | omega), (show x24.toInt ≤ 12 by first | with_reducible assumption | omega)⟩, c32⟩))⟩ hw dX12_streetFrom_87
        · refine lv_if_eq (tgt := 88) hx hb dX12_streetFrom_41 (by decide) (fun c => absurd c (by decide)) (fun _ => ?_)
          refine lv_aload_n hx hb dX12_streetFrom_44 rfl (lv_at hl 0 rfl) ?_
          refine lv_aload_n hx hb dX12_streetFrom_45 rfl (lv_at hl 0 rfl) ?_
          refine tk_getA hC hK hw hT hinX12 kM_at0 (by decide) rfl 28 (by decide) (List.mem_cons_of_mem _ uw_7_3) rfl rfl dX12_streetFrom_46 ?_
          refine lv_iload_n hx hb dX12_streetFrom_49 rfl (lv_at hl 2 rfl) ?_
          refine tk_iald hC hK hw hT kM_at13 rfl rfl (show 0 ≤ v25_2.toInt from r8) (show v25_2.toInt < 12 by first | with_reducible assumption | omega) dX12_streetFrom_50 (fun x110 c111 rx110 tx110 => ?_)
          refine lv_iload_n hx hb dX12_streetFrom_51 rfl (lv_at hl 2 rfl) ?_
          refine lv_iload_n hx hb dX12_streetFrom_52 rfl (lv_at hl 1 rfl) ?_
          refine tk_Vi hC hK hw hT hA hE hSR kM_at0 (by decide) rfl (k_X12_hasSign_2 l adK adV dC dI cy ad B hB0 (Int.le_trans hB1 (by decide)) qr s1   x110 v25_2 (show 0 ≤ v25_2.toInt from r8) (show v25_2.toInt ≤ 11 by first | with_reducible assumption | omega) a1 (show 0 ≤ a1.toInt from r6) (show a1.toInt ≤ 9 from t7) w0 H.size hT ) (cwV 3 hC.2.2.2.2 uV_RX12_307 rfl rfl rfl (by decide +kernel) ⟨Nat.le_of_ble_eq_true rfl, Nat.le_of_ble_eq_true rfl⟩) rfl hl.1 rfl (Nat.le_of_ble_eq_true rfl) dX12_streetFrom_53 (fun r112 w114 H locs hp113 hw => ?_)
          obtain ⟨rfl, hg122⟩ := hp113
          rcases hg122 with ⟨rfl, hq116⟩ | ⟨rfl, c117, hq118⟩ | ⟨rfl, hq119⟩ | ⟨rfl, c120, hq121⟩
          · refine lv_if_eq (tgt := 88) hx hb dX12_streetFrom_56 (by decide) (fun _ => ?_) (fun c => absurd (by decide) c)
            exact J88 x24 H locs ls  (show 0 ≤ a1.toInt from r6) (show a1.toInt ≤ 9 from t7) (show 0 ≤ v25_2.toInt from r8) (show v25_2.toInt ≤ 11 by first | with_reducible assumption | omega) (show 1 ≤ x24.toInt by first | with_reducible assumption | omega) (show x24.toInt ≤ 12 by first | with_reducible assumption | omega) (show 1 ≤ f25_14__a1_toInt_toNat.toInt from r10) (show f25_14__a1_toInt_toNat.toInt ≤ 100000100 from t11)  hw  c25 c12 (lv_sub hl [0, 1, 2] rfl)
          · refine lv_if_eq (tgt := 88) hx hb dX12_streetFrom_56 (by decide) (fun _ => ?_) (fun c => absurd (by decide) c)
            exact J88 x24 H locs ls  (show 0 ≤ a1.toInt from r6) (show a1.toInt ≤ 9 from t7) (show 0 ≤ v25_2.toInt from r8) (show v25_2.toInt ≤ 11 by first | with_reducible assumption | omega) (show 1 ≤ x24.toInt by first | with_reducible assumption | omega) (show x24.toInt ≤ 12 by first | with_reducible assumption | omega) (show 1 ≤ f25_14__a1_toInt_toNat.toInt from r10) (show f25_14__a1_toInt_toNat.toInt ≤ 100000100 from t11)  hw  c25 c12 (lv_sub hl [0, 1, 2] rfl)
          · refine lv_if_eq (tgt := 88) hx hb dX12_streetFrom_56 (by decide) (fun c => absurd c (by decide)) (fun _ => ?_)
            refine lv_aload_n hx hb dX12_streetFrom_59 rfl (lv_at hl 0 rfl) ?_
            refine lv_iload_n hx hb dX12_streetFrom_60 rfl (lv_at hl 2 rfl) ?_
            refine lv_iconst (v := 2) hx hb dX12_streetFrom_61 (by decide) ?_
            refine tk_Vi hC hK hw hT hA hE hSR kM_at0 (by decide) rfl (k_X12_streetOf_6 l adK adV dC dI cy ad B hB0 (Int.le_trans hB1 (by decide)) qr s1   v25_2 (show 0 ≤ v25_2.toInt from r8) (show v25_2.toInt ≤ 11 by first | with_reducible assumption | omega) w0 H.size hT ) (cwV 2 hC.2.2.2.2 uV_RX12_300 rfl rfl rfl (by decide +kernel) ⟨Nat.le_of_ble_eq_true rfl, Nat.le_of_ble_eq_true rfl⟩) rfl hl.1 rfl (Nat.le_of_ble_eq_true rfl) dX12_streetFrom_62 (fun r123 w125 H locs hp124 hw => ?_)
            obtain ⟨rfl, hg130⟩ := hp124
            obtain ⟨g127, g128, c129⟩ := hg130
            refine lv_aload_n hx hb dX12_streetFrom_65 rfl (lv_at hl 0 rfl) ?_
            refine tk_getA hC hK hw hT hinX12 kM_at0 (by decide) rfl 29 (by decide) (List.mem_cons_of_mem _ uw_7_4) rfl rfl dX12_streetFrom_66 ?_
            refine lv_aload_n hx hb dX12_streetFrom_69 rfl (lv_at hl 0 rfl) ?_
            refine lv_iload_n hx hb dX12_streetFrom_70 rfl (lv_at hl 2 rfl) ?_
            refine lv_iload_n hx hb dX12_streetFrom_71 rfl (lv_at hl 1 rfl) ?_
            refine tk_Vi hC hK hw hT hA hE hSR kM_at0 (by decide) rfl (k_X12_otherOf_1 l adK adV dC dI cy ad B hB0 (Int.le_trans hB1 (by decide)) qr s1   v25_2 (show 0 ≤ v25_2.toInt from r8) (show v25_2.toInt ≤ 11 by first | with_reducible assumption | omega) a1 (show 0 ≤ a1.toInt from r6) (show a1.toInt ≤ 9 from t7) w0 H.size hT ) (cwV 2 hC.2.2.2.2 uV_RX12_348 rfl rfl rfl (by decide +kernel) ⟨Nat.le_of_ble_eq_true rfl, Nat.le_of_ble_eq_true rfl⟩) rfl hl.1 rfl (Nat.le_of_ble_eq_true rfl) dX12_streetFrom_72 (fun r131 w133 H locs hp132 hw => ?_)
            obtain ⟨rfl, hg140⟩ := hp132
            rcases hg140 with ⟨g135, g136⟩ | ⟨g137, g138, c139⟩
            · refine tk_iald hC hK hw hT kM_at14 rfl rfl (show 0 ≤ r131.toInt by first | with_reducible assumption | omega) (show r131.toInt < 10 by first | with_reducible assumption | omega) dX12_streetFrom_75 (fun x141 c142 rx141 tx141 => ?_)
              have c142 : gi w0 14 (r131.toInt).toNat = x141 := (congrArg (gi w0 14) (congrArg Int.toNat (show r131.toInt = r131.toInt from rfl))).trans c142
              refine lv_iadd hx hb dX12_streetFrom_76 ?_
              refine lv_topi (fun x143 ex143 => ?_)
              have ex143 : x143.toInt = r123.toInt + x141.toInt := by rw [ex143]; exact wk_add (show (-2147483648) ≤ r123.toInt + x141.toInt by omega) (show r123.toInt + x141.toInt ≤ 2147483647 by omega)
              refine lv_aload_n hx hb dX12_streetFrom_77 rfl (lv_at hl 0 rfl) ?_
              refine tk_getA hC hK hw hT hinX12 kM_at0 (by decide) rfl 29 (by decide) (List.mem_cons_of_mem _ uw_7_4) rfl rfl dX12_streetFrom_78 ?_
              refine lv_iload_n hx hb dX12_streetFrom_81 rfl (lv_at hl 1 rfl) ?_
              refine tk_iald hC hK hw hT kM_at14 rfl rfl (show 0 ≤ a1.toInt from r6) (show a1.toInt < 10 from Int.lt_of_le_of_lt t7 (by decide)) dX12_streetFrom_82 (fun x144 c145 rx144 tx144 => ?_)
              have c145 : gi w0 14 (a1.toInt).toNat = x144 := (congrArg (gi w0 14) (congrArg Int.toNat (show a1.toInt = a1.toInt from rfl))).trans c145
              refine wk_top f25_14__a1_toInt_toNat (c145.symm.trans c12) ?_
              refine lv_icmp_ne (tgt := 88) hx hb dX12_streetFrom_83 (by decide) (fun c146 => ?_) (fun c146 => ?_)
              · have c146 : ¬ x143.toInt = f25_14__a1_toInt_toNat.toInt := wk_eqF c146
                exact J88 x24 H locs ls  (show 0 ≤ a1.toInt from r6) (show a1.toInt ≤ 9 from t7) (show 0 ≤ v25_2.toInt from r8) (show v25_2.toInt ≤ 11 by first | with_reducible assumption | omega) (show 1 ≤ x24.toInt by first | with_reducible assumption | omega) (show x24.toInt ≤ 12 by first | with_reducible assumption | omega) (show 1 ≤ f25_14__a1_toInt_toNat.toInt from r10) (show f25_14__a1_toInt_toNat.toInt ≤ 100000100 from t11)  hw  c25 c12 (lv_sub hl [0, 1, 2] rfl)
              · have c146 : x143.toInt = f25_14__a1_toInt_toNat.toInt := wk_eq.mp c146
                refine lv_iload_n hx hb dX12_streetFrom_86 rfl (lv_at hl 2 rfl) ?_
                exact tk_iret hC hr hlocks hK ⟨rfl, (Or.inr (Or.inr (Or.inl ⟨(show 0 ≤ v25_2.toInt from r8), (show v25_2.toInt ≤ 11 by first | with_reducible assumption | omega), ⟨x24, c25, (show 1 ≤ x24.toInt by first | with_reducible assumption | omega), (show x24.toInt ≤ 12 by first | with_reducible assumption | omega)⟩, c34⟩)))⟩ hw dX12_streetFrom_87
            · refine tk_iald hC hK hw hT kM_at14 rfl rfl (show 0 ≤ r131.toInt by first | with_reducible assumption | omega) (show r131.toInt < 10 by first | with_reducible assumption | omega) dX12_streetFrom_75 (fun x147 c148 rx147 tx147 => ?_)
              have c148 : gi w0 14 (r131.toInt).toNat = x147 := (congrArg (gi w0 14) (congrArg Int.toNat (show r131.toInt = r131.toInt from rfl))).trans c148
              refine lv_iadd hx hb dX12_streetFrom_76 ?_
              refine lv_topi (fun x149 ex149 => ?_)
              have ex149 : x149.toInt = r123.toInt + x147.toInt := by rw [ex149]; exact wk_add (show (-2147483648) ≤ r123.toInt + x147.toInt by omega) (show r123.toInt + x147.toInt ≤ 2147483647 by omega)
              refine lv_aload_n hx hb dX12_streetFrom_77 rfl (lv_at hl 0 rfl) ?_
              refine tk_getA hC hK hw hT hinX12 kM_at0 (by decide) rfl 29 (by decide) (List.mem_cons_of_mem _ uw_7_4) rfl rfl dX12_streetFrom_78 ?_
              refine lv_iload_n hx hb dX12_streetFrom_81 rfl (lv_at hl 1 rfl) ?_
              refine tk_iald hC hK hw hT kM_at14 rfl rfl (show 0 ≤ a1.toInt from r6) (show a1.toInt < 10 from Int.lt_of_le_of_lt t7 (by decide)) dX12_streetFrom_82 (fun x150 c151 rx150 tx150 => ?_)
              have c151 : gi w0 14 (a1.toInt).toNat = x150 := (congrArg (gi w0 14) (congrArg Int.toNat (show a1.toInt = a1.toInt from rfl))).trans c151
              refine wk_top f25_14__a1_toInt_toNat (c151.symm.trans c12) ?_
              refine lv_icmp_ne (tgt := 88) hx hb dX12_streetFrom_83 (by decide) (fun c152 => ?_) (fun c152 => ?_)
              · have c152 : ¬ x149.toInt = f25_14__a1_toInt_toNat.toInt := wk_eqF c152
                exact J88 x24 H locs ls  (show 0 ≤ a1.toInt from r6) (show a1.toInt ≤ 9 from t7) (show 0 ≤ v25_2.toInt from r8) (show v25_2.toInt ≤ 11 by first | with_reducible assumption | omega) (show 1 ≤ x24.toInt by first | with_reducible assumption | omega) (show x24.toInt ≤ 12 by first | with_reducible assumption | omega) (show 1 ≤ f25_14__a1_toInt_toNat.toInt from r10) (show f25_14__a1_toInt_toNat.toInt ≤ 100000100 from t11)  hw  c25 c12 (lv_sub hl [0, 1, 2] rfl)
              · have c152 : x149.toInt = f25_14__a1_toInt_toNat.toInt := wk_eq.mp c152
                refine lv_iload_n hx hb dX12_streetFrom_86 rfl (lv_at hl 2 rfl) ?_
                exact tk_iret hC hr hlocks hK ⟨rfl, (Or.inl ⟨(show 0 ≤ v25_2.toInt from r8), (show v25_2.toInt ≤ 11 by first | with_reducible assumption | omega), ⟨x24, c25, (show 1 ≤ x24.toInt by first | with_reducible assumption | omega), (show x24.toInt ≤ 12 by first | with_reducible assumption | omega)⟩, c139, c34⟩)⟩ hw dX12_streetFrom_87
          · refine lv_if_eq (tgt := 88) hx hb dX12_streetFrom_56 (by decide) (fun c => absurd c (by decide)) (fun _ => ?_)
            refine lv_aload_n hx hb dX12_streetFrom_59 rfl (lv_at hl 0 rfl) ?_
            refine lv_iload_n hx hb dX12_streetFrom_60 rfl (lv_at hl 2 rfl) ?_
            refine lv_iconst (v := 2) hx hb dX12_streetFrom_61 (by decide) ?_
            refine tk_Vi hC hK hw hT hA hE hSR kM_at0 (by decide) rfl (k_X12_streetOf_6 l adK adV dC dI cy ad B hB0 (Int.le_trans hB1 (by decide)) qr s1   v25_2 (show 0 ≤ v25_2.toInt from r8) (show v25_2.toInt ≤ 11 by first | with_reducible assumption | omega) w0 H.size hT ) (cwV 2 hC.2.2.2.2 uV_RX12_300 rfl rfl rfl (by decide +kernel) ⟨Nat.le_of_ble_eq_true rfl, Nat.le_of_ble_eq_true rfl⟩) rfl hl.1 rfl (Nat.le_of_ble_eq_true rfl) dX12_streetFrom_62 (fun r153 w155 H locs hp154 hw => ?_)
            obtain ⟨rfl, hg160⟩ := hp154
            obtain ⟨g157, g158, c159⟩ := hg160
            refine lv_aload_n hx hb dX12_streetFrom_65 rfl (lv_at hl 0 rfl) ?_
            refine tk_getA hC hK hw hT hinX12 kM_at0 (by decide) rfl 29 (by decide) (List.mem_cons_of_mem _ uw_7_4) rfl rfl dX12_streetFrom_66 ?_
            refine lv_aload_n hx hb dX12_streetFrom_69 rfl (lv_at hl 0 rfl) ?_
            refine lv_iload_n hx hb dX12_streetFrom_70 rfl (lv_at hl 2 rfl) ?_
            refine lv_iload_n hx hb dX12_streetFrom_71 rfl (lv_at hl 1 rfl) ?_
            refine tk_Vi hC hK hw hT hA hE hSR kM_at0 (by decide) rfl (k_X12_otherOf_1 l adK adV dC dI cy ad B hB0 (Int.le_trans hB1 (by decide)) qr s1   v25_2 (show 0 ≤ v25_2.toInt from r8) (show v25_2.toInt ≤ 11 by first | with_reducible assumption | omega) a1 (show 0 ≤ a1.toInt from r6) (show a1.toInt ≤ 9 from t7) w0 H.size hT ) (cwV 2 hC.2.2.2.2 uV_RX12_348 rfl rfl rfl (by decide +kernel) ⟨Nat.le_of_ble_eq_true rfl, Nat.le_of_ble_eq_true rfl⟩) rfl hl.1 rfl (Nat.le_of_ble_eq_true rfl) dX12_streetFrom_72 (fun r161 w163 H locs hp162 hw => ?_)
            obtain ⟨rfl, hg170⟩ := hp162
            rcases hg170 with ⟨g165, g166⟩ | ⟨g167, g168, c169⟩
            · refine tk_iald hC hK hw hT kM_at14 rfl rfl (show 0 ≤ r161.toInt by first | with_reducible assumption | omega) (show r161.toInt < 10 by first | with_reducible assumption | omega) dX12_streetFrom_75 (fun x171 c172 rx171 tx171 => ?_)
              have c172 : gi w0 14 (r161.toInt).toNat = x171 := (congrArg (gi w0 14) (congrArg Int.toNat (show r161.toInt = r161.toInt from rfl))).trans c172
              refine lv_iadd hx hb dX12_streetFrom_76 ?_
              refine lv_topi (fun x173 ex173 => ?_)
              have ex173 : x173.toInt = r153.toInt + x171.toInt := by rw [ex173]; exact wk_add (show (-2147483648) ≤ r153.toInt + x171.toInt by omega) (show r153.toInt + x171.toInt ≤ 2147483647 by omega)
              refine lv_aload_n hx hb dX12_streetFrom_77 rfl (lv_at hl 0 rfl) ?_
              refine tk_getA hC hK hw hT hinX12 kM_at0 (by decide) rfl 29 (by decide) (List.mem_cons_of_mem _ uw_7_4) rfl rfl dX12_streetFrom_78 ?_
              refine lv_iload_n hx hb dX12_streetFrom_81 rfl (lv_at hl 1 rfl) ?_
              refine tk_iald hC hK hw hT kM_at14 rfl rfl (show 0 ≤ a1.toInt from r6) (show a1.toInt < 10 from Int.lt_of_le_of_lt t7 (by decide)) dX12_streetFrom_82 (fun x174 c175 rx174 tx174 => ?_)
              have c175 : gi w0 14 (a1.toInt).toNat = x174 := (congrArg (gi w0 14) (congrArg Int.toNat (show a1.toInt = a1.toInt from rfl))).trans c175
              refine wk_top f25_14__a1_toInt_toNat (c175.symm.trans c12) ?_
              refine lv_icmp_ne (tgt := 88) hx hb dX12_streetFrom_83 (by decide) (fun c176 => ?_) (fun c176 => ?_)
              · have c176 : ¬ x173.toInt = f25_14__a1_toInt_toNat.toInt := wk_eqF c176
                exact J88 x24 H locs ls  (show 0 ≤ a1.toInt from r6) (show a1.toInt ≤ 9 from t7) (show 0 ≤ v25_2.toInt from r8) (show v25_2.toInt ≤ 11 by first | with_reducible assumption | omega) (show 1 ≤ x24.toInt by first | with_reducible assumption | omega) (show x24.toInt ≤ 12 by first | with_reducible assumption | omega) (show 1 ≤ f25_14__a1_toInt_toNat.toInt from r10) (show f25_14__a1_toInt_toNat.toInt ≤ 100000100 from t11)  hw  c25 c12 (lv_sub hl [0, 1, 2] rfl)
              · have c176 : x173.toInt = f25_14__a1_toInt_toNat.toInt := wk_eq.mp c176
                refine lv_iload_n hx hb dX12_streetFrom_86 rfl (lv_at hl 2 rfl) ?_
                exact tk_iret hC hr hlocks hK ⟨rfl, (Or.inl ⟨(show 0 ≤ v25_2.toInt from r8), (show v25_2.toInt ≤ 11 by first | with_reducible assumption | omega), ⟨x24, c25, (show 1 ≤ x24.toInt by first | with_reducible assumption | omega), (show x24.toInt ≤ 12 by first | with_reducible assumption | omega)⟩, c120, c34⟩)⟩ hw dX12_streetFrom_87
            · refine tk_iald hC hK hw hT kM_at14 rfl rfl (show 0 ≤ r161.toInt by first | with_reducible assumption | omega) (show r161.toInt < 10 by first | with_reducible assumption | omega) dX12_streetFrom_75 (fun x177 c178 rx177 tx177 => ?_)
              have c178 : gi w0 14 (r161.toInt).toNat = x177 := (congrArg (gi w0 14) (congrArg Int.toNat (show r161.toInt = r161.toInt from rfl))).trans c178
              refine lv_iadd hx hb dX12_streetFrom_76 ?_
              refine lv_topi (fun x179 ex179 => ?_)
              have ex179 : x179.toInt = r153.toInt + x177.toInt := by rw [ex179]; exact wk_add (show (-2147483648) ≤ r153.toInt + x177.toInt by omega) (show r153.toInt + x177.toInt ≤ 2147483647 by omega)
              refine lv_aload_n hx hb dX12_streetFrom_77 rfl (lv_at hl 0 rfl) ?_
              refine tk_getA hC hK hw hT hinX12 kM_at0 (by decide) rfl 29 (by decide) (List.mem_cons_of_mem _ uw_7_4) rfl rfl dX12_streetFrom_78 ?_
              refine lv_iload_n hx hb dX12_streetFrom_81 rfl (lv_at hl 1 rfl) ?_
              refine tk_iald hC hK hw hT kM_at14 rfl rfl (show 0 ≤ a1.toInt from r6) (show a1.toInt < 10 from Int.lt_of_le_of_lt t7 (by decide)) dX12_streetFrom_82 (fun x180 c181 rx180 tx180 => ?_)
              have c181 : gi w0 14 (a1.toInt).toNat = x180 := (congrArg (gi w0 14) (congrArg Int.toNat (show a1.toInt = a1.toInt from rfl))).trans c181
              refine wk_top f25_14__a1_toInt_toNat (c181.symm.trans c12) ?_
              refine lv_icmp_ne (tgt := 88) hx hb dX12_streetFrom_83 (by decide) (fun c182 => ?_) (fun c182 => ?_)
              · have c182 : ¬ x179.toInt = f25_14__a1_toInt_toNat.toInt := wk_eqF c182
                exact J88 x24 H locs ls  (show 0 ≤ a1.toInt from r6) (show a1.toInt ≤ 9 from t7) (show 0 ≤ v25_2.toInt from r8) (show v25_2.toInt ≤ 11 by first | with_reducible assumption | omega) (show 1 ≤ x24.toInt by first | with_reducible assumption | omega) (show x24.toInt ≤ 12 by first | with_reducible assumption | omega) (show 1 ≤ f25_14__a1_toInt_toNat.toInt from r10) (show f25_14__a1_toInt_toNat.toInt ≤ 100000100 from t11)  hw  c25 c12 (lv_sub hl [0, 1, 2] rfl)
              · have c182 : x179.toInt = f25_14__a1_toInt_toNat.toInt := wk_eq.mp c182
                refine lv_iload_n hx hb dX12_streetFrom_86 rfl (lv_at hl 2 rfl) ?_
                exact tk_iret hC hr hlocks hK ⟨rfl, (Or.inl ⟨(show 0 ≤ v25_2.toInt from r8), (show v25_2.toInt ≤ 11 by first | with_reducible assumption | omega), ⟨x24, c25, (show 1 ≤ x24.toInt by first | with_reducible assumption | omega), (show x24.toInt ≤ 12 by first | with_reducible assumption | omega)⟩, c120, c34⟩)⟩ hw dX12_streetFrom_87
  refine lv_aload_n hx hb dX12_streetFrom_0 rfl (lv_at hl 0 rfl) ?_
  refine tk_getA hC hK hw hT hinX12 kM_at0 (by decide) rfl 29 (by decide) (List.mem_cons_of_mem _ uw_7_4) rfl rfl dX12_streetFrom_1 ?_
  refine lv_iload_n hx hb dX12_streetFrom_4 rfl (lv_at hl 1 rfl) ?_
  refine tk_iald hC hK hw hT kM_at14 rfl rfl (show 0 ≤ a1.toInt from ra1) (show a1.toInt < 10 from Int.lt_of_le_of_lt ta1 (by decide)) dX12_streetFrom_5 (fun x183 c184 rx183 tx183 => ?_)
  have c184 : gi w0 14 (a1.toInt).toNat = x183 := (congrArg (gi w0 14) (congrArg Int.toNat (show a1.toInt = a1.toInt from rfl))).trans c184
  refine lv_if_eq (tgt := 21) hx hb dX12_streetFrom_6 (by decide) (fun c185 => ?_) (fun c185 => ?_)
  · have c185 : x183.toInt = (0 : Int) := wk_eq.mp c185
    exact J21 x183 s.heap locs ls  (show 0 ≤ a1.toInt from ra1) (show a1.toInt ≤ 9 from ta1) (show 0 ≤ x183.toInt from rx183) (show x183.toInt ≤ 100000000 by first | with_reducible assumption | omega)  hw  c184 (lv_sub hl [0, 1] rfl)
  · have c185 : ¬ x183.toInt = (0 : Int) := wk_eqF c185
    refine lv_aload_n hx hb dX12_streetFrom_9 rfl (lv_at hl 0 rfl) ?_
    refine tk_getA hC hK hw hT hinX12 kM_at0 (by decide) rfl 29 (by decide) (List.mem_cons_of_mem _ uw_7_4) rfl rfl dX12_streetFrom_10 ?_
    refine lv_iload_n hx hb dX12_streetFrom_13 rfl (lv_at hl 1 rfl) ?_
    refine tk_iald hC hK hw hT kM_at14 rfl rfl (show 0 ≤ a1.toInt from ra1) (show a1.toInt < 10 from Int.lt_of_le_of_lt ta1 (by decide)) dX12_streetFrom_14 (fun x186 c187 rx186 tx186 => ?_)
    have c187 : gi w0 14 (a1.toInt).toNat = x186 := (congrArg (gi w0 14) (congrArg Int.toNat (show a1.toInt = a1.toInt from rfl))).trans c187
    refine wk_top x183 (c187.symm.trans c184) ?_
    refine lv_ldcw (v := 100000000) hx hb hC.2.2.2.1 (hC.2.2.2.2 _ (List.mem_cons_of_mem _ uw_38_2)) dX12_streetFrom_15 ?_
    refine lv_icmp_ne (tgt := 23) hx hb dX12_streetFrom_18 (by decide) (fun c188 => ?_) (fun c188 => ?_)
    · have c188 : ¬ x183.toInt = (100000000 : Int) := wk_eqF c188
      refine lv_iconst (v := 0) hx hb dX12_streetFrom_23 (by decide) ?_
      refine lv_istore_n (lv' := [(2, .int 0), (0, .ref (ad 0)), (1, .int a1)]) hx hb dX12_streetFrom_24 rfl hl (by decide) rfl (fun ls hl => ?_)
      exact L25 ((12 - (0 : Int)).toNat + 1) 0 x183 s.heap locs ls  (show 0 ≤ a1.toInt from ra1) (show a1.toInt ≤ 9 from ta1) (by decide) (by decide) (show 1 ≤ x183.toInt by first | with_reducible assumption | omega) (show x183.toInt ≤ 100000100 from tx183) (Nat.lt_succ_self _) hw  c184 (lv_sub hl [1, 2, 0] rfl)
    · have c188 : x183.toInt = (100000000 : Int) := wk_eq.mp c188
      exact J21 x183 s.heap locs ls  (show 0 ≤ a1.toInt from ra1) (show a1.toInt ≤ 9 from ta1) (show 0 ≤ x183.toInt from rx183) (show x183.toInt ≤ 100000000 by first | with_reducible assumption | omega)  hw  c184 (lv_sub hl [0, 1] rfl)
abbrev P_X12_takesMap_1 (ad : Nat → Nat) (cy : Nat → ClassId) (B : Int) (qr : Nat) (s1 : Int) (a1 : Int32) (w0 : va_W) : va_W → Prop := fun u => TW ksM ad cy B qr 12 u ∧ FE ksM [(72, 0, 12)] w0 u ∧ ((True))
set_option maxHeartbeats 4000000 in
set_option maxRecDepth 100000 in
theorem k_X12_takesMap_1 (l : Launch) (adK adV : Nat → Nat) (dC : Nat → ClassId) (dI : Nat → Nat → Nat) (cy : Nat → ClassId) (ad : Nat → Nat) (B : Int) (hB0 : 100000 ≤ B) (hB1 : B ≤ 1073741824) (qr : Nat) (s1 : Int)  (a1 : Int32) (ra1 : 0 ≤ a1.toInt) (ta1 : a1.toInt ≤ 3) (w0 : va_W) (sz : Nat) (hT : TW ksM ad cy B qr 12 w0)  : Met l yX12_takesMap (wu yX12_takesMap cX12_takesMap 3 none) ({ frames := 1, cells := 0, slots := 0, locals := 12 }) (va_Pc [.ref (ad 0), .int a1] (wpreS adK adV dC dI cy sz w0)) (va_Qv (P_X12_takesMap_1 ad cy B qr s1 a1 w0) (fun u : va_W => wpost dC dI cy (va_A w0 sz) u) (va_A w0 sz)) 0 0 (va_A w0 sz) := by
  refine Met.ofW (cc := cX12_takesMap) (maxL := 3) (ret := none) (by decide) rfl ?_
  intro p e s m args below meth c s₁ Bk hml hv
  obtain ⟨rfl, ⟨hsz, hP, hK, hD0⟩, hE, hSR⟩ := hv
  have hx := Bk.exec
  have hb := Bk.bytes
  have hr := Bk.returns
  have hlocks := Bk.notSynchronized
  have hC : CallFix p m c cX12_takesMap 3 s _ (wu yX12_takesMap cX12_takesMap 3 none) RX12 := ⟨hx, hb, hml, findClass_of_methodNamed Bk.named, atoms_spec (ws := (wu yX12_takesMap cX12_takesMap 3 none)) Bk.pre⟩
  subst hsz
  have hD := hD0.self (sz := s.heap.size)
  generalize hAe : va_A w0 s.heap.size = A at hD hE ⊢
  have hA : ∀ q : Nat, s.heap.size ≤ q → A q := fun q h => by rw [← hAe]; exact Or.inr h
  have hw : Wd dC dI A s.heap s.heap [] w0 := ⟨hP, hD, va_S.rf⟩
  have hF : FE ksM [(72, 0, 12)] w0 w0 := FE.rf
  have hl := lv_entry ([.ref (ad 0), .int a1]) (n := 3) (Nat.le_of_ble_eq_true rfl)
  rw [lg_entry_eq]
  generalize (lg_sl ([.ref (ad 0), .int a1]) ++ List.replicate (3 - (lg_sl ([.ref (ad 0), .int a1])).length) Slot.unset).toArray = ls at hl ⊢
  have hl : lv_has ls 3 [(0, .ref (ad 0)), (1, .int a1)] := hl
  generalize hloc : ([] : List Loc) = locs at hw ⊢
  have hinX12 : ∀ w ∈ u_ws RX12 TX12 42, w ∈ (wu yX12_takesMap cX12_takesMap 3 none) := fun _ h => List.mem_cons_of_mem _ (up_71 h)
  have L2 : ∀ (n2 : Nat) (v2_2 : Int32) (H : Heap) (locs : List Loc) (ls : Array Slot) (w1 : va_W), 0 ≤ a1.toInt → a1.toInt ≤ 3 → 0 ≤ v2_2.toInt → v2_2.toInt ≤ 12 → (12 - v2_2.toInt).toNat < n2 → Wd dC dI A s.heap H locs w1 → TW ksM ad cy B qr 12 w1 → FE ksM [(72, 0, 12)] w0 w1 → lv_has ls 3 [(0, .ref (ad 0)), (1, .int a1), (2, .int v2_2)] → W p l e ({ frames := 1, cells := 0, slots := 0, locals := 12 }) s m (List.toArray [.ref (ad 0), .int a1]) below meth c H locs 0 0 (MQ below (va_Qv (P_X12_takesMap_1 ad cy B qr s1 a1 w0) (fun u : va_W => wpost dC dI cy A u) A) (List.toArray [.ref (ad 0), .int a1]) s 0 0 A) (F0 m 2 ls []) := by
    intro n2
    induction n2 with
    | zero => intro v2_2 H locs ls w1 r2 t3 r4 t5 hm2 hw hT hF hl; omega
    | succ n2 ih2 =>
      intro v2_2 H locs ls w1 r2 t3 r4 t5 hm2 hw hT hF hl
      refine lv_iload_n hx hb dX12_takesMap_2 rfl (lv_at hl 2 rfl) ?_
      refine lv_aload_n hx hb dX12_takesMap_3 rfl (lv_at hl 0 rfl) ?_
      refine tk_getA hC hK hw hT hinX12 kM_at0 (by decide) rfl 26 (by decide) (List.mem_cons_of_mem _ uw_7_1) rfl rfl dX12_takesMap_4 ?_
      refine lv_iconst (v := 1) hx hb dX12_takesMap_7 (by decide) ?_
      refine tk_ialdR hC hK hw hT kM_at12 rfl (by decide) (by decide) dX12_takesMap_8 (fun x6 c7 Ex6 => ?_)
      have bx6 : 0 ≤ x6.toInt ∧ x6.toInt ≤ 12 := (tk_rg1 rfl).mp Ex6
      have c7 : gi w1 12 1 = x6 := c7
      refine lv_icmp_ge (tgt := 39) hx hb dX12_takesMap_9 (by decide) (fun c8 => ?_) (fun c8 => ?_)
      · have c8 : x6.toInt ≤ v2_2.toInt := wk_le.mp c8
        exact tk_vret hC hr hlocks hK ⟨hT, hF, trivial⟩ hw dX12_takesMap_39
      · have c8 : v2_2.toInt < x6.toInt := wk_leF c8
        refine lv_aload_n hx hb dX12_takesMap_12 rfl (lv_at hl 0 rfl) ?_
        refine tk_getA hC hK hw hT hinX12 kM_at0 (by decide) rfl 28 (by decide) (List.mem_cons_of_mem _ uw_7_3) rfl rfl dX12_takesMap_13 ?_
        refine lv_iload_n hx hb dX12_takesMap_16 rfl (lv_at hl 2 rfl) ?_
        refine lv_aload_n hx hb dX12_takesMap_17 rfl (lv_at hl 0 rfl) ?_
        refine tk_getA hC hK hw hT hinX12 kM_at0 (by decide) rfl 26 (by decide) (List.mem_cons_of_mem _ uw_7_1) rfl rfl dX12_takesMap_18 ?_
        refine lv_sipush (v := 168) hx hb dX12_takesMap_21 (by decide) ?_
        refine lv_bipush (v := 12) hx hb dX12_takesMap_24 (by decide) ?_
        refine lv_iload_n hx hb dX12_takesMap_26 rfl (lv_at hl 1 rfl) ?_
        refine lv_imul hx hb dX12_takesMap_27 ?_
        refine lv_topi (fun x9 ex9 => ?_)
        have ex9 : x9.toInt = (12 : Int) * a1.toInt := by rw [ex9]; exact wk_mul (show (-2147483648) ≤ (12 : Int) * a1.toInt by omega) (show (12 : Int) * a1.toInt ≤ 2147483647 by omega)
        refine lv_iadd hx hb dX12_takesMap_28 ?_
        refine lv_topi (fun x10 ex10 => ?_)
        have ex10 : x10.toInt = (168 : Int) + x9.toInt := by rw [ex10]; exact wk_add (show (-2147483648) ≤ (168 : Int) + x9.toInt by omega) (show (168 : Int) + x9.toInt ≤ 2147483647 by omega)
        refine lv_iload_n hx hb dX12_takesMap_29 rfl (lv_at hl 2 rfl) ?_
        refine lv_iadd hx hb dX12_takesMap_30 ?_
        refine lv_topi (fun x11 ex11 => ?_)
        have ex11 : x11.toInt = x10.toInt + v2_2.toInt := by rw [ex11]; exact wk_add (show (-2147483648) ≤ x10.toInt + v2_2.toInt by omega) (show x10.toInt + v2_2.toInt ≤ 2147483647 by omega)
        refine tk_ialdR hC hK hw hT kM_at12 rfl (show 0 ≤ x11.toInt by first | with_reducible assumption | omega) (show x11.toInt < 296 by first | with_reducible assumption | omega) dX12_takesMap_31 (fun x12 c13 Ex12 => ?_)
        have c13 : gi w1 12 (12 * a1.toInt + 1 * v2_2.toInt + 168).toNat = x12 := (congrArg (gi w1 12) (congrArg Int.toNat (show 12 * a1.toInt + 1 * v2_2.toInt + 168 = x11.toInt by first | exact Int.le_antisymm (by omega) (by omega) | omega))).trans c13
        refine tk_iast hC hK hw hT kM_at13 (by decide) rfl rfl (show 0 ≤ v2_2.toInt from r4) (show v2_2.toInt < 12 by first | with_reducible assumption | omega) (wk_i32 x12).1 (wk_i32 x12).2 dX12_takesMap_32 (fun H locs w14 hw hT k16 c15 => ?_)
        have hF := hF.put kM_at13 (inE_of (a := 0) (b := 12) (by decide) (show 0 ≤ v2_2.toInt.toNat by omega) (show v2_2.toInt.toNat ≤ 12 by omega)) k16
        have c17 := k16.gi (Or.inl (tk_ne kM_at12 kM_at13 (by decide))) c7
        have c18 := k16.gi (Or.inl (tk_ne kM_at12 kM_at13 (by decide))) c13
        obtain ⟨x19, ex19⟩ : ∃ y : Int32, y = v2_2 + Int32.ofInt 1 := ⟨_, rfl⟩
        refine lv_iinc (v := x19) (lv' := [(2, .int x19), (0, .ref (ad 0)), (1, .int a1)]) hx hb dX12_takesMap_33 hl (k := 2) rfl ex19.symm (by decide) rfl (fun ls hl => ?_)
        have ex19 : x19.toInt = v2_2.toInt + 1 := by rw [ex19]; exact wk_add (y := 1) (show -2147483648 ≤ v2_2.toInt + 1 by omega) (show v2_2.toInt + 1 ≤ 2147483647 by omega)
        refine lv_goto (tgt := 2) hx hb dX12_takesMap_36 (by decide) ?_
        exact ih2 x19 H locs ls w14 (show 0 ≤ a1.toInt from r2) (show a1.toInt ≤ 3 from t3) (show 0 ≤ x19.toInt by first | with_reducible assumption | omega) (show x19.toInt ≤ 12 by first | with_reducible assumption | omega) (show (12 - x19.toInt).toNat < n2 by first | exact tn_lt hm2 (by omega) (by omega) | omega) hw hT hF  (lv_sub hl [1, 2, 0] rfl)
  refine lv_iconst (v := 0) hx hb dX12_takesMap_0 (by decide) ?_
  refine lv_istore_n (lv' := [(2, .int 0), (0, .ref (ad 0)), (1, .int a1)]) hx hb dX12_takesMap_1 rfl hl (by decide) rfl (fun ls hl => ?_)
  exact L2 ((12 - (0 : Int)).toNat + 1) 0 s.heap locs ls w0 (show 0 ≤ a1.toInt from ra1) (show a1.toInt ≤ 3 from ta1) (by decide) (by decide) (Nat.lt_succ_self _) hw hT hF  (lv_sub hl [1, 2, 0] rfl)
abbrev P_X12_isRule_1 (ad : Nat → Nat) (cy : Nat → ClassId) (B : Int) (qr : Nat) (s1 : Int) (a1 : Int32) (w0 : va_W) : Int32 → va_W → Prop := fun r u => w0 = u ∧ ((r = 0) ∨ (r = 1 ∧ 0 ≤ a1.toInt ∧ a1.toInt ≤ 5 ∧ (∃ y : Int32, gi u 0 2 = y ∧ 1 ≤ y.toInt ∧ y.toInt ≤ 6)))
set_option maxHeartbeats 4000000 in
set_option maxRecDepth 100000 in
theorem k_X12_isRule_1 (l : Launch) (adK adV : Nat → Nat) (dC : Nat → ClassId) (dI : Nat → Nat → Nat) (cy : Nat → ClassId) (ad : Nat → Nat) (B : Int) (hB0 : 100000 ≤ B) (hB1 : B ≤ 1073741824) (qr : Nat) (s1 : Int)  (a1 : Int32) (w0 : va_W) (sz : Nat) (hT : TW ksM ad cy B qr 12 w0)  : Met l yX12_isRule (wu yX12_isRule cX12_isRule 2 (some .boolean)) ({ frames := 1, cells := 0, slots := 0, locals := 12 }) (va_Pc [.ref (ad 0), .int a1] (wpreS adK adV dC dI cy sz w0)) (va_Qi (P_X12_isRule_1 ad cy B qr s1 a1 w0) (fun u : va_W => wpost dC dI cy (va_A w0 sz) u) (va_A w0 sz)) 0 0 (va_A w0 sz) := by
  refine Met.ofW (cc := cX12_isRule) (maxL := 2) (ret := (some .boolean)) (by decide) rfl ?_
  intro p e s m args below meth c s₁ Bk hml hv
  obtain ⟨rfl, ⟨hsz, hP, hK, hD0⟩, hE, hSR⟩ := hv
  have hx := Bk.exec
  have hb := Bk.bytes
  have hr := Bk.returns
  have hlocks := Bk.notSynchronized
  have hC : CallFix p m c cX12_isRule 2 s _ (wu yX12_isRule cX12_isRule 2 (some .boolean)) RX12 := ⟨hx, hb, hml, findClass_of_methodNamed Bk.named, atoms_spec (ws := (wu yX12_isRule cX12_isRule 2 (some .boolean))) Bk.pre⟩
  subst hsz
  have hD := hD0.self (sz := s.heap.size)
  generalize hAe : va_A w0 s.heap.size = A at hD hE ⊢
  have hA : ∀ q : Nat, s.heap.size ≤ q → A q := fun q h => by rw [← hAe]; exact Or.inr h
  have hw : Wd dC dI A s.heap s.heap [] w0 := ⟨hP, hD, va_S.rf⟩
  have hF : FE ksM ([] : List (Nat × Nat × Nat)) w0 w0 := FE.rf
  have hl := lv_entry ([.ref (ad 0), .int a1]) (n := 2) (Nat.le_of_ble_eq_true rfl)
  rw [lg_entry_eq]
  generalize (lg_sl ([.ref (ad 0), .int a1]) ++ List.replicate (2 - (lg_sl ([.ref (ad 0), .int a1])).length) Slot.unset).toArray = ls at hl ⊢
  have hl : lv_has ls 2 [(0, .ref (ad 0)), (1, .int a1)] := hl
  generalize hloc : ([] : List Loc) = locs at hw ⊢
  have hinX12 : ∀ w ∈ u_ws RX12 TX12 42, w ∈ (wu yX12_isRule cX12_isRule 2 (some .boolean)) := fun _ h => List.mem_cons_of_mem _ (up_71 h)
  have J16 : ∀ (H : Heap) (locs : List Loc) (ls : Array Slot), Wd dC dI A s.heap H locs w0 → lv_has ls 2 [(0, .ref (ad 0)), (1, .int a1)] → W p l e ({ frames := 1, cells := 0, slots := 0, locals := 12 }) s m (List.toArray [.ref (ad 0), .int a1]) below meth c H locs 0 0 (MQ below (va_Qi (P_X12_isRule_1 ad cy B qr s1 a1 w0) (fun u : va_W => wpost dC dI cy A u) A) (List.toArray [.ref (ad 0), .int a1]) s 0 0 A) (F0 m 16 ls []) := by
    intro H locs ls hw hl
    refine lv_iconst (v := 0) hx hb dX12_isRule_16 (by decide) ?_
    exact tk_zret hC hr rfl hlocks hK ⟨rfl, (Or.inl rfl)⟩ hw dX12_isRule_17
  refine lv_iload_n hx hb dX12_isRule_0 rfl (lv_at hl 1 rfl) ?_
  refine lv_if_lt (tgt := 16) hx hb dX12_isRule_1 (by decide) (fun c1 => ?_) (fun c1 => ?_)
  · have c1 : a1.toInt < (0 : Int) := wk_lt.mp c1
    exact J16  s.heap locs ls    hw   (lv_sub hl [0, 1] rfl)
  · have c1 : (0 : Int) ≤ a1.toInt := wk_ltF c1
    refine lv_iload_n hx hb dX12_isRule_4 rfl (lv_at hl 1 rfl) ?_
    refine lv_aload_n hx hb dX12_isRule_5 rfl (lv_at hl 0 rfl) ?_
    refine tk_geti hC hK hw hT hinX12 kM_at0 (by decide) rfl 2 (by decide) (List.mem_cons_of_mem _ uw_29_21) rfl rfl dX12_isRule_6 (fun x2 c3 rx2 tx2 => ?_)
    refine lv_icmp_ge (tgt := 16) hx hb dX12_isRule_9 (by decide) (fun c4 => ?_) (fun c4 => ?_)
    · have c4 : x2.toInt ≤ a1.toInt := wk_le.mp c4
      exact J16  s.heap locs ls    hw   (lv_sub hl [0, 1] rfl)
    · have c4 : a1.toInt < x2.toInt := wk_leF c4
      refine lv_iconst (v := 1) hx hb dX12_isRule_12 (by decide) ?_
      refine lv_goto (tgt := 17) hx hb dX12_isRule_13 (by decide) ?_
      exact tk_zret hC hr rfl hlocks hK ⟨rfl, (Or.inr ⟨rfl, (show 0 ≤ a1.toInt from c1), (show a1.toInt ≤ 5 by first | with_reducible assumption | omega), ⟨x2, c3, (show 1 ≤ x2.toInt by first | with_reducible assumption | omega), (show x2.toInt ≤ 6 from tx2)⟩⟩)⟩ hw dX12_isRule_17
abbrev P_X12_setsOut_1 (ad : Nat → Nat) (cy : Nat → ClassId) (B : Int) (qr : Nat) (s1 : Int) (a1 : Int32) (a2 : Int32) (a3 : Int32) (a4 : Int32) (a5 : Int32) (a6 : Int32) (w0 : va_W) : va_W → Prop := fun u => TW ksM ad cy B qr 12 u ∧ FE ksM [(71, 216, 243), (71, 217, 244), (71, 218, 245), (71, 219, 246), (71, 220, 247), (71, 221, 248), (71, 222, 249), (71, 223, 250), (71, 224, 251)] w0 u ∧ ((True))
set_option maxHeartbeats 4000000 in
set_option maxRecDepth 100000 in
theorem k_X12_setsOut_1 (l : Launch) (adK adV : Nat → Nat) (dC : Nat → ClassId) (dI : Nat → Nat → Nat) (cy : Nat → ClassId) (ad : Nat → Nat) (B : Int) (hB0 : 100000 ≤ B) (hB1 : B ≤ 1073741824) (qr : Nat) (s1 : Int)  (a1 : Int32) (ra1 : 0 ≤ a1.toInt) (ta1 : a1.toInt ≤ 3) (a2 : Int32) (ra2 : 0 ≤ a2.toInt) (ta2 : a2.toInt ≤ 9) (a3 : Int32) (ra3 : 0 ≤ a3.toInt) (ta3 : a3.toInt ≤ 9) (a4 : Int32) (ra4 : 0 ≤ a4.toInt) (ta4 : a4.toInt ≤ 3) (a5 : Int32) (ra5 : (-1) ≤ a5.toInt) (ta5 : a5.toInt ≤ 5) (a6 : Int32) (ra6 : 0 ≤ a6.toInt) (ta6 : a6.toInt ≤ 99999) (w0 : va_W) (sz : Nat) (hT : TW ksM ad cy B qr 12 w0)  : Met l yX12_setsOut (wu yX12_setsOut cX12_setsOut 8 none) ({ frames := 1, cells := 0, slots := 0, locals := 12 }) (va_Pc [.ref (ad 0), .int a1, .int a2, .int a3, .int a4, .int a5, .int a6] (wpreS adK adV dC dI cy sz w0)) (va_Qv (P_X12_setsOut_1 ad cy B qr s1 a1 a2 a3 a4 a5 a6 w0) (fun u : va_W => wpost dC dI cy (va_A w0 sz) u) (va_A w0 sz)) 0 0 (va_A w0 sz) := by
  refine Met.ofW (cc := cX12_setsOut) (maxL := 8) (ret := none) (by decide) rfl ?_
  intro p e s m args below meth c s₁ Bk hml hv
  obtain ⟨rfl, ⟨hsz, hP, hK, hD0⟩, hE, hSR⟩ := hv
  have hx := Bk.exec
  have hb := Bk.bytes
  have hr := Bk.returns
  have hlocks := Bk.notSynchronized
  have hC : CallFix p m c cX12_setsOut 8 s _ (wu yX12_setsOut cX12_setsOut 8 none) RX12 := ⟨hx, hb, hml, findClass_of_methodNamed Bk.named, atoms_spec (ws := (wu yX12_setsOut cX12_setsOut 8 none)) Bk.pre⟩
  subst hsz
  have hD := hD0.self (sz := s.heap.size)
  generalize hAe : va_A w0 s.heap.size = A at hD hE ⊢
  have hA : ∀ q : Nat, s.heap.size ≤ q → A q := fun q h => by rw [← hAe]; exact Or.inr h
  have hw : Wd dC dI A s.heap s.heap [] w0 := ⟨hP, hD, va_S.rf⟩
  have hF : FE ksM [(71, 216, 243), (71, 217, 244), (71, 218, 245), (71, 219, 246), (71, 220, 247), (71, 221, 248), (71, 222, 249), (71, 223, 250), (71, 224, 251)] w0 w0 := FE.rf
  have hl := lv_entry ([.ref (ad 0), .int a1, .int a2, .int a3, .int a4, .int a5, .int a6]) (n := 8) (Nat.le_of_ble_eq_true rfl)
  rw [lg_entry_eq]
  generalize (lg_sl ([.ref (ad 0), .int a1, .int a2, .int a3, .int a4, .int a5, .int a6]) ++ List.replicate (8 - (lg_sl ([.ref (ad 0), .int a1, .int a2, .int a3, .int a4, .int a5, .int a6])).length) Slot.unset).toArray = ls at hl ⊢
  have hl : lv_has ls 8 [(0, .ref (ad 0)), (1, .int a1), (2, .int a2), (3, .int a3), (4, .int a4), (5, .int a5), (6, .int a6)] := hl
  generalize hloc : ([] : List Loc) = locs at hw ⊢
  have hinX12 : ∀ w ∈ u_ws RX12 TX12 42, w ∈ (wu yX12_setsOut cX12_setsOut 8 none) := fun _ h => List.mem_cons_of_mem _ (up_71 h)
  refine lv_sipush (v := 216) hx hb dX12_setsOut_0 (by decide) ?_
  refine lv_bipush (v := 9) hx hb dX12_setsOut_3 (by decide) ?_
  refine lv_iload_n hx hb dX12_setsOut_5 rfl (lv_at hl 1 rfl) ?_
  refine lv_imul hx hb dX12_setsOut_6 ?_
  refine lv_topi (fun x1 ex1 => ?_)
  have ex1 : x1.toInt = (9 : Int) * a1.toInt := by rw [ex1]; exact wk_mul (show (-2147483648) ≤ (9 : Int) * a1.toInt by omega) (show (9 : Int) * a1.toInt ≤ 2147483647 by omega)
  refine lv_iadd hx hb dX12_setsOut_7 ?_
  refine lv_topi (fun x2 ex2 => ?_)
  have ex2 : x2.toInt = (216 : Int) + x1.toInt := by rw [ex2]; exact wk_add (show (-2147483648) ≤ (216 : Int) + x1.toInt by omega) (show (216 : Int) + x1.toInt ≤ 2147483647 by omega)
  refine lv_istore (lv' := [(7, .int x2), (0, .ref (ad 0)), (1, .int a1), (2, .int a2), (3, .int a3), (4, .int a4), (5, .int a5), (6, .int a6)]) hx hb dX12_setsOut_8 hl (by decide) rfl (fun ls hl => ?_)
  refine lv_aload_n hx hb dX12_setsOut_10 rfl (lv_at hl 1 rfl) ?_
  refine tk_getA hC hK hw hT hinX12 kM_at0 (by decide) rfl 26 (by decide) (List.mem_cons_of_mem _ uw_7_1) rfl rfl dX12_setsOut_11 ?_
  refine lv_iload hx hb dX12_setsOut_14 (lv_at hl 0 rfl) ?_
  refine lv_iload_n hx hb dX12_setsOut_16 rfl (lv_at hl 3 rfl) ?_
  refine tk_iastR hC hK hw hT kM_at12 (by decide) rfl (show 0 ≤ x2.toInt by first | with_reducible assumption | omega) (show x2.toInt < 296 by first | with_reducible assumption | omega) (tk_rgS rfl 216 9 4 0 9 (by decide +kernel) ⟨(a1.toInt - 0).toNat, by omega, show x2.toInt.toNat = 216 + 9 * (a1.toInt - 0).toNat by omega⟩ (show 0 ≤ a2.toInt from ra2) (show a2.toInt ≤ 9 from ta2)) dX12_setsOut_17 (fun H locs w3 hw hT k5 c4 => ?_)
  have hF := hF.put kM_at12 (inE_of (a := 216) (b := 243) (by decide) (show 216 ≤ x2.toInt.toNat by omega) (show x2.toInt.toNat ≤ 243 by omega)) k5
  refine lv_aload_n hx hb dX12_setsOut_18 rfl (lv_at hl 1 rfl) ?_
  refine tk_getA hC hK hw hT hinX12 kM_at0 (by decide) rfl 26 (by decide) (List.mem_cons_of_mem _ uw_7_1) rfl rfl dX12_setsOut_19 ?_
  refine lv_iload hx hb dX12_setsOut_22 (lv_at hl 0 rfl) ?_
  refine lv_iconst (v := 1) hx hb dX12_setsOut_24 (by decide) ?_
  refine lv_iadd hx hb dX12_setsOut_25 ?_
  refine lv_topi (fun x6 ex6 => ?_)
  have ex6 : x6.toInt = x2.toInt + (1 : Int) := by rw [ex6]; exact wk_add (show (-2147483648) ≤ x2.toInt + (1 : Int) by omega) (show x2.toInt + (1 : Int) ≤ 2147483647 by omega)
  refine lv_iload_n hx hb dX12_setsOut_26 rfl (lv_at hl 4 rfl) ?_
  refine tk_iastR hC hK hw hT kM_at12 (by decide) rfl (show 0 ≤ x6.toInt by first | with_reducible assumption | omega) (show x6.toInt < 296 by first | with_reducible assumption | omega) (tk_rgS rfl 217 9 4 0 9 (by decide +kernel) ⟨(a1.toInt - 0).toNat, by omega, show x6.toInt.toNat = 217 + 9 * (a1.toInt - 0).toNat by omega⟩ (show 0 ≤ a3.toInt from ra3) (show a3.toInt ≤ 9 from ta3)) dX12_setsOut_27 (fun H locs w7 hw hT k9 c8 => ?_)
  have hF := hF.put kM_at12 (inE_of (a := 217) (b := 244) (by decide) (show 217 ≤ x6.toInt.toNat by omega) (show x6.toInt.toNat ≤ 244 by omega)) k9
  refine lv_aload_n hx hb dX12_setsOut_28 rfl (lv_at hl 1 rfl) ?_
  refine tk_getA hC hK hw hT hinX12 kM_at0 (by decide) rfl 26 (by decide) (List.mem_cons_of_mem _ uw_7_1) rfl rfl dX12_setsOut_29 ?_
  refine lv_iload hx hb dX12_setsOut_32 (lv_at hl 0 rfl) ?_
  refine lv_iconst (v := 2) hx hb dX12_setsOut_34 (by decide) ?_
  refine lv_iadd hx hb dX12_setsOut_35 ?_
  refine lv_topi (fun x10 ex10 => ?_)
  have ex10 : x10.toInt = x2.toInt + (2 : Int) := by rw [ex10]; exact wk_add (show (-2147483648) ≤ x2.toInt + (2 : Int) by omega) (show x2.toInt + (2 : Int) ≤ 2147483647 by omega)
  refine lv_iload hx hb dX12_setsOut_36 (lv_at hl 5 rfl) ?_
  refine tk_iastR hC hK hw hT kM_at12 (by decide) rfl (show 0 ≤ x10.toInt by first | with_reducible assumption | omega) (show x10.toInt < 296 by first | with_reducible assumption | omega) (tk_rgS rfl 218 9 4 0 3 (by decide +kernel) ⟨(a1.toInt - 0).toNat, by omega, show x10.toInt.toNat = 218 + 9 * (a1.toInt - 0).toNat by omega⟩ (show 0 ≤ a4.toInt from ra4) (show a4.toInt ≤ 3 from ta4)) dX12_setsOut_38 (fun H locs w11 hw hT k13 c12 => ?_)
  have hF := hF.put kM_at12 (inE_of (a := 218) (b := 245) (by decide) (show 218 ≤ x10.toInt.toNat by omega) (show x10.toInt.toNat ≤ 245 by omega)) k13
  refine lv_aload_n hx hb dX12_setsOut_39 rfl (lv_at hl 1 rfl) ?_
  refine tk_getA hC hK hw hT hinX12 kM_at0 (by decide) rfl 26 (by decide) (List.mem_cons_of_mem _ uw_7_1) rfl rfl dX12_setsOut_40 ?_
  refine lv_iload hx hb dX12_setsOut_43 (lv_at hl 0 rfl) ?_
  refine lv_iconst (v := 3) hx hb dX12_setsOut_45 (by decide) ?_
  refine lv_iadd hx hb dX12_setsOut_46 ?_
  refine lv_topi (fun x14 ex14 => ?_)
  have ex14 : x14.toInt = x2.toInt + (3 : Int) := by rw [ex14]; exact wk_add (show (-2147483648) ≤ x2.toInt + (3 : Int) by omega) (show x2.toInt + (3 : Int) ≤ 2147483647 by omega)
  refine lv_iload hx hb dX12_setsOut_47 (lv_at hl 6 rfl) ?_
  refine tk_iastR hC hK hw hT kM_at12 (by decide) rfl (show 0 ≤ x14.toInt by first | with_reducible assumption | omega) (show x14.toInt < 296 by first | with_reducible assumption | omega) (tk_rgS rfl 219 9 4 (-1) 5 (by decide +kernel) ⟨(a1.toInt - 0).toNat, by omega, show x14.toInt.toNat = 219 + 9 * (a1.toInt - 0).toNat by omega⟩ (show (-1) ≤ a5.toInt from ra5) (show a5.toInt ≤ 5 from ta5)) dX12_setsOut_49 (fun H locs w15 hw hT k17 c16 => ?_)
  have hF := hF.put kM_at12 (inE_of (a := 219) (b := 246) (by decide) (show 219 ≤ x14.toInt.toNat by omega) (show x14.toInt.toNat ≤ 246 by omega)) k17
  refine lv_aload_n hx hb dX12_setsOut_50 rfl (lv_at hl 1 rfl) ?_
  refine tk_getA hC hK hw hT hinX12 kM_at0 (by decide) rfl 26 (by decide) (List.mem_cons_of_mem _ uw_7_1) rfl rfl dX12_setsOut_51 ?_
  refine lv_iload hx hb dX12_setsOut_54 (lv_at hl 0 rfl) ?_
  refine lv_iconst (v := 4) hx hb dX12_setsOut_56 (by decide) ?_
  refine lv_iadd hx hb dX12_setsOut_57 ?_
  refine lv_topi (fun x18 ex18 => ?_)
  have ex18 : x18.toInt = x2.toInt + (4 : Int) := by rw [ex18]; exact wk_add (show (-2147483648) ≤ x2.toInt + (4 : Int) by omega) (show x2.toInt + (4 : Int) ≤ 2147483647 by omega)
  refine lv_iload hx hb dX12_setsOut_58 (lv_at hl 7 rfl) ?_
  refine tk_iastR hC hK hw hT kM_at12 (by decide) rfl (show 0 ≤ x18.toInt by first | with_reducible assumption | omega) (show x18.toInt < 296 by first | with_reducible assumption | omega) ((tk_rgB rfl 220 9 4 (by decide +kernel) ⟨(a1.toInt - 0).toNat, by omega, show x18.toInt.toNat = 220 + 9 * (a1.toInt - 0).toNat by omega⟩).mpr ⟨(show 0 ≤ a6.toInt from ra6), (show a6.toInt ≤ B by omega)⟩) dX12_setsOut_60 (fun H locs w19 hw hT k21 c20 => ?_)
  have hF := hF.put kM_at12 (inE_of (a := 220) (b := 247) (by decide) (show 220 ≤ x18.toInt.toNat by omega) (show x18.toInt.toNat ≤ 247 by omega)) k21
  refine lv_aload_n hx hb dX12_setsOut_61 rfl (lv_at hl 1 rfl) ?_
  refine tk_getA hC hK hw hT hinX12 kM_at0 (by decide) rfl 26 (by decide) (List.mem_cons_of_mem _ uw_7_1) rfl rfl dX12_setsOut_62 ?_
  refine lv_iload hx hb dX12_setsOut_65 (lv_at hl 0 rfl) ?_
  refine lv_iconst (v := 5) hx hb dX12_setsOut_67 (by decide) ?_
  refine lv_iadd hx hb dX12_setsOut_68 ?_
  refine lv_topi (fun x22 ex22 => ?_)
  have ex22 : x22.toInt = x2.toInt + (5 : Int) := by rw [ex22]; exact wk_add (show (-2147483648) ≤ x2.toInt + (5 : Int) by omega) (show x2.toInt + (5 : Int) ≤ 2147483647 by omega)
  refine lv_iconst (v := 0) hx hb dX12_setsOut_69 (by decide) ?_
  refine tk_iastR hC hK hw hT kM_at12 (by decide) rfl (show 0 ≤ x22.toInt by first | with_reducible assumption | omega) (show x22.toInt < 296 by first | with_reducible assumption | omega) (tk_rg0 rfl (show 0 ≤ B from Int.le_trans (by decide) hB0) (by decide)) dX12_setsOut_70 (fun H locs w23 hw hT k25 c24 => ?_)
  have hF := hF.put kM_at12 (inE_of (a := 221) (b := 248) (by decide) (show 221 ≤ x22.toInt.toNat by omega) (show x22.toInt.toNat ≤ 248 by omega)) k25
  refine lv_aload_n hx hb dX12_setsOut_71 rfl (lv_at hl 1 rfl) ?_
  refine tk_getA hC hK hw hT hinX12 kM_at0 (by decide) rfl 26 (by decide) (List.mem_cons_of_mem _ uw_7_1) rfl rfl dX12_setsOut_72 ?_
  refine lv_iload hx hb dX12_setsOut_75 (lv_at hl 0 rfl) ?_
  refine lv_bipush (v := 6) hx hb dX12_setsOut_77 (by decide) ?_
  refine lv_iadd hx hb dX12_setsOut_79 ?_
  refine lv_topi (fun x26 ex26 => ?_)
  have ex26 : x26.toInt = x2.toInt + (6 : Int) := by rw [ex26]; exact wk_add (show (-2147483648) ≤ x2.toInt + (6 : Int) by omega) (show x2.toInt + (6 : Int) ≤ 2147483647 by omega)
  refine lv_iconst (v := 0) hx hb dX12_setsOut_80 (by decide) ?_
  refine tk_iastR hC hK hw hT kM_at12 (by decide) rfl (show 0 ≤ x26.toInt by first | with_reducible assumption | omega) (show x26.toInt < 296 by first | with_reducible assumption | omega) (tk_rg0 rfl (show 0 ≤ B from Int.le_trans (by decide) hB0) (by decide)) dX12_setsOut_81 (fun H locs w27 hw hT k29 c28 => ?_)
  have hF := hF.put kM_at12 (inE_of (a := 222) (b := 249) (by decide) (show 222 ≤ x26.toInt.toNat by omega) (show x26.toInt.toNat ≤ 249 by omega)) k29
  refine lv_aload_n hx hb dX12_setsOut_82 rfl (lv_at hl 1 rfl) ?_
  refine tk_getA hC hK hw hT hinX12 kM_at0 (by decide) rfl 26 (by decide) (List.mem_cons_of_mem _ uw_7_1) rfl rfl dX12_setsOut_83 ?_
  refine lv_iload hx hb dX12_setsOut_86 (lv_at hl 0 rfl) ?_
  refine lv_bipush (v := 7) hx hb dX12_setsOut_88 (by decide) ?_
  refine lv_iadd hx hb dX12_setsOut_90 ?_
  refine lv_topi (fun x30 ex30 => ?_)
  have ex30 : x30.toInt = x2.toInt + (7 : Int) := by rw [ex30]; exact wk_add (show (-2147483648) ≤ x2.toInt + (7 : Int) by omega) (show x2.toInt + (7 : Int) ≤ 2147483647 by omega)
  refine lv_iconst (v := (-1)) hx hb dX12_setsOut_91 (by decide) ?_
  refine tk_iastR hC hK hw hT kM_at12 (by decide) rfl (show 0 ≤ x30.toInt by first | with_reducible assumption | omega) (show x30.toInt < 296 by first | with_reducible assumption | omega) (tk_rgS rfl 223 9 4 (-1) (-1) (by decide +kernel) ⟨(a1.toInt - 0).toNat, by omega, show x30.toInt.toNat = 223 + 9 * (a1.toInt - 0).toNat by omega⟩ (by decide) (by decide)) dX12_setsOut_92 (fun H locs w31 hw hT k33 c32 => ?_)
  have hF := hF.put kM_at12 (inE_of (a := 223) (b := 250) (by decide) (show 223 ≤ x30.toInt.toNat by omega) (show x30.toInt.toNat ≤ 250 by omega)) k33
  refine lv_aload_n hx hb dX12_setsOut_93 rfl (lv_at hl 1 rfl) ?_
  refine tk_getA hC hK hw hT hinX12 kM_at0 (by decide) rfl 26 (by decide) (List.mem_cons_of_mem _ uw_7_1) rfl rfl dX12_setsOut_94 ?_
  refine lv_iload hx hb dX12_setsOut_97 (lv_at hl 0 rfl) ?_
  refine lv_bipush (v := 8) hx hb dX12_setsOut_99 (by decide) ?_
  refine lv_iadd hx hb dX12_setsOut_101 ?_
  refine lv_topi (fun x34 ex34 => ?_)
  have ex34 : x34.toInt = x2.toInt + (8 : Int) := by rw [ex34]; exact wk_add (show (-2147483648) ≤ x2.toInt + (8 : Int) by omega) (show x2.toInt + (8 : Int) ≤ 2147483647 by omega)
  refine lv_iconst (v := (-1)) hx hb dX12_setsOut_102 (by decide) ?_
  refine tk_iastR hC hK hw hT kM_at12 (by decide) rfl (show 0 ≤ x34.toInt by first | with_reducible assumption | omega) (show x34.toInt < 296 by first | with_reducible assumption | omega) (tk_rgS rfl 224 9 4 (-1) (-1) (by decide +kernel) ⟨(a1.toInt - 0).toNat, by omega, show x34.toInt.toNat = 224 + 9 * (a1.toInt - 0).toNat by omega⟩ (by decide) (by decide)) dX12_setsOut_103 (fun H locs w35 hw hT k37 c36 => ?_)
  have hF := hF.put kM_at12 (inE_of (a := 224) (b := 251) (by decide) (show 224 ≤ x34.toInt.toNat by omega) (show x34.toInt.toNat ≤ 251 by omega)) k37
  exact tk_vret hC hr hlocks hK ⟨hT, hF, trivial⟩ hw dX12_setsOut_104
