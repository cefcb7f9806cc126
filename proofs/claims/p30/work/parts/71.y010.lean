abbrev Py_X12_in_1 (ad : Nat → Nat) (cy : Nat → ClassId) (B : Int) (qr : Nat) (s1 : Int) (a0 : Int64) (w0 : va_W) : Int32 → va_W → Prop := fun r u => w0 = u ∧ Ev (fun n => m_X12_in n a0.toInt 1 30 (sL w0)) (r.toInt, sL w0) ∧ ((r = 0) ∨ (r = 1 ∧ 1 ≤ a0.toInt ∧ a0.toInt ≤ 30))
set_option maxHeartbeats 4000000 in
set_option maxRecDepth 100000 in
theorem ky_X12_in_1 (l : Launch) (adK adV : Nat → Nat) (dC : Nat → ClassId) (dI : Nat → Nat → Nat) (cy : Nat → ClassId) (ad : Nat → Nat) (B : Int) (hB0 : 100000 ≤ B) (hB1 : B ≤ 1073741824) (qr : Nat) (s1 : Int)  (a0 : Int64) (ra0 : (-2147483648) ≤ a0.toInt) (ta0 : a0.toInt ≤ 2147483647) (w0 : va_W) (sz : Nat) (hT : TW ksM ad cy B qr 12 w0)  : Met l yX12_in (wu yX12_in cX12_in 6 (some .boolean)) ({ frames := 1, cells := 0, slots := 0, locals := 12 }) (va_Pc [.long a0, .long 1, .long 30] (wpreS adK adV dC dI cy sz w0)) (va_Qi (Py_X12_in_1 ad cy B qr s1 a0 w0) (fun u : va_W => wpost dC dI cy (va_A w0 sz) u) (va_A w0 sz)) 0 0 (va_A w0 sz) := by
  refine Met.ofW (cc := cX12_in) (maxL := 6) (ret := (some .boolean)) (by decide) rfl ?_
  intro p e s m args below meth c s₁ Bk hml hv
  obtain ⟨rfl, ⟨hsz, hP, hK, hD0⟩, hE, hSR⟩ := hv
  have hx := Bk.exec
  have hb := Bk.bytes
  have hr := Bk.returns
  have hlocks := Bk.notSynchronized
  have hC : CallFix p m c cX12_in 6 s _ (wu yX12_in cX12_in 6 (some .boolean)) RX12 := ⟨hx, hb, hml, findClass_of_methodNamed Bk.named, atoms_spec (ws := (wu yX12_in cX12_in 6 (some .boolean))) Bk.pre⟩
  subst hsz
  have hD := hD0.self (sz := s.heap.size)
  generalize hAe : va_A w0 s.heap.size = A at hD hE ⊢
  have hA : ∀ q : Nat, s.heap.size ≤ q → A q := fun q h => by rw [← hAe]; exact Or.inr h
  have hw : Wd dC dI A s.heap s.heap [] w0 := ⟨hP, hD, va_S.rf⟩
  have hF : FE ksM ([] : List (Nat × Nat × Nat)) w0 w0 := FE.rf
  have hl := lv_entry ([.long a0, .long 1, .long 30]) (n := 6) (Nat.le_of_ble_eq_true rfl)
  rw [lg_entry_eq]
  generalize (lg_sl ([.long a0, .long 1, .long 30]) ++ List.replicate (6 - (lg_sl ([.long a0, .long 1, .long 30])).length) Slot.unset).toArray = ls at hl ⊢
  have hl : lv_has ls 6 [(0, .long a0), (2, .long 1), (4, .long 30)] := hl
  generalize hloc : ([] : List Loc) = locs at hw ⊢
  have J17 : ∀ (H : Heap) (locs : List Loc) (ls : Array Slot), (-2147483648) ≤ a0.toInt → a0.toInt ≤ 2147483647 → Wd dC dI A s.heap H locs w0 → TT (fun n => m_X12_in n a0.toInt 1 30 (sL w0)) (fun n => b_X12_in_17 n (sL w0)) → lv_has ls 6 [(0, .long a0), (2, .long 1), (4, .long 30)] → W p l e ({ frames := 1, cells := 0, slots := 0, locals := 12 }) s m (List.toArray [.long a0, .long 1, .long 30]) below meth c H locs 0 0 (MQ below (va_Qi (Py_X12_in_1 ad cy B qr s1 a0 w0) (fun u : va_W => wpost dC dI cy A u) A) (List.toArray [.long a0, .long 1, .long 30]) s 0 0 A) (F0 m 17 ls []) := by
    intro H locs ls r1 t2 hw hM hl
    refine lv_iconst (v := 0) hx hb dX12_in_17 (by decide) ?_
    exact tk_zret hC hr rfl hlocks hK ⟨rfl, hM.ret (by decide), (Or.inl rfl)⟩ hw dX12_in_18
  have hM : TT (fun n => m_X12_in n a0.toInt 1 30 (sL w0)) (fun n => m_X12_in n a0.toInt 1 30 (sL w0)) := TT.rf
  refine lv_lload_n hx hb dX12_in_0 rfl (lv_at hl 0 rfl) ?_
  refine lv_lload_n hx hb dX12_in_1 rfl (lv_at hl 1 rfl) ?_
  refine W.lcmp hx hb dX12_in_2 ?_
  refine lv_if_lt (tgt := 17) hx hb dX12_in_3 (by decide) (fun c3 => ?_) (fun c3 => ?_)
  · have c3 : a0.toInt < (1 : Int) := wk_cltT c3
    replace hM := hM.pos c3
    exact J17  s.heap locs ls  (show (-2147483648) ≤ a0.toInt from ra0) (show a0.toInt ≤ 2147483647 from ta0)  hw  hM (lv_sub hl [0, 1, 2] rfl)
  · have c3 : (1 : Int) ≤ a0.toInt := wk_cltF c3
    replace hM := hM.neg (Int.not_lt.mpr c3)
    refine lv_lload_n hx hb dX12_in_6 rfl (lv_at hl 0 rfl) ?_
    refine lv_lload hx hb dX12_in_7 (lv_at hl 2 rfl) ?_
    refine W.lcmp hx hb dX12_in_9 ?_
    refine lv_if_gt (tgt := 17) hx hb dX12_in_10 (by decide) (fun c4 => ?_) (fun c4 => ?_)
    · have c4 : (30 : Int) < a0.toInt := wk_cgtT c4
      replace hM := hM.pos c4
      exact J17  s.heap locs ls  (show (-2147483648) ≤ a0.toInt from ra0) (show a0.toInt ≤ 2147483647 from ta0)  hw  hM (lv_sub hl [0, 1, 2] rfl)
    · have c4 : a0.toInt ≤ (30 : Int) := wk_cgtF c4
      replace hM := hM.neg (Int.not_lt.mpr c4)
      refine lv_iconst (v := 1) hx hb dX12_in_13 (by decide) ?_
      refine lv_goto (tgt := 18) hx hb dX12_in_14 (by decide) ?_
      exact tk_zret hC hr rfl hlocks hK ⟨rfl, hM.ret (by decide), (Or.inr ⟨rfl, (show 1 ≤ a0.toInt by first | with_reducible assumption | omega), (show a0.toInt ≤ 30 by first | with_reducible assumption | omega)⟩)⟩ hw dX12_in_18
abbrev Py_X12_in_2 (ad : Nat → Nat) (cy : Nat → ClassId) (B : Int) (qr : Nat) (s1 : Int) (a0 : Int64) (w0 : va_W) : Int32 → va_W → Prop := fun r u => w0 = u ∧ Ev (fun n => m_X12_in n a0.toInt 1 200 (sL w0)) (r.toInt, sL w0) ∧ ((r = 0) ∨ (r = 1 ∧ 1 ≤ a0.toInt ∧ a0.toInt ≤ 200))
set_option maxHeartbeats 4000000 in
set_option maxRecDepth 100000 in
theorem ky_X12_in_2 (l : Launch) (adK adV : Nat → Nat) (dC : Nat → ClassId) (dI : Nat → Nat → Nat) (cy : Nat → ClassId) (ad : Nat → Nat) (B : Int) (hB0 : 100000 ≤ B) (hB1 : B ≤ 1073741824) (qr : Nat) (s1 : Int)  (a0 : Int64) (ra0 : (-2147483648) ≤ a0.toInt) (ta0 : a0.toInt ≤ 2147483647) (w0 : va_W) (sz : Nat) (hT : TW ksM ad cy B qr 12 w0)  : Met l yX12_in (wu yX12_in cX12_in 6 (some .boolean)) ({ frames := 1, cells := 0, slots := 0, locals := 12 }) (va_Pc [.long a0, .long 1, .long 200] (wpreS adK adV dC dI cy sz w0)) (va_Qi (Py_X12_in_2 ad cy B qr s1 a0 w0) (fun u : va_W => wpost dC dI cy (va_A w0 sz) u) (va_A w0 sz)) 0 0 (va_A w0 sz) := by
  refine Met.ofW (cc := cX12_in) (maxL := 6) (ret := (some .boolean)) (by decide) rfl ?_
  intro p e s m args below meth c s₁ Bk hml hv
  obtain ⟨rfl, ⟨hsz, hP, hK, hD0⟩, hE, hSR⟩ := hv
  have hx := Bk.exec
  have hb := Bk.bytes
  have hr := Bk.returns
  have hlocks := Bk.notSynchronized
  have hC : CallFix p m c cX12_in 6 s _ (wu yX12_in cX12_in 6 (some .boolean)) RX12 := ⟨hx, hb, hml, findClass_of_methodNamed Bk.named, atoms_spec (ws := (wu yX12_in cX12_in 6 (some .boolean))) Bk.pre⟩
  subst hsz
  have hD := hD0.self (sz := s.heap.size)
  generalize hAe : va_A w0 s.heap.size = A at hD hE ⊢
  have hA : ∀ q : Nat, s.heap.size ≤ q → A q := fun q h => by rw [← hAe]; exact Or.inr h
  have hw : Wd dC dI A s.heap s.heap [] w0 := ⟨hP, hD, va_S.rf⟩
  have hF : FE ksM ([] : List (Nat × Nat × Nat)) w0 w0 := FE.rf
  have hl := lv_entry ([.long a0, .long 1, .long 200]) (n := 6) (Nat.le_of_ble_eq_true rfl)
  rw [lg_entry_eq]
  generalize (lg_sl ([.long a0, .long 1, .long 200]) ++ List.replicate (6 - (lg_sl ([.long a0, .long 1, .long 200])).length) Slot.unset).toArray = ls at hl ⊢
  have hl : lv_has ls 6 [(0, .long a0), (2, .long 1), (4, .long 200)] := hl
  generalize hloc : ([] : List Loc) = locs at hw ⊢
  have J17 : ∀ (H : Heap) (locs : List Loc) (ls : Array Slot), (-2147483648) ≤ a0.toInt → a0.toInt ≤ 2147483647 → Wd dC dI A s.heap H locs w0 → TT (fun n => m_X12_in n a0.toInt 1 200 (sL w0)) (fun n => b_X12_in_17 n (sL w0)) → lv_has ls 6 [(0, .long a0), (2, .long 1), (4, .long 200)] → W p l e ({ frames := 1, cells := 0, slots := 0, locals := 12 }) s m (List.toArray [.long a0, .long 1, .long 200]) below meth c H locs 0 0 (MQ below (va_Qi (Py_X12_in_2 ad cy B qr s1 a0 w0) (fun u : va_W => wpost dC dI cy A u) A) (List.toArray [.long a0, .long 1, .long 200]) s 0 0 A) (F0 m 17 ls []) := by
    intro H locs ls r1 t2 hw hM hl
    refine lv_iconst (v := 0) hx hb dX12_in_17 (by decide) ?_
    exact tk_zret hC hr rfl hlocks hK ⟨rfl, hM.ret (by decide), (Or.inl rfl)⟩ hw dX12_in_18
  have hM : TT (fun n => m_X12_in n a0.toInt 1 200 (sL w0)) (fun n => m_X12_in n a0.toInt 1 200 (sL w0)) := TT.rf
  refine lv_lload_n hx hb dX12_in_0 rfl (lv_at hl 0 rfl) ?_
  refine lv_lload_n hx hb dX12_in_1 rfl (lv_at hl 1 rfl) ?_
  refine W.lcmp hx hb dX12_in_2 ?_
  refine lv_if_lt (tgt := 17) hx hb dX12_in_3 (by decide) (fun c3 => ?_) (fun c3 => ?_)
  · have c3 : a0.toInt < (1 : Int) := wk_cltT c3
    replace hM := hM.pos c3
    exact J17  s.heap locs ls  (show (-2147483648) ≤ a0.toInt from ra0) (show a0.toInt ≤ 2147483647 from ta0)  hw  hM (lv_sub hl [0, 1, 2] rfl)
  · have c3 : (1 : Int) ≤ a0.toInt := wk_cltF c3
    replace hM := hM.neg (Int.not_lt.mpr c3)
    refine lv_lload_n hx hb dX12_in_6 rfl (lv_at hl 0 rfl) ?_
    refine lv_lload hx hb dX12_in_7 (lv_at hl 2 rfl) ?_
    refine W.lcmp hx hb dX12_in_9 ?_
    refine lv_if_gt (tgt := 17) hx hb dX12_in_10 (by decide) (fun c4 => ?_) (fun c4 => ?_)
    · have c4 : (200 : Int) < a0.toInt := wk_cgtT c4
      replace hM := hM.pos c4
      exact J17  s.heap locs ls  (show (-2147483648) ≤ a0.toInt from ra0) (show a0.toInt ≤ 2147483647 from ta0)  hw  hM (lv_sub hl [0, 1, 2] rfl)
    · have c4 : a0.toInt ≤ (200 : Int) := wk_cgtF c4
      replace hM := hM.neg (Int.not_lt.mpr c4)
      refine lv_iconst (v := 1) hx hb dX12_in_13 (by decide) ?_
      refine lv_goto (tgt := 18) hx hb dX12_in_14 (by decide) ?_
      exact tk_zret hC hr rfl hlocks hK ⟨rfl, hM.ret (by decide), (Or.inr ⟨rfl, (show 1 ≤ a0.toInt by first | with_reducible assumption | omega), (show a0.toInt ≤ 200 by first | with_reducible assumption | omega)⟩)⟩ hw dX12_in_18
abbrev Py_X12_in_3 (ad : Nat → Nat) (cy : Nat → ClassId) (B : Int) (qr : Nat) (s1 : Int) (a0 : Int64) (w0 : va_W) : Int32 → va_W → Prop := fun r u => w0 = u ∧ Ev (fun n => m_X12_in n a0.toInt 0 1 (sL w0)) (r.toInt, sL w0) ∧ ((r = 0) ∨ (r = 1 ∧ 0 ≤ a0.toInt ∧ a0.toInt ≤ 1))
set_option maxHeartbeats 4000000 in
set_option maxRecDepth 100000 in
theorem ky_X12_in_3 (l : Launch) (adK adV : Nat → Nat) (dC : Nat → ClassId) (dI : Nat → Nat → Nat) (cy : Nat → ClassId) (ad : Nat → Nat) (B : Int) (hB0 : 100000 ≤ B) (hB1 : B ≤ 1073741824) (qr : Nat) (s1 : Int)  (a0 : Int64) (ra0 : (-2147483648) ≤ a0.toInt) (ta0 : a0.toInt ≤ 2147483647) (w0 : va_W) (sz : Nat) (hT : TW ksM ad cy B qr 12 w0)  : Met l yX12_in (wu yX12_in cX12_in 6 (some .boolean)) ({ frames := 1, cells := 0, slots := 0, locals := 12 }) (va_Pc [.long a0, .long 0, .long 1] (wpreS adK adV dC dI cy sz w0)) (va_Qi (Py_X12_in_3 ad cy B qr s1 a0 w0) (fun u : va_W => wpost dC dI cy (va_A w0 sz) u) (va_A w0 sz)) 0 0 (va_A w0 sz) := by
  refine Met.ofW (cc := cX12_in) (maxL := 6) (ret := (some .boolean)) (by decide) rfl ?_
  intro p e s m args below meth c s₁ Bk hml hv
  obtain ⟨rfl, ⟨hsz, hP, hK, hD0⟩, hE, hSR⟩ := hv
  have hx := Bk.exec
  have hb := Bk.bytes
  have hr := Bk.returns
  have hlocks := Bk.notSynchronized
  have hC : CallFix p m c cX12_in 6 s _ (wu yX12_in cX12_in 6 (some .boolean)) RX12 := ⟨hx, hb, hml, findClass_of_methodNamed Bk.named, atoms_spec (ws := (wu yX12_in cX12_in 6 (some .boolean))) Bk.pre⟩
  subst hsz
  have hD := hD0.self (sz := s.heap.size)
  generalize hAe : va_A w0 s.heap.size = A at hD hE ⊢
  have hA : ∀ q : Nat, s.heap.size ≤ q → A q := fun q h => by rw [← hAe]; exact Or.inr h
  have hw : Wd dC dI A s.heap s.heap [] w0 := ⟨hP, hD, va_S.rf⟩
  have hF : FE ksM ([] : List (Nat × Nat × Nat)) w0 w0 := FE.rf
  have hl := lv_entry ([.long a0, .long 0, .long 1]) (n := 6) (Nat.le_of_ble_eq_true rfl)
  rw [lg_entry_eq]
  generalize (lg_sl ([.long a0, .long 0, .long 1]) ++ List.replicate (6 - (lg_sl ([.long a0, .long 0, .long 1])).length) Slot.unset).toArray = ls at hl ⊢
  have hl : lv_has ls 6 [(0, .long a0), (2, .long 0), (4, .long 1)] := hl
  generalize hloc : ([] : List Loc) = locs at hw ⊢
  have J17 : ∀ (H : Heap) (locs : List Loc) (ls : Array Slot), (-2147483648) ≤ a0.toInt → a0.toInt ≤ 2147483647 → Wd dC dI A s.heap H locs w0 → TT (fun n => m_X12_in n a0.toInt 0 1 (sL w0)) (fun n => b_X12_in_17 n (sL w0)) → lv_has ls 6 [(0, .long a0), (2, .long 0), (4, .long 1)] → W p l e ({ frames := 1, cells := 0, slots := 0, locals := 12 }) s m (List.toArray [.long a0, .long 0, .long 1]) below meth c H locs 0 0 (MQ below (va_Qi (Py_X12_in_3 ad cy B qr s1 a0 w0) (fun u : va_W => wpost dC dI cy A u) A) (List.toArray [.long a0, .long 0, .long 1]) s 0 0 A) (F0 m 17 ls []) := by
    intro H locs ls r1 t2 hw hM hl
    refine lv_iconst (v := 0) hx hb dX12_in_17 (by decide) ?_
    exact tk_zret hC hr rfl hlocks hK ⟨rfl, hM.ret (by decide), (Or.inl rfl)⟩ hw dX12_in_18
  have hM : TT (fun n => m_X12_in n a0.toInt 0 1 (sL w0)) (fun n => m_X12_in n a0.toInt 0 1 (sL w0)) := TT.rf
  refine lv_lload_n hx hb dX12_in_0 rfl (lv_at hl 0 rfl) ?_
  refine lv_lload_n hx hb dX12_in_1 rfl (lv_at hl 1 rfl) ?_
  refine W.lcmp hx hb dX12_in_2 ?_
  refine lv_if_lt (tgt := 17) hx hb dX12_in_3 (by decide) (fun c3 => ?_) (fun c3 => ?_)
  · have c3 : a0.toInt < (0 : Int) := wk_cltT c3
    replace hM := hM.pos c3
    exact J17  s.heap locs ls  (show (-2147483648) ≤ a0.toInt from ra0) (show a0.toInt ≤ 2147483647 from ta0)  hw  hM (lv_sub hl [0, 1, 2] rfl)
  · have c3 : (0 : Int) ≤ a0.toInt := wk_cltF c3
    replace hM := hM.neg (Int.not_lt.mpr c3)
    refine lv_lload_n hx hb dX12_in_6 rfl (lv_at hl 0 rfl) ?_
    refine lv_lload hx hb dX12_in_7 (lv_at hl 2 rfl) ?_
    refine W.lcmp hx hb dX12_in_9 ?_
    refine lv_if_gt (tgt := 17) hx hb dX12_in_10 (by decide) (fun c4 => ?_) (fun c4 => ?_)
    · have c4 : (1 : Int) < a0.toInt := wk_cgtT c4
      replace hM := hM.pos c4
      exact J17  s.heap locs ls  (show (-2147483648) ≤ a0.toInt from ra0) (show a0.toInt ≤ 2147483647 from ta0)  hw  hM (lv_sub hl [0, 1, 2] rfl)
    · have c4 : a0.toInt ≤ (1 : Int) := wk_cgtF c4
      replace hM := hM.neg (Int.not_lt.mpr c4)
      refine lv_iconst (v := 1) hx hb dX12_in_13 (by decide) ?_
      refine lv_goto (tgt := 18) hx hb dX12_in_14 (by decide) ?_
      exact tk_zret hC hr rfl hlocks hK ⟨rfl, hM.ret (by decide), (Or.inr ⟨rfl, (show 0 ≤ a0.toInt by first | with_reducible assumption | omega), (show a0.toInt ≤ 1 by first | with_reducible assumption | omega)⟩)⟩ hw dX12_in_18
abbrev Py_X12_keeps_1 (ad : Nat → Nat) (cy : Nat → ClassId) (B : Int) (qr : Nat) (s1 : Int)  (w0 : va_W) : va_W → Prop := fun u => TW ksM ad cy B qr 12 u ∧ FE ksM [(74, 0, 296)] w0 u ∧ Ev (fun n => m_X12_keeps n 0 (sL w0)) (0, sL u) ∧ ((gi u 15 (0) = gi w0 12 0 ∧ gi u 15 (4) = gi w0 12 4 ∧ gi u 15 (9) = gi w0 12 9 ∧ (∀ j : Nat, j < 296 → gi u 15 j = gi w0 12 j)))
set_option maxHeartbeats 4000000 in
set_option maxRecDepth 100000 in
theorem ky_X12_keeps_1 (l : Launch) (adK adV : Nat → Nat) (dC : Nat → ClassId) (dI : Nat → Nat → Nat) (cy : Nat → ClassId) (ad : Nat → Nat) (B : Int) (hB0 : 100000 ≤ B) (hB1 : B ≤ 1073741824) (qr : Nat) (s1 : Int)   (w0 : va_W) (sz : Nat) (hT : TW ksM ad cy B qr 12 w0)  : Met l yX12_keeps (wu yX12_keeps cX12_keeps 2 none) ({ frames := 1, cells := 0, slots := 0, locals := 12 }) (va_Pc [.ref (ad 0)] (wpreS adK adV dC dI cy sz w0)) (va_Qv (Py_X12_keeps_1 ad cy B qr s1  w0) (fun u : va_W => wpost dC dI cy (va_A w0 sz) u) (va_A w0 sz)) 0 0 (va_A w0 sz) := by
  refine Met.ofW (cc := cX12_keeps) (maxL := 2) (ret := none) (by decide) rfl ?_
  intro p e s m args below meth c s₁ Bk hml hv
  obtain ⟨rfl, ⟨hsz, hP, hK, hD0⟩, hE, hSR⟩ := hv
  have hx := Bk.exec
  have hb := Bk.bytes
  have hr := Bk.returns
  have hlocks := Bk.notSynchronized
  have hC : CallFix p m c cX12_keeps 2 s _ (wu yX12_keeps cX12_keeps 2 none) RX12 := ⟨hx, hb, hml, findClass_of_methodNamed Bk.named, atoms_spec (ws := (wu yX12_keeps cX12_keeps 2 none)) Bk.pre⟩
  subst hsz
  have hD := hD0.self (sz := s.heap.size)
  generalize hAe : va_A w0 s.heap.size = A at hD hE ⊢
  have hA : ∀ q : Nat, s.heap.size ≤ q → A q := fun q h => by rw [← hAe]; exact Or.inr h
  have hw : Wd dC dI A s.heap s.heap [] w0 := ⟨hP, hD, va_S.rf⟩
  have hF : FE ksM [(74, 0, 296)] w0 w0 := FE.rf
  have hl := lv_entry ([.ref (ad 0)]) (n := 2) (Nat.le_of_ble_eq_true rfl)
  rw [lg_entry_eq]
  generalize (lg_sl ([.ref (ad 0)]) ++ List.replicate (2 - (lg_sl ([.ref (ad 0)])).length) Slot.unset).toArray = ls at hl ⊢
  have hl : lv_has ls 2 [(0, .ref (ad 0))] := hl
  generalize hloc : ([] : List Loc) = locs at hw ⊢
  have hinX12 : ∀ w ∈ u_ws RX12 TX12 42, w ∈ (wu yX12_keeps cX12_keeps 2 none) := fun _ h => List.mem_cons_of_mem _ (up_71 h)
  have L2 : ∀ (n2 : Nat) (v2_1 : Int32) (H : Heap) (locs : List Loc) (ls : Array Slot) (w1 : va_W), 0 ≤ v2_1.toInt → v2_1.toInt ≤ 296 → (v2_1.toInt ≤ 0 ∨ gi w1 15 (0) = gi w0 12 0) → (v2_1.toInt ≤ 4 ∨ gi w1 15 (4) = gi w0 12 4) → (v2_1.toInt ≤ 9 ∨ gi w1 15 (9) = gi w0 12 9) → (∀ j : Nat, (j : Int) < v2_1.toInt → gi w1 15 j = gi w0 12 j) → (296 - v2_1.toInt).toNat < n2 → Wd dC dI A s.heap H locs w1 → TW ksM ad cy B qr 12 w1 → FE ksM [(74, 0, 296)] w0 w1 → TT (fun n => m_X12_keeps n 0 (sL w0)) (fun n => j_X12_keeps 0 n 2 [v2_1.toInt] (sL w1)) → lv_has ls 2 [(0, .ref (ad 0)), (1, .int v2_1)] → W p l e ({ frames := 1, cells := 0, slots := 0, locals := 12 }) s m (List.toArray [.ref (ad 0)]) below meth c H locs 0 0 (MQ below (va_Qv (Py_X12_keeps_1 ad cy B qr s1  w0) (fun u : va_W => wpost dC dI cy A u) A) (List.toArray [.ref (ad 0)]) s 0 0 A) (F0 m 2 ls []) := by
    intro n2
    induction n2 with
    | zero => intro v2_1 H locs ls w1 r2 t3 hcp0 hcp1 hcp2 hcr2_0 hm2 hw hT hF hM hl; omega
    | succ n2 ih2 =>
      intro v2_1 H locs ls w1 r2 t3 hcp0 hcp1 hcp2 hcr2_0 hm2 hw hT hF hM hl
      replace hM := hM.suc (fun _ => e_X12_keeps_2)
      refine lv_iload_n hx hb dX12_keeps_2 rfl (lv_at hl 1 rfl) ?_
      refine lv_sipush (v := 296) hx hb dX12_keeps_3 (by decide) ?_
      refine lv_icmp_ge (tgt := 27) hx hb dX12_keeps_6 (by decide) (fun c4 => ?_) (fun c4 => ?_)
      · have c4 : (296 : Int) ≤ v2_1.toInt := wk_le.mp c4
        replace hM := hM.pos c4
        exact tk_vret hC hr hlocks hK ⟨hT, hF, hM.ret rfl, ⟨(hcp0.resolve_left (by omega)), (hcp1.resolve_left (by omega)), (hcp2.resolve_left (by omega)), (by exact fun j hj => hcr2_0 j (by omega))⟩⟩ hw dX12_keeps_27
      · have c4 : v2_1.toInt < (296 : Int) := wk_leF c4
        replace hM := hM.neg (Int.not_le.mpr c4)
        refine lv_aload_n hx hb dX12_keeps_9 rfl (lv_at hl 0 rfl) ?_
        refine tk_getA hC hK hw hT hinX12 kM_at0 (by decide) rfl 32 (by decide) (List.mem_cons_of_mem _ uw_7_5) rfl rfl dX12_keeps_10 ?_
        refine lv_iload_n hx hb dX12_keeps_13 rfl (lv_at hl 1 rfl) ?_
        refine lv_aload_n hx hb dX12_keeps_14 rfl (lv_at hl 0 rfl) ?_
        refine tk_getA hC hK hw hT hinX12 kM_at0 (by decide) rfl 26 (by decide) (List.mem_cons_of_mem _ uw_7_1) rfl rfl dX12_keeps_15 ?_
        refine lv_iload_n hx hb dX12_keeps_18 rfl (lv_at hl 1 rfl) ?_
        refine tk_ialdR hC hK hw hT kM_at12 rfl (show 0 ≤ v2_1.toInt from r2) (show v2_1.toInt < 296 by first | with_reducible assumption | omega) dX12_keeps_19 (fun x5 c6 Ex5 => ?_)
        have hox5 := c6
        have lEx5 : gi w1 12 (v2_1.toInt).toNat = x5 := c6
        have c6 : gi w1 12 (v2_1.toInt).toNat = x5 := (congrArg (gi w1 12) (congrArg Int.toNat (show v2_1.toInt = v2_1.toInt from rfl))).trans c6
        replace hM := hM.rd (sL_at (kM_lt kM_at12) hox5)
        have hTq := hT
        have hF0 := hF
        refine tk_iastR hC hK hw hT kM_at15 (by decide) rfl (show 0 ≤ v2_1.toInt from r2) (show v2_1.toInt < 296 by first | with_reducible assumption | omega) (tk_rgC rfl rfl (show v2_1.toInt.toNat % 296 = v2_1.toInt.toNat % 296 from rfl) Ex5) dX12_keeps_20 (fun H locs w7 hw hT k9 c8 => ?_)
        replace hM := hM.wr (sL_upa hTq hT kM_at15 (kM_lt kM_at15) rfl (by decide) k9 c8 rfl)
        have hF := hF.put kM_at15 (inE_of (a := 0) (b := 296) (by decide) (show 0 ≤ v2_1.toInt.toNat by omega) (show v2_1.toInt.toNat ≤ 296 by omega)) k9
        have c10 := k9.gi (Or.inl (tk_ne kM_at12 kM_at15 (by decide))) c6
        obtain ⟨x11, ex11⟩ : ∃ y : Int32, y = v2_1 + Int32.ofInt 1 := ⟨_, rfl⟩
        have erx11 := ex11
        refine lv_iinc (v := x11) (lv' := [(1, .int x11), (0, .ref (ad 0))]) hx hb dX12_keeps_21 hl (k := 1) rfl ex11.symm (by decide) rfl (fun ls hl => ?_)
        have ex11 : x11.toInt = v2_1.toInt + 1 := by rw [ex11]; exact wk_add (y := 1) (show -2147483648 ≤ v2_1.toInt + 1 by omega) (show v2_1.toInt + 1 ≤ 2147483647 by omega)
        replace hM := hM.lt ex11.symm
        refine lv_goto (tgt := 2) hx hb dX12_keeps_24 (by decide) ?_
        exact ih2 x11 H locs ls w7 (show 0 ≤ x11.toInt by first | with_reducible assumption | omega) (show x11.toInt ≤ 296 by first | with_reducible assumption | omega) (copy_at (d := 0) (by first | rfl | omega) hcp0 k9 (show v2_1.toInt = v2_1.toInt + 0 by first | exact Int.le_antisymm (by omega) (by omega) | omega) c8 lEx5 (hF0.gi kM_at12 rfl rfl) (by omega) (by omega) (by omega)) (copy_at (d := 0) (by first | rfl | omega) hcp1 k9 (show v2_1.toInt = v2_1.toInt + 0 by first | exact Int.le_antisymm (by omega) (by omega) | omega) c8 lEx5 (hF0.gi kM_at12 rfl rfl) (by omega) (by omega) (by omega)) (copy_at (d := 0) (by first | rfl | omega) hcp2 k9 (show v2_1.toInt = v2_1.toInt + 0 by first | exact Int.le_antisymm (by omega) (by omega) | omega) c8 lEx5 (hF0.gi kM_at12 rfl rfl) (by omega) (by omega) (by omega)) (show ∀ j : Nat, (j : Int) < x11.toInt → gi w7 15 j = gi w0 12 j from kp_all hcr2_0 k9 (show v2_1.toInt = v2_1.toInt from rfl) c8 lEx5 (fun j => hF0.gi kM_at12 rfl rfl) (by omega) (by omega)) (show (296 - x11.toInt).toNat < n2 by first | exact tn_lt hm2 (by omega) (by omega) | omega) hw hT hF hM (lv_sub hl [1, 0] rfl)
  have hM : TT (fun n => m_X12_keeps n 0 (sL w0)) (fun n => m_X12_keeps n 0 (sL w0)) := TT.rf
  refine lv_iconst (v := 0) hx hb dX12_keeps_0 (by decide) ?_
  refine lv_istore_n (lv' := [(1, .int 0), (0, .ref (ad 0))]) hx hb dX12_keeps_1 rfl hl (by decide) rfl (fun ls hl => ?_)
  exact L2 ((296 - (0 : Int)).toNat + 1) 0 s.heap locs ls w0 (by decide) (by decide) (show ((0 : Int) ≤ 0 ∨ gi w0 15 (0) = gi w0 12 0) from Or.inl (by omega)) (show ((0 : Int) ≤ 4 ∨ gi w0 15 (4) = gi w0 12 4) from Or.inl (by omega)) (show ((0 : Int) ≤ 9 ∨ gi w0 15 (9) = gi w0 12 9) from Or.inl (by omega)) (show ∀ j : Nat, (j : Int) < (0 : Int) → gi w0 15 j = gi w0 12 j from fun j hj => absurd hj (by omega)) (Nat.lt_succ_self _) hw hT hF hM (lv_sub hl [1, 0] rfl)
abbrev Py_X12_isTown_1 (ad : Nat → Nat) (cy : Nat → ClassId) (B : Int) (qr : Nat) (s1 : Int)  (w0 : va_W) : Int32 → va_W → Prop := fun r u => w0 = u ∧ Ev (fun n => m_X12_isTown n 0 (sL w0)) (r.toInt, sL w0) ∧ ((r = 0 ∧ (∃ y : Int32, gi u 12 0 = y ∧ 0 ≤ y.toInt ∧ y.toInt ≤ 0)) ∨ (r = 1 ∧ (∃ y : Int32, gi u 12 0 = y ∧ 1 ≤ y.toInt ∧ y.toInt ≤ 10)))
set_option maxHeartbeats 4000000 in
set_option maxRecDepth 100000 in
theorem ky_X12_isTown_1 (l : Launch) (adK adV : Nat → Nat) (dC : Nat → ClassId) (dI : Nat → Nat → Nat) (cy : Nat → ClassId) (ad : Nat → Nat) (B : Int) (hB0 : 100000 ≤ B) (hB1 : B ≤ 1073741824) (qr : Nat) (s1 : Int)   (w0 : va_W) (sz : Nat) (hT : TW ksM ad cy B qr 12 w0)  : Met l yX12_isTown (wu yX12_isTown cX12_isTown 1 (some .boolean)) ({ frames := 1, cells := 0, slots := 0, locals := 12 }) (va_Pc [.ref (ad 0)] (wpreS adK adV dC dI cy sz w0)) (va_Qi (Py_X12_isTown_1 ad cy B qr s1  w0) (fun u : va_W => wpost dC dI cy (va_A w0 sz) u) (va_A w0 sz)) 0 0 (va_A w0 sz) := by
  refine Met.ofW (cc := cX12_isTown) (maxL := 1) (ret := (some .boolean)) (by decide) rfl ?_
  intro p e s m args below meth c s₁ Bk hml hv
  obtain ⟨rfl, ⟨hsz, hP, hK, hD0⟩, hE, hSR⟩ := hv
  have hx := Bk.exec
  have hb := Bk.bytes
  have hr := Bk.returns
  have hlocks := Bk.notSynchronized
  have hC : CallFix p m c cX12_isTown 1 s _ (wu yX12_isTown cX12_isTown 1 (some .boolean)) RX12 := ⟨hx, hb, hml, findClass_of_methodNamed Bk.named, atoms_spec (ws := (wu yX12_isTown cX12_isTown 1 (some .boolean))) Bk.pre⟩
  subst hsz
  have hD := hD0.self (sz := s.heap.size)
  generalize hAe : va_A w0 s.heap.size = A at hD hE ⊢
  have hA : ∀ q : Nat, s.heap.size ≤ q → A q := fun q h => by rw [← hAe]; exact Or.inr h
  have hw : Wd dC dI A s.heap s.heap [] w0 := ⟨hP, hD, va_S.rf⟩
  have hF : FE ksM ([] : List (Nat × Nat × Nat)) w0 w0 := FE.rf
  have hl := lv_entry ([.ref (ad 0)]) (n := 1) (Nat.le_of_ble_eq_true rfl)
  rw [lg_entry_eq]
  generalize (lg_sl ([.ref (ad 0)]) ++ List.replicate (1 - (lg_sl ([.ref (ad 0)])).length) Slot.unset).toArray = ls at hl ⊢
  have hl : lv_has ls 1 [(0, .ref (ad 0))] := hl
  generalize hloc : ([] : List Loc) = locs at hw ⊢
  have hinX12 : ∀ w ∈ u_ws RX12 TX12 42, w ∈ (wu yX12_isTown cX12_isTown 1 (some .boolean)) := fun _ h => List.mem_cons_of_mem _ (up_71 h)
  have hM : TT (fun n => m_X12_isTown n 0 (sL w0)) (fun n => m_X12_isTown n 0 (sL w0)) := TT.rf
  refine lv_aload_n hx hb dX12_isTown_0 rfl (lv_at hl 0 rfl) ?_
  refine tk_getA hC hK hw hT hinX12 kM_at0 (by decide) rfl 26 (by decide) (List.mem_cons_of_mem _ uw_7_1) rfl rfl dX12_isTown_1 ?_
  refine lv_iconst (v := 0) hx hb dX12_isTown_4 (by decide) ?_
  refine tk_ialdR hC hK hw hT kM_at12 rfl (by decide) (by decide) dX12_isTown_5 (fun x1 c2 Ex1 => ?_)
  have hox1 := c2
  replace hM := hM.rd (sL_at (kM_lt kM_at12) hox1)
  have bx1 := tk_rgI rfl 0 1 1 0 10 (by decide +kernel) ⟨0, by decide, by decide⟩ Ex1
  have c2 : gi w0 12 0 = x1 := c2
  refine lv_if_le (tgt := 13) hx hb dX12_isTown_6 (by decide) (fun c3 => ?_) (fun c3 => ?_)
  · have c3 : x1.toInt ≤ (0 : Int) := wk_le.mp c3
    replace hM := hM.pos c3
    refine lv_iconst (v := 0) hx hb dX12_isTown_13 (by decide) ?_
    exact tk_zret hC hr rfl hlocks hK ⟨rfl, hM.ret (by decide), (Or.inl ⟨rfl, ⟨x1, c2, (show 0 ≤ x1.toInt by first | with_reducible assumption | omega), (show x1.toInt ≤ 0 by first | with_reducible assumption | omega)⟩⟩)⟩ hw dX12_isTown_14
  · have c3 : (0 : Int) < x1.toInt := wk_leF c3
    replace hM := hM.neg (Int.not_le.mpr c3)
    refine lv_iconst (v := 1) hx hb dX12_isTown_9 (by decide) ?_
    refine lv_goto (tgt := 14) hx hb dX12_isTown_10 (by decide) ?_
    exact tk_zret hC hr rfl hlocks hK ⟨rfl, hM.ret (by decide), (Or.inr ⟨rfl, ⟨x1, c2, (show 1 ≤ x1.toInt by first | with_reducible assumption | omega), (show x1.toInt ≤ 10 by first | with_reducible assumption | omega)⟩⟩)⟩ hw dX12_isTown_14
abbrev Py_X12_isRule_1 (ad : Nat → Nat) (cy : Nat → ClassId) (B : Int) (qr : Nat) (s1 : Int) (a1 : Int32) (w0 : va_W) : Int32 → va_W → Prop := fun r u => w0 = u ∧ Ev (fun n => m_X12_isRule n 0 a1.toInt (sL w0)) (r.toInt, sL w0) ∧ ((r = 0) ∨ (r = 1 ∧ 0 ≤ a1.toInt ∧ a1.toInt ≤ 5 ∧ (∃ y : Int32, gi u 0 2 = y ∧ 1 ≤ y.toInt ∧ y.toInt ≤ 6)))
set_option maxHeartbeats 4000000 in
set_option maxRecDepth 100000 in
theorem ky_X12_isRule_1 (l : Launch) (adK adV : Nat → Nat) (dC : Nat → ClassId) (dI : Nat → Nat → Nat) (cy : Nat → ClassId) (ad : Nat → Nat) (B : Int) (hB0 : 100000 ≤ B) (hB1 : B ≤ 1073741824) (qr : Nat) (s1 : Int)  (a1 : Int32) (w0 : va_W) (sz : Nat) (hT : TW ksM ad cy B qr 12 w0)  : Met l yX12_isRule (wu yX12_isRule cX12_isRule 2 (some .boolean)) ({ frames := 1, cells := 0, slots := 0, locals := 12 }) (va_Pc [.ref (ad 0), .int a1] (wpreS adK adV dC dI cy sz w0)) (va_Qi (Py_X12_isRule_1 ad cy B qr s1 a1 w0) (fun u : va_W => wpost dC dI cy (va_A w0 sz) u) (va_A w0 sz)) 0 0 (va_A w0 sz) := by
  refine Met.ofW (cc := cX12_isRule) (maxL := 2) (ret := (some .boolean)) (by decide) rfl ?_
  intro p e s m args below meth c s₁ Bk hml hv
  obtain ⟨rfl, ⟨hsz, hP, hK, hD0⟩, hE, hSR⟩ := hv
  have hx := Bk.exec
  have hb := Bk.bytes
  have hr := Bk.returns
  have hlocks := Bk.notSynchronized
  have hC : CallFix p m c cX12_isRule 2 s _ (wu yX12_isRule cX12_isRule 2 (some .boolean)) RX12 := ⟨hx, hb, hml, findClass_of_methodNamed Bk.named, atoms_spec (ws := (wu yX12_isRule cX12_isRule 2 (some .boolean))) Bk.pre⟩
  subst hsz
  have hD := hD0.self (sz := s.heap.size)
  generalize hAe : va_A w0 s.heap.size = A at hD hE ⊢
  have hA : ∀ q : Nat, s.heap.size ≤ q → A q := fun q h => by rw [← hAe]; exact Or.inr h
  have hw : Wd dC dI A s.heap s.heap [] w0 := ⟨hP, hD, va_S.rf⟩
  have hF : FE ksM ([] : List (Nat × Nat × Nat)) w0 w0 := FE.rf
  have hl := lv_entry ([.ref (ad 0), .int a1]) (n := 2) (Nat.le_of_ble_eq_true rfl)
  rw [lg_entry_eq]
  generalize (lg_sl ([.ref (ad 0), .int a1]) ++ List.replicate (2 - (lg_sl ([.ref (ad 0), .int a1])).length) Slot.unset).toArray = ls at hl ⊢
  have hl : lv_has ls 2 [(0, .ref (ad 0)), (1, .int a1)] := hl
  generalize hloc : ([] : List Loc) = locs at hw ⊢
  have hinX12 : ∀ w ∈ u_ws RX12 TX12 42, w ∈ (wu yX12_isRule cX12_isRule 2 (some .boolean)) := fun _ h => List.mem_cons_of_mem _ (up_71 h)
  have J16 : ∀ (H : Heap) (locs : List Loc) (ls : Array Slot), Wd dC dI A s.heap H locs w0 → TT (fun n => m_X12_isRule n 0 a1.toInt (sL w0)) (fun n => b_X12_isRule_16 n 0 (sL w0)) → lv_has ls 2 [(0, .ref (ad 0)), (1, .int a1)] → W p l e ({ frames := 1, cells := 0, slots := 0, locals := 12 }) s m (List.toArray [.ref (ad 0), .int a1]) below meth c H locs 0 0 (MQ below (va_Qi (Py_X12_isRule_1 ad cy B qr s1 a1 w0) (fun u : va_W => wpost dC dI cy A u) A) (List.toArray [.ref (ad 0), .int a1]) s 0 0 A) (F0 m 16 ls []) := by
    intro H locs ls hw hM hl
    refine lv_iconst (v := 0) hx hb dX12_isRule_16 (by decide) ?_
    exact tk_zret hC hr rfl hlocks hK ⟨rfl, hM.ret (by decide), (Or.inl rfl)⟩ hw dX12_isRule_17
  have hM : TT (fun n => m_X12_isRule n 0 a1.toInt (sL w0)) (fun n => m_X12_isRule n 0 a1.toInt (sL w0)) := TT.rf
  refine lv_iload_n hx hb dX12_isRule_0 rfl (lv_at hl 1 rfl) ?_
  refine lv_if_lt (tgt := 16) hx hb dX12_isRule_1 (by decide) (fun c1 => ?_) (fun c1 => ?_)
  · have c1 : a1.toInt < (0 : Int) := wk_lt.mp c1
    replace hM := hM.pos c1
    exact J16  s.heap locs ls    hw  hM (lv_sub hl [0, 1] rfl)
  · have c1 : (0 : Int) ≤ a1.toInt := wk_ltF c1
    replace hM := hM.neg (Int.not_lt.mpr c1)
    refine lv_iload_n hx hb dX12_isRule_4 rfl (lv_at hl 1 rfl) ?_
    refine lv_aload_n hx hb dX12_isRule_5 rfl (lv_at hl 0 rfl) ?_
    refine tk_geti hC hK hw hT hinX12 kM_at0 (by decide) rfl 2 (by decide) (List.mem_cons_of_mem _ uw_29_21) rfl rfl dX12_isRule_6 (fun x2 c3 rx2 tx2 => ?_)
    replace hM := hM.rd (sL_at (kM_lt kM_at0) c3)
    refine lv_icmp_ge (tgt := 16) hx hb dX12_isRule_9 (by decide) (fun c4 => ?_) (fun c4 => ?_)
    · have c4 : x2.toInt ≤ a1.toInt := wk_le.mp c4
      replace hM := hM.pos c4
      exact J16  s.heap locs ls    hw  hM (lv_sub hl [0, 1] rfl)
    · have c4 : a1.toInt < x2.toInt := wk_leF c4
      replace hM := hM.neg (Int.not_le.mpr c4)
      refine lv_iconst (v := 1) hx hb dX12_isRule_12 (by decide) ?_
      refine lv_goto (tgt := 17) hx hb dX12_isRule_13 (by decide) ?_
      exact tk_zret hC hr rfl hlocks hK ⟨rfl, hM.ret (by decide), (Or.inr ⟨rfl, (show 0 ≤ a1.toInt by first | with_reducible assumption | omega), (show a1.toInt ≤ 5 by first | with_reducible assumption | omega), ⟨x2, c3, (show 1 ≤ x2.toInt by first | with_reducible assumption | omega), (show x2.toInt ≤ 6 from tx2)⟩⟩)⟩ hw dX12_isRule_17
abbrev Py_X12_strangers_1 (ad : Nat → Nat) (cy : Nat → ClassId) (B : Int) (qr : Nat) (s1 : Int) (a1 : Int32) (a2 : Int32) (a3 : Int32) (a4 : Int32) (w0 : va_W) : Int32 → va_W → Prop := fun r u => TW ksM ad cy (B + 54000) qr 12 u ∧ FE ksM [(12, 24, 24), (12, 31, 31), (12, 39, 39), (69, 0, 64), (70, 0, 10), (71, 0, 295), (71, 216, 216), (71, 217, 217), (71, 218, 218), (71, 219, 219), (71, 220, 220), (71, 221, 221), (71, 222, 222), (71, 223, 223), (71, 224, 224), (72, 0, 12), (73, 0, 10), (74, 0, 296)] w0 u ∧ Ev (fun n => m_X12_strangers n 0 a1.toInt a2.toInt a3.toInt a4.toInt (sL w0)) (r.toInt, sL u) ∧ (((-1) ≤ a1.toInt ∧ a1.toInt ≤ 5 ∧ 1 ≤ a2.toInt ∧ a2.toInt ≤ 30 ∧ 1 ≤ a3.toInt ∧ a3.toInt ≤ 200 ∧ 0 ≤ a4.toInt ∧ a4.toInt ≤ 1 ∧ (∃ y : Int32, gi u 12 0 = y ∧ 1 ≤ y.toInt ∧ y.toInt ≤ 10) ∧ (∃ y : Int32, gi u 12 4 = y ∧ 1 ≤ y.toInt ∧ y.toInt ≤ 4) ∧ (SA w0 u)) ∨ (r = (-1) ∧ (SA w0 u)))
set_option maxHeartbeats 4000000 in
set_option maxRecDepth 100000 in
theorem ky_X12_strangers_1 (l : Launch) (adK adV : Nat → Nat) (dC : Nat → ClassId) (dI : Nat → Nat → Nat) (cy : Nat → ClassId) (ad : Nat → Nat) (B : Int) (hB0 : 100000 ≤ B) (hB1 : B ≤ 1073687824) (qr : Nat) (s1 : Int)  (a1 : Int32) (a2 : Int32) (a3 : Int32) (a4 : Int32) (w0 : va_W) (sz : Nat) (hT : TW ksM ad cy B qr 12 w0) (hRW : RW w0) : Met l yX12_strangers (wu yX12_strangers cX12_strangers 12 (some .int)) ({ frames := 9, cells := 0, slots := 0, locals := 194 }) (va_Pc [.ref (ad 0), .int a1, .int a2, .int a3, .int a4] (wpreS adK adV dC dI cy sz w0)) (va_Qi (Py_X12_strangers_1 ad cy B qr s1 a1 a2 a3 a4 w0) (fun u : va_W => wpost dC dI cy (va_A w0 sz) u) (va_A w0 sz)) 0 0 (va_A w0 sz) := by
  refine Met.ofW (cc := cX12_strangers) (maxL := 12) (ret := (some .int)) (by decide) rfl ?_
  intro p e s m args below meth c s₁ Bk hml hv
  obtain ⟨rfl, ⟨hsz, hP, hK, hD0⟩, hE, hSR⟩ := hv
  have hx := Bk.exec
  have hb := Bk.bytes
  have hr := Bk.returns
  have hlocks := Bk.notSynchronized
  have hC : CallFix p m c cX12_strangers 12 s _ (wu yX12_strangers cX12_strangers 12 (some .int)) RX12 := ⟨hx, hb, hml, findClass_of_methodNamed Bk.named, atoms_spec (ws := (wu yX12_strangers cX12_strangers 12 (some .int))) Bk.pre⟩
  subst hsz
  have hD := hD0.self (sz := s.heap.size)
  generalize hAe : va_A w0 s.heap.size = A at hD hE ⊢
  have hA : ∀ q : Nat, s.heap.size ≤ q → A q := fun q h => by rw [← hAe]; exact Or.inr h
  have hw : Wd dC dI A s.heap s.heap [] w0 := ⟨hP, hD, va_S.rf⟩
  have hF : FE ksM [(12, 24, 24), (12, 31, 31), (12, 39, 39), (69, 0, 64), (70, 0, 10), (71, 0, 295), (71, 216, 216), (71, 217, 217), (71, 218, 218), (71, 219, 219), (71, 220, 220), (71, 221, 221), (71, 222, 222), (71, 223, 223), (71, 224, 224), (72, 0, 12), (73, 0, 10), (74, 0, 296)] w0 w0 := FE.rf
  have hSA : SA w0 w0 := fun _ _ => rfl
  have hl := lv_entry ([.ref (ad 0), .int a1, .int a2, .int a3, .int a4]) (n := 12) (Nat.le_of_ble_eq_true rfl)
  rw [lg_entry_eq]
  generalize (lg_sl ([.ref (ad 0), .int a1, .int a2, .int a3, .int a4]) ++ List.replicate (12 - (lg_sl ([.ref (ad 0), .int a1, .int a2, .int a3, .int a4])).length) Slot.unset).toArray = ls at hl ⊢
  have hl : lv_has ls 12 [(0, .ref (ad 0)), (1, .int a1), (2, .int a2), (3, .int a3), (4, .int a4)] := hl
  generalize hloc : ([] : List Loc) = locs at hw ⊢
  have hinX12 : ∀ w ∈ u_ws RX12 TX12 42, w ∈ (wu yX12_strangers cX12_strangers 12 (some .int)) := fun _ h => List.mem_cons_of_mem _ (up_71 h)
  have J64 : ∀ (f64_12_0 : Int32) (H : Heap) (locs : List Loc) (ls : Array Slot) (w1 : va_W), 0 ≤ f64_12_0.toInt → f64_12_0.toInt ≤ 10 → Wd dC dI A s.heap H locs w1 → TW ksM ad cy B qr 12 w1 → FE ksM [(12, 24, 24), (12, 31, 31), (12, 39, 39), (69, 0, 64), (70, 0, 10), (71, 0, 295), (71, 216, 216), (71, 217, 217), (71, 218, 218), (71, 219, 219), (71, 220, 220), (71, 221, 221), (71, 222, 222), (71, 223, 223), (71, 224, 224), (72, 0, 12), (73, 0, 10), (74, 0, 296)] w0 w1 → RW w1 → SA w0 w1 → gi w1 12 0 = f64_12_0 → TT (fun n => m_X12_strangers n 0 a1.toInt a2.toInt a3.toInt a4.toInt (sL w0)) (fun n => b_X12_strangers_64 (j_X12_strangers 0 n) n 0 (sL w1)) → lv_has ls 12 [(0, .ref (ad 0)), (1, .int a1), (2, .int a2), (3, .int a3), (4, .int a4)] → W p l e ({ frames := 9, cells := 0, slots := 0, locals := 194 }) s m (List.toArray [.ref (ad 0), .int a1, .int a2, .int a3, .int a4]) below meth c H locs 0 0 (MQ below (va_Qi (Py_X12_strangers_1 ad cy B qr s1 a1 a2 a3 a4 w0) (fun u : va_W => wpost dC dI cy A u) A) (List.toArray [.ref (ad 0), .int a1, .int a2, .int a3, .int a4]) s 0 0 A) (F0 m 64 ls []) := by
    intro f64_12_0 H locs ls w1 r2 t3 hw hT hF hRW hSA c4 hM hl
    refine lv_iconst (v := (-1)) hx hb dX12_strangers_64 (by decide) ?_
    exact tk_iret hC hr hlocks hK ⟨(hT.up (show B ≤ (B + 54000) by omega)), hF, hM.ret (by decide), (Or.inr ⟨rfl, (by exact hSA)⟩)⟩ hw dX12_strangers_65
  have L88 : ∀ (n88 : Nat) (v88_5 : Int32) (v88_6 : Int32) (f88_12_0 : Int32) (f88_12_4 : Int32) (f88_12_9 : Int32) (f88_15_0 : Int32) (f88_15_4 : Int32) (f88_15_9 : Int32) (H : Heap) (locs : List Loc) (ls : Array Slot) (w5 : va_W), (-1) ≤ a1.toInt → a1.toInt ≤ 5 → 1 ≤ a2.toInt → a2.toInt ≤ 30 → 1 ≤ a3.toInt → a3.toInt ≤ 200 → 0 ≤ a4.toInt → a4.toInt ≤ 1 → 0 ≤ v88_6.toInt → v88_6.toInt ≤ 30 → 1 ≤ f88_12_0.toInt → f88_12_0.toInt ≤ 10 → 1 ≤ f88_12_4.toInt → f88_12_4.toInt ≤ 4 → 0 ≤ f88_12_9.toInt → 1 ≤ f88_15_0.toInt → f88_15_0.toInt ≤ 10 → 1 ≤ f88_15_4.toInt → f88_15_4.toInt ≤ 4 → 0 ≤ f88_15_9.toInt → (30 - v88_6.toInt).toNat < n88 → Wd dC dI A s.heap H locs w5 → TW ksM ad cy (B + 0 + 1800 * v88_6.toInt) qr 12 w5 → FE ksM [(12, 24, 24), (12, 31, 31), (12, 39, 39), (69, 0, 64), (70, 0, 10), (71, 0, 295), (71, 216, 216), (71, 217, 217), (71, 218, 218), (71, 219, 219), (71, 220, 220), (71, 221, 221), (71, 222, 222), (71, 223, 223), (71, 224, 224), (72, 0, 12), (73, 0, 10), (74, 0, 296)] w0 w5 → RW w5 → SA w0 w5 → KBk w0 w5 → gi w5 12 0 = f88_12_0 → gi w5 12 4 = f88_12_4 → gi w5 12 9 = f88_12_9 → gi w5 15 0 = f88_15_0 → gi w5 15 4 = f88_15_4 → gi w5 15 9 = f88_15_9 → TT (fun n => m_X12_strangers n 0 a1.toInt a2.toInt a3.toInt a4.toInt (sL w0)) (fun n => j_X12_strangers 0 n 88 [a1.toInt, a2.toInt, a3.toInt, a4.toInt, v88_5.toInt, v88_6.toInt] (sL w5)) → lv_has ls 12 [(0, .ref (ad 0)), (1, .int a1), (2, .int a2), (3, .int a3), (4, .int a4), (5, .int v88_5), (6, .int v88_6)] → W p l e ({ frames := 9, cells := 0, slots := 0, locals := 194 }) s m (List.toArray [.ref (ad 0), .int a1, .int a2, .int a3, .int a4]) below meth c H locs 0 0 (MQ below (va_Qi (Py_X12_strangers_1 ad cy B qr s1 a1 a2 a3 a4 w0) (fun u : va_W => wpost dC dI cy A u) A) (List.toArray [.ref (ad 0), .int a1, .int a2, .int a3, .int a4]) s 0 0 A) (F0 m 88 ls []) := by
    intro n88
    induction n88 with
    | zero => intro v88_5 v88_6 f88_12_0 f88_12_4 f88_12_9 f88_15_0 f88_15_4 f88_15_9 H locs ls w5 r6 t7 r8 t9 r10 t11 r12 t13 r14 t15 r16 t17 r19 t20 r22 r24 t25 r27 t28 r30 hm88 hw hT hF hRW hSA hKB c18 c21 c23 c26 c29 c31 hM hl; omega
    | succ n88 ih88 =>
      intro v88_5 v88_6 f88_12_0 f88_12_4 f88_12_9 f88_15_0 f88_15_4 f88_15_9 H locs ls w5 r6 t7 r8 t9 r10 t11 r12 t13 r14 t15 r16 t17 r19 t20 r22 r24 t25 r27 t28 r30 hm88 hw hT hF hRW hSA hKB c18 c21 c23 c26 c29 c31 hM hl
      have J213 : ∀ (v213_5 : Int32) (v213_7 : Int32) (v213_8 : Int32) (v213_9 : Int32) (v213_10 : Int32) (v213_11 : Int32) (H : Heap) (locs : List Loc) (ls : Array Slot) (w32 : va_W), (-1) ≤ a1.toInt → a1.toInt ≤ 5 → 1 ≤ a2.toInt → a2.toInt ≤ 30 → 1 ≤ a3.toInt → a3.toInt ≤ 200 → 0 ≤ a4.toInt → a4.toInt ≤ 1 → 0 ≤ v88_6.toInt → v88_6.toInt ≤ 29 → 0 ≤ v213_7.toInt → v213_7.toInt ≤ 9 → 0 ≤ v213_8.toInt → v213_8.toInt ≤ 9 → 0 ≤ v213_9.toInt → v213_9.toInt ≤ 3 → 0 ≤ v213_10.toInt → v213_10.toInt ≤ 167 → 0 ≤ v213_11.toInt → v213_11.toInt ≤ 200 → 1 ≤ f88_12_0.toInt → f88_12_0.toInt ≤ 10 → 1 ≤ f88_12_4.toInt → f88_12_4.toInt ≤ 4 → 0 ≤ f88_12_9.toInt → 1 ≤ f88_15_0.toInt → f88_15_0.toInt ≤ 10 → 1 ≤ f88_15_4.toInt → f88_15_4.toInt ≤ 4 → 0 ≤ f88_15_9.toInt → Wd dC dI A s.heap H locs w32 → TW ksM ad cy (B + 1800 + 1800 * v88_6.toInt) qr 12 w32 → FE ksM [(12, 24, 24), (12, 31, 31), (12, 39, 39), (69, 0, 64), (70, 0, 10), (71, 0, 295), (71, 216, 216), (71, 217, 217), (71, 218, 218), (71, 219, 219), (71, 220, 220), (71, 221, 221), (71, 222, 222), (71, 223, 223), (71, 224, 224), (72, 0, 12), (73, 0, 10), (74, 0, 296)] w0 w32 → RW w32 → KBk w0 w32 → gi w32 12 0 = f88_12_0 → gi w32 12 4 = f88_12_4 → gi w32 12 9 = f88_12_9 → gi w32 15 0 = f88_15_0 → gi w32 15 4 = f88_15_4 → gi w32 15 9 = f88_15_9 → TT (fun n => m_X12_strangers n 0 a1.toInt a2.toInt a3.toInt a4.toInt (sL w0)) (fun n => b_X12_strangers_213 (j_X12_strangers 0 n) n 0 (a1.toInt) (a2.toInt) (a3.toInt) (a4.toInt) (v213_5.toInt) (v88_6.toInt) (sL w32)) → lv_has ls 12 [(0, .ref (ad 0)), (1, .int a1), (2, .int a2), (3, .int a3), (4, .int a4), (5, .int v213_5), (6, .int v88_6), (7, .int v213_7), (8, .int v213_8), (9, .int v213_9), (10, .int v213_10), (11, .int v213_11)] → W p l e ({ frames := 9, cells := 0, slots := 0, locals := 194 }) s m (List.toArray [.ref (ad 0), .int a1, .int a2, .int a3, .int a4]) below meth c H locs 0 0 (MQ below (va_Qi (Py_X12_strangers_1 ad cy B qr s1 a1 a2 a3 a4 w0) (fun u : va_W => wpost dC dI cy A u) A) (List.toArray [.ref (ad 0), .int a1, .int a2, .int a3, .int a4]) s 0 0 A) (F0 m 213 ls []) := by
        intro v213_5 v213_7 v213_8 v213_9 v213_10 v213_11 H locs ls w32 r33 t34 r35 t36 r37 t38 r39 t40 r41 t42 r43 t44 r45 t46 r47 t48 r49 t50 r51 t52 r53 t54 r56 t57 r59 r61 t62 r64 t65 r67 hw hT hF hRW hKB c55 c58 c60 c63 c66 c68 hM hl
        refine lv_aload_n hx hb dX12_strangers_213 rfl (lv_at hl 0 rfl) ?_
        refine tk_Vv hC hK hw hT hA hE hSR kM_at0 (by decide) rfl (ky_X12_putsBack_1 l adK adV dC dI cy ad (B + 1800 + 1800 * v88_6.toInt) (by omega) (by omega) qr s1    w32 H.size hT ) (cwV 0 hC.2.2.2.2 uV_RX12_429 rfl rfl rfl (by decide +kernel) ⟨Nat.le_of_ble_eq_true rfl, Nat.le_of_ble_eq_true rfl⟩) rfl hl.1 rfl (Nat.le_of_ble_eq_true rfl) dX12_strangers_214 (fun w71 H locs hp70 hw => ?_)
        obtain ⟨hT, k72, hv78, hg77⟩ := hp70
        have hKB := KB_FE k72 (fun _ => rfl) hKB
        have hRW := RW_FE k72 (fun _ => rfl) (fun _ => rfl) (fun _ => rfl) hRW
        have hF := hF.tr k72 (by decide)
        have c79 := k72.gi kM_at15 (by decide) c63
        have c80 := k72.gi kM_at15 (by decide) c66
        have c81 := k72.gi kM_at15 (by decide) c68
        obtain ⟨c73, c74, c75, hq76⟩ := hg77
        replace hM := hM.call hv78 rfl
        have hSA : SA w0 w71 := fun j hj => (hq76 j hj).trans ((k72.gi kM_at15 rfl rfl).symm.trans (hKB j hj))
        obtain ⟨x82, ex82⟩ : ∃ y : Int32, y = v88_6 + Int32.ofInt 1 := ⟨_, rfl⟩
        have erx82 := ex82
        refine lv_iinc (v := x82) (lv' := [(6, .int x82), (0, .ref (ad 0)), (1, .int a1), (2, .int a2), (3, .int a3), (4, .int a4), (5, .int v213_5), (7, .int v213_7), (8, .int v213_8), (9, .int v213_9), (10, .int v213_10), (11, .int v213_11)]) hx hb dX12_strangers_217 hl (k := 6) rfl ex82.symm (by decide) rfl (fun ls hl => ?_)
        have ex82 : x82.toInt = v88_6.toInt + 1 := by rw [ex82]; exact wk_add (y := 1) (show -2147483648 ≤ v88_6.toInt + 1 by omega) (show v88_6.toInt + 1 ≤ 2147483647 by omega)
        replace hM := hM.lt ex82.symm
        refine lv_goto (tgt := 88) hx hb dX12_strangers_220 (by decide) ?_
        exact ih88 v213_5 x82 f88_15_0 f88_15_4 f88_15_9 f88_15_0 f88_15_4 f88_15_9 H locs ls w71 (show (-1) ≤ a1.toInt from r33) (show a1.toInt ≤ 5 from t34) (show 1 ≤ a2.toInt from r35) (show a2.toInt ≤ 30 from t36) (show 1 ≤ a3.toInt from r37) (show a3.toInt ≤ 200 from t38) (show 0 ≤ a4.toInt from r39) (show a4.toInt ≤ 1 from t40) (show 0 ≤ x82.toInt by first | with_reducible assumption | omega) (show x82.toInt ≤ 30 by first | with_reducible assumption | omega) (show 1 ≤ f88_15_0.toInt from r61) (show f88_15_0.toInt ≤ 10 from t62) (show 1 ≤ f88_15_4.toInt from r64) (show f88_15_4.toInt ≤ 4 from t65) (show 0 ≤ f88_15_9.toInt from r67) (show 1 ≤ f88_15_0.toInt from r61) (show f88_15_0.toInt ≤ 10 from t62) (show 1 ≤ f88_15_4.toInt from r64) (show f88_15_4.toInt ≤ 4 from t65) (show 0 ≤ f88_15_9.toInt from r67) (show (30 - x82.toInt).toNat < n88 by first | exact tn_lt hm88 (by omega) (by omega) | omega) hw (hT.up (show (B + 1800 + 1800 * v88_6.toInt) ≤ (B + 0 + 1800 * x82.toInt) by omega)) hF hRW hSA hKB (c73.trans c63) (c74.trans c66) (c75.trans c68) c79 c80 c81 hM (lv_sub hl [1, 2, 3, 4, 5, 6, 0] rfl)
      have J182 : ∀ (v182_7 : Int32) (v182_8 : Int32) (v182_9 : Int32) (v182_10 : Int32) (v182_11 : Int32) (H : Heap) (locs : List Loc) (ls : Array Slot) (w83 : va_W), (-1) ≤ a1.toInt → a1.toInt ≤ 5 → 1 ≤ a2.toInt → a2.toInt ≤ 30 → 1 ≤ a3.toInt → a3.toInt ≤ 200 → 0 ≤ a4.toInt → a4.toInt ≤ 1 → 0 ≤ v88_6.toInt → v88_6.toInt ≤ 29 → 0 ≤ v182_7.toInt → v182_7.toInt ≤ 9 → 0 ≤ v182_8.toInt → v182_8.toInt ≤ 9 → 0 ≤ v182_9.toInt → v182_9.toInt ≤ 3 → 0 ≤ v182_10.toInt → v182_10.toInt ≤ 167 → 0 ≤ v182_11.toInt → v182_11.toInt ≤ 200 → 1 ≤ f88_12_0.toInt → f88_12_0.toInt ≤ 10 → 1 ≤ f88_12_4.toInt → f88_12_4.toInt ≤ 4 → 0 ≤ f88_12_9.toInt → 1 ≤ f88_15_0.toInt → f88_15_0.toInt ≤ 10 → 1 ≤ f88_15_4.toInt → f88_15_4.toInt ≤ 4 → 0 ≤ f88_15_9.toInt → Wd dC dI A s.heap H locs w83 → TW ksM ad cy (B + 1800 + 1800 * v88_6.toInt) qr 12 w83 → FE ksM [(12, 24, 24), (12, 31, 31), (12, 39, 39), (69, 0, 64), (70, 0, 10), (71, 0, 295), (71, 216, 216), (71, 217, 217), (71, 218, 218), (71, 219, 219), (71, 220, 220), (71, 221, 221), (71, 222, 222), (71, 223, 223), (71, 224, 224), (72, 0, 12), (73, 0, 10), (74, 0, 296)] w0 w83 → RW w83 → KBk w0 w83 → gi w83 12 0 = f88_12_0 → gi w83 12 4 = f88_12_4 → gi w83 12 9 = f88_12_9 → gi w83 15 0 = f88_15_0 → gi w83 15 4 = f88_15_4 → gi w83 15 9 = f88_15_9 → TT (fun n => m_X12_strangers n 0 a1.toInt a2.toInt a3.toInt a4.toInt (sL w0)) (fun n => b_X12_strangers_182 (j_X12_strangers 0 n) n 0 (a1.toInt) (a2.toInt) (a3.toInt) (a4.toInt) (v88_5.toInt) (v88_6.toInt) (v182_10.toInt) (sL w83)) → lv_has ls 12 [(0, .ref (ad 0)), (1, .int a1), (2, .int a2), (3, .int a3), (4, .int a4), (5, .int v88_5), (6, .int v88_6), (7, .int v182_7), (8, .int v182_8), (9, .int v182_9), (10, .int v182_10), (11, .int v182_11)] → W p l e ({ frames := 9, cells := 0, slots := 0, locals := 194 }) s m (List.toArray [.ref (ad 0), .int a1, .int a2, .int a3, .int a4]) below meth c H locs 0 0 (MQ below (va_Qi (Py_X12_strangers_1 ad cy B qr s1 a1 a2 a3 a4 w0) (fun u : va_W => wpost dC dI cy A u) A) (List.toArray [.ref (ad 0), .int a1, .int a2, .int a3, .int a4]) s 0 0 A) (F0 m 182 ls []) := by
        intro v182_7 v182_8 v182_9 v182_10 v182_11 H locs ls w83 r84 t85 r86 t87 r88 t89 r90 t91 r92 t93 r94 t95 r96 t97 r98 t99 r100 t101 r102 t103 r104 t105 r107 t108 r110 r112 t113 r115 t116 r118 hw hT hF hRW hKB c106 c109 c111 c114 c117 c119 hM hl
        refine lv_aload_n hx hb dX12_strangers_182 rfl (lv_at hl 0 rfl) ?_
        refine lv_iconst (v := 0) hx hb dX12_strangers_183 (by decide) ?_
        refine tk_Vi hC hK hw hT hA hE hSR kM_at0 (by decide) rfl (ky_X12_isThere_1 l adK adV dC dI cy ad (B + 1800 + 1800 * v88_6.toInt) (by omega) (by omega) qr s1    w83 H.size hT ) (cwV 1 hC.2.2.2.2 uV_RX12_416 rfl rfl rfl (by decide +kernel) ⟨Nat.le_of_ble_eq_true rfl, Nat.le_of_ble_eq_true rfl⟩) rfl hl.1 rfl (Nat.le_of_ble_eq_true rfl) dX12_strangers_184 (fun r120 w122 H locs hp121 hw => ?_)
        obtain ⟨rfl, hv125, hg124⟩ := hp121
        rcases hg124 with rfl | rfl
        · replace hM := hM.call (r' := 0) hv125 (by decide)
          refine lv_if_eq (tgt := 213) hx hb dX12_strangers_187 (by decide) (fun _ => ?_) (fun c => absurd (by decide) c)
          replace hM := hM.pos (by decide)
          exact J213 v88_5 v182_7 v182_8 v182_9 v182_10 v182_11 H locs ls w83 (show (-1) ≤ a1.toInt from r84) (show a1.toInt ≤ 5 from t85) (show 1 ≤ a2.toInt from r86) (show a2.toInt ≤ 30 from t87) (show 1 ≤ a3.toInt from r88) (show a3.toInt ≤ 200 from t89) (show 0 ≤ a4.toInt from r90) (show a4.toInt ≤ 1 from t91) (show 0 ≤ v88_6.toInt from r92) (show v88_6.toInt ≤ 29 from t93) (show 0 ≤ v182_7.toInt from r94) (show v182_7.toInt ≤ 9 from t95) (show 0 ≤ v182_8.toInt from r96) (show v182_8.toInt ≤ 9 from t97) (show 0 ≤ v182_9.toInt from r98) (show v182_9.toInt ≤ 3 from t99) (show 0 ≤ v182_10.toInt from r100) (show v182_10.toInt ≤ 167 from t101) (show 0 ≤ v182_11.toInt from r102) (show v182_11.toInt ≤ 200 from t103) (show 1 ≤ f88_12_0.toInt from r104) (show f88_12_0.toInt ≤ 10 from t105) (show 1 ≤ f88_12_4.toInt from r107) (show f88_12_4.toInt ≤ 4 from t108) (show 0 ≤ f88_12_9.toInt from r110) (show 1 ≤ f88_15_0.toInt from r112) (show f88_15_0.toInt ≤ 10 from t113) (show 1 ≤ f88_15_4.toInt from r115) (show f88_15_4.toInt ≤ 4 from t116) (show 0 ≤ f88_15_9.toInt from r118)  hw hT hF hRW hKB c106 c109 c111 c114 c117 c119 hM (lv_sub hl [0, 1, 2, 3, 4, 5, 6, 7, 8, 9, 10, 11] rfl)
        · replace hM := hM.call (r' := 1) hv125 (by decide)
          refine lv_if_eq (tgt := 213) hx hb dX12_strangers_187 (by decide) (fun c => absurd c (by decide)) (fun _ => ?_)
          replace hM := hM.neg (by decide)
          refine lv_iload hx hb dX12_strangers_190 (lv_at hl 5 rfl) ?_
          refine lv_iload hx hb dX12_strangers_192 (lv_at hl 4 rfl) ?_
          refine lv_if_ne (tgt := 201) hx hb dX12_strangers_194 (by decide) (fun c126 => ?_) (fun c126 => ?_)
          · have c126 : ¬ a4.toInt = (0 : Int) := wk_eqF c126
            replace hM := hM.pos c126
            refine lv_aload_n hx hb dX12_strangers_201 rfl (lv_at hl 0 rfl) ?_
            refine lv_iconst (v := 0) hx hb dX12_strangers_202 (by decide) ?_
            refine lv_iconst (v := 4) hx hb dX12_strangers_203 (by decide) ?_
            refine tk_Vi hC hK hw hT hA hE hSR kM_at0 (by decide) rfl (ky_X12_walkerOf_3 l adK adV dC dI cy ad (B + 1800 + 1800 * v88_6.toInt) (by omega) (by omega) qr s1    w83 H.size hT ) (cwV 2 hC.2.2.2.2 uV_RX12_372 rfl rfl rfl (by decide +kernel) ⟨Nat.le_of_ble_eq_true rfl, Nat.le_of_ble_eq_true rfl⟩) rfl hl.1 rfl (Nat.le_of_ble_eq_true rfl) dX12_strangers_204 (fun r127 w129 H locs hp128 hw => ?_)
            obtain ⟨rfl, hv135, hg134⟩ := hp128
            obtain ⟨g131, g132, c133⟩ := hg134
            replace hM := hM.call hv135 rfl
            refine lv_iload hx hb dX12_strangers_207 (lv_at hl 10 rfl) ?_
            refine lv_isub hx hb dX12_strangers_209 ?_
            refine lv_topi (fun x136 ex136 => ?_)
            have ezx136 := ex136
            have ex136 : x136.toInt = r127.toInt - v182_10.toInt := by rw [ex136]; exact wk_sub (show (-2147483648) ≤ r127.toInt - v182_10.toInt by omega) (show r127.toInt - v182_10.toInt ≤ 2147483647 by omega)
            replace hM := hM.lt ex136.symm
            refine lv_iadd hx hb dX12_strangers_210 ?_
            have nx137 := wk_i32 v88_5
            refine lv_topi (fun x138 ex138 => ?_)
            have ezx138 := ex138
            replace hM := hM.lt (o32_e (f := fun x y => x + y) ezx138 rfl rfl)
            refine lv_istore (lv' := [(5, .int x138), (0, .ref (ad 0)), (1, .int a1), (2, .int a2), (3, .int a3), (4, .int a4), (6, .int v88_6), (7, .int v182_7), (8, .int v182_8), (9, .int v182_9), (10, .int v182_10), (11, .int v182_11)]) hx hb dX12_strangers_211 hl (by decide) rfl (fun ls hl => ?_)
            exact J213 x138 v182_7 v182_8 v182_9 v182_10 v182_11 H locs ls w83 (show (-1) ≤ a1.toInt from r84) (show a1.toInt ≤ 5 from t85) (show 1 ≤ a2.toInt from r86) (show a2.toInt ≤ 30 from t87) (show 1 ≤ a3.toInt from r88) (show a3.toInt ≤ 200 from t89) (show 0 ≤ a4.toInt from r90) (show a4.toInt ≤ 1 from t91) (show 0 ≤ v88_6.toInt from r92) (show v88_6.toInt ≤ 29 from t93) (show 0 ≤ v182_7.toInt from r94) (show v182_7.toInt ≤ 9 from t95) (show 0 ≤ v182_8.toInt from r96) (show v182_8.toInt ≤ 9 from t97) (show 0 ≤ v182_9.toInt from r98) (show v182_9.toInt ≤ 3 from t99) (show 0 ≤ v182_10.toInt from r100) (show v182_10.toInt ≤ 167 from t101) (show 0 ≤ v182_11.toInt from r102) (show v182_11.toInt ≤ 200 from t103) (show 1 ≤ f88_12_0.toInt from r104) (show f88_12_0.toInt ≤ 10 from t105) (show 1 ≤ f88_12_4.toInt from r107) (show f88_12_4.toInt ≤ 4 from t108) (show 0 ≤ f88_12_9.toInt from r110) (show 1 ≤ f88_15_0.toInt from r112) (show f88_15_0.toInt ≤ 10 from t113) (show 1 ≤ f88_15_4.toInt from r115) (show f88_15_4.toInt ≤ 4 from t116) (show 0 ≤ f88_15_9.toInt from r118)  hw hT hF hRW hKB c106 c109 c111 c114 c117 c119 hM (lv_sub hl [1, 2, 3, 4, 5, 0, 6, 7, 8, 9, 10, 11] rfl)
          · have c126 : a4.toInt = (0 : Int) := wk_eq.mp c126
            replace hM := hM.neg (fun q => q c126)
            refine lv_iconst (v := 1) hx hb dX12_strangers_197 (by decide) ?_
            refine lv_goto (tgt := 210) hx hb dX12_strangers_198 (by decide) ?_
            refine lv_iadd hx hb dX12_strangers_210 ?_
            have nx139 := wk_i32 v88_5
            refine lv_topi (fun x140 ex140 => ?_)
            have ezx140 := ex140
            replace hM := hM.lt (o32_e (f := fun x y => x + y) ezx140 rfl (by decide))
            refine lv_istore (lv' := [(5, .int x140), (0, .ref (ad 0)), (1, .int a1), (2, .int a2), (3, .int a3), (4, .int a4), (6, .int v88_6), (7, .int v182_7), (8, .int v182_8), (9, .int v182_9), (10, .int v182_10), (11, .int v182_11)]) hx hb dX12_strangers_211 hl (by decide) rfl (fun ls hl => ?_)
            exact J213 x140 v182_7 v182_8 v182_9 v182_10 v182_11 H locs ls w83 (show (-1) ≤ a1.toInt from r84) (show a1.toInt ≤ 5 from t85) (show 1 ≤ a2.toInt from r86) (show a2.toInt ≤ 30 from t87) (show 1 ≤ a3.toInt from r88) (show a3.toInt ≤ 200 from t89) (show 0 ≤ a4.toInt from r90) (show a4.toInt ≤ 1 from t91) (show 0 ≤ v88_6.toInt from r92) (show v88_6.toInt ≤ 29 from t93) (show 0 ≤ v182_7.toInt from r94) (show v182_7.toInt ≤ 9 from t95) (show 0 ≤ v182_8.toInt from r96) (show v182_8.toInt ≤ 9 from t97) (show 0 ≤ v182_9.toInt from r98) (show v182_9.toInt ≤ 3 from t99) (show 0 ≤ v182_10.toInt from r100) (show v182_10.toInt ≤ 167 from t101) (show 0 ≤ v182_11.toInt from r102) (show v182_11.toInt ≤ 200 from t103) (show 1 ≤ f88_12_0.toInt from r104) (show f88_12_0.toInt ≤ 10 from t105) (show 1 ≤ f88_12_4.toInt from r107) (show f88_12_4.toInt ≤ 4 from t108) (show 0 ≤ f88_12_9.toInt from r110) (show 1 ≤ f88_15_0.toInt from r112) (show f88_15_0.toInt ≤ 10 from t113) (show 1 ≤ f88_15_4.toInt from r115) (show f88_15_4.toInt ≤ 4 from t116) (show 0 ≤ f88_15_9.toInt from r118)  hw hT hF hRW hKB c106 c109 c111 c114 c117 c119 hM (lv_sub hl [1, 2, 3, 4, 5, 0, 6, 7, 8, 9, 10, 11] rfl)
      have L156 : ∀ (n156 : Nat) (v156_7 : Int32) (v156_8 : Int32) (v156_9 : Int32) (v156_10 : Int32) (v156_11 : Int32) (H : Heap) (locs : List Loc) (ls : Array Slot) (w141 : va_W), (-1) ≤ a1.toInt → a1.toInt ≤ 5 → 1 ≤ a2.toInt → a2.toInt ≤ 30 → 1 ≤ a3.toInt → a3.toInt ≤ 200 → 0 ≤ a4.toInt → a4.toInt ≤ 1 → 0 ≤ v88_6.toInt → v88_6.toInt ≤ 29 → 0 ≤ v156_7.toInt → v156_7.toInt ≤ 9 → 0 ≤ v156_8.toInt → v156_8.toInt ≤ 9 → 0 ≤ v156_9.toInt → v156_9.toInt ≤ 3 → 0 ≤ v156_10.toInt → v156_10.toInt ≤ 167 → 0 ≤ v156_11.toInt → v156_11.toInt ≤ 200 → 1 ≤ f88_12_0.toInt → f88_12_0.toInt ≤ 10 → 1 ≤ f88_12_4.toInt → f88_12_4.toInt ≤ 4 → 0 ≤ f88_12_9.toInt → 1 ≤ f88_15_0.toInt → f88_15_0.toInt ≤ 10 → 1 ≤ f88_15_4.toInt → f88_15_4.toInt ≤ 4 → 0 ≤ f88_15_9.toInt → (200 - v156_11.toInt).toNat < n156 → Wd dC dI A s.heap H locs w141 → TW ksM ad cy (B + 0 + 1800 * v88_6.toInt + 9 * v156_11.toInt) qr 12 w141 → FE ksM [(12, 24, 24), (12, 31, 31), (12, 39, 39), (69, 0, 64), (70, 0, 10), (71, 0, 295), (71, 216, 216), (71, 217, 217), (71, 218, 218), (71, 219, 219), (71, 220, 220), (71, 221, 221), (71, 222, 222), (71, 223, 223), (71, 224, 224), (72, 0, 12), (73, 0, 10), (74, 0, 296)] w0 w141 → RW w141 → KBk w0 w141 → gi w141 12 0 = f88_12_0 → gi w141 12 4 = f88_12_4 → gi w141 12 9 = f88_12_9 → gi w141 15 0 = f88_15_0 → gi w141 15 4 = f88_15_4 → gi w141 15 9 = f88_15_9 → TT (fun n => m_X12_strangers n 0 a1.toInt a2.toInt a3.toInt a4.toInt (sL w0)) (fun n => j_X12_strangers 0 n 156 [a1.toInt, a2.toInt, a3.toInt, a4.toInt, v88_5.toInt, v88_6.toInt, v156_10.toInt, v156_11.toInt] (sL w141)) → lv_has ls 12 [(0, .ref (ad 0)), (1, .int a1), (2, .int a2), (3, .int a3), (4, .int a4), (5, .int v88_5), (6, .int v88_6), (7, .int v156_7), (8, .int v156_8), (9, .int v156_9), (10, .int v156_10), (11, .int v156_11)] → W p l e ({ frames := 9, cells := 0, slots := 0, locals := 194 }) s m (List.toArray [.ref (ad 0), .int a1, .int a2, .int a3, .int a4]) below meth c H locs 0 0 (MQ below (va_Qi (Py_X12_strangers_1 ad cy B qr s1 a1 a2 a3 a4 w0) (fun u : va_W => wpost dC dI cy A u) A) (List.toArray [.ref (ad 0), .int a1, .int a2, .int a3, .int a4]) s 0 0 A) (F0 m 156 ls []) := by
        intro n156
        induction n156 with
        | zero => intro v156_7 v156_8 v156_9 v156_10 v156_11 H locs ls w141 r142 t143 r144 t145 r146 t147 r148 t149 r150 t151 r152 t153 r154 t155 r156 t157 r158 t159 r160 t161 r162 t163 r165 t166 r168 r170 t171 r173 t174 r176 hm156 hw hT hF hRW hKB c164 c167 c169 c172 c175 c177 hM hl; omega
        | succ n156 ih156 =>
          intro v156_7 v156_8 v156_9 v156_10 v156_11 H locs ls w141 r142 t143 r144 t145 r146 t147 r148 t149 r150 t151 r152 t153 r154 t155 r156 t157 r158 t159 r160 t161 r162 t163 r165 t166 r168 r170 t171 r173 t174 r176 hm156 hw hT hF hRW hKB c164 c167 c169 c172 c175 c177 hM hl
          replace hM := hM.suc (fun _ => e_X12_strangers_156)
          refine lv_iload hx hb dX12_strangers_156 (lv_at hl 11 rfl) ?_
          refine lv_iload_n hx hb dX12_strangers_158 rfl (lv_at hl 3 rfl) ?_
          refine lv_icmp_ge (tgt := 182) hx hb dX12_strangers_159 (by decide) (fun c178 => ?_) (fun c178 => ?_)
          · have c178 : a3.toInt ≤ v156_11.toInt := wk_le.mp c178
            replace hM := hM.pos c178
            exact J182 v156_7 v156_8 v156_9 v156_10 v156_11 H locs ls w141 (show (-1) ≤ a1.toInt from r142) (show a1.toInt ≤ 5 from t143) (show 1 ≤ a2.toInt from r144) (show a2.toInt ≤ 30 from t145) (show 1 ≤ a3.toInt from r146) (show a3.toInt ≤ 200 from t147) (show 0 ≤ a4.toInt from r148) (show a4.toInt ≤ 1 from t149) (show 0 ≤ v88_6.toInt from r150) (show v88_6.toInt ≤ 29 from t151) (show 0 ≤ v156_7.toInt from r152) (show v156_7.toInt ≤ 9 from t153) (show 0 ≤ v156_8.toInt from r154) (show v156_8.toInt ≤ 9 from t155) (show 0 ≤ v156_9.toInt from r156) (show v156_9.toInt ≤ 3 from t157) (show 0 ≤ v156_10.toInt from r158) (show v156_10.toInt ≤ 167 from t159) (show 0 ≤ v156_11.toInt from r160) (show v156_11.toInt ≤ 200 from t161) (show 1 ≤ f88_12_0.toInt from r162) (show f88_12_0.toInt ≤ 10 from t163) (show 1 ≤ f88_12_4.toInt from r165) (show f88_12_4.toInt ≤ 4 from t166) (show 0 ≤ f88_12_9.toInt from r168) (show 1 ≤ f88_15_0.toInt from r170) (show f88_15_0.toInt ≤ 10 from t171) (show 1 ≤ f88_15_4.toInt from r173) (show f88_15_4.toInt ≤ 4 from t174) (show 0 ≤ f88_15_9.toInt from r176)  hw (hT.up (show (B + 0 + 1800 * v88_6.toInt + 9 * v156_11.toInt) ≤ (B + 1800 + 1800 * v88_6.toInt) by omega)) hF hRW hKB c164 c167 c169 c172 c175 c177 hM (lv_sub hl [0, 1, 2, 3, 4, 5, 6, 7, 8, 9, 10, 11] rfl)
          · have c178 : v156_11.toInt < a3.toInt := wk_leF c178
            replace hM := hM.neg (Int.not_le.mpr c178)
            refine lv_aload_n hx hb dX12_strangers_162 rfl (lv_at hl 0 rfl) ?_
            refine lv_iconst (v := 0) hx hb dX12_strangers_163 (by decide) ?_
            refine tk_Vi hC hK hw hT hA hE hSR kM_at0 (by decide) rfl (ky_X12_isThere_1 l adK adV dC dI cy ad (B + 0 + 1800 * v88_6.toInt + 9 * v156_11.toInt) (by omega) (by omega) qr s1    w141 H.size hT ) (cwV 1 hC.2.2.2.2 uV_RX12_416 rfl rfl rfl (by decide +kernel) ⟨Nat.le_of_ble_eq_true rfl, Nat.le_of_ble_eq_true rfl⟩) rfl hl.1 rfl (Nat.le_of_ble_eq_true rfl) dX12_strangers_164 (fun r179 w181 H locs hp180 hw => ?_)
            obtain ⟨rfl, hv184, hg183⟩ := hp180
            rcases hg183 with rfl | rfl
            · replace hM := hM.call (r' := 0) hv184 (by decide)
              refine lv_if_ne (tgt := 182) hx hb dX12_strangers_167 (by decide) (fun c => absurd (by decide) c) (fun _ => ?_)
              replace hM := hM.neg (by decide)
              refine lv_aload_n hx hb dX12_strangers_170 rfl (lv_at hl 0 rfl) ?_
              refine lv_iconst (v := 0) hx hb dX12_strangers_171 (by decide) ?_
              refine tk_Vi hC hK hw hT hA hE hSR kM_at0 (by decide) rfl (ky_X12_steps_1 l adK adV dC dI cy ad (B + 0 + 1800 * v88_6.toInt + 9 * v156_11.toInt) (by omega) (by omega) qr s1    w141 H.size hT hRW) (cwV 1 hC.2.2.2.2 uV_RX12_419 rfl rfl rfl (by decide +kernel) ⟨Nat.le_of_ble_eq_true rfl, Nat.le_of_ble_eq_true rfl⟩) rfl hl.1 rfl (Nat.le_of_ble_eq_true rfl) dX12_strangers_172 (fun r185 w187 H locs hp186 hw => ?_)
              obtain ⟨hT, k188, hv190, hg189⟩ := hp186
              have hT := hT.up (B' := (B + 9 + 1800 * v88_6.toInt + 9 * v156_11.toInt)) (by omega)
              have hKB := KB_FE k188 (fun _ => rfl) hKB
              have hRW := RW_FE k188 (fun _ => rfl) (fun _ => rfl) (fun _ => rfl) hRW
              have hF := hF.tr k188 (by decide)
              have c191 := k188.gi kM_at12 (by decide) c164
              have c192 := k188.gi kM_at12 (by decide) c167
              have c193 := k188.gi kM_at12 (by decide) c169
              have c194 := k188.gi kM_at15 (by decide) c172
              have c195 := k188.gi kM_at15 (by decide) c175
              have c196 := k188.gi kM_at15 (by decide) c177
              rcases hg189 with rfl | rfl
              · replace hM := hM.call (r' := 0) hv190 (by decide)
                refine lv_pop hx hb dX12_strangers_175 rfl ?_
                obtain ⟨x197, ex197⟩ : ∃ y : Int32, y = v156_11 + Int32.ofInt 1 := ⟨_, rfl⟩
                have erx197 := ex197
                refine lv_iinc (v := x197) (lv' := [(11, .int x197), (0, .ref (ad 0)), (1, .int a1), (2, .int a2), (3, .int a3), (4, .int a4), (5, .int v88_5), (6, .int v88_6), (7, .int v156_7), (8, .int v156_8), (9, .int v156_9), (10, .int v156_10)]) hx hb dX12_strangers_176 hl (k := 11) rfl ex197.symm (by decide) rfl (fun ls hl => ?_)
                have ex197 : x197.toInt = v156_11.toInt + 1 := by rw [ex197]; exact wk_add (y := 1) (show -2147483648 ≤ v156_11.toInt + 1 by omega) (show v156_11.toInt + 1 ≤ 2147483647 by omega)
                replace hM := hM.lt ex197.symm
                refine lv_goto (tgt := 156) hx hb dX12_strangers_179 (by decide) ?_
                exact ih156 v156_7 v156_8 v156_9 v156_10 x197 H locs ls w187 (show (-1) ≤ a1.toInt from r142) (show a1.toInt ≤ 5 from t143) (show 1 ≤ a2.toInt from r144) (show a2.toInt ≤ 30 from t145) (show 1 ≤ a3.toInt from r146) (show a3.toInt ≤ 200 from t147) (show 0 ≤ a4.toInt from r148) (show a4.toInt ≤ 1 from t149) (show 0 ≤ v88_6.toInt from r150) (show v88_6.toInt ≤ 29 from t151) (show 0 ≤ v156_7.toInt from r152) (show v156_7.toInt ≤ 9 from t153) (show 0 ≤ v156_8.toInt from r154) (show v156_8.toInt ≤ 9 from t155) (show 0 ≤ v156_9.toInt from r156) (show v156_9.toInt ≤ 3 from t157) (show 0 ≤ v156_10.toInt from r158) (show v156_10.toInt ≤ 167 from t159) (show 0 ≤ x197.toInt by first | with_reducible assumption | omega) (show x197.toInt ≤ 200 by first | with_reducible assumption | omega) (show 1 ≤ f88_12_0.toInt from r162) (show f88_12_0.toInt ≤ 10 from t163) (show 1 ≤ f88_12_4.toInt from r165) (show f88_12_4.toInt ≤ 4 from t166) (show 0 ≤ f88_12_9.toInt from r168) (show 1 ≤ f88_15_0.toInt from r170) (show f88_15_0.toInt ≤ 10 from t171) (show 1 ≤ f88_15_4.toInt from r173) (show f88_15_4.toInt ≤ 4 from t174) (show 0 ≤ f88_15_9.toInt from r176) (show (200 - x197.toInt).toNat < n156 by first | exact tn_lt hm156 (by omega) (by omega) | omega) hw (hT.up (show (B + 9 + 1800 * v88_6.toInt + 9 * v156_11.toInt) ≤ (B + 0 + 1800 * v88_6.toInt + 9 * x197.toInt) by omega)) hF hRW hKB c191 c192 c193 c194 c195 c196 hM (lv_sub hl [1, 2, 3, 4, 5, 6, 7, 8, 9, 10, 11, 0] rfl)
              · replace hM := hM.call (r' := 1) hv190 (by decide)
                refine lv_pop hx hb dX12_strangers_175 rfl ?_
                obtain ⟨x198, ex198⟩ : ∃ y : Int32, y = v156_11 + Int32.ofInt 1 := ⟨_, rfl⟩
                have erx198 := ex198
                refine lv_iinc (v := x198) (lv' := [(11, .int x198), (0, .ref (ad 0)), (1, .int a1), (2, .int a2), (3, .int a3), (4, .int a4), (5, .int v88_5), (6, .int v88_6), (7, .int v156_7), (8, .int v156_8), (9, .int v156_9), (10, .int v156_10)]) hx hb dX12_strangers_176 hl (k := 11) rfl ex198.symm (by decide) rfl (fun ls hl => ?_)
                have ex198 : x198.toInt = v156_11.toInt + 1 := by rw [ex198]; exact wk_add (y := 1) (show -2147483648 ≤ v156_11.toInt + 1 by omega) (show v156_11.toInt + 1 ≤ 2147483647 by omega)
                replace hM := hM.lt ex198.symm
                refine lv_goto (tgt := 156) hx hb dX12_strangers_179 (by decide) ?_
                exact ih156 v156_7 v156_8 v156_9 v156_10 x198 H locs ls w187 (show (-1) ≤ a1.toInt from r142) (show a1.toInt ≤ 5 from t143) (show 1 ≤ a2.toInt from r144) (show a2.toInt ≤ 30 from t145) (show 1 ≤ a3.toInt from r146) (show a3.toInt ≤ 200 from t147) (show 0 ≤ a4.toInt from r148) (show a4.toInt ≤ 1 from t149) (show 0 ≤ v88_6.toInt from r150) (show v88_6.toInt ≤ 29 from t151) (show 0 ≤ v156_7.toInt from r152) (show v156_7.toInt ≤ 9 from t153) (show 0 ≤ v156_8.toInt from r154) (show v156_8.toInt ≤ 9 from t155) (show 0 ≤ v156_9.toInt from r156) (show v156_9.toInt ≤ 3 from t157) (show 0 ≤ v156_10.toInt from r158) (show v156_10.toInt ≤ 167 from t159) (show 0 ≤ x198.toInt by first | with_reducible assumption | omega) (show x198.toInt ≤ 200 by first | with_reducible assumption | omega) (show 1 ≤ f88_12_0.toInt from r162) (show f88_12_0.toInt ≤ 10 from t163) (show 1 ≤ f88_12_4.toInt from r165) (show f88_12_4.toInt ≤ 4 from t166) (show 0 ≤ f88_12_9.toInt from r168) (show 1 ≤ f88_15_0.toInt from r170) (show f88_15_0.toInt ≤ 10 from t171) (show 1 ≤ f88_15_4.toInt from r173) (show f88_15_4.toInt ≤ 4 from t174) (show 0 ≤ f88_15_9.toInt from r176) (show (200 - x198.toInt).toNat < n156 by first | exact tn_lt hm156 (by omega) (by omega) | omega) hw (hT.up (show (B + 9 + 1800 * v88_6.toInt + 9 * v156_11.toInt) ≤ (B + 0 + 1800 * v88_6.toInt + 9 * x198.toInt) by omega)) hF hRW hKB c191 c192 c193 c194 c195 c196 hM (lv_sub hl [1, 2, 3, 4, 5, 6, 7, 8, 9, 10, 11, 0] rfl)
            · replace hM := hM.call (r' := 1) hv184 (by decide)
              refine lv_if_ne (tgt := 182) hx hb dX12_strangers_167 (by decide) (fun _ => ?_) (fun c => absurd c (by decide))
              replace hM := hM.pos (by decide)
              exact J182 v156_7 v156_8 v156_9 v156_10 v156_11 H locs ls w141 (show (-1) ≤ a1.toInt from r142) (show a1.toInt ≤ 5 from t143) (show 1 ≤ a2.toInt from r144) (show a2.toInt ≤ 30 from t145) (show 1 ≤ a3.toInt from r146) (show a3.toInt ≤ 200 from t147) (show 0 ≤ a4.toInt from r148) (show a4.toInt ≤ 1 from t149) (show 0 ≤ v88_6.toInt from r150) (show v88_6.toInt ≤ 29 from t151) (show 0 ≤ v156_7.toInt from r152) (show v156_7.toInt ≤ 9 from t153) (show 0 ≤ v156_8.toInt from r154) (show v156_8.toInt ≤ 9 from t155) (show 0 ≤ v156_9.toInt from r156) (show v156_9.toInt ≤ 3 from t157) (show 0 ≤ v156_10.toInt from r158) (show v156_10.toInt ≤ 167 from t159) (show 0 ≤ v156_11.toInt from r160) (show v156_11.toInt ≤ 200 from t161) (show 1 ≤ f88_12_0.toInt from r162) (show f88_12_0.toInt ≤ 10 from t163) (show 1 ≤ f88_12_4.toInt from r165) (show f88_12_4.toInt ≤ 4 from t166) (show 0 ≤ f88_12_9.toInt from r168) (show 1 ≤ f88_15_0.toInt from r170) (show f88_15_0.toInt ≤ 10 from t171) (show 1 ≤ f88_15_4.toInt from r173) (show f88_15_4.toInt ≤ 4 from t174) (show 0 ≤ f88_15_9.toInt from r176)  hw (hT.up (show (B + 0 + 1800 * v88_6.toInt + 9 * v156_11.toInt) ≤ (B + 1800 + 1800 * v88_6.toInt) by omega)) hF hRW hKB c164 c167 c169 c172 c175 c177 hM (lv_sub hl [0, 1, 2, 3, 4, 5, 6, 7, 8, 9, 10, 11] rfl)
      replace hM := hM.suc (fun _ => e_X12_strangers_88)
      refine lv_iload hx hb dX12_strangers_88 (lv_at hl 6 rfl) ?_
      refine lv_iload_n hx hb dX12_strangers_90 rfl (lv_at hl 2 rfl) ?_
      refine lv_icmp_ge (tgt := 223) hx hb dX12_strangers_91 (by decide) (fun c199 => ?_) (fun c199 => ?_)
      · have c199 : a2.toInt ≤ v88_6.toInt := wk_le.mp c199
        replace hM := hM.pos c199
        refine lv_iload hx hb dX12_strangers_223 (lv_at hl 5 rfl) ?_
        exact tk_iret hC hr hlocks hK ⟨(hT.up (show (B + 0 + 1800 * v88_6.toInt) ≤ (B + 54000) by omega)), hF, hM.ret rfl, (Or.inl ⟨(show (-1) ≤ a1.toInt from r6), (show a1.toInt ≤ 5 from t7), (show 1 ≤ a2.toInt from r8), (show a2.toInt ≤ 30 from t9), (show 1 ≤ a3.toInt from r10), (show a3.toInt ≤ 200 from t11), (show 0 ≤ a4.toInt from r12), (show a4.toInt ≤ 1 from t13), ⟨f88_12_0, c18, (show 1 ≤ f88_12_0.toInt from r16), (show f88_12_0.toInt ≤ 10 from t17)⟩, ⟨f88_12_4, c21, (show 1 ≤ f88_12_4.toInt from r19), (show f88_12_4.toInt ≤ 4 from t20)⟩, (by exact hSA)⟩)⟩ hw dX12_strangers_225
      · have c199 : v88_6.toInt < a2.toInt := wk_leF c199
        replace hM := hM.neg (Int.not_le.mpr c199)
        refine lv_aload_n hx hb dX12_strangers_94 rfl (lv_at hl 0 rfl) ?_
        refine lv_aload_n hx hb dX12_strangers_95 rfl (lv_at hl 0 rfl) ?_
        refine tk_getA hC hK hw hT hinX12 kM_at0 (by decide) rfl 26 (by decide) (List.mem_cons_of_mem _ uw_7_1) rfl rfl dX12_strangers_96 ?_
        refine lv_iconst (v := 0) hx hb dX12_strangers_99 (by decide) ?_
        refine tk_ialdR hC hK hw hT kM_at12 rfl (by decide) (by decide) dX12_strangers_100 (fun x200 c201 Ex200 => ?_)
        have hox200 := c201
        refine wk_top f88_12_0 (c201.symm.trans c18) ?_
        replace hM := hM.rd ((sL_at (kM_lt kM_at12) hox200).trans (congrArg Int32.toInt (c201.symm.trans c18)))
        refine tk_Vi hC hK hw hT hA hE hSR kM_at0 (by decide) rfl (ky_X12_draw_1 l adK adV dC dI cy ad (B + 0 + 1800 * v88_6.toInt) (by omega) (by omega) qr s1   f88_12_0 (show 1 ≤ f88_12_0.toInt from r16) (show f88_12_0.toInt ≤ 10 from t17) w5 H.size hT ) (cwV 1 hC.2.2.2.2 uV_RX12_507 rfl rfl rfl (by decide +kernel) ⟨Nat.le_of_ble_eq_true rfl, Nat.le_of_ble_eq_true rfl⟩) rfl hl.1 rfl (Nat.le_of_ble_eq_true rfl) dX12_strangers_101 (fun r202 w204 H locs hp203 hw => ?_)
        obtain ⟨hT, k205, hv209, hg208⟩ := hp203
        have hSA := SA_FE k205 (fun _ => rfl) hSA
        have hKB := KB_FE k205 (fun _ => rfl) hKB
        have hRW := RW_FE k205 (fun _ => rfl) (fun _ => rfl) (fun _ => rfl) hRW
        have hF := hF.tr k205 (by decide)
        have c210 := k205.gi kM_at12 (by decide) c18
        have c211 := k205.gi kM_at12 (by decide) c21
        have c212 := k205.gi kM_at12 (by decide) c23
        have c213 := k205.gi kM_at15 (by decide) c26
        have c214 := k205.gi kM_at15 (by decide) c29
        have c215 := k205.gi kM_at15 (by decide) c31
        obtain ⟨g206, g207⟩ := hg208
        replace hM := hM.call hv209 rfl
        refine lv_istore (lv' := [(7, .int r202), (0, .ref (ad 0)), (1, .int a1), (2, .int a2), (3, .int a3), (4, .int a4), (5, .int v88_5), (6, .int v88_6)]) hx hb dX12_strangers_104 hl (by decide) rfl (fun ls hl => ?_)
        refine lv_aload_n hx hb dX12_strangers_106 rfl (lv_at hl 1 rfl) ?_
        refine lv_aload_n hx hb dX12_strangers_107 rfl (lv_at hl 1 rfl) ?_
        refine tk_getA hC hK hw hT hinX12 kM_at0 (by decide) rfl 26 (by decide) (List.mem_cons_of_mem _ uw_7_1) rfl rfl dX12_strangers_108 ?_
        refine lv_iconst (v := 0) hx hb dX12_strangers_111 (by decide) ?_
        refine tk_ialdR hC hK hw hT kM_at12 rfl (by decide) (by decide) dX12_strangers_112 (fun x216 c217 Ex216 => ?_)
        have hox216 := c217
        refine wk_top f88_12_0 (c217.symm.trans c210) ?_
        replace hM := hM.rd ((sL_at (kM_lt kM_at12) hox216).trans (congrArg Int32.toInt (c217.symm.trans c210)))
        refine tk_Vi hC hK hw hT hA hE hSR kM_at0 (by decide) rfl (ky_X12_draw_1 l adK adV dC dI cy ad (B + 0 + 1800 * v88_6.toInt) (by omega) (by omega) qr s1   f88_12_0 (show 1 ≤ f88_12_0.toInt from r16) (show f88_12_0.toInt ≤ 10 from t17) w204 H.size hT ) (cwV 1 hC.2.2.2.2 uV_RX12_507 rfl rfl rfl (by decide +kernel) ⟨Nat.le_of_ble_eq_true rfl, Nat.le_of_ble_eq_true rfl⟩) rfl hl.1 rfl (Nat.le_of_ble_eq_true rfl) dX12_strangers_113 (fun r218 w220 H locs hp219 hw => ?_)
        obtain ⟨hT, k221, hv225, hg224⟩ := hp219
        have hSA := SA_FE k221 (fun _ => rfl) hSA
        have hKB := KB_FE k221 (fun _ => rfl) hKB
        have hRW := RW_FE k221 (fun _ => rfl) (fun _ => rfl) (fun _ => rfl) hRW
        have hF := hF.tr k221 (by decide)
        have c226 := k221.gi kM_at12 (by decide) c210
        have c227 := k221.gi kM_at12 (by decide) c211
        have c228 := k221.gi kM_at12 (by decide) c212
        have c229 := k221.gi kM_at15 (by decide) c213
        have c230 := k221.gi kM_at15 (by decide) c214
        have c231 := k221.gi kM_at15 (by decide) c215
        obtain ⟨g222, g223⟩ := hg224
        replace hM := hM.call hv225 rfl
        refine lv_istore (lv' := [(8, .int r218), (7, .int r202), (0, .ref (ad 0)), (1, .int a1), (2, .int a2), (3, .int a3), (4, .int a4), (5, .int v88_5), (6, .int v88_6)]) hx hb dX12_strangers_116 hl (by decide) rfl (fun ls hl => ?_)
        refine lv_aload_n hx hb dX12_strangers_118 rfl (lv_at hl 2 rfl) ?_
        refine lv_aload_n hx hb dX12_strangers_119 rfl (lv_at hl 2 rfl) ?_
        refine tk_getA hC hK hw hT hinX12 kM_at0 (by decide) rfl 26 (by decide) (List.mem_cons_of_mem _ uw_7_1) rfl rfl dX12_strangers_120 ?_
        refine lv_iconst (v := 4) hx hb dX12_strangers_123 (by decide) ?_
        refine tk_ialdR hC hK hw hT kM_at12 rfl (by decide) (by decide) dX12_strangers_124 (fun x232 c233 Ex232 => ?_)
        have hox232 := c233
        refine wk_top f88_12_4 (c233.symm.trans c227) ?_
        replace hM := hM.rd ((sL_at (kM_lt kM_at12) hox232).trans (congrArg Int32.toInt (c233.symm.trans c227)))
        refine tk_Vi hC hK hw hT hA hE hSR kM_at0 (by decide) rfl (ky_X12_draw_2 l adK adV dC dI cy ad (B + 0 + 1800 * v88_6.toInt) (by omega) (by omega) qr s1   f88_12_4 (show 1 ≤ f88_12_4.toInt from r19) (show f88_12_4.toInt ≤ 4 from t20) w220 H.size hT ) (cwV 1 hC.2.2.2.2 uV_RX12_507 rfl rfl rfl (by decide +kernel) ⟨Nat.le_of_ble_eq_true rfl, Nat.le_of_ble_eq_true rfl⟩) rfl hl.1 rfl (Nat.le_of_ble_eq_true rfl) dX12_strangers_125 (fun r234 w236 H locs hp235 hw => ?_)
        obtain ⟨hT, k237, hv241, hg240⟩ := hp235
        have hSA := SA_FE k237 (fun _ => rfl) hSA
        have hKB := KB_FE k237 (fun _ => rfl) hKB
        have hRW := RW_FE k237 (fun _ => rfl) (fun _ => rfl) (fun _ => rfl) hRW
        have hF := hF.tr k237 (by decide)
        have c242 := k237.gi kM_at12 (by decide) c226
        have c243 := k237.gi kM_at12 (by decide) c227
        have c244 := k237.gi kM_at12 (by decide) c228
        have c245 := k237.gi kM_at15 (by decide) c229
        have c246 := k237.gi kM_at15 (by decide) c230
        have c247 := k237.gi kM_at15 (by decide) c231
        obtain ⟨g238, g239⟩ := hg240
        replace hM := hM.call hv241 rfl
        refine lv_istore (lv' := [(9, .int r234), (8, .int r218), (7, .int r202), (0, .ref (ad 0)), (1, .int a1), (2, .int a2), (3, .int a3), (4, .int a4), (5, .int v88_5), (6, .int v88_6)]) hx hb dX12_strangers_128 hl (by decide) rfl (fun ls hl => ?_)
        refine lv_aload_n hx hb dX12_strangers_130 rfl (lv_at hl 3 rfl) ?_
        refine lv_sipush (v := 168) hx hb dX12_strangers_131 (by decide) ?_
        refine tk_Vi hC hK hw hT hA hE hSR kM_at0 (by decide) rfl (ky_X12_draw_3 l adK adV dC dI cy ad (B + 0 + 1800 * v88_6.toInt) (by omega) (by omega) qr s1    w236 H.size hT ) (cwV 1 hC.2.2.2.2 uV_RX12_507 rfl rfl rfl (by decide +kernel) ⟨Nat.le_of_ble_eq_true rfl, Nat.le_of_ble_eq_true rfl⟩) rfl hl.1 rfl (Nat.le_of_ble_eq_true rfl) dX12_strangers_134 (fun r248 w250 H locs hp249 hw => ?_)
        obtain ⟨hT, k251, hv255, hg254⟩ := hp249
        have hSA := SA_FE k251 (fun _ => rfl) hSA
        have hKB := KB_FE k251 (fun _ => rfl) hKB
        have hRW := RW_FE k251 (fun _ => rfl) (fun _ => rfl) (fun _ => rfl) hRW
        have hF := hF.tr k251 (by decide)
        have c256 := k251.gi kM_at12 (by decide) c242
        have c257 := k251.gi kM_at12 (by decide) c243
        have c258 := k251.gi kM_at12 (by decide) c244
        have c259 := k251.gi kM_at15 (by decide) c245
        have c260 := k251.gi kM_at15 (by decide) c246
        have c261 := k251.gi kM_at15 (by decide) c247
        obtain ⟨g252, g253⟩ := hg254
        replace hM := hM.call hv255 rfl
        refine lv_istore (lv' := [(10, .int r248), (9, .int r234), (8, .int r218), (7, .int r202), (0, .ref (ad 0)), (1, .int a1), (2, .int a2), (3, .int a3), (4, .int a4), (5, .int v88_5), (6, .int v88_6)]) hx hb dX12_strangers_137 hl (by decide) rfl (fun ls hl => ?_)
        refine lv_aload_n hx hb dX12_strangers_139 rfl (lv_at hl 4 rfl) ?_
        refine lv_iconst (v := 0) hx hb dX12_strangers_140 (by decide) ?_
        refine lv_iload hx hb dX12_strangers_141 (lv_at hl 3 rfl) ?_
        refine lv_iload hx hb dX12_strangers_143 (lv_at hl 2 rfl) ?_
        refine lv_iload hx hb dX12_strangers_145 (lv_at hl 1 rfl) ?_
        refine lv_iload_n hx hb dX12_strangers_147 rfl (lv_at hl 5 rfl) ?_
        refine lv_iload hx hb dX12_strangers_148 (lv_at hl 0 rfl) ?_
        refine tk_Vv hC hK hw hT hA hE hSR kM_at0 (by decide) rfl (ky_X12_setsOut_1 l adK adV dC dI cy ad (B + 0 + 1800 * v88_6.toInt) (by omega) (by omega) qr s1   r202 (show 0 ≤ r202.toInt by first | with_reducible assumption | omega) (show r202.toInt ≤ 9 by first | with_reducible assumption | omega) r218 (show 0 ≤ r218.toInt by first | with_reducible assumption | omega) (show r218.toInt ≤ 9 by first | with_reducible assumption | omega) r234 (show 0 ≤ r234.toInt by first | with_reducible assumption | omega) (show r234.toInt ≤ 3 by first | with_reducible assumption | omega) a1 (show (-1) ≤ a1.toInt from r6) (show a1.toInt ≤ 5 from t7) r248 (show 0 ≤ r248.toInt by first | with_reducible assumption | omega) (show r248.toInt ≤ 167 by first | with_reducible assumption | omega) w250 H.size hT ) (cwV 6 hC.2.2.2.2 uV_RX12_363 rfl rfl rfl (by decide +kernel) ⟨Nat.le_of_ble_eq_true rfl, Nat.le_of_ble_eq_true rfl⟩) rfl hl.1 rfl (Nat.le_of_ble_eq_true rfl) dX12_strangers_150 (fun w264 H locs hp263 hw => ?_)
        obtain ⟨hT, k265, hv277, hg276⟩ := hp263
        have hKB := KB_FE k265 (fun _ => rfl) hKB
        have hRW := RW_FE k265 (fun _ => rfl) (fun _ => rfl) (fun _ => rfl) hRW
        have hF := hF.tr k265 (by decide)
        have c278 := k265.gi kM_at12 (by decide) c256
        have c279 := k265.gi kM_at12 (by decide) c257
        have c280 := k265.gi kM_at12 (by decide) c258
        have c281 := k265.gi kM_at15 (by decide) c259
        have c282 := k265.gi kM_at15 (by decide) c260
        have c283 := k265.gi kM_at15 (by decide) c261
        obtain ⟨⟨x266, c267, rx266, tx266⟩, ⟨x268, c269, rx268, tx268⟩, ⟨x270, c271, rx270, tx270⟩, ⟨x272, c273, rx272, tx272⟩, ⟨x274, c275, rx274, tx274⟩⟩ := hg276
        replace hM := hM.call hv277 rfl
        refine lv_iconst (v := 0) hx hb dX12_strangers_153 (by decide) ?_
        refine lv_istore (lv' := [(11, .int 0), (10, .int r248), (9, .int r234), (8, .int r218), (7, .int r202), (0, .ref (ad 0)), (1, .int a1), (2, .int a2), (3, .int a3), (4, .int a4), (5, .int v88_5), (6, .int v88_6)]) hx hb dX12_strangers_154 hl (by decide) rfl (fun ls hl => ?_)
        exact L156 ((200 - (0 : Int)).toNat + 1) r202 r218 r234 r248 0 H locs ls w264 (show (-1) ≤ a1.toInt from r6) (show a1.toInt ≤ 5 from t7) (show 1 ≤ a2.toInt from r8) (show a2.toInt ≤ 30 from t9) (show 1 ≤ a3.toInt from r10) (show a3.toInt ≤ 200 from t11) (show 0 ≤ a4.toInt from r12) (show a4.toInt ≤ 1 from t13) (show 0 ≤ v88_6.toInt from r14) (show v88_6.toInt ≤ 29 by first | with_reducible assumption | omega) (show 0 ≤ r202.toInt by first | with_reducible assumption | omega) (show r202.toInt ≤ 9 by first | with_reducible assumption | omega) (show 0 ≤ r218.toInt by first | with_reducible assumption | omega) (show r218.toInt ≤ 9 by first | with_reducible assumption | omega) (show 0 ≤ r234.toInt by first | with_reducible assumption | omega) (show r234.toInt ≤ 3 by first | with_reducible assumption | omega) (show 0 ≤ r248.toInt by first | with_reducible assumption | omega) (show r248.toInt ≤ 167 by first | with_reducible assumption | omega) (by decide) (by decide) (show 1 ≤ f88_12_0.toInt from r16) (show f88_12_0.toInt ≤ 10 from t17) (show 1 ≤ f88_12_4.toInt from r19) (show f88_12_4.toInt ≤ 4 from t20) (show 0 ≤ f88_12_9.toInt from r22) (show 1 ≤ f88_15_0.toInt from r24) (show f88_15_0.toInt ≤ 10 from t25) (show 1 ≤ f88_15_4.toInt from r27) (show f88_15_4.toInt ≤ 4 from t28) (show 0 ≤ f88_15_9.toInt from r30) (Nat.lt_succ_self _) hw (hT.up (show (B + 0 + 1800 * v88_6.toInt) ≤ (B + 0 + 1800 * v88_6.toInt + 9 * (0 : Int32).toInt) by rw [show (0 : Int32).toInt = 0 by decide]; omega)) hF hRW hKB c278 c279 c280 c281 c282 c283 hM (lv_sub hl [5, 6, 7, 8, 9, 10, 11, 4, 3, 2, 1, 0] rfl)
  have J29 : ∀ (f29_12_0 : Int32) (f29_12_4 : Int32) (H : Heap) (locs : List Loc) (ls : Array Slot) (w284 : va_W), (-1) ≤ a1.toInt → a1.toInt ≤ 5 → 1 ≤ f29_12_0.toInt → f29_12_0.toInt ≤ 10 → 1 ≤ f29_12_4.toInt → f29_12_4.toInt ≤ 4 → Wd dC dI A s.heap H locs w284 → TW ksM ad cy B qr 12 w284 → FE ksM [(12, 24, 24), (12, 31, 31), (12, 39, 39), (69, 0, 64), (70, 0, 10), (71, 0, 295), (71, 216, 216), (71, 217, 217), (71, 218, 218), (71, 219, 219), (71, 220, 220), (71, 221, 221), (71, 222, 222), (71, 223, 223), (71, 224, 224), (72, 0, 12), (73, 0, 10), (74, 0, 296)] w0 w284 → RW w284 → SA w0 w284 → gi w284 12 0 = f29_12_0 → gi w284 12 4 = f29_12_4 → TT (fun n => m_X12_strangers n 0 a1.toInt a2.toInt a3.toInt a4.toInt (sL w0)) (fun n => b_X12_strangers_29 (j_X12_strangers 0 n) n 0 (a1.toInt) (a2.toInt) (a3.toInt) (a4.toInt) (sL w284)) → lv_has ls 12 [(0, .ref (ad 0)), (1, .int a1), (2, .int a2), (3, .int a3), (4, .int a4)] → W p l e ({ frames := 9, cells := 0, slots := 0, locals := 194 }) s m (List.toArray [.ref (ad 0), .int a1, .int a2, .int a3, .int a4]) below meth c H locs 0 0 (MQ below (va_Qi (Py_X12_strangers_1 ad cy B qr s1 a1 a2 a3 a4 w0) (fun u : va_W => wpost dC dI cy A u) A) (List.toArray [.ref (ad 0), .int a1, .int a2, .int a3, .int a4]) s 0 0 A) (F0 m 29 ls []) := by
    intro f29_12_0 f29_12_4 H locs ls w284 r285 t286 r287 t288 r290 t291 hw hT hF hRW hSA c289 c292 hM hl
    refine lv_iload_n hx hb dX12_strangers_29 rfl (lv_at hl 2 rfl) ?_
    refine lv_i2l hx hb dX12_strangers_30 rfl ?_
    refine lv_topl (fun x293 ex293 => ?_)
    have ex293 : x293.toInt = a2.toInt := by rw [ex293]; exact wk_i2l _
    have bx293 := wk_i32 a2
    replace hM := hM.lt ex293.symm
    refine lv_lconst (v := 1) hx hb dX12_strangers_31 (by decide) ?_
    refine lv_ldc2 (v := 30) hx hb hC.2.2.2.1 (hC.2.2.2.2 _ (List.mem_cons_of_mem _ uw_68_3)) dX12_strangers_32 ?_
    refine tk_Si hC hK hw hT hA hE hSR (ky_X12_in_1 l adK adV dC dI cy ad B hB0 (Int.le_trans hB1 (by decide)) qr s1   x293 (show (-2147483648) ≤ x293.toInt by first | with_reducible assumption | omega) (show x293.toInt ≤ 2147483647 by first | with_reducible assumption | omega) w284 H.size hT ) (va_cwS 3 hC.2.2.2.2 uS_RX12_122 rfl rfl rfl (by decide +kernel) ⟨Nat.le_of_ble_eq_true rfl, Nat.le_of_ble_eq_true rfl⟩) rfl hl.1 rfl (Nat.le_of_ble_eq_true rfl) dX12_strangers_35 (fun r294 w296 H locs hp295 hw => ?_)
    obtain ⟨rfl, hv301, hg300⟩ := hp295
    rcases hg300 with rfl | ⟨rfl, g298, g299⟩
    · replace hM := hM.call (r' := 0) hv301 (by decide)
      refine lv_if_eq (tgt := 64) hx hb dX12_strangers_38 (by decide) (fun _ => ?_) (fun c => absurd (by decide) c)
      replace hM := hM.pos (by decide)
      exact J64 f29_12_0 H locs ls w284 (show 0 ≤ f29_12_0.toInt from Int.le_trans (by decide) r287) (show f29_12_0.toInt ≤ 10 from t288)  hw hT hF hRW hSA c289 hM (lv_sub hl [0, 1, 2, 3, 4] rfl)
    · replace hM := hM.call (r' := 1) hv301 (by decide)
      refine lv_if_eq (tgt := 64) hx hb dX12_strangers_38 (by decide) (fun c => absurd c (by decide)) (fun _ => ?_)
      replace hM := hM.neg (by decide)
      refine lv_iload_n hx hb dX12_strangers_41 rfl (lv_at hl 3 rfl) ?_
      refine lv_i2l hx hb dX12_strangers_42 rfl ?_
      refine lv_topl (fun x302 ex302 => ?_)
      have ex302 : x302.toInt = a3.toInt := by rw [ex302]; exact wk_i2l _
      have bx302 := wk_i32 a3
      replace hM := hM.lt ex302.symm
      refine lv_lconst (v := 1) hx hb dX12_strangers_43 (by decide) ?_
      refine lv_ldc2 (v := 200) hx hb hC.2.2.2.1 (hC.2.2.2.2 _ (List.mem_cons_of_mem _ uw_46_14)) dX12_strangers_44 ?_
      refine tk_Si hC hK hw hT hA hE hSR (ky_X12_in_2 l adK adV dC dI cy ad B hB0 (Int.le_trans hB1 (by decide)) qr s1   x302 (show (-2147483648) ≤ x302.toInt by first | with_reducible assumption | omega) (show x302.toInt ≤ 2147483647 by first | with_reducible assumption | omega) w284 H.size hT ) (va_cwS 3 hC.2.2.2.2 uS_RX12_122 rfl rfl rfl (by decide +kernel) ⟨Nat.le_of_ble_eq_true rfl, Nat.le_of_ble_eq_true rfl⟩) rfl hl.1 rfl (Nat.le_of_ble_eq_true rfl) dX12_strangers_47 (fun r303 w305 H locs hp304 hw => ?_)
      obtain ⟨rfl, hv310, hg309⟩ := hp304
      rcases hg309 with rfl | ⟨rfl, g307, g308⟩
      · replace hM := hM.call (r' := 0) hv310 (by decide)
        refine lv_if_eq (tgt := 64) hx hb dX12_strangers_50 (by decide) (fun _ => ?_) (fun c => absurd (by decide) c)
        replace hM := hM.pos (by decide)
        exact J64 f29_12_0 H locs ls w284 (show 0 ≤ f29_12_0.toInt from Int.le_trans (by decide) r287) (show f29_12_0.toInt ≤ 10 from t288)  hw hT hF hRW hSA c289 hM (lv_sub hl [0, 1, 2, 3, 4] rfl)
      · replace hM := hM.call (r' := 1) hv310 (by decide)
        refine lv_if_eq (tgt := 64) hx hb dX12_strangers_50 (by decide) (fun c => absurd c (by decide)) (fun _ => ?_)
        replace hM := hM.neg (by decide)
        refine lv_iload hx hb dX12_strangers_53 (lv_at hl 4 rfl) ?_
        refine lv_i2l hx hb dX12_strangers_55 rfl ?_
        refine lv_topl (fun x311 ex311 => ?_)
        have ex311 : x311.toInt = a4.toInt := by rw [ex311]; exact wk_i2l _
        have bx311 := wk_i32 a4
        replace hM := hM.lt ex311.symm
        refine lv_lconst (v := 0) hx hb dX12_strangers_56 (by decide) ?_
        refine lv_lconst (v := 1) hx hb dX12_strangers_57 (by decide) ?_
        refine tk_Si hC hK hw hT hA hE hSR (ky_X12_in_3 l adK adV dC dI cy ad B hB0 (Int.le_trans hB1 (by decide)) qr s1   x311 (show (-2147483648) ≤ x311.toInt by first | with_reducible assumption | omega) (show x311.toInt ≤ 2147483647 by first | with_reducible assumption | omega) w284 H.size hT ) (va_cwS 3 hC.2.2.2.2 uS_RX12_122 rfl rfl rfl (by decide +kernel) ⟨Nat.le_of_ble_eq_true rfl, Nat.le_of_ble_eq_true rfl⟩) rfl hl.1 rfl (Nat.le_of_ble_eq_true rfl) dX12_strangers_58 (fun r312 w314 H locs hp313 hw => ?_)
        obtain ⟨rfl, hv319, hg318⟩ := hp313
        rcases hg318 with rfl | ⟨rfl, g316, g317⟩
        · replace hM := hM.call (r' := 0) hv319 (by decide)
          refine lv_if_ne (tgt := 66) hx hb dX12_strangers_61 (by decide) (fun c => absurd (by decide) c) (fun _ => ?_)
          replace hM := hM.neg (by decide)
          exact J64 f29_12_0 H locs ls w284 (show 0 ≤ f29_12_0.toInt from Int.le_trans (by decide) r287) (show f29_12_0.toInt ≤ 10 from t288)  hw hT hF hRW hSA c289 hM (lv_sub hl [0, 1, 2, 3, 4] rfl)
        · replace hM := hM.call (r' := 1) hv319 (by decide)
          refine lv_if_ne (tgt := 66) hx hb dX12_strangers_61 (by decide) (fun _ => ?_) (fun c => absurd c (by decide))
          replace hM := hM.pos (by decide)
          refine lv_aload_n hx hb dX12_strangers_66 rfl (lv_at hl 0 rfl) ?_
          refine lv_aload_n hx hb dX12_strangers_67 rfl (lv_at hl 0 rfl) ?_
          refine tk_getA hC hK hw hT hinX12 kM_at0 (by decide) rfl 26 (by decide) (List.mem_cons_of_mem _ uw_7_1) rfl rfl dX12_strangers_68 ?_
          refine lv_bipush (v := 9) hx hb dX12_strangers_71 (by decide) ?_
          refine tk_ialdR hC hK hw hT kM_at12 rfl (by decide) (by decide) dX12_strangers_73 (fun x320 c321 Ex320 => ?_)
          have hox320 := c321
          replace hM := hM.rd (sL_at (kM_lt kM_at12) hox320)
          have bx320 := tk_rgI rfl 9 1 1 0 2147483647 (by decide +kernel) ⟨0, by decide, by decide⟩ Ex320
          have c321 : gi w284 12 9 = x320 := c321
          refine lv_i2l hx hb dX12_strangers_74 rfl ?_
          refine lv_topl (fun x322 ex322 => ?_)
          have ex322 : x322.toInt = x320.toInt := by rw [ex322]; exact wk_i2l _
          have bx322 := wk_i32 x320
          replace hM := hM.lt ex322.symm
          have hTq := hT
          refine tk_putl hC hK hw hT hinX12 tyX12_ok nmX12 kM_at0 (by decide) rfl rfl 39 (by decide) (List.mem_cons_of_mem _ uw_68_4) rfl rfl rfl rfl (show 0 ≤ x322.toInt by first | with_reducible assumption | omega) (show x322.toInt ≤ 2147483648 by first | with_reducible assumption | omega) dX12_strangers_75 (fun H locs w323 hw hT k325 c324 => ?_)
          replace hM := hM.wr (sL_upl hTq hT kM_at0 (kM_lt kM_at0) (by decide) rfl (by decide) k325 c324 rfl)
          have hRW := RW_F1 k325 (by decide) (by decide) (by decide) hRW
          have hSA := SA_F1 k325 (by decide) hSA
          have hF := hF.put kM_at0 (k := 39) (by decide) k325
          have c326 := k325.gi (Or.inr (by decide)) c289
          have c327 := k325.gi (Or.inr (by decide)) c292
          have c328 := k325.gi (Or.inr (by decide)) c321
          refine lv_iconst (v := 0) hx hb dX12_strangers_78 (by decide) ?_
          refine lv_istore (lv' := [(5, .int 0), (0, .ref (ad 0)), (1, .int a1), (2, .int a2), (3, .int a3), (4, .int a4)]) hx hb dX12_strangers_79 hl (by decide) rfl (fun ls hl => ?_)
          refine lv_aload_n hx hb dX12_strangers_81 rfl (lv_at hl 1 rfl) ?_
          refine tk_Vv hC hK hw hT hA hE hSR kM_at0 (by decide) rfl (ky_X12_keeps_1 l adK adV dC dI cy ad B hB0 (Int.le_trans hB1 (by decide)) qr s1    w323 H.size hT ) (cwV 0 hC.2.2.2.2 uV_RX12_426 rfl rfl rfl (by decide +kernel) ⟨Nat.le_of_ble_eq_true rfl, Nat.le_of_ble_eq_true rfl⟩) rfl hl.1 rfl (Nat.le_of_ble_eq_true rfl) dX12_strangers_82 (fun w331 H locs hp330 hw => ?_)
          obtain ⟨hT, k332, hv338, hg337⟩ := hp330
          have hSA := SA_FE k332 (fun _ => rfl) hSA
          have hRW := RW_FE k332 (fun _ => rfl) (fun _ => rfl) (fun _ => rfl) hRW
          have hF := hF.tr k332 (by decide)
          have c339 := k332.gi kM_at12 (by decide) c326
          have c340 := k332.gi kM_at12 (by decide) c327
          have c341 := k332.gi kM_at12 (by decide) c328
          have c342 := k332.gl kM_at0 (by decide) c324
          obtain ⟨c333, c334, c335, hq336⟩ := hg337
          replace hM := hM.call hv338 rfl
          have hKB : KBk w0 w331 := fun j hj => (hq336 j hj).trans ((k332.gi kM_at12 rfl rfl).symm.trans (hSA j hj))
          refine lv_iconst (v := 0) hx hb dX12_strangers_85 (by decide) ?_
          refine lv_istore (lv' := [(6, .int 0), (5, .int 0), (0, .ref (ad 0)), (1, .int a1), (2, .int a2), (3, .int a3), (4, .int a4)]) hx hb dX12_strangers_86 hl (by decide) rfl (fun ls hl => ?_)
          exact L88 ((30 - (0 : Int)).toNat + 1) 0 0 f29_12_0 f29_12_4 x320 f29_12_0 f29_12_4 x320 H locs ls w331 (show (-1) ≤ a1.toInt from r285) (show a1.toInt ≤ 5 from t286) (show 1 ≤ a2.toInt by first | with_reducible assumption | omega) (show a2.toInt ≤ 30 by first | with_reducible assumption | omega) (show 1 ≤ a3.toInt by first | with_reducible assumption | omega) (show a3.toInt ≤ 200 by first | with_reducible assumption | omega) (show 0 ≤ a4.toInt by first | with_reducible assumption | omega) (show a4.toInt ≤ 1 by first | with_reducible assumption | omega) (by decide) (by decide) (show 1 ≤ f29_12_0.toInt from r287) (show f29_12_0.toInt ≤ 10 from t288) (show 1 ≤ f29_12_4.toInt from r290) (show f29_12_4.toInt ≤ 4 from t291) (show 0 ≤ x320.toInt by first | with_reducible assumption | omega) (show 1 ≤ f29_12_0.toInt from r287) (show f29_12_0.toInt ≤ 10 from t288) (show 1 ≤ f29_12_4.toInt from r290) (show f29_12_4.toInt ≤ 4 from t291) (show 0 ≤ x320.toInt by first | with_reducible assumption | omega) (Nat.lt_succ_self _) hw (hT.up (show B ≤ (B + 0 + 1800 * (0 : Int32).toInt) by rw [show (0 : Int32).toInt = 0 by decide]; omega)) hF hRW hSA hKB c339 c340 c341 (c333.trans c326) (c334.trans c327) (c335.trans c328) hM (lv_sub hl [2, 3, 4, 5, 6, 1, 0] rfl)
  have hM : TT (fun n => m_X12_strangers n 0 a1.toInt a2.toInt a3.toInt a4.toInt (sL w0)) (fun n => m_X12_strangers n 0 a1.toInt a2.toInt a3.toInt a4.toInt (sL w0)) := TT.rf
  refine lv_aload_n hx hb dX12_strangers_0 rfl (lv_at hl 0 rfl) ?_
  refine tk_Vi hC hK hw hT hA hE hSR kM_at0 (by decide) rfl (ky_X12_isTown_1 l adK adV dC dI cy ad B hB0 (Int.le_trans hB1 (by decide)) qr s1    w0 s.heap.size hT ) (cwV 0 hC.2.2.2.2 uV_RX12_337 rfl rfl rfl (by decide +kernel) ⟨Nat.le_of_ble_eq_true rfl, Nat.le_of_ble_eq_true rfl⟩) rfl hl.1 rfl (Nat.le_of_ble_eq_true rfl) dX12_strangers_1 (fun r343 w345 H locs hp344 hw => ?_)
  obtain ⟨rfl, hv352, hg351⟩ := hp344
  rcases hg351 with ⟨rfl, ⟨x347, c348, rx347, tx347⟩⟩ | ⟨rfl, ⟨x349, c350, rx349, tx349⟩⟩
  · replace hM := hM.call (r' := 0) hv352 (by decide)
    refine lv_if_eq (tgt := 64) hx hb dX12_strangers_4 (by decide) (fun _ => ?_) (fun c => absurd (by decide) c)
    replace hM := hM.pos (by decide)
    exact J64 x347 H locs ls w0 (show 0 ≤ x347.toInt by first | with_reducible assumption | omega) (show x347.toInt ≤ 10 by first | with_reducible assumption | omega)  hw hT hF hRW hSA c348 hM (lv_sub hl [0, 1, 2, 3, 4] rfl)
  · replace hM := hM.call (r' := 1) hv352 (by decide)
    refine lv_if_eq (tgt := 64) hx hb dX12_strangers_4 (by decide) (fun c => absurd c (by decide)) (fun _ => ?_)
    replace hM := hM.neg (by decide)
    refine lv_aload_n hx hb dX12_strangers_7 rfl (lv_at hl 0 rfl) ?_
    refine tk_getA hC hK hw hT hinX12 kM_at0 (by decide) rfl 26 (by decide) (List.mem_cons_of_mem _ uw_7_1) rfl rfl dX12_strangers_8 ?_
    refine lv_iconst (v := 4) hx hb dX12_strangers_11 (by decide) ?_
    refine tk_ialdR hC hK hw hT kM_at12 rfl (by decide) (by decide) dX12_strangers_12 (fun x353 c354 Ex353 => ?_)
    have hox353 := c354
    replace hM := hM.rd (sL_at (kM_lt kM_at12) hox353)
    have bx353 := tk_rgI rfl 4 1 1 0 4 (by decide +kernel) ⟨0, by decide, by decide⟩ Ex353
    have c354 : gi w0 12 4 = x353 := c354
    refine lv_if_eq (tgt := 64) hx hb dX12_strangers_13 (by decide) (fun c355 => ?_) (fun c355 => ?_)
    · have c355 : x353.toInt = (0 : Int) := wk_eq.mp c355
      replace hM := hM.pos c355
      exact J64 x349 H locs ls w0 (show 0 ≤ x349.toInt by first | with_reducible assumption | omega) (show x349.toInt ≤ 10 by first | with_reducible assumption | omega)  hw hT hF hRW hSA c350 hM (lv_sub hl [0, 1, 2, 3, 4] rfl)
    · have c355 : ¬ x353.toInt = (0 : Int) := wk_eqF c355
      replace hM := hM.neg c355
      refine lv_iload_n hx hb dX12_strangers_16 rfl (lv_at hl 1 rfl) ?_
      refine lv_iconst (v := (-1)) hx hb dX12_strangers_17 (by decide) ?_
      refine lv_icmp_eq (tgt := 29) hx hb dX12_strangers_18 (by decide) (fun c356 => ?_) (fun c356 => ?_)
      · have c356 : a1.toInt = (-1 : Int) := wk_eq.mp c356
        replace hM := hM.pos c356
        exact J29 x349 x353 H locs ls w0 (show (-1) ≤ a1.toInt by first | with_reducible assumption | omega) (show a1.toInt ≤ 5 by first | with_reducible assumption | omega) (show 1 ≤ x349.toInt by first | with_reducible assumption | omega) (show x349.toInt ≤ 10 by first | with_reducible assumption | omega) (show 1 ≤ x353.toInt by first | with_reducible assumption | omega) (show x353.toInt ≤ 4 by first | with_reducible assumption | omega)  hw hT hF hRW hSA c350 c354 hM (lv_sub hl [0, 1, 2, 3, 4] rfl)
      · have c356 : ¬ a1.toInt = (-1 : Int) := wk_eqF c356
        replace hM := hM.neg c356
        refine lv_aload_n hx hb dX12_strangers_21 rfl (lv_at hl 0 rfl) ?_
        refine lv_iload_n hx hb dX12_strangers_22 rfl (lv_at hl 1 rfl) ?_
        refine tk_Vi hC hK hw hT hA hE hSR kM_at0 (by decide) rfl (ky_X12_isRule_1 l adK adV dC dI cy ad B hB0 (Int.le_trans hB1 (by decide)) qr s1   a1 w0 H.size hT ) (cwV 1 hC.2.2.2.2 uV_RX12_360 rfl rfl rfl (by decide +kernel) ⟨Nat.le_of_ble_eq_true rfl, Nat.le_of_ble_eq_true rfl⟩) rfl hl.1 rfl (Nat.le_of_ble_eq_true rfl) dX12_strangers_23 (fun r357 w359 H locs hp358 hw => ?_)
        obtain ⟨rfl, hv366, hg365⟩ := hp358
        rcases hg365 with rfl | ⟨rfl, g361, g362, ⟨x363, c364, rx363, tx363⟩⟩
        · replace hM := hM.call (r' := 0) hv366 (by decide)
          refine lv_if_eq (tgt := 64) hx hb dX12_strangers_26 (by decide) (fun _ => ?_) (fun c => absurd (by decide) c)
          replace hM := hM.pos (by decide)
          exact J64 x349 H locs ls w0 (show 0 ≤ x349.toInt by first | with_reducible assumption | omega) (show x349.toInt ≤ 10 by first | with_reducible assumption | omega)  hw hT hF hRW hSA c350 hM (lv_sub hl [0, 1, 2, 3, 4] rfl)
        · replace hM := hM.call (r' := 1) hv366 (by decide)
          refine lv_if_eq (tgt := 64) hx hb dX12_strangers_26 (by decide) (fun c => absurd c (by decide)) (fun _ => ?_)
          replace hM := hM.neg (by decide)
          exact J29 x349 x353 H locs ls w0 (show (-1) ≤ a1.toInt by first | with_reducible assumption | omega) (show a1.toInt ≤ 5 by first | with_reducible assumption | omega) (show 1 ≤ x349.toInt by first | with_reducible assumption | omega) (show x349.toInt ≤ 10 by first | with_reducible assumption | omega) (show 1 ≤ x353.toInt by first | with_reducible assumption | omega) (show x353.toInt ≤ 4 by first | with_reducible assumption | omega)  hw hT hF hRW hSA c350 c354 hM (lv_sub hl [0, 1, 2, 3, 4] rfl)
