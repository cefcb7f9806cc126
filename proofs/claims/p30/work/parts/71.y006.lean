abbrev Py_X12_isOf_2 (ad : Nat → Nat) (cy : Nat → ClassId) (B : Int) (qr : Nat) (s1 : Int) (a0 : Int32) (w0 : va_W) : Int32 → va_W → Prop := fun r u => w0 = u ∧ Ev (fun n => m_X12_isOf n a0.toInt 1 (sL w0)) (r.toInt, sL w0) ∧ ((r = 0 ∧ (¬ mOf a0 (1 : Int32))) ∨ (r = 1 ∧ (mOf a0 (1 : Int32))))
set_option maxHeartbeats 4000000 in
set_option maxRecDepth 100000 in
theorem ky_X12_isOf_2 (l : Launch) (adK adV : Nat → Nat) (dC : Nat → ClassId) (dI : Nat → Nat → Nat) (cy : Nat → ClassId) (ad : Nat → Nat) (B : Int) (hB0 : 100000 ≤ B) (hB1 : B ≤ 1073741824) (qr : Nat) (s1 : Int)  (a0 : Int32) (w0 : va_W) (sz : Nat) (hT : TW ksM ad cy B qr 12 w0)  : Met l yX12_isOf (wu yX12_isOf cX12_isOf 2 (some .boolean)) ({ frames := 1, cells := 0, slots := 0, locals := 12 }) (va_Pc [.int a0, .int 1] (wpreS adK adV dC dI cy sz w0)) (va_Qi (Py_X12_isOf_2 ad cy B qr s1 a0 w0) (fun u : va_W => wpost dC dI cy (va_A w0 sz) u) (va_A w0 sz)) 0 0 (va_A w0 sz) := by
  refine Met.ofW (cc := cX12_isOf) (maxL := 2) (ret := (some .boolean)) (by decide) rfl ?_
  intro p e s m args below meth c s₁ Bk hml hv
  obtain ⟨rfl, ⟨hsz, hP, hK, hD0⟩, hE, hSR⟩ := hv
  have hx := Bk.exec
  have hb := Bk.bytes
  have hr := Bk.returns
  have hlocks := Bk.notSynchronized
  have hC : CallFix p m c cX12_isOf 2 s _ (wu yX12_isOf cX12_isOf 2 (some .boolean)) RX12 := ⟨hx, hb, hml, findClass_of_methodNamed Bk.named, atoms_spec (ws := (wu yX12_isOf cX12_isOf 2 (some .boolean))) Bk.pre⟩
  subst hsz
  have hD := hD0.self (sz := s.heap.size)
  generalize hAe : va_A w0 s.heap.size = A at hD hE ⊢
  have hA : ∀ q : Nat, s.heap.size ≤ q → A q := fun q h => by rw [← hAe]; exact Or.inr h
  have hw : Wd dC dI A s.heap s.heap [] w0 := ⟨hP, hD, va_S.rf⟩
  have hF : FE ksM ([] : List (Nat × Nat × Nat)) w0 w0 := FE.rf
  have hl := lv_entry ([.int a0, .int 1]) (n := 2) (Nat.le_of_ble_eq_true rfl)
  rw [lg_entry_eq]
  generalize (lg_sl ([.int a0, .int 1]) ++ List.replicate (2 - (lg_sl ([.int a0, .int 1])).length) Slot.unset).toArray = ls at hl ⊢
  have hl : lv_has ls 2 [(0, .int a0), (1, .int 1)] := hl
  generalize hloc : ([] : List Loc) = locs at hw ⊢
  have hM : TT (fun n => m_X12_isOf n a0.toInt 1 (sL w0)) (fun n => m_X12_isOf n a0.toInt 1 (sL w0)) := TT.rf
  refine lv_iload_n hx hb dX12_isOf_0 rfl (lv_at hl 0 rfl) ?_
  refine lv_iload_n hx hb dX12_isOf_1 rfl (lv_at hl 1 rfl) ?_
  refine lv_ishr hx hb dX12_isOf_2 ?_
  refine lv_topi (fun x1 ex1 => ?_)
  have ezx1 := ex1
  replace hM := hM.lt (o32_e (f := fun x y => x >>> (y &&& 31)) ezx1 rfl (by decide))
  refine lv_iconst (v := 1) hx hb dX12_isOf_3 (by decide) ?_
  refine lv_iand hx hb dX12_isOf_4 ?_
  refine lv_topi (fun x2 ex2 => ?_)
  have ezx2 := ex2
  have bx2 : 0 ≤ x2.toInt ∧ x2.toInt ≤ (1 : Int) := by rw [ex2]; exact wk_and (by decide)
  replace hM := hM.lt (o32_e (f := fun x y => x &&& y) ezx2 rfl (by decide))
  refine lv_iconst (v := 1) hx hb dX12_isOf_5 (by decide) ?_
  refine lv_icmp_ne (tgt := 13) hx hb dX12_isOf_6 (by decide) (fun c3 => ?_) (fun c3 => ?_)
  · have c3 : ¬ x2.toInt = (1 : Int) := wk_eqF c3
    replace hM := hM.pos c3
    refine lv_iconst (v := 0) hx hb dX12_isOf_13 (by decide) ?_
    exact tk_zret hC hr rfl hlocks hK ⟨rfl, hM.ret (by decide), (Or.inl ⟨rfl, (by unfold mOf; rw [← ex1, ← ex2]; omega)⟩)⟩ hw dX12_isOf_14
  · have c3 : x2.toInt = (1 : Int) := wk_eq.mp c3
    replace hM := hM.neg (fun q => q c3)
    refine lv_iconst (v := 1) hx hb dX12_isOf_9 (by decide) ?_
    refine lv_goto (tgt := 14) hx hb dX12_isOf_10 (by decide) ?_
    exact tk_zret hC hr rfl hlocks hK ⟨rfl, hM.ret (by decide), (Or.inr ⟨rfl, (by unfold mOf; rw [← ex1, ← ex2]; omega)⟩)⟩ hw dX12_isOf_14
abbrev Py_X12_isOf_3 (ad : Nat → Nat) (cy : Nat → ClassId) (B : Int) (qr : Nat) (s1 : Int) (a0 : Int32) (w0 : va_W) : Int32 → va_W → Prop := fun r u => w0 = u ∧ Ev (fun n => m_X12_isOf n a0.toInt 0 (sL w0)) (r.toInt, sL w0) ∧ ((r = 0 ∧ (¬ mOf a0 (0 : Int32))) ∨ (r = 1 ∧ (mOf a0 (0 : Int32))))
set_option maxHeartbeats 4000000 in
set_option maxRecDepth 100000 in
theorem ky_X12_isOf_3 (l : Launch) (adK adV : Nat → Nat) (dC : Nat → ClassId) (dI : Nat → Nat → Nat) (cy : Nat → ClassId) (ad : Nat → Nat) (B : Int) (hB0 : 100000 ≤ B) (hB1 : B ≤ 1073741824) (qr : Nat) (s1 : Int)  (a0 : Int32) (w0 : va_W) (sz : Nat) (hT : TW ksM ad cy B qr 12 w0)  : Met l yX12_isOf (wu yX12_isOf cX12_isOf 2 (some .boolean)) ({ frames := 1, cells := 0, slots := 0, locals := 12 }) (va_Pc [.int a0, .int 0] (wpreS adK adV dC dI cy sz w0)) (va_Qi (Py_X12_isOf_3 ad cy B qr s1 a0 w0) (fun u : va_W => wpost dC dI cy (va_A w0 sz) u) (va_A w0 sz)) 0 0 (va_A w0 sz) := by
  refine Met.ofW (cc := cX12_isOf) (maxL := 2) (ret := (some .boolean)) (by decide) rfl ?_
  intro p e s m args below meth c s₁ Bk hml hv
  obtain ⟨rfl, ⟨hsz, hP, hK, hD0⟩, hE, hSR⟩ := hv
  have hx := Bk.exec
  have hb := Bk.bytes
  have hr := Bk.returns
  have hlocks := Bk.notSynchronized
  have hC : CallFix p m c cX12_isOf 2 s _ (wu yX12_isOf cX12_isOf 2 (some .boolean)) RX12 := ⟨hx, hb, hml, findClass_of_methodNamed Bk.named, atoms_spec (ws := (wu yX12_isOf cX12_isOf 2 (some .boolean))) Bk.pre⟩
  subst hsz
  have hD := hD0.self (sz := s.heap.size)
  generalize hAe : va_A w0 s.heap.size = A at hD hE ⊢
  have hA : ∀ q : Nat, s.heap.size ≤ q → A q := fun q h => by rw [← hAe]; exact Or.inr h
  have hw : Wd dC dI A s.heap s.heap [] w0 := ⟨hP, hD, va_S.rf⟩
  have hF : FE ksM ([] : List (Nat × Nat × Nat)) w0 w0 := FE.rf
  have hl := lv_entry ([.int a0, .int 0]) (n := 2) (Nat.le_of_ble_eq_true rfl)
  rw [lg_entry_eq]
  generalize (lg_sl ([.int a0, .int 0]) ++ List.replicate (2 - (lg_sl ([.int a0, .int 0])).length) Slot.unset).toArray = ls at hl ⊢
  have hl : lv_has ls 2 [(0, .int a0), (1, .int 0)] := hl
  generalize hloc : ([] : List Loc) = locs at hw ⊢
  have hM : TT (fun n => m_X12_isOf n a0.toInt 0 (sL w0)) (fun n => m_X12_isOf n a0.toInt 0 (sL w0)) := TT.rf
  refine lv_iload_n hx hb dX12_isOf_0 rfl (lv_at hl 0 rfl) ?_
  refine lv_iload_n hx hb dX12_isOf_1 rfl (lv_at hl 1 rfl) ?_
  refine lv_ishr hx hb dX12_isOf_2 ?_
  refine lv_topi (fun x1 ex1 => ?_)
  have ezx1 := ex1
  replace hM := hM.lt (o32_e (f := fun x y => x >>> (y &&& 31)) ezx1 rfl (by decide))
  refine lv_iconst (v := 1) hx hb dX12_isOf_3 (by decide) ?_
  refine lv_iand hx hb dX12_isOf_4 ?_
  refine lv_topi (fun x2 ex2 => ?_)
  have ezx2 := ex2
  have bx2 : 0 ≤ x2.toInt ∧ x2.toInt ≤ (1 : Int) := by rw [ex2]; exact wk_and (by decide)
  replace hM := hM.lt (o32_e (f := fun x y => x &&& y) ezx2 rfl (by decide))
  refine lv_iconst (v := 1) hx hb dX12_isOf_5 (by decide) ?_
  refine lv_icmp_ne (tgt := 13) hx hb dX12_isOf_6 (by decide) (fun c3 => ?_) (fun c3 => ?_)
  · have c3 : ¬ x2.toInt = (1 : Int) := wk_eqF c3
    replace hM := hM.pos c3
    refine lv_iconst (v := 0) hx hb dX12_isOf_13 (by decide) ?_
    exact tk_zret hC hr rfl hlocks hK ⟨rfl, hM.ret (by decide), (Or.inl ⟨rfl, (by unfold mOf; rw [← ex1, ← ex2]; omega)⟩)⟩ hw dX12_isOf_14
  · have c3 : x2.toInt = (1 : Int) := wk_eq.mp c3
    replace hM := hM.neg (fun q => q c3)
    refine lv_iconst (v := 1) hx hb dX12_isOf_9 (by decide) ?_
    refine lv_goto (tgt := 14) hx hb dX12_isOf_10 (by decide) ?_
    exact tk_zret hC hr rfl hlocks hK ⟨rfl, hM.ret (by decide), (Or.inr ⟨rfl, (by unfold mOf; rw [← ex1, ← ex2]; omega)⟩)⟩ hw dX12_isOf_14
abbrev Py_X12_hasSign_1 (ad : Nat → Nat) (cy : Nat → ClassId) (B : Int) (qr : Nat) (s1 : Int) (a1 : Int32) (a2 : Int32) (a3 : Int32) (w0 : va_W) : Int32 → va_W → Prop := fun r u => w0 = u ∧ Ev (fun n => m_X12_hasSign n 0 a1.toInt a2.toInt a3.toInt (sL w0)) (r.toInt, sL w0) ∧ ((r = 0 ∧ (¬ mSign w0 a1 a2.toInt a3.toInt)) ∨ (r = 0 ∧ gi u 12 (10 * a2.toInt + 10).toNat = a3 ∧ (¬ mSign w0 a1 a2.toInt a3.toInt)) ∨ (r = 1 ∧ (mSign w0 a1 a2.toInt a3.toInt)) ∨ (r = 1 ∧ gi u 12 (10 * a2.toInt + 10).toNat = a3 ∧ (mSign w0 a1 a2.toInt a3.toInt)))
set_option maxHeartbeats 4000000 in
set_option maxRecDepth 100000 in
theorem ky_X12_hasSign_1 (l : Launch) (adK adV : Nat → Nat) (dC : Nat → ClassId) (dI : Nat → Nat → Nat) (cy : Nat → ClassId) (ad : Nat → Nat) (B : Int) (hB0 : 100000 ≤ B) (hB1 : B ≤ 1073741824) (qr : Nat) (s1 : Int)  (a1 : Int32) (a2 : Int32) (ra2 : 0 ≤ a2.toInt) (ta2 : a2.toInt ≤ 11) (a3 : Int32) (ra3 : 0 ≤ a3.toInt) (ta3 : a3.toInt ≤ 9) (w0 : va_W) (sz : Nat) (hT : TW ksM ad cy B qr 12 w0)  : Met l yX12_hasSign (wu yX12_hasSign cX12_hasSign 4 (some .boolean)) ({ frames := 2, cells := 0, slots := 0, locals := 34 }) (va_Pc [.ref (ad 0), .int a1, .int a2, .int a3] (wpreS adK adV dC dI cy sz w0)) (va_Qi (Py_X12_hasSign_1 ad cy B qr s1 a1 a2 a3 w0) (fun u : va_W => wpost dC dI cy (va_A w0 sz) u) (va_A w0 sz)) 0 0 (va_A w0 sz) := by
  refine Met.ofW (cc := cX12_hasSign) (maxL := 4) (ret := (some .boolean)) (by decide) rfl ?_
  intro p e s m args below meth c s₁ Bk hml hv
  obtain ⟨rfl, ⟨hsz, hP, hK, hD0⟩, hE, hSR⟩ := hv
  have hx := Bk.exec
  have hb := Bk.bytes
  have hr := Bk.returns
  have hlocks := Bk.notSynchronized
  have hC : CallFix p m c cX12_hasSign 4 s _ (wu yX12_hasSign cX12_hasSign 4 (some .boolean)) RX12 := ⟨hx, hb, hml, findClass_of_methodNamed Bk.named, atoms_spec (ws := (wu yX12_hasSign cX12_hasSign 4 (some .boolean))) Bk.pre⟩
  subst hsz
  have hD := hD0.self (sz := s.heap.size)
  generalize hAe : va_A w0 s.heap.size = A at hD hE ⊢
  have hA : ∀ q : Nat, s.heap.size ≤ q → A q := fun q h => by rw [← hAe]; exact Or.inr h
  have hw : Wd dC dI A s.heap s.heap [] w0 := ⟨hP, hD, va_S.rf⟩
  have hF : FE ksM ([] : List (Nat × Nat × Nat)) w0 w0 := FE.rf
  have hl := lv_entry ([.ref (ad 0), .int a1, .int a2, .int a3]) (n := 4) (Nat.le_of_ble_eq_true rfl)
  rw [lg_entry_eq]
  generalize (lg_sl ([.ref (ad 0), .int a1, .int a2, .int a3]) ++ List.replicate (4 - (lg_sl ([.ref (ad 0), .int a1, .int a2, .int a3])).length) Slot.unset).toArray = ls at hl ⊢
  have hl : lv_has ls 4 [(0, .ref (ad 0)), (1, .int a1), (2, .int a2), (3, .int a3)] := hl
  generalize hloc : ([] : List Loc) = locs at hw ⊢
  have hM : TT (fun n => m_X12_hasSign n 0 a1.toInt a2.toInt a3.toInt (sL w0)) (fun n => m_X12_hasSign n 0 a1.toInt a2.toInt a3.toInt (sL w0)) := TT.rf
  refine lv_iload_n hx hb dX12_hasSign_0 rfl (lv_at hl 1 rfl) ?_
  refine lv_aload_n hx hb dX12_hasSign_1 rfl (lv_at hl 0 rfl) ?_
  refine lv_iload_n hx hb dX12_hasSign_2 rfl (lv_at hl 2 rfl) ?_
  refine lv_iconst (v := 0) hx hb dX12_hasSign_3 (by decide) ?_
  refine tk_Vi hC hK hw hT hA hE hSR kM_at0 (by decide) rfl (ky_X12_streetOf_3 l adK adV dC dI cy ad B hB0 (Int.le_trans hB1 (by decide)) qr s1   a2 (show 0 ≤ a2.toInt from ra2) (show a2.toInt ≤ 11 from ta2) w0 s.heap.size hT ) (cwV 2 hC.2.2.2.2 uV_RX12_300 rfl rfl rfl (by decide +kernel) ⟨Nat.le_of_ble_eq_true rfl, Nat.le_of_ble_eq_true rfl⟩) rfl hl.1 rfl (Nat.le_of_ble_eq_true rfl) dX12_hasSign_4 (fun r1 w3 H locs hp2 hw => ?_)
  obtain ⟨rfl, hv9, hg8⟩ := hp2
  obtain ⟨g5, g6, c7⟩ := hg8
  replace hM := hM.call hv9 rfl
  refine lv_iload_n hx hb dX12_hasSign_7 rfl (lv_at hl 3 rfl) ?_
  refine lv_icmp_ne (tgt := 15) hx hb dX12_hasSign_8 (by decide) (fun c10 => ?_) (fun c10 => ?_)
  · have c10 : ¬ r1.toInt = a3.toInt := wk_eqF c10
    replace hM := hM.pos c10
    refine lv_iconst (v := 1) hx hb dX12_hasSign_15 (by decide) ?_
    refine tk_Si hC hK hw hT hA hE hSR (ky_X12_isOf_2 l adK adV dC dI cy ad B hB0 (Int.le_trans hB1 (by decide)) qr s1   a1 w0 H.size hT ) (va_cwS 2 hC.2.2.2.2 uS_RX12_304 rfl rfl rfl (by decide +kernel) ⟨Nat.le_of_ble_eq_true rfl, Nat.le_of_ble_eq_true rfl⟩) rfl hl.1 rfl (Nat.le_of_ble_eq_true rfl) dX12_hasSign_16 (fun r11 w13 H locs hp12 hw => ?_)
    obtain ⟨rfl, hv18, hg17⟩ := hp12
    rcases hg17 with ⟨rfl, hq15⟩ | ⟨rfl, hq16⟩
    · replace hM := hM.call (r' := 0) hv18 (by decide)
      exact tk_zret hC hr rfl hlocks hK ⟨rfl, hM.ret (by decide), (Or.inl ⟨rfl, (by unfold mSign; simp only [c7]; first | exact Or.inl ⟨by omega, by assumption⟩ | exact Or.inr ⟨by omega, by assumption⟩ | (rintro (⟨q1, q2⟩ | ⟨q1, q2⟩) <;> first | omega | contradiction))⟩)⟩ hw dX12_hasSign_19
    · replace hM := hM.call (r' := 1) hv18 (by decide)
      exact tk_zret hC hr rfl hlocks hK ⟨rfl, hM.ret (by decide), (Or.inr (Or.inr (Or.inl ⟨rfl, (by unfold mSign; simp only [c7]; first | exact Or.inl ⟨by omega, by assumption⟩ | exact Or.inr ⟨by omega, by assumption⟩ | (rintro (⟨q1, q2⟩ | ⟨q1, q2⟩) <;> first | omega | contradiction))⟩)))⟩ hw dX12_hasSign_19
  · have c10 : r1.toInt = a3.toInt := wk_eq.mp c10
    replace hM := hM.neg (fun q => q c10)
    refine lv_iconst (v := 0) hx hb dX12_hasSign_11 (by decide) ?_
    refine lv_goto (tgt := 16) hx hb dX12_hasSign_12 (by decide) ?_
    refine tk_Si hC hK hw hT hA hE hSR (ky_X12_isOf_3 l adK adV dC dI cy ad B hB0 (Int.le_trans hB1 (by decide)) qr s1   a1 w0 H.size hT ) (va_cwS 2 hC.2.2.2.2 uS_RX12_304 rfl rfl rfl (by decide +kernel) ⟨Nat.le_of_ble_eq_true rfl, Nat.le_of_ble_eq_true rfl⟩) rfl hl.1 rfl (Nat.le_of_ble_eq_true rfl) dX12_hasSign_16 (fun r19 w21 H locs hp20 hw => ?_)
    obtain ⟨rfl, hv26, hg25⟩ := hp20
    rcases hg25 with ⟨rfl, hq23⟩ | ⟨rfl, hq24⟩
    · replace hM := hM.call (r' := 0) hv26 (by decide)
      exact tk_zret hC hr rfl hlocks hK ⟨rfl, hM.ret (by decide), (Or.inr (Or.inl ⟨rfl, (c7.trans (wk_eq.mpr (show r1.toInt = a3.toInt by first | exact Int.le_antisymm (by omega) (by omega) | omega))), (by unfold mSign; simp only [c7]; first | exact Or.inl ⟨by omega, by assumption⟩ | exact Or.inr ⟨by omega, by assumption⟩ | (rintro (⟨q1, q2⟩ | ⟨q1, q2⟩) <;> first | omega | contradiction))⟩))⟩ hw dX12_hasSign_19
    · replace hM := hM.call (r' := 1) hv26 (by decide)
      exact tk_zret hC hr rfl hlocks hK ⟨rfl, hM.ret (by decide), (Or.inr (Or.inr (Or.inr ⟨rfl, (c7.trans (wk_eq.mpr (show r1.toInt = a3.toInt by first | exact Int.le_antisymm (by omega) (by omega) | omega))), (by unfold mSign; simp only [c7]; first | exact Or.inl ⟨by omega, by assumption⟩ | exact Or.inr ⟨by omega, by assumption⟩ | (rintro (⟨q1, q2⟩ | ⟨q1, q2⟩) <;> first | omega | contradiction))⟩)))⟩ hw dX12_hasSign_19
abbrev Py_X12_otherOf_1 (ad : Nat → Nat) (cy : Nat → ClassId) (B : Int) (qr : Nat) (s1 : Int) (a1 : Int32) (a2 : Int32) (w0 : va_W) : Int32 → va_W → Prop := fun r u => w0 = u ∧ Ev (fun n => m_X12_otherOf n 0 a1.toInt a2.toInt (sL w0)) (r.toInt, sL w0) ∧ ((0 ≤ r.toInt ∧ r.toInt ≤ 9) ∨ (0 ≤ r.toInt ∧ r.toInt ≤ 9 ∧ gi u 12 (10 * a1.toInt + 10).toNat = a2))
set_option maxHeartbeats 4000000 in
set_option maxRecDepth 100000 in
theorem ky_X12_otherOf_1 (l : Launch) (adK adV : Nat → Nat) (dC : Nat → ClassId) (dI : Nat → Nat → Nat) (cy : Nat → ClassId) (ad : Nat → Nat) (B : Int) (hB0 : 100000 ≤ B) (hB1 : B ≤ 1073741824) (qr : Nat) (s1 : Int)  (a1 : Int32) (ra1 : 0 ≤ a1.toInt) (ta1 : a1.toInt ≤ 11) (a2 : Int32) (ra2 : 0 ≤ a2.toInt) (ta2 : a2.toInt ≤ 9) (w0 : va_W) (sz : Nat) (hT : TW ksM ad cy B qr 12 w0)  : Met l yX12_otherOf (wu yX12_otherOf cX12_otherOf 3 (some .int)) ({ frames := 2, cells := 0, slots := 0, locals := 34 }) (va_Pc [.ref (ad 0), .int a1, .int a2] (wpreS adK adV dC dI cy sz w0)) (va_Qi (Py_X12_otherOf_1 ad cy B qr s1 a1 a2 w0) (fun u : va_W => wpost dC dI cy (va_A w0 sz) u) (va_A w0 sz)) 0 0 (va_A w0 sz) := by
  refine Met.ofW (cc := cX12_otherOf) (maxL := 3) (ret := (some .int)) (by decide) rfl ?_
  intro p e s m args below meth c s₁ Bk hml hv
  obtain ⟨rfl, ⟨hsz, hP, hK, hD0⟩, hE, hSR⟩ := hv
  have hx := Bk.exec
  have hb := Bk.bytes
  have hr := Bk.returns
  have hlocks := Bk.notSynchronized
  have hC : CallFix p m c cX12_otherOf 3 s _ (wu yX12_otherOf cX12_otherOf 3 (some .int)) RX12 := ⟨hx, hb, hml, findClass_of_methodNamed Bk.named, atoms_spec (ws := (wu yX12_otherOf cX12_otherOf 3 (some .int))) Bk.pre⟩
  subst hsz
  have hD := hD0.self (sz := s.heap.size)
  generalize hAe : va_A w0 s.heap.size = A at hD hE ⊢
  have hA : ∀ q : Nat, s.heap.size ≤ q → A q := fun q h => by rw [← hAe]; exact Or.inr h
  have hw : Wd dC dI A s.heap s.heap [] w0 := ⟨hP, hD, va_S.rf⟩
  have hF : FE ksM ([] : List (Nat × Nat × Nat)) w0 w0 := FE.rf
  have hl := lv_entry ([.ref (ad 0), .int a1, .int a2]) (n := 3) (Nat.le_of_ble_eq_true rfl)
  rw [lg_entry_eq]
  generalize (lg_sl ([.ref (ad 0), .int a1, .int a2]) ++ List.replicate (3 - (lg_sl ([.ref (ad 0), .int a1, .int a2])).length) Slot.unset).toArray = ls at hl ⊢
  have hl : lv_has ls 3 [(0, .ref (ad 0)), (1, .int a1), (2, .int a2)] := hl
  generalize hloc : ([] : List Loc) = locs at hw ⊢
  have hM : TT (fun n => m_X12_otherOf n 0 a1.toInt a2.toInt (sL w0)) (fun n => m_X12_otherOf n 0 a1.toInt a2.toInt (sL w0)) := TT.rf
  refine lv_aload_n hx hb dX12_otherOf_0 rfl (lv_at hl 0 rfl) ?_
  refine lv_iload_n hx hb dX12_otherOf_1 rfl (lv_at hl 1 rfl) ?_
  refine lv_iconst (v := 0) hx hb dX12_otherOf_2 (by decide) ?_
  refine tk_Vi hC hK hw hT hA hE hSR kM_at0 (by decide) rfl (ky_X12_streetOf_3 l adK adV dC dI cy ad B hB0 (Int.le_trans hB1 (by decide)) qr s1   a1 (show 0 ≤ a1.toInt from ra1) (show a1.toInt ≤ 11 from ta1) w0 s.heap.size hT ) (cwV 2 hC.2.2.2.2 uV_RX12_300 rfl rfl rfl (by decide +kernel) ⟨Nat.le_of_ble_eq_true rfl, Nat.le_of_ble_eq_true rfl⟩) rfl hl.1 rfl (Nat.le_of_ble_eq_true rfl) dX12_otherOf_3 (fun r1 w3 H locs hp2 hw => ?_)
  obtain ⟨rfl, hv9, hg8⟩ := hp2
  obtain ⟨g5, g6, c7⟩ := hg8
  replace hM := hM.call hv9 rfl
  refine lv_iload_n hx hb dX12_otherOf_6 rfl (lv_at hl 2 rfl) ?_
  refine lv_icmp_ne (tgt := 19) hx hb dX12_otherOf_7 (by decide) (fun c10 => ?_) (fun c10 => ?_)
  · have c10 : ¬ r1.toInt = a2.toInt := wk_eqF c10
    replace hM := hM.pos c10
    refine lv_aload_n hx hb dX12_otherOf_19 rfl (lv_at hl 0 rfl) ?_
    refine lv_iload_n hx hb dX12_otherOf_20 rfl (lv_at hl 1 rfl) ?_
    refine lv_iconst (v := 0) hx hb dX12_otherOf_21 (by decide) ?_
    refine tk_Vi hC hK hw hT hA hE hSR kM_at0 (by decide) rfl (ky_X12_streetOf_3 l adK adV dC dI cy ad B hB0 (Int.le_trans hB1 (by decide)) qr s1   a1 (show 0 ≤ a1.toInt from ra1) (show a1.toInt ≤ 11 from ta1) w0 H.size hT ) (cwV 2 hC.2.2.2.2 uV_RX12_300 rfl rfl rfl (by decide +kernel) ⟨Nat.le_of_ble_eq_true rfl, Nat.le_of_ble_eq_true rfl⟩) rfl hl.1 rfl (Nat.le_of_ble_eq_true rfl) dX12_otherOf_22 (fun r11 w13 H locs hp12 hw => ?_)
    obtain ⟨rfl, hv19, hg18⟩ := hp12
    obtain ⟨g15, g16, c17⟩ := hg18
    replace hM := hM.call hv19 rfl
    obtain rfl : r1 = r11 := c7.symm.trans c17
    exact tk_iret hC hr hlocks hK ⟨rfl, hM.ret rfl, (Or.inl ⟨(show 0 ≤ r1.toInt by first | with_reducible assumption | omega), (show r1.toInt ≤ 9 by first | with_reducible assumption | omega)⟩)⟩ hw dX12_otherOf_25
  · have c10 : r1.toInt = a2.toInt := wk_eq.mp c10
    replace hM := hM.neg (fun q => q c10)
    refine lv_aload_n hx hb dX12_otherOf_10 rfl (lv_at hl 0 rfl) ?_
    refine lv_iload_n hx hb dX12_otherOf_11 rfl (lv_at hl 1 rfl) ?_
    refine lv_iconst (v := 1) hx hb dX12_otherOf_12 (by decide) ?_
    refine tk_Vi hC hK hw hT hA hE hSR kM_at0 (by decide) rfl (ky_X12_streetOf_4 l adK adV dC dI cy ad B hB0 (Int.le_trans hB1 (by decide)) qr s1   a1 (show 0 ≤ a1.toInt from ra1) (show a1.toInt ≤ 11 from ta1) w0 H.size hT ) (cwV 2 hC.2.2.2.2 uV_RX12_300 rfl rfl rfl (by decide +kernel) ⟨Nat.le_of_ble_eq_true rfl, Nat.le_of_ble_eq_true rfl⟩) rfl hl.1 rfl (Nat.le_of_ble_eq_true rfl) dX12_otherOf_13 (fun r20 w22 H locs hp21 hw => ?_)
    obtain ⟨rfl, hv28, hg27⟩ := hp21
    obtain ⟨g24, g25, c26⟩ := hg27
    replace hM := hM.call hv28 rfl
    refine lv_goto (tgt := 25) hx hb dX12_otherOf_16 (by decide) ?_
    exact tk_iret hC hr hlocks hK ⟨rfl, hM.ret rfl, (Or.inr ⟨(show 0 ≤ r20.toInt by first | with_reducible assumption | omega), (show r20.toInt ≤ 9 by first | with_reducible assumption | omega), (c7.trans (wk_eq.mpr (show r1.toInt = a2.toInt by first | exact Int.le_antisymm (by omega) (by omega) | omega)))⟩)⟩ hw dX12_otherOf_25
abbrev Py_X12_streetFrom_1 (ad : Nat → Nat) (cy : Nat → ClassId) (B : Int) (qr : Nat) (s1 : Int) (a1 : Int32) (w0 : va_W) : Int32 → va_W → Prop := fun r u => w0 = u ∧ Ev (fun n => m_X12_streetFrom n 0 a1.toInt (sL w0)) (r.toInt, sL w0) ∧ ((0 ≤ r.toInt ∧ r.toInt ≤ 11 ∧ (∃ y : Int32, gi u 12 1 = y ∧ 1 ≤ y.toInt ∧ y.toInt ≤ 12) ∧ gi u 12 (10 * r.toInt + 10).toNat = a1 ∧ gi u 12 (10 * r.toInt + 11).toNat = a1) ∨ (0 ≤ r.toInt ∧ r.toInt ≤ 11 ∧ (∃ y : Int32, gi u 12 1 = y ∧ 1 ≤ y.toInt ∧ y.toInt ≤ 12) ∧ gi u 12 (10 * r.toInt + 10).toNat = a1) ∨ (0 ≤ r.toInt ∧ r.toInt ≤ 11 ∧ (∃ y : Int32, gi u 12 1 = y ∧ 1 ≤ y.toInt ∧ y.toInt ≤ 12) ∧ gi u 12 (10 * r.toInt + 11).toNat = a1) ∨ (r = (-1)))
set_option maxHeartbeats 4000000 in
set_option maxRecDepth 100000 in
theorem ky_X12_streetFrom_1 (l : Launch) (adK adV : Nat → Nat) (dC : Nat → ClassId) (dI : Nat → Nat → Nat) (cy : Nat → ClassId) (ad : Nat → Nat) (B : Int) (hB0 : 100000 ≤ B) (hB1 : B ≤ 1073741824) (qr : Nat) (s1 : Int)  (a1 : Int32) (ra1 : 0 ≤ a1.toInt) (ta1 : a1.toInt ≤ 9) (w0 : va_W) (sz : Nat) (hT : TW ksM ad cy B qr 12 w0)  : Met l yX12_streetFrom (wu yX12_streetFrom cX12_streetFrom 3 (some .int)) ({ frames := 3, cells := 0, slots := 0, locals := 57 }) (va_Pc [.ref (ad 0), .int a1] (wpreS adK adV dC dI cy sz w0)) (va_Qi (Py_X12_streetFrom_1 ad cy B qr s1 a1 w0) (fun u : va_W => wpost dC dI cy (va_A w0 sz) u) (va_A w0 sz)) 0 0 (va_A w0 sz) := by
  refine Met.ofW (cc := cX12_streetFrom) (maxL := 3) (ret := (some .int)) (by decide) rfl ?_
  intro p e s m args below meth c s₁ Bk hml hv
  obtain ⟨rfl, ⟨hsz, hP, hK, hD0⟩, hE, hSR⟩ := hv
  have hx := Bk.exec
  have hb := Bk.bytes
  have hr := Bk.returns
  have hlocks := Bk.notSynchronized
  have hC : CallFix p m c cX12_streetFrom 3 s _ (wu yX12_streetFrom cX12_streetFrom 3 (some .int)) RX12 := ⟨hx, hb, hml, findClass_of_methodNamed Bk.named, atoms_spec (ws := (wu yX12_streetFrom cX12_streetFrom 3 (some .int))) Bk.pre⟩
  subst hsz
  have hD := hD0.self (sz := s.heap.size)
  generalize hAe : va_A w0 s.heap.size = A at hD hE ⊢
  have hA : ∀ q : Nat, s.heap.size ≤ q → A q := fun q h => by rw [← hAe]; exact Or.inr h
  have hw : Wd dC dI A s.heap s.heap [] w0 := ⟨hP, hD, va_S.rf⟩
  have hF : FE ksM ([] : List (Nat × Nat × Nat)) w0 w0 := FE.rf
  have hl := lv_entry ([.ref (ad 0), .int a1]) (n := 3) (Nat.le_of_ble_eq_true rfl)
  rw [lg_entry_eq]
  generalize (lg_sl ([.ref (ad 0), .int a1]) ++ List.replicate (3 - (lg_sl ([.ref (ad 0), .int a1])).length) Slot.unset).toArray = ls at hl ⊢
  have hl : lv_has ls 3 [(0, .ref (ad 0)), (1, .int a1)] := hl
  generalize hloc : ([] : List Loc) = locs at hw ⊢
  have hinX12 : ∀ w ∈ u_ws RX12 TX12 42, w ∈ (wu yX12_streetFrom cX12_streetFrom 3 (some .int)) := fun _ h => List.mem_cons_of_mem _ (up_71 h)
  have J21 : ∀ (f21_14__a1_toInt_toNat : Int32) (H : Heap) (locs : List Loc) (ls : Array Slot), 0 ≤ a1.toInt → a1.toInt ≤ 9 → 0 ≤ f21_14__a1_toInt_toNat.toInt → f21_14__a1_toInt_toNat.toInt ≤ 100000000 → Wd dC dI A s.heap H locs w0 → gi w0 14 (a1.toInt).toNat = f21_14__a1_toInt_toNat → TT (fun n => m_X12_streetFrom n 0 a1.toInt (sL w0)) (fun n => b_X12_streetFrom_21 (j_X12_streetFrom 0 n) n 0 (sL w0)) → lv_has ls 3 [(0, .ref (ad 0)), (1, .int a1)] → W p l e ({ frames := 3, cells := 0, slots := 0, locals := 57 }) s m (List.toArray [.ref (ad 0), .int a1]) below meth c H locs 0 0 (MQ below (va_Qi (Py_X12_streetFrom_1 ad cy B qr s1 a1 w0) (fun u : va_W => wpost dC dI cy A u) A) (List.toArray [.ref (ad 0), .int a1]) s 0 0 A) (F0 m 21 ls []) := by
    intro f21_14__a1_toInt_toNat H locs ls r1 t2 r3 t4 hw c5 hM hl
    refine lv_iconst (v := (-1)) hx hb dX12_streetFrom_21 (by decide) ?_
    exact tk_iret hC hr hlocks hK ⟨rfl, hM.ret (by decide), (Or.inr (Or.inr (Or.inr rfl)))⟩ hw dX12_streetFrom_22
  have L25 : ∀ (n25 : Nat) (v25_2 : Int32) (f25_14__a1_toInt_toNat : Int32) (H : Heap) (locs : List Loc) (ls : Array Slot), 0 ≤ a1.toInt → a1.toInt ≤ 9 → 0 ≤ v25_2.toInt → v25_2.toInt ≤ 12 → 1 ≤ f25_14__a1_toInt_toNat.toInt → f25_14__a1_toInt_toNat.toInt ≤ 100000100 → (12 - v25_2.toInt).toNat < n25 → Wd dC dI A s.heap H locs w0 → gi w0 14 (a1.toInt).toNat = f25_14__a1_toInt_toNat → TT (fun n => m_X12_streetFrom n 0 a1.toInt (sL w0)) (fun n => j_X12_streetFrom 0 n 25 [a1.toInt, v25_2.toInt] (sL w0)) → lv_has ls 3 [(0, .ref (ad 0)), (1, .int a1), (2, .int v25_2)] → W p l e ({ frames := 3, cells := 0, slots := 0, locals := 57 }) s m (List.toArray [.ref (ad 0), .int a1]) below meth c H locs 0 0 (MQ below (va_Qi (Py_X12_streetFrom_1 ad cy B qr s1 a1 w0) (fun u : va_W => wpost dC dI cy A u) A) (List.toArray [.ref (ad 0), .int a1]) s 0 0 A) (F0 m 25 ls []) := by
    intro n25
    induction n25 with
    | zero => intro v25_2 f25_14__a1_toInt_toNat H locs ls r6 t7 r8 t9 r10 t11 hm25 hw c12 hM hl; omega
    | succ n25 ih25 =>
      intro v25_2 f25_14__a1_toInt_toNat H locs ls r6 t7 r8 t9 r10 t11 hm25 hw c12 hM hl
      have J88 : ∀ (f88_12_1 : Int32) (H : Heap) (locs : List Loc) (ls : Array Slot), 0 ≤ a1.toInt → a1.toInt ≤ 9 → 0 ≤ v25_2.toInt → v25_2.toInt ≤ 11 → 1 ≤ f88_12_1.toInt → f88_12_1.toInt ≤ 12 → 1 ≤ f25_14__a1_toInt_toNat.toInt → f25_14__a1_toInt_toNat.toInt ≤ 100000100 → Wd dC dI A s.heap H locs w0 → gi w0 12 1 = f88_12_1 → gi w0 14 (a1.toInt).toNat = f25_14__a1_toInt_toNat → TT (fun n => m_X12_streetFrom n 0 a1.toInt (sL w0)) (fun n => b_X12_streetFrom_88 (j_X12_streetFrom 0 n) n 0 (a1.toInt) (v25_2.toInt) (sL w0)) → lv_has ls 3 [(0, .ref (ad 0)), (1, .int a1), (2, .int v25_2)] → W p l e ({ frames := 3, cells := 0, slots := 0, locals := 57 }) s m (List.toArray [.ref (ad 0), .int a1]) below meth c H locs 0 0 (MQ below (va_Qi (Py_X12_streetFrom_1 ad cy B qr s1 a1 w0) (fun u : va_W => wpost dC dI cy A u) A) (List.toArray [.ref (ad 0), .int a1]) s 0 0 A) (F0 m 88 ls []) := by
        intro f88_12_1 H locs ls r13 t14 r15 t16 r17 t18 r20 t21 hw c19 c22 hM hl
        obtain ⟨x23, ex23⟩ : ∃ y : Int32, y = v25_2 + Int32.ofInt 1 := ⟨_, rfl⟩
        have erx23 := ex23
        refine lv_iinc (v := x23) (lv' := [(2, .int x23), (0, .ref (ad 0)), (1, .int a1)]) hx hb dX12_streetFrom_88 hl (k := 2) rfl ex23.symm (by decide) rfl (fun ls hl => ?_)
        have ex23 : x23.toInt = v25_2.toInt + 1 := by rw [ex23]; exact wk_add (y := 1) (show -2147483648 ≤ v25_2.toInt + 1 by omega) (show v25_2.toInt + 1 ≤ 2147483647 by omega)
        replace hM := hM.lt ex23.symm
        refine lv_goto (tgt := 25) hx hb dX12_streetFrom_91 (by decide) ?_
        exact ih25 x23 f25_14__a1_toInt_toNat H locs ls  (show 0 ≤ a1.toInt from r13) (show a1.toInt ≤ 9 from t14) (show 0 ≤ x23.toInt by first | with_reducible assumption | omega) (show x23.toInt ≤ 12 by first | with_reducible assumption | omega) (show 1 ≤ f25_14__a1_toInt_toNat.toInt from r20) (show f25_14__a1_toInt_toNat.toInt ≤ 100000100 from t21) (show (12 - x23.toInt).toNat < n25 by first | exact tn_lt hm25 (by omega) (by omega) | omega) hw  c22 hM (lv_sub hl [1, 2, 0] rfl)
      replace hM := hM.suc (fun _ => e_X12_streetFrom_25)
      refine lv_iload_n hx hb dX12_streetFrom_25 rfl (lv_at hl 2 rfl) ?_
      refine lv_aload_n hx hb dX12_streetFrom_26 rfl (lv_at hl 0 rfl) ?_
      refine tk_getA hC hK hw hT hinX12 kM_at0 (by decide) rfl 26 (by decide) (List.mem_cons_of_mem _ uw_7_1) rfl rfl dX12_streetFrom_27 ?_
      refine lv_iconst (v := 1) hx hb dX12_streetFrom_30 (by decide) ?_
      refine tk_ialdR hC hK hw hT kM_at12 rfl (by decide) (by decide) dX12_streetFrom_31 (fun x24 c25 Ex24 => ?_)
      have hox24 := c25
      replace hM := hM.rd (sL_at (kM_lt kM_at12) hox24)
      have bx24 : 0 ≤ x24.toInt ∧ x24.toInt ≤ 12 := (tk_rg1 rfl).mp Ex24
      have c25 : gi w0 12 1 = x24 := c25
      refine lv_icmp_ge (tgt := 94) hx hb dX12_streetFrom_32 (by decide) (fun c26 => ?_) (fun c26 => ?_)
      · have c26 : x24.toInt ≤ v25_2.toInt := wk_le.mp c26
        replace hM := hM.pos c26
        refine lv_iconst (v := (-1)) hx hb dX12_streetFrom_94 (by decide) ?_
        exact tk_iret hC hr hlocks hK ⟨rfl, hM.ret (by decide), (Or.inr (Or.inr (Or.inr rfl)))⟩ hw dX12_streetFrom_95
      · have c26 : v25_2.toInt < x24.toInt := wk_leF c26
        replace hM := hM.neg (Int.not_le.mpr c26)
        refine lv_aload_n hx hb dX12_streetFrom_35 rfl (lv_at hl 0 rfl) ?_
        refine lv_iload_n hx hb dX12_streetFrom_36 rfl (lv_at hl 2 rfl) ?_
        refine lv_iload_n hx hb dX12_streetFrom_37 rfl (lv_at hl 1 rfl) ?_
        refine tk_Vi hC hK hw hT hA hE hSR kM_at0 (by decide) rfl (ky_X12_isAt_1 l adK adV dC dI cy ad B hB0 (Int.le_trans hB1 (by decide)) qr s1   v25_2 (show 0 ≤ v25_2.toInt from r8) (show v25_2.toInt ≤ 11 by first | with_reducible assumption | omega) a1 (show 0 ≤ a1.toInt from r6) (show a1.toInt ≤ 9 from t7) w0 H.size hT ) (cwV 2 hC.2.2.2.2 uV_RX12_314 rfl rfl rfl (by decide +kernel) ⟨Nat.le_of_ble_eq_true rfl, Nat.le_of_ble_eq_true rfl⟩) rfl hl.1 rfl (Nat.le_of_ble_eq_true rfl) dX12_streetFrom_38 (fun r27 w29 H locs hp28 hw => ?_)
        obtain ⟨rfl, hv37, hg36⟩ := hp28
        rcases hg36 with ⟨rfl, hq31⟩ | ⟨rfl, c32, hq33⟩ | ⟨rfl, c34, hq35⟩
        · replace hM := hM.call (r' := 0) hv37 (by decide)
          refine lv_if_eq (tgt := 88) hx hb dX12_streetFrom_41 (by decide) (fun _ => ?_) (fun c => absurd (by decide) c)
          replace hM := hM.pos (by decide)
          exact J88 x24 H locs ls  (show 0 ≤ a1.toInt from r6) (show a1.toInt ≤ 9 from t7) (show 0 ≤ v25_2.toInt from r8) (show v25_2.toInt ≤ 11 by first | with_reducible assumption | omega) (show 1 ≤ x24.toInt by first | with_reducible assumption | omega) (show x24.toInt ≤ 12 by first | with_reducible assumption | omega) (show 1 ≤ f25_14__a1_toInt_toNat.toInt from r10) (show f25_14__a1_toInt_toNat.toInt ≤ 100000100 from t11)  hw  c25 c12 hM (lv_sub hl [0, 1, 2] rfl)
        · replace hM := hM.call (r' := 1) hv37 (by decide)
          refine lv_if_eq (tgt := 88) hx hb dX12_streetFrom_41 (by decide) (fun c => absurd c (by decide)) (fun _ => ?_)
          replace hM := hM.neg (by decide)
          refine lv_aload_n hx hb dX12_streetFrom_44 rfl (lv_at hl 0 rfl) ?_
          refine lv_aload_n hx hb dX12_streetFrom_45 rfl (lv_at hl 0 rfl) ?_
          refine tk_getA hC hK hw hT hinX12 kM_at0 (by decide) rfl 28 (by decide) (List.mem_cons_of_mem _ uw_7_3) rfl rfl dX12_streetFrom_46 ?_
          refine lv_iload_n hx hb dX12_streetFrom_49 rfl (lv_at hl 2 rfl) ?_
          refine tk_iald hC hK hw hT kM_at13 rfl rfl (show 0 ≤ v25_2.toInt from r8) (show v25_2.toInt < 12 by first | with_reducible assumption | omega) dX12_streetFrom_50 (fun x38 c39 rx38 tx38 => ?_)
          have hox38 := c39
          replace hM := hM.rd (sL_at (kM_lt kM_at13) hox38)
          refine lv_iload_n hx hb dX12_streetFrom_51 rfl (lv_at hl 2 rfl) ?_
          refine lv_iload_n hx hb dX12_streetFrom_52 rfl (lv_at hl 1 rfl) ?_
          refine tk_Vi hC hK hw hT hA hE hSR kM_at0 (by decide) rfl (ky_X12_hasSign_1 l adK adV dC dI cy ad B hB0 (Int.le_trans hB1 (by decide)) qr s1   x38 v25_2 (show 0 ≤ v25_2.toInt from r8) (show v25_2.toInt ≤ 11 by first | with_reducible assumption | omega) a1 (show 0 ≤ a1.toInt from r6) (show a1.toInt ≤ 9 from t7) w0 H.size hT ) (cwV 3 hC.2.2.2.2 uV_RX12_307 rfl rfl rfl (by decide +kernel) ⟨Nat.le_of_ble_eq_true rfl, Nat.le_of_ble_eq_true rfl⟩) rfl hl.1 rfl (Nat.le_of_ble_eq_true rfl) dX12_streetFrom_53 (fun r40 w42 H locs hp41 hw => ?_)
          obtain ⟨rfl, hv51, hg50⟩ := hp41
          rcases hg50 with ⟨rfl, hq44⟩ | ⟨rfl, c45, hq46⟩ | ⟨rfl, hq47⟩ | ⟨rfl, c48, hq49⟩
          · replace hM := hM.call (r' := 0) hv51 (by decide)
            refine lv_if_eq (tgt := 88) hx hb dX12_streetFrom_56 (by decide) (fun _ => ?_) (fun c => absurd (by decide) c)
            replace hM := hM.pos (by decide)
            exact J88 x24 H locs ls  (show 0 ≤ a1.toInt from r6) (show a1.toInt ≤ 9 from t7) (show 0 ≤ v25_2.toInt from r8) (show v25_2.toInt ≤ 11 by first | with_reducible assumption | omega) (show 1 ≤ x24.toInt by first | with_reducible assumption | omega) (show x24.toInt ≤ 12 by first | with_reducible assumption | omega) (show 1 ≤ f25_14__a1_toInt_toNat.toInt from r10) (show f25_14__a1_toInt_toNat.toInt ≤ 100000100 from t11)  hw  c25 c12 hM (lv_sub hl [0, 1, 2] rfl)
          · replace hM := hM.call (r' := 0) hv51 (by decide)
            refine lv_if_eq (tgt := 88) hx hb dX12_streetFrom_56 (by decide) (fun _ => ?_) (fun c => absurd (by decide) c)
            replace hM := hM.pos (by decide)
            exact J88 x24 H locs ls  (show 0 ≤ a1.toInt from r6) (show a1.toInt ≤ 9 from t7) (show 0 ≤ v25_2.toInt from r8) (show v25_2.toInt ≤ 11 by first | with_reducible assumption | omega) (show 1 ≤ x24.toInt by first | with_reducible assumption | omega) (show x24.toInt ≤ 12 by first | with_reducible assumption | omega) (show 1 ≤ f25_14__a1_toInt_toNat.toInt from r10) (show f25_14__a1_toInt_toNat.toInt ≤ 100000100 from t11)  hw  c25 c12 hM (lv_sub hl [0, 1, 2] rfl)
          · replace hM := hM.call (r' := 1) hv51 (by decide)
            refine lv_if_eq (tgt := 88) hx hb dX12_streetFrom_56 (by decide) (fun c => absurd c (by decide)) (fun _ => ?_)
            replace hM := hM.neg (by decide)
            refine lv_aload_n hx hb dX12_streetFrom_59 rfl (lv_at hl 0 rfl) ?_
            refine lv_iload_n hx hb dX12_streetFrom_60 rfl (lv_at hl 2 rfl) ?_
            refine lv_iconst (v := 2) hx hb dX12_streetFrom_61 (by decide) ?_
            refine tk_Vi hC hK hw hT hA hE hSR kM_at0 (by decide) rfl (ky_X12_streetOf_2 l adK adV dC dI cy ad B hB0 (Int.le_trans hB1 (by decide)) qr s1   v25_2 (show 0 ≤ v25_2.toInt from r8) (show v25_2.toInt ≤ 11 by first | with_reducible assumption | omega) w0 H.size hT ) (cwV 2 hC.2.2.2.2 uV_RX12_300 rfl rfl rfl (by decide +kernel) ⟨Nat.le_of_ble_eq_true rfl, Nat.le_of_ble_eq_true rfl⟩) rfl hl.1 rfl (Nat.le_of_ble_eq_true rfl) dX12_streetFrom_62 (fun r52 w54 H locs hp53 hw => ?_)
            obtain ⟨rfl, hv60, hg59⟩ := hp53
            obtain ⟨g56, g57, c58⟩ := hg59
            replace hM := hM.call hv60 rfl
            refine lv_aload_n hx hb dX12_streetFrom_65 rfl (lv_at hl 0 rfl) ?_
            refine tk_getA hC hK hw hT hinX12 kM_at0 (by decide) rfl 29 (by decide) (List.mem_cons_of_mem _ uw_7_4) rfl rfl dX12_streetFrom_66 ?_
            refine lv_aload_n hx hb dX12_streetFrom_69 rfl (lv_at hl 0 rfl) ?_
            refine lv_iload_n hx hb dX12_streetFrom_70 rfl (lv_at hl 2 rfl) ?_
            refine lv_iload_n hx hb dX12_streetFrom_71 rfl (lv_at hl 1 rfl) ?_
            refine tk_Vi hC hK hw hT hA hE hSR kM_at0 (by decide) rfl (ky_X12_otherOf_1 l adK adV dC dI cy ad B hB0 (Int.le_trans hB1 (by decide)) qr s1   v25_2 (show 0 ≤ v25_2.toInt from r8) (show v25_2.toInt ≤ 11 by first | with_reducible assumption | omega) a1 (show 0 ≤ a1.toInt from r6) (show a1.toInt ≤ 9 from t7) w0 H.size hT ) (cwV 2 hC.2.2.2.2 uV_RX12_348 rfl rfl rfl (by decide +kernel) ⟨Nat.le_of_ble_eq_true rfl, Nat.le_of_ble_eq_true rfl⟩) rfl hl.1 rfl (Nat.le_of_ble_eq_true rfl) dX12_streetFrom_72 (fun r61 w63 H locs hp62 hw => ?_)
            obtain ⟨rfl, hv71, hg70⟩ := hp62
            rcases hg70 with ⟨g65, g66⟩ | ⟨g67, g68, c69⟩
            · replace hM := hM.call hv71 rfl
              refine tk_iald hC hK hw hT kM_at14 rfl rfl (show 0 ≤ r61.toInt by first | with_reducible assumption | omega) (show r61.toInt < 10 by first | with_reducible assumption | omega) dX12_streetFrom_75 (fun x72 c73 rx72 tx72 => ?_)
              have hox72 := c73
              replace hM := hM.rd (sL_at (kM_lt kM_at14) hox72)
              have c73 : gi w0 14 (r61.toInt).toNat = x72 := (congrArg (gi w0 14) (congrArg Int.toNat (show r61.toInt = r61.toInt from rfl))).trans c73
              refine lv_iadd hx hb dX12_streetFrom_76 ?_
              refine lv_topi (fun x74 ex74 => ?_)
              have ezx74 := ex74
              have ex74 : x74.toInt = r52.toInt + x72.toInt := by rw [ex74]; exact wk_add (show (-2147483648) ≤ r52.toInt + x72.toInt by omega) (show r52.toInt + x72.toInt ≤ 2147483647 by omega)
              replace hM := hM.lt ex74.symm
              refine lv_aload_n hx hb dX12_streetFrom_77 rfl (lv_at hl 0 rfl) ?_
              refine tk_getA hC hK hw hT hinX12 kM_at0 (by decide) rfl 29 (by decide) (List.mem_cons_of_mem _ uw_7_4) rfl rfl dX12_streetFrom_78 ?_
              refine lv_iload_n hx hb dX12_streetFrom_81 rfl (lv_at hl 1 rfl) ?_
              refine tk_iald hC hK hw hT kM_at14 rfl rfl (show 0 ≤ a1.toInt from r6) (show a1.toInt < 10 from Int.lt_of_le_of_lt t7 (by decide)) dX12_streetFrom_82 (fun x75 c76 rx75 tx75 => ?_)
              have hox75 := c76
              have c76 : gi w0 14 (a1.toInt).toNat = x75 := (congrArg (gi w0 14) (congrArg Int.toNat (show a1.toInt = a1.toInt from rfl))).trans c76
              refine wk_top f25_14__a1_toInt_toNat (c76.symm.trans c12) ?_
              replace hM := hM.rd ((sL_at (kM_lt kM_at14) hox75).trans (congrArg Int32.toInt (c76.symm.trans c12)))
              refine lv_icmp_ne (tgt := 88) hx hb dX12_streetFrom_83 (by decide) (fun c77 => ?_) (fun c77 => ?_)
              · have c77 : ¬ x74.toInt = f25_14__a1_toInt_toNat.toInt := wk_eqF c77
                replace hM := hM.pos c77
                exact J88 x24 H locs ls  (show 0 ≤ a1.toInt from r6) (show a1.toInt ≤ 9 from t7) (show 0 ≤ v25_2.toInt from r8) (show v25_2.toInt ≤ 11 by first | with_reducible assumption | omega) (show 1 ≤ x24.toInt by first | with_reducible assumption | omega) (show x24.toInt ≤ 12 by first | with_reducible assumption | omega) (show 1 ≤ f25_14__a1_toInt_toNat.toInt from r10) (show f25_14__a1_toInt_toNat.toInt ≤ 100000100 from t11)  hw  c25 c12 hM (lv_sub hl [0, 1, 2] rfl)
              · have c77 : x74.toInt = f25_14__a1_toInt_toNat.toInt := wk_eq.mp c77
                replace hM := hM.neg (fun q => q c77)
                refine lv_iload_n hx hb dX12_streetFrom_86 rfl (lv_at hl 2 rfl) ?_
                exact tk_iret hC hr hlocks hK ⟨rfl, hM.ret rfl, (Or.inr (Or.inl ⟨(show 0 ≤ v25_2.toInt from r8), (show v25_2.toInt ≤ 11 by first | with_reducible assumption | omega), ⟨x24, c25, (show 1 ≤ x24.toInt by first | with_reducible assumption | omega), (show x24.toInt ≤ 12 by first | with_reducible assumption | omega)⟩, c32⟩))⟩ hw dX12_streetFrom_87
            · replace hM := hM.call hv71 rfl
              refine tk_iald hC hK hw hT kM_at14 rfl rfl (show 0 ≤ r61.toInt by first | with_reducible assumption | omega) (show r61.toInt < 10 by first | with_reducible assumption | omega) dX12_streetFrom_75 (fun x78 c79 rx78 tx78 => ?_)
              have hox78 := c79
              replace hM := hM.rd (sL_at (kM_lt kM_at14) hox78)
              have c79 : gi w0 14 (r61.toInt).toNat = x78 := (congrArg (gi w0 14) (congrArg Int.toNat (show r61.toInt = r61.toInt from rfl))).trans c79
              refine lv_iadd hx hb dX12_streetFrom_76 ?_
              refine lv_topi (fun x80 ex80 => ?_)
              have ezx80 := ex80
              have ex80 : x80.toInt = r52.toInt + x78.toInt := by rw [ex80]; exact wk_add (show (-2147483648) ≤ r52.toInt + x78.toInt by omega) (show r52.toInt + x78.toInt ≤ 2147483647 by omega)
              replace hM := hM.lt ex80.symm
              refine lv_aload_n hx hb dX12_streetFrom_77 rfl (lv_at hl 0 rfl) ?_
              refine tk_getA hC hK hw hT hinX12 kM_at0 (by decide) rfl 29 (by decide) (List.mem_cons_of_mem _ uw_7_4) rfl rfl dX12_streetFrom_78 ?_
              refine lv_iload_n hx hb dX12_streetFrom_81 rfl (lv_at hl 1 rfl) ?_
              refine tk_iald hC hK hw hT kM_at14 rfl rfl (show 0 ≤ a1.toInt from r6) (show a1.toInt < 10 from Int.lt_of_le_of_lt t7 (by decide)) dX12_streetFrom_82 (fun x81 c82 rx81 tx81 => ?_)
              have hox81 := c82
              have c82 : gi w0 14 (a1.toInt).toNat = x81 := (congrArg (gi w0 14) (congrArg Int.toNat (show a1.toInt = a1.toInt from rfl))).trans c82
              refine wk_top f25_14__a1_toInt_toNat (c82.symm.trans c12) ?_
              replace hM := hM.rd ((sL_at (kM_lt kM_at14) hox81).trans (congrArg Int32.toInt (c82.symm.trans c12)))
              refine lv_icmp_ne (tgt := 88) hx hb dX12_streetFrom_83 (by decide) (fun c83 => ?_) (fun c83 => ?_)
              · have c83 : ¬ x80.toInt = f25_14__a1_toInt_toNat.toInt := wk_eqF c83
                replace hM := hM.pos c83
                exact J88 x24 H locs ls  (show 0 ≤ a1.toInt from r6) (show a1.toInt ≤ 9 from t7) (show 0 ≤ v25_2.toInt from r8) (show v25_2.toInt ≤ 11 by first | with_reducible assumption | omega) (show 1 ≤ x24.toInt by first | with_reducible assumption | omega) (show x24.toInt ≤ 12 by first | with_reducible assumption | omega) (show 1 ≤ f25_14__a1_toInt_toNat.toInt from r10) (show f25_14__a1_toInt_toNat.toInt ≤ 100000100 from t11)  hw  c25 c12 hM (lv_sub hl [0, 1, 2] rfl)
              · have c83 : x80.toInt = f25_14__a1_toInt_toNat.toInt := wk_eq.mp c83
                replace hM := hM.neg (fun q => q c83)
                refine lv_iload_n hx hb dX12_streetFrom_86 rfl (lv_at hl 2 rfl) ?_
                exact tk_iret hC hr hlocks hK ⟨rfl, hM.ret rfl, (Or.inr (Or.inl ⟨(show 0 ≤ v25_2.toInt from r8), (show v25_2.toInt ≤ 11 by first | with_reducible assumption | omega), ⟨x24, c25, (show 1 ≤ x24.toInt by first | with_reducible assumption | omega), (show x24.toInt ≤ 12 by first | with_reducible assumption | omega)⟩, c32⟩))⟩ hw dX12_streetFrom_87
          · replace hM := hM.call (r' := 1) hv51 (by decide)
            refine lv_if_eq (tgt := 88) hx hb dX12_streetFrom_56 (by decide) (fun c => absurd c (by decide)) (fun _ => ?_)
            replace hM := hM.neg (by decide)
            refine lv_aload_n hx hb dX12_streetFrom_59 rfl (lv_at hl 0 rfl) ?_
            refine lv_iload_n hx hb dX12_streetFrom_60 rfl (lv_at hl 2 rfl) ?_
            refine lv_iconst (v := 2) hx hb dX12_streetFrom_61 (by decide) ?_
            refine tk_Vi hC hK hw hT hA hE hSR kM_at0 (by decide) rfl (ky_X12_streetOf_2 l adK adV dC dI cy ad B hB0 (Int.le_trans hB1 (by decide)) qr s1   v25_2 (show 0 ≤ v25_2.toInt from r8) (show v25_2.toInt ≤ 11 by first | with_reducible assumption | omega) w0 H.size hT ) (cwV 2 hC.2.2.2.2 uV_RX12_300 rfl rfl rfl (by decide +kernel) ⟨Nat.le_of_ble_eq_true rfl, Nat.le_of_ble_eq_true rfl⟩) rfl hl.1 rfl (Nat.le_of_ble_eq_true rfl) dX12_streetFrom_62 (fun r84 w86 H locs hp85 hw => ?_)
            obtain ⟨rfl, hv92, hg91⟩ := hp85
            obtain ⟨g88, g89, c90⟩ := hg91
            replace hM := hM.call hv92 rfl
            refine lv_aload_n hx hb dX12_streetFrom_65 rfl (lv_at hl 0 rfl) ?_
            refine tk_getA hC hK hw hT hinX12 kM_at0 (by decide) rfl 29 (by decide) (List.mem_cons_of_mem _ uw_7_4) rfl rfl dX12_streetFrom_66 ?_
            refine lv_aload_n hx hb dX12_streetFrom_69 rfl (lv_at hl 0 rfl) ?_
            refine lv_iload_n hx hb dX12_streetFrom_70 rfl (lv_at hl 2 rfl) ?_
            refine lv_iload_n hx hb dX12_streetFrom_71 rfl (lv_at hl 1 rfl) ?_
            refine tk_Vi hC hK hw hT hA hE hSR kM_at0 (by decide) rfl (ky_X12_otherOf_1 l adK adV dC dI cy ad B hB0 (Int.le_trans hB1 (by decide)) qr s1   v25_2 (show 0 ≤ v25_2.toInt from r8) (show v25_2.toInt ≤ 11 by first | with_reducible assumption | omega) a1 (show 0 ≤ a1.toInt from r6) (show a1.toInt ≤ 9 from t7) w0 H.size hT ) (cwV 2 hC.2.2.2.2 uV_RX12_348 rfl rfl rfl (by decide +kernel) ⟨Nat.le_of_ble_eq_true rfl, Nat.le_of_ble_eq_true rfl⟩) rfl hl.1 rfl (Nat.le_of_ble_eq_true rfl) dX12_streetFrom_72 (fun r93 w95 H locs hp94 hw => ?_)
            obtain ⟨rfl, hv103, hg102⟩ := hp94
            rcases hg102 with ⟨g97, g98⟩ | ⟨g99, g100, c101⟩
            · replace hM := hM.call hv103 rfl
              refine tk_iald hC hK hw hT kM_at14 rfl rfl (show 0 ≤ r93.toInt by first | with_reducible assumption | omega) (show r93.toInt < 10 by first | with_reducible assumption | omega) dX12_streetFrom_75 (fun x104 c105 rx104 tx104 => ?_)
              have hox104 := c105
              replace hM := hM.rd (sL_at (kM_lt kM_at14) hox104)
              have c105 : gi w0 14 (r93.toInt).toNat = x104 := (congrArg (gi w0 14) (congrArg Int.toNat (show r93.toInt = r93.toInt from rfl))).trans c105
              refine lv_iadd hx hb dX12_streetFrom_76 ?_
              refine lv_topi (fun x106 ex106 => ?_)
              have ezx106 := ex106
              have ex106 : x106.toInt = r84.toInt + x104.toInt := by rw [ex106]; exact wk_add (show (-2147483648) ≤ r84.toInt + x104.toInt by omega) (show r84.toInt + x104.toInt ≤ 2147483647 by omega)
              replace hM := hM.lt ex106.symm
              refine lv_aload_n hx hb dX12_streetFrom_77 rfl (lv_at hl 0 rfl) ?_
              refine tk_getA hC hK hw hT hinX12 kM_at0 (by decide) rfl 29 (by decide) (List.mem_cons_of_mem _ uw_7_4) rfl rfl dX12_streetFrom_78 ?_
              refine lv_iload_n hx hb dX12_streetFrom_81 rfl (lv_at hl 1 rfl) ?_
              refine tk_iald hC hK hw hT kM_at14 rfl rfl (show 0 ≤ a1.toInt from r6) (show a1.toInt < 10 from Int.lt_of_le_of_lt t7 (by decide)) dX12_streetFrom_82 (fun x107 c108 rx107 tx107 => ?_)
              have hox107 := c108
              have c108 : gi w0 14 (a1.toInt).toNat = x107 := (congrArg (gi w0 14) (congrArg Int.toNat (show a1.toInt = a1.toInt from rfl))).trans c108
              refine wk_top f25_14__a1_toInt_toNat (c108.symm.trans c12) ?_
              replace hM := hM.rd ((sL_at (kM_lt kM_at14) hox107).trans (congrArg Int32.toInt (c108.symm.trans c12)))
              refine lv_icmp_ne (tgt := 88) hx hb dX12_streetFrom_83 (by decide) (fun c109 => ?_) (fun c109 => ?_)
              · have c109 : ¬ x106.toInt = f25_14__a1_toInt_toNat.toInt := wk_eqF c109
                replace hM := hM.pos c109
                exact J88 x24 H locs ls  (show 0 ≤ a1.toInt from r6) (show a1.toInt ≤ 9 from t7) (show 0 ≤ v25_2.toInt from r8) (show v25_2.toInt ≤ 11 by first | with_reducible assumption | omega) (show 1 ≤ x24.toInt by first | with_reducible assumption | omega) (show x24.toInt ≤ 12 by first | with_reducible assumption | omega) (show 1 ≤ f25_14__a1_toInt_toNat.toInt from r10) (show f25_14__a1_toInt_toNat.toInt ≤ 100000100 from t11)  hw  c25 c12 hM (lv_sub hl [0, 1, 2] rfl)
              · have c109 : x106.toInt = f25_14__a1_toInt_toNat.toInt := wk_eq.mp c109
                replace hM := hM.neg (fun q => q c109)
                refine lv_iload_n hx hb dX12_streetFrom_86 rfl (lv_at hl 2 rfl) ?_
                exact tk_iret hC hr hlocks hK ⟨rfl, hM.ret rfl, (Or.inr (Or.inl ⟨(show 0 ≤ v25_2.toInt from r8), (show v25_2.toInt ≤ 11 by first | with_reducible assumption | omega), ⟨x24, c25, (show 1 ≤ x24.toInt by first | with_reducible assumption | omega), (show x24.toInt ≤ 12 by first | with_reducible assumption | omega)⟩, c32⟩))⟩ hw dX12_streetFrom_87
            · replace hM := hM.call hv103 rfl
              refine tk_iald hC hK hw hT kM_at14 rfl rfl (show 0 ≤ r93.toInt by first | with_reducible assumption | omega) (show r93.toInt < 10 by first | with_reducible assumption | omega) dX12_streetFrom_75 (fun x110 c111 rx110 tx110 => ?_)
              have hox110 := c111
              replace hM := hM.rd (sL_at (kM_lt kM_at14) hox110)
              have c111 : gi w0 14 (r93.toInt).toNat = x110 := (congrArg (gi w0 14) (congrArg Int.toNat (show r93.toInt = r93.toInt from rfl))).trans c111
              refine lv_iadd hx hb dX12_streetFrom_76 ?_
              refine lv_topi (fun x112 ex112 => ?_)
              have ezx112 := ex112
              have ex112 : x112.toInt = r84.toInt + x110.toInt := by rw [ex112]; exact wk_add (show (-2147483648) ≤ r84.toInt + x110.toInt by omega) (show r84.toInt + x110.toInt ≤ 2147483647 by omega)
              replace hM := hM.lt ex112.symm
              refine lv_aload_n hx hb dX12_streetFrom_77 rfl (lv_at hl 0 rfl) ?_
              refine tk_getA hC hK hw hT hinX12 kM_at0 (by decide) rfl 29 (by decide) (List.mem_cons_of_mem _ uw_7_4) rfl rfl dX12_streetFrom_78 ?_
              refine lv_iload_n hx hb dX12_streetFrom_81 rfl (lv_at hl 1 rfl) ?_
              refine tk_iald hC hK hw hT kM_at14 rfl rfl (show 0 ≤ a1.toInt from r6) (show a1.toInt < 10 from Int.lt_of_le_of_lt t7 (by decide)) dX12_streetFrom_82 (fun x113 c114 rx113 tx113 => ?_)
              have hox113 := c114
              have c114 : gi w0 14 (a1.toInt).toNat = x113 := (congrArg (gi w0 14) (congrArg Int.toNat (show a1.toInt = a1.toInt from rfl))).trans c114
              refine wk_top f25_14__a1_toInt_toNat (c114.symm.trans c12) ?_
              replace hM := hM.rd ((sL_at (kM_lt kM_at14) hox113).trans (congrArg Int32.toInt (c114.symm.trans c12)))
              refine lv_icmp_ne (tgt := 88) hx hb dX12_streetFrom_83 (by decide) (fun c115 => ?_) (fun c115 => ?_)
              · have c115 : ¬ x112.toInt = f25_14__a1_toInt_toNat.toInt := wk_eqF c115
                replace hM := hM.pos c115
                exact J88 x24 H locs ls  (show 0 ≤ a1.toInt from r6) (show a1.toInt ≤ 9 from t7) (show 0 ≤ v25_2.toInt from r8) (show v25_2.toInt ≤ 11 by first | with_reducible assumption | omega) (show 1 ≤ x24.toInt by first | with_reducible assumption | omega) (show x24.toInt ≤ 12 by first | with_reducible assumption | omega) (show 1 ≤ f25_14__a1_toInt_toNat.toInt from r10) (show f25_14__a1_toInt_toNat.toInt ≤ 100000100 from t11)  hw  c25 c12 hM (lv_sub hl [0, 1, 2] rfl)
              · have c115 : x112.toInt = f25_14__a1_toInt_toNat.toInt := wk_eq.mp c115
                replace hM := hM.neg (fun q => q c115)
                refine lv_iload_n hx hb dX12_streetFrom_86 rfl (lv_at hl 2 rfl) ?_
                exact tk_iret hC hr hlocks hK ⟨rfl, hM.ret rfl, (Or.inr (Or.inl ⟨(show 0 ≤ v25_2.toInt from r8), (show v25_2.toInt ≤ 11 by first | with_reducible assumption | omega), ⟨x24, c25, (show 1 ≤ x24.toInt by first | with_reducible assumption | omega), (show x24.toInt ≤ 12 by first | with_reducible assumption | omega)⟩, c32⟩))⟩ hw dX12_streetFrom_87
        · replace hM := hM.call (r' := 1) hv37 (by decide)
          refine lv_if_eq (tgt := 88) hx hb dX12_streetFrom_41 (by decide) (fun c => absurd c (by decide)) (fun _ => ?_)
          replace hM := hM.neg (by decide)
          refine lv_aload_n hx hb dX12_streetFrom_44 rfl (lv_at hl 0 rfl) ?_
          refine lv_aload_n hx hb dX12_streetFrom_45 rfl (lv_at hl 0 rfl) ?_
          refine tk_getA hC hK hw hT hinX12 kM_at0 (by decide) rfl 28 (by decide) (List.mem_cons_of_mem _ uw_7_3) rfl rfl dX12_streetFrom_46 ?_
          refine lv_iload_n hx hb dX12_streetFrom_49 rfl (lv_at hl 2 rfl) ?_
          refine tk_iald hC hK hw hT kM_at13 rfl rfl (show 0 ≤ v25_2.toInt from r8) (show v25_2.toInt < 12 by first | with_reducible assumption | omega) dX12_streetFrom_50 (fun x116 c117 rx116 tx116 => ?_)
          have hox116 := c117
          replace hM := hM.rd (sL_at (kM_lt kM_at13) hox116)
          refine lv_iload_n hx hb dX12_streetFrom_51 rfl (lv_at hl 2 rfl) ?_
          refine lv_iload_n hx hb dX12_streetFrom_52 rfl (lv_at hl 1 rfl) ?_
          refine tk_Vi hC hK hw hT hA hE hSR kM_at0 (by decide) rfl (ky_X12_hasSign_1 l adK adV dC dI cy ad B hB0 (Int.le_trans hB1 (by decide)) qr s1   x116 v25_2 (show 0 ≤ v25_2.toInt from r8) (show v25_2.toInt ≤ 11 by first | with_reducible assumption | omega) a1 (show 0 ≤ a1.toInt from r6) (show a1.toInt ≤ 9 from t7) w0 H.size hT ) (cwV 3 hC.2.2.2.2 uV_RX12_307 rfl rfl rfl (by decide +kernel) ⟨Nat.le_of_ble_eq_true rfl, Nat.le_of_ble_eq_true rfl⟩) rfl hl.1 rfl (Nat.le_of_ble_eq_true rfl) dX12_streetFrom_53 (fun r118 w120 H locs hp119 hw => ?_)
          obtain ⟨rfl, hv129, hg128⟩ := hp119
          rcases hg128 with ⟨rfl, hq122⟩ | ⟨rfl, c123, hq124⟩ | ⟨rfl, hq125⟩ | ⟨rfl, c126, hq127⟩
          · replace hM := hM.call (r' := 0) hv129 (by decide)
            refine lv_if_eq (tgt := 88) hx hb dX12_streetFrom_56 (by decide) (fun _ => ?_) (fun c => absurd (by decide) c)
            replace hM := hM.pos (by decide)
            exact J88 x24 H locs ls  (show 0 ≤ a1.toInt from r6) (show a1.toInt ≤ 9 from t7) (show 0 ≤ v25_2.toInt from r8) (show v25_2.toInt ≤ 11 by first | with_reducible assumption | omega) (show 1 ≤ x24.toInt by first | with_reducible assumption | omega) (show x24.toInt ≤ 12 by first | with_reducible assumption | omega) (show 1 ≤ f25_14__a1_toInt_toNat.toInt from r10) (show f25_14__a1_toInt_toNat.toInt ≤ 100000100 from t11)  hw  c25 c12 hM (lv_sub hl [0, 1, 2] rfl)
          · replace hM := hM.call (r' := 0) hv129 (by decide)
            refine lv_if_eq (tgt := 88) hx hb dX12_streetFrom_56 (by decide) (fun _ => ?_) (fun c => absurd (by decide) c)
            replace hM := hM.pos (by decide)
            exact J88 x24 H locs ls  (show 0 ≤ a1.toInt from r6) (show a1.toInt ≤ 9 from t7) (show 0 ≤ v25_2.toInt from r8) (show v25_2.toInt ≤ 11 by first | with_reducible assumption | omega) (show 1 ≤ x24.toInt by first | with_reducible assumption | omega) (show x24.toInt ≤ 12 by first | with_reducible assumption | omega) (show 1 ≤ f25_14__a1_toInt_toNat.toInt from r10) (show f25_14__a1_toInt_toNat.toInt ≤ 100000100 from t11)  hw  c25 c12 hM (lv_sub hl [0, 1, 2] rfl)
          · replace hM := hM.call (r' := 1) hv129 (by decide)
            refine lv_if_eq (tgt := 88) hx hb dX12_streetFrom_56 (by decide) (fun c => absurd c (by decide)) (fun _ => ?_)
            replace hM := hM.neg (by decide)
            refine lv_aload_n hx hb dX12_streetFrom_59 rfl (lv_at hl 0 rfl) ?_
            refine lv_iload_n hx hb dX12_streetFrom_60 rfl (lv_at hl 2 rfl) ?_
            refine lv_iconst (v := 2) hx hb dX12_streetFrom_61 (by decide) ?_
            refine tk_Vi hC hK hw hT hA hE hSR kM_at0 (by decide) rfl (ky_X12_streetOf_2 l adK adV dC dI cy ad B hB0 (Int.le_trans hB1 (by decide)) qr s1   v25_2 (show 0 ≤ v25_2.toInt from r8) (show v25_2.toInt ≤ 11 by first | with_reducible assumption | omega) w0 H.size hT ) (cwV 2 hC.2.2.2.2 uV_RX12_300 rfl rfl rfl (by decide +kernel) ⟨Nat.le_of_ble_eq_true rfl, Nat.le_of_ble_eq_true rfl⟩) rfl hl.1 rfl (Nat.le_of_ble_eq_true rfl) dX12_streetFrom_62 (fun r130 w132 H locs hp131 hw => ?_)
            obtain ⟨rfl, hv138, hg137⟩ := hp131
            obtain ⟨g134, g135, c136⟩ := hg137
            replace hM := hM.call hv138 rfl
            refine lv_aload_n hx hb dX12_streetFrom_65 rfl (lv_at hl 0 rfl) ?_
            refine tk_getA hC hK hw hT hinX12 kM_at0 (by decide) rfl 29 (by decide) (List.mem_cons_of_mem _ uw_7_4) rfl rfl dX12_streetFrom_66 ?_
            refine lv_aload_n hx hb dX12_streetFrom_69 rfl (lv_at hl 0 rfl) ?_
            refine lv_iload_n hx hb dX12_streetFrom_70 rfl (lv_at hl 2 rfl) ?_
            refine lv_iload_n hx hb dX12_streetFrom_71 rfl (lv_at hl 1 rfl) ?_
            refine tk_Vi hC hK hw hT hA hE hSR kM_at0 (by decide) rfl (ky_X12_otherOf_1 l adK adV dC dI cy ad B hB0 (Int.le_trans hB1 (by decide)) qr s1   v25_2 (show 0 ≤ v25_2.toInt from r8) (show v25_2.toInt ≤ 11 by first | with_reducible assumption | omega) a1 (show 0 ≤ a1.toInt from r6) (show a1.toInt ≤ 9 from t7) w0 H.size hT ) (cwV 2 hC.2.2.2.2 uV_RX12_348 rfl rfl rfl (by decide +kernel) ⟨Nat.le_of_ble_eq_true rfl, Nat.le_of_ble_eq_true rfl⟩) rfl hl.1 rfl (Nat.le_of_ble_eq_true rfl) dX12_streetFrom_72 (fun r139 w141 H locs hp140 hw => ?_)
            obtain ⟨rfl, hv149, hg148⟩ := hp140
            rcases hg148 with ⟨g143, g144⟩ | ⟨g145, g146, c147⟩
            · replace hM := hM.call hv149 rfl
              refine tk_iald hC hK hw hT kM_at14 rfl rfl (show 0 ≤ r139.toInt by first | with_reducible assumption | omega) (show r139.toInt < 10 by first | with_reducible assumption | omega) dX12_streetFrom_75 (fun x150 c151 rx150 tx150 => ?_)
              have hox150 := c151
              replace hM := hM.rd (sL_at (kM_lt kM_at14) hox150)
              have c151 : gi w0 14 (r139.toInt).toNat = x150 := (congrArg (gi w0 14) (congrArg Int.toNat (show r139.toInt = r139.toInt from rfl))).trans c151
              refine lv_iadd hx hb dX12_streetFrom_76 ?_
              refine lv_topi (fun x152 ex152 => ?_)
              have ezx152 := ex152
              have ex152 : x152.toInt = r130.toInt + x150.toInt := by rw [ex152]; exact wk_add (show (-2147483648) ≤ r130.toInt + x150.toInt by omega) (show r130.toInt + x150.toInt ≤ 2147483647 by omega)
              replace hM := hM.lt ex152.symm
              refine lv_aload_n hx hb dX12_streetFrom_77 rfl (lv_at hl 0 rfl) ?_
              refine tk_getA hC hK hw hT hinX12 kM_at0 (by decide) rfl 29 (by decide) (List.mem_cons_of_mem _ uw_7_4) rfl rfl dX12_streetFrom_78 ?_
              refine lv_iload_n hx hb dX12_streetFrom_81 rfl (lv_at hl 1 rfl) ?_
              refine tk_iald hC hK hw hT kM_at14 rfl rfl (show 0 ≤ a1.toInt from r6) (show a1.toInt < 10 from Int.lt_of_le_of_lt t7 (by decide)) dX12_streetFrom_82 (fun x153 c154 rx153 tx153 => ?_)
              have hox153 := c154
              have c154 : gi w0 14 (a1.toInt).toNat = x153 := (congrArg (gi w0 14) (congrArg Int.toNat (show a1.toInt = a1.toInt from rfl))).trans c154
              refine wk_top f25_14__a1_toInt_toNat (c154.symm.trans c12) ?_
              replace hM := hM.rd ((sL_at (kM_lt kM_at14) hox153).trans (congrArg Int32.toInt (c154.symm.trans c12)))
              refine lv_icmp_ne (tgt := 88) hx hb dX12_streetFrom_83 (by decide) (fun c155 => ?_) (fun c155 => ?_)
              · have c155 : ¬ x152.toInt = f25_14__a1_toInt_toNat.toInt := wk_eqF c155
                replace hM := hM.pos c155
                exact J88 x24 H locs ls  (show 0 ≤ a1.toInt from r6) (show a1.toInt ≤ 9 from t7) (show 0 ≤ v25_2.toInt from r8) (show v25_2.toInt ≤ 11 by first | with_reducible assumption | omega) (show 1 ≤ x24.toInt by first | with_reducible assumption | omega) (show x24.toInt ≤ 12 by first | with_reducible assumption | omega) (show 1 ≤ f25_14__a1_toInt_toNat.toInt from r10) (show f25_14__a1_toInt_toNat.toInt ≤ 100000100 from t11)  hw  c25 c12 hM (lv_sub hl [0, 1, 2] rfl)
              · have c155 : x152.toInt = f25_14__a1_toInt_toNat.toInt := wk_eq.mp c155
                replace hM := hM.neg (fun q => q c155)
                refine lv_iload_n hx hb dX12_streetFrom_86 rfl (lv_at hl 2 rfl) ?_
                exact tk_iret hC hr hlocks hK ⟨rfl, hM.ret rfl, (Or.inr (Or.inr (Or.inl ⟨(show 0 ≤ v25_2.toInt from r8), (show v25_2.toInt ≤ 11 by first | with_reducible assumption | omega), ⟨x24, c25, (show 1 ≤ x24.toInt by first | with_reducible assumption | omega), (show x24.toInt ≤ 12 by first | with_reducible assumption | omega)⟩, c34⟩)))⟩ hw dX12_streetFrom_87
            · replace hM := hM.call hv149 rfl
              refine tk_iald hC hK hw hT kM_at14 rfl rfl (show 0 ≤ r139.toInt by first | with_reducible assumption | omega) (show r139.toInt < 10 by first | with_reducible assumption | omega) dX12_streetFrom_75 (fun x156 c157 rx156 tx156 => ?_)
              have hox156 := c157
              replace hM := hM.rd (sL_at (kM_lt kM_at14) hox156)
              have c157 : gi w0 14 (r139.toInt).toNat = x156 := (congrArg (gi w0 14) (congrArg Int.toNat (show r139.toInt = r139.toInt from rfl))).trans c157
              refine lv_iadd hx hb dX12_streetFrom_76 ?_
              refine lv_topi (fun x158 ex158 => ?_)
              have ezx158 := ex158
              have ex158 : x158.toInt = r130.toInt + x156.toInt := by rw [ex158]; exact wk_add (show (-2147483648) ≤ r130.toInt + x156.toInt by omega) (show r130.toInt + x156.toInt ≤ 2147483647 by omega)
              replace hM := hM.lt ex158.symm
              refine lv_aload_n hx hb dX12_streetFrom_77 rfl (lv_at hl 0 rfl) ?_
              refine tk_getA hC hK hw hT hinX12 kM_at0 (by decide) rfl 29 (by decide) (List.mem_cons_of_mem _ uw_7_4) rfl rfl dX12_streetFrom_78 ?_
              refine lv_iload_n hx hb dX12_streetFrom_81 rfl (lv_at hl 1 rfl) ?_
              refine tk_iald hC hK hw hT kM_at14 rfl rfl (show 0 ≤ a1.toInt from r6) (show a1.toInt < 10 from Int.lt_of_le_of_lt t7 (by decide)) dX12_streetFrom_82 (fun x159 c160 rx159 tx159 => ?_)
              have hox159 := c160
              have c160 : gi w0 14 (a1.toInt).toNat = x159 := (congrArg (gi w0 14) (congrArg Int.toNat (show a1.toInt = a1.toInt from rfl))).trans c160
              refine wk_top f25_14__a1_toInt_toNat (c160.symm.trans c12) ?_
              replace hM := hM.rd ((sL_at (kM_lt kM_at14) hox159).trans (congrArg Int32.toInt (c160.symm.trans c12)))
              refine lv_icmp_ne (tgt := 88) hx hb dX12_streetFrom_83 (by decide) (fun c161 => ?_) (fun c161 => ?_)
              · have c161 : ¬ x158.toInt = f25_14__a1_toInt_toNat.toInt := wk_eqF c161
                replace hM := hM.pos c161
                exact J88 x24 H locs ls  (show 0 ≤ a1.toInt from r6) (show a1.toInt ≤ 9 from t7) (show 0 ≤ v25_2.toInt from r8) (show v25_2.toInt ≤ 11 by first | with_reducible assumption | omega) (show 1 ≤ x24.toInt by first | with_reducible assumption | omega) (show x24.toInt ≤ 12 by first | with_reducible assumption | omega) (show 1 ≤ f25_14__a1_toInt_toNat.toInt from r10) (show f25_14__a1_toInt_toNat.toInt ≤ 100000100 from t11)  hw  c25 c12 hM (lv_sub hl [0, 1, 2] rfl)
              · have c161 : x158.toInt = f25_14__a1_toInt_toNat.toInt := wk_eq.mp c161
                replace hM := hM.neg (fun q => q c161)
                refine lv_iload_n hx hb dX12_streetFrom_86 rfl (lv_at hl 2 rfl) ?_
                exact tk_iret hC hr hlocks hK ⟨rfl, hM.ret rfl, (Or.inl ⟨(show 0 ≤ v25_2.toInt from r8), (show v25_2.toInt ≤ 11 by first | with_reducible assumption | omega), ⟨x24, c25, (show 1 ≤ x24.toInt by first | with_reducible assumption | omega), (show x24.toInt ≤ 12 by first | with_reducible assumption | omega)⟩, c147, c34⟩)⟩ hw dX12_streetFrom_87
          · replace hM := hM.call (r' := 1) hv129 (by decide)
            refine lv_if_eq (tgt := 88) hx hb dX12_streetFrom_56 (by decide) (fun c => absurd c (by decide)) (fun _ => ?_)
            replace hM := hM.neg (by decide)
            refine lv_aload_n hx hb dX12_streetFrom_59 rfl (lv_at hl 0 rfl) ?_
            refine lv_iload_n hx hb dX12_streetFrom_60 rfl (lv_at hl 2 rfl) ?_
            refine lv_iconst (v := 2) hx hb dX12_streetFrom_61 (by decide) ?_
            refine tk_Vi hC hK hw hT hA hE hSR kM_at0 (by decide) rfl (ky_X12_streetOf_2 l adK adV dC dI cy ad B hB0 (Int.le_trans hB1 (by decide)) qr s1   v25_2 (show 0 ≤ v25_2.toInt from r8) (show v25_2.toInt ≤ 11 by first | with_reducible assumption | omega) w0 H.size hT ) (cwV 2 hC.2.2.2.2 uV_RX12_300 rfl rfl rfl (by decide +kernel) ⟨Nat.le_of_ble_eq_true rfl, Nat.le_of_ble_eq_true rfl⟩) rfl hl.1 rfl (Nat.le_of_ble_eq_true rfl) dX12_streetFrom_62 (fun r162 w164 H locs hp163 hw => ?_)
            obtain ⟨rfl, hv170, hg169⟩ := hp163
            obtain ⟨g166, g167, c168⟩ := hg169
            replace hM := hM.call hv170 rfl
            refine lv_aload_n hx hb dX12_streetFrom_65 rfl (lv_at hl 0 rfl) ?_
            refine tk_getA hC hK hw hT hinX12 kM_at0 (by decide) rfl 29 (by decide) (List.mem_cons_of_mem _ uw_7_4) rfl rfl dX12_streetFrom_66 ?_
            refine lv_aload_n hx hb dX12_streetFrom_69 rfl (lv_at hl 0 rfl) ?_
            refine lv_iload_n hx hb dX12_streetFrom_70 rfl (lv_at hl 2 rfl) ?_
            refine lv_iload_n hx hb dX12_streetFrom_71 rfl (lv_at hl 1 rfl) ?_
            refine tk_Vi hC hK hw hT hA hE hSR kM_at0 (by decide) rfl (ky_X12_otherOf_1 l adK adV dC dI cy ad B hB0 (Int.le_trans hB1 (by decide)) qr s1   v25_2 (show 0 ≤ v25_2.toInt from r8) (show v25_2.toInt ≤ 11 by first | with_reducible assumption | omega) a1 (show 0 ≤ a1.toInt from r6) (show a1.toInt ≤ 9 from t7) w0 H.size hT ) (cwV 2 hC.2.2.2.2 uV_RX12_348 rfl rfl rfl (by decide +kernel) ⟨Nat.le_of_ble_eq_true rfl, Nat.le_of_ble_eq_true rfl⟩) rfl hl.1 rfl (Nat.le_of_ble_eq_true rfl) dX12_streetFrom_72 (fun r171 w173 H locs hp172 hw => ?_)
            obtain ⟨rfl, hv181, hg180⟩ := hp172
            rcases hg180 with ⟨g175, g176⟩ | ⟨g177, g178, c179⟩
            · replace hM := hM.call hv181 rfl
              refine tk_iald hC hK hw hT kM_at14 rfl rfl (show 0 ≤ r171.toInt by first | with_reducible assumption | omega) (show r171.toInt < 10 by first | with_reducible assumption | omega) dX12_streetFrom_75 (fun x182 c183 rx182 tx182 => ?_)
              have hox182 := c183
              replace hM := hM.rd (sL_at (kM_lt kM_at14) hox182)
              have c183 : gi w0 14 (r171.toInt).toNat = x182 := (congrArg (gi w0 14) (congrArg Int.toNat (show r171.toInt = r171.toInt from rfl))).trans c183
              refine lv_iadd hx hb dX12_streetFrom_76 ?_
              refine lv_topi (fun x184 ex184 => ?_)
              have ezx184 := ex184
              have ex184 : x184.toInt = r162.toInt + x182.toInt := by rw [ex184]; exact wk_add (show (-2147483648) ≤ r162.toInt + x182.toInt by omega) (show r162.toInt + x182.toInt ≤ 2147483647 by omega)
              replace hM := hM.lt ex184.symm
              refine lv_aload_n hx hb dX12_streetFrom_77 rfl (lv_at hl 0 rfl) ?_
              refine tk_getA hC hK hw hT hinX12 kM_at0 (by decide) rfl 29 (by decide) (List.mem_cons_of_mem _ uw_7_4) rfl rfl dX12_streetFrom_78 ?_
              refine lv_iload_n hx hb dX12_streetFrom_81 rfl (lv_at hl 1 rfl) ?_
              refine tk_iald hC hK hw hT kM_at14 rfl rfl (show 0 ≤ a1.toInt from r6) (show a1.toInt < 10 from Int.lt_of_le_of_lt t7 (by decide)) dX12_streetFrom_82 (fun x185 c186 rx185 tx185 => ?_)
              have hox185 := c186
              have c186 : gi w0 14 (a1.toInt).toNat = x185 := (congrArg (gi w0 14) (congrArg Int.toNat (show a1.toInt = a1.toInt from rfl))).trans c186
              refine wk_top f25_14__a1_toInt_toNat (c186.symm.trans c12) ?_
              replace hM := hM.rd ((sL_at (kM_lt kM_at14) hox185).trans (congrArg Int32.toInt (c186.symm.trans c12)))
              refine lv_icmp_ne (tgt := 88) hx hb dX12_streetFrom_83 (by decide) (fun c187 => ?_) (fun c187 => ?_)
              · have c187 : ¬ x184.toInt = f25_14__a1_toInt_toNat.toInt := wk_eqF c187
                replace hM := hM.pos c187
                exact J88 x24 H locs ls  (show 0 ≤ a1.toInt from r6) (show a1.toInt ≤ 9 from t7) (show 0 ≤ v25_2.toInt from r8) (show v25_2.toInt ≤ 11 by first | with_reducible assumption | omega) (show 1 ≤ x24.toInt by first | with_reducible assumption | omega) (show x24.toInt ≤ 12 by first | with_reducible assumption | omega) (show 1 ≤ f25_14__a1_toInt_toNat.toInt from r10) (show f25_14__a1_toInt_toNat.toInt ≤ 100000100 from t11)  hw  c25 c12 hM (lv_sub hl [0, 1, 2] rfl)
              · have c187 : x184.toInt = f25_14__a1_toInt_toNat.toInt := wk_eq.mp c187
                replace hM := hM.neg (fun q => q c187)
                refine lv_iload_n hx hb dX12_streetFrom_86 rfl (lv_at hl 2 rfl) ?_
                exact tk_iret hC hr hlocks hK ⟨rfl, hM.ret rfl, (Or.inl ⟨(show 0 ≤ v25_2.toInt from r8), (show v25_2.toInt ≤ 11 by first | with_reducible assumption | omega), ⟨x24, c25, (show 1 ≤ x24.toInt by first | with_reducible assumption | omega), (show x24.toInt ≤ 12 by first | with_reducible assumption | omega)⟩, c126, c34⟩)⟩ hw dX12_streetFrom_87
            · replace hM := hM.call hv181 rfl
              refine tk_iald hC hK hw hT kM_at14 rfl rfl (show 0 ≤ r171.toInt by first | with_reducible assumption | omega) (show r171.toInt < 10 by first | with_reducible assumption | omega) dX12_streetFrom_75 (fun x188 c189 rx188 tx188 => ?_)
              have hox188 := c189
              replace hM := hM.rd (sL_at (kM_lt kM_at14) hox188)
              have c189 : gi w0 14 (r171.toInt).toNat = x188 := (congrArg (gi w0 14) (congrArg Int.toNat (show r171.toInt = r171.toInt from rfl))).trans c189
              refine lv_iadd hx hb dX12_streetFrom_76 ?_
              refine lv_topi (fun x190 ex190 => ?_)
              have ezx190 := ex190
              have ex190 : x190.toInt = r162.toInt + x188.toInt := by rw [ex190]; exact wk_add (show (-2147483648) ≤ r162.toInt + x188.toInt by omega) (show r162.toInt + x188.toInt ≤ 2147483647 by omega)
              replace hM := hM.lt ex190.symm
              refine lv_aload_n hx hb dX12_streetFrom_77 rfl (lv_at hl 0 rfl) ?_
              refine tk_getA hC hK hw hT hinX12 kM_at0 (by decide) rfl 29 (by decide) (List.mem_cons_of_mem _ uw_7_4) rfl rfl dX12_streetFrom_78 ?_
              refine lv_iload_n hx hb dX12_streetFrom_81 rfl (lv_at hl 1 rfl) ?_
              refine tk_iald hC hK hw hT kM_at14 rfl rfl (show 0 ≤ a1.toInt from r6) (show a1.toInt < 10 from Int.lt_of_le_of_lt t7 (by decide)) dX12_streetFrom_82 (fun x191 c192 rx191 tx191 => ?_)
              have hox191 := c192
              have c192 : gi w0 14 (a1.toInt).toNat = x191 := (congrArg (gi w0 14) (congrArg Int.toNat (show a1.toInt = a1.toInt from rfl))).trans c192
              refine wk_top f25_14__a1_toInt_toNat (c192.symm.trans c12) ?_
              replace hM := hM.rd ((sL_at (kM_lt kM_at14) hox191).trans (congrArg Int32.toInt (c192.symm.trans c12)))
              refine lv_icmp_ne (tgt := 88) hx hb dX12_streetFrom_83 (by decide) (fun c193 => ?_) (fun c193 => ?_)
              · have c193 : ¬ x190.toInt = f25_14__a1_toInt_toNat.toInt := wk_eqF c193
                replace hM := hM.pos c193
                exact J88 x24 H locs ls  (show 0 ≤ a1.toInt from r6) (show a1.toInt ≤ 9 from t7) (show 0 ≤ v25_2.toInt from r8) (show v25_2.toInt ≤ 11 by first | with_reducible assumption | omega) (show 1 ≤ x24.toInt by first | with_reducible assumption | omega) (show x24.toInt ≤ 12 by first | with_reducible assumption | omega) (show 1 ≤ f25_14__a1_toInt_toNat.toInt from r10) (show f25_14__a1_toInt_toNat.toInt ≤ 100000100 from t11)  hw  c25 c12 hM (lv_sub hl [0, 1, 2] rfl)
              · have c193 : x190.toInt = f25_14__a1_toInt_toNat.toInt := wk_eq.mp c193
                replace hM := hM.neg (fun q => q c193)
                refine lv_iload_n hx hb dX12_streetFrom_86 rfl (lv_at hl 2 rfl) ?_
                exact tk_iret hC hr hlocks hK ⟨rfl, hM.ret rfl, (Or.inl ⟨(show 0 ≤ v25_2.toInt from r8), (show v25_2.toInt ≤ 11 by first | with_reducible assumption | omega), ⟨x24, c25, (show 1 ≤ x24.toInt by first | with_reducible assumption | omega), (show x24.toInt ≤ 12 by first | with_reducible assumption | omega)⟩, c126, c34⟩)⟩ hw dX12_streetFrom_87
  have hM : TT (fun n => m_X12_streetFrom n 0 a1.toInt (sL w0)) (fun n => m_X12_streetFrom n 0 a1.toInt (sL w0)) := TT.rf
  refine lv_aload_n hx hb dX12_streetFrom_0 rfl (lv_at hl 0 rfl) ?_
  refine tk_getA hC hK hw hT hinX12 kM_at0 (by decide) rfl 29 (by decide) (List.mem_cons_of_mem _ uw_7_4) rfl rfl dX12_streetFrom_1 ?_
  refine lv_iload_n hx hb dX12_streetFrom_4 rfl (lv_at hl 1 rfl) ?_
  refine tk_iald hC hK hw hT kM_at14 rfl rfl (show 0 ≤ a1.toInt from ra1) (show a1.toInt < 10 from Int.lt_of_le_of_lt ta1 (by decide)) dX12_streetFrom_5 (fun x194 c195 rx194 tx194 => ?_)
  have hox194 := c195
  replace hM := hM.rd (sL_at (kM_lt kM_at14) hox194)
  have c195 : gi w0 14 (a1.toInt).toNat = x194 := (congrArg (gi w0 14) (congrArg Int.toNat (show a1.toInt = a1.toInt from rfl))).trans c195
  refine lv_if_eq (tgt := 21) hx hb dX12_streetFrom_6 (by decide) (fun c196 => ?_) (fun c196 => ?_)
  · have c196 : x194.toInt = (0 : Int) := wk_eq.mp c196
    replace hM := hM.pos c196
    exact J21 x194 s.heap locs ls  (show 0 ≤ a1.toInt from ra1) (show a1.toInt ≤ 9 from ta1) (show 0 ≤ x194.toInt from rx194) (show x194.toInt ≤ 100000000 by first | with_reducible assumption | omega)  hw  c195 hM (lv_sub hl [0, 1] rfl)
  · have c196 : ¬ x194.toInt = (0 : Int) := wk_eqF c196
    replace hM := hM.neg c196
    refine lv_aload_n hx hb dX12_streetFrom_9 rfl (lv_at hl 0 rfl) ?_
    refine tk_getA hC hK hw hT hinX12 kM_at0 (by decide) rfl 29 (by decide) (List.mem_cons_of_mem _ uw_7_4) rfl rfl dX12_streetFrom_10 ?_
    refine lv_iload_n hx hb dX12_streetFrom_13 rfl (lv_at hl 1 rfl) ?_
    refine tk_iald hC hK hw hT kM_at14 rfl rfl (show 0 ≤ a1.toInt from ra1) (show a1.toInt < 10 from Int.lt_of_le_of_lt ta1 (by decide)) dX12_streetFrom_14 (fun x197 c198 rx197 tx197 => ?_)
    have hox197 := c198
    have c198 : gi w0 14 (a1.toInt).toNat = x197 := (congrArg (gi w0 14) (congrArg Int.toNat (show a1.toInt = a1.toInt from rfl))).trans c198
    refine wk_top x194 (c198.symm.trans c195) ?_
    replace hM := hM.rd ((sL_at (kM_lt kM_at14) hox197).trans (congrArg Int32.toInt (c198.symm.trans c195)))
    refine lv_ldcw (v := 100000000) hx hb hC.2.2.2.1 (hC.2.2.2.2 _ (List.mem_cons_of_mem _ uw_38_2)) dX12_streetFrom_15 ?_
    refine lv_icmp_ne (tgt := 23) hx hb dX12_streetFrom_18 (by decide) (fun c199 => ?_) (fun c199 => ?_)
    · have c199 : ¬ x194.toInt = (100000000 : Int) := wk_eqF c199
      replace hM := hM.pos c199
      refine lv_iconst (v := 0) hx hb dX12_streetFrom_23 (by decide) ?_
      refine lv_istore_n (lv' := [(2, .int 0), (0, .ref (ad 0)), (1, .int a1)]) hx hb dX12_streetFrom_24 rfl hl (by decide) rfl (fun ls hl => ?_)
      exact L25 ((12 - (0 : Int)).toNat + 1) 0 x194 s.heap locs ls  (show 0 ≤ a1.toInt from ra1) (show a1.toInt ≤ 9 from ta1) (by decide) (by decide) (show 1 ≤ x194.toInt by first | with_reducible assumption | omega) (show x194.toInt ≤ 100000100 from tx194) (Nat.lt_succ_self _) hw  c195 hM (lv_sub hl [1, 2, 0] rfl)
    · have c199 : x194.toInt = (100000000 : Int) := wk_eq.mp c199
      replace hM := hM.neg (fun q => q c199)
      exact J21 x194 s.heap locs ls  (show 0 ≤ a1.toInt from ra1) (show a1.toInt ≤ 9 from ta1) (show 0 ≤ x194.toInt from rx194) (show x194.toInt ≤ 100000000 by first | with_reducible assumption | omega)  hw  c195 hM (lv_sub hl [0, 1] rfl)
abbrev Py_X12_walkerOf_4 (ad : Nat → Nat) (cy : Nat → ClassId) (B : Int) (qr : Nat) (s1 : Int)  (w0 : va_W) : Int32 → va_W → Prop := fun r u => w0 = u ∧ Ev (fun n => m_X12_walkerOf n 0 0 2 (sL w0)) (r.toInt, sL w0) ∧ ((0 ≤ r.toInt ∧ r.toInt ≤ 3 ∧ gi u 12 218 = r))
set_option maxHeartbeats 4000000 in
set_option maxRecDepth 100000 in
theorem ky_X12_walkerOf_4 (l : Launch) (adK adV : Nat → Nat) (dC : Nat → ClassId) (dI : Nat → Nat → Nat) (cy : Nat → ClassId) (ad : Nat → Nat) (B : Int) (hB0 : 100000 ≤ B) (hB1 : B ≤ 1073741824) (qr : Nat) (s1 : Int)   (w0 : va_W) (sz : Nat) (hT : TW ksM ad cy B qr 12 w0)  : Met l yX12_walkerOf (wu yX12_walkerOf cX12_walkerOf 3 (some .int)) ({ frames := 1, cells := 0, slots := 0, locals := 12 }) (va_Pc [.ref (ad 0), .int 0, .int 2] (wpreS adK adV dC dI cy sz w0)) (va_Qi (Py_X12_walkerOf_4 ad cy B qr s1  w0) (fun u : va_W => wpost dC dI cy (va_A w0 sz) u) (va_A w0 sz)) 0 0 (va_A w0 sz) := by
  refine Met.ofW (cc := cX12_walkerOf) (maxL := 3) (ret := (some .int)) (by decide) rfl ?_
  intro p e s m args below meth c s₁ Bk hml hv
  obtain ⟨rfl, ⟨hsz, hP, hK, hD0⟩, hE, hSR⟩ := hv
  have hx := Bk.exec
  have hb := Bk.bytes
  have hr := Bk.returns
  have hlocks := Bk.notSynchronized
  have hC : CallFix p m c cX12_walkerOf 3 s _ (wu yX12_walkerOf cX12_walkerOf 3 (some .int)) RX12 := ⟨hx, hb, hml, findClass_of_methodNamed Bk.named, atoms_spec (ws := (wu yX12_walkerOf cX12_walkerOf 3 (some .int))) Bk.pre⟩
  subst hsz
  have hD := hD0.self (sz := s.heap.size)
  generalize hAe : va_A w0 s.heap.size = A at hD hE ⊢
  have hA : ∀ q : Nat, s.heap.size ≤ q → A q := fun q h => by rw [← hAe]; exact Or.inr h
  have hw : Wd dC dI A s.heap s.heap [] w0 := ⟨hP, hD, va_S.rf⟩
  have hF : FE ksM ([] : List (Nat × Nat × Nat)) w0 w0 := FE.rf
  have hl := lv_entry ([.ref (ad 0), .int 0, .int 2]) (n := 3) (Nat.le_of_ble_eq_true rfl)
  rw [lg_entry_eq]
  generalize (lg_sl ([.ref (ad 0), .int 0, .int 2]) ++ List.replicate (3 - (lg_sl ([.ref (ad 0), .int 0, .int 2])).length) Slot.unset).toArray = ls at hl ⊢
  have hl : lv_has ls 3 [(0, .ref (ad 0)), (1, .int 0), (2, .int 2)] := hl
  generalize hloc : ([] : List Loc) = locs at hw ⊢
  have hinX12 : ∀ w ∈ u_ws RX12 TX12 42, w ∈ (wu yX12_walkerOf cX12_walkerOf 3 (some .int)) := fun _ h => List.mem_cons_of_mem _ (up_71 h)
  have hM : TT (fun n => m_X12_walkerOf n 0 0 2 (sL w0)) (fun n => m_X12_walkerOf n 0 0 2 (sL w0)) := TT.rf
  refine lv_aload_n hx hb dX12_walkerOf_0 rfl (lv_at hl 0 rfl) ?_
  refine tk_getA hC hK hw hT hinX12 kM_at0 (by decide) rfl 26 (by decide) (List.mem_cons_of_mem _ uw_7_1) rfl rfl dX12_walkerOf_1 ?_
  refine lv_sipush (v := 216) hx hb dX12_walkerOf_4 (by decide) ?_
  refine lv_bipush (v := 9) hx hb dX12_walkerOf_7 (by decide) ?_
  refine lv_iload_n hx hb dX12_walkerOf_9 rfl (lv_at hl 1 rfl) ?_
  refine lv_imul hx hb dX12_walkerOf_10 ?_
  refine wk_top 0 (by decide) ?_
  replace hM := hM.lt (v := 0) (by decide)
  refine lv_iadd hx hb dX12_walkerOf_11 ?_
  refine wk_top 216 (by decide) ?_
  replace hM := hM.lt (v := 216) (by decide)
  refine lv_iload_n hx hb dX12_walkerOf_12 rfl (lv_at hl 2 rfl) ?_
  refine lv_iadd hx hb dX12_walkerOf_13 ?_
  refine wk_top 218 (by decide) ?_
  replace hM := hM.lt (v := 218) (by decide)
  refine tk_ialdR hC hK hw hT kM_at12 rfl (by decide) (by decide) dX12_walkerOf_14 (fun x1 c2 Ex1 => ?_)
  have hox1 := c2
  replace hM := hM.rd (sL_at (kM_lt kM_at12) hox1)
  have bx1 := tk_rgI rfl 218 1 1 0 3 (by decide +kernel) ⟨0, by decide, by decide⟩ Ex1
  have c2 : gi w0 12 218 = x1 := c2
  exact tk_iret hC hr hlocks hK ⟨rfl, hM.ret rfl, ⟨(show 0 ≤ x1.toInt by first | with_reducible assumption | omega), (show x1.toInt ≤ 3 by first | with_reducible assumption | omega), c2⟩⟩ hw dX12_walkerOf_15
abbrev Py_X12_takesMap_1 (ad : Nat → Nat) (cy : Nat → ClassId) (B : Int) (qr : Nat) (s1 : Int) (a1 : Int32) (w0 : va_W) : va_W → Prop := fun u => TW ksM ad cy B qr 12 u ∧ FE ksM [(72, 0, 12)] w0 u ∧ Ev (fun n => m_X12_takesMap n 0 a1.toInt (sL w0)) (0, sL u) ∧ ((True))
set_option maxHeartbeats 4000000 in
set_option maxRecDepth 100000 in
theorem ky_X12_takesMap_1 (l : Launch) (adK adV : Nat → Nat) (dC : Nat → ClassId) (dI : Nat → Nat → Nat) (cy : Nat → ClassId) (ad : Nat → Nat) (B : Int) (hB0 : 100000 ≤ B) (hB1 : B ≤ 1073741824) (qr : Nat) (s1 : Int)  (a1 : Int32) (ra1 : 0 ≤ a1.toInt) (ta1 : a1.toInt ≤ 3) (w0 : va_W) (sz : Nat) (hT : TW ksM ad cy B qr 12 w0)  : Met l yX12_takesMap (wu yX12_takesMap cX12_takesMap 3 none) ({ frames := 1, cells := 0, slots := 0, locals := 12 }) (va_Pc [.ref (ad 0), .int a1] (wpreS adK adV dC dI cy sz w0)) (va_Qv (Py_X12_takesMap_1 ad cy B qr s1 a1 w0) (fun u : va_W => wpost dC dI cy (va_A w0 sz) u) (va_A w0 sz)) 0 0 (va_A w0 sz) := by
  refine Met.ofW (cc := cX12_takesMap) (maxL := 3) (ret := none) (by decide) rfl ?_
  intro p e s m args below meth c s₁ Bk hml hv
  obtain ⟨rfl, ⟨hsz, hP, hK, hD0⟩, hE, hSR⟩ := hv
  have hx := Bk.exec
  have hb := Bk.bytes
  have hr := Bk.returns
  have hlocks := Bk.notSynchronized
  have hC : CallFix p m c cX12_takesMap 3 s _ (wu yX12_takesMap cX12_takesMap 3 none) RX12 := ⟨hx, hb, hml, findClass_of_methodNamed Bk.named, atoms_spec (ws := (wu yX12_takesMap cX12_takesMap 3 none)) Bk.pre⟩
  subst hsz
  have hD := hD0.self (sz := s.heap.size)
  generalize hAe : va_A w0 s.heap.size = A at hD hE ⊢
  have hA : ∀ q : Nat, s.heap.size ≤ q → A q := fun q h => by rw [← hAe]; exact Or.inr h
  have hw : Wd dC dI A s.heap s.heap [] w0 := ⟨hP, hD, va_S.rf⟩
  have hF : FE ksM [(72, 0, 12)] w0 w0 := FE.rf
  have hl := lv_entry ([.ref (ad 0), .int a1]) (n := 3) (Nat.le_of_ble_eq_true rfl)
  rw [lg_entry_eq]
  generalize (lg_sl ([.ref (ad 0), .int a1]) ++ List.replicate (3 - (lg_sl ([.ref (ad 0), .int a1])).length) Slot.unset).toArray = ls at hl ⊢
  have hl : lv_has ls 3 [(0, .ref (ad 0)), (1, .int a1)] := hl
  generalize hloc : ([] : List Loc) = locs at hw ⊢
  have hinX12 : ∀ w ∈ u_ws RX12 TX12 42, w ∈ (wu yX12_takesMap cX12_takesMap 3 none) := fun _ h => List.mem_cons_of_mem _ (up_71 h)
  have L2 : ∀ (n2 : Nat) (v2_2 : Int32) (H : Heap) (locs : List Loc) (ls : Array Slot) (w1 : va_W), 0 ≤ a1.toInt → a1.toInt ≤ 3 → 0 ≤ v2_2.toInt → v2_2.toInt ≤ 12 → (12 - v2_2.toInt).toNat < n2 → Wd dC dI A s.heap H locs w1 → TW ksM ad cy B qr 12 w1 → FE ksM [(72, 0, 12)] w0 w1 → TT (fun n => m_X12_takesMap n 0 a1.toInt (sL w0)) (fun n => j_X12_takesMap 0 n 2 [a1.toInt, v2_2.toInt] (sL w1)) → lv_has ls 3 [(0, .ref (ad 0)), (1, .int a1), (2, .int v2_2)] → W p l e ({ frames := 1, cells := 0, slots := 0, locals := 12 }) s m (List.toArray [.ref (ad 0), .int a1]) below meth c H locs 0 0 (MQ below (va_Qv (Py_X12_takesMap_1 ad cy B qr s1 a1 w0) (fun u : va_W => wpost dC dI cy A u) A) (List.toArray [.ref (ad 0), .int a1]) s 0 0 A) (F0 m 2 ls []) := by
    intro n2
    induction n2 with
    | zero => intro v2_2 H locs ls w1 r2 t3 r4 t5 hm2 hw hT hF hM hl; omega
    | succ n2 ih2 =>
      intro v2_2 H locs ls w1 r2 t3 r4 t5 hm2 hw hT hF hM hl
      replace hM := hM.suc (fun _ => e_X12_takesMap_2)
      refine lv_iload_n hx hb dX12_takesMap_2 rfl (lv_at hl 2 rfl) ?_
      refine lv_aload_n hx hb dX12_takesMap_3 rfl (lv_at hl 0 rfl) ?_
      refine tk_getA hC hK hw hT hinX12 kM_at0 (by decide) rfl 26 (by decide) (List.mem_cons_of_mem _ uw_7_1) rfl rfl dX12_takesMap_4 ?_
      refine lv_iconst (v := 1) hx hb dX12_takesMap_7 (by decide) ?_
      refine tk_ialdR hC hK hw hT kM_at12 rfl (by decide) (by decide) dX12_takesMap_8 (fun x6 c7 Ex6 => ?_)
      have hox6 := c7
      replace hM := hM.rd (sL_at (kM_lt kM_at12) hox6)
      have bx6 : 0 ≤ x6.toInt ∧ x6.toInt ≤ 12 := (tk_rg1 rfl).mp Ex6
      have c7 : gi w1 12 1 = x6 := c7
      refine lv_icmp_ge (tgt := 39) hx hb dX12_takesMap_9 (by decide) (fun c8 => ?_) (fun c8 => ?_)
      · have c8 : x6.toInt ≤ v2_2.toInt := wk_le.mp c8
        replace hM := hM.pos c8
        exact tk_vret hC hr hlocks hK ⟨hT, hF, hM.ret rfl, trivial⟩ hw dX12_takesMap_39
      · have c8 : v2_2.toInt < x6.toInt := wk_leF c8
        replace hM := hM.neg (Int.not_le.mpr c8)
        refine lv_aload_n hx hb dX12_takesMap_12 rfl (lv_at hl 0 rfl) ?_
        refine tk_getA hC hK hw hT hinX12 kM_at0 (by decide) rfl 28 (by decide) (List.mem_cons_of_mem _ uw_7_3) rfl rfl dX12_takesMap_13 ?_
        refine lv_iload_n hx hb dX12_takesMap_16 rfl (lv_at hl 2 rfl) ?_
        refine lv_aload_n hx hb dX12_takesMap_17 rfl (lv_at hl 0 rfl) ?_
        refine tk_getA hC hK hw hT hinX12 kM_at0 (by decide) rfl 26 (by decide) (List.mem_cons_of_mem _ uw_7_1) rfl rfl dX12_takesMap_18 ?_
        refine lv_sipush (v := 168) hx hb dX12_takesMap_21 (by decide) ?_
        refine lv_bipush (v := 12) hx hb dX12_takesMap_24 (by decide) ?_
        refine lv_iload_n hx hb dX12_takesMap_26 rfl (lv_at hl 1 rfl) ?_
        refine lv_imul hx hb dX12_takesMap_27 ?_
        refine lv_topi (fun x9 ex9 => ?_)
        have ezx9 := ex9
        have ex9 : x9.toInt = (12 : Int) * a1.toInt := by rw [ex9]; exact wk_mul (show (-2147483648) ≤ (12 : Int) * a1.toInt by omega) (show (12 : Int) * a1.toInt ≤ 2147483647 by omega)
        replace hM := hM.lt ex9.symm
        refine lv_iadd hx hb dX12_takesMap_28 ?_
        refine lv_topi (fun x10 ex10 => ?_)
        have ezx10 := ex10
        have ex10 : x10.toInt = (168 : Int) + x9.toInt := by rw [ex10]; exact wk_add (show (-2147483648) ≤ (168 : Int) + x9.toInt by omega) (show (168 : Int) + x9.toInt ≤ 2147483647 by omega)
        replace hM := hM.lt ex10.symm
        refine lv_iload_n hx hb dX12_takesMap_29 rfl (lv_at hl 2 rfl) ?_
        refine lv_iadd hx hb dX12_takesMap_30 ?_
        refine lv_topi (fun x11 ex11 => ?_)
        have ezx11 := ex11
        have ex11 : x11.toInt = x10.toInt + v2_2.toInt := by rw [ex11]; exact wk_add (show (-2147483648) ≤ x10.toInt + v2_2.toInt by omega) (show x10.toInt + v2_2.toInt ≤ 2147483647 by omega)
        replace hM := hM.lt ex11.symm
        refine tk_ialdR hC hK hw hT kM_at12 rfl (show 0 ≤ x11.toInt by first | with_reducible assumption | omega) (show x11.toInt < 296 by first | with_reducible assumption | omega) dX12_takesMap_31 (fun x12 c13 Ex12 => ?_)
        have hox12 := c13
        have c13 : gi w1 12 (12 * a1.toInt + 1 * v2_2.toInt + 168).toNat = x12 := (congrArg (gi w1 12) (congrArg Int.toNat (show 12 * a1.toInt + 1 * v2_2.toInt + 168 = x11.toInt by first | exact Int.le_antisymm (by omega) (by omega) | omega))).trans c13
        replace hM := hM.rd (sL_at (kM_lt kM_at12) hox12)
        have hTq := hT
        refine tk_iast hC hK hw hT kM_at13 (by decide) rfl rfl (show 0 ≤ v2_2.toInt from r4) (show v2_2.toInt < 12 by first | with_reducible assumption | omega) (wk_i32 x12).1 (wk_i32 x12).2 dX12_takesMap_32 (fun H locs w14 hw hT k16 c15 => ?_)
        replace hM := hM.wr (sL_upa hTq hT kM_at13 (kM_lt kM_at13) rfl (by decide) k16 c15 rfl)
        have hF := hF.put kM_at13 (inE_of (a := 0) (b := 12) (by decide) (show 0 ≤ v2_2.toInt.toNat by omega) (show v2_2.toInt.toNat ≤ 12 by omega)) k16
        have c17 := k16.gi (Or.inl (tk_ne kM_at12 kM_at13 (by decide))) c7
        have c18 := k16.gi (Or.inl (tk_ne kM_at12 kM_at13 (by decide))) c13
        obtain ⟨x19, ex19⟩ : ∃ y : Int32, y = v2_2 + Int32.ofInt 1 := ⟨_, rfl⟩
        have erx19 := ex19
        refine lv_iinc (v := x19) (lv' := [(2, .int x19), (0, .ref (ad 0)), (1, .int a1)]) hx hb dX12_takesMap_33 hl (k := 2) rfl ex19.symm (by decide) rfl (fun ls hl => ?_)
        have ex19 : x19.toInt = v2_2.toInt + 1 := by rw [ex19]; exact wk_add (y := 1) (show -2147483648 ≤ v2_2.toInt + 1 by omega) (show v2_2.toInt + 1 ≤ 2147483647 by omega)
        replace hM := hM.lt ex19.symm
        refine lv_goto (tgt := 2) hx hb dX12_takesMap_36 (by decide) ?_
        exact ih2 x19 H locs ls w14 (show 0 ≤ a1.toInt from r2) (show a1.toInt ≤ 3 from t3) (show 0 ≤ x19.toInt by first | with_reducible assumption | omega) (show x19.toInt ≤ 12 by first | with_reducible assumption | omega) (show (12 - x19.toInt).toNat < n2 by first | exact tn_lt hm2 (by omega) (by omega) | omega) hw hT hF hM (lv_sub hl [1, 2, 0] rfl)
  have hM : TT (fun n => m_X12_takesMap n 0 a1.toInt (sL w0)) (fun n => m_X12_takesMap n 0 a1.toInt (sL w0)) := TT.rf
  refine lv_iconst (v := 0) hx hb dX12_takesMap_0 (by decide) ?_
  refine lv_istore_n (lv' := [(2, .int 0), (0, .ref (ad 0)), (1, .int a1)]) hx hb dX12_takesMap_1 rfl hl (by decide) rfl (fun ls hl => ?_)
  exact L2 ((12 - (0 : Int)).toNat + 1) 0 s.heap locs ls w0 (show 0 ≤ a1.toInt from ra1) (show a1.toInt ≤ 3 from ta1) (by decide) (by decide) (Nat.lt_succ_self _) hw hT hF hM (lv_sub hl [1, 2, 0] rfl)
abbrev Py_X12_walkerOf_5 (ad : Nat → Nat) (cy : Nat → ClassId) (B : Int) (qr : Nat) (s1 : Int)  (w0 : va_W) : Int32 → va_W → Prop := fun r u => w0 = u ∧ Ev (fun n => m_X12_walkerOf n 0 0 8 (sL w0)) (r.toInt, sL w0) ∧ ((gi u 12 224 = r))
set_option maxHeartbeats 4000000 in
set_option maxRecDepth 100000 in
theorem ky_X12_walkerOf_5 (l : Launch) (adK adV : Nat → Nat) (dC : Nat → ClassId) (dI : Nat → Nat → Nat) (cy : Nat → ClassId) (ad : Nat → Nat) (B : Int) (hB0 : 100000 ≤ B) (hB1 : B ≤ 1073741824) (qr : Nat) (s1 : Int)   (w0 : va_W) (sz : Nat) (hT : TW ksM ad cy B qr 12 w0)  : Met l yX12_walkerOf (wu yX12_walkerOf cX12_walkerOf 3 (some .int)) ({ frames := 1, cells := 0, slots := 0, locals := 12 }) (va_Pc [.ref (ad 0), .int 0, .int 8] (wpreS adK adV dC dI cy sz w0)) (va_Qi (Py_X12_walkerOf_5 ad cy B qr s1  w0) (fun u : va_W => wpost dC dI cy (va_A w0 sz) u) (va_A w0 sz)) 0 0 (va_A w0 sz) := by
  refine Met.ofW (cc := cX12_walkerOf) (maxL := 3) (ret := (some .int)) (by decide) rfl ?_
  intro p e s m args below meth c s₁ Bk hml hv
  obtain ⟨rfl, ⟨hsz, hP, hK, hD0⟩, hE, hSR⟩ := hv
  have hx := Bk.exec
  have hb := Bk.bytes
  have hr := Bk.returns
  have hlocks := Bk.notSynchronized
  have hC : CallFix p m c cX12_walkerOf 3 s _ (wu yX12_walkerOf cX12_walkerOf 3 (some .int)) RX12 := ⟨hx, hb, hml, findClass_of_methodNamed Bk.named, atoms_spec (ws := (wu yX12_walkerOf cX12_walkerOf 3 (some .int))) Bk.pre⟩
  subst hsz
  have hD := hD0.self (sz := s.heap.size)
  generalize hAe : va_A w0 s.heap.size = A at hD hE ⊢
  have hA : ∀ q : Nat, s.heap.size ≤ q → A q := fun q h => by rw [← hAe]; exact Or.inr h
  have hw : Wd dC dI A s.heap s.heap [] w0 := ⟨hP, hD, va_S.rf⟩
  have hF : FE ksM ([] : List (Nat × Nat × Nat)) w0 w0 := FE.rf
  have hl := lv_entry ([.ref (ad 0), .int 0, .int 8]) (n := 3) (Nat.le_of_ble_eq_true rfl)
  rw [lg_entry_eq]
  generalize (lg_sl ([.ref (ad 0), .int 0, .int 8]) ++ List.replicate (3 - (lg_sl ([.ref (ad 0), .int 0, .int 8])).length) Slot.unset).toArray = ls at hl ⊢
  have hl : lv_has ls 3 [(0, .ref (ad 0)), (1, .int 0), (2, .int 8)] := hl
  generalize hloc : ([] : List Loc) = locs at hw ⊢
  have hinX12 : ∀ w ∈ u_ws RX12 TX12 42, w ∈ (wu yX12_walkerOf cX12_walkerOf 3 (some .int)) := fun _ h => List.mem_cons_of_mem _ (up_71 h)
  have hM : TT (fun n => m_X12_walkerOf n 0 0 8 (sL w0)) (fun n => m_X12_walkerOf n 0 0 8 (sL w0)) := TT.rf
  refine lv_aload_n hx hb dX12_walkerOf_0 rfl (lv_at hl 0 rfl) ?_
  refine tk_getA hC hK hw hT hinX12 kM_at0 (by decide) rfl 26 (by decide) (List.mem_cons_of_mem _ uw_7_1) rfl rfl dX12_walkerOf_1 ?_
  refine lv_sipush (v := 216) hx hb dX12_walkerOf_4 (by decide) ?_
  refine lv_bipush (v := 9) hx hb dX12_walkerOf_7 (by decide) ?_
  refine lv_iload_n hx hb dX12_walkerOf_9 rfl (lv_at hl 1 rfl) ?_
  refine lv_imul hx hb dX12_walkerOf_10 ?_
  refine wk_top 0 (by decide) ?_
  replace hM := hM.lt (v := 0) (by decide)
  refine lv_iadd hx hb dX12_walkerOf_11 ?_
  refine wk_top 216 (by decide) ?_
  replace hM := hM.lt (v := 216) (by decide)
  refine lv_iload_n hx hb dX12_walkerOf_12 rfl (lv_at hl 2 rfl) ?_
  refine lv_iadd hx hb dX12_walkerOf_13 ?_
  refine wk_top 224 (by decide) ?_
  replace hM := hM.lt (v := 224) (by decide)
  refine tk_ialdR hC hK hw hT kM_at12 rfl (by decide) (by decide) dX12_walkerOf_14 (fun x1 c2 Ex1 => ?_)
  have hox1 := c2
  replace hM := hM.rd (sL_at (kM_lt kM_at12) hox1)
  have c2 : gi w0 12 224 = x1 := c2
  exact tk_iret hC hr hlocks hK ⟨rfl, hM.ret rfl, c2⟩ hw dX12_walkerOf_15
abbrev Py_X12_askedToday_1 (ad : Nat → Nat) (cy : Nat → ClassId) (B : Int) (qr : Nat) (s1 : Int)  (w0 : va_W) : Int32 → va_W → Prop := fun r u => w0 = u ∧ Ev (fun n => m_X12_askedToday n 0 0 (sL w0)) (r.toInt, sL w0) ∧ ((r = 0) ∨ (r = 1 ∧ (∃ y : Int32, gi u 12 224 = y ∧ 0 ≤ y.toInt ∧ y.toInt ≤ 44739242)))
set_option maxHeartbeats 4000000 in
set_option maxRecDepth 100000 in
theorem ky_X12_askedToday_1 (l : Launch) (adK adV : Nat → Nat) (dC : Nat → ClassId) (dI : Nat → Nat → Nat) (cy : Nat → ClassId) (ad : Nat → Nat) (B : Int) (hB0 : 100000 ≤ B) (hB1 : B ≤ 1073741824) (qr : Nat) (s1 : Int)   (w0 : va_W) (sz : Nat) (hT : TW ksM ad cy B qr 12 w0)  : Met l yX12_askedToday (wu yX12_askedToday cX12_askedToday 2 (some .boolean)) ({ frames := 2, cells := 0, slots := 0, locals := 34 }) (va_Pc [.ref (ad 0), .int 0] (wpreS adK adV dC dI cy sz w0)) (va_Qi (Py_X12_askedToday_1 ad cy B qr s1  w0) (fun u : va_W => wpost dC dI cy (va_A w0 sz) u) (va_A w0 sz)) 0 0 (va_A w0 sz) := by
  refine Met.ofW (cc := cX12_askedToday) (maxL := 2) (ret := (some .boolean)) (by decide) rfl ?_
  intro p e s m args below meth c s₁ Bk hml hv
  obtain ⟨rfl, ⟨hsz, hP, hK, hD0⟩, hE, hSR⟩ := hv
  have hx := Bk.exec
  have hb := Bk.bytes
  have hr := Bk.returns
  have hlocks := Bk.notSynchronized
  have hC : CallFix p m c cX12_askedToday 2 s _ (wu yX12_askedToday cX12_askedToday 2 (some .boolean)) RX12 := ⟨hx, hb, hml, findClass_of_methodNamed Bk.named, atoms_spec (ws := (wu yX12_askedToday cX12_askedToday 2 (some .boolean))) Bk.pre⟩
  subst hsz
  have hD := hD0.self (sz := s.heap.size)
  generalize hAe : va_A w0 s.heap.size = A at hD hE ⊢
  have hA : ∀ q : Nat, s.heap.size ≤ q → A q := fun q h => by rw [← hAe]; exact Or.inr h
  have hw : Wd dC dI A s.heap s.heap [] w0 := ⟨hP, hD, va_S.rf⟩
  have hF : FE ksM ([] : List (Nat × Nat × Nat)) w0 w0 := FE.rf
  have hl := lv_entry ([.ref (ad 0), .int 0]) (n := 2) (Nat.le_of_ble_eq_true rfl)
  rw [lg_entry_eq]
  generalize (lg_sl ([.ref (ad 0), .int 0]) ++ List.replicate (2 - (lg_sl ([.ref (ad 0), .int 0])).length) Slot.unset).toArray = ls at hl ⊢
  have hl : lv_has ls 2 [(0, .ref (ad 0)), (1, .int 0)] := hl
  generalize hloc : ([] : List Loc) = locs at hw ⊢
  have hM : TT (fun n => m_X12_askedToday n 0 0 (sL w0)) (fun n => m_X12_askedToday n 0 0 (sL w0)) := TT.rf
  refine lv_aload_n hx hb dX12_askedToday_0 rfl (lv_at hl 0 rfl) ?_
  refine lv_iload_n hx hb dX12_askedToday_1 rfl (lv_at hl 1 rfl) ?_
  refine lv_bipush (v := 8) hx hb dX12_askedToday_2 (by decide) ?_
  refine tk_Vi hC hK hw hT hA hE hSR kM_at0 (by decide) rfl (ky_X12_walkerOf_5 l adK adV dC dI cy ad B hB0 (Int.le_trans hB1 (by decide)) qr s1    w0 s.heap.size hT ) (cwV 2 hC.2.2.2.2 uV_RX12_372 rfl rfl rfl (by decide +kernel) ⟨Nat.le_of_ble_eq_true rfl, Nat.le_of_ble_eq_true rfl⟩) rfl hl.1 rfl (Nat.le_of_ble_eq_true rfl) dX12_askedToday_4 (fun r1 w3 H locs hp2 hw => ?_)
  obtain ⟨rfl, hv7, hg6⟩ := hp2
  have c5 := hg6
  replace hM := hM.call hv7 rfl
  refine lv_aload_n hx hb dX12_askedToday_7 rfl (lv_at hl 0 rfl) ?_
  refine lv_iload_n hx hb dX12_askedToday_8 rfl (lv_at hl 1 rfl) ?_
  refine lv_iconst (v := 4) hx hb dX12_askedToday_9 (by decide) ?_
  refine tk_Vi hC hK hw hT hA hE hSR kM_at0 (by decide) rfl (ky_X12_walkerOf_3 l adK adV dC dI cy ad B hB0 (Int.le_trans hB1 (by decide)) qr s1    w0 H.size hT ) (cwV 2 hC.2.2.2.2 uV_RX12_372 rfl rfl rfl (by decide +kernel) ⟨Nat.le_of_ble_eq_true rfl, Nat.le_of_ble_eq_true rfl⟩) rfl hl.1 rfl (Nat.le_of_ble_eq_true rfl) dX12_askedToday_10 (fun r8 w10 H locs hp9 hw => ?_)
  obtain ⟨rfl, hv16, hg15⟩ := hp9
  obtain ⟨g12, g13, c14⟩ := hg15
  replace hM := hM.call hv16 rfl
  refine lv_bipush (v := 24) hx hb dX12_askedToday_13 (by decide) ?_
  refine lv_idiv hx hb dX12_askedToday_15 (by decide) ?_
  refine lv_topi (fun x17 ex17 => ?_)
  have ezx17 := ex17
  have ex17 : x17.toInt = r8.toInt / (24 : Int) := by rw [ex17]; exact wk_div (show 0 ≤ r8.toInt by first | with_reducible assumption | omega) (show 0 < (24 : Int) by decide)
  replace hM := hM.lt ex17.symm
  refine lv_icmp_ne (tgt := 23) hx hb dX12_askedToday_16 (by decide) (fun c18 => ?_) (fun c18 => ?_)
  · have c18 : ¬ r1.toInt = x17.toInt := wk_eqF c18
    replace hM := hM.pos c18
    refine lv_iconst (v := 0) hx hb dX12_askedToday_23 (by decide) ?_
    exact tk_zret hC hr rfl hlocks hK ⟨rfl, hM.ret (by decide), (Or.inl rfl)⟩ hw dX12_askedToday_24
  · have c18 : r1.toInt = x17.toInt := wk_eq.mp c18
    replace hM := hM.neg (fun q => q c18)
    refine lv_iconst (v := 1) hx hb dX12_askedToday_19 (by decide) ?_
    refine lv_goto (tgt := 24) hx hb dX12_askedToday_20 (by decide) ?_
    exact tk_zret hC hr rfl hlocks hK ⟨rfl, hM.ret (by decide), (Or.inr ⟨rfl, ⟨r1, c5, (show 0 ≤ r1.toInt by first | with_reducible assumption | omega), (show r1.toInt ≤ 44739242 by first | with_reducible assumption | omega)⟩⟩)⟩ hw dX12_askedToday_24
abbrev Py_X12_streetOf_5 (ad : Nat → Nat) (cy : Nat → ClassId) (B : Int) (qr : Nat) (s1 : Int) (a1 : Int32) (a2 : Int32) (w0 : va_W) : Int32 → va_W → Prop := fun r u => w0 = u ∧ Ev (fun n => m_X12_streetOf n 0 a1.toInt a2.toInt (sL w0)) (r.toInt, sL w0) ∧ ((0 ≤ r.toInt ∧ r.toInt ≤ 9 ∧ gi u 12 (10 * a1.toInt + 1 * a2.toInt + 10).toNat = r))
set_option maxHeartbeats 4000000 in
set_option maxRecDepth 100000 in
theorem ky_X12_streetOf_5 (l : Launch) (adK adV : Nat → Nat) (dC : Nat → ClassId) (dI : Nat → Nat → Nat) (cy : Nat → ClassId) (ad : Nat → Nat) (B : Int) (hB0 : 100000 ≤ B) (hB1 : B ≤ 1073741824) (qr : Nat) (s1 : Int)  (a1 : Int32) (ra1 : 0 ≤ a1.toInt) (ta1 : a1.toInt ≤ 11) (a2 : Int32) (ra2 : 3 ≤ a2.toInt) (ta2 : a2.toInt ≤ 9) (w0 : va_W) (sz : Nat) (hT : TW ksM ad cy B qr 12 w0)  : Met l yX12_streetOf (wu yX12_streetOf cX12_streetOf 3 (some .int)) ({ frames := 1, cells := 0, slots := 0, locals := 12 }) (va_Pc [.ref (ad 0), .int a1, .int a2] (wpreS adK adV dC dI cy sz w0)) (va_Qi (Py_X12_streetOf_5 ad cy B qr s1 a1 a2 w0) (fun u : va_W => wpost dC dI cy (va_A w0 sz) u) (va_A w0 sz)) 0 0 (va_A w0 sz) := by
  refine Met.ofW (cc := cX12_streetOf) (maxL := 3) (ret := (some .int)) (by decide) rfl ?_
  intro p e s m args below meth c s₁ Bk hml hv
  obtain ⟨rfl, ⟨hsz, hP, hK, hD0⟩, hE, hSR⟩ := hv
  have hx := Bk.exec
  have hb := Bk.bytes
  have hr := Bk.returns
  have hlocks := Bk.notSynchronized
  have hC : CallFix p m c cX12_streetOf 3 s _ (wu yX12_streetOf cX12_streetOf 3 (some .int)) RX12 := ⟨hx, hb, hml, findClass_of_methodNamed Bk.named, atoms_spec (ws := (wu yX12_streetOf cX12_streetOf 3 (some .int))) Bk.pre⟩
  subst hsz
  have hD := hD0.self (sz := s.heap.size)
  generalize hAe : va_A w0 s.heap.size = A at hD hE ⊢
  have hA : ∀ q : Nat, s.heap.size ≤ q → A q := fun q h => by rw [← hAe]; exact Or.inr h
  have hw : Wd dC dI A s.heap s.heap [] w0 := ⟨hP, hD, va_S.rf⟩
  have hF : FE ksM ([] : List (Nat × Nat × Nat)) w0 w0 := FE.rf
  have hl := lv_entry ([.ref (ad 0), .int a1, .int a2]) (n := 3) (Nat.le_of_ble_eq_true rfl)
  rw [lg_entry_eq]
  generalize (lg_sl ([.ref (ad 0), .int a1, .int a2]) ++ List.replicate (3 - (lg_sl ([.ref (ad 0), .int a1, .int a2])).length) Slot.unset).toArray = ls at hl ⊢
  have hl : lv_has ls 3 [(0, .ref (ad 0)), (1, .int a1), (2, .int a2)] := hl
  generalize hloc : ([] : List Loc) = locs at hw ⊢
  have hinX12 : ∀ w ∈ u_ws RX12 TX12 42, w ∈ (wu yX12_streetOf cX12_streetOf 3 (some .int)) := fun _ h => List.mem_cons_of_mem _ (up_71 h)
  have hM : TT (fun n => m_X12_streetOf n 0 a1.toInt a2.toInt (sL w0)) (fun n => m_X12_streetOf n 0 a1.toInt a2.toInt (sL w0)) := TT.rf
  refine lv_aload_n hx hb dX12_streetOf_0 rfl (lv_at hl 0 rfl) ?_
  refine tk_getA hC hK hw hT hinX12 kM_at0 (by decide) rfl 26 (by decide) (List.mem_cons_of_mem _ uw_7_1) rfl rfl dX12_streetOf_1 ?_
  refine lv_bipush (v := 10) hx hb dX12_streetOf_4 (by decide) ?_
  refine lv_bipush (v := 10) hx hb dX12_streetOf_6 (by decide) ?_
  refine lv_iload_n hx hb dX12_streetOf_8 rfl (lv_at hl 1 rfl) ?_
  refine lv_imul hx hb dX12_streetOf_9 ?_
  refine lv_topi (fun x1 ex1 => ?_)
  have ezx1 := ex1
  have ex1 : x1.toInt = (10 : Int) * a1.toInt := by rw [ex1]; exact wk_mul (show (-2147483648) ≤ (10 : Int) * a1.toInt by omega) (show (10 : Int) * a1.toInt ≤ 2147483647 by omega)
  replace hM := hM.lt ex1.symm
  refine lv_iadd hx hb dX12_streetOf_10 ?_
  refine lv_topi (fun x2 ex2 => ?_)
  have ezx2 := ex2
  have ex2 : x2.toInt = (10 : Int) + x1.toInt := by rw [ex2]; exact wk_add (show (-2147483648) ≤ (10 : Int) + x1.toInt by omega) (show (10 : Int) + x1.toInt ≤ 2147483647 by omega)
  replace hM := hM.lt ex2.symm
  refine lv_iload_n hx hb dX12_streetOf_11 rfl (lv_at hl 2 rfl) ?_
  refine lv_iadd hx hb dX12_streetOf_12 ?_
  refine lv_topi (fun x3 ex3 => ?_)
  have ezx3 := ex3
  have ex3 : x3.toInt = x2.toInt + a2.toInt := by rw [ex3]; exact wk_add (show (-2147483648) ≤ x2.toInt + a2.toInt by omega) (show x2.toInt + a2.toInt ≤ 2147483647 by omega)
  replace hM := hM.lt ex3.symm
  refine tk_ialdR hC hK hw hT kM_at12 rfl (show 0 ≤ x3.toInt by first | with_reducible assumption | omega) (show x3.toInt < 296 by first | with_reducible assumption | omega) dX12_streetOf_13 (fun x4 c5 Ex4 => ?_)
  have hox4 := c5
  have c5 : gi w0 12 (10 * a1.toInt + 1 * a2.toInt + 10).toNat = x4 := (congrArg (gi w0 12) (congrArg Int.toNat (show 10 * a1.toInt + 1 * a2.toInt + 10 = x3.toInt by first | exact Int.le_antisymm (by omega) (by omega) | omega))).trans c5
  replace hM := hM.rd (sL_at (kM_lt kM_at12) hox4)
  have bx4 := tk_rgI rfl 13 1 117 0 9 (by decide +kernel) ⟨(x3.toInt - 13).toNat, by omega, show x3.toInt.toNat = 13 + 1 * (x3.toInt - 13).toNat by omega⟩ Ex4
  exact tk_iret hC hr hlocks hK ⟨rfl, hM.ret rfl, ⟨(show 0 ≤ x4.toInt by first | with_reducible assumption | omega), (show x4.toInt ≤ 9 by first | with_reducible assumption | omega), c5⟩⟩ hw dX12_streetOf_14
abbrev Py_X12_takesDay_1 (ad : Nat → Nat) (cy : Nat → ClassId) (B : Int) (qr : Nat) (s1 : Int) (a1 : Int32) (w0 : va_W) : va_W → Prop := fun u => TW ksM ad cy B qr 12 u ∧ FE ksM [(72, 0, 12)] w0 u ∧ Ev (fun n => m_X12_takesDay n 0 a1.toInt (sL w0)) (0, sL u) ∧ ((True))
set_option maxHeartbeats 4000000 in
set_option maxRecDepth 100000 in
theorem ky_X12_takesDay_1 (l : Launch) (adK adV : Nat → Nat) (dC : Nat → ClassId) (dI : Nat → Nat → Nat) (cy : Nat → ClassId) (ad : Nat → Nat) (B : Int) (hB0 : 100000 ≤ B) (hB1 : B ≤ 1073741824) (qr : Nat) (s1 : Int)  (a1 : Int32) (ra1 : 0 ≤ a1.toInt) (ta1 : a1.toInt ≤ 6) (w0 : va_W) (sz : Nat) (hT : TW ksM ad cy B qr 12 w0)  : Met l yX12_takesDay (wu yX12_takesDay cX12_takesDay 3 none) ({ frames := 2, cells := 0, slots := 0, locals := 34 }) (va_Pc [.ref (ad 0), .int a1] (wpreS adK adV dC dI cy sz w0)) (va_Qv (Py_X12_takesDay_1 ad cy B qr s1 a1 w0) (fun u : va_W => wpost dC dI cy (va_A w0 sz) u) (va_A w0 sz)) 0 0 (va_A w0 sz) := by
  refine Met.ofW (cc := cX12_takesDay) (maxL := 3) (ret := none) (by decide) rfl ?_
  intro p e s m args below meth c s₁ Bk hml hv
  obtain ⟨rfl, ⟨hsz, hP, hK, hD0⟩, hE, hSR⟩ := hv
  have hx := Bk.exec
  have hb := Bk.bytes
  have hr := Bk.returns
  have hlocks := Bk.notSynchronized
  have hC : CallFix p m c cX12_takesDay 3 s _ (wu yX12_takesDay cX12_takesDay 3 none) RX12 := ⟨hx, hb, hml, findClass_of_methodNamed Bk.named, atoms_spec (ws := (wu yX12_takesDay cX12_takesDay 3 none)) Bk.pre⟩
  subst hsz
  have hD := hD0.self (sz := s.heap.size)
  generalize hAe : va_A w0 s.heap.size = A at hD hE ⊢
  have hA : ∀ q : Nat, s.heap.size ≤ q → A q := fun q h => by rw [← hAe]; exact Or.inr h
  have hw : Wd dC dI A s.heap s.heap [] w0 := ⟨hP, hD, va_S.rf⟩
  have hF : FE ksM [(72, 0, 12)] w0 w0 := FE.rf
  have hl := lv_entry ([.ref (ad 0), .int a1]) (n := 3) (Nat.le_of_ble_eq_true rfl)
  rw [lg_entry_eq]
  generalize (lg_sl ([.ref (ad 0), .int a1]) ++ List.replicate (3 - (lg_sl ([.ref (ad 0), .int a1])).length) Slot.unset).toArray = ls at hl ⊢
  have hl : lv_has ls 3 [(0, .ref (ad 0)), (1, .int a1)] := hl
  generalize hloc : ([] : List Loc) = locs at hw ⊢
  have hinX12 : ∀ w ∈ u_ws RX12 TX12 42, w ∈ (wu yX12_takesDay cX12_takesDay 3 none) := fun _ h => List.mem_cons_of_mem _ (up_71 h)
  have L2 : ∀ (n2 : Nat) (v2_2 : Int32) (H : Heap) (locs : List Loc) (ls : Array Slot) (w1 : va_W), 0 ≤ a1.toInt → a1.toInt ≤ 6 → 0 ≤ v2_2.toInt → v2_2.toInt ≤ 12 → (12 - v2_2.toInt).toNat < n2 → Wd dC dI A s.heap H locs w1 → TW ksM ad cy B qr 12 w1 → FE ksM [(72, 0, 12)] w0 w1 → TT (fun n => m_X12_takesDay n 0 a1.toInt (sL w0)) (fun n => j_X12_takesDay 0 n 2 [a1.toInt, v2_2.toInt] (sL w1)) → lv_has ls 3 [(0, .ref (ad 0)), (1, .int a1), (2, .int v2_2)] → W p l e ({ frames := 2, cells := 0, slots := 0, locals := 34 }) s m (List.toArray [.ref (ad 0), .int a1]) below meth c H locs 0 0 (MQ below (va_Qv (Py_X12_takesDay_1 ad cy B qr s1 a1 w0) (fun u : va_W => wpost dC dI cy A u) A) (List.toArray [.ref (ad 0), .int a1]) s 0 0 A) (F0 m 2 ls []) := by
    intro n2
    induction n2 with
    | zero => intro v2_2 H locs ls w1 r2 t3 r4 t5 hm2 hw hT hF hM hl; omega
    | succ n2 ih2 =>
      intro v2_2 H locs ls w1 r2 t3 r4 t5 hm2 hw hT hF hM hl
      replace hM := hM.suc (fun _ => e_X12_takesDay_2)
      refine lv_iload_n hx hb dX12_takesDay_2 rfl (lv_at hl 2 rfl) ?_
      refine lv_aload_n hx hb dX12_takesDay_3 rfl (lv_at hl 0 rfl) ?_
      refine tk_getA hC hK hw hT hinX12 kM_at0 (by decide) rfl 26 (by decide) (List.mem_cons_of_mem _ uw_7_1) rfl rfl dX12_takesDay_4 ?_
      refine lv_iconst (v := 1) hx hb dX12_takesDay_7 (by decide) ?_
      refine tk_ialdR hC hK hw hT kM_at12 rfl (by decide) (by decide) dX12_takesDay_8 (fun x6 c7 Ex6 => ?_)
      have hox6 := c7
      replace hM := hM.rd (sL_at (kM_lt kM_at12) hox6)
      have bx6 : 0 ≤ x6.toInt ∧ x6.toInt ≤ 12 := (tk_rg1 rfl).mp Ex6
      have c7 : gi w1 12 1 = x6 := c7
      refine lv_icmp_ge (tgt := 32) hx hb dX12_takesDay_9 (by decide) (fun c8 => ?_) (fun c8 => ?_)
      · have c8 : x6.toInt ≤ v2_2.toInt := wk_le.mp c8
        replace hM := hM.pos c8
        exact tk_vret hC hr hlocks hK ⟨hT, hF, hM.ret rfl, trivial⟩ hw dX12_takesDay_32
      · have c8 : v2_2.toInt < x6.toInt := wk_leF c8
        replace hM := hM.neg (Int.not_le.mpr c8)
        refine lv_aload_n hx hb dX12_takesDay_12 rfl (lv_at hl 0 rfl) ?_
        refine tk_getA hC hK hw hT hinX12 kM_at0 (by decide) rfl 28 (by decide) (List.mem_cons_of_mem _ uw_7_3) rfl rfl dX12_takesDay_13 ?_
        refine lv_iload_n hx hb dX12_takesDay_16 rfl (lv_at hl 2 rfl) ?_
        refine lv_aload_n hx hb dX12_takesDay_17 rfl (lv_at hl 0 rfl) ?_
        refine lv_iload_n hx hb dX12_takesDay_18 rfl (lv_at hl 2 rfl) ?_
        refine lv_iconst (v := 3) hx hb dX12_takesDay_19 (by decide) ?_
        refine lv_iload_n hx hb dX12_takesDay_20 rfl (lv_at hl 1 rfl) ?_
        refine lv_iadd hx hb dX12_takesDay_21 ?_
        refine lv_topi (fun x9 ex9 => ?_)
        have ezx9 := ex9
        have ex9 : x9.toInt = (3 : Int) + a1.toInt := by rw [ex9]; exact wk_add (show (-2147483648) ≤ (3 : Int) + a1.toInt by omega) (show (3 : Int) + a1.toInt ≤ 2147483647 by omega)
        replace hM := hM.lt ex9.symm
        refine tk_Vi hC hK hw hT hA hE hSR kM_at0 (by decide) rfl (ky_X12_streetOf_5 l adK adV dC dI cy ad B hB0 (Int.le_trans hB1 (by decide)) qr s1   v2_2 (show 0 ≤ v2_2.toInt from r4) (show v2_2.toInt ≤ 11 by first | with_reducible assumption | omega) x9 (show 3 ≤ x9.toInt by first | with_reducible assumption | omega) (show x9.toInt ≤ 9 by first | with_reducible assumption | omega) w1 H.size hT ) (cwV 2 hC.2.2.2.2 uV_RX12_300 rfl rfl rfl (by decide +kernel) ⟨Nat.le_of_ble_eq_true rfl, Nat.le_of_ble_eq_true rfl⟩) rfl hl.1 rfl (Nat.le_of_ble_eq_true rfl) dX12_takesDay_22 (fun r10 w12 H locs hp11 hw => ?_)
        obtain ⟨rfl, hv18, hg17⟩ := hp11
        obtain ⟨g14, g15, c16⟩ := hg17
        replace hM := hM.call hv18 rfl
        have hTq := hT
        refine tk_iast hC hK hw hT kM_at13 (by decide) rfl rfl (show 0 ≤ v2_2.toInt from r4) (show v2_2.toInt < 12 by first | with_reducible assumption | omega) (wk_i32 r10).1 (wk_i32 r10).2 dX12_takesDay_25 (fun H locs w19 hw hT k21 c20 => ?_)
        replace hM := hM.wr (sL_upa hTq hT kM_at13 (kM_lt kM_at13) rfl (by decide) k21 c20 rfl)
        have hF := hF.put kM_at13 (inE_of (a := 0) (b := 12) (by decide) (show 0 ≤ v2_2.toInt.toNat by omega) (show v2_2.toInt.toNat ≤ 12 by omega)) k21
        have c22 := k21.gi (Or.inl (tk_ne kM_at12 kM_at13 (by decide))) c7
        have c23 := k21.gi (Or.inl (tk_ne kM_at12 kM_at13 (by decide))) c16
        obtain ⟨x24, ex24⟩ : ∃ y : Int32, y = v2_2 + Int32.ofInt 1 := ⟨_, rfl⟩
        have erx24 := ex24
        refine lv_iinc (v := x24) (lv' := [(2, .int x24), (0, .ref (ad 0)), (1, .int a1)]) hx hb dX12_takesDay_26 hl (k := 2) rfl ex24.symm (by decide) rfl (fun ls hl => ?_)
        have ex24 : x24.toInt = v2_2.toInt + 1 := by rw [ex24]; exact wk_add (y := 1) (show -2147483648 ≤ v2_2.toInt + 1 by omega) (show v2_2.toInt + 1 ≤ 2147483647 by omega)
        replace hM := hM.lt ex24.symm
        refine lv_goto (tgt := 2) hx hb dX12_takesDay_29 (by decide) ?_
        exact ih2 x24 H locs ls w19 (show 0 ≤ a1.toInt from r2) (show a1.toInt ≤ 6 from t3) (show 0 ≤ x24.toInt by first | with_reducible assumption | omega) (show x24.toInt ≤ 12 by first | with_reducible assumption | omega) (show (12 - x24.toInt).toNat < n2 by first | exact tn_lt hm2 (by omega) (by omega) | omega) hw hT hF hM (lv_sub hl [1, 2, 0] rfl)
  have hM : TT (fun n => m_X12_takesDay n 0 a1.toInt (sL w0)) (fun n => m_X12_takesDay n 0 a1.toInt (sL w0)) := TT.rf
  refine lv_iconst (v := 0) hx hb dX12_takesDay_0 (by decide) ?_
  refine lv_istore_n (lv' := [(2, .int 0), (0, .ref (ad 0)), (1, .int a1)]) hx hb dX12_takesDay_1 rfl hl (by decide) rfl (fun ls hl => ?_)
  exact L2 ((12 - (0 : Int)).toNat + 1) 0 s.heap locs ls w0 (show 0 ≤ a1.toInt from ra1) (show a1.toInt ≤ 6 from ta1) (by decide) (by decide) (Nat.lt_succ_self _) hw hT hF hM (lv_sub hl [1, 2, 0] rfl)
abbrev Py_X12_looks_1 (ad : Nat → Nat) (cy : Nat → ClassId) (B : Int) (qr : Nat) (s1 : Int)  (w0 : va_W) : va_W → Prop := fun u => TW ksM ad cy B qr 12 u ∧ FE ksM [(12, 31, 31), (72, 0, 12), (73, 0, 10)] w0 u ∧ Ev (fun n => m_X12_looks n 0 0 (sL w0)) (0, sL u) ∧ (((∃ y : Int32, gi u 0 31 = y ∧ (-1) ≤ y.toInt ∧ y.toInt ≤ 11)))
set_option maxHeartbeats 4000000 in
set_option maxRecDepth 100000 in
theorem ky_X12_looks_1 (l : Launch) (adK adV : Nat → Nat) (dC : Nat → ClassId) (dI : Nat → Nat → Nat) (cy : Nat → ClassId) (ad : Nat → Nat) (B : Int) (hB0 : 100000 ≤ B) (hB1 : B ≤ 1073741824) (qr : Nat) (s1 : Int)   (w0 : va_W) (sz : Nat) (hT : TW ksM ad cy B qr 12 w0)  : Met l yX12_looks (wu yX12_looks cX12_looks 2 none) ({ frames := 4, cells := 0, slots := 0, locals := 79 }) (va_Pc [.ref (ad 0), .int 0] (wpreS adK adV dC dI cy sz w0)) (va_Qv (Py_X12_looks_1 ad cy B qr s1  w0) (fun u : va_W => wpost dC dI cy (va_A w0 sz) u) (va_A w0 sz)) 0 0 (va_A w0 sz) := by
  refine Met.ofW (cc := cX12_looks) (maxL := 2) (ret := none) (by decide) rfl ?_
  intro p e s m args below meth c s₁ Bk hml hv
  obtain ⟨rfl, ⟨hsz, hP, hK, hD0⟩, hE, hSR⟩ := hv
  have hx := Bk.exec
  have hb := Bk.bytes
  have hr := Bk.returns
  have hlocks := Bk.notSynchronized
  have hC : CallFix p m c cX12_looks 2 s _ (wu yX12_looks cX12_looks 2 none) RX12 := ⟨hx, hb, hml, findClass_of_methodNamed Bk.named, atoms_spec (ws := (wu yX12_looks cX12_looks 2 none)) Bk.pre⟩
  subst hsz
  have hD := hD0.self (sz := s.heap.size)
  generalize hAe : va_A w0 s.heap.size = A at hD hE ⊢
  have hA : ∀ q : Nat, s.heap.size ≤ q → A q := fun q h => by rw [← hAe]; exact Or.inr h
  have hw : Wd dC dI A s.heap s.heap [] w0 := ⟨hP, hD, va_S.rf⟩
  have hF : FE ksM [(12, 31, 31), (72, 0, 12), (73, 0, 10)] w0 w0 := FE.rf
  have hl := lv_entry ([.ref (ad 0), .int 0]) (n := 2) (Nat.le_of_ble_eq_true rfl)
  rw [lg_entry_eq]
  generalize (lg_sl ([.ref (ad 0), .int 0]) ++ List.replicate (2 - (lg_sl ([.ref (ad 0), .int 0])).length) Slot.unset).toArray = ls at hl ⊢
  have hl : lv_has ls 2 [(0, .ref (ad 0)), (1, .int 0)] := hl
  generalize hloc : ([] : List Loc) = locs at hw ⊢
  have hinX12 : ∀ w ∈ u_ws RX12 TX12 42, w ∈ (wu yX12_looks cX12_looks 2 none) := fun _ h => List.mem_cons_of_mem _ (up_71 h)
  have J44 : ∀ (H : Heap) (locs : List Loc) (ls : Array Slot) (w1 : va_W), Wd dC dI A s.heap H locs w1 → TW ksM ad cy B qr 12 w1 → FE ksM [(12, 31, 31), (72, 0, 12), (73, 0, 10)] w0 w1 → TT (fun n => m_X12_looks n 0 0 (sL w0)) (fun n => b_X12_looks_44 n 0 (0 : Int) (sL w1)) → lv_has ls 2 [(0, .ref (ad 0)), (1, .int 0)] → W p l e ({ frames := 4, cells := 0, slots := 0, locals := 79 }) s m (List.toArray [.ref (ad 0), .int 0]) below meth c H locs 0 0 (MQ below (va_Qv (Py_X12_looks_1 ad cy B qr s1  w0) (fun u : va_W => wpost dC dI cy A u) A) (List.toArray [.ref (ad 0), .int 0]) s 0 0 A) (F0 m 44 ls []) := by
    intro H locs ls w1 hw hT hF hM hl
    refine lv_aload_n hx hb dX12_looks_44 rfl (lv_at hl 0 rfl) ?_
    refine lv_aload_n hx hb dX12_looks_45 rfl (lv_at hl 0 rfl) ?_
    refine lv_iload_n hx hb dX12_looks_46 rfl (lv_at hl 1 rfl) ?_
    refine lv_iconst (v := 1) hx hb dX12_looks_47 (by decide) ?_
    refine tk_Vi hC hK hw hT hA hE hSR kM_at0 (by decide) rfl (ky_X12_walkerOf_2 l adK adV dC dI cy ad B hB0 (Int.le_trans hB1 (by decide)) qr s1    w1 H.size hT ) (cwV 2 hC.2.2.2.2 uV_RX12_372 rfl rfl rfl (by decide +kernel) ⟨Nat.le_of_ble_eq_true rfl, Nat.le_of_ble_eq_true rfl⟩) rfl hl.1 rfl (Nat.le_of_ble_eq_true rfl) dX12_looks_48 (fun r2 w4 H locs hp3 hw => ?_)
    obtain ⟨rfl, hv10, hg9⟩ := hp3
    obtain ⟨g6, g7, c8⟩ := hg9
    replace hM := hM.call hv10 rfl
    refine tk_Vv hC hK hw hT hA hE hSR kM_at0 (by decide) rfl (ky_X12_spreads_1 l adK adV dC dI cy ad B hB0 (Int.le_trans hB1 (by decide)) qr s1   r2 (show 0 ≤ r2.toInt by first | with_reducible assumption | omega) (show r2.toInt ≤ 9 by first | with_reducible assumption | omega) w1 H.size hT ) (cwV 1 hC.2.2.2.2 uV_RX12_354 rfl rfl rfl (by decide +kernel) ⟨Nat.le_of_ble_eq_true rfl, Nat.le_of_ble_eq_true rfl⟩) rfl hl.1 rfl (Nat.le_of_ble_eq_true rfl) dX12_looks_51 (fun w13 H locs hp12 hw => ?_)
    obtain ⟨hT, k14, hv16, hg15⟩ := hp12
    have hF := hF.tr k14 (by decide)
    have c17 := k14.gi kM_at12 (by decide) c8
    clear hg15
    replace hM := hM.call hv16 rfl
    refine lv_aload_n hx hb dX12_looks_54 rfl (lv_at hl 0 rfl) ?_
    refine lv_aload_n hx hb dX12_looks_55 rfl (lv_at hl 0 rfl) ?_
    refine lv_aload_n hx hb dX12_looks_56 rfl (lv_at hl 0 rfl) ?_
    refine lv_iload_n hx hb dX12_looks_57 rfl (lv_at hl 1 rfl) ?_
    refine lv_iconst (v := 0) hx hb dX12_looks_58 (by decide) ?_
    refine tk_Vi hC hK hw hT hA hE hSR kM_at0 (by decide) rfl (ky_X12_walkerOf_1 l adK adV dC dI cy ad B hB0 (Int.le_trans hB1 (by decide)) qr s1    w13 H.size hT ) (cwV 2 hC.2.2.2.2 uV_RX12_372 rfl rfl rfl (by decide +kernel) ⟨Nat.le_of_ble_eq_true rfl, Nat.le_of_ble_eq_true rfl⟩) rfl hl.1 rfl (Nat.le_of_ble_eq_true rfl) dX12_looks_59 (fun r18 w20 H locs hp19 hw => ?_)
    obtain ⟨rfl, hv26, hg25⟩ := hp19
    obtain ⟨g22, g23, c24⟩ := hg25
    replace hM := hM.call hv26 rfl
    refine tk_Vi hC hK hw hT hA hE hSR kM_at0 (by decide) rfl (ky_X12_streetFrom_1 l adK adV dC dI cy ad B hB0 (Int.le_trans hB1 (by decide)) qr s1   r18 (show 0 ≤ r18.toInt by first | with_reducible assumption | omega) (show r18.toInt ≤ 9 by first | with_reducible assumption | omega) w13 H.size hT ) (cwV 1 hC.2.2.2.2 uV_RX12_357 rfl rfl rfl (by decide +kernel) ⟨Nat.le_of_ble_eq_true rfl, Nat.le_of_ble_eq_true rfl⟩) rfl hl.1 rfl (Nat.le_of_ble_eq_true rfl) dX12_looks_62 (fun r27 w29 H locs hp28 hw => ?_)
    obtain ⟨rfl, hv48, hg47⟩ := hp28
    rcases hg47 with ⟨g31, g32, ⟨x33, c34, rx33, tx33⟩, c35, c36⟩ | ⟨g37, g38, ⟨x39, c40, rx39, tx39⟩, c41⟩ | ⟨g42, g43, ⟨x44, c45, rx44, tx44⟩, c46⟩ | rfl
    · replace hM := hM.call hv48 rfl
      have hTq := hT
      refine tk_puti hC hK hw hT hinX12 tyX12_ok nmX12 kM_at0 (by decide) rfl rfl 31 (by decide) (List.mem_cons_of_mem _ uw_46_23) rfl rfl rfl rfl (show (-1) ≤ r27.toInt by first | with_reducible assumption | omega) (show r27.toInt ≤ 11 by first | with_reducible assumption | omega) dX12_looks_65 (fun H locs w49 hw hT k51 c50 => ?_)
      replace hM := hM.wr (sL_upf hTq hT kM_at0 (kM_lt kM_at0) (by decide) rfl k51 c50 rfl)
      have hF := hF.put kM_at0 (k := 31) (by decide) k51
      have c52 := k51.gi (Or.inr (by decide)) c17
      have c53 := k51.gi (Or.inr (by decide)) c24
      have c54 := k51.gi (Or.inr (by decide)) c34
      have c55 := k51.gi (Or.inl (tk_ne kM_at12 kM_at0 (by decide))) c35
      have c56 := k51.gi (Or.inl (tk_ne kM_at12 kM_at0 (by decide))) c36
      exact tk_vret hC hr hlocks hK ⟨hT, hF, hM.ret rfl, ⟨r27, c50, (show (-1) ≤ r27.toInt by first | with_reducible assumption | omega), (show r27.toInt ≤ 11 by first | with_reducible assumption | omega)⟩⟩ hw dX12_looks_68
    · replace hM := hM.call hv48 rfl
      have hTq := hT
      refine tk_puti hC hK hw hT hinX12 tyX12_ok nmX12 kM_at0 (by decide) rfl rfl 31 (by decide) (List.mem_cons_of_mem _ uw_46_23) rfl rfl rfl rfl (show (-1) ≤ r27.toInt by first | with_reducible assumption | omega) (show r27.toInt ≤ 11 by first | with_reducible assumption | omega) dX12_looks_65 (fun H locs w57 hw hT k59 c58 => ?_)
      replace hM := hM.wr (sL_upf hTq hT kM_at0 (kM_lt kM_at0) (by decide) rfl k59 c58 rfl)
      have hF := hF.put kM_at0 (k := 31) (by decide) k59
      have c60 := k59.gi (Or.inr (by decide)) c17
      have c61 := k59.gi (Or.inr (by decide)) c24
      have c62 := k59.gi (Or.inr (by decide)) c40
      have c63 := k59.gi (Or.inl (tk_ne kM_at12 kM_at0 (by decide))) c41
      exact tk_vret hC hr hlocks hK ⟨hT, hF, hM.ret rfl, ⟨r27, c58, (show (-1) ≤ r27.toInt by first | with_reducible assumption | omega), (show r27.toInt ≤ 11 by first | with_reducible assumption | omega)⟩⟩ hw dX12_looks_68
    · replace hM := hM.call hv48 rfl
      have hTq := hT
      refine tk_puti hC hK hw hT hinX12 tyX12_ok nmX12 kM_at0 (by decide) rfl rfl 31 (by decide) (List.mem_cons_of_mem _ uw_46_23) rfl rfl rfl rfl (show (-1) ≤ r27.toInt by first | with_reducible assumption | omega) (show r27.toInt ≤ 11 by first | with_reducible assumption | omega) dX12_looks_65 (fun H locs w64 hw hT k66 c65 => ?_)
      replace hM := hM.wr (sL_upf hTq hT kM_at0 (kM_lt kM_at0) (by decide) rfl k66 c65 rfl)
      have hF := hF.put kM_at0 (k := 31) (by decide) k66
      have c67 := k66.gi (Or.inr (by decide)) c17
      have c68 := k66.gi (Or.inr (by decide)) c24
      have c69 := k66.gi (Or.inr (by decide)) c45
      have c70 := k66.gi (Or.inl (tk_ne kM_at12 kM_at0 (by decide))) c46
      exact tk_vret hC hr hlocks hK ⟨hT, hF, hM.ret rfl, ⟨r27, c65, (show (-1) ≤ r27.toInt by first | with_reducible assumption | omega), (show r27.toInt ≤ 11 by first | with_reducible assumption | omega)⟩⟩ hw dX12_looks_68
    · replace hM := hM.call (r' := (-1)) hv48 (by decide)
      have hTq := hT
      refine tk_puti hC hK hw hT hinX12 tyX12_ok nmX12 kM_at0 (by decide) rfl rfl 31 (by decide) (List.mem_cons_of_mem _ uw_46_23) rfl rfl rfl rfl (by decide) (by decide) dX12_looks_65 (fun H locs w71 hw hT k73 c72 => ?_)
      replace hM := hM.wr (sL_upf hTq hT kM_at0 (kM_lt kM_at0) (by decide) rfl k73 c72 (by decide))
      have hF := hF.put kM_at0 (k := 31) (by decide) k73
      have c74 := k73.gi (Or.inr (by decide)) c17
      have c75 := k73.gi (Or.inr (by decide)) c24
      exact tk_vret hC hr hlocks hK ⟨hT, hF, hM.ret rfl, ⟨(-1), c72, (by decide), (by decide)⟩⟩ hw dX12_looks_68
  have J34 : ∀ (H : Heap) (locs : List Loc) (ls : Array Slot) (w76 : va_W), Wd dC dI A s.heap H locs w76 → TW ksM ad cy B qr 12 w76 → FE ksM [(12, 31, 31), (72, 0, 12), (73, 0, 10)] w0 w76 → TT (fun n => m_X12_looks n 0 0 (sL w0)) (fun n => b_X12_looks_34 n 0 (0 : Int) (sL w76)) → lv_has ls 2 [(0, .ref (ad 0)), (1, .int 0)] → W p l e ({ frames := 4, cells := 0, slots := 0, locals := 79 }) s m (List.toArray [.ref (ad 0), .int 0]) below meth c H locs 0 0 (MQ below (va_Qv (Py_X12_looks_1 ad cy B qr s1  w0) (fun u : va_W => wpost dC dI cy A u) A) (List.toArray [.ref (ad 0), .int 0]) s 0 0 A) (F0 m 34 ls []) := by
    intro H locs ls w76 hw hT hF hM hl
    refine lv_aload_n hx hb dX12_looks_34 rfl (lv_at hl 0 rfl) ?_
    refine lv_aload_n hx hb dX12_looks_35 rfl (lv_at hl 0 rfl) ?_
    refine lv_iload_n hx hb dX12_looks_36 rfl (lv_at hl 1 rfl) ?_
    refine lv_iconst (v := 2) hx hb dX12_looks_37 (by decide) ?_
    refine tk_Vi hC hK hw hT hA hE hSR kM_at0 (by decide) rfl (ky_X12_walkerOf_4 l adK adV dC dI cy ad B hB0 (Int.le_trans hB1 (by decide)) qr s1    w76 H.size hT ) (cwV 2 hC.2.2.2.2 uV_RX12_372 rfl rfl rfl (by decide +kernel) ⟨Nat.le_of_ble_eq_true rfl, Nat.le_of_ble_eq_true rfl⟩) rfl hl.1 rfl (Nat.le_of_ble_eq_true rfl) dX12_looks_38 (fun r77 w79 H locs hp78 hw => ?_)
    obtain ⟨rfl, hv85, hg84⟩ := hp78
    obtain ⟨g81, g82, c83⟩ := hg84
    replace hM := hM.call hv85 rfl
    refine tk_Vv hC hK hw hT hA hE hSR kM_at0 (by decide) rfl (ky_X12_takesMap_1 l adK adV dC dI cy ad B hB0 (Int.le_trans hB1 (by decide)) qr s1   r77 (show 0 ≤ r77.toInt by first | with_reducible assumption | omega) (show r77.toInt ≤ 3 by first | with_reducible assumption | omega) w76 H.size hT ) (cwV 1 hC.2.2.2.2 uV_RX12_351 rfl rfl rfl (by decide +kernel) ⟨Nat.le_of_ble_eq_true rfl, Nat.le_of_ble_eq_true rfl⟩) rfl hl.1 rfl (Nat.le_of_ble_eq_true rfl) dX12_looks_41 (fun w88 H locs hp87 hw => ?_)
    obtain ⟨hT, k89, hv91, hg90⟩ := hp87
    have hF := hF.tr k89 (by decide)
    have c92 := k89.gi kM_at12 (by decide) c83
    clear hg90
    replace hM := hM.call hv91 rfl
    exact J44  H locs ls w88   hw hT hF hM (lv_sub hl [0, 1] rfl)
  have hM : TT (fun n => m_X12_looks n 0 0 (sL w0)) (fun n => m_X12_looks n 0 0 (sL w0)) := TT.rf
  refine lv_aload_n hx hb dX12_looks_0 rfl (lv_at hl 0 rfl) ?_
  refine lv_iload_n hx hb dX12_looks_1 rfl (lv_at hl 1 rfl) ?_
  refine tk_Vi hC hK hw hT hA hE hSR kM_at0 (by decide) rfl (ky_X12_askedToday_1 l adK adV dC dI cy ad B hB0 (Int.le_trans hB1 (by decide)) qr s1    w0 s.heap.size hT ) (cwV 1 hC.2.2.2.2 uV_RX12_375 rfl rfl rfl (by decide +kernel) ⟨Nat.le_of_ble_eq_true rfl, Nat.le_of_ble_eq_true rfl⟩) rfl hl.1 rfl (Nat.le_of_ble_eq_true rfl) dX12_looks_2 (fun r93 w95 H locs hp94 hw => ?_)
  obtain ⟨rfl, hv100, hg99⟩ := hp94
  rcases hg99 with rfl | ⟨rfl, ⟨x97, c98, rx97, tx97⟩⟩
  · replace hM := hM.call (r' := 0) hv100 (by decide)
    refine lv_if_eq (tgt := 34) hx hb dX12_looks_5 (by decide) (fun _ => ?_) (fun c => absurd (by decide) c)
    replace hM := hM.pos (by decide)
    exact J34  H locs ls w0   hw hT hF hM (lv_sub hl [0, 1] rfl)
  · replace hM := hM.call (r' := 1) hv100 (by decide)
    refine lv_if_eq (tgt := 34) hx hb dX12_looks_5 (by decide) (fun c => absurd c (by decide)) (fun _ => ?_)
    replace hM := hM.neg (by decide)
    refine lv_aload_n hx hb dX12_looks_8 rfl (lv_at hl 0 rfl) ?_
    refine tk_geti hC hK hw hT hinX12 kM_at0 (by decide) rfl 30 (by decide) (List.mem_cons_of_mem _ uw_47_4) rfl rfl dX12_looks_9 (fun x101 c102 rx101 tx101 => ?_)
    replace hM := hM.rd (sL_at (kM_lt kM_at0) c102)
    refine lv_if_ne (tgt := 34) hx hb dX12_looks_12 (by decide) (fun c103 => ?_) (fun c103 => ?_)
    · have c103 : ¬ x101.toInt = (0 : Int) := wk_eqF c103
      replace hM := hM.pos c103
      exact J34  H locs ls w0   hw hT hF hM (lv_sub hl [0, 1] rfl)
    · have c103 : x101.toInt = (0 : Int) := wk_eq.mp c103
      replace hM := hM.neg (fun q => q c103)
      refine lv_aload_n hx hb dX12_looks_15 rfl (lv_at hl 0 rfl) ?_
      refine lv_aload_n hx hb dX12_looks_16 rfl (lv_at hl 0 rfl) ?_
      refine lv_iload_n hx hb dX12_looks_17 rfl (lv_at hl 1 rfl) ?_
      refine lv_iconst (v := 4) hx hb dX12_looks_18 (by decide) ?_
      refine tk_Vi hC hK hw hT hA hE hSR kM_at0 (by decide) rfl (ky_X12_walkerOf_3 l adK adV dC dI cy ad B hB0 (Int.le_trans hB1 (by decide)) qr s1    w0 H.size hT ) (cwV 2 hC.2.2.2.2 uV_RX12_372 rfl rfl rfl (by decide +kernel) ⟨Nat.le_of_ble_eq_true rfl, Nat.le_of_ble_eq_true rfl⟩) rfl hl.1 rfl (Nat.le_of_ble_eq_true rfl) dX12_looks_19 (fun r104 w106 H locs hp105 hw => ?_)
      obtain ⟨rfl, hv112, hg111⟩ := hp105
      obtain ⟨g108, g109, c110⟩ := hg111
      replace hM := hM.call hv112 rfl
      refine lv_bipush (v := 24) hx hb dX12_looks_22 (by decide) ?_
      refine lv_idiv hx hb dX12_looks_24 (by decide) ?_
      refine lv_topi (fun x113 ex113 => ?_)
      have ezx113 := ex113
      have ex113 : x113.toInt = r104.toInt / (24 : Int) := by rw [ex113]; exact wk_div (show 0 ≤ r104.toInt by first | with_reducible assumption | omega) (show 0 < (24 : Int) by decide)
      replace hM := hM.lt ex113.symm
      refine lv_bipush (v := 7) hx hb dX12_looks_25 (by decide) ?_
      refine lv_irem hx hb dX12_looks_27 (by decide) ?_
      refine lv_topi (fun x114 ex114 => ?_)
      have ezx114 := ex114
      have ex114 : x114.toInt = x113.toInt % (7 : Int) := by rw [ex114]; exact wk_rem (show 0 ≤ x113.toInt by first | with_reducible assumption | omega) (show 0 < (7 : Int) by decide)
      replace hM := hM.lt ex114.symm
      refine tk_Vv hC hK hw hT hA hE hSR kM_at0 (by decide) rfl (ky_X12_takesDay_1 l adK adV dC dI cy ad B hB0 (Int.le_trans hB1 (by decide)) qr s1   x114 (show 0 ≤ x114.toInt by first | with_reducible assumption | omega) (show x114.toInt ≤ 6 by first | with_reducible assumption | omega) w0 H.size hT ) (cwV 1 hC.2.2.2.2 uV_RX12_381 rfl rfl rfl (by decide +kernel) ⟨Nat.le_of_ble_eq_true rfl, Nat.le_of_ble_eq_true rfl⟩) rfl hl.1 rfl (Nat.le_of_ble_eq_true rfl) dX12_looks_28 (fun w117 H locs hp116 hw => ?_)
      obtain ⟨hT, k118, hv120, hg119⟩ := hp116
      have hF := hF.tr k118 (by decide)
      have c121 := k118.gi kM_at12 (by decide) c98
      have c122 := k118.gi kM_at0 (by decide) c102
      clear hg119
      replace hM := hM.call hv120 rfl
      refine lv_goto (tgt := 44) hx hb dX12_looks_31 (by decide) ?_
      exact J44  H locs ls w117   hw hT hF hM (lv_sub hl [0, 1] rfl)
abbrev Py_X12_isOf_4 (ad : Nat → Nat) (cy : Nat → ClassId) (B : Int) (qr : Nat) (s1 : Int) (a0 : Int32) (w0 : va_W) : Int32 → va_W → Prop := fun r u => w0 = u ∧ Ev (fun n => m_X12_isOf n a0.toInt 1 (sL w0)) (r.toInt, sL w0) ∧ ((r = 0 ∧ (¬ mOf a0 (1 : Int32))) ∨ (r = 1 ∧ (mOf a0 (1 : Int32))))
set_option maxHeartbeats 4000000 in
set_option maxRecDepth 100000 in
theorem ky_X12_isOf_4 (l : Launch) (adK adV : Nat → Nat) (dC : Nat → ClassId) (dI : Nat → Nat → Nat) (cy : Nat → ClassId) (ad : Nat → Nat) (B : Int) (hB0 : 100000 ≤ B) (hB1 : B ≤ 1073741824) (qr : Nat) (s1 : Int)  (a0 : Int32) (ra0 : 0 ≤ a0.toInt) (ta0 : a0.toInt ≤ 9) (w0 : va_W) (sz : Nat) (hT : TW ksM ad cy B qr 12 w0)  : Met l yX12_isOf (wu yX12_isOf cX12_isOf 2 (some .boolean)) ({ frames := 1, cells := 0, slots := 0, locals := 12 }) (va_Pc [.int a0, .int 1] (wpreS adK adV dC dI cy sz w0)) (va_Qi (Py_X12_isOf_4 ad cy B qr s1 a0 w0) (fun u : va_W => wpost dC dI cy (va_A w0 sz) u) (va_A w0 sz)) 0 0 (va_A w0 sz) := by
  refine Met.ofW (cc := cX12_isOf) (maxL := 2) (ret := (some .boolean)) (by decide) rfl ?_
  intro p e s m args below meth c s₁ Bk hml hv
  obtain ⟨rfl, ⟨hsz, hP, hK, hD0⟩, hE, hSR⟩ := hv
  have hx := Bk.exec
  have hb := Bk.bytes
  have hr := Bk.returns
  have hlocks := Bk.notSynchronized
  have hC : CallFix p m c cX12_isOf 2 s _ (wu yX12_isOf cX12_isOf 2 (some .boolean)) RX12 := ⟨hx, hb, hml, findClass_of_methodNamed Bk.named, atoms_spec (ws := (wu yX12_isOf cX12_isOf 2 (some .boolean))) Bk.pre⟩
  subst hsz
  have hD := hD0.self (sz := s.heap.size)
  generalize hAe : va_A w0 s.heap.size = A at hD hE ⊢
  have hA : ∀ q : Nat, s.heap.size ≤ q → A q := fun q h => by rw [← hAe]; exact Or.inr h
  have hw : Wd dC dI A s.heap s.heap [] w0 := ⟨hP, hD, va_S.rf⟩
  have hF : FE ksM ([] : List (Nat × Nat × Nat)) w0 w0 := FE.rf
  have hl := lv_entry ([.int a0, .int 1]) (n := 2) (Nat.le_of_ble_eq_true rfl)
  rw [lg_entry_eq]
  generalize (lg_sl ([.int a0, .int 1]) ++ List.replicate (2 - (lg_sl ([.int a0, .int 1])).length) Slot.unset).toArray = ls at hl ⊢
  have hl : lv_has ls 2 [(0, .int a0), (1, .int 1)] := hl
  generalize hloc : ([] : List Loc) = locs at hw ⊢
  have hM : TT (fun n => m_X12_isOf n a0.toInt 1 (sL w0)) (fun n => m_X12_isOf n a0.toInt 1 (sL w0)) := TT.rf
  refine lv_iload_n hx hb dX12_isOf_0 rfl (lv_at hl 0 rfl) ?_
  refine lv_iload_n hx hb dX12_isOf_1 rfl (lv_at hl 1 rfl) ?_
  refine lv_ishr hx hb dX12_isOf_2 ?_
  refine lv_topi (fun x1 ex1 => ?_)
  have ezx1 := ex1
  have bx1 : 0 ≤ x1.toInt ∧ x1.toInt ≤ a0.toInt := by rw [ex1]; exact wk_shr (by omega)
  replace hM := hM.lt (o32_e (f := fun x y => x >>> (y &&& 31)) ezx1 rfl (by decide))
  refine lv_iconst (v := 1) hx hb dX12_isOf_3 (by decide) ?_
  refine lv_iand hx hb dX12_isOf_4 ?_
  refine lv_topi (fun x2 ex2 => ?_)
  have ezx2 := ex2
  have bx2 : 0 ≤ x2.toInt ∧ x2.toInt ≤ (1 : Int) := by rw [ex2]; exact wk_and (by decide)
  replace hM := hM.lt (o32_e (f := fun x y => x &&& y) ezx2 rfl (by decide))
  refine lv_iconst (v := 1) hx hb dX12_isOf_5 (by decide) ?_
  refine lv_icmp_ne (tgt := 13) hx hb dX12_isOf_6 (by decide) (fun c3 => ?_) (fun c3 => ?_)
  · have c3 : ¬ x2.toInt = (1 : Int) := wk_eqF c3
    replace hM := hM.pos c3
    refine lv_iconst (v := 0) hx hb dX12_isOf_13 (by decide) ?_
    exact tk_zret hC hr rfl hlocks hK ⟨rfl, hM.ret (by decide), (Or.inl ⟨rfl, (by unfold mOf; rw [← ex1, ← ex2]; omega)⟩)⟩ hw dX12_isOf_14
  · have c3 : x2.toInt = (1 : Int) := wk_eq.mp c3
    replace hM := hM.neg (fun q => q c3)
    refine lv_iconst (v := 1) hx hb dX12_isOf_9 (by decide) ?_
    refine lv_goto (tgt := 14) hx hb dX12_isOf_10 (by decide) ?_
    exact tk_zret hC hr rfl hlocks hK ⟨rfl, hM.ret (by decide), (Or.inr ⟨rfl, (by unfold mOf; rw [← ex1, ← ex2]; omega)⟩)⟩ hw dX12_isOf_14
abbrev Py_X12_isOf_5 (ad : Nat → Nat) (cy : Nat → ClassId) (B : Int) (qr : Nat) (s1 : Int) (a0 : Int32) (w0 : va_W) : Int32 → va_W → Prop := fun r u => w0 = u ∧ Ev (fun n => m_X12_isOf n a0.toInt 0 (sL w0)) (r.toInt, sL w0) ∧ ((r = 0 ∧ (¬ mOf a0 (0 : Int32))) ∨ (r = 1 ∧ (mOf a0 (0 : Int32))))
set_option maxHeartbeats 4000000 in
set_option maxRecDepth 100000 in
theorem ky_X12_isOf_5 (l : Launch) (adK adV : Nat → Nat) (dC : Nat → ClassId) (dI : Nat → Nat → Nat) (cy : Nat → ClassId) (ad : Nat → Nat) (B : Int) (hB0 : 100000 ≤ B) (hB1 : B ≤ 1073741824) (qr : Nat) (s1 : Int)  (a0 : Int32) (ra0 : 0 ≤ a0.toInt) (ta0 : a0.toInt ≤ 9) (w0 : va_W) (sz : Nat) (hT : TW ksM ad cy B qr 12 w0)  : Met l yX12_isOf (wu yX12_isOf cX12_isOf 2 (some .boolean)) ({ frames := 1, cells := 0, slots := 0, locals := 12 }) (va_Pc [.int a0, .int 0] (wpreS adK adV dC dI cy sz w0)) (va_Qi (Py_X12_isOf_5 ad cy B qr s1 a0 w0) (fun u : va_W => wpost dC dI cy (va_A w0 sz) u) (va_A w0 sz)) 0 0 (va_A w0 sz) := by
  refine Met.ofW (cc := cX12_isOf) (maxL := 2) (ret := (some .boolean)) (by decide) rfl ?_
  intro p e s m args below meth c s₁ Bk hml hv
  obtain ⟨rfl, ⟨hsz, hP, hK, hD0⟩, hE, hSR⟩ := hv
  have hx := Bk.exec
  have hb := Bk.bytes
  have hr := Bk.returns
  have hlocks := Bk.notSynchronized
  have hC : CallFix p m c cX12_isOf 2 s _ (wu yX12_isOf cX12_isOf 2 (some .boolean)) RX12 := ⟨hx, hb, hml, findClass_of_methodNamed Bk.named, atoms_spec (ws := (wu yX12_isOf cX12_isOf 2 (some .boolean))) Bk.pre⟩
  subst hsz
  have hD := hD0.self (sz := s.heap.size)
  generalize hAe : va_A w0 s.heap.size = A at hD hE ⊢
  have hA : ∀ q : Nat, s.heap.size ≤ q → A q := fun q h => by rw [← hAe]; exact Or.inr h
  have hw : Wd dC dI A s.heap s.heap [] w0 := ⟨hP, hD, va_S.rf⟩
  have hF : FE ksM ([] : List (Nat × Nat × Nat)) w0 w0 := FE.rf
  have hl := lv_entry ([.int a0, .int 0]) (n := 2) (Nat.le_of_ble_eq_true rfl)
  rw [lg_entry_eq]
  generalize (lg_sl ([.int a0, .int 0]) ++ List.replicate (2 - (lg_sl ([.int a0, .int 0])).length) Slot.unset).toArray = ls at hl ⊢
  have hl : lv_has ls 2 [(0, .int a0), (1, .int 0)] := hl
  generalize hloc : ([] : List Loc) = locs at hw ⊢
  have hM : TT (fun n => m_X12_isOf n a0.toInt 0 (sL w0)) (fun n => m_X12_isOf n a0.toInt 0 (sL w0)) := TT.rf
  refine lv_iload_n hx hb dX12_isOf_0 rfl (lv_at hl 0 rfl) ?_
  refine lv_iload_n hx hb dX12_isOf_1 rfl (lv_at hl 1 rfl) ?_
  refine lv_ishr hx hb dX12_isOf_2 ?_
  refine lv_topi (fun x1 ex1 => ?_)
  have ezx1 := ex1
  have bx1 : 0 ≤ x1.toInt ∧ x1.toInt ≤ a0.toInt := by rw [ex1]; exact wk_shr (by omega)
  replace hM := hM.lt (o32_e (f := fun x y => x >>> (y &&& 31)) ezx1 rfl (by decide))
  refine lv_iconst (v := 1) hx hb dX12_isOf_3 (by decide) ?_
  refine lv_iand hx hb dX12_isOf_4 ?_
  refine lv_topi (fun x2 ex2 => ?_)
  have ezx2 := ex2
  have bx2 : 0 ≤ x2.toInt ∧ x2.toInt ≤ (1 : Int) := by rw [ex2]; exact wk_and (by decide)
  replace hM := hM.lt (o32_e (f := fun x y => x &&& y) ezx2 rfl (by decide))
  refine lv_iconst (v := 1) hx hb dX12_isOf_5 (by decide) ?_
  refine lv_icmp_ne (tgt := 13) hx hb dX12_isOf_6 (by decide) (fun c3 => ?_) (fun c3 => ?_)
  · have c3 : ¬ x2.toInt = (1 : Int) := wk_eqF c3
    replace hM := hM.pos c3
    refine lv_iconst (v := 0) hx hb dX12_isOf_13 (by decide) ?_
    exact tk_zret hC hr rfl hlocks hK ⟨rfl, hM.ret (by decide), (Or.inl ⟨rfl, (by unfold mOf; rw [← ex1, ← ex2]; omega)⟩)⟩ hw dX12_isOf_14
  · have c3 : x2.toInt = (1 : Int) := wk_eq.mp c3
    replace hM := hM.neg (fun q => q c3)
    refine lv_iconst (v := 1) hx hb dX12_isOf_9 (by decide) ?_
    refine lv_goto (tgt := 14) hx hb dX12_isOf_10 (by decide) ?_
    exact tk_zret hC hr rfl hlocks hK ⟨rfl, hM.ret (by decide), (Or.inr ⟨rfl, (by unfold mOf; rw [← ex1, ← ex2]; omega)⟩)⟩ hw dX12_isOf_14
abbrev Py_X12_hasSign_2 (ad : Nat → Nat) (cy : Nat → ClassId) (B : Int) (qr : Nat) (s1 : Int) (a1 : Int32) (a2 : Int32) (a3 : Int32) (w0 : va_W) : Int32 → va_W → Prop := fun r u => w0 = u ∧ Ev (fun n => m_X12_hasSign n 0 a1.toInt a2.toInt a3.toInt (sL w0)) (r.toInt, sL w0) ∧ ((r = 0 ∧ (¬ mSign w0 a1 a2.toInt a3.toInt)) ∨ (r = 0 ∧ gi u 12 (10 * a2.toInt + 10).toNat = a3 ∧ (¬ mSign w0 a1 a2.toInt a3.toInt)) ∨ (r = 1 ∧ (mSign w0 a1 a2.toInt a3.toInt)) ∨ (r = 1 ∧ gi u 12 (10 * a2.toInt + 10).toNat = a3 ∧ (mSign w0 a1 a2.toInt a3.toInt)))
set_option maxHeartbeats 4000000 in
set_option maxRecDepth 100000 in
theorem ky_X12_hasSign_2 (l : Launch) (adK adV : Nat → Nat) (dC : Nat → ClassId) (dI : Nat → Nat → Nat) (cy : Nat → ClassId) (ad : Nat → Nat) (B : Int) (hB0 : 100000 ≤ B) (hB1 : B ≤ 1073741824) (qr : Nat) (s1 : Int)  (a1 : Int32) (ra1 : 0 ≤ a1.toInt) (ta1 : a1.toInt ≤ 9) (a2 : Int32) (ra2 : 0 ≤ a2.toInt) (ta2 : a2.toInt ≤ 11) (a3 : Int32) (ra3 : 0 ≤ a3.toInt) (ta3 : a3.toInt ≤ 9) (w0 : va_W) (sz : Nat) (hT : TW ksM ad cy B qr 12 w0)  : Met l yX12_hasSign (wu yX12_hasSign cX12_hasSign 4 (some .boolean)) ({ frames := 2, cells := 0, slots := 0, locals := 34 }) (va_Pc [.ref (ad 0), .int a1, .int a2, .int a3] (wpreS adK adV dC dI cy sz w0)) (va_Qi (Py_X12_hasSign_2 ad cy B qr s1 a1 a2 a3 w0) (fun u : va_W => wpost dC dI cy (va_A w0 sz) u) (va_A w0 sz)) 0 0 (va_A w0 sz) := by
  refine Met.ofW (cc := cX12_hasSign) (maxL := 4) (ret := (some .boolean)) (by decide) rfl ?_
  intro p e s m args below meth c s₁ Bk hml hv
  obtain ⟨rfl, ⟨hsz, hP, hK, hD0⟩, hE, hSR⟩ := hv
  have hx := Bk.exec
  have hb := Bk.bytes
  have hr := Bk.returns
  have hlocks := Bk.notSynchronized
  have hC : CallFix p m c cX12_hasSign 4 s _ (wu yX12_hasSign cX12_hasSign 4 (some .boolean)) RX12 := ⟨hx, hb, hml, findClass_of_methodNamed Bk.named, atoms_spec (ws := (wu yX12_hasSign cX12_hasSign 4 (some .boolean))) Bk.pre⟩
  subst hsz
  have hD := hD0.self (sz := s.heap.size)
  generalize hAe : va_A w0 s.heap.size = A at hD hE ⊢
  have hA : ∀ q : Nat, s.heap.size ≤ q → A q := fun q h => by rw [← hAe]; exact Or.inr h
  have hw : Wd dC dI A s.heap s.heap [] w0 := ⟨hP, hD, va_S.rf⟩
  have hF : FE ksM ([] : List (Nat × Nat × Nat)) w0 w0 := FE.rf
  have hl := lv_entry ([.ref (ad 0), .int a1, .int a2, .int a3]) (n := 4) (Nat.le_of_ble_eq_true rfl)
  rw [lg_entry_eq]
  generalize (lg_sl ([.ref (ad 0), .int a1, .int a2, .int a3]) ++ List.replicate (4 - (lg_sl ([.ref (ad 0), .int a1, .int a2, .int a3])).length) Slot.unset).toArray = ls at hl ⊢
  have hl : lv_has ls 4 [(0, .ref (ad 0)), (1, .int a1), (2, .int a2), (3, .int a3)] := hl
  generalize hloc : ([] : List Loc) = locs at hw ⊢
  have hM : TT (fun n => m_X12_hasSign n 0 a1.toInt a2.toInt a3.toInt (sL w0)) (fun n => m_X12_hasSign n 0 a1.toInt a2.toInt a3.toInt (sL w0)) := TT.rf
  refine lv_iload_n hx hb dX12_hasSign_0 rfl (lv_at hl 1 rfl) ?_
  refine lv_aload_n hx hb dX12_hasSign_1 rfl (lv_at hl 0 rfl) ?_
  refine lv_iload_n hx hb dX12_hasSign_2 rfl (lv_at hl 2 rfl) ?_
  refine lv_iconst (v := 0) hx hb dX12_hasSign_3 (by decide) ?_
  refine tk_Vi hC hK hw hT hA hE hSR kM_at0 (by decide) rfl (ky_X12_streetOf_3 l adK adV dC dI cy ad B hB0 (Int.le_trans hB1 (by decide)) qr s1   a2 (show 0 ≤ a2.toInt from ra2) (show a2.toInt ≤ 11 from ta2) w0 s.heap.size hT ) (cwV 2 hC.2.2.2.2 uV_RX12_300 rfl rfl rfl (by decide +kernel) ⟨Nat.le_of_ble_eq_true rfl, Nat.le_of_ble_eq_true rfl⟩) rfl hl.1 rfl (Nat.le_of_ble_eq_true rfl) dX12_hasSign_4 (fun r1 w3 H locs hp2 hw => ?_)
  obtain ⟨rfl, hv9, hg8⟩ := hp2
  obtain ⟨g5, g6, c7⟩ := hg8
  replace hM := hM.call hv9 rfl
  refine lv_iload_n hx hb dX12_hasSign_7 rfl (lv_at hl 3 rfl) ?_
  refine lv_icmp_ne (tgt := 15) hx hb dX12_hasSign_8 (by decide) (fun c10 => ?_) (fun c10 => ?_)
  · have c10 : ¬ r1.toInt = a3.toInt := wk_eqF c10
    replace hM := hM.pos c10
    refine lv_iconst (v := 1) hx hb dX12_hasSign_15 (by decide) ?_
    refine tk_Si hC hK hw hT hA hE hSR (ky_X12_isOf_4 l adK adV dC dI cy ad B hB0 (Int.le_trans hB1 (by decide)) qr s1   a1 (show 0 ≤ a1.toInt from ra1) (show a1.toInt ≤ 9 from ta1) w0 H.size hT ) (va_cwS 2 hC.2.2.2.2 uS_RX12_304 rfl rfl rfl (by decide +kernel) ⟨Nat.le_of_ble_eq_true rfl, Nat.le_of_ble_eq_true rfl⟩) rfl hl.1 rfl (Nat.le_of_ble_eq_true rfl) dX12_hasSign_16 (fun r11 w13 H locs hp12 hw => ?_)
    obtain ⟨rfl, hv18, hg17⟩ := hp12
    rcases hg17 with ⟨rfl, hq15⟩ | ⟨rfl, hq16⟩
    · replace hM := hM.call (r' := 0) hv18 (by decide)
      exact tk_zret hC hr rfl hlocks hK ⟨rfl, hM.ret (by decide), (Or.inl ⟨rfl, (by unfold mSign; simp only [c7]; first | exact Or.inl ⟨by omega, by assumption⟩ | exact Or.inr ⟨by omega, by assumption⟩ | (rintro (⟨q1, q2⟩ | ⟨q1, q2⟩) <;> first | omega | contradiction))⟩)⟩ hw dX12_hasSign_19
    · replace hM := hM.call (r' := 1) hv18 (by decide)
      exact tk_zret hC hr rfl hlocks hK ⟨rfl, hM.ret (by decide), (Or.inr (Or.inr (Or.inl ⟨rfl, (by unfold mSign; simp only [c7]; first | exact Or.inl ⟨by omega, by assumption⟩ | exact Or.inr ⟨by omega, by assumption⟩ | (rintro (⟨q1, q2⟩ | ⟨q1, q2⟩) <;> first | omega | contradiction))⟩)))⟩ hw dX12_hasSign_19
  · have c10 : r1.toInt = a3.toInt := wk_eq.mp c10
    replace hM := hM.neg (fun q => q c10)
    refine lv_iconst (v := 0) hx hb dX12_hasSign_11 (by decide) ?_
    refine lv_goto (tgt := 16) hx hb dX12_hasSign_12 (by decide) ?_
    refine tk_Si hC hK hw hT hA hE hSR (ky_X12_isOf_5 l adK adV dC dI cy ad B hB0 (Int.le_trans hB1 (by decide)) qr s1   a1 (show 0 ≤ a1.toInt from ra1) (show a1.toInt ≤ 9 from ta1) w0 H.size hT ) (va_cwS 2 hC.2.2.2.2 uS_RX12_304 rfl rfl rfl (by decide +kernel) ⟨Nat.le_of_ble_eq_true rfl, Nat.le_of_ble_eq_true rfl⟩) rfl hl.1 rfl (Nat.le_of_ble_eq_true rfl) dX12_hasSign_16 (fun r19 w21 H locs hp20 hw => ?_)
    obtain ⟨rfl, hv26, hg25⟩ := hp20
    rcases hg25 with ⟨rfl, hq23⟩ | ⟨rfl, hq24⟩
    · replace hM := hM.call (r' := 0) hv26 (by decide)
      exact tk_zret hC hr rfl hlocks hK ⟨rfl, hM.ret (by decide), (Or.inr (Or.inl ⟨rfl, (c7.trans (wk_eq.mpr (show r1.toInt = a3.toInt by first | exact Int.le_antisymm (by omega) (by omega) | omega))), (by unfold mSign; simp only [c7]; first | exact Or.inl ⟨by omega, by assumption⟩ | exact Or.inr ⟨by omega, by assumption⟩ | (rintro (⟨q1, q2⟩ | ⟨q1, q2⟩) <;> first | omega | contradiction))⟩))⟩ hw dX12_hasSign_19
    · replace hM := hM.call (r' := 1) hv26 (by decide)
      exact tk_zret hC hr rfl hlocks hK ⟨rfl, hM.ret (by decide), (Or.inr (Or.inr (Or.inr ⟨rfl, (c7.trans (wk_eq.mpr (show r1.toInt = a3.toInt by first | exact Int.le_antisymm (by omega) (by omega) | omega))), (by unfold mSign; simp only [c7]; first | exact Or.inl ⟨by omega, by assumption⟩ | exact Or.inr ⟨by omega, by assumption⟩ | (rintro (⟨q1, q2⟩ | ⟨q1, q2⟩) <;> first | omega | contradiction))⟩)))⟩ hw dX12_hasSign_19
