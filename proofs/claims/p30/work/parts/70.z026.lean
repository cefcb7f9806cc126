abbrev Pz_X12_makes_1 (ad : Nat → Nat) (cy : Nat → ClassId) (B : Int) (qr : Nat) (s1 : Int) (a1 : Int32) (w0 : va_W) : Int32 → va_W → Prop := fun r u => TW ksM ad cy B qr 12 u ∧ FE ksM [(12, 15, 15), (12, 18, 18)] w0 u ∧ Ev (fun n => m_X12_makes n 0 a1.toInt (sI w0)) (r.toInt, sI u) ∧ ((r = 0 ∧ (∃ y : Int32, gi u 0 15 = y ∧ 1 ≤ y.toInt ∧ y.toInt ≤ 3205) ∧ (∃ y : Int32, gi u 0 18 = y ∧ 60 ≤ y.toInt ∧ y.toInt ≤ 60)) ∨ (r = 1 ∧ (∃ y : Int32, gi u 0 18 = y ∧ 1 ≤ y.toInt ∧ y.toInt ≤ 60) ∧ ((gi u 0 18).toInt = (gi w0 0 18).toInt + 1)))
set_option maxHeartbeats 4000000 in
set_option maxRecDepth 100000 in
theorem kz_X12_makes_1 (l : Launch) (adK adV : Nat → Nat) (dC : Nat → ClassId) (dI : Nat → Nat → Nat) (cy : Nat → ClassId) (ad : Nat → Nat) (B : Int) (hB0 : 100000 ≤ B) (hB1 : B ≤ 1073741824) (qr : Nat) (s1 : Int)  (a1 : Int32) (ra1 : 0 ≤ a1.toInt) (ta1 : a1.toInt ≤ 399) (w0 : va_W) (sz : Nat) (hT : TW ksM ad cy B qr 12 w0) (f0_ : Int32) (cf0_ : gi w0 0 18 = f0_) (rf0_ : 0 ≤ f0_.toInt) (tf0_ : f0_.toInt ≤ 60) : Met l yX12_makes (wu yX12_makes cX12_makes 2 (some .boolean)) ({ frames := 2, cells := 0, slots := 0, locals := 34 }) (va_Pc [.ref (ad 0), .int a1] (wpreS adK adV dC dI cy sz w0)) (va_Qi (Pz_X12_makes_1 ad cy B qr s1 a1 w0) (fun u : va_W => wpost dC dI cy (va_A w0 sz) u) (va_A w0 sz)) 0 0 (va_A w0 sz) := by
  refine Met.ofW (cc := cX12_makes) (maxL := 2) (ret := (some .boolean)) (by decide) rfl ?_
  intro p e s m args below meth c s₁ Bk hml hv
  obtain ⟨rfl, ⟨hsz, hP, hK, hD0⟩, hE, hSR⟩ := hv
  have hx := Bk.exec
  have hb := Bk.bytes
  have hr := Bk.returns
  have hlocks := Bk.notSynchronized
  have hC : CallFix p m c cX12_makes 2 s _ (wu yX12_makes cX12_makes 2 (some .boolean)) RX12 := ⟨hx, hb, hml, findClass_of_methodNamed Bk.named, atoms_spec (ws := (wu yX12_makes cX12_makes 2 (some .boolean))) Bk.pre⟩
  subst hsz
  have hD := hD0.self (sz := s.heap.size)
  generalize hAe : va_A w0 s.heap.size = A at hD hE ⊢
  have hA : ∀ q : Nat, s.heap.size ≤ q → A q := fun q h => by rw [← hAe]; exact Or.inr h
  have hw : Wd dC dI A s.heap s.heap [] w0 := ⟨hP, hD, va_S.rf⟩
  have hF : FE ksM [(12, 15, 15), (12, 18, 18)] w0 w0 := FE.rf
  have hl := lv_entry ([.ref (ad 0), .int a1]) (n := 2) (Nat.le_of_ble_eq_true rfl)
  rw [lg_entry_eq]
  generalize (lg_sl ([.ref (ad 0), .int a1]) ++ List.replicate (2 - (lg_sl ([.ref (ad 0), .int a1])).length) Slot.unset).toArray = ls at hl ⊢
  have hl : lv_has ls 2 [(0, .ref (ad 0)), (1, .int a1)] := hl
  generalize hloc : ([] : List Loc) = locs at hw ⊢
  have hinX12 : ∀ w ∈ u_ws RX12 TX12 42, w ∈ (wu yX12_makes cX12_makes 2 (some .boolean)) := fun _ h => List.mem_cons_of_mem _ (up_71 h)
  have hM : TT (fun n => m_X12_makes n 0 a1.toInt (sI w0)) (fun n => m_X12_makes n 0 a1.toInt (sI w0)) := TT.rf
  refine lv_aload_n hx hb dX12_makes_0 rfl (lv_at hl 0 rfl) ?_
  refine tk_geti hC hK hw hT hinX12 kM_at0 (by decide) rfl 18 (by decide) (List.mem_cons_of_mem _ uw_19_19) rfl rfl dX12_makes_1 (fun x1 c2 rx1 tx1 => ?_)
  refine wk_top f0_ (c2.symm.trans cf0_) ?_
  replace hM := hM.rd (sI_at cf0_)
  refine lv_bipush (v := 60) hx hb dX12_makes_4 (by decide) ?_
  refine lv_icmp_ne (tgt := 16) hx hb dX12_makes_6 (by decide) (fun c3 => ?_) (fun c3 => ?_)
  · have c3 : ¬ f0_.toInt = (60 : Int) := wk_eqF c3
    replace hM := hM.pos c3
    refine lv_aload_n hx hb dX12_makes_16 rfl (lv_at hl 0 rfl) ?_
    refine lv_dup hx hb dX12_makes_17 rfl ?_
    refine tk_geti hC hK hw hT hinX12 kM_at0 (by decide) rfl 18 (by decide) (List.mem_cons_of_mem _ uw_19_19) rfl rfl dX12_makes_18 (fun x4 c5 rx4 tx4 => ?_)
    refine wk_top f0_ (c5.symm.trans cf0_) ?_
    replace hM := hM.rd (sI_at cf0_)
    refine lv_iconst (v := 1) hx hb dX12_makes_21 (by decide) ?_
    refine lv_iadd hx hb dX12_makes_22 ?_
    refine lv_topi (fun x6 ex6 => ?_)
    have ezx6 := ex6
    have ex6 : x6.toInt = f0_.toInt + (1 : Int) := by rw [ex6]; exact wk_add (show (-2147483648) ≤ f0_.toInt + (1 : Int) by omega) (show f0_.toInt + (1 : Int) ≤ 2147483647 by omega)
    replace hM := hM.lt ex6.symm
    refine tk_puti hC hK hw hT hinX12 tyX12_ok nmX12 kM_at0 (by decide) rfl rfl 18 (by decide) (List.mem_cons_of_mem _ uw_19_19) rfl rfl rfl rfl (show 0 ≤ x6.toInt by first | with_reducible assumption | omega) (show x6.toInt ≤ 60 by first | with_reducible assumption | omega) dX12_makes_23 (fun H locs w7 hw hT k9 c8 => ?_)
    replace hM := hM.wr (sI_up k9 c8)
    have hF := hF.put kM_at0 (k := 18) (by decide) k9
    refine lv_iconst (v := 1) hx hb dX12_makes_26 (by decide) ?_
    exact tk_zret hC hr rfl hlocks hK ⟨hT, hF, hM.ret (by decide), (Or.inr ⟨rfl, ⟨x6, c8, (show 1 ≤ x6.toInt by first | with_reducible assumption | omega), (show x6.toInt ≤ 60 by first | with_reducible assumption | omega)⟩, (by simp only [cf0_, c8]; omega)⟩)⟩ hw dX12_makes_27
  · have c3 : f0_.toInt = (60 : Int) := wk_eq.mp c3
    replace hM := hM.neg (fun q => q c3)
    refine lv_aload_n hx hb dX12_makes_9 rfl (lv_at hl 0 rfl) ?_
    refine lv_iconst (v := 3) hx hb dX12_makes_10 (by decide) ?_
    refine lv_iload_n hx hb dX12_makes_11 rfl (lv_at hl 1 rfl) ?_
    refine tk_Vi hC hK hw hT hA hE hSR kM_at0 (by decide) rfl (kz_X12_fails_1 l adK adV dC dI cy ad B hB0 (Int.le_trans hB1 (by decide)) qr s1   3 (by decide) (by decide) a1 (show 0 ≤ a1.toInt from ra1) (show a1.toInt ≤ 400 from Int.le_trans ta1 (by decide)) w0 s.heap.size hT ) (cwV 2 hC.2.2.2.2 uV_RX12_115 rfl rfl rfl (by decide +kernel) ⟨Nat.le_of_ble_eq_true rfl, Nat.le_of_ble_eq_true rfl⟩) rfl hl.1 rfl (Nat.le_of_ble_eq_true rfl) dX12_makes_12 (fun r10 w12 H locs hp11 hw => ?_)
    obtain ⟨hT, k13, hv17, hg16⟩ := hp11
    try simp only [show (3 : Int32).toInt = 3 by decide] at hv17
    have hF := hF.tr k13 (by decide)
    have c18 := k13.gi kM_at0 (by decide) cf0_
    obtain ⟨rfl, ⟨x14, c15, rx14, tx14⟩⟩ := hg16
    replace hM := hM.call (r' := 0) hv17 (by decide)
    exact tk_zret hC hr rfl hlocks hK ⟨hT, hF, hM.ret (by decide), (Or.inl ⟨rfl, ⟨x14, c15, (show 1 ≤ x14.toInt by first | with_reducible assumption | omega), (show x14.toInt ≤ 3205 by first | with_reducible assumption | omega)⟩, ⟨f0_, c18, (show 60 ≤ f0_.toInt by first | with_reducible assumption | omega), (show f0_.toInt ≤ 60 from tf0_)⟩⟩)⟩ hw dX12_makes_15
abbrev Pz_X12_in_9 (ad : Nat → Nat) (cy : Nat → ClassId) (B : Int) (qr : Nat) (s1 : Int) (a0 : Int64) (w0 : va_W) : Int32 → va_W → Prop := fun r u => w0 = u ∧ Ev (fun n => m_X12_in n a0.toInt 0 99999 (sI w0)) (r.toInt, sI w0) ∧ ((r = 0) ∨ (r = 1 ∧ 0 ≤ a0.toInt ∧ a0.toInt ≤ 99999))
set_option maxHeartbeats 4000000 in
set_option maxRecDepth 100000 in
theorem kz_X12_in_9 (l : Launch) (adK adV : Nat → Nat) (dC : Nat → ClassId) (dI : Nat → Nat → Nat) (cy : Nat → ClassId) (ad : Nat → Nat) (B : Int) (hB0 : 100000 ≤ B) (hB1 : B ≤ 1073741824) (qr : Nat) (s1 : Int)  (a0 : Int64) (ra0 : (-2147483648) ≤ a0.toInt) (ta0 : a0.toInt ≤ 2147483647) (w0 : va_W) (sz : Nat) (hT : TW ksM ad cy B qr 12 w0)  : Met l yX12_in (wu yX12_in cX12_in 6 (some .boolean)) ({ frames := 1, cells := 0, slots := 0, locals := 12 }) (va_Pc [.long a0, .long 0, .long 99999] (wpreS adK adV dC dI cy sz w0)) (va_Qi (Pz_X12_in_9 ad cy B qr s1 a0 w0) (fun u : va_W => wpost dC dI cy (va_A w0 sz) u) (va_A w0 sz)) 0 0 (va_A w0 sz) := by
  refine Met.ofW (cc := cX12_in) (maxL := 6) (ret := (some .boolean)) (by decide) rfl ?_
  intro p e s m args below meth c s₁ Bk hml hv
  obtain ⟨rfl, ⟨hsz, hP, hK, hD0⟩, hE, hSR⟩ := hv
  have hx := Bk.exec
  have hb := Bk.bytes
  have hr := Bk.returns
  have hlocks := Bk.notSynchronized
  have hC : CallFix p m c cX12_in 6 s _ (wu yX12_in cX12_in 6 (some .boolean)) RX12 := ⟨hx, hb, hml, findClass_of_methodNamed Bk.named, atoms_spec (ws := (wu yX12_in cX12_in 6 (some .boolean))) Bk.pre⟩
  subst hsz
  have hD := hD0.self (sz := s.heap.size)
  generalize hAe : va_A w0 s.heap.size = A at hD hE ⊢
  have hA : ∀ q : Nat, s.heap.size ≤ q → A q := fun q h => by rw [← hAe]; exact Or.inr h
  have hw : Wd dC dI A s.heap s.heap [] w0 := ⟨hP, hD, va_S.rf⟩
  have hF : FE ksM ([] : List (Nat × Nat × Nat)) w0 w0 := FE.rf
  have hl := lv_entry ([.long a0, .long 0, .long 99999]) (n := 6) (Nat.le_of_ble_eq_true rfl)
  rw [lg_entry_eq]
  generalize (lg_sl ([.long a0, .long 0, .long 99999]) ++ List.replicate (6 - (lg_sl ([.long a0, .long 0, .long 99999])).length) Slot.unset).toArray = ls at hl ⊢
  have hl : lv_has ls 6 [(0, .long a0), (2, .long 0), (4, .long 99999)] := hl
  generalize hloc : ([] : List Loc) = locs at hw ⊢
  have J17 : ∀ (H : Heap) (locs : List Loc) (ls : Array Slot), (-2147483648) ≤ a0.toInt → a0.toInt ≤ 2147483647 → Wd dC dI A s.heap H locs w0 → TT (fun n => m_X12_in n a0.toInt 0 99999 (sI w0)) (fun n => b_X12_in_17 n (sI w0)) → lv_has ls 6 [(0, .long a0), (2, .long 0), (4, .long 99999)] → W p l e ({ frames := 1, cells := 0, slots := 0, locals := 12 }) s m (List.toArray [.long a0, .long 0, .long 99999]) below meth c H locs 0 0 (MQ below (va_Qi (Pz_X12_in_9 ad cy B qr s1 a0 w0) (fun u : va_W => wpost dC dI cy A u) A) (List.toArray [.long a0, .long 0, .long 99999]) s 0 0 A) (F0 m 17 ls []) := by
    intro H locs ls r1 t2 hw hM hl
    refine lv_iconst (v := 0) hx hb dX12_in_17 (by decide) ?_
    exact tk_zret hC hr rfl hlocks hK ⟨rfl, hM.ret (by decide), (Or.inl rfl)⟩ hw dX12_in_18
  have hM : TT (fun n => m_X12_in n a0.toInt 0 99999 (sI w0)) (fun n => m_X12_in n a0.toInt 0 99999 (sI w0)) := TT.rf
  refine lv_lload_n hx hb dX12_in_0 rfl (lv_at hl 0 rfl) ?_
  refine lv_lload_n hx hb dX12_in_1 rfl (lv_at hl 1 rfl) ?_
  refine W.lcmp hx hb dX12_in_2 ?_
  refine lv_if_lt (tgt := 17) hx hb dX12_in_3 (by decide) (fun c3 => ?_) (fun c3 => ?_)
  · have c3 : a0.toInt < (0 : Int) := wk_cltT c3
    replace hM := hM.pos c3
    exact J17  s.heap locs ls  (show (-2147483648) ≤ a0.toInt from ra0) (show a0.toInt ≤ 2147483647 from ta0)  hw  hM (lv_sub hl [0, 1, 2] rfl)
  · have c3 : (0 : Int) ≤ a0.toInt := wk_cltF c3
    replace hM := hM.neg (Int.not_lt.mpr c3)
    refine lv_lload_n hx hb dX12_in_6 rfl (lv_at hl 0 rfl) ?_
    refine lv_lload hx hb dX12_in_7 (lv_at hl 2 rfl) ?_
    refine W.lcmp hx hb dX12_in_9 ?_
    refine lv_if_gt (tgt := 17) hx hb dX12_in_10 (by decide) (fun c4 => ?_) (fun c4 => ?_)
    · have c4 : (99999 : Int) < a0.toInt := wk_cgtT c4
      replace hM := hM.pos c4
      exact J17  s.heap locs ls  (show (-2147483648) ≤ a0.toInt from ra0) (show a0.toInt ≤ 2147483647 from ta0)  hw  hM (lv_sub hl [0, 1, 2] rfl)
    · have c4 : a0.toInt ≤ (99999 : Int) := wk_cgtF c4
      replace hM := hM.neg (Int.not_lt.mpr c4)
      refine lv_iconst (v := 1) hx hb dX12_in_13 (by decide) ?_
      refine lv_goto (tgt := 18) hx hb dX12_in_14 (by decide) ?_
      exact tk_zret hC hr rfl hlocks hK ⟨rfl, hM.ret (by decide), (Or.inr ⟨rfl, (show 0 ≤ a0.toInt by first | with_reducible assumption | omega), (show a0.toInt ≤ 99999 by first | with_reducible assumption | omega)⟩)⟩ hw dX12_in_18
abbrev Pz_X12_numberHere_9 (ad : Nat → Nat) (cy : Nat → ClassId) (B : Int) (qr : Nat) (s1 : Int)  (w0 : va_W) : Int32 → va_W → Prop := fun r u => TW ksM ad cy B qr 12 u ∧ FE ksM [(12, 14, 14), (12, 15, 15), (12, 16, 16)] w0 u ∧ Ev (fun n => m_X12_numberHere n 0 0 99999 (sI w0)) (r.toInt, sI u) ∧ ((r = 0 ∧ (∃ y : Int32, gi u 0 1 = y ∧ 1 ≤ y.toInt ∧ y.toInt ≤ 400) ∧ (∃ y : Int32, gi u 0 15 = y ∧ 1 ≤ y.toInt ∧ y.toInt ≤ 3205)) ∨ (r = 0 ∧ (∃ y : Int32, gi u 0 1 = y ∧ 0 ≤ y.toInt ∧ y.toInt ≤ 400) ∧ (∃ y : Int32, gi u 0 15 = y ∧ 1 ≤ y.toInt ∧ y.toInt ≤ 3205)) ∨ (r = 1 ∧ (∃ y : Int32, gi u 0 1 = y ∧ 1 ≤ y.toInt ∧ y.toInt ≤ 400) ∧ (∃ y : Int32, gi u 0 16 = y ∧ 0 ≤ y.toInt ∧ y.toInt ≤ 99999)))
set_option maxHeartbeats 4000000 in
set_option maxRecDepth 100000 in
theorem kz_X12_numberHere_9 (l : Launch) (adK adV : Nat → Nat) (dC : Nat → ClassId) (dI : Nat → Nat → Nat) (cy : Nat → ClassId) (ad : Nat → Nat) (B : Int) (hB0 : 100000 ≤ B) (hB1 : B ≤ 1073741824) (qr : Nat) (s1 : Int)   (w0 : va_W) (sz : Nat) (hT : TW ksM ad cy B qr 12 w0)  : Met l yX12_numberHere (wu yX12_numberHere cX12_numberHere 5 (some .boolean)) ({ frames := 2, cells := 0, slots := 0, locals := 37 }) (va_Pc [.ref (ad 0), .int 0, .int 99999] (wpreS adK adV dC dI cy sz w0)) (va_Qi (Pz_X12_numberHere_9 ad cy B qr s1  w0) (fun u : va_W => wpost dC dI cy (va_A w0 sz) u) (va_A w0 sz)) 0 0 (va_A w0 sz) := by
  refine Met.ofW (cc := cX12_numberHere) (maxL := 5) (ret := (some .boolean)) (by decide) rfl ?_
  intro p e s m args below meth c s₁ Bk hml hv
  obtain ⟨rfl, ⟨hsz, hP, hK, hD0⟩, hE, hSR⟩ := hv
  have hx := Bk.exec
  have hb := Bk.bytes
  have hr := Bk.returns
  have hlocks := Bk.notSynchronized
  have hC : CallFix p m c cX12_numberHere 5 s _ (wu yX12_numberHere cX12_numberHere 5 (some .boolean)) RX12 := ⟨hx, hb, hml, findClass_of_methodNamed Bk.named, atoms_spec (ws := (wu yX12_numberHere cX12_numberHere 5 (some .boolean))) Bk.pre⟩
  subst hsz
  have hD := hD0.self (sz := s.heap.size)
  generalize hAe : va_A w0 s.heap.size = A at hD hE ⊢
  have hA : ∀ q : Nat, s.heap.size ≤ q → A q := fun q h => by rw [← hAe]; exact Or.inr h
  have hw : Wd dC dI A s.heap s.heap [] w0 := ⟨hP, hD, va_S.rf⟩
  have hF : FE ksM [(12, 14, 14), (12, 15, 15), (12, 16, 16)] w0 w0 := FE.rf
  have hl := lv_entry ([.ref (ad 0), .int 0, .int 99999]) (n := 5) (Nat.le_of_ble_eq_true rfl)
  rw [lg_entry_eq]
  generalize (lg_sl ([.ref (ad 0), .int 0, .int 99999]) ++ List.replicate (5 - (lg_sl ([.ref (ad 0), .int 0, .int 99999])).length) Slot.unset).toArray = ls at hl ⊢
  have hl : lv_has ls 5 [(0, .ref (ad 0)), (1, .int 0), (2, .int 99999)] := hl
  generalize hloc : ([] : List Loc) = locs at hw ⊢
  have hinX12 : ∀ w ∈ u_ws RX12 TX12 42, w ∈ (wu yX12_numberHere cX12_numberHere 5 (some .boolean)) := fun _ h => List.mem_cons_of_mem _ (up_71 h)
  have J126 : ∀ (v126_3 : Int32) (v126_4 : Int32) (f126_0_1 : Int32) (f126_0_14 : Int32) (f126_0_16 : Int32) (H : Heap) (locs : List Loc) (ls : Array Slot) (w1 : va_W), 0 ≤ v126_3.toInt → v126_3.toInt ≤ 399 → 0 ≤ v126_4.toInt → v126_4.toInt ≤ 99999 → 1 ≤ f126_0_1.toInt → f126_0_1.toInt ≤ 400 → 0 ≤ f126_0_14.toInt → f126_0_14.toInt ≤ 400 → 0 ≤ f126_0_16.toInt → f126_0_16.toInt ≤ 99999 → Wd dC dI A s.heap H locs w1 → TW ksM ad cy B qr 12 w1 → FE ksM [(12, 14, 14), (12, 15, 15), (12, 16, 16)] w0 w1 → gi w1 0 1 = f126_0_1 → gi w1 0 14 = f126_0_14 → gi w1 0 16 = f126_0_16 → TT (fun n => m_X12_numberHere n 0 0 99999 (sI w0)) (fun n => b_X12_numberHere_126 (j_X12_numberHere 0 n) n 0 (sI w1)) → lv_has ls 5 [(0, .ref (ad 0)), (1, .int 0), (2, .int 99999), (3, .int v126_3), (4, .int v126_4)] → W p l e ({ frames := 2, cells := 0, slots := 0, locals := 37 }) s m (List.toArray [.ref (ad 0), .int 0, .int 99999]) below meth c H locs 0 0 (MQ below (va_Qi (Pz_X12_numberHere_9 ad cy B qr s1  w0) (fun u : va_W => wpost dC dI cy A u) A) (List.toArray [.ref (ad 0), .int 0, .int 99999]) s 0 0 A) (F0 m 126 ls []) := by
    intro v126_3 v126_4 f126_0_1 f126_0_14 f126_0_16 H locs ls w1 r2 t3 r4 t5 r6 t7 r9 t10 r12 t13 hw hT hF c8 c11 c14 hM hl
    refine lv_iconst (v := 1) hx hb dX12_numberHere_126 (by decide) ?_
    refine lv_goto (tgt := 131) hx hb dX12_numberHere_127 (by decide) ?_
    exact tk_zret hC hr rfl hlocks hK ⟨hT, hF, hM.ret (by decide), (Or.inr (Or.inr ⟨rfl, ⟨f126_0_1, c8, (show 1 ≤ f126_0_1.toInt from r6), (show f126_0_1.toInt ≤ 400 from t7)⟩, ⟨f126_0_16, c14, (show 0 ≤ f126_0_16.toInt from r12), (show f126_0_16.toInt ≤ 99999 from t13)⟩⟩))⟩ hw dX12_numberHere_131
  have J117 : ∀ (v117_3 : Int32) (v117_4 : Int32) (f117_0_1 : Int32) (f117_0_14 : Int32) (f117_0_16 : Int32) (H : Heap) (locs : List Loc) (ls : Array Slot) (w15 : va_W), 0 ≤ v117_3.toInt → v117_3.toInt ≤ 399 → 1 ≤ f117_0_1.toInt → f117_0_1.toInt ≤ 400 → 0 ≤ f117_0_14.toInt → f117_0_14.toInt ≤ 400 → Wd dC dI A s.heap H locs w15 → TW ksM ad cy B qr 12 w15 → FE ksM [(12, 14, 14), (12, 15, 15), (12, 16, 16)] w0 w15 → gi w15 0 1 = f117_0_1 → gi w15 0 14 = f117_0_14 → gi w15 0 16 = f117_0_16 → TT (fun n => m_X12_numberHere n 0 0 99999 (sI w0)) (fun n => b_X12_numberHere_117 (j_X12_numberHere 0 n) n 0 (v117_3.toInt) (sI w15)) → lv_has ls 5 [(0, .ref (ad 0)), (1, .int 0), (2, .int 99999), (3, .int v117_3), (4, .int v117_4)] → W p l e ({ frames := 2, cells := 0, slots := 0, locals := 37 }) s m (List.toArray [.ref (ad 0), .int 0, .int 99999]) below meth c H locs 0 0 (MQ below (va_Qi (Pz_X12_numberHere_9 ad cy B qr s1  w0) (fun u : va_W => wpost dC dI cy A u) A) (List.toArray [.ref (ad 0), .int 0, .int 99999]) s 0 0 A) (F0 m 117 ls []) := by
    intro v117_3 v117_4 f117_0_1 f117_0_14 f117_0_16 H locs ls w15 r16 t17 r18 t19 r21 t22 hw hT hF c20 c23 c24 hM hl
    refine lv_aload_n hx hb dX12_numberHere_117 rfl (lv_at hl 0 rfl) ?_
    refine lv_iconst (v := 1) hx hb dX12_numberHere_118 (by decide) ?_
    refine lv_iload_n hx hb dX12_numberHere_119 rfl (lv_at hl 3 rfl) ?_
    refine tk_Vi hC hK hw hT hA hE hSR kM_at0 (by decide) rfl (kz_X12_fails_1 l adK adV dC dI cy ad B hB0 (Int.le_trans hB1 (by decide)) qr s1   1 (by decide) (by decide) v117_3 (show 0 ≤ v117_3.toInt from r16) (show v117_3.toInt ≤ 400 from Int.le_trans t17 (by decide)) w15 H.size hT ) (cwV 2 hC.2.2.2.2 uV_RX12_115 rfl rfl rfl (by decide +kernel) ⟨Nat.le_of_ble_eq_true rfl, Nat.le_of_ble_eq_true rfl⟩) rfl hl.1 rfl (Nat.le_of_ble_eq_true rfl) dX12_numberHere_120 (fun r25 w27 H locs hp26 hw => ?_)
    obtain ⟨hT, k28, hv32, hg31⟩ := hp26
    try simp only [show (1 : Int32).toInt = 1 by decide] at hv32
    have hF := hF.tr k28 (by decide)
    have c33 := k28.gi kM_at0 (by decide) c20
    have c34 := k28.gi kM_at0 (by decide) c23
    have c35 := k28.gi kM_at0 (by decide) c24
    obtain ⟨rfl, ⟨x29, c30, rx29, tx29⟩⟩ := hg31
    replace hM := hM.call (r' := 0) hv32 (by decide)
    refine lv_if_eq (tgt := 130) hx hb dX12_numberHere_123 (by decide) (fun _ => ?_) (fun c => absurd (by decide) c)
    replace hM := hM.pos (by decide)
    refine lv_iconst (v := 0) hx hb dX12_numberHere_130 (by decide) ?_
    exact tk_zret hC hr rfl hlocks hK ⟨hT, hF, hM.ret (by decide), (Or.inl ⟨rfl, ⟨f117_0_1, c33, (show 1 ≤ f117_0_1.toInt from r18), (show f117_0_1.toInt ≤ 400 from t19)⟩, ⟨x29, c30, (show 1 ≤ x29.toInt by first | with_reducible assumption | omega), (show x29.toInt ≤ 3205 by first | with_reducible assumption | omega)⟩⟩)⟩ hw dX12_numberHere_131
  have L34 : ∀ (n34 : Nat) (v34_3 : Int32) (v34_4 : Int32) (f34_0_1 : Int32) (f34_0_14 : Int32) (H : Heap) (locs : List Loc) (ls : Array Slot) (w36 : va_W), 0 ≤ v34_3.toInt → v34_3.toInt ≤ 399 → 1 ≤ f34_0_1.toInt → f34_0_1.toInt ≤ 400 → 0 ≤ f34_0_14.toInt → f34_0_14.toInt ≤ 400 → (400 - f34_0_14.toInt).toNat < n34 → Wd dC dI A s.heap H locs w36 → TW ksM ad cy B qr 12 w36 → FE ksM [(12, 14, 14), (12, 15, 15), (12, 16, 16)] w0 w36 → gi w36 0 1 = f34_0_1 → gi w36 0 14 = f34_0_14 → TT (fun n => m_X12_numberHere n 0 0 99999 (sI w0)) (fun n => j_X12_numberHere 0 n 34 [(0 : Int), (99999 : Int), v34_3.toInt, v34_4.toInt] (sI w36)) → lv_has ls 5 [(0, .ref (ad 0)), (1, .int 0), (2, .int 99999), (3, .int v34_3), (4, .int v34_4)] → W p l e ({ frames := 2, cells := 0, slots := 0, locals := 37 }) s m (List.toArray [.ref (ad 0), .int 0, .int 99999]) below meth c H locs 0 0 (MQ below (va_Qi (Pz_X12_numberHere_9 ad cy B qr s1  w0) (fun u : va_W => wpost dC dI cy A u) A) (List.toArray [.ref (ad 0), .int 0, .int 99999]) s 0 0 A) (F0 m 34 ls []) := by
    intro n34
    induction n34 with
    | zero => intro v34_3 v34_4 f34_0_1 f34_0_14 H locs ls w36 r37 t38 r39 t40 r42 t43 hm34 hw hT hF c41 c44 hM hl; omega
    | succ n34 ih34 =>
      intro v34_3 v34_4 f34_0_1 f34_0_14 H locs ls w36 r37 t38 r39 t40 r42 t43 hm34 hw hT hF c41 c44 hM hl
      have J75 : ∀ (v75_4 : Int32) (H : Heap) (locs : List Loc) (ls : Array Slot) (w45 : va_W), 0 ≤ v34_3.toInt → v34_3.toInt ≤ 399 → 1 ≤ f34_0_1.toInt → f34_0_1.toInt ≤ 400 → 0 ≤ f34_0_14.toInt → f34_0_14.toInt ≤ 399 → Wd dC dI A s.heap H locs w45 → TW ksM ad cy B qr 12 w45 → FE ksM [(12, 14, 14), (12, 15, 15), (12, 16, 16)] w0 w45 → gi w45 0 1 = f34_0_1 → gi w45 0 14 = f34_0_14 → TT (fun n => m_X12_numberHere n 0 0 99999 (sI w0)) (fun n => b_X12_numberHere_75 (j_X12_numberHere 0 n) n 0 (0 : Int) (99999 : Int) (v34_3.toInt) (v75_4.toInt) (sI w45)) → lv_has ls 5 [(0, .ref (ad 0)), (1, .int 0), (2, .int 99999), (3, .int v34_3), (4, .int v75_4)] → W p l e ({ frames := 2, cells := 0, slots := 0, locals := 37 }) s m (List.toArray [.ref (ad 0), .int 0, .int 99999]) below meth c H locs 0 0 (MQ below (va_Qi (Pz_X12_numberHere_9 ad cy B qr s1  w0) (fun u : va_W => wpost dC dI cy A u) A) (List.toArray [.ref (ad 0), .int 0, .int 99999]) s 0 0 A) (F0 m 75 ls []) := by
        intro v75_4 H locs ls w45 r46 t47 r48 t49 r51 t52 hw hT hF c50 c53 hM hl
        refine lv_aload_n hx hb dX12_numberHere_75 rfl (lv_at hl 0 rfl) ?_
        refine lv_dup hx hb dX12_numberHere_76 rfl ?_
        refine tk_geti hC hK hw hT hinX12 kM_at0 (by decide) rfl 14 (by decide) (List.mem_cons_of_mem _ uw_19_18) rfl rfl dX12_numberHere_77 (fun x54 c55 rx54 tx54 => ?_)
        refine wk_top f34_0_14 (c55.symm.trans c53) ?_
        replace hM := hM.rd (sI_at c53)
        refine lv_iconst (v := 1) hx hb dX12_numberHere_80 (by decide) ?_
        refine lv_iadd hx hb dX12_numberHere_81 ?_
        refine lv_topi (fun x56 ex56 => ?_)
        have ezx56 := ex56
        have ex56 : x56.toInt = f34_0_14.toInt + (1 : Int) := by rw [ex56]; exact wk_add (show (-2147483648) ≤ f34_0_14.toInt + (1 : Int) by omega) (show f34_0_14.toInt + (1 : Int) ≤ 2147483647 by omega)
        replace hM := hM.lt ex56.symm
        refine tk_puti hC hK hw hT hinX12 tyX12_ok nmX12 kM_at0 (by decide) rfl rfl 14 (by decide) (List.mem_cons_of_mem _ uw_19_18) rfl rfl rfl rfl (show 0 ≤ x56.toInt by first | with_reducible assumption | omega) (show x56.toInt ≤ 400 by first | with_reducible assumption | omega) dX12_numberHere_82 (fun H locs w57 hw hT k59 c58 => ?_)
        replace hM := hM.wr (sI_up k59 c58)
        have hF := hF.put kM_at0 (k := 14) (by decide) k59
        have c60 := k59.gi (Or.inr (by decide)) c50
        refine lv_goto (tgt := 34) hx hb dX12_numberHere_85 (by decide) ?_
        exact ih34 v34_3 v75_4 f34_0_1 x56 H locs ls w57 (show 0 ≤ v34_3.toInt from r46) (show v34_3.toInt ≤ 399 from t47) (show 1 ≤ f34_0_1.toInt from r48) (show f34_0_1.toInt ≤ 400 from t49) (show 0 ≤ x56.toInt by first | with_reducible assumption | omega) (show x56.toInt ≤ 400 by first | with_reducible assumption | omega) (show (400 - x56.toInt).toNat < n34 by first | exact tn_lt hm34 (by omega) (by omega) | omega) hw hT hF c60 c58 hM (lv_sub hl [0, 1, 2, 3, 4] rfl)
      replace hM := hM.suc (fun _ => e_X12_numberHere_34)
      refine lv_aload_n hx hb dX12_numberHere_34 rfl (lv_at hl 0 rfl) ?_
      refine lv_aload_n hx hb dX12_numberHere_35 rfl (lv_at hl 0 rfl) ?_
      refine tk_geti hC hK hw hT hinX12 kM_at0 (by decide) rfl 14 (by decide) (List.mem_cons_of_mem _ uw_19_18) rfl rfl dX12_numberHere_36 (fun x61 c62 rx61 tx61 => ?_)
      refine wk_top f34_0_14 (c62.symm.trans c44) ?_
      replace hM := hM.rd (sI_at c44)
      refine tk_Vi hC hK hw hT hA hE hSR kM_at0 (by decide) rfl (kz_X12_isDigit_1 l adK adV dC dI cy ad B hB0 (Int.le_trans hB1 (by decide)) qr s1   f34_0_14 (show 0 ≤ f34_0_14.toInt from r42) (show f34_0_14.toInt ≤ 400 from t43) w36 H.size hT ) (cwV 1 hC.2.2.2.2 uV_RX12_112 rfl rfl rfl (by decide +kernel) ⟨Nat.le_of_ble_eq_true rfl, Nat.le_of_ble_eq_true rfl⟩) rfl hl.1 rfl (Nat.le_of_ble_eq_true rfl) dX12_numberHere_39 (fun r63 w65 H locs hp64 hw => ?_)
      obtain ⟨rfl, hv73, hg72⟩ := hp64
      rcases hg72 with ⟨rfl, ⟨x67, c68, rx67, tx67⟩⟩ | ⟨rfl, g69, ⟨x70, c71, rx70, tx70⟩⟩
      · replace hM := hM.call (r' := 0) hv73 (by decide)
        have ex67 : x67.toInt = f34_0_1.toInt := by rw [← c41.symm.trans c68]
        refine lv_if_eq (tgt := 88) hx hb dX12_numberHere_42 (by decide) (fun _ => ?_) (fun c => absurd (by decide) c)
        replace hM := hM.pos (by decide)
        refine lv_aload_n hx hb dX12_numberHere_88 rfl (lv_at hl 0 rfl) ?_
        refine lv_iload hx hb dX12_numberHere_89 (lv_at hl 4 rfl) ?_
        refine tk_puti hC hK hw hT hinX12 tyX12_ok nmX12 kM_at0 (by decide) rfl rfl 16 (by decide) (List.mem_cons_of_mem _ uw_21_12) rfl rfl rfl rfl (wk_i32 v34_4).1 (wk_i32 v34_4).2 dX12_numberHere_91 (fun H locs w74 hw hT k76 c75 => ?_)
        replace hM := hM.wr (sI_up k76 c75)
        have hF := hF.put kM_at0 (k := 16) (by decide) k76
        have c77 := k76.gi (Or.inr (by decide)) c41
        have c78 := k76.gi (Or.inr (by decide)) c44
        refine lv_aload_n hx hb dX12_numberHere_94 rfl (lv_at hl 0 rfl) ?_
        refine tk_geti hC hK hw hT hinX12 kM_at0 (by decide) rfl 14 (by decide) (List.mem_cons_of_mem _ uw_19_18) rfl rfl dX12_numberHere_95 (fun x79 c80 rx79 tx79 => ?_)
        refine wk_top f34_0_14 (c80.symm.trans c78) ?_
        replace hM := hM.rd (sI_at c78)
        refine lv_iload_n hx hb dX12_numberHere_98 rfl (lv_at hl 3 rfl) ?_
        refine lv_isub hx hb dX12_numberHere_99 ?_
        refine lv_topi (fun x81 ex81 => ?_)
        have ezx81 := ex81
        have ex81 : x81.toInt = f34_0_14.toInt - v34_3.toInt := by rw [ex81]; exact wk_sub (show (-2147483648) ≤ f34_0_14.toInt - v34_3.toInt by omega) (show f34_0_14.toInt - v34_3.toInt ≤ 2147483647 by omega)
        replace hM := hM.lt ex81.symm
        refine lv_iconst (v := 5) hx hb dX12_numberHere_100 (by decide) ?_
        refine lv_icmp_gt (tgt := 117) hx hb dX12_numberHere_101 (by decide) (fun c82 => ?_) (fun c82 => ?_)
        · have c82 : (5 : Int) < x81.toInt := wk_lt.mp c82
          replace hM := hM.pos c82
          exact J117 v34_3 v34_4 f34_0_1 f34_0_14 v34_4 H locs ls w74 (show 0 ≤ v34_3.toInt from r37) (show v34_3.toInt ≤ 399 from t38) (show 1 ≤ f34_0_1.toInt from r39) (show f34_0_1.toInt ≤ 400 from t40) (show 0 ≤ f34_0_14.toInt from r42) (show f34_0_14.toInt ≤ 400 from t43)  hw hT hF c77 c78 c75 hM (lv_sub hl [0, 1, 2, 3, 4] rfl)
        · have c82 : x81.toInt ≤ (5 : Int) := wk_ltF c82
          replace hM := hM.neg (Int.not_lt.mpr c82)
          refine lv_iload hx hb dX12_numberHere_104 (lv_at hl 4 rfl) ?_
          refine lv_i2l hx hb dX12_numberHere_106 rfl ?_
          refine lv_topl (fun x83 ex83 => ?_)
          have ex83 : x83.toInt = v34_4.toInt := by rw [ex83]; exact wk_i2l _
          have bx83 := wk_i32 v34_4
          replace hM := hM.lt ex83.symm
          refine lv_iload_n hx hb dX12_numberHere_107 rfl (lv_at hl 1 rfl) ?_
          refine lv_i2l hx hb dX12_numberHere_108 rfl ?_
          refine wk_topl 0 (by decide) ?_
          replace hM := hM.lt rfl
          refine lv_iload_n hx hb dX12_numberHere_109 rfl (lv_at hl 2 rfl) ?_
          refine lv_i2l hx hb dX12_numberHere_110 rfl ?_
          refine wk_topl 99999 (by decide) ?_
          replace hM := hM.lt rfl
          refine tk_Si hC hK hw hT hA hE hSR (kz_X12_in_9 l adK adV dC dI cy ad B hB0 (Int.le_trans hB1 (by decide)) qr s1   x83 (show (-2147483648) ≤ x83.toInt by first | with_reducible assumption | omega) (show x83.toInt ≤ 2147483647 by first | with_reducible assumption | omega) w74 H.size hT ) (va_cwS 3 hC.2.2.2.2 uS_RX12_122 rfl rfl rfl (by decide +kernel) ⟨Nat.le_of_ble_eq_true rfl, Nat.le_of_ble_eq_true rfl⟩) rfl hl.1 rfl (Nat.le_of_ble_eq_true rfl) dX12_numberHere_111 (fun r84 w86 H locs hp85 hw => ?_)
          obtain ⟨rfl, hv91, hg90⟩ := hp85
          rcases hg90 with rfl | ⟨rfl, g88, g89⟩
          · replace hM := hM.call (r' := 0) hv91 (by decide)
            refine lv_if_ne (tgt := 126) hx hb dX12_numberHere_114 (by decide) (fun c => absurd (by decide) c) (fun _ => ?_)
            replace hM := hM.neg (by decide)
            exact J117 v34_3 v34_4 f34_0_1 f34_0_14 v34_4 H locs ls w74 (show 0 ≤ v34_3.toInt from r37) (show v34_3.toInt ≤ 399 from t38) (show 1 ≤ f34_0_1.toInt from r39) (show f34_0_1.toInt ≤ 400 from t40) (show 0 ≤ f34_0_14.toInt from r42) (show f34_0_14.toInt ≤ 400 from t43)  hw hT hF c77 c78 c75 hM (lv_sub hl [0, 1, 2, 3, 4] rfl)
          · replace hM := hM.call (r' := 1) hv91 (by decide)
            refine lv_if_ne (tgt := 126) hx hb dX12_numberHere_114 (by decide) (fun _ => ?_) (fun c => absurd c (by decide))
            replace hM := hM.pos (by decide)
            exact J126 v34_3 v34_4 f34_0_1 f34_0_14 v34_4 H locs ls w74 (show 0 ≤ v34_3.toInt from r37) (show v34_3.toInt ≤ 399 from t38) (show 0 ≤ v34_4.toInt by first | with_reducible assumption | omega) (show v34_4.toInt ≤ 99999 by first | with_reducible assumption | omega) (show 1 ≤ f34_0_1.toInt from r39) (show f34_0_1.toInt ≤ 400 from t40) (show 0 ≤ f34_0_14.toInt from r42) (show f34_0_14.toInt ≤ 400 from t43) (show 0 ≤ v34_4.toInt by first | with_reducible assumption | omega) (show v34_4.toInt ≤ 99999 by first | with_reducible assumption | omega)  hw hT hF c77 c78 c75 hM (lv_sub hl [0, 1, 2, 3, 4] rfl)
      · replace hM := hM.call (r' := 1) hv73 (by decide)
        have ex70 : x70.toInt = f34_0_1.toInt := by rw [← c41.symm.trans c71]
        refine lv_if_eq (tgt := 88) hx hb dX12_numberHere_42 (by decide) (fun c => absurd c (by decide)) (fun _ => ?_)
        replace hM := hM.neg (by decide)
        refine lv_aload_n hx hb dX12_numberHere_45 rfl (lv_at hl 0 rfl) ?_
        refine tk_geti hC hK hw hT hinX12 kM_at0 (by decide) rfl 14 (by decide) (List.mem_cons_of_mem _ uw_19_18) rfl rfl dX12_numberHere_46 (fun x92 c93 rx92 tx92 => ?_)
        refine wk_top f34_0_14 (c93.symm.trans c44) ?_
        replace hM := hM.rd (sI_at c44)
        refine lv_iload_n hx hb dX12_numberHere_49 rfl (lv_at hl 3 rfl) ?_
        refine lv_isub hx hb dX12_numberHere_50 ?_
        refine lv_topi (fun x94 ex94 => ?_)
        have ezx94 := ex94
        have ex94 : x94.toInt = f34_0_14.toInt - v34_3.toInt := by rw [ex94]; exact wk_sub (show (-2147483648) ≤ f34_0_14.toInt - v34_3.toInt by omega) (show f34_0_14.toInt - v34_3.toInt ≤ 2147483647 by omega)
        replace hM := hM.lt ex94.symm
        refine lv_iconst (v := 5) hx hb dX12_numberHere_51 (by decide) ?_
        refine lv_icmp_ge (tgt := 75) hx hb dX12_numberHere_52 (by decide) (fun c95 => ?_) (fun c95 => ?_)
        · have c95 : (5 : Int) ≤ x94.toInt := wk_le.mp c95
          replace hM := hM.pos c95
          exact J75 v34_4 H locs ls w36 (show 0 ≤ v34_3.toInt from r37) (show v34_3.toInt ≤ 399 from t38) (show 1 ≤ f34_0_1.toInt from r39) (show f34_0_1.toInt ≤ 400 from t40) (show 0 ≤ f34_0_14.toInt from r42) (show f34_0_14.toInt ≤ 399 by first | with_reducible assumption | omega)  hw hT hF c41 c44 hM (lv_sub hl [0, 1, 2, 3, 4] rfl)
        · have c95 : x94.toInt < (5 : Int) := wk_leF c95
          replace hM := hM.neg (Int.not_le.mpr c95)
          refine lv_bipush (v := 10) hx hb dX12_numberHere_55 (by decide) ?_
          refine lv_iload hx hb dX12_numberHere_57 (lv_at hl 4 rfl) ?_
          refine lv_imul hx hb dX12_numberHere_59 ?_
          have nx96 := wk_i32 v34_4
          refine lv_topi (fun x97 ex97 => ?_)
          have ezx97 := ex97
          replace hM := hM.lt (o32_e (f := fun x y => x * y) ezx97 (by decide) rfl)
          refine lv_aload_n hx hb dX12_numberHere_60 rfl (lv_at hl 0 rfl) ?_
          refine tk_getA hC hK hw hT hinX12 kM_at0 (by decide) rfl 0 (by decide) (List.mem_cons_of_mem _ uw_6_14) rfl rfl dX12_numberHere_61 ?_
          refine lv_aload_n hx hb dX12_numberHere_64 rfl (lv_at hl 0 rfl) ?_
          refine tk_geti hC hK hw hT hinX12 kM_at0 (by decide) rfl 14 (by decide) (List.mem_cons_of_mem _ uw_19_18) rfl rfl dX12_numberHere_65 (fun x98 c99 rx98 tx98 => ?_)
          refine wk_top f34_0_14 (c99.symm.trans c44) ?_
          replace hM := hM.rd (sI_at c44)
          refine tk_bald hC hK hw hT kM_at1 rfl rfl (show 0 ≤ f34_0_14.toInt from r42) (show f34_0_14.toInt < 400 by first | with_reducible assumption | omega) dX12_numberHere_68 (fun x100 c101 rx100 tx100 => ?_)
          have hox100 := c101
          replace hM := hM.rd (sI_at hox100)
          have c101 : gi w36 1 (f34_0_14.toInt).toNat = x100 := (congrArg (gi w36 1) (congrArg Int.toNat (show f34_0_14.toInt = f34_0_14.toInt from rfl))).trans c101
          refine lv_iadd hx hb dX12_numberHere_69 ?_
          have nx102 := wk_i32 x97
          refine lv_topi (fun x103 ex103 => ?_)
          have ezx103 := ex103
          replace hM := hM.lt (o32_e (f := fun x y => x + y) ezx103 rfl rfl)
          refine lv_bipush (v := 48) hx hb dX12_numberHere_70 (by decide) ?_
          refine lv_isub hx hb dX12_numberHere_72 ?_
          have nx104 := wk_i32 x103
          refine lv_topi (fun x105 ex105 => ?_)
          have ezx105 := ex105
          replace hM := hM.lt (o32_e (f := fun x y => x - y) ezx105 rfl (by decide))
          refine lv_istore (lv' := [(4, .int x105), (0, .ref (ad 0)), (1, .int 0), (2, .int 99999), (3, .int v34_3)]) hx hb dX12_numberHere_73 hl (by decide) rfl (fun ls hl => ?_)
          exact J75 x105 H locs ls w36 (show 0 ≤ v34_3.toInt from r37) (show v34_3.toInt ≤ 399 from t38) (show 1 ≤ f34_0_1.toInt from r39) (show f34_0_1.toInt ≤ 400 from t40) (show 0 ≤ f34_0_14.toInt from r42) (show f34_0_14.toInt ≤ 399 by first | with_reducible assumption | omega)  hw hT hF c41 c44 hM (lv_sub hl [1, 2, 3, 4, 0] rfl)
  have hM : TT (fun n => m_X12_numberHere n 0 0 99999 (sI w0)) (fun n => m_X12_numberHere n 0 0 99999 (sI w0)) := TT.rf
  refine lv_aload_n hx hb dX12_numberHere_0 rfl (lv_at hl 0 rfl) ?_
  obtain ⟨x106, c107, rx106, tx106⟩ := hT.rdi (lo := 0) (hi := 400) (k := 14) kM_at0 (by decide) rfl
  refine tk_Vi hC hK hw hT hA hE hSR kM_at0 (by decide) rfl (kz_X12_see_1 l adK adV dC dI cy ad B hB0 (Int.le_trans hB1 (by decide)) qr s1    w0 s.heap.size hT x106 c107 (show 0 ≤ x106.toInt by first | with_reducible assumption | omega) (show x106.toInt ≤ 400 by first | with_reducible assumption | omega)) (cwV 0 hC.2.2.2.2 uV_RX12_97 rfl rfl rfl (by decide +kernel) ⟨Nat.le_of_ble_eq_true rfl, Nat.le_of_ble_eq_true rfl⟩) rfl hl.1 rfl (Nat.le_of_ble_eq_true rfl) dX12_numberHere_1 (fun r108 w110 H locs hp109 hw => ?_)
  obtain ⟨hT, k111, hv129, hg128⟩ := hp109
  have hF := hF.tr k111 (by decide)
  rcases hg128 with ⟨g112, g113, ⟨x114, c115, rx114, tx114⟩, ⟨x116, c117, rx116, tx116⟩, g118, g119⟩ | ⟨rfl, ⟨x120, c121, rx120, tx120⟩, ⟨x122, c123, rx122, tx122⟩, g124⟩ | ⟨rfl, ⟨x125, c126, rx125, tx125⟩, g127⟩
  · replace hM := hM.call hv129 rfl
    have g118 : (gi w110 1 (x116.toInt).toNat).toInt ≠ 32 := by have q := g118; simp only [c117] at q; first | with_reducible exact q | omega
    have g119 : (x116.toInt = x106.toInt ∨ (gi w0 1 (x106.toInt).toNat).toInt = 32) := by have q := g119; simp only [c107, c117] at q; first | with_reducible exact q | omega
    refine lv_pop hx hb dX12_numberHere_4 rfl ?_
    refine lv_aload_n hx hb dX12_numberHere_5 rfl (lv_at hl 0 rfl) ?_
    refine lv_aload_n hx hb dX12_numberHere_6 rfl (lv_at hl 0 rfl) ?_
    refine tk_geti hC hK hw hT hinX12 kM_at0 (by decide) rfl 14 (by decide) (List.mem_cons_of_mem _ uw_19_18) rfl rfl dX12_numberHere_7 (fun x132 c133 rx132 tx132 => ?_)
    refine wk_top x116 (c133.symm.trans c117) ?_
    replace hM := hM.rd (sI_at c117)
    refine tk_Vi hC hK hw hT hA hE hSR kM_at0 (by decide) rfl (kz_X12_isDigit_2 l adK adV dC dI cy ad B hB0 (Int.le_trans hB1 (by decide)) qr s1   x116 (show 0 ≤ x116.toInt by first | with_reducible assumption | omega) (show x116.toInt ≤ 399 by first | with_reducible assumption | omega) w110 H.size hT ) (cwV 1 hC.2.2.2.2 uV_RX12_112 rfl rfl rfl (by decide +kernel) ⟨Nat.le_of_ble_eq_true rfl, Nat.le_of_ble_eq_true rfl⟩) rfl hl.1 rfl (Nat.le_of_ble_eq_true rfl) dX12_numberHere_10 (fun r134 w136 H locs hp135 hw => ?_)
    obtain ⟨rfl, hv143, hg142⟩ := hp135
    rcases hg142 with ⟨rfl, ⟨x138, c139, rx138, tx138⟩⟩ | ⟨rfl, ⟨x140, c141, rx140, tx140⟩⟩
    · replace hM := hM.call (r' := 0) hv143 (by decide)
      have ex138 : x138.toInt = x114.toInt := by rw [← c115.symm.trans c139]
      refine lv_if_ne (tgt := 26) hx hb dX12_numberHere_13 (by decide) (fun c => absurd (by decide) c) (fun _ => ?_)
      replace hM := hM.neg (by decide)
      refine lv_aload_n hx hb dX12_numberHere_16 rfl (lv_at hl 0 rfl) ?_
      refine lv_iconst (v := 0) hx hb dX12_numberHere_17 (by decide) ?_
      refine lv_aload_n hx hb dX12_numberHere_18 rfl (lv_at hl 0 rfl) ?_
      refine tk_geti hC hK hw hT hinX12 kM_at0 (by decide) rfl 14 (by decide) (List.mem_cons_of_mem _ uw_19_18) rfl rfl dX12_numberHere_19 (fun x144 c145 rx144 tx144 => ?_)
      refine wk_top x116 (c145.symm.trans c117) ?_
      replace hM := hM.rd (sI_at c117)
      refine tk_Vi hC hK hw hT hA hE hSR kM_at0 (by decide) rfl (kz_X12_fails_1 l adK adV dC dI cy ad B hB0 (Int.le_trans hB1 (by decide)) qr s1   0 (by decide) (by decide) x116 (show 0 ≤ x116.toInt by first | with_reducible assumption | omega) (show x116.toInt ≤ 400 by first | with_reducible assumption | omega) w110 H.size hT ) (cwV 2 hC.2.2.2.2 uV_RX12_115 rfl rfl rfl (by decide +kernel) ⟨Nat.le_of_ble_eq_true rfl, Nat.le_of_ble_eq_true rfl⟩) rfl hl.1 rfl (Nat.le_of_ble_eq_true rfl) dX12_numberHere_22 (fun r146 w148 H locs hp147 hw => ?_)
      obtain ⟨hT, k149, hv153, hg152⟩ := hp147
      try simp only [show (0 : Int32).toInt = 0 by decide] at hv153
      have hF := hF.tr k149 (by decide)
      have c154 := k149.gi kM_at0 (by decide) c115
      have c155 := k149.gi kM_at0 (by decide) c117
      obtain ⟨rfl, ⟨x150, c151, rx150, tx150⟩⟩ := hg152
      replace hM := hM.call (r' := 0) hv153 (by decide)
      exact tk_zret hC hr rfl hlocks hK ⟨hT, hF, hM.ret (by decide), (Or.inl ⟨rfl, ⟨x114, c154, (show 1 ≤ x114.toInt by first | with_reducible assumption | omega), (show x114.toInt ≤ 400 by first | with_reducible assumption | omega)⟩, ⟨x150, c151, (show 1 ≤ x150.toInt by first | with_reducible assumption | omega), (show x150.toInt ≤ 3205 by first | with_reducible assumption | omega)⟩⟩)⟩ hw dX12_numberHere_25
    · replace hM := hM.call (r' := 1) hv143 (by decide)
      have ex140 : x140.toInt = x114.toInt := by rw [← c115.symm.trans c141]
      refine lv_if_ne (tgt := 26) hx hb dX12_numberHere_13 (by decide) (fun _ => ?_) (fun c => absurd c (by decide))
      replace hM := hM.pos (by decide)
      refine lv_aload_n hx hb dX12_numberHere_26 rfl (lv_at hl 0 rfl) ?_
      refine tk_geti hC hK hw hT hinX12 kM_at0 (by decide) rfl 14 (by decide) (List.mem_cons_of_mem _ uw_19_18) rfl rfl dX12_numberHere_27 (fun x156 c157 rx156 tx156 => ?_)
      refine wk_top x116 (c157.symm.trans c117) ?_
      replace hM := hM.rd (sI_at c117)
      refine lv_istore_n (lv' := [(3, .int x116), (0, .ref (ad 0)), (1, .int 0), (2, .int 99999)]) hx hb dX12_numberHere_30 rfl hl (by decide) rfl (fun ls hl => ?_)
      refine lv_iconst (v := 0) hx hb dX12_numberHere_31 (by decide) ?_
      refine lv_istore (lv' := [(4, .int 0), (3, .int x116), (0, .ref (ad 0)), (1, .int 0), (2, .int 99999)]) hx hb dX12_numberHere_32 hl (by decide) rfl (fun ls hl => ?_)
      exact L34 ((400 - x116.toInt).toNat + 1) x116 0 x114 x116 H locs ls w110 (show 0 ≤ x116.toInt by first | with_reducible assumption | omega) (show x116.toInt ≤ 399 by first | with_reducible assumption | omega) (show 1 ≤ x114.toInt by first | with_reducible assumption | omega) (show x114.toInt ≤ 400 by first | with_reducible assumption | omega) (show 0 ≤ x116.toInt by first | with_reducible assumption | omega) (show x116.toInt ≤ 400 by first | with_reducible assumption | omega) (Nat.lt_succ_self _) hw hT hF c115 c117 hM (lv_sub hl [2, 3, 4, 1, 0] rfl)
  · replace hM := hM.call (r' := (-1)) hv129 (by decide)
    have g124 : (x122.toInt = x106.toInt ∨ (gi w0 1 (x106.toInt).toNat).toInt = 32) := by have q := g124; simp only [c107, c123] at q; first | with_reducible exact q | omega
    refine lv_pop hx hb dX12_numberHere_4 rfl ?_
    refine lv_aload_n hx hb dX12_numberHere_5 rfl (lv_at hl 0 rfl) ?_
    refine lv_aload_n hx hb dX12_numberHere_6 rfl (lv_at hl 0 rfl) ?_
    refine tk_geti hC hK hw hT hinX12 kM_at0 (by decide) rfl 14 (by decide) (List.mem_cons_of_mem _ uw_19_18) rfl rfl dX12_numberHere_7 (fun x158 c159 rx158 tx158 => ?_)
    refine wk_top x122 (c159.symm.trans c123) ?_
    replace hM := hM.rd (sI_at c123)
    refine tk_Vi hC hK hw hT hA hE hSR kM_at0 (by decide) rfl (kz_X12_isDigit_3 l adK adV dC dI cy ad B hB0 (Int.le_trans hB1 (by decide)) qr s1   x122 (show 1 ≤ x122.toInt by first | with_reducible assumption | omega) (show x122.toInt ≤ 399 by first | with_reducible assumption | omega) w110 H.size hT ) (cwV 1 hC.2.2.2.2 uV_RX12_112 rfl rfl rfl (by decide +kernel) ⟨Nat.le_of_ble_eq_true rfl, Nat.le_of_ble_eq_true rfl⟩) rfl hl.1 rfl (Nat.le_of_ble_eq_true rfl) dX12_numberHere_10 (fun r160 w162 H locs hp161 hw => ?_)
    obtain ⟨rfl, hv169, hg168⟩ := hp161
    rcases hg168 with ⟨rfl, ⟨x164, c165, rx164, tx164⟩⟩ | ⟨rfl, ⟨x166, c167, rx166, tx166⟩⟩
    · replace hM := hM.call (r' := 0) hv169 (by decide)
      have ex164 : x164.toInt = x120.toInt := by rw [← c121.symm.trans c165]
      refine lv_if_ne (tgt := 26) hx hb dX12_numberHere_13 (by decide) (fun c => absurd (by decide) c) (fun _ => ?_)
      replace hM := hM.neg (by decide)
      refine lv_aload_n hx hb dX12_numberHere_16 rfl (lv_at hl 0 rfl) ?_
      refine lv_iconst (v := 0) hx hb dX12_numberHere_17 (by decide) ?_
      refine lv_aload_n hx hb dX12_numberHere_18 rfl (lv_at hl 0 rfl) ?_
      refine tk_geti hC hK hw hT hinX12 kM_at0 (by decide) rfl 14 (by decide) (List.mem_cons_of_mem _ uw_19_18) rfl rfl dX12_numberHere_19 (fun x170 c171 rx170 tx170 => ?_)
      refine wk_top x122 (c171.symm.trans c123) ?_
      replace hM := hM.rd (sI_at c123)
      refine tk_Vi hC hK hw hT hA hE hSR kM_at0 (by decide) rfl (kz_X12_fails_1 l adK adV dC dI cy ad B hB0 (Int.le_trans hB1 (by decide)) qr s1   0 (by decide) (by decide) x122 (show 0 ≤ x122.toInt by first | with_reducible assumption | omega) (show x122.toInt ≤ 400 by first | with_reducible assumption | omega) w110 H.size hT ) (cwV 2 hC.2.2.2.2 uV_RX12_115 rfl rfl rfl (by decide +kernel) ⟨Nat.le_of_ble_eq_true rfl, Nat.le_of_ble_eq_true rfl⟩) rfl hl.1 rfl (Nat.le_of_ble_eq_true rfl) dX12_numberHere_22 (fun r172 w174 H locs hp173 hw => ?_)
      obtain ⟨hT, k175, hv179, hg178⟩ := hp173
      try simp only [show (0 : Int32).toInt = 0 by decide] at hv179
      have hF := hF.tr k175 (by decide)
      have c180 := k175.gi kM_at0 (by decide) c121
      have c181 := k175.gi kM_at0 (by decide) c123
      obtain ⟨rfl, ⟨x176, c177, rx176, tx176⟩⟩ := hg178
      replace hM := hM.call (r' := 0) hv179 (by decide)
      exact tk_zret hC hr rfl hlocks hK ⟨hT, hF, hM.ret (by decide), (Or.inl ⟨rfl, ⟨x120, c180, (show 1 ≤ x120.toInt by first | with_reducible assumption | omega), (show x120.toInt ≤ 400 by first | with_reducible assumption | omega)⟩, ⟨x176, c177, (show 1 ≤ x176.toInt by first | with_reducible assumption | omega), (show x176.toInt ≤ 3205 by first | with_reducible assumption | omega)⟩⟩)⟩ hw dX12_numberHere_25
    · replace hM := hM.call (r' := 1) hv169 (by decide)
      have ex166 : x166.toInt = x120.toInt := by rw [← c121.symm.trans c167]
      refine lv_if_ne (tgt := 26) hx hb dX12_numberHere_13 (by decide) (fun _ => ?_) (fun c => absurd c (by decide))
      replace hM := hM.pos (by decide)
      refine lv_aload_n hx hb dX12_numberHere_26 rfl (lv_at hl 0 rfl) ?_
      refine tk_geti hC hK hw hT hinX12 kM_at0 (by decide) rfl 14 (by decide) (List.mem_cons_of_mem _ uw_19_18) rfl rfl dX12_numberHere_27 (fun x182 c183 rx182 tx182 => ?_)
      refine wk_top x122 (c183.symm.trans c123) ?_
      replace hM := hM.rd (sI_at c123)
      refine lv_istore_n (lv' := [(3, .int x122), (0, .ref (ad 0)), (1, .int 0), (2, .int 99999)]) hx hb dX12_numberHere_30 rfl hl (by decide) rfl (fun ls hl => ?_)
      refine lv_iconst (v := 0) hx hb dX12_numberHere_31 (by decide) ?_
      refine lv_istore (lv' := [(4, .int 0), (3, .int x122), (0, .ref (ad 0)), (1, .int 0), (2, .int 99999)]) hx hb dX12_numberHere_32 hl (by decide) rfl (fun ls hl => ?_)
      exact L34 ((400 - x122.toInt).toNat + 1) x122 0 x120 x122 H locs ls w110 (show 0 ≤ x122.toInt by first | with_reducible assumption | omega) (show x122.toInt ≤ 399 by first | with_reducible assumption | omega) (show 1 ≤ x120.toInt by first | with_reducible assumption | omega) (show x120.toInt ≤ 400 by first | with_reducible assumption | omega) (show 0 ≤ x122.toInt by first | with_reducible assumption | omega) (show x122.toInt ≤ 400 by first | with_reducible assumption | omega) (Nat.lt_succ_self _) hw hT hF c121 c123 hM (lv_sub hl [2, 3, 4, 1, 0] rfl)
  · replace hM := hM.call (r' := (-1)) hv129 (by decide)
    obtain ⟨x130, c131, rx130, tx130⟩ := hT.rdi (lo := 0) (hi := 400) (k := 14) kM_at0 (by decide) rfl
    have g127 : (x130.toInt = x106.toInt ∨ (gi w0 1 (x106.toInt).toNat).toInt = 32) := by have q := g127; simp only [c107, c131] at q; first | with_reducible exact q | omega
    refine lv_pop hx hb dX12_numberHere_4 rfl ?_
    refine lv_aload_n hx hb dX12_numberHere_5 rfl (lv_at hl 0 rfl) ?_
    refine lv_aload_n hx hb dX12_numberHere_6 rfl (lv_at hl 0 rfl) ?_
    refine tk_geti hC hK hw hT hinX12 kM_at0 (by decide) rfl 14 (by decide) (List.mem_cons_of_mem _ uw_19_18) rfl rfl dX12_numberHere_7 (fun x184 c185 rx184 tx184 => ?_)
    refine wk_top x130 (c185.symm.trans c131) ?_
    replace hM := hM.rd (sI_at c131)
    refine tk_Vi hC hK hw hT hA hE hSR kM_at0 (by decide) rfl (kz_X12_isDigit_1 l adK adV dC dI cy ad B hB0 (Int.le_trans hB1 (by decide)) qr s1   x130 (show 0 ≤ x130.toInt by first | with_reducible assumption | omega) (show x130.toInt ≤ 400 by first | with_reducible assumption | omega) w110 H.size hT ) (cwV 1 hC.2.2.2.2 uV_RX12_112 rfl rfl rfl (by decide +kernel) ⟨Nat.le_of_ble_eq_true rfl, Nat.le_of_ble_eq_true rfl⟩) rfl hl.1 rfl (Nat.le_of_ble_eq_true rfl) dX12_numberHere_10 (fun r186 w188 H locs hp187 hw => ?_)
    obtain ⟨rfl, hv196, hg195⟩ := hp187
    rcases hg195 with ⟨rfl, ⟨x190, c191, rx190, tx190⟩⟩ | ⟨rfl, g192, ⟨x193, c194, rx193, tx193⟩⟩
    · replace hM := hM.call (r' := 0) hv196 (by decide)
      have ex190 : x190.toInt = x125.toInt := by rw [← c126.symm.trans c191]
      refine lv_if_ne (tgt := 26) hx hb dX12_numberHere_13 (by decide) (fun c => absurd (by decide) c) (fun _ => ?_)
      replace hM := hM.neg (by decide)
      refine lv_aload_n hx hb dX12_numberHere_16 rfl (lv_at hl 0 rfl) ?_
      refine lv_iconst (v := 0) hx hb dX12_numberHere_17 (by decide) ?_
      refine lv_aload_n hx hb dX12_numberHere_18 rfl (lv_at hl 0 rfl) ?_
      refine tk_geti hC hK hw hT hinX12 kM_at0 (by decide) rfl 14 (by decide) (List.mem_cons_of_mem _ uw_19_18) rfl rfl dX12_numberHere_19 (fun x197 c198 rx197 tx197 => ?_)
      refine wk_top x130 (c198.symm.trans c131) ?_
      replace hM := hM.rd (sI_at c131)
      refine tk_Vi hC hK hw hT hA hE hSR kM_at0 (by decide) rfl (kz_X12_fails_1 l adK adV dC dI cy ad B hB0 (Int.le_trans hB1 (by decide)) qr s1   0 (by decide) (by decide) x130 (show 0 ≤ x130.toInt by first | with_reducible assumption | omega) (show x130.toInt ≤ 400 by first | with_reducible assumption | omega) w110 H.size hT ) (cwV 2 hC.2.2.2.2 uV_RX12_115 rfl rfl rfl (by decide +kernel) ⟨Nat.le_of_ble_eq_true rfl, Nat.le_of_ble_eq_true rfl⟩) rfl hl.1 rfl (Nat.le_of_ble_eq_true rfl) dX12_numberHere_22 (fun r199 w201 H locs hp200 hw => ?_)
      obtain ⟨hT, k202, hv206, hg205⟩ := hp200
      try simp only [show (0 : Int32).toInt = 0 by decide] at hv206
      have hF := hF.tr k202 (by decide)
      have c207 := k202.gi kM_at0 (by decide) c126
      have c208 := k202.gi kM_at0 (by decide) c131
      obtain ⟨rfl, ⟨x203, c204, rx203, tx203⟩⟩ := hg205
      replace hM := hM.call (r' := 0) hv206 (by decide)
      exact tk_zret hC hr rfl hlocks hK ⟨hT, hF, hM.ret (by decide), (Or.inr (Or.inl ⟨rfl, ⟨x125, c207, (show 0 ≤ x125.toInt by first | with_reducible assumption | omega), (show x125.toInt ≤ 400 by first | with_reducible assumption | omega)⟩, ⟨x203, c204, (show 1 ≤ x203.toInt by first | with_reducible assumption | omega), (show x203.toInt ≤ 3205 by first | with_reducible assumption | omega)⟩⟩))⟩ hw dX12_numberHere_25
    · replace hM := hM.call (r' := 1) hv196 (by decide)
      have ex193 : x193.toInt = x125.toInt := by rw [← c126.symm.trans c194]
      refine lv_if_ne (tgt := 26) hx hb dX12_numberHere_13 (by decide) (fun _ => ?_) (fun c => absurd c (by decide))
      replace hM := hM.pos (by decide)
      refine lv_aload_n hx hb dX12_numberHere_26 rfl (lv_at hl 0 rfl) ?_
      refine tk_geti hC hK hw hT hinX12 kM_at0 (by decide) rfl 14 (by decide) (List.mem_cons_of_mem _ uw_19_18) rfl rfl dX12_numberHere_27 (fun x209 c210 rx209 tx209 => ?_)
      refine wk_top x130 (c210.symm.trans c131) ?_
      replace hM := hM.rd (sI_at c131)
      refine lv_istore_n (lv' := [(3, .int x130), (0, .ref (ad 0)), (1, .int 0), (2, .int 99999)]) hx hb dX12_numberHere_30 rfl hl (by decide) rfl (fun ls hl => ?_)
      refine lv_iconst (v := 0) hx hb dX12_numberHere_31 (by decide) ?_
      refine lv_istore (lv' := [(4, .int 0), (3, .int x130), (0, .ref (ad 0)), (1, .int 0), (2, .int 99999)]) hx hb dX12_numberHere_32 hl (by decide) rfl (fun ls hl => ?_)
      exact L34 ((400 - x130.toInt).toNat + 1) x130 0 x125 x130 H locs ls w110 (show 0 ≤ x130.toInt by first | with_reducible assumption | omega) (show x130.toInt ≤ 399 by first | with_reducible assumption | omega) (show 1 ≤ x125.toInt by first | with_reducible assumption | omega) (show x125.toInt ≤ 400 by first | with_reducible assumption | omega) (show 0 ≤ x130.toInt by first | with_reducible assumption | omega) (show x130.toInt ≤ 400 by first | with_reducible assumption | omega) (Nat.lt_succ_self _) hw hT hF c126 c131 hM (lv_sub hl [2, 3, 4, 1, 0] rfl)
abbrev Pz_X12_makes_2 (ad : Nat → Nat) (cy : Nat → ClassId) (B : Int) (qr : Nat) (s1 : Int) (a1 : Int32) (w0 : va_W) : Int32 → va_W → Prop := fun r u => TW ksM ad cy B qr 12 u ∧ FE ksM [(12, 15, 15), (12, 18, 18)] w0 u ∧ Ev (fun n => m_X12_makes n 0 a1.toInt (sI w0)) (r.toInt, sI u) ∧ ((r = 0 ∧ (∃ y : Int32, gi u 0 15 = y ∧ 1 ≤ y.toInt ∧ y.toInt ≤ 3205) ∧ (∃ y : Int32, gi u 0 18 = y ∧ 60 ≤ y.toInt ∧ y.toInt ≤ 60)) ∨ (r = 1 ∧ (∃ y : Int32, gi u 0 18 = y ∧ 1 ≤ y.toInt ∧ y.toInt ≤ 60) ∧ ((gi u 0 18).toInt = (gi w0 0 18).toInt + 1)))
set_option maxHeartbeats 4000000 in
set_option maxRecDepth 100000 in
theorem kz_X12_makes_2 (l : Launch) (adK adV : Nat → Nat) (dC : Nat → ClassId) (dI : Nat → Nat → Nat) (cy : Nat → ClassId) (ad : Nat → Nat) (B : Int) (hB0 : 100000 ≤ B) (hB1 : B ≤ 1073741824) (qr : Nat) (s1 : Int)  (a1 : Int32) (ra1 : 1 ≤ a1.toInt) (ta1 : a1.toInt ≤ 399) (w0 : va_W) (sz : Nat) (hT : TW ksM ad cy B qr 12 w0) (f0_ : Int32) (cf0_ : gi w0 0 18 = f0_) (rf0_ : 0 ≤ f0_.toInt) (tf0_ : f0_.toInt ≤ 60) : Met l yX12_makes (wu yX12_makes cX12_makes 2 (some .boolean)) ({ frames := 2, cells := 0, slots := 0, locals := 34 }) (va_Pc [.ref (ad 0), .int a1] (wpreS adK adV dC dI cy sz w0)) (va_Qi (Pz_X12_makes_2 ad cy B qr s1 a1 w0) (fun u : va_W => wpost dC dI cy (va_A w0 sz) u) (va_A w0 sz)) 0 0 (va_A w0 sz) := by
  refine Met.ofW (cc := cX12_makes) (maxL := 2) (ret := (some .boolean)) (by decide) rfl ?_
  intro p e s m args below meth c s₁ Bk hml hv
  obtain ⟨rfl, ⟨hsz, hP, hK, hD0⟩, hE, hSR⟩ := hv
  have hx := Bk.exec
  have hb := Bk.bytes
  have hr := Bk.returns
  have hlocks := Bk.notSynchronized
  have hC : CallFix p m c cX12_makes 2 s _ (wu yX12_makes cX12_makes 2 (some .boolean)) RX12 := ⟨hx, hb, hml, findClass_of_methodNamed Bk.named, atoms_spec (ws := (wu yX12_makes cX12_makes 2 (some .boolean))) Bk.pre⟩
  subst hsz
  have hD := hD0.self (sz := s.heap.size)
  generalize hAe : va_A w0 s.heap.size = A at hD hE ⊢
  have hA : ∀ q : Nat, s.heap.size ≤ q → A q := fun q h => by rw [← hAe]; exact Or.inr h
  have hw : Wd dC dI A s.heap s.heap [] w0 := ⟨hP, hD, va_S.rf⟩
  have hF : FE ksM [(12, 15, 15), (12, 18, 18)] w0 w0 := FE.rf
  have hl := lv_entry ([.ref (ad 0), .int a1]) (n := 2) (Nat.le_of_ble_eq_true rfl)
  rw [lg_entry_eq]
  generalize (lg_sl ([.ref (ad 0), .int a1]) ++ List.replicate (2 - (lg_sl ([.ref (ad 0), .int a1])).length) Slot.unset).toArray = ls at hl ⊢
  have hl : lv_has ls 2 [(0, .ref (ad 0)), (1, .int a1)] := hl
  generalize hloc : ([] : List Loc) = locs at hw ⊢
  have hinX12 : ∀ w ∈ u_ws RX12 TX12 42, w ∈ (wu yX12_makes cX12_makes 2 (some .boolean)) := fun _ h => List.mem_cons_of_mem _ (up_71 h)
  have hM : TT (fun n => m_X12_makes n 0 a1.toInt (sI w0)) (fun n => m_X12_makes n 0 a1.toInt (sI w0)) := TT.rf
  refine lv_aload_n hx hb dX12_makes_0 rfl (lv_at hl 0 rfl) ?_
  refine tk_geti hC hK hw hT hinX12 kM_at0 (by decide) rfl 18 (by decide) (List.mem_cons_of_mem _ uw_19_19) rfl rfl dX12_makes_1 (fun x1 c2 rx1 tx1 => ?_)
  refine wk_top f0_ (c2.symm.trans cf0_) ?_
  replace hM := hM.rd (sI_at cf0_)
  refine lv_bipush (v := 60) hx hb dX12_makes_4 (by decide) ?_
  refine lv_icmp_ne (tgt := 16) hx hb dX12_makes_6 (by decide) (fun c3 => ?_) (fun c3 => ?_)
  · have c3 : ¬ f0_.toInt = (60 : Int) := wk_eqF c3
    replace hM := hM.pos c3
    refine lv_aload_n hx hb dX12_makes_16 rfl (lv_at hl 0 rfl) ?_
    refine lv_dup hx hb dX12_makes_17 rfl ?_
    refine tk_geti hC hK hw hT hinX12 kM_at0 (by decide) rfl 18 (by decide) (List.mem_cons_of_mem _ uw_19_19) rfl rfl dX12_makes_18 (fun x4 c5 rx4 tx4 => ?_)
    refine wk_top f0_ (c5.symm.trans cf0_) ?_
    replace hM := hM.rd (sI_at cf0_)
    refine lv_iconst (v := 1) hx hb dX12_makes_21 (by decide) ?_
    refine lv_iadd hx hb dX12_makes_22 ?_
    refine lv_topi (fun x6 ex6 => ?_)
    have ezx6 := ex6
    have ex6 : x6.toInt = f0_.toInt + (1 : Int) := by rw [ex6]; exact wk_add (show (-2147483648) ≤ f0_.toInt + (1 : Int) by omega) (show f0_.toInt + (1 : Int) ≤ 2147483647 by omega)
    replace hM := hM.lt ex6.symm
    refine tk_puti hC hK hw hT hinX12 tyX12_ok nmX12 kM_at0 (by decide) rfl rfl 18 (by decide) (List.mem_cons_of_mem _ uw_19_19) rfl rfl rfl rfl (show 0 ≤ x6.toInt by first | with_reducible assumption | omega) (show x6.toInt ≤ 60 by first | with_reducible assumption | omega) dX12_makes_23 (fun H locs w7 hw hT k9 c8 => ?_)
    replace hM := hM.wr (sI_up k9 c8)
    have hF := hF.put kM_at0 (k := 18) (by decide) k9
    refine lv_iconst (v := 1) hx hb dX12_makes_26 (by decide) ?_
    exact tk_zret hC hr rfl hlocks hK ⟨hT, hF, hM.ret (by decide), (Or.inr ⟨rfl, ⟨x6, c8, (show 1 ≤ x6.toInt by first | with_reducible assumption | omega), (show x6.toInt ≤ 60 by first | with_reducible assumption | omega)⟩, (by simp only [cf0_, c8]; omega)⟩)⟩ hw dX12_makes_27
  · have c3 : f0_.toInt = (60 : Int) := wk_eq.mp c3
    replace hM := hM.neg (fun q => q c3)
    refine lv_aload_n hx hb dX12_makes_9 rfl (lv_at hl 0 rfl) ?_
    refine lv_iconst (v := 3) hx hb dX12_makes_10 (by decide) ?_
    refine lv_iload_n hx hb dX12_makes_11 rfl (lv_at hl 1 rfl) ?_
    refine tk_Vi hC hK hw hT hA hE hSR kM_at0 (by decide) rfl (kz_X12_fails_1 l adK adV dC dI cy ad B hB0 (Int.le_trans hB1 (by decide)) qr s1   3 (by decide) (by decide) a1 (show 0 ≤ a1.toInt from Int.le_trans (by decide) ra1) (show a1.toInt ≤ 400 from Int.le_trans ta1 (by decide)) w0 s.heap.size hT ) (cwV 2 hC.2.2.2.2 uV_RX12_115 rfl rfl rfl (by decide +kernel) ⟨Nat.le_of_ble_eq_true rfl, Nat.le_of_ble_eq_true rfl⟩) rfl hl.1 rfl (Nat.le_of_ble_eq_true rfl) dX12_makes_12 (fun r10 w12 H locs hp11 hw => ?_)
    obtain ⟨hT, k13, hv17, hg16⟩ := hp11
    try simp only [show (3 : Int32).toInt = 3 by decide] at hv17
    have hF := hF.tr k13 (by decide)
    have c18 := k13.gi kM_at0 (by decide) cf0_
    obtain ⟨rfl, ⟨x14, c15, rx14, tx14⟩⟩ := hg16
    replace hM := hM.call (r' := 0) hv17 (by decide)
    exact tk_zret hC hr rfl hlocks hK ⟨hT, hF, hM.ret (by decide), (Or.inl ⟨rfl, ⟨x14, c15, (show 1 ≤ x14.toInt by first | with_reducible assumption | omega), (show x14.toInt ≤ 3205 by first | with_reducible assumption | omega)⟩, ⟨f0_, c18, (show 60 ≤ f0_.toInt by first | with_reducible assumption | omega), (show f0_.toInt ≤ 60 from tf0_)⟩⟩)⟩ hw dX12_makes_15
abbrev Pz_X12_makes_3 (ad : Nat → Nat) (cy : Nat → ClassId) (B : Int) (qr : Nat) (s1 : Int) (a1 : Int32) (w0 : va_W) : Int32 → va_W → Prop := fun r u => TW ksM ad cy B qr 12 u ∧ FE ksM [(12, 15, 15), (12, 18, 18)] w0 u ∧ Ev (fun n => m_X12_makes n 0 a1.toInt (sI w0)) (r.toInt, sI u) ∧ ((r = 0 ∧ (∃ y : Int32, gi u 0 15 = y ∧ 1 ≤ y.toInt ∧ y.toInt ≤ 3205) ∧ (∃ y : Int32, gi u 0 18 = y ∧ 60 ≤ y.toInt ∧ y.toInt ≤ 60)) ∨ (r = 1 ∧ (∃ y : Int32, gi u 0 18 = y ∧ 1 ≤ y.toInt ∧ y.toInt ≤ 60) ∧ ((gi u 0 18).toInt = (gi w0 0 18).toInt + 1)))
set_option maxHeartbeats 4000000 in
set_option maxRecDepth 100000 in
theorem kz_X12_makes_3 (l : Launch) (adK adV : Nat → Nat) (dC : Nat → ClassId) (dI : Nat → Nat → Nat) (cy : Nat → ClassId) (ad : Nat → Nat) (B : Int) (hB0 : 100000 ≤ B) (hB1 : B ≤ 1073741824) (qr : Nat) (s1 : Int)  (a1 : Int32) (ra1 : 0 ≤ a1.toInt) (ta1 : a1.toInt ≤ 400) (w0 : va_W) (sz : Nat) (hT : TW ksM ad cy B qr 12 w0) (f0_ : Int32) (cf0_ : gi w0 0 18 = f0_) (rf0_ : 0 ≤ f0_.toInt) (tf0_ : f0_.toInt ≤ 60) : Met l yX12_makes (wu yX12_makes cX12_makes 2 (some .boolean)) ({ frames := 2, cells := 0, slots := 0, locals := 34 }) (va_Pc [.ref (ad 0), .int a1] (wpreS adK adV dC dI cy sz w0)) (va_Qi (Pz_X12_makes_3 ad cy B qr s1 a1 w0) (fun u : va_W => wpost dC dI cy (va_A w0 sz) u) (va_A w0 sz)) 0 0 (va_A w0 sz) := by
  refine Met.ofW (cc := cX12_makes) (maxL := 2) (ret := (some .boolean)) (by decide) rfl ?_
  intro p e s m args below meth c s₁ Bk hml hv
  obtain ⟨rfl, ⟨hsz, hP, hK, hD0⟩, hE, hSR⟩ := hv
  have hx := Bk.exec
  have hb := Bk.bytes
  have hr := Bk.returns
  have hlocks := Bk.notSynchronized
  have hC : CallFix p m c cX12_makes 2 s _ (wu yX12_makes cX12_makes 2 (some .boolean)) RX12 := ⟨hx, hb, hml, findClass_of_methodNamed Bk.named, atoms_spec (ws := (wu yX12_makes cX12_makes 2 (some .boolean))) Bk.pre⟩
  subst hsz
  have hD := hD0.self (sz := s.heap.size)
  generalize hAe : va_A w0 s.heap.size = A at hD hE ⊢
  have hA : ∀ q : Nat, s.heap.size ≤ q → A q := fun q h => by rw [← hAe]; exact Or.inr h
  have hw : Wd dC dI A s.heap s.heap [] w0 := ⟨hP, hD, va_S.rf⟩
  have hF : FE ksM [(12, 15, 15), (12, 18, 18)] w0 w0 := FE.rf
  have hl := lv_entry ([.ref (ad 0), .int a1]) (n := 2) (Nat.le_of_ble_eq_true rfl)
  rw [lg_entry_eq]
  generalize (lg_sl ([.ref (ad 0), .int a1]) ++ List.replicate (2 - (lg_sl ([.ref (ad 0), .int a1])).length) Slot.unset).toArray = ls at hl ⊢
  have hl : lv_has ls 2 [(0, .ref (ad 0)), (1, .int a1)] := hl
  generalize hloc : ([] : List Loc) = locs at hw ⊢
  have hinX12 : ∀ w ∈ u_ws RX12 TX12 42, w ∈ (wu yX12_makes cX12_makes 2 (some .boolean)) := fun _ h => List.mem_cons_of_mem _ (up_71 h)
  have hM : TT (fun n => m_X12_makes n 0 a1.toInt (sI w0)) (fun n => m_X12_makes n 0 a1.toInt (sI w0)) := TT.rf
  refine lv_aload_n hx hb dX12_makes_0 rfl (lv_at hl 0 rfl) ?_
  refine tk_geti hC hK hw hT hinX12 kM_at0 (by decide) rfl 18 (by decide) (List.mem_cons_of_mem _ uw_19_19) rfl rfl dX12_makes_1 (fun x1 c2 rx1 tx1 => ?_)
  refine wk_top f0_ (c2.symm.trans cf0_) ?_
  replace hM := hM.rd (sI_at cf0_)
  refine lv_bipush (v := 60) hx hb dX12_makes_4 (by decide) ?_
  refine lv_icmp_ne (tgt := 16) hx hb dX12_makes_6 (by decide) (fun c3 => ?_) (fun c3 => ?_)
  · have c3 : ¬ f0_.toInt = (60 : Int) := wk_eqF c3
    replace hM := hM.pos c3
    refine lv_aload_n hx hb dX12_makes_16 rfl (lv_at hl 0 rfl) ?_
    refine lv_dup hx hb dX12_makes_17 rfl ?_
    refine tk_geti hC hK hw hT hinX12 kM_at0 (by decide) rfl 18 (by decide) (List.mem_cons_of_mem _ uw_19_19) rfl rfl dX12_makes_18 (fun x4 c5 rx4 tx4 => ?_)
    refine wk_top f0_ (c5.symm.trans cf0_) ?_
    replace hM := hM.rd (sI_at cf0_)
    refine lv_iconst (v := 1) hx hb dX12_makes_21 (by decide) ?_
    refine lv_iadd hx hb dX12_makes_22 ?_
    refine lv_topi (fun x6 ex6 => ?_)
    have ezx6 := ex6
    have ex6 : x6.toInt = f0_.toInt + (1 : Int) := by rw [ex6]; exact wk_add (show (-2147483648) ≤ f0_.toInt + (1 : Int) by omega) (show f0_.toInt + (1 : Int) ≤ 2147483647 by omega)
    replace hM := hM.lt ex6.symm
    refine tk_puti hC hK hw hT hinX12 tyX12_ok nmX12 kM_at0 (by decide) rfl rfl 18 (by decide) (List.mem_cons_of_mem _ uw_19_19) rfl rfl rfl rfl (show 0 ≤ x6.toInt by first | with_reducible assumption | omega) (show x6.toInt ≤ 60 by first | with_reducible assumption | omega) dX12_makes_23 (fun H locs w7 hw hT k9 c8 => ?_)
    replace hM := hM.wr (sI_up k9 c8)
    have hF := hF.put kM_at0 (k := 18) (by decide) k9
    refine lv_iconst (v := 1) hx hb dX12_makes_26 (by decide) ?_
    exact tk_zret hC hr rfl hlocks hK ⟨hT, hF, hM.ret (by decide), (Or.inr ⟨rfl, ⟨x6, c8, (show 1 ≤ x6.toInt by first | with_reducible assumption | omega), (show x6.toInt ≤ 60 by first | with_reducible assumption | omega)⟩, (by simp only [cf0_, c8]; omega)⟩)⟩ hw dX12_makes_27
  · have c3 : f0_.toInt = (60 : Int) := wk_eq.mp c3
    replace hM := hM.neg (fun q => q c3)
    refine lv_aload_n hx hb dX12_makes_9 rfl (lv_at hl 0 rfl) ?_
    refine lv_iconst (v := 3) hx hb dX12_makes_10 (by decide) ?_
    refine lv_iload_n hx hb dX12_makes_11 rfl (lv_at hl 1 rfl) ?_
    refine tk_Vi hC hK hw hT hA hE hSR kM_at0 (by decide) rfl (kz_X12_fails_1 l adK adV dC dI cy ad B hB0 (Int.le_trans hB1 (by decide)) qr s1   3 (by decide) (by decide) a1 (show 0 ≤ a1.toInt from ra1) (show a1.toInt ≤ 400 from ta1) w0 s.heap.size hT ) (cwV 2 hC.2.2.2.2 uV_RX12_115 rfl rfl rfl (by decide +kernel) ⟨Nat.le_of_ble_eq_true rfl, Nat.le_of_ble_eq_true rfl⟩) rfl hl.1 rfl (Nat.le_of_ble_eq_true rfl) dX12_makes_12 (fun r10 w12 H locs hp11 hw => ?_)
    obtain ⟨hT, k13, hv17, hg16⟩ := hp11
    try simp only [show (3 : Int32).toInt = 3 by decide] at hv17
    have hF := hF.tr k13 (by decide)
    have c18 := k13.gi kM_at0 (by decide) cf0_
    obtain ⟨rfl, ⟨x14, c15, rx14, tx14⟩⟩ := hg16
    replace hM := hM.call (r' := 0) hv17 (by decide)
    exact tk_zret hC hr rfl hlocks hK ⟨hT, hF, hM.ret (by decide), (Or.inl ⟨rfl, ⟨x14, c15, (show 1 ≤ x14.toInt by first | with_reducible assumption | omega), (show x14.toInt ≤ 3205 by first | with_reducible assumption | omega)⟩, ⟨f0_, c18, (show 60 ≤ f0_.toInt by first | with_reducible assumption | omega), (show f0_.toInt ≤ 60 from tf0_)⟩⟩)⟩ hw dX12_makes_15
abbrev Pz_X12_value_1 (ad : Nat → Nat) (cy : Nat → ClassId) (B : Int) (qr : Nat) (s1 : Int)  (gT gb gd : Int) (w0 : va_W) : Int32 → va_W → Prop := fun r u => TW ksM ad cy B qr 12 u ∧ FE ksM [(12, 14, 14), (12, 15, 15), (12, 16, 16), (12, 18, 18), (61, 0, 2400), (62, 0, 7)] w0 u ∧ Ev (fun n => m_X12_value n 0 (sI w0)) (r.toInt, sI u) ∧ ((r = 0 ∧ (∃ y : Int32, gi u 0 1 = y ∧ 1 ≤ y.toInt ∧ y.toInt ≤ 400) ∧ (∃ y : Int32, gi u 0 15 = y ∧ 1 ≤ y.toInt ∧ y.toInt ≤ 3205) ∧ (∃ y : Int32, gi u 0 17 = y ∧ 0 ≤ y.toInt ∧ y.toInt ≤ 5) ∧ RLc u gT) ∨ (r = 0 ∧ (∃ y : Int32, gi u 0 1 = y ∧ 0 ≤ y.toInt ∧ y.toInt ≤ 400) ∧ (∃ y : Int32, gi u 0 15 = y ∧ 1 ≤ y.toInt ∧ y.toInt ≤ 3205) ∧ (∃ y : Int32, gi u 0 17 = y ∧ 0 ≤ y.toInt ∧ y.toInt ≤ 5) ∧ RLc u gT) ∨ (r = 1 ∧ (∃ y : Int32, gi u 0 1 = y ∧ 1 ≤ y.toInt ∧ y.toInt ≤ 400) ∧ (∃ y : Int32, gi u 0 17 = y ∧ 0 ≤ y.toInt ∧ y.toInt ≤ 5) ∧ (∃ y : Int32, gi u 0 18 = y ∧ 1 ≤ y.toInt ∧ y.toInt ≤ 60) ∧ OKW u gT gb (gd + 1) ∧ ((gi u 3 ((gi u 0 17).toInt).toNat).toInt = (gi w0 3 ((gi w0 0 17).toInt).toNat).toInt + 1) ∧ ((gi u 0 18).toInt = (gi w0 0 18).toInt + 1)) ∨ (r = 1 ∧ (∃ y : Int32, gi u 0 1 = y ∧ 0 ≤ y.toInt ∧ y.toInt ≤ 400) ∧ (∃ y : Int32, gi u 0 17 = y ∧ 0 ≤ y.toInt ∧ y.toInt ≤ 5) ∧ (∃ y : Int32, gi u 0 18 = y ∧ 1 ≤ y.toInt ∧ y.toInt ≤ 60) ∧ OKW u gT gb (gd + 1) ∧ ((gi u 3 ((gi u 0 17).toInt).toNat).toInt = (gi w0 3 ((gi w0 0 17).toInt).toNat).toInt + 1) ∧ ((gi u 0 18).toInt = (gi w0 0 18).toInt + 1)))
set_option maxHeartbeats 4000000 in
set_option maxRecDepth 100000 in
theorem kz_X12_value_1 (l : Launch) (adK adV : Nat → Nat) (dC : Nat → ClassId) (dI : Nat → Nat → Nat) (cy : Nat → ClassId) (ad : Nat → Nat) (B : Int) (hB0 : 100000 ≤ B) (hB1 : B ≤ 1073741824) (qr : Nat) (s1 : Int)   (w0 : va_W) (sz : Nat) (hT : TW ksM ad cy B qr 12 w0) (f0_ : Int32) (cf0_ : gi w0 0 17 = f0_) (rf0_ : 0 ≤ f0_.toInt) (tf0_ : f0_.toInt ≤ 5) (f1_ : Int32) (cf1_ : gi w0 0 18 = f1_) (rf1_ : 0 ≤ f1_.toInt) (tf1_ : f1_.toInt ≤ 60) (f2_ : Int32) (cf2_ : gi w0 3 (f0_.toInt).toNat = f2_) (rf2_ : 0 ≤ f2_.toInt) (tf2_ : f2_.toInt ≤ 400) (pr0_ : f2_.toInt ≤ 399) (gb gd : Int) (hgd0 : 0 ≤ gd) (hgd1 : gd ≤ f1_.toInt) (hO : OKW w0 f0_.toInt gb (gd)) : Met l yX12_value (wu yX12_value cX12_value 3 (some .boolean)) ({ frames := 4, cells := 0, slots := 0, locals := 78 }) (va_Pc [.ref (ad 0)] (wpreS adK adV dC dI cy sz w0)) (va_Qi (Pz_X12_value_1 ad cy B qr s1  f0_.toInt gb gd w0) (fun u : va_W => wpost dC dI cy (va_A w0 sz) u) (va_A w0 sz)) 0 0 (va_A w0 sz) := by
  refine Met.ofW (cc := cX12_value) (maxL := 3) (ret := (some .boolean)) (by decide) rfl ?_
  intro p e s m args below meth c s₁ Bk hml hv
  obtain ⟨rfl, ⟨hsz, hP, hK, hD0⟩, hE, hSR⟩ := hv
  have hx := Bk.exec
  have hb := Bk.bytes
  have hr := Bk.returns
  have hlocks := Bk.notSynchronized
  have hC : CallFix p m c cX12_value 3 s _ (wu yX12_value cX12_value 3 (some .boolean)) RX12 := ⟨hx, hb, hml, findClass_of_methodNamed Bk.named, atoms_spec (ws := (wu yX12_value cX12_value 3 (some .boolean))) Bk.pre⟩
  subst hsz
  have hD := hD0.self (sz := s.heap.size)
  generalize hAe : va_A w0 s.heap.size = A at hD hE ⊢
  have hA : ∀ q : Nat, s.heap.size ≤ q → A q := fun q h => by rw [← hAe]; exact Or.inr h
  have hw : Wd dC dI A s.heap s.heap [] w0 := ⟨hP, hD, va_S.rf⟩
  have hF : FE ksM [(12, 14, 14), (12, 15, 15), (12, 16, 16), (12, 18, 18), (61, 0, 2400), (62, 0, 7)] w0 w0 := FE.rf
  have hl := lv_entry ([.ref (ad 0)]) (n := 3) (Nat.le_of_ble_eq_true rfl)
  rw [lg_entry_eq]
  generalize (lg_sl ([.ref (ad 0)]) ++ List.replicate (3 - (lg_sl ([.ref (ad 0)])).length) Slot.unset).toArray = ls at hl ⊢
  have hl : lv_has ls 3 [(0, .ref (ad 0))] := hl
  generalize hloc : ([] : List Loc) = locs at hw ⊢
  have hinX12 : ∀ w ∈ u_ws RX12 TX12 42, w ∈ (wu yX12_value cX12_value 3 (some .boolean)) := fun _ h => List.mem_cons_of_mem _ (up_71 h)
  have hM : TT (fun n => m_X12_value n 0 (sI w0)) (fun n => m_X12_value n 0 (sI w0)) := TT.rf
  refine lv_aload_n hx hb dX12_value_0 rfl (lv_at hl 0 rfl) ?_
  obtain ⟨x1, c2, rx1, tx1⟩ := hT.rdi (lo := 0) (hi := 400) (k := 14) kM_at0 (by decide) rfl
  refine tk_Vi hC hK hw hT hA hE hSR kM_at0 (by decide) rfl (kz_X12_see_1 l adK adV dC dI cy ad B hB0 (Int.le_trans hB1 (by decide)) qr s1    w0 s.heap.size hT x1 c2 (show 0 ≤ x1.toInt by first | with_reducible assumption | omega) (show x1.toInt ≤ 400 by first | with_reducible assumption | omega)) (cwV 0 hC.2.2.2.2 uV_RX12_97 rfl rfl rfl (by decide +kernel) ⟨Nat.le_of_ble_eq_true rfl, Nat.le_of_ble_eq_true rfl⟩) rfl hl.1 rfl (Nat.le_of_ble_eq_true rfl) dX12_value_1 (fun r3 w5 H locs hp4 hw => ?_)
  obtain ⟨hT, k6, hv24, hg23⟩ := hp4
  have hO := OKW_FE k6 (fun _ => rfl) (fun _ => rfl) (fun _ => rfl) (fun _ => rfl) hO
  have hF := hF.tr k6 (by decide)
  have c25 := k6.gi kM_at0 (by decide) cf0_
  have c26 := k6.gi kM_at0 (by decide) cf1_
  have c27 := k6.gi kM_at3 rfl cf2_
  rcases hg23 with ⟨g7, g8, ⟨x9, c10, rx9, tx9⟩, ⟨x11, c12, rx11, tx11⟩, g13, g14⟩ | ⟨rfl, ⟨x15, c16, rx15, tx15⟩, ⟨x17, c18, rx17, tx17⟩, g19⟩ | ⟨rfl, ⟨x20, c21, rx20, tx20⟩, g22⟩
  · replace hM := hM.call hv24 rfl
    have g13 : (gi w5 1 (x11.toInt).toNat).toInt ≠ 32 := by have q := g13; simp only [cf0_, c25, c12] at q; first | with_reducible exact q | omega
    have g14 : (x11.toInt = x1.toInt ∨ (gi w0 1 (x1.toInt).toNat).toInt = 32) := by have q := g14; simp only [cf0_, c25, c2, c12] at q; first | with_reducible exact q | omega
    refine lv_pop hx hb dX12_value_4 rfl ?_
    refine lv_aload_n hx hb dX12_value_5 rfl (lv_at hl 0 rfl) ?_
    refine tk_geti hC hK hw hT hinX12 kM_at0 (by decide) rfl 14 (by decide) (List.mem_cons_of_mem _ uw_19_18) rfl rfl dX12_value_6 (fun x30 c31 rx30 tx30 => ?_)
    refine wk_top x11 (c31.symm.trans c12) ?_
    replace hM := hM.rd (sI_at c12)
    refine lv_istore_n (lv' := [(1, .int x11), (0, .ref (ad 0))]) hx hb dX12_value_9 rfl hl (by decide) rfl (fun ls hl => ?_)
    refine lv_aload_n hx hb dX12_value_10 rfl (lv_at hl 1 rfl) ?_
    refine lv_aload_n hx hb dX12_value_11 rfl (lv_at hl 1 rfl) ?_
    refine tk_geti hC hK hw hT hinX12 kM_at0 (by decide) rfl 14 (by decide) (List.mem_cons_of_mem _ uw_19_18) rfl rfl dX12_value_12 (fun x32 c33 rx32 tx32 => ?_)
    refine wk_top x11 (c33.symm.trans c12) ?_
    replace hM := hM.rd (sI_at c12)
    refine tk_Vi hC hK hw hT hA hE hSR kM_at0 (by decide) rfl (kz_X12_isDigit_2 l adK adV dC dI cy ad B hB0 (Int.le_trans hB1 (by decide)) qr s1   x11 (show 0 ≤ x11.toInt by first | with_reducible assumption | omega) (show x11.toInt ≤ 399 by first | with_reducible assumption | omega) w5 H.size hT ) (cwV 1 hC.2.2.2.2 uV_RX12_112 rfl rfl rfl (by decide +kernel) ⟨Nat.le_of_ble_eq_true rfl, Nat.le_of_ble_eq_true rfl⟩) rfl hl.1 rfl (Nat.le_of_ble_eq_true rfl) dX12_value_15 (fun r34 w36 H locs hp35 hw => ?_)
    obtain ⟨rfl, hv43, hg42⟩ := hp35
    rcases hg42 with ⟨rfl, ⟨x38, c39, rx38, tx38⟩⟩ | ⟨rfl, ⟨x40, c41, rx40, tx40⟩⟩
    · replace hM := hM.call (r' := 0) hv43 (by decide)
      have ex38 : x38.toInt = x9.toInt := by rw [← c10.symm.trans c39]
      refine lv_if_eq (tgt := 52) hx hb dX12_value_18 (by decide) (fun _ => ?_) (fun c => absurd (by decide) c)
      replace hM := hM.pos (by decide)
      refine lv_aload_n hx hb dX12_value_52 rfl (lv_at hl 1 rfl) ?_
      refine tk_Vi hC hK hw hT hA hE hSR kM_at0 (by decide) rfl (kz_X12_wordHere_1 l adK adV dC dI cy ad B hB0 (Int.le_trans hB1 (by decide)) qr s1    w5 H.size hT ) (cwV 0 hC.2.2.2.2 uV_RX12_173 rfl rfl rfl (by decide +kernel) ⟨Nat.le_of_ble_eq_true rfl, Nat.le_of_ble_eq_true rfl⟩) rfl hl.1 rfl (Nat.le_of_ble_eq_true rfl) dX12_value_53 (fun r44 w46 H locs hp45 hw => ?_)
      obtain ⟨hT, k47, hv55, hg54⟩ := hp45
      have hO := OKW_FE k47 (fun _ => rfl) (fun _ => rfl) (fun _ => rfl) (fun _ => rfl) hO
      have hF := hF.tr k47 (by decide)
      have c56 := k47.gi kM_at0 (by decide) c25
      have c57 := k47.gi kM_at0 (by decide) c26
      have c58 := k47.gi kM_at3 rfl c27
      have c59 := k47.gi kM_at0 (by decide) c10
      rcases hg54 with ⟨g48, g49, ⟨x50, c51, rx50, tx50⟩⟩ | ⟨rfl, ⟨x52, c53, rx52, tx52⟩⟩
      · replace hM := hM.call hv55 rfl
        have ex50 : x50.toInt = x9.toInt := by rw [← c59.symm.trans c51]
        refine lv_istore_n (lv' := [(2, .int r44), (1, .int x11), (0, .ref (ad 0))]) hx hb dX12_value_56 rfl hl (by decide) rfl (fun ls hl => ?_)
        refine lv_iload_n hx hb dX12_value_57 rfl (lv_at hl 0 rfl) ?_
        refine lv_if_ge (tgt := 68) hx hb dX12_value_58 (by decide) (fun _ => ?_) (fun c => (c (wk_le.mpr (show (0 : Int) ≤ r44.toInt by first | with_reducible assumption | omega))).elim)
        replace hM := hM.pos (by omega)
        refine lv_aload_n hx hb dX12_value_68 rfl (lv_at hl 2 rfl) ?_
        refine lv_iload_n hx hb dX12_value_69 rfl (lv_at hl 1 rfl) ?_
        refine tk_Vi hC hK hw hT hA hE hSR kM_at0 (by decide) rfl (kz_X12_makes_1 l adK adV dC dI cy ad B hB0 (Int.le_trans hB1 (by decide)) qr s1   x11 (show 0 ≤ x11.toInt by first | with_reducible assumption | omega) (show x11.toInt ≤ 399 by first | with_reducible assumption | omega) w46 H.size hT f1_ c57 (show 0 ≤ f1_.toInt from rf1_) (show f1_.toInt ≤ 60 from tf1_)) (cwV 1 hC.2.2.2.2 uV_RX12_170 rfl rfl rfl (by decide +kernel) ⟨Nat.le_of_ble_eq_true rfl, Nat.le_of_ble_eq_true rfl⟩) rfl hl.1 rfl (Nat.le_of_ble_eq_true rfl) dX12_value_70 (fun r60 w62 H locs hp61 hw => ?_)
        obtain ⟨hT, k63, hv72, hg71⟩ := hp61
        have hO := OKW_FE k63 (fun _ => rfl) (fun _ => rfl) (fun _ => rfl) (fun _ => rfl) hO
        have hF := hF.tr k63 (by decide)
        have c73 := k63.gi kM_at0 (by decide) c56
        have c74 := k63.gi kM_at3 rfl c58
        have c75 := k63.gi kM_at0 (by decide) c59
        rcases hg71 with ⟨rfl, ⟨x64, c65, rx64, tx64⟩, ⟨x66, c67, rx66, tx66⟩⟩ | ⟨rfl, ⟨x68, c69, rx68, tx68⟩, g70⟩
        · replace hM := hM.call (r' := 0) hv72 (by decide)
          refine lv_if_ne (tgt := 78) hx hb dX12_value_73 (by decide) (fun c => absurd (by decide) c) (fun _ => ?_)
          replace hM := hM.neg (by decide)
          refine lv_iconst (v := 0) hx hb dX12_value_76 (by decide) ?_
          exact tk_zret hC hr rfl hlocks hK ⟨hT, hF, hM.ret (by decide), (Or.inl ⟨rfl, ⟨x9, c75, (show 1 ≤ x9.toInt by first | with_reducible assumption | omega), (show x9.toInt ≤ 400 by first | with_reducible assumption | omega)⟩, ⟨x64, c65, (show 1 ≤ x64.toInt by first | with_reducible assumption | omega), (show x64.toInt ≤ 3205 by first | with_reducible assumption | omega)⟩, ⟨f0_, c73, (show 0 ≤ f0_.toInt from rf0_), (show f0_.toInt ≤ 5 from tf0_)⟩, hO.1⟩)⟩ hw dX12_value_77
        · replace hM := hM.call (r' := 1) hv72 (by decide)
          have g70 : x68.toInt = f1_.toInt + 1 := by have q := g70; simp only [c56, c73, c57, c69] at q; first | with_reducible exact q | omega
          refine lv_if_ne (tgt := 78) hx hb dX12_value_73 (by decide) (fun _ => ?_) (fun c => absurd c (by decide))
          replace hM := hM.pos (by decide)
          refine lv_aload_n hx hb dX12_value_78 rfl (lv_at hl 2 rfl) ?_
          refine tk_Vv hC hK hw hT hA hE hSR kM_at0 (by decide) rfl (kz_X12_passWord_1 l adK adV dC dI cy ad B hB0 (Int.le_trans hB1 (by decide)) qr s1    w62 H.size hT ) (cwV 0 hC.2.2.2.2 uV_RX12_109 rfl rfl rfl (by decide +kernel) ⟨Nat.le_of_ble_eq_true rfl, Nat.le_of_ble_eq_true rfl⟩) rfl hl.1 rfl (Nat.le_of_ble_eq_true rfl) dX12_value_79 (fun w78 H locs hp77 hw => ?_)
          obtain ⟨hT, k79, hv87, hg86⟩ := hp77
          have hO := OKW_FE k79 (fun _ => rfl) (fun _ => rfl) (fun _ => rfl) (fun _ => rfl) hO
          have hF := hF.tr k79 (by decide)
          have c88 := k79.gi kM_at0 (by decide) c73
          have c89 := k79.gi kM_at3 rfl c74
          have c90 := k79.gi kM_at0 (by decide) c75
          have c91 := k79.gi kM_at0 (by decide) c69
          rcases hg86 with ⟨⟨x80, c81, rx80, tx80⟩, ⟨x82, c83, rx82, tx82⟩⟩ | ⟨x84, c85, rx84, tx84⟩
          · replace hM := hM.call hv87 rfl
            have ex80 : x80.toInt = x9.toInt := by rw [← c90.symm.trans c81]
            refine lv_aload_n hx hb dX12_value_82 rfl (lv_at hl 2 rfl) ?_
            refine lv_iconst (v := 1) hx hb dX12_value_83 (by decide) ?_
            refine lv_iload_n hx hb dX12_value_84 rfl (lv_at hl 0 rfl) ?_
            refine tk_Vv hC hK hw hT hA hE hSR kM_at0 (by decide) rfl (kz_X12_puts_1 l adK adV dC dI cy ad B hB0 (Int.le_trans hB1 (by decide)) qr s1   1 (by decide) (by decide) r44 (show 0 ≤ r44.toInt by first | with_reducible assumption | omega) (show r44.toInt ≤ 99999 by first | with_reducible assumption | omega) w78 H.size hT f0_ c88 (show 0 ≤ f0_.toInt from rf0_) (show f0_.toInt ≤ 5 from tf0_) f2_ c89 (show 0 ≤ f2_.toInt from rf2_) (show f2_.toInt ≤ 400 from tf2_) (show f2_.toInt ≤ 399 from pr0_)) (cwV 2 hC.2.2.2.2 uV_RX12_162 rfl rfl rfl (by decide +kernel) ⟨Nat.le_of_ble_eq_true rfl, Nat.le_of_ble_eq_true rfl⟩) rfl hl.1 rfl (Nat.le_of_ble_eq_true rfl) dX12_value_85 (fun w94 H locs hp93 hw => ?_)
            obtain ⟨hT, k95, hv101, hg100⟩ := hp93
            try simp only [show (1 : Int32).toInt = 1 by decide] at hv101
            have hF := hF.tr k95 (by decide)
            have c102 := k95.gi kM_at0 (by decide) c88
            have c103 := k95.gi kM_at0 (by decide) c90
            have c104 := k95.gi kM_at0 (by decide) c91
            have c105 := k95.gi kM_at0 (by decide) c83
            obtain ⟨⟨x96, c97, rx96, tx96⟩, hq98, g99⟩ := hg100
            replace hM := hM.call hv101 rfl
            have ex96 : x96.toInt = f0_.toInt := by rw [← c102.symm.trans c97]
            obtain ⟨x106, c107, rx106, tx106⟩ := hT.rda (lo := 0) (hi := 400) (i := (f0_.toInt).toNat) kM_at3 rfl rfl (by omega)
            have g99 : x106.toInt = f2_.toInt + 1 := by have q := g99; simp only [c88, c102, c89, c107] at q; first | with_reducible exact q | omega
            have hO : OKW w94 f0_.toInt gb ((gd) + 1) := OKW_put hO (by have q := hq98; rw [c88] at q; exact q) (by rw [c89]; omega) (fun x hx => by simp only [(show (1 : Int32).toInt = 1 by decide)] at hx; exact okT_word (v := r44.toInt) (by omega) (by omega) (by omega)) (by omega) (by omega)
            refine lv_iconst (v := 1) hx hb dX12_value_88 (by decide) ?_
            exact tk_zret hC hr rfl hlocks hK ⟨hT, hF, hM.ret (by decide), (Or.inr (Or.inr (Or.inl ⟨rfl, ⟨x9, c103, (show 1 ≤ x9.toInt by first | with_reducible assumption | omega), (show x9.toInt ≤ 400 by first | with_reducible assumption | omega)⟩, ⟨f0_, c102, (show 0 ≤ f0_.toInt from rf0_), (show f0_.toInt ≤ 5 from tf0_)⟩, ⟨x68, c104, (show 1 ≤ x68.toInt by first | with_reducible assumption | omega), (show x68.toInt ≤ 60 by first | with_reducible assumption | omega)⟩, (OKW_cast hO (by omega)), (by simp only [c102, cf0_, cf2_, c107]; omega), (by simp only [c102, cf0_, cf1_, c104]; omega)⟩)))⟩ hw dX12_value_89
          · replace hM := hM.call hv87 rfl
            have ex84 : x84.toInt = x9.toInt := by rw [← c90.symm.trans c85]
            refine lv_aload_n hx hb dX12_value_82 rfl (lv_at hl 2 rfl) ?_
            refine lv_iconst (v := 1) hx hb dX12_value_83 (by decide) ?_
            refine lv_iload_n hx hb dX12_value_84 rfl (lv_at hl 0 rfl) ?_
            refine tk_Vv hC hK hw hT hA hE hSR kM_at0 (by decide) rfl (kz_X12_puts_1 l adK adV dC dI cy ad B hB0 (Int.le_trans hB1 (by decide)) qr s1   1 (by decide) (by decide) r44 (show 0 ≤ r44.toInt by first | with_reducible assumption | omega) (show r44.toInt ≤ 99999 by first | with_reducible assumption | omega) w78 H.size hT f0_ c88 (show 0 ≤ f0_.toInt from rf0_) (show f0_.toInt ≤ 5 from tf0_) f2_ c89 (show 0 ≤ f2_.toInt from rf2_) (show f2_.toInt ≤ 400 from tf2_) (show f2_.toInt ≤ 399 from pr0_)) (cwV 2 hC.2.2.2.2 uV_RX12_162 rfl rfl rfl (by decide +kernel) ⟨Nat.le_of_ble_eq_true rfl, Nat.le_of_ble_eq_true rfl⟩) rfl hl.1 rfl (Nat.le_of_ble_eq_true rfl) dX12_value_85 (fun w110 H locs hp109 hw => ?_)
            obtain ⟨hT, k111, hv117, hg116⟩ := hp109
            try simp only [show (1 : Int32).toInt = 1 by decide] at hv117
            have hF := hF.tr k111 (by decide)
            have c118 := k111.gi kM_at0 (by decide) c88
            have c119 := k111.gi kM_at0 (by decide) c90
            have c120 := k111.gi kM_at0 (by decide) c91
            obtain ⟨⟨x112, c113, rx112, tx112⟩, hq114, g115⟩ := hg116
            replace hM := hM.call hv117 rfl
            have ex112 : x112.toInt = f0_.toInt := by rw [← c118.symm.trans c113]
            obtain ⟨x121, c122, rx121, tx121⟩ := hT.rda (lo := 0) (hi := 400) (i := (f0_.toInt).toNat) kM_at3 rfl rfl (by omega)
            have g115 : x121.toInt = f2_.toInt + 1 := by have q := g115; simp only [c88, c118, c89, c122] at q; first | with_reducible exact q | omega
            have hO : OKW w110 f0_.toInt gb ((gd) + 1) := OKW_put hO (by have q := hq114; rw [c88] at q; exact q) (by rw [c89]; omega) (fun x hx => by simp only [(show (1 : Int32).toInt = 1 by decide)] at hx; exact okT_word (v := r44.toInt) (by omega) (by omega) (by omega)) (by omega) (by omega)
            refine lv_iconst (v := 1) hx hb dX12_value_88 (by decide) ?_
            exact tk_zret hC hr rfl hlocks hK ⟨hT, hF, hM.ret (by decide), (Or.inr (Or.inr (Or.inl ⟨rfl, ⟨x9, c119, (show 1 ≤ x9.toInt by first | with_reducible assumption | omega), (show x9.toInt ≤ 400 by first | with_reducible assumption | omega)⟩, ⟨f0_, c118, (show 0 ≤ f0_.toInt from rf0_), (show f0_.toInt ≤ 5 from tf0_)⟩, ⟨x68, c120, (show 1 ≤ x68.toInt by first | with_reducible assumption | omega), (show x68.toInt ≤ 60 by first | with_reducible assumption | omega)⟩, (OKW_cast hO (by omega)), (by simp only [c118, cf0_, cf2_, c122]; omega), (by simp only [c118, cf0_, cf1_, c120]; omega)⟩)))⟩ hw dX12_value_89
      · replace hM := hM.call (r' := (-1)) hv55 (by decide)
        have ex52 : x52.toInt = x9.toInt := by rw [← c59.symm.trans c53]
        refine lv_istore_n (lv' := [(2, .int (-1)), (1, .int x11), (0, .ref (ad 0))]) hx hb dX12_value_56 rfl hl (by decide) rfl (fun ls hl => ?_)
        refine lv_iload_n hx hb dX12_value_57 rfl (lv_at hl 0 rfl) ?_
        refine lv_if_ge (tgt := 68) hx hb dX12_value_58 (by decide) (fun c => absurd c (by decide)) (fun _ => ?_)
        replace hM := hM.neg (by decide)
        refine lv_aload_n hx hb dX12_value_61 rfl (lv_at hl 2 rfl) ?_
        refine lv_iconst (v := 0) hx hb dX12_value_62 (by decide) ?_
        refine lv_iload_n hx hb dX12_value_63 rfl (lv_at hl 1 rfl) ?_
        refine tk_Vi hC hK hw hT hA hE hSR kM_at0 (by decide) rfl (kz_X12_fails_1 l adK adV dC dI cy ad B hB0 (Int.le_trans hB1 (by decide)) qr s1   0 (by decide) (by decide) x11 (show 0 ≤ x11.toInt by first | with_reducible assumption | omega) (show x11.toInt ≤ 400 by first | with_reducible assumption | omega) w46 H.size hT ) (cwV 2 hC.2.2.2.2 uV_RX12_115 rfl rfl rfl (by decide +kernel) ⟨Nat.le_of_ble_eq_true rfl, Nat.le_of_ble_eq_true rfl⟩) rfl hl.1 rfl (Nat.le_of_ble_eq_true rfl) dX12_value_64 (fun r123 w125 H locs hp124 hw => ?_)
        obtain ⟨hT, k126, hv130, hg129⟩ := hp124
        try simp only [show (0 : Int32).toInt = 0 by decide] at hv130
        have hO := OKW_FE k126 (fun _ => rfl) (fun _ => rfl) (fun _ => rfl) (fun _ => rfl) hO
        have hF := hF.tr k126 (by decide)
        have c131 := k126.gi kM_at0 (by decide) c56
        have c132 := k126.gi kM_at0 (by decide) c57
        have c133 := k126.gi kM_at3 rfl c58
        have c134 := k126.gi kM_at0 (by decide) c59
        obtain ⟨rfl, ⟨x127, c128, rx127, tx127⟩⟩ := hg129
        replace hM := hM.call (r' := 0) hv130 (by decide)
        exact tk_zret hC hr rfl hlocks hK ⟨hT, hF, hM.ret (by decide), (Or.inl ⟨rfl, ⟨x9, c134, (show 1 ≤ x9.toInt by first | with_reducible assumption | omega), (show x9.toInt ≤ 400 by first | with_reducible assumption | omega)⟩, ⟨x127, c128, (show 1 ≤ x127.toInt by first | with_reducible assumption | omega), (show x127.toInt ≤ 3205 by first | with_reducible assumption | omega)⟩, ⟨f0_, c131, (show 0 ≤ f0_.toInt from rf0_), (show f0_.toInt ≤ 5 from tf0_)⟩, hO.1⟩)⟩ hw dX12_value_67
    · replace hM := hM.call (r' := 1) hv43 (by decide)
      have ex40 : x40.toInt = x9.toInt := by rw [← c10.symm.trans c41]
      refine lv_if_eq (tgt := 52) hx hb dX12_value_18 (by decide) (fun c => absurd c (by decide)) (fun _ => ?_)
      replace hM := hM.neg (by decide)
      refine lv_aload_n hx hb dX12_value_21 rfl (lv_at hl 1 rfl) ?_
      refine lv_iconst (v := 0) hx hb dX12_value_22 (by decide) ?_
      refine lv_ldc (v := 99999) hx hb hC.2.2.2.1 (hC.2.2.2.2 _ (List.mem_cons_of_mem _ uw_24_18)) dX12_value_23 ?_
      refine tk_Vi hC hK hw hT hA hE hSR kM_at0 (by decide) rfl (kz_X12_numberHere_9 l adK adV dC dI cy ad B hB0 (Int.le_trans hB1 (by decide)) qr s1    w5 H.size hT ) (cwV 2 hC.2.2.2.2 uV_RX12_167 rfl rfl rfl (by decide +kernel) ⟨Nat.le_of_ble_eq_true rfl, Nat.le_of_ble_eq_true rfl⟩) rfl hl.1 rfl (Nat.le_of_ble_eq_true rfl) dX12_value_25 (fun r135 w137 H locs hp136 hw => ?_)
      obtain ⟨hT, k138, hv152, hg151⟩ := hp136
      have hO := OKW_FE k138 (fun _ => rfl) (fun _ => rfl) (fun _ => rfl) (fun _ => rfl) hO
      have hF := hF.tr k138 (by decide)
      have c153 := k138.gi kM_at0 (by decide) c25
      have c154 := k138.gi kM_at0 (by decide) c26
      have c155 := k138.gi kM_at3 rfl c27
      have c156 := k138.gi kM_at0 (by decide) c10
      rcases hg151 with ⟨rfl, ⟨x139, c140, rx139, tx139⟩, ⟨x141, c142, rx141, tx141⟩⟩ | ⟨rfl, ⟨x143, c144, rx143, tx143⟩, ⟨x145, c146, rx145, tx145⟩⟩ | ⟨rfl, ⟨x147, c148, rx147, tx147⟩, ⟨x149, c150, rx149, tx149⟩⟩
      · replace hM := hM.call (r' := 0) hv152 (by decide)
        have ex139 : x139.toInt = x9.toInt := by rw [← c156.symm.trans c140]
        refine lv_if_eq (tgt := 39) hx hb dX12_value_28 (by decide) (fun _ => ?_) (fun c => absurd (by decide) c)
        replace hM := hM.pos (by decide)
        refine lv_iconst (v := 0) hx hb dX12_value_39 (by decide) ?_
        exact tk_zret hC hr rfl hlocks hK ⟨hT, hF, hM.ret (by decide), (Or.inl ⟨rfl, ⟨x9, c156, (show 1 ≤ x9.toInt by first | with_reducible assumption | omega), (show x9.toInt ≤ 400 by first | with_reducible assumption | omega)⟩, ⟨x141, c142, (show 1 ≤ x141.toInt by first | with_reducible assumption | omega), (show x141.toInt ≤ 3205 by first | with_reducible assumption | omega)⟩, ⟨f0_, c153, (show 0 ≤ f0_.toInt from rf0_), (show f0_.toInt ≤ 5 from tf0_)⟩, hO.1⟩)⟩ hw dX12_value_40
      · replace hM := hM.call (r' := 0) hv152 (by decide)
        have ex143 : x143.toInt = x9.toInt := by rw [← c156.symm.trans c144]
        refine lv_if_eq (tgt := 39) hx hb dX12_value_28 (by decide) (fun _ => ?_) (fun c => absurd (by decide) c)
        replace hM := hM.pos (by decide)
        refine lv_iconst (v := 0) hx hb dX12_value_39 (by decide) ?_
        exact tk_zret hC hr rfl hlocks hK ⟨hT, hF, hM.ret (by decide), (Or.inl ⟨rfl, ⟨x9, c156, (show 1 ≤ x9.toInt by first | with_reducible assumption | omega), (show x9.toInt ≤ 400 by first | with_reducible assumption | omega)⟩, ⟨x145, c146, (show 1 ≤ x145.toInt by first | with_reducible assumption | omega), (show x145.toInt ≤ 3205 by first | with_reducible assumption | omega)⟩, ⟨f0_, c153, (show 0 ≤ f0_.toInt from rf0_), (show f0_.toInt ≤ 5 from tf0_)⟩, hO.1⟩)⟩ hw dX12_value_40
      · replace hM := hM.call (r' := 1) hv152 (by decide)
        have ex147 : x147.toInt = x9.toInt := by rw [← c156.symm.trans c148]
        refine lv_if_eq (tgt := 39) hx hb dX12_value_28 (by decide) (fun c => absurd c (by decide)) (fun _ => ?_)
        replace hM := hM.neg (by decide)
        refine lv_aload_n hx hb dX12_value_31 rfl (lv_at hl 1 rfl) ?_
        refine lv_iload_n hx hb dX12_value_32 rfl (lv_at hl 0 rfl) ?_
        refine tk_Vi hC hK hw hT hA hE hSR kM_at0 (by decide) rfl (kz_X12_makes_1 l adK adV dC dI cy ad B hB0 (Int.le_trans hB1 (by decide)) qr s1   x11 (show 0 ≤ x11.toInt by first | with_reducible assumption | omega) (show x11.toInt ≤ 399 by first | with_reducible assumption | omega) w137 H.size hT f1_ c154 (show 0 ≤ f1_.toInt from rf1_) (show f1_.toInt ≤ 60 from tf1_)) (cwV 1 hC.2.2.2.2 uV_RX12_170 rfl rfl rfl (by decide +kernel) ⟨Nat.le_of_ble_eq_true rfl, Nat.le_of_ble_eq_true rfl⟩) rfl hl.1 rfl (Nat.le_of_ble_eq_true rfl) dX12_value_33 (fun r157 w159 H locs hp158 hw => ?_)
        obtain ⟨hT, k160, hv169, hg168⟩ := hp158
        have hO := OKW_FE k160 (fun _ => rfl) (fun _ => rfl) (fun _ => rfl) (fun _ => rfl) hO
        have hF := hF.tr k160 (by decide)
        have c170 := k160.gi kM_at0 (by decide) c153
        have c171 := k160.gi kM_at3 rfl c155
        have c172 := k160.gi kM_at0 (by decide) c156
        have c173 := k160.gi kM_at0 (by decide) c150
        rcases hg168 with ⟨rfl, ⟨x161, c162, rx161, tx161⟩, ⟨x163, c164, rx163, tx163⟩⟩ | ⟨rfl, ⟨x165, c166, rx165, tx165⟩, g167⟩
        · replace hM := hM.call (r' := 0) hv169 (by decide)
          refine lv_if_ne (tgt := 41) hx hb dX12_value_36 (by decide) (fun c => absurd (by decide) c) (fun _ => ?_)
          replace hM := hM.neg (by decide)
          refine lv_iconst (v := 0) hx hb dX12_value_39 (by decide) ?_
          exact tk_zret hC hr rfl hlocks hK ⟨hT, hF, hM.ret (by decide), (Or.inl ⟨rfl, ⟨x9, c172, (show 1 ≤ x9.toInt by first | with_reducible assumption | omega), (show x9.toInt ≤ 400 by first | with_reducible assumption | omega)⟩, ⟨x161, c162, (show 1 ≤ x161.toInt by first | with_reducible assumption | omega), (show x161.toInt ≤ 3205 by first | with_reducible assumption | omega)⟩, ⟨f0_, c170, (show 0 ≤ f0_.toInt from rf0_), (show f0_.toInt ≤ 5 from tf0_)⟩, hO.1⟩)⟩ hw dX12_value_40
        · replace hM := hM.call (r' := 1) hv169 (by decide)
          have g167 : x165.toInt = f1_.toInt + 1 := by have q := g167; simp only [c153, c170, c154, c166] at q; first | with_reducible exact q | omega
          refine lv_if_ne (tgt := 41) hx hb dX12_value_36 (by decide) (fun _ => ?_) (fun c => absurd c (by decide))
          replace hM := hM.pos (by decide)
          refine lv_aload_n hx hb dX12_value_41 rfl (lv_at hl 1 rfl) ?_
          refine lv_iconst (v := 0) hx hb dX12_value_42 (by decide) ?_
          refine lv_aload_n hx hb dX12_value_43 rfl (lv_at hl 1 rfl) ?_
          refine tk_geti hC hK hw hT hinX12 kM_at0 (by decide) rfl 16 (by decide) (List.mem_cons_of_mem _ uw_21_12) rfl rfl dX12_value_44 (fun x174 c175 rx174 tx174 => ?_)
          refine wk_top x149 (c175.symm.trans c173) ?_
          replace hM := hM.rd (sI_at c173)
          refine tk_Vv hC hK hw hT hA hE hSR kM_at0 (by decide) rfl (kz_X12_puts_1 l adK adV dC dI cy ad B hB0 (Int.le_trans hB1 (by decide)) qr s1   0 (by decide) (by decide) x149 (show 0 ≤ x149.toInt by first | with_reducible assumption | omega) (show x149.toInt ≤ 99999 by first | with_reducible assumption | omega) w159 H.size hT f0_ c170 (show 0 ≤ f0_.toInt from rf0_) (show f0_.toInt ≤ 5 from tf0_) f2_ c171 (show 0 ≤ f2_.toInt from rf2_) (show f2_.toInt ≤ 400 from tf2_) (show f2_.toInt ≤ 399 from pr0_)) (cwV 2 hC.2.2.2.2 uV_RX12_162 rfl rfl rfl (by decide +kernel) ⟨Nat.le_of_ble_eq_true rfl, Nat.le_of_ble_eq_true rfl⟩) rfl hl.1 rfl (Nat.le_of_ble_eq_true rfl) dX12_value_47 (fun w178 H locs hp177 hw => ?_)
          obtain ⟨hT, k179, hv185, hg184⟩ := hp177
          try simp only [show (0 : Int32).toInt = 0 by decide] at hv185
          have hF := hF.tr k179 (by decide)
          have c186 := k179.gi kM_at0 (by decide) c170
          have c187 := k179.gi kM_at0 (by decide) c172
          have c188 := k179.gi kM_at0 (by decide) c173
          have c189 := k179.gi kM_at0 (by decide) c166
          obtain ⟨⟨x180, c181, rx180, tx180⟩, hq182, g183⟩ := hg184
          replace hM := hM.call hv185 rfl
          have ex180 : x180.toInt = f0_.toInt := by rw [← c186.symm.trans c181]
          obtain ⟨x190, c191, rx190, tx190⟩ := hT.rda (lo := 0) (hi := 400) (i := (f0_.toInt).toNat) kM_at3 rfl rfl (by omega)
          have g183 : x190.toInt = f2_.toInt + 1 := by have q := g183; simp only [c170, c186, c171, c191] at q; first | with_reducible exact q | omega
          have hO : OKW w178 f0_.toInt gb ((gd) + 1) := OKW_put hO (by have q := hq182; rw [c170] at q; exact q) (by rw [c171]; omega) (fun x hx => by simp only [(show (0 : Int32).toInt = 0 by decide)] at hx; exact okT_num (v := x149.toInt) (by omega) (by omega)) (by omega) (by omega)
          refine lv_iconst (v := 1) hx hb dX12_value_50 (by decide) ?_
          exact tk_zret hC hr rfl hlocks hK ⟨hT, hF, hM.ret (by decide), (Or.inr (Or.inr (Or.inl ⟨rfl, ⟨x9, c187, (show 1 ≤ x9.toInt by first | with_reducible assumption | omega), (show x9.toInt ≤ 400 by first | with_reducible assumption | omega)⟩, ⟨f0_, c186, (show 0 ≤ f0_.toInt from rf0_), (show f0_.toInt ≤ 5 from tf0_)⟩, ⟨x165, c189, (show 1 ≤ x165.toInt by first | with_reducible assumption | omega), (show x165.toInt ≤ 60 by first | with_reducible assumption | omega)⟩, (OKW_cast hO (by omega)), (by simp only [c186, cf0_, cf2_, c191]; omega), (by simp only [c186, cf0_, cf1_, c189]; omega)⟩)))⟩ hw dX12_value_51
  · replace hM := hM.call (r' := (-1)) hv24 (by decide)
    have g19 : (x17.toInt = x1.toInt ∨ (gi w0 1 (x1.toInt).toNat).toInt = 32) := by have q := g19; simp only [cf0_, c25, c2, c18] at q; first | with_reducible exact q | omega
    refine lv_pop hx hb dX12_value_4 rfl ?_
    refine lv_aload_n hx hb dX12_value_5 rfl (lv_at hl 0 rfl) ?_
    refine tk_geti hC hK hw hT hinX12 kM_at0 (by decide) rfl 14 (by decide) (List.mem_cons_of_mem _ uw_19_18) rfl rfl dX12_value_6 (fun x192 c193 rx192 tx192 => ?_)
    refine wk_top x17 (c193.symm.trans c18) ?_
    replace hM := hM.rd (sI_at c18)
    refine lv_istore_n (lv' := [(1, .int x17), (0, .ref (ad 0))]) hx hb dX12_value_9 rfl hl (by decide) rfl (fun ls hl => ?_)
    refine lv_aload_n hx hb dX12_value_10 rfl (lv_at hl 1 rfl) ?_
    refine lv_aload_n hx hb dX12_value_11 rfl (lv_at hl 1 rfl) ?_
    refine tk_geti hC hK hw hT hinX12 kM_at0 (by decide) rfl 14 (by decide) (List.mem_cons_of_mem _ uw_19_18) rfl rfl dX12_value_12 (fun x194 c195 rx194 tx194 => ?_)
    refine wk_top x17 (c195.symm.trans c18) ?_
    replace hM := hM.rd (sI_at c18)
    refine tk_Vi hC hK hw hT hA hE hSR kM_at0 (by decide) rfl (kz_X12_isDigit_3 l adK adV dC dI cy ad B hB0 (Int.le_trans hB1 (by decide)) qr s1   x17 (show 1 ≤ x17.toInt by first | with_reducible assumption | omega) (show x17.toInt ≤ 399 by first | with_reducible assumption | omega) w5 H.size hT ) (cwV 1 hC.2.2.2.2 uV_RX12_112 rfl rfl rfl (by decide +kernel) ⟨Nat.le_of_ble_eq_true rfl, Nat.le_of_ble_eq_true rfl⟩) rfl hl.1 rfl (Nat.le_of_ble_eq_true rfl) dX12_value_15 (fun r196 w198 H locs hp197 hw => ?_)
    obtain ⟨rfl, hv205, hg204⟩ := hp197
    rcases hg204 with ⟨rfl, ⟨x200, c201, rx200, tx200⟩⟩ | ⟨rfl, ⟨x202, c203, rx202, tx202⟩⟩
    · replace hM := hM.call (r' := 0) hv205 (by decide)
      have ex200 : x200.toInt = x15.toInt := by rw [← c16.symm.trans c201]
      refine lv_if_eq (tgt := 52) hx hb dX12_value_18 (by decide) (fun _ => ?_) (fun c => absurd (by decide) c)
      replace hM := hM.pos (by decide)
      refine lv_aload_n hx hb dX12_value_52 rfl (lv_at hl 1 rfl) ?_
      refine tk_Vi hC hK hw hT hA hE hSR kM_at0 (by decide) rfl (kz_X12_wordHere_1 l adK adV dC dI cy ad B hB0 (Int.le_trans hB1 (by decide)) qr s1    w5 H.size hT ) (cwV 0 hC.2.2.2.2 uV_RX12_173 rfl rfl rfl (by decide +kernel) ⟨Nat.le_of_ble_eq_true rfl, Nat.le_of_ble_eq_true rfl⟩) rfl hl.1 rfl (Nat.le_of_ble_eq_true rfl) dX12_value_53 (fun r206 w208 H locs hp207 hw => ?_)
      obtain ⟨hT, k209, hv217, hg216⟩ := hp207
      have hO := OKW_FE k209 (fun _ => rfl) (fun _ => rfl) (fun _ => rfl) (fun _ => rfl) hO
      have hF := hF.tr k209 (by decide)
      have c218 := k209.gi kM_at0 (by decide) c25
      have c219 := k209.gi kM_at0 (by decide) c26
      have c220 := k209.gi kM_at3 rfl c27
      have c221 := k209.gi kM_at0 (by decide) c16
      rcases hg216 with ⟨g210, g211, ⟨x212, c213, rx212, tx212⟩⟩ | ⟨rfl, ⟨x214, c215, rx214, tx214⟩⟩
      · replace hM := hM.call hv217 rfl
        have ex212 : x212.toInt = x15.toInt := by rw [← c221.symm.trans c213]
        refine lv_istore_n (lv' := [(2, .int r206), (1, .int x17), (0, .ref (ad 0))]) hx hb dX12_value_56 rfl hl (by decide) rfl (fun ls hl => ?_)
        refine lv_iload_n hx hb dX12_value_57 rfl (lv_at hl 0 rfl) ?_
        refine lv_if_ge (tgt := 68) hx hb dX12_value_58 (by decide) (fun _ => ?_) (fun c => (c (wk_le.mpr (show (0 : Int) ≤ r206.toInt by first | with_reducible assumption | omega))).elim)
        replace hM := hM.pos (by omega)
        refine lv_aload_n hx hb dX12_value_68 rfl (lv_at hl 2 rfl) ?_
        refine lv_iload_n hx hb dX12_value_69 rfl (lv_at hl 1 rfl) ?_
        refine tk_Vi hC hK hw hT hA hE hSR kM_at0 (by decide) rfl (kz_X12_makes_2 l adK adV dC dI cy ad B hB0 (Int.le_trans hB1 (by decide)) qr s1   x17 (show 1 ≤ x17.toInt by first | with_reducible assumption | omega) (show x17.toInt ≤ 399 by first | with_reducible assumption | omega) w208 H.size hT f1_ c219 (show 0 ≤ f1_.toInt from rf1_) (show f1_.toInt ≤ 60 from tf1_)) (cwV 1 hC.2.2.2.2 uV_RX12_170 rfl rfl rfl (by decide +kernel) ⟨Nat.le_of_ble_eq_true rfl, Nat.le_of_ble_eq_true rfl⟩) rfl hl.1 rfl (Nat.le_of_ble_eq_true rfl) dX12_value_70 (fun r222 w224 H locs hp223 hw => ?_)
        obtain ⟨hT, k225, hv234, hg233⟩ := hp223
        have hO := OKW_FE k225 (fun _ => rfl) (fun _ => rfl) (fun _ => rfl) (fun _ => rfl) hO
        have hF := hF.tr k225 (by decide)
        have c235 := k225.gi kM_at0 (by decide) c218
        have c236 := k225.gi kM_at3 rfl c220
        have c237 := k225.gi kM_at0 (by decide) c221
        rcases hg233 with ⟨rfl, ⟨x226, c227, rx226, tx226⟩, ⟨x228, c229, rx228, tx228⟩⟩ | ⟨rfl, ⟨x230, c231, rx230, tx230⟩, g232⟩
        · replace hM := hM.call (r' := 0) hv234 (by decide)
          refine lv_if_ne (tgt := 78) hx hb dX12_value_73 (by decide) (fun c => absurd (by decide) c) (fun _ => ?_)
          replace hM := hM.neg (by decide)
          refine lv_iconst (v := 0) hx hb dX12_value_76 (by decide) ?_
          exact tk_zret hC hr rfl hlocks hK ⟨hT, hF, hM.ret (by decide), (Or.inl ⟨rfl, ⟨x15, c237, (show 1 ≤ x15.toInt by first | with_reducible assumption | omega), (show x15.toInt ≤ 400 by first | with_reducible assumption | omega)⟩, ⟨x226, c227, (show 1 ≤ x226.toInt by first | with_reducible assumption | omega), (show x226.toInt ≤ 3205 by first | with_reducible assumption | omega)⟩, ⟨f0_, c235, (show 0 ≤ f0_.toInt from rf0_), (show f0_.toInt ≤ 5 from tf0_)⟩, hO.1⟩)⟩ hw dX12_value_77
        · replace hM := hM.call (r' := 1) hv234 (by decide)
          have g232 : x230.toInt = f1_.toInt + 1 := by have q := g232; simp only [c218, c235, c219, c231] at q; first | with_reducible exact q | omega
          refine lv_if_ne (tgt := 78) hx hb dX12_value_73 (by decide) (fun _ => ?_) (fun c => absurd c (by decide))
          replace hM := hM.pos (by decide)
          refine lv_aload_n hx hb dX12_value_78 rfl (lv_at hl 2 rfl) ?_
          refine tk_Vv hC hK hw hT hA hE hSR kM_at0 (by decide) rfl (kz_X12_passWord_1 l adK adV dC dI cy ad B hB0 (Int.le_trans hB1 (by decide)) qr s1    w224 H.size hT ) (cwV 0 hC.2.2.2.2 uV_RX12_109 rfl rfl rfl (by decide +kernel) ⟨Nat.le_of_ble_eq_true rfl, Nat.le_of_ble_eq_true rfl⟩) rfl hl.1 rfl (Nat.le_of_ble_eq_true rfl) dX12_value_79 (fun w240 H locs hp239 hw => ?_)
          obtain ⟨hT, k241, hv249, hg248⟩ := hp239
          have hO := OKW_FE k241 (fun _ => rfl) (fun _ => rfl) (fun _ => rfl) (fun _ => rfl) hO
          have hF := hF.tr k241 (by decide)
          have c250 := k241.gi kM_at0 (by decide) c235
          have c251 := k241.gi kM_at3 rfl c236
          have c252 := k241.gi kM_at0 (by decide) c237
          have c253 := k241.gi kM_at0 (by decide) c231
          rcases hg248 with ⟨⟨x242, c243, rx242, tx242⟩, ⟨x244, c245, rx244, tx244⟩⟩ | ⟨x246, c247, rx246, tx246⟩
          · replace hM := hM.call hv249 rfl
            have ex242 : x242.toInt = x15.toInt := by rw [← c252.symm.trans c243]
            refine lv_aload_n hx hb dX12_value_82 rfl (lv_at hl 2 rfl) ?_
            refine lv_iconst (v := 1) hx hb dX12_value_83 (by decide) ?_
            refine lv_iload_n hx hb dX12_value_84 rfl (lv_at hl 0 rfl) ?_
            refine tk_Vv hC hK hw hT hA hE hSR kM_at0 (by decide) rfl (kz_X12_puts_1 l adK adV dC dI cy ad B hB0 (Int.le_trans hB1 (by decide)) qr s1   1 (by decide) (by decide) r206 (show 0 ≤ r206.toInt by first | with_reducible assumption | omega) (show r206.toInt ≤ 99999 by first | with_reducible assumption | omega) w240 H.size hT f0_ c250 (show 0 ≤ f0_.toInt from rf0_) (show f0_.toInt ≤ 5 from tf0_) f2_ c251 (show 0 ≤ f2_.toInt from rf2_) (show f2_.toInt ≤ 400 from tf2_) (show f2_.toInt ≤ 399 from pr0_)) (cwV 2 hC.2.2.2.2 uV_RX12_162 rfl rfl rfl (by decide +kernel) ⟨Nat.le_of_ble_eq_true rfl, Nat.le_of_ble_eq_true rfl⟩) rfl hl.1 rfl (Nat.le_of_ble_eq_true rfl) dX12_value_85 (fun w256 H locs hp255 hw => ?_)
            obtain ⟨hT, k257, hv263, hg262⟩ := hp255
            try simp only [show (1 : Int32).toInt = 1 by decide] at hv263
            have hF := hF.tr k257 (by decide)
            have c264 := k257.gi kM_at0 (by decide) c250
            have c265 := k257.gi kM_at0 (by decide) c252
            have c266 := k257.gi kM_at0 (by decide) c253
            have c267 := k257.gi kM_at0 (by decide) c245
            obtain ⟨⟨x258, c259, rx258, tx258⟩, hq260, g261⟩ := hg262
            replace hM := hM.call hv263 rfl
            have ex258 : x258.toInt = f0_.toInt := by rw [← c264.symm.trans c259]
            obtain ⟨x268, c269, rx268, tx268⟩ := hT.rda (lo := 0) (hi := 400) (i := (f0_.toInt).toNat) kM_at3 rfl rfl (by omega)
            have g261 : x268.toInt = f2_.toInt + 1 := by have q := g261; simp only [c250, c264, c251, c269] at q; first | with_reducible exact q | omega
            have hO : OKW w256 f0_.toInt gb ((gd) + 1) := OKW_put hO (by have q := hq260; rw [c250] at q; exact q) (by rw [c251]; omega) (fun x hx => by simp only [(show (1 : Int32).toInt = 1 by decide)] at hx; exact okT_word (v := r206.toInt) (by omega) (by omega) (by omega)) (by omega) (by omega)
            refine lv_iconst (v := 1) hx hb dX12_value_88 (by decide) ?_
            exact tk_zret hC hr rfl hlocks hK ⟨hT, hF, hM.ret (by decide), (Or.inr (Or.inr (Or.inl ⟨rfl, ⟨x15, c265, (show 1 ≤ x15.toInt by first | with_reducible assumption | omega), (show x15.toInt ≤ 400 by first | with_reducible assumption | omega)⟩, ⟨f0_, c264, (show 0 ≤ f0_.toInt from rf0_), (show f0_.toInt ≤ 5 from tf0_)⟩, ⟨x230, c266, (show 1 ≤ x230.toInt by first | with_reducible assumption | omega), (show x230.toInt ≤ 60 by first | with_reducible assumption | omega)⟩, (OKW_cast hO (by omega)), (by simp only [c264, cf0_, cf2_, c269]; omega), (by simp only [c264, cf0_, cf1_, c266]; omega)⟩)))⟩ hw dX12_value_89
          · replace hM := hM.call hv249 rfl
            have ex246 : x246.toInt = x15.toInt := by rw [← c252.symm.trans c247]
            refine lv_aload_n hx hb dX12_value_82 rfl (lv_at hl 2 rfl) ?_
            refine lv_iconst (v := 1) hx hb dX12_value_83 (by decide) ?_
            refine lv_iload_n hx hb dX12_value_84 rfl (lv_at hl 0 rfl) ?_
            refine tk_Vv hC hK hw hT hA hE hSR kM_at0 (by decide) rfl (kz_X12_puts_1 l adK adV dC dI cy ad B hB0 (Int.le_trans hB1 (by decide)) qr s1   1 (by decide) (by decide) r206 (show 0 ≤ r206.toInt by first | with_reducible assumption | omega) (show r206.toInt ≤ 99999 by first | with_reducible assumption | omega) w240 H.size hT f0_ c250 (show 0 ≤ f0_.toInt from rf0_) (show f0_.toInt ≤ 5 from tf0_) f2_ c251 (show 0 ≤ f2_.toInt from rf2_) (show f2_.toInt ≤ 400 from tf2_) (show f2_.toInt ≤ 399 from pr0_)) (cwV 2 hC.2.2.2.2 uV_RX12_162 rfl rfl rfl (by decide +kernel) ⟨Nat.le_of_ble_eq_true rfl, Nat.le_of_ble_eq_true rfl⟩) rfl hl.1 rfl (Nat.le_of_ble_eq_true rfl) dX12_value_85 (fun w272 H locs hp271 hw => ?_)
            obtain ⟨hT, k273, hv279, hg278⟩ := hp271
            try simp only [show (1 : Int32).toInt = 1 by decide] at hv279
            have hF := hF.tr k273 (by decide)
            have c280 := k273.gi kM_at0 (by decide) c250
            have c281 := k273.gi kM_at0 (by decide) c252
            have c282 := k273.gi kM_at0 (by decide) c253
            obtain ⟨⟨x274, c275, rx274, tx274⟩, hq276, g277⟩ := hg278
            replace hM := hM.call hv279 rfl
            have ex274 : x274.toInt = f0_.toInt := by rw [← c280.symm.trans c275]
            obtain ⟨x283, c284, rx283, tx283⟩ := hT.rda (lo := 0) (hi := 400) (i := (f0_.toInt).toNat) kM_at3 rfl rfl (by omega)
            have g277 : x283.toInt = f2_.toInt + 1 := by have q := g277; simp only [c250, c280, c251, c284] at q; first | with_reducible exact q | omega
            have hO : OKW w272 f0_.toInt gb ((gd) + 1) := OKW_put hO (by have q := hq276; rw [c250] at q; exact q) (by rw [c251]; omega) (fun x hx => by simp only [(show (1 : Int32).toInt = 1 by decide)] at hx; exact okT_word (v := r206.toInt) (by omega) (by omega) (by omega)) (by omega) (by omega)
            refine lv_iconst (v := 1) hx hb dX12_value_88 (by decide) ?_
            exact tk_zret hC hr rfl hlocks hK ⟨hT, hF, hM.ret (by decide), (Or.inr (Or.inr (Or.inl ⟨rfl, ⟨x15, c281, (show 1 ≤ x15.toInt by first | with_reducible assumption | omega), (show x15.toInt ≤ 400 by first | with_reducible assumption | omega)⟩, ⟨f0_, c280, (show 0 ≤ f0_.toInt from rf0_), (show f0_.toInt ≤ 5 from tf0_)⟩, ⟨x230, c282, (show 1 ≤ x230.toInt by first | with_reducible assumption | omega), (show x230.toInt ≤ 60 by first | with_reducible assumption | omega)⟩, (OKW_cast hO (by omega)), (by simp only [c280, cf0_, cf2_, c284]; omega), (by simp only [c280, cf0_, cf1_, c282]; omega)⟩)))⟩ hw dX12_value_89
      · replace hM := hM.call (r' := (-1)) hv217 (by decide)
        have ex214 : x214.toInt = x15.toInt := by rw [← c221.symm.trans c215]
        refine lv_istore_n (lv' := [(2, .int (-1)), (1, .int x17), (0, .ref (ad 0))]) hx hb dX12_value_56 rfl hl (by decide) rfl (fun ls hl => ?_)
        refine lv_iload_n hx hb dX12_value_57 rfl (lv_at hl 0 rfl) ?_
        refine lv_if_ge (tgt := 68) hx hb dX12_value_58 (by decide) (fun c => absurd c (by decide)) (fun _ => ?_)
        replace hM := hM.neg (by decide)
        refine lv_aload_n hx hb dX12_value_61 rfl (lv_at hl 2 rfl) ?_
        refine lv_iconst (v := 0) hx hb dX12_value_62 (by decide) ?_
        refine lv_iload_n hx hb dX12_value_63 rfl (lv_at hl 1 rfl) ?_
        refine tk_Vi hC hK hw hT hA hE hSR kM_at0 (by decide) rfl (kz_X12_fails_1 l adK adV dC dI cy ad B hB0 (Int.le_trans hB1 (by decide)) qr s1   0 (by decide) (by decide) x17 (show 0 ≤ x17.toInt by first | with_reducible assumption | omega) (show x17.toInt ≤ 400 by first | with_reducible assumption | omega) w208 H.size hT ) (cwV 2 hC.2.2.2.2 uV_RX12_115 rfl rfl rfl (by decide +kernel) ⟨Nat.le_of_ble_eq_true rfl, Nat.le_of_ble_eq_true rfl⟩) rfl hl.1 rfl (Nat.le_of_ble_eq_true rfl) dX12_value_64 (fun r285 w287 H locs hp286 hw => ?_)
        obtain ⟨hT, k288, hv292, hg291⟩ := hp286
        try simp only [show (0 : Int32).toInt = 0 by decide] at hv292
        have hO := OKW_FE k288 (fun _ => rfl) (fun _ => rfl) (fun _ => rfl) (fun _ => rfl) hO
        have hF := hF.tr k288 (by decide)
        have c293 := k288.gi kM_at0 (by decide) c218
        have c294 := k288.gi kM_at0 (by decide) c219
        have c295 := k288.gi kM_at3 rfl c220
        have c296 := k288.gi kM_at0 (by decide) c221
        obtain ⟨rfl, ⟨x289, c290, rx289, tx289⟩⟩ := hg291
        replace hM := hM.call (r' := 0) hv292 (by decide)
        exact tk_zret hC hr rfl hlocks hK ⟨hT, hF, hM.ret (by decide), (Or.inl ⟨rfl, ⟨x15, c296, (show 1 ≤ x15.toInt by first | with_reducible assumption | omega), (show x15.toInt ≤ 400 by first | with_reducible assumption | omega)⟩, ⟨x289, c290, (show 1 ≤ x289.toInt by first | with_reducible assumption | omega), (show x289.toInt ≤ 3205 by first | with_reducible assumption | omega)⟩, ⟨f0_, c293, (show 0 ≤ f0_.toInt from rf0_), (show f0_.toInt ≤ 5 from tf0_)⟩, hO.1⟩)⟩ hw dX12_value_67
    · replace hM := hM.call (r' := 1) hv205 (by decide)
      have ex202 : x202.toInt = x15.toInt := by rw [← c16.symm.trans c203]
      refine lv_if_eq (tgt := 52) hx hb dX12_value_18 (by decide) (fun c => absurd c (by decide)) (fun _ => ?_)
      replace hM := hM.neg (by decide)
      refine lv_aload_n hx hb dX12_value_21 rfl (lv_at hl 1 rfl) ?_
      refine lv_iconst (v := 0) hx hb dX12_value_22 (by decide) ?_
      refine lv_ldc (v := 99999) hx hb hC.2.2.2.1 (hC.2.2.2.2 _ (List.mem_cons_of_mem _ uw_24_18)) dX12_value_23 ?_
      refine tk_Vi hC hK hw hT hA hE hSR kM_at0 (by decide) rfl (kz_X12_numberHere_9 l adK adV dC dI cy ad B hB0 (Int.le_trans hB1 (by decide)) qr s1    w5 H.size hT ) (cwV 2 hC.2.2.2.2 uV_RX12_167 rfl rfl rfl (by decide +kernel) ⟨Nat.le_of_ble_eq_true rfl, Nat.le_of_ble_eq_true rfl⟩) rfl hl.1 rfl (Nat.le_of_ble_eq_true rfl) dX12_value_25 (fun r297 w299 H locs hp298 hw => ?_)
      obtain ⟨hT, k300, hv314, hg313⟩ := hp298
      have hO := OKW_FE k300 (fun _ => rfl) (fun _ => rfl) (fun _ => rfl) (fun _ => rfl) hO
      have hF := hF.tr k300 (by decide)
      have c315 := k300.gi kM_at0 (by decide) c25
      have c316 := k300.gi kM_at0 (by decide) c26
      have c317 := k300.gi kM_at3 rfl c27
      have c318 := k300.gi kM_at0 (by decide) c16
      rcases hg313 with ⟨rfl, ⟨x301, c302, rx301, tx301⟩, ⟨x303, c304, rx303, tx303⟩⟩ | ⟨rfl, ⟨x305, c306, rx305, tx305⟩, ⟨x307, c308, rx307, tx307⟩⟩ | ⟨rfl, ⟨x309, c310, rx309, tx309⟩, ⟨x311, c312, rx311, tx311⟩⟩
      · replace hM := hM.call (r' := 0) hv314 (by decide)
        have ex301 : x301.toInt = x15.toInt := by rw [← c318.symm.trans c302]
        refine lv_if_eq (tgt := 39) hx hb dX12_value_28 (by decide) (fun _ => ?_) (fun c => absurd (by decide) c)
        replace hM := hM.pos (by decide)
        refine lv_iconst (v := 0) hx hb dX12_value_39 (by decide) ?_
        exact tk_zret hC hr rfl hlocks hK ⟨hT, hF, hM.ret (by decide), (Or.inl ⟨rfl, ⟨x15, c318, (show 1 ≤ x15.toInt by first | with_reducible assumption | omega), (show x15.toInt ≤ 400 by first | with_reducible assumption | omega)⟩, ⟨x303, c304, (show 1 ≤ x303.toInt by first | with_reducible assumption | omega), (show x303.toInt ≤ 3205 by first | with_reducible assumption | omega)⟩, ⟨f0_, c315, (show 0 ≤ f0_.toInt from rf0_), (show f0_.toInt ≤ 5 from tf0_)⟩, hO.1⟩)⟩ hw dX12_value_40
      · replace hM := hM.call (r' := 0) hv314 (by decide)
        have ex305 : x305.toInt = x15.toInt := by rw [← c318.symm.trans c306]
        refine lv_if_eq (tgt := 39) hx hb dX12_value_28 (by decide) (fun _ => ?_) (fun c => absurd (by decide) c)
        replace hM := hM.pos (by decide)
        refine lv_iconst (v := 0) hx hb dX12_value_39 (by decide) ?_
        exact tk_zret hC hr rfl hlocks hK ⟨hT, hF, hM.ret (by decide), (Or.inl ⟨rfl, ⟨x15, c318, (show 1 ≤ x15.toInt by first | with_reducible assumption | omega), (show x15.toInt ≤ 400 by first | with_reducible assumption | omega)⟩, ⟨x307, c308, (show 1 ≤ x307.toInt by first | with_reducible assumption | omega), (show x307.toInt ≤ 3205 by first | with_reducible assumption | omega)⟩, ⟨f0_, c315, (show 0 ≤ f0_.toInt from rf0_), (show f0_.toInt ≤ 5 from tf0_)⟩, hO.1⟩)⟩ hw dX12_value_40
      · replace hM := hM.call (r' := 1) hv314 (by decide)
        have ex309 : x309.toInt = x15.toInt := by rw [← c318.symm.trans c310]
        refine lv_if_eq (tgt := 39) hx hb dX12_value_28 (by decide) (fun c => absurd c (by decide)) (fun _ => ?_)
        replace hM := hM.neg (by decide)
        refine lv_aload_n hx hb dX12_value_31 rfl (lv_at hl 1 rfl) ?_
        refine lv_iload_n hx hb dX12_value_32 rfl (lv_at hl 0 rfl) ?_
        refine tk_Vi hC hK hw hT hA hE hSR kM_at0 (by decide) rfl (kz_X12_makes_2 l adK adV dC dI cy ad B hB0 (Int.le_trans hB1 (by decide)) qr s1   x17 (show 1 ≤ x17.toInt by first | with_reducible assumption | omega) (show x17.toInt ≤ 399 by first | with_reducible assumption | omega) w299 H.size hT f1_ c316 (show 0 ≤ f1_.toInt from rf1_) (show f1_.toInt ≤ 60 from tf1_)) (cwV 1 hC.2.2.2.2 uV_RX12_170 rfl rfl rfl (by decide +kernel) ⟨Nat.le_of_ble_eq_true rfl, Nat.le_of_ble_eq_true rfl⟩) rfl hl.1 rfl (Nat.le_of_ble_eq_true rfl) dX12_value_33 (fun r319 w321 H locs hp320 hw => ?_)
        obtain ⟨hT, k322, hv331, hg330⟩ := hp320
        have hO := OKW_FE k322 (fun _ => rfl) (fun _ => rfl) (fun _ => rfl) (fun _ => rfl) hO
        have hF := hF.tr k322 (by decide)
        have c332 := k322.gi kM_at0 (by decide) c315
        have c333 := k322.gi kM_at3 rfl c317
        have c334 := k322.gi kM_at0 (by decide) c318
        have c335 := k322.gi kM_at0 (by decide) c312
        rcases hg330 with ⟨rfl, ⟨x323, c324, rx323, tx323⟩, ⟨x325, c326, rx325, tx325⟩⟩ | ⟨rfl, ⟨x327, c328, rx327, tx327⟩, g329⟩
        · replace hM := hM.call (r' := 0) hv331 (by decide)
          refine lv_if_ne (tgt := 41) hx hb dX12_value_36 (by decide) (fun c => absurd (by decide) c) (fun _ => ?_)
          replace hM := hM.neg (by decide)
          refine lv_iconst (v := 0) hx hb dX12_value_39 (by decide) ?_
          exact tk_zret hC hr rfl hlocks hK ⟨hT, hF, hM.ret (by decide), (Or.inl ⟨rfl, ⟨x15, c334, (show 1 ≤ x15.toInt by first | with_reducible assumption | omega), (show x15.toInt ≤ 400 by first | with_reducible assumption | omega)⟩, ⟨x323, c324, (show 1 ≤ x323.toInt by first | with_reducible assumption | omega), (show x323.toInt ≤ 3205 by first | with_reducible assumption | omega)⟩, ⟨f0_, c332, (show 0 ≤ f0_.toInt from rf0_), (show f0_.toInt ≤ 5 from tf0_)⟩, hO.1⟩)⟩ hw dX12_value_40
        · replace hM := hM.call (r' := 1) hv331 (by decide)
          have g329 : x327.toInt = f1_.toInt + 1 := by have q := g329; simp only [c315, c332, c316, c328] at q; first | with_reducible exact q | omega
          refine lv_if_ne (tgt := 41) hx hb dX12_value_36 (by decide) (fun _ => ?_) (fun c => absurd c (by decide))
          replace hM := hM.pos (by decide)
          refine lv_aload_n hx hb dX12_value_41 rfl (lv_at hl 1 rfl) ?_
          refine lv_iconst (v := 0) hx hb dX12_value_42 (by decide) ?_
          refine lv_aload_n hx hb dX12_value_43 rfl (lv_at hl 1 rfl) ?_
          refine tk_geti hC hK hw hT hinX12 kM_at0 (by decide) rfl 16 (by decide) (List.mem_cons_of_mem _ uw_21_12) rfl rfl dX12_value_44 (fun x336 c337 rx336 tx336 => ?_)
          refine wk_top x311 (c337.symm.trans c335) ?_
          replace hM := hM.rd (sI_at c335)
          refine tk_Vv hC hK hw hT hA hE hSR kM_at0 (by decide) rfl (kz_X12_puts_1 l adK adV dC dI cy ad B hB0 (Int.le_trans hB1 (by decide)) qr s1   0 (by decide) (by decide) x311 (show 0 ≤ x311.toInt by first | with_reducible assumption | omega) (show x311.toInt ≤ 99999 by first | with_reducible assumption | omega) w321 H.size hT f0_ c332 (show 0 ≤ f0_.toInt from rf0_) (show f0_.toInt ≤ 5 from tf0_) f2_ c333 (show 0 ≤ f2_.toInt from rf2_) (show f2_.toInt ≤ 400 from tf2_) (show f2_.toInt ≤ 399 from pr0_)) (cwV 2 hC.2.2.2.2 uV_RX12_162 rfl rfl rfl (by decide +kernel) ⟨Nat.le_of_ble_eq_true rfl, Nat.le_of_ble_eq_true rfl⟩) rfl hl.1 rfl (Nat.le_of_ble_eq_true rfl) dX12_value_47 (fun w340 H locs hp339 hw => ?_)
          obtain ⟨hT, k341, hv347, hg346⟩ := hp339
          try simp only [show (0 : Int32).toInt = 0 by decide] at hv347
          have hF := hF.tr k341 (by decide)
          have c348 := k341.gi kM_at0 (by decide) c332
          have c349 := k341.gi kM_at0 (by decide) c334
          have c350 := k341.gi kM_at0 (by decide) c335
          have c351 := k341.gi kM_at0 (by decide) c328
          obtain ⟨⟨x342, c343, rx342, tx342⟩, hq344, g345⟩ := hg346
          replace hM := hM.call hv347 rfl
          have ex342 : x342.toInt = f0_.toInt := by rw [← c348.symm.trans c343]
          obtain ⟨x352, c353, rx352, tx352⟩ := hT.rda (lo := 0) (hi := 400) (i := (f0_.toInt).toNat) kM_at3 rfl rfl (by omega)
          have g345 : x352.toInt = f2_.toInt + 1 := by have q := g345; simp only [c332, c348, c333, c353] at q; first | with_reducible exact q | omega
          have hO : OKW w340 f0_.toInt gb ((gd) + 1) := OKW_put hO (by have q := hq344; rw [c332] at q; exact q) (by rw [c333]; omega) (fun x hx => by simp only [(show (0 : Int32).toInt = 0 by decide)] at hx; exact okT_num (v := x311.toInt) (by omega) (by omega)) (by omega) (by omega)
          refine lv_iconst (v := 1) hx hb dX12_value_50 (by decide) ?_
          exact tk_zret hC hr rfl hlocks hK ⟨hT, hF, hM.ret (by decide), (Or.inr (Or.inr (Or.inl ⟨rfl, ⟨x15, c349, (show 1 ≤ x15.toInt by first | with_reducible assumption | omega), (show x15.toInt ≤ 400 by first | with_reducible assumption | omega)⟩, ⟨f0_, c348, (show 0 ≤ f0_.toInt from rf0_), (show f0_.toInt ≤ 5 from tf0_)⟩, ⟨x327, c351, (show 1 ≤ x327.toInt by first | with_reducible assumption | omega), (show x327.toInt ≤ 60 by first | with_reducible assumption | omega)⟩, (OKW_cast hO (by omega)), (by simp only [c348, cf0_, cf2_, c353]; omega), (by simp only [c348, cf0_, cf1_, c351]; omega)⟩)))⟩ hw dX12_value_51
  · replace hM := hM.call (r' := (-1)) hv24 (by decide)
    obtain ⟨x28, c29, rx28, tx28⟩ := hT.rdi (lo := 0) (hi := 400) (k := 14) kM_at0 (by decide) rfl
    have g22 : (x28.toInt = x1.toInt ∨ (gi w0 1 (x1.toInt).toNat).toInt = 32) := by have q := g22; simp only [cf0_, c25, c2, c29] at q; first | with_reducible exact q | omega
    refine lv_pop hx hb dX12_value_4 rfl ?_
    refine lv_aload_n hx hb dX12_value_5 rfl (lv_at hl 0 rfl) ?_
    refine tk_geti hC hK hw hT hinX12 kM_at0 (by decide) rfl 14 (by decide) (List.mem_cons_of_mem _ uw_19_18) rfl rfl dX12_value_6 (fun x354 c355 rx354 tx354 => ?_)
    refine wk_top x28 (c355.symm.trans c29) ?_
    replace hM := hM.rd (sI_at c29)
    refine lv_istore_n (lv' := [(1, .int x28), (0, .ref (ad 0))]) hx hb dX12_value_9 rfl hl (by decide) rfl (fun ls hl => ?_)
    refine lv_aload_n hx hb dX12_value_10 rfl (lv_at hl 1 rfl) ?_
    refine lv_aload_n hx hb dX12_value_11 rfl (lv_at hl 1 rfl) ?_
    refine tk_geti hC hK hw hT hinX12 kM_at0 (by decide) rfl 14 (by decide) (List.mem_cons_of_mem _ uw_19_18) rfl rfl dX12_value_12 (fun x356 c357 rx356 tx356 => ?_)
    refine wk_top x28 (c357.symm.trans c29) ?_
    replace hM := hM.rd (sI_at c29)
    refine tk_Vi hC hK hw hT hA hE hSR kM_at0 (by decide) rfl (kz_X12_isDigit_1 l adK adV dC dI cy ad B hB0 (Int.le_trans hB1 (by decide)) qr s1   x28 (show 0 ≤ x28.toInt by first | with_reducible assumption | omega) (show x28.toInt ≤ 400 by first | with_reducible assumption | omega) w5 H.size hT ) (cwV 1 hC.2.2.2.2 uV_RX12_112 rfl rfl rfl (by decide +kernel) ⟨Nat.le_of_ble_eq_true rfl, Nat.le_of_ble_eq_true rfl⟩) rfl hl.1 rfl (Nat.le_of_ble_eq_true rfl) dX12_value_15 (fun r358 w360 H locs hp359 hw => ?_)
    obtain ⟨rfl, hv368, hg367⟩ := hp359
    rcases hg367 with ⟨rfl, ⟨x362, c363, rx362, tx362⟩⟩ | ⟨rfl, g364, ⟨x365, c366, rx365, tx365⟩⟩
    · replace hM := hM.call (r' := 0) hv368 (by decide)
      have ex362 : x362.toInt = x20.toInt := by rw [← c21.symm.trans c363]
      refine lv_if_eq (tgt := 52) hx hb dX12_value_18 (by decide) (fun _ => ?_) (fun c => absurd (by decide) c)
      replace hM := hM.pos (by decide)
      refine lv_aload_n hx hb dX12_value_52 rfl (lv_at hl 1 rfl) ?_
      refine tk_Vi hC hK hw hT hA hE hSR kM_at0 (by decide) rfl (kz_X12_wordHere_1 l adK adV dC dI cy ad B hB0 (Int.le_trans hB1 (by decide)) qr s1    w5 H.size hT ) (cwV 0 hC.2.2.2.2 uV_RX12_173 rfl rfl rfl (by decide +kernel) ⟨Nat.le_of_ble_eq_true rfl, Nat.le_of_ble_eq_true rfl⟩) rfl hl.1 rfl (Nat.le_of_ble_eq_true rfl) dX12_value_53 (fun r369 w371 H locs hp370 hw => ?_)
      obtain ⟨hT, k372, hv380, hg379⟩ := hp370
      have hO := OKW_FE k372 (fun _ => rfl) (fun _ => rfl) (fun _ => rfl) (fun _ => rfl) hO
      have hF := hF.tr k372 (by decide)
      have c381 := k372.gi kM_at0 (by decide) c25
      have c382 := k372.gi kM_at0 (by decide) c26
      have c383 := k372.gi kM_at3 rfl c27
      have c384 := k372.gi kM_at0 (by decide) c21
      rcases hg379 with ⟨g373, g374, ⟨x375, c376, rx375, tx375⟩⟩ | ⟨rfl, ⟨x377, c378, rx377, tx377⟩⟩
      · replace hM := hM.call hv380 rfl
        have ex375 : x375.toInt = x20.toInt := by rw [← c384.symm.trans c376]
        refine lv_istore_n (lv' := [(2, .int r369), (1, .int x28), (0, .ref (ad 0))]) hx hb dX12_value_56 rfl hl (by decide) rfl (fun ls hl => ?_)
        refine lv_iload_n hx hb dX12_value_57 rfl (lv_at hl 0 rfl) ?_
        refine lv_if_ge (tgt := 68) hx hb dX12_value_58 (by decide) (fun _ => ?_) (fun c => (c (wk_le.mpr (show (0 : Int) ≤ r369.toInt by first | with_reducible assumption | omega))).elim)
        replace hM := hM.pos (by omega)
        refine lv_aload_n hx hb dX12_value_68 rfl (lv_at hl 2 rfl) ?_
        refine lv_iload_n hx hb dX12_value_69 rfl (lv_at hl 1 rfl) ?_
        refine tk_Vi hC hK hw hT hA hE hSR kM_at0 (by decide) rfl (kz_X12_makes_3 l adK adV dC dI cy ad B hB0 (Int.le_trans hB1 (by decide)) qr s1   x28 (show 0 ≤ x28.toInt by first | with_reducible assumption | omega) (show x28.toInt ≤ 400 by first | with_reducible assumption | omega) w371 H.size hT f1_ c382 (show 0 ≤ f1_.toInt from rf1_) (show f1_.toInt ≤ 60 from tf1_)) (cwV 1 hC.2.2.2.2 uV_RX12_170 rfl rfl rfl (by decide +kernel) ⟨Nat.le_of_ble_eq_true rfl, Nat.le_of_ble_eq_true rfl⟩) rfl hl.1 rfl (Nat.le_of_ble_eq_true rfl) dX12_value_70 (fun r385 w387 H locs hp386 hw => ?_)
        obtain ⟨hT, k388, hv397, hg396⟩ := hp386
        have hO := OKW_FE k388 (fun _ => rfl) (fun _ => rfl) (fun _ => rfl) (fun _ => rfl) hO
        have hF := hF.tr k388 (by decide)
        have c398 := k388.gi kM_at0 (by decide) c381
        have c399 := k388.gi kM_at3 rfl c383
        have c400 := k388.gi kM_at0 (by decide) c384
        rcases hg396 with ⟨rfl, ⟨x389, c390, rx389, tx389⟩, ⟨x391, c392, rx391, tx391⟩⟩ | ⟨rfl, ⟨x393, c394, rx393, tx393⟩, g395⟩
        · replace hM := hM.call (r' := 0) hv397 (by decide)
          refine lv_if_ne (tgt := 78) hx hb dX12_value_73 (by decide) (fun c => absurd (by decide) c) (fun _ => ?_)
          replace hM := hM.neg (by decide)
          refine lv_iconst (v := 0) hx hb dX12_value_76 (by decide) ?_
          exact tk_zret hC hr rfl hlocks hK ⟨hT, hF, hM.ret (by decide), (Or.inr (Or.inl ⟨rfl, ⟨x20, c400, (show 0 ≤ x20.toInt by first | with_reducible assumption | omega), (show x20.toInt ≤ 400 by first | with_reducible assumption | omega)⟩, ⟨x389, c390, (show 1 ≤ x389.toInt by first | with_reducible assumption | omega), (show x389.toInt ≤ 3205 by first | with_reducible assumption | omega)⟩, ⟨f0_, c398, (show 0 ≤ f0_.toInt from rf0_), (show f0_.toInt ≤ 5 from tf0_)⟩, hO.1⟩))⟩ hw dX12_value_77
        · replace hM := hM.call (r' := 1) hv397 (by decide)
          have g395 : x393.toInt = f1_.toInt + 1 := by have q := g395; simp only [c381, c398, c382, c394] at q; first | with_reducible exact q | omega
          refine lv_if_ne (tgt := 78) hx hb dX12_value_73 (by decide) (fun _ => ?_) (fun c => absurd c (by decide))
          replace hM := hM.pos (by decide)
          refine lv_aload_n hx hb dX12_value_78 rfl (lv_at hl 2 rfl) ?_
          refine tk_Vv hC hK hw hT hA hE hSR kM_at0 (by decide) rfl (kz_X12_passWord_1 l adK adV dC dI cy ad B hB0 (Int.le_trans hB1 (by decide)) qr s1    w387 H.size hT ) (cwV 0 hC.2.2.2.2 uV_RX12_109 rfl rfl rfl (by decide +kernel) ⟨Nat.le_of_ble_eq_true rfl, Nat.le_of_ble_eq_true rfl⟩) rfl hl.1 rfl (Nat.le_of_ble_eq_true rfl) dX12_value_79 (fun w403 H locs hp402 hw => ?_)
          obtain ⟨hT, k404, hv412, hg411⟩ := hp402
          have hO := OKW_FE k404 (fun _ => rfl) (fun _ => rfl) (fun _ => rfl) (fun _ => rfl) hO
          have hF := hF.tr k404 (by decide)
          have c413 := k404.gi kM_at0 (by decide) c398
          have c414 := k404.gi kM_at3 rfl c399
          have c415 := k404.gi kM_at0 (by decide) c400
          have c416 := k404.gi kM_at0 (by decide) c394
          rcases hg411 with ⟨⟨x405, c406, rx405, tx405⟩, ⟨x407, c408, rx407, tx407⟩⟩ | ⟨x409, c410, rx409, tx409⟩
          · replace hM := hM.call hv412 rfl
            have ex405 : x405.toInt = x20.toInt := by rw [← c415.symm.trans c406]
            refine lv_aload_n hx hb dX12_value_82 rfl (lv_at hl 2 rfl) ?_
            refine lv_iconst (v := 1) hx hb dX12_value_83 (by decide) ?_
            refine lv_iload_n hx hb dX12_value_84 rfl (lv_at hl 0 rfl) ?_
            refine tk_Vv hC hK hw hT hA hE hSR kM_at0 (by decide) rfl (kz_X12_puts_1 l adK adV dC dI cy ad B hB0 (Int.le_trans hB1 (by decide)) qr s1   1 (by decide) (by decide) r369 (show 0 ≤ r369.toInt by first | with_reducible assumption | omega) (show r369.toInt ≤ 99999 by first | with_reducible assumption | omega) w403 H.size hT f0_ c413 (show 0 ≤ f0_.toInt from rf0_) (show f0_.toInt ≤ 5 from tf0_) f2_ c414 (show 0 ≤ f2_.toInt from rf2_) (show f2_.toInt ≤ 400 from tf2_) (show f2_.toInt ≤ 399 from pr0_)) (cwV 2 hC.2.2.2.2 uV_RX12_162 rfl rfl rfl (by decide +kernel) ⟨Nat.le_of_ble_eq_true rfl, Nat.le_of_ble_eq_true rfl⟩) rfl hl.1 rfl (Nat.le_of_ble_eq_true rfl) dX12_value_85 (fun w419 H locs hp418 hw => ?_)
            obtain ⟨hT, k420, hv426, hg425⟩ := hp418
            try simp only [show (1 : Int32).toInt = 1 by decide] at hv426
            have hF := hF.tr k420 (by decide)
            have c427 := k420.gi kM_at0 (by decide) c413
            have c428 := k420.gi kM_at0 (by decide) c415
            have c429 := k420.gi kM_at0 (by decide) c416
            have c430 := k420.gi kM_at0 (by decide) c408
            obtain ⟨⟨x421, c422, rx421, tx421⟩, hq423, g424⟩ := hg425
            replace hM := hM.call hv426 rfl
            have ex421 : x421.toInt = f0_.toInt := by rw [← c427.symm.trans c422]
            obtain ⟨x431, c432, rx431, tx431⟩ := hT.rda (lo := 0) (hi := 400) (i := (f0_.toInt).toNat) kM_at3 rfl rfl (by omega)
            have g424 : x431.toInt = f2_.toInt + 1 := by have q := g424; simp only [c413, c427, c414, c432] at q; first | with_reducible exact q | omega
            have hO : OKW w419 f0_.toInt gb ((gd) + 1) := OKW_put hO (by have q := hq423; rw [c413] at q; exact q) (by rw [c414]; omega) (fun x hx => by simp only [(show (1 : Int32).toInt = 1 by decide)] at hx; exact okT_word (v := r369.toInt) (by omega) (by omega) (by omega)) (by omega) (by omega)
            refine lv_iconst (v := 1) hx hb dX12_value_88 (by decide) ?_
            exact tk_zret hC hr rfl hlocks hK ⟨hT, hF, hM.ret (by decide), (Or.inr (Or.inr (Or.inl ⟨rfl, ⟨x20, c428, (show 1 ≤ x20.toInt by first | with_reducible assumption | omega), (show x20.toInt ≤ 400 by first | with_reducible assumption | omega)⟩, ⟨f0_, c427, (show 0 ≤ f0_.toInt from rf0_), (show f0_.toInt ≤ 5 from tf0_)⟩, ⟨x393, c429, (show 1 ≤ x393.toInt by first | with_reducible assumption | omega), (show x393.toInt ≤ 60 by first | with_reducible assumption | omega)⟩, (OKW_cast hO (by omega)), (by simp only [c427, cf0_, cf2_, c432]; omega), (by simp only [c427, cf0_, cf1_, c429]; omega)⟩)))⟩ hw dX12_value_89
          · replace hM := hM.call hv412 rfl
            have ex409 : x409.toInt = x20.toInt := by rw [← c415.symm.trans c410]
            refine lv_aload_n hx hb dX12_value_82 rfl (lv_at hl 2 rfl) ?_
            refine lv_iconst (v := 1) hx hb dX12_value_83 (by decide) ?_
            refine lv_iload_n hx hb dX12_value_84 rfl (lv_at hl 0 rfl) ?_
            refine tk_Vv hC hK hw hT hA hE hSR kM_at0 (by decide) rfl (kz_X12_puts_1 l adK adV dC dI cy ad B hB0 (Int.le_trans hB1 (by decide)) qr s1   1 (by decide) (by decide) r369 (show 0 ≤ r369.toInt by first | with_reducible assumption | omega) (show r369.toInt ≤ 99999 by first | with_reducible assumption | omega) w403 H.size hT f0_ c413 (show 0 ≤ f0_.toInt from rf0_) (show f0_.toInt ≤ 5 from tf0_) f2_ c414 (show 0 ≤ f2_.toInt from rf2_) (show f2_.toInt ≤ 400 from tf2_) (show f2_.toInt ≤ 399 from pr0_)) (cwV 2 hC.2.2.2.2 uV_RX12_162 rfl rfl rfl (by decide +kernel) ⟨Nat.le_of_ble_eq_true rfl, Nat.le_of_ble_eq_true rfl⟩) rfl hl.1 rfl (Nat.le_of_ble_eq_true rfl) dX12_value_85 (fun w435 H locs hp434 hw => ?_)
            obtain ⟨hT, k436, hv442, hg441⟩ := hp434
            try simp only [show (1 : Int32).toInt = 1 by decide] at hv442
            have hF := hF.tr k436 (by decide)
            have c443 := k436.gi kM_at0 (by decide) c413
            have c444 := k436.gi kM_at0 (by decide) c415
            have c445 := k436.gi kM_at0 (by decide) c416
            obtain ⟨⟨x437, c438, rx437, tx437⟩, hq439, g440⟩ := hg441
            replace hM := hM.call hv442 rfl
            have ex437 : x437.toInt = f0_.toInt := by rw [← c443.symm.trans c438]
            obtain ⟨x446, c447, rx446, tx446⟩ := hT.rda (lo := 0) (hi := 400) (i := (f0_.toInt).toNat) kM_at3 rfl rfl (by omega)
            have g440 : x446.toInt = f2_.toInt + 1 := by have q := g440; simp only [c413, c443, c414, c447] at q; first | with_reducible exact q | omega
            have hO : OKW w435 f0_.toInt gb ((gd) + 1) := OKW_put hO (by have q := hq439; rw [c413] at q; exact q) (by rw [c414]; omega) (fun x hx => by simp only [(show (1 : Int32).toInt = 1 by decide)] at hx; exact okT_word (v := r369.toInt) (by omega) (by omega) (by omega)) (by omega) (by omega)
            refine lv_iconst (v := 1) hx hb dX12_value_88 (by decide) ?_
            exact tk_zret hC hr rfl hlocks hK ⟨hT, hF, hM.ret (by decide), (Or.inr (Or.inr (Or.inr ⟨rfl, ⟨x20, c444, (show 0 ≤ x20.toInt by first | with_reducible assumption | omega), (show x20.toInt ≤ 400 by first | with_reducible assumption | omega)⟩, ⟨f0_, c443, (show 0 ≤ f0_.toInt from rf0_), (show f0_.toInt ≤ 5 from tf0_)⟩, ⟨x393, c445, (show 1 ≤ x393.toInt by first | with_reducible assumption | omega), (show x393.toInt ≤ 60 by first | with_reducible assumption | omega)⟩, (OKW_cast hO (by omega)), (by simp only [c443, cf0_, cf2_, c447]; omega), (by simp only [c443, cf0_, cf1_, c445]; omega)⟩)))⟩ hw dX12_value_89
      · replace hM := hM.call (r' := (-1)) hv380 (by decide)
        have ex377 : x377.toInt = x20.toInt := by rw [← c384.symm.trans c378]
        refine lv_istore_n (lv' := [(2, .int (-1)), (1, .int x28), (0, .ref (ad 0))]) hx hb dX12_value_56 rfl hl (by decide) rfl (fun ls hl => ?_)
        refine lv_iload_n hx hb dX12_value_57 rfl (lv_at hl 0 rfl) ?_
        refine lv_if_ge (tgt := 68) hx hb dX12_value_58 (by decide) (fun c => absurd c (by decide)) (fun _ => ?_)
        replace hM := hM.neg (by decide)
        refine lv_aload_n hx hb dX12_value_61 rfl (lv_at hl 2 rfl) ?_
        refine lv_iconst (v := 0) hx hb dX12_value_62 (by decide) ?_
        refine lv_iload_n hx hb dX12_value_63 rfl (lv_at hl 1 rfl) ?_
        refine tk_Vi hC hK hw hT hA hE hSR kM_at0 (by decide) rfl (kz_X12_fails_1 l adK adV dC dI cy ad B hB0 (Int.le_trans hB1 (by decide)) qr s1   0 (by decide) (by decide) x28 (show 0 ≤ x28.toInt by first | with_reducible assumption | omega) (show x28.toInt ≤ 400 by first | with_reducible assumption | omega) w371 H.size hT ) (cwV 2 hC.2.2.2.2 uV_RX12_115 rfl rfl rfl (by decide +kernel) ⟨Nat.le_of_ble_eq_true rfl, Nat.le_of_ble_eq_true rfl⟩) rfl hl.1 rfl (Nat.le_of_ble_eq_true rfl) dX12_value_64 (fun r448 w450 H locs hp449 hw => ?_)
        obtain ⟨hT, k451, hv455, hg454⟩ := hp449
        try simp only [show (0 : Int32).toInt = 0 by decide] at hv455
        have hO := OKW_FE k451 (fun _ => rfl) (fun _ => rfl) (fun _ => rfl) (fun _ => rfl) hO
        have hF := hF.tr k451 (by decide)
        have c456 := k451.gi kM_at0 (by decide) c381
        have c457 := k451.gi kM_at0 (by decide) c382
        have c458 := k451.gi kM_at3 rfl c383
        have c459 := k451.gi kM_at0 (by decide) c384
        obtain ⟨rfl, ⟨x452, c453, rx452, tx452⟩⟩ := hg454
        replace hM := hM.call (r' := 0) hv455 (by decide)
        exact tk_zret hC hr rfl hlocks hK ⟨hT, hF, hM.ret (by decide), (Or.inr (Or.inl ⟨rfl, ⟨x20, c459, (show 0 ≤ x20.toInt by first | with_reducible assumption | omega), (show x20.toInt ≤ 400 by first | with_reducible assumption | omega)⟩, ⟨x452, c453, (show 1 ≤ x452.toInt by first | with_reducible assumption | omega), (show x452.toInt ≤ 3205 by first | with_reducible assumption | omega)⟩, ⟨f0_, c456, (show 0 ≤ f0_.toInt from rf0_), (show f0_.toInt ≤ 5 from tf0_)⟩, hO.1⟩))⟩ hw dX12_value_67
    · replace hM := hM.call (r' := 1) hv368 (by decide)
      have ex365 : x365.toInt = x20.toInt := by rw [← c21.symm.trans c366]
      refine lv_if_eq (tgt := 52) hx hb dX12_value_18 (by decide) (fun c => absurd c (by decide)) (fun _ => ?_)
      replace hM := hM.neg (by decide)
      refine lv_aload_n hx hb dX12_value_21 rfl (lv_at hl 1 rfl) ?_
      refine lv_iconst (v := 0) hx hb dX12_value_22 (by decide) ?_
      refine lv_ldc (v := 99999) hx hb hC.2.2.2.1 (hC.2.2.2.2 _ (List.mem_cons_of_mem _ uw_24_18)) dX12_value_23 ?_
      refine tk_Vi hC hK hw hT hA hE hSR kM_at0 (by decide) rfl (kz_X12_numberHere_9 l adK adV dC dI cy ad B hB0 (Int.le_trans hB1 (by decide)) qr s1    w5 H.size hT ) (cwV 2 hC.2.2.2.2 uV_RX12_167 rfl rfl rfl (by decide +kernel) ⟨Nat.le_of_ble_eq_true rfl, Nat.le_of_ble_eq_true rfl⟩) rfl hl.1 rfl (Nat.le_of_ble_eq_true rfl) dX12_value_25 (fun r460 w462 H locs hp461 hw => ?_)
      obtain ⟨hT, k463, hv477, hg476⟩ := hp461
      have hO := OKW_FE k463 (fun _ => rfl) (fun _ => rfl) (fun _ => rfl) (fun _ => rfl) hO
      have hF := hF.tr k463 (by decide)
      have c478 := k463.gi kM_at0 (by decide) c25
      have c479 := k463.gi kM_at0 (by decide) c26
      have c480 := k463.gi kM_at3 rfl c27
      have c481 := k463.gi kM_at0 (by decide) c21
      rcases hg476 with ⟨rfl, ⟨x464, c465, rx464, tx464⟩, ⟨x466, c467, rx466, tx466⟩⟩ | ⟨rfl, ⟨x468, c469, rx468, tx468⟩, ⟨x470, c471, rx470, tx470⟩⟩ | ⟨rfl, ⟨x472, c473, rx472, tx472⟩, ⟨x474, c475, rx474, tx474⟩⟩
      · replace hM := hM.call (r' := 0) hv477 (by decide)
        have ex464 : x464.toInt = x20.toInt := by rw [← c481.symm.trans c465]
        refine lv_if_eq (tgt := 39) hx hb dX12_value_28 (by decide) (fun _ => ?_) (fun c => absurd (by decide) c)
        replace hM := hM.pos (by decide)
        refine lv_iconst (v := 0) hx hb dX12_value_39 (by decide) ?_
        exact tk_zret hC hr rfl hlocks hK ⟨hT, hF, hM.ret (by decide), (Or.inl ⟨rfl, ⟨x20, c481, (show 1 ≤ x20.toInt by first | with_reducible assumption | omega), (show x20.toInt ≤ 400 by first | with_reducible assumption | omega)⟩, ⟨x466, c467, (show 1 ≤ x466.toInt by first | with_reducible assumption | omega), (show x466.toInt ≤ 3205 by first | with_reducible assumption | omega)⟩, ⟨f0_, c478, (show 0 ≤ f0_.toInt from rf0_), (show f0_.toInt ≤ 5 from tf0_)⟩, hO.1⟩)⟩ hw dX12_value_40
      · replace hM := hM.call (r' := 0) hv477 (by decide)
        have ex468 : x468.toInt = x20.toInt := by rw [← c481.symm.trans c469]
        refine lv_if_eq (tgt := 39) hx hb dX12_value_28 (by decide) (fun _ => ?_) (fun c => absurd (by decide) c)
        replace hM := hM.pos (by decide)
        refine lv_iconst (v := 0) hx hb dX12_value_39 (by decide) ?_
        exact tk_zret hC hr rfl hlocks hK ⟨hT, hF, hM.ret (by decide), (Or.inl ⟨rfl, ⟨x20, c481, (show 1 ≤ x20.toInt by first | with_reducible assumption | omega), (show x20.toInt ≤ 400 by first | with_reducible assumption | omega)⟩, ⟨x470, c471, (show 1 ≤ x470.toInt by first | with_reducible assumption | omega), (show x470.toInt ≤ 3205 by first | with_reducible assumption | omega)⟩, ⟨f0_, c478, (show 0 ≤ f0_.toInt from rf0_), (show f0_.toInt ≤ 5 from tf0_)⟩, hO.1⟩)⟩ hw dX12_value_40
      · replace hM := hM.call (r' := 1) hv477 (by decide)
        have ex472 : x472.toInt = x20.toInt := by rw [← c481.symm.trans c473]
        refine lv_if_eq (tgt := 39) hx hb dX12_value_28 (by decide) (fun c => absurd c (by decide)) (fun _ => ?_)
        replace hM := hM.neg (by decide)
        refine lv_aload_n hx hb dX12_value_31 rfl (lv_at hl 1 rfl) ?_
        refine lv_iload_n hx hb dX12_value_32 rfl (lv_at hl 0 rfl) ?_
        refine tk_Vi hC hK hw hT hA hE hSR kM_at0 (by decide) rfl (kz_X12_makes_1 l adK adV dC dI cy ad B hB0 (Int.le_trans hB1 (by decide)) qr s1   x28 (show 0 ≤ x28.toInt by first | with_reducible assumption | omega) (show x28.toInt ≤ 399 by first | with_reducible assumption | omega) w462 H.size hT f1_ c479 (show 0 ≤ f1_.toInt from rf1_) (show f1_.toInt ≤ 60 from tf1_)) (cwV 1 hC.2.2.2.2 uV_RX12_170 rfl rfl rfl (by decide +kernel) ⟨Nat.le_of_ble_eq_true rfl, Nat.le_of_ble_eq_true rfl⟩) rfl hl.1 rfl (Nat.le_of_ble_eq_true rfl) dX12_value_33 (fun r482 w484 H locs hp483 hw => ?_)
        obtain ⟨hT, k485, hv494, hg493⟩ := hp483
        have hO := OKW_FE k485 (fun _ => rfl) (fun _ => rfl) (fun _ => rfl) (fun _ => rfl) hO
        have hF := hF.tr k485 (by decide)
        have c495 := k485.gi kM_at0 (by decide) c478
        have c496 := k485.gi kM_at3 rfl c480
        have c497 := k485.gi kM_at0 (by decide) c481
        have c498 := k485.gi kM_at0 (by decide) c475
        rcases hg493 with ⟨rfl, ⟨x486, c487, rx486, tx486⟩, ⟨x488, c489, rx488, tx488⟩⟩ | ⟨rfl, ⟨x490, c491, rx490, tx490⟩, g492⟩
        · replace hM := hM.call (r' := 0) hv494 (by decide)
          refine lv_if_ne (tgt := 41) hx hb dX12_value_36 (by decide) (fun c => absurd (by decide) c) (fun _ => ?_)
          replace hM := hM.neg (by decide)
          refine lv_iconst (v := 0) hx hb dX12_value_39 (by decide) ?_
          exact tk_zret hC hr rfl hlocks hK ⟨hT, hF, hM.ret (by decide), (Or.inl ⟨rfl, ⟨x20, c497, (show 1 ≤ x20.toInt by first | with_reducible assumption | omega), (show x20.toInt ≤ 400 by first | with_reducible assumption | omega)⟩, ⟨x486, c487, (show 1 ≤ x486.toInt by first | with_reducible assumption | omega), (show x486.toInt ≤ 3205 by first | with_reducible assumption | omega)⟩, ⟨f0_, c495, (show 0 ≤ f0_.toInt from rf0_), (show f0_.toInt ≤ 5 from tf0_)⟩, hO.1⟩)⟩ hw dX12_value_40
        · replace hM := hM.call (r' := 1) hv494 (by decide)
          have g492 : x490.toInt = f1_.toInt + 1 := by have q := g492; simp only [c478, c495, c479, c491] at q; first | with_reducible exact q | omega
          refine lv_if_ne (tgt := 41) hx hb dX12_value_36 (by decide) (fun _ => ?_) (fun c => absurd c (by decide))
          replace hM := hM.pos (by decide)
          refine lv_aload_n hx hb dX12_value_41 rfl (lv_at hl 1 rfl) ?_
          refine lv_iconst (v := 0) hx hb dX12_value_42 (by decide) ?_
          refine lv_aload_n hx hb dX12_value_43 rfl (lv_at hl 1 rfl) ?_
          refine tk_geti hC hK hw hT hinX12 kM_at0 (by decide) rfl 16 (by decide) (List.mem_cons_of_mem _ uw_21_12) rfl rfl dX12_value_44 (fun x499 c500 rx499 tx499 => ?_)
          refine wk_top x474 (c500.symm.trans c498) ?_
          replace hM := hM.rd (sI_at c498)
          refine tk_Vv hC hK hw hT hA hE hSR kM_at0 (by decide) rfl (kz_X12_puts_1 l adK adV dC dI cy ad B hB0 (Int.le_trans hB1 (by decide)) qr s1   0 (by decide) (by decide) x474 (show 0 ≤ x474.toInt by first | with_reducible assumption | omega) (show x474.toInt ≤ 99999 by first | with_reducible assumption | omega) w484 H.size hT f0_ c495 (show 0 ≤ f0_.toInt from rf0_) (show f0_.toInt ≤ 5 from tf0_) f2_ c496 (show 0 ≤ f2_.toInt from rf2_) (show f2_.toInt ≤ 400 from tf2_) (show f2_.toInt ≤ 399 from pr0_)) (cwV 2 hC.2.2.2.2 uV_RX12_162 rfl rfl rfl (by decide +kernel) ⟨Nat.le_of_ble_eq_true rfl, Nat.le_of_ble_eq_true rfl⟩) rfl hl.1 rfl (Nat.le_of_ble_eq_true rfl) dX12_value_47 (fun w503 H locs hp502 hw => ?_)
          obtain ⟨hT, k504, hv510, hg509⟩ := hp502
          try simp only [show (0 : Int32).toInt = 0 by decide] at hv510
          have hF := hF.tr k504 (by decide)
          have c511 := k504.gi kM_at0 (by decide) c495
          have c512 := k504.gi kM_at0 (by decide) c497
          have c513 := k504.gi kM_at0 (by decide) c498
          have c514 := k504.gi kM_at0 (by decide) c491
          obtain ⟨⟨x505, c506, rx505, tx505⟩, hq507, g508⟩ := hg509
          replace hM := hM.call hv510 rfl
          have ex505 : x505.toInt = f0_.toInt := by rw [← c511.symm.trans c506]
          obtain ⟨x515, c516, rx515, tx515⟩ := hT.rda (lo := 0) (hi := 400) (i := (f0_.toInt).toNat) kM_at3 rfl rfl (by omega)
          have g508 : x515.toInt = f2_.toInt + 1 := by have q := g508; simp only [c495, c511, c496, c516] at q; first | with_reducible exact q | omega
          have hO : OKW w503 f0_.toInt gb ((gd) + 1) := OKW_put hO (by have q := hq507; rw [c495] at q; exact q) (by rw [c496]; omega) (fun x hx => by simp only [(show (0 : Int32).toInt = 0 by decide)] at hx; exact okT_num (v := x474.toInt) (by omega) (by omega)) (by omega) (by omega)
          refine lv_iconst (v := 1) hx hb dX12_value_50 (by decide) ?_
          exact tk_zret hC hr rfl hlocks hK ⟨hT, hF, hM.ret (by decide), (Or.inr (Or.inr (Or.inl ⟨rfl, ⟨x20, c512, (show 1 ≤ x20.toInt by first | with_reducible assumption | omega), (show x20.toInt ≤ 400 by first | with_reducible assumption | omega)⟩, ⟨f0_, c511, (show 0 ≤ f0_.toInt from rf0_), (show f0_.toInt ≤ 5 from tf0_)⟩, ⟨x490, c514, (show 1 ≤ x490.toInt by first | with_reducible assumption | omega), (show x490.toInt ≤ 60 by first | with_reducible assumption | omega)⟩, (OKW_cast hO (by omega)), (by simp only [c511, cf0_, cf2_, c516]; omega), (by simp only [c511, cf0_, cf1_, c514]; omega)⟩)))⟩ hw dX12_value_51
abbrev Pz_X12_term_1 (ad : Nat → Nat) (cy : Nat → ClassId) (B : Int) (qr : Nat) (s1 : Int)  (gT gb gd : Int) (w0 : va_W) : Int32 → va_W → Prop := fun r u => TW ksM ad cy B qr 12 u ∧ FE ksM [(12, 14, 14), (12, 15, 15), (12, 16, 16), (12, 18, 18), (61, 0, 2400), (62, 0, 7)] w0 u ∧ Ev (fun n => m_X12_term n 0 (sI w0)) (r.toInt, sI u) ∧ ((r = 0 ∧ (∃ y : Int32, gi u 0 1 = y ∧ 1 ≤ y.toInt ∧ y.toInt ≤ 400) ∧ (∃ y : Int32, gi u 0 15 = y ∧ 1 ≤ y.toInt ∧ y.toInt ≤ 3205) ∧ (∃ y : Int32, gi u 0 17 = y ∧ 0 ≤ y.toInt ∧ y.toInt ≤ 5) ∧ RLc u gT) ∨ (r = 0 ∧ (∃ y : Int32, gi u 0 1 = y ∧ 0 ≤ y.toInt ∧ y.toInt ≤ 400) ∧ (∃ y : Int32, gi u 0 15 = y ∧ 1 ≤ y.toInt ∧ y.toInt ≤ 3205) ∧ (∃ y : Int32, gi u 0 17 = y ∧ 0 ≤ y.toInt ∧ y.toInt ≤ 5) ∧ RLc u gT) ∨ (r = 1 ∧ (∃ y : Int32, gi u 0 1 = y ∧ 1 ≤ y.toInt ∧ y.toInt ≤ 400) ∧ (∃ y : Int32, gi u 0 17 = y ∧ 0 ≤ y.toInt ∧ y.toInt ≤ 5) ∧ (∃ y : Int32, gi u 0 18 = y ∧ 1 ≤ y.toInt ∧ y.toInt ≤ 60) ∧ OKW u gT gb (gd + 1) ∧ (3 * (gi u 3 ((gi u 0 17).toInt).toNat).toInt + 11 ≤ 3 * (gi w0 3 ((gi w0 0 17).toInt).toNat).toInt + 14 * ((gi u 0 18).toInt - (gi w0 0 18).toInt)) ∧ ((gi w0 0 18).toInt + 1 ≤ (gi u 0 18).toInt)) ∨ (r = 1 ∧ (∃ y : Int32, gi u 0 1 = y ∧ 0 ≤ y.toInt ∧ y.toInt ≤ 400) ∧ (∃ y : Int32, gi u 0 17 = y ∧ 0 ≤ y.toInt ∧ y.toInt ≤ 5) ∧ (∃ y : Int32, gi u 0 18 = y ∧ 1 ≤ y.toInt ∧ y.toInt ≤ 60) ∧ OKW u gT gb (gd + 1) ∧ (3 * (gi u 3 ((gi u 0 17).toInt).toNat).toInt + 11 ≤ 3 * (gi w0 3 ((gi w0 0 17).toInt).toNat).toInt + 14 * ((gi u 0 18).toInt - (gi w0 0 18).toInt)) ∧ ((gi w0 0 18).toInt + 1 ≤ (gi u 0 18).toInt)))
set_option maxHeartbeats 4000000 in
set_option maxRecDepth 100000 in
theorem kz_X12_term_1 (l : Launch) (adK adV : Nat → Nat) (dC : Nat → ClassId) (dI : Nat → Nat → Nat) (cy : Nat → ClassId) (ad : Nat → Nat) (B : Int) (hB0 : 100000 ≤ B) (hB1 : B ≤ 1073741824) (qr : Nat) (s1 : Int)   (w0 : va_W) (sz : Nat) (hT : TW ksM ad cy B qr 12 w0) (f0_ : Int32) (cf0_ : gi w0 0 17 = f0_) (rf0_ : 0 ≤ f0_.toInt) (tf0_ : f0_.toInt ≤ 5) (f1_ : Int32) (cf1_ : gi w0 0 18 = f1_) (rf1_ : 0 ≤ f1_.toInt) (tf1_ : f1_.toInt ≤ 60) (f2_ : Int32) (cf2_ : gi w0 3 (f0_.toInt).toNat = f2_) (rf2_ : 0 ≤ f2_.toInt) (tf2_ : f2_.toInt ≤ 400) (pr0_ : 3 * f2_.toInt ≤ 14 * f1_.toInt + 60) (pr1_ : f2_.toInt ≤ 300) (gb gd : Int) (hgd0 : 0 ≤ gd) (hgd1 : gd ≤ f1_.toInt) (hO : OKW w0 f0_.toInt gb (gd)) : Met l yX12_term (wu yX12_term cX12_term 2 (some .boolean)) ({ frames := 5, cells := 0, slots := 0, locals := 100 }) (va_Pc [.ref (ad 0)] (wpreS adK adV dC dI cy sz w0)) (va_Qi (Pz_X12_term_1 ad cy B qr s1  f0_.toInt gb gd w0) (fun u : va_W => wpost dC dI cy (va_A w0 sz) u) (va_A w0 sz)) 0 0 (va_A w0 sz) := by
  refine Met.ofW (cc := cX12_term) (maxL := 2) (ret := (some .boolean)) (by decide) rfl ?_
  intro p e s m args below meth c s₁ Bk hml hv
  obtain ⟨rfl, ⟨hsz, hP, hK, hD0⟩, hE, hSR⟩ := hv
  have hx := Bk.exec
  have hb := Bk.bytes
  have hr := Bk.returns
  have hlocks := Bk.notSynchronized
  have hC : CallFix p m c cX12_term 2 s _ (wu yX12_term cX12_term 2 (some .boolean)) RX12 := ⟨hx, hb, hml, findClass_of_methodNamed Bk.named, atoms_spec (ws := (wu yX12_term cX12_term 2 (some .boolean))) Bk.pre⟩
  subst hsz
  have hD := hD0.self (sz := s.heap.size)
  generalize hAe : va_A w0 s.heap.size = A at hD hE ⊢
  have hA : ∀ q : Nat, s.heap.size ≤ q → A q := fun q h => by rw [← hAe]; exact Or.inr h
  have hw : Wd dC dI A s.heap s.heap [] w0 := ⟨hP, hD, va_S.rf⟩
  have hF : FE ksM [(12, 14, 14), (12, 15, 15), (12, 16, 16), (12, 18, 18), (61, 0, 2400), (62, 0, 7)] w0 w0 := FE.rf
  have hl := lv_entry ([.ref (ad 0)]) (n := 2) (Nat.le_of_ble_eq_true rfl)
  rw [lg_entry_eq]
  generalize (lg_sl ([.ref (ad 0)]) ++ List.replicate (2 - (lg_sl ([.ref (ad 0)])).length) Slot.unset).toArray = ls at hl ⊢
  have hl : lv_has ls 2 [(0, .ref (ad 0))] := hl
  generalize hloc : ([] : List Loc) = locs at hw ⊢
  have hinX12 : ∀ w ∈ u_ws RX12 TX12 42, w ∈ (wu yX12_term cX12_term 2 (some .boolean)) := fun _ h => List.mem_cons_of_mem _ (up_71 h)
  have L9 : ∀ (n9 : Nat) (f9_0_1 : Int32) (f9_0_18 : Int32) (f9_3__f0__toInt_toNat : Int32) (H : Heap) (locs : List Loc) (ls : Array Slot) (w1 : va_W), 0 ≤ f9_0_1.toInt → f9_0_1.toInt ≤ 400 → 0 ≤ f0_.toInt → f0_.toInt ≤ 5 → 1 ≤ f9_0_18.toInt → f9_0_18.toInt ≤ 60 → 0 ≤ f9_3__f0__toInt_toNat.toInt → f9_3__f0__toInt_toNat.toInt ≤ 300 → (3 * f9_3__f0__toInt_toNat.toInt + 11 ≤ 3 * f2_.toInt + 14 * (f9_0_18.toInt - f1_.toInt)) → (f1_.toInt + 1 ≤ f9_0_18.toInt) → (f9_3__f0__toInt_toNat.toInt ≤ 300) → (60 - f9_0_18.toInt).toNat < n9 → Wd dC dI A s.heap H locs w1 → TW ksM ad cy B qr 12 w1 → FE ksM [(12, 14, 14), (12, 15, 15), (12, 16, 16), (12, 18, 18), (61, 0, 2400), (62, 0, 7)] w0 w1 → OKW w1 f0_.toInt gb (gd + 1) → gi w1 0 1 = f9_0_1 → gi w1 0 17 = f0_ → gi w1 0 18 = f9_0_18 → gi w1 3 (f0_.toInt).toNat = f9_3__f0__toInt_toNat → TT (fun n => m_X12_term n 0 (sI w0)) (fun n => j_X12_term 0 n 9 [] (sI w1)) → lv_has ls 2 [(0, .ref (ad 0))] → W p l e ({ frames := 5, cells := 0, slots := 0, locals := 100 }) s m (List.toArray [.ref (ad 0)]) below meth c H locs 0 0 (MQ below (va_Qi (Pz_X12_term_1 ad cy B qr s1  f0_.toInt gb gd w0) (fun u : va_W => wpost dC dI cy A u) A) (List.toArray [.ref (ad 0)]) s 0 0 A) (F0 m 9 ls []) := by
    intro n9
    induction n9 with
    | zero => intro f9_0_1 f9_0_18 f9_3__f0__toInt_toNat H locs ls w1 r2 t3 r5 t6 r8 t9 r11 t12 hcr9_0 hcr9_1 hcr9_2 hm9 hw hT hF hO c4 c7 c10 c13 hM hl; omega
    | succ n9 ih9 =>
      intro f9_0_1 f9_0_18 f9_3__f0__toInt_toNat H locs ls w1 r2 t3 r5 t6 r8 t9 r11 t12 hcr9_0 hcr9_1 hcr9_2 hm9 hw hT hF hO c4 c7 c10 c13 hM hl
      have J27 : ∀ (f27_0_14 : Int32) (H : Heap) (locs : List Loc) (ls : Array Slot) (w14 : va_W), 1 ≤ f9_0_1.toInt → f9_0_1.toInt ≤ 400 → 0 ≤ f27_0_14.toInt → f27_0_14.toInt ≤ 399 → 0 ≤ f0_.toInt → f0_.toInt ≤ 5 → 1 ≤ f9_0_18.toInt → f9_0_18.toInt ≤ 60 → 0 ≤ f9_3__f0__toInt_toNat.toInt → f9_3__f0__toInt_toNat.toInt ≤ 300 → (3 * f9_3__f0__toInt_toNat.toInt + 11 ≤ 3 * f2_.toInt + 14 * (f9_0_18.toInt - f1_.toInt)) → (f1_.toInt + 1 ≤ f9_0_18.toInt) → (f9_3__f0__toInt_toNat.toInt ≤ 300) → Wd dC dI A s.heap H locs w14 → TW ksM ad cy B qr 12 w14 → FE ksM [(12, 14, 14), (12, 15, 15), (12, 16, 16), (12, 18, 18), (61, 0, 2400), (62, 0, 7)] w0 w14 → OKW w14 f0_.toInt gb (gd + 1) → gi w14 0 1 = f9_0_1 → gi w14 0 14 = f27_0_14 → gi w14 0 17 = f0_ → gi w14 0 18 = f9_0_18 → gi w14 3 (f0_.toInt).toNat = f9_3__f0__toInt_toNat → TT (fun n => m_X12_term n 0 (sI w0)) (fun n => b_X12_term_27 (j_X12_term 0 n) n 0 (sI w14)) → lv_has ls 2 [(0, .ref (ad 0))] → W p l e ({ frames := 5, cells := 0, slots := 0, locals := 100 }) s m (List.toArray [.ref (ad 0)]) below meth c H locs 0 0 (MQ below (va_Qi (Pz_X12_term_1 ad cy B qr s1  f0_.toInt gb gd w0) (fun u : va_W => wpost dC dI cy A u) A) (List.toArray [.ref (ad 0)]) s 0 0 A) (F0 m 27 ls []) := by
        intro f27_0_14 H locs ls w14 r15 t16 r18 t19 r21 t22 r24 t25 r27 t28 hcr27_0 hcr27_1 hcr27_2 hw hT hF hO c17 c20 c23 c26 c29 hM hl
        refine lv_aload_n hx hb dX12_term_27 rfl (lv_at hl 0 rfl) ?_
        refine tk_getA hC hK hw hT hinX12 kM_at0 (by decide) rfl 0 (by decide) (List.mem_cons_of_mem _ uw_6_14) rfl rfl dX12_term_28 ?_
        refine lv_aload_n hx hb dX12_term_31 rfl (lv_at hl 0 rfl) ?_
        refine tk_geti hC hK hw hT hinX12 kM_at0 (by decide) rfl 14 (by decide) (List.mem_cons_of_mem _ uw_19_18) rfl rfl dX12_term_32 (fun x30 c31 rx30 tx30 => ?_)
        refine wk_top f27_0_14 (c31.symm.trans c20) ?_
        replace hM := hM.rd (sI_at c20)
        refine tk_bald hC hK hw hT kM_at1 rfl rfl (show 0 ≤ f27_0_14.toInt from r18) (show f27_0_14.toInt < 400 from Int.lt_of_le_of_lt t19 (by decide)) dX12_term_35 (fun x32 c33 rx32 tx32 => ?_)
        have hox32 := c33
        replace hM := hM.rd (sI_at hox32)
        have c33 : gi w14 1 (f27_0_14.toInt).toNat = x32 := (congrArg (gi w14 1) (congrArg Int.toNat (show f27_0_14.toInt = f27_0_14.toInt from rfl))).trans c33
        refine lv_bipush (v := 42) hx hb dX12_term_36 (by decide) ?_
        refine lv_icmp_ne (tgt := 45) hx hb dX12_term_38 (by decide) (fun c34 => ?_) (fun c34 => ?_)
        · have c34 : ¬ x32.toInt = (42 : Int) := wk_eqF c34
          replace hM := hM.pos c34
          refine lv_iconst (v := 5) hx hb dX12_term_45 (by decide) ?_
          refine lv_istore_n (lv' := [(1, .int 5), (0, .ref (ad 0))]) hx hb dX12_term_46 rfl hl (by decide) rfl (fun ls hl => ?_)
          refine lv_aload_n hx hb dX12_term_47 rfl (lv_at hl 1 rfl) ?_
          refine lv_dup hx hb dX12_term_48 rfl ?_
          refine tk_geti hC hK hw hT hinX12 kM_at0 (by decide) rfl 14 (by decide) (List.mem_cons_of_mem _ uw_19_18) rfl rfl dX12_term_49 (fun x35 c36 rx35 tx35 => ?_)
          refine wk_top f27_0_14 (c36.symm.trans c20) ?_
          replace hM := hM.rd (sI_at c20)
          refine lv_iconst (v := 1) hx hb dX12_term_52 (by decide) ?_
          refine lv_iadd hx hb dX12_term_53 ?_
          refine lv_topi (fun x37 ex37 => ?_)
          have ezx37 := ex37
          have ex37 : x37.toInt = f27_0_14.toInt + (1 : Int) := by rw [ex37]; exact wk_add (show (-2147483648) ≤ f27_0_14.toInt + (1 : Int) by omega) (show f27_0_14.toInt + (1 : Int) ≤ 2147483647 by omega)
          replace hM := hM.lt ex37.symm
          refine tk_puti hC hK hw hT hinX12 tyX12_ok nmX12 kM_at0 (by decide) rfl rfl 14 (by decide) (List.mem_cons_of_mem _ uw_19_18) rfl rfl rfl rfl (show 0 ≤ x37.toInt by first | with_reducible assumption | omega) (show x37.toInt ≤ 400 by first | with_reducible assumption | omega) dX12_term_54 (fun H locs w38 hw hT k40 c39 => ?_)
          replace hM := hM.wr (sI_up k40 c39)
          have hO := OKW_F1 k40 (by decide) (by decide) (by decide) (by decide) hO
          have hF := hF.put kM_at0 (k := 14) (by decide) k40
          have c41 := k40.gi (Or.inr (by decide)) c17
          have c42 := k40.gi (Or.inr (by decide)) c23
          have c43 := k40.gi (Or.inr (by decide)) c26
          have c44 := k40.gi (Or.inl (tk_ne kM_at3 kM_at0 (by decide))) c29
          have c45 := k40.gi (Or.inl (tk_ne kM_at1 kM_at0 (by decide))) c33
          refine lv_aload_n hx hb dX12_term_57 rfl (lv_at hl 1 rfl) ?_
          refine tk_Vi hC hK hw hT hA hE hSR kM_at0 (by decide) rfl (kz_X12_value_1 l adK adV dC dI cy ad B hB0 (Int.le_trans hB1 (by decide)) qr s1    w38 H.size hT f0_ c42 (show 0 ≤ f0_.toInt from r21) (show f0_.toInt ≤ 5 from t22) f9_0_18 c43 (show 0 ≤ f9_0_18.toInt from Int.le_trans (by decide) r24) (show f9_0_18.toInt ≤ 60 from t25) f9_3__f0__toInt_toNat c44 (show 0 ≤ f9_3__f0__toInt_toNat.toInt from r27) (show f9_3__f0__toInt_toNat.toInt ≤ 400 from Int.le_trans t28 (by decide)) (show f9_3__f0__toInt_toNat.toInt ≤ 399 from Int.le_trans t28 (by decide)) gb (gd + 1) (by omega) (by omega) (OKW_cast hO (show gd + 1 = gd + 1 from rfl))) (cwV 0 hC.2.2.2.2 uV_RX12_176 rfl rfl rfl (by decide +kernel) ⟨Nat.le_of_ble_eq_true rfl, Nat.le_of_ble_eq_true rfl⟩) rfl hl.1 rfl (Nat.le_of_ble_eq_true rfl) dX12_term_58 (fun r46 w48 H locs hp47 hw => ?_)
          obtain ⟨hT, k49, hv83, hg82⟩ := hp47
          have hF := hF.tr k49 (by decide)
          have c84 := k49.gi kM_at0 (by decide) c41
          have c85 := k49.gi kM_at0 (by decide) c42
          have c86 := k49.gi kM_at1 rfl c45
          rcases hg82 with ⟨rfl, ⟨x50, c51, rx50, tx50⟩, ⟨x52, c53, rx52, tx52⟩, ⟨x54, c55, rx54, tx54⟩, hq56⟩ | ⟨rfl, ⟨x57, c58, rx57, tx57⟩, ⟨x59, c60, rx59, tx59⟩, ⟨x61, c62, rx61, tx61⟩, hq63⟩ | ⟨rfl, ⟨x64, c65, rx64, tx64⟩, ⟨x66, c67, rx66, tx66⟩, ⟨x68, c69, rx68, tx68⟩, hq70, g71, g72⟩ | ⟨rfl, ⟨x73, c74, rx73, tx73⟩, ⟨x75, c76, rx75, tx75⟩, ⟨x77, c78, rx77, tx77⟩, hq79, g80, g81⟩
          · replace hM := hM.call (r' := 0) hv83 (by decide)
            have ex50 : x50.toInt = f9_0_1.toInt := by rw [← c84.symm.trans c51]
            have ex54 : x54.toInt = f0_.toInt := by rw [← c85.symm.trans c55]
            obtain ⟨x87, c88, rx87, tx87⟩ := hT.rda (lo := 0) (hi := 400) (i := (f0_.toInt).toNat) kM_at3 rfl rfl (by omega)
            obtain ⟨x89, c90, rx89, tx89⟩ := hT.rdi (lo := 0) (hi := 60) (k := 18) kM_at0 (by decide) rfl
            have hR := hq56
            refine lv_if_ne (tgt := 66) hx hb dX12_term_61 (by decide) (fun c => absurd (by decide) c) (fun _ => ?_)
            replace hM := hM.neg (by decide)
            refine lv_iconst (v := 0) hx hb dX12_term_64 (by decide) ?_
            exact tk_zret hC hr rfl hlocks hK ⟨hT, hF, hM.ret (by decide), (Or.inl ⟨rfl, ⟨f9_0_1, c84, (show 1 ≤ f9_0_1.toInt from r15), (show f9_0_1.toInt ≤ 400 from t16)⟩, ⟨x52, c53, (show 1 ≤ x52.toInt by first | with_reducible assumption | omega), (show x52.toInt ≤ 3205 by first | with_reducible assumption | omega)⟩, ⟨f0_, c85, (show 0 ≤ f0_.toInt from r21), (show f0_.toInt ≤ 5 from t22)⟩, hR⟩)⟩ hw dX12_term_65
          · replace hM := hM.call (r' := 0) hv83 (by decide)
            have ex57 : x57.toInt = f9_0_1.toInt := by rw [← c84.symm.trans c58]
            have ex61 : x61.toInt = f0_.toInt := by rw [← c85.symm.trans c62]
            obtain ⟨x91, c92, rx91, tx91⟩ := hT.rda (lo := 0) (hi := 400) (i := (f0_.toInt).toNat) kM_at3 rfl rfl (by omega)
            obtain ⟨x93, c94, rx93, tx93⟩ := hT.rdi (lo := 0) (hi := 60) (k := 18) kM_at0 (by decide) rfl
            have hR := hq63
            refine lv_if_ne (tgt := 66) hx hb dX12_term_61 (by decide) (fun c => absurd (by decide) c) (fun _ => ?_)
            replace hM := hM.neg (by decide)
            refine lv_iconst (v := 0) hx hb dX12_term_64 (by decide) ?_
            exact tk_zret hC hr rfl hlocks hK ⟨hT, hF, hM.ret (by decide), (Or.inl ⟨rfl, ⟨f9_0_1, c84, (show 1 ≤ f9_0_1.toInt from r15), (show f9_0_1.toInt ≤ 400 from t16)⟩, ⟨x59, c60, (show 1 ≤ x59.toInt by first | with_reducible assumption | omega), (show x59.toInt ≤ 3205 by first | with_reducible assumption | omega)⟩, ⟨f0_, c85, (show 0 ≤ f0_.toInt from r21), (show f0_.toInt ≤ 5 from t22)⟩, hR⟩)⟩ hw dX12_term_65
          · replace hM := hM.call (r' := 1) hv83 (by decide)
            have ex64 : x64.toInt = f9_0_1.toInt := by rw [← c84.symm.trans c65]
            have ex66 : x66.toInt = f0_.toInt := by rw [← c85.symm.trans c67]
            obtain ⟨x95, c96, rx95, tx95⟩ := hT.rda (lo := 0) (hi := 400) (i := (f0_.toInt).toNat) kM_at3 rfl rfl (by omega)
            have g71 : x95.toInt = f9_3__f0__toInt_toNat.toInt + 1 := by have q := g71; simp only [c42, c85, c44, c96] at q; first | with_reducible exact q | omega
            have g72 : x68.toInt = f9_0_18.toInt + 1 := by have q := g72; simp only [c42, c85, c43, c69] at q; first | with_reducible exact q | omega
            have hO : OKW w48 f0_.toInt gb ((gd + 1) + 1) := by have q := hq70; exact OKW_cast q (by omega)
            refine lv_if_ne (tgt := 66) hx hb dX12_term_61 (by decide) (fun _ => ?_) (fun c => absurd c (by decide))
            replace hM := hM.pos (by decide)
            refine lv_aload_n hx hb dX12_term_66 rfl (lv_at hl 1 rfl) ?_
            refine lv_iload_n hx hb dX12_term_67 rfl (lv_at hl 0 rfl) ?_
            refine lv_iconst (v := 0) hx hb dX12_term_68 (by decide) ?_
            refine tk_Vv hC hK hw hT hA hE hSR kM_at0 (by decide) rfl (kz_X12_puts_1 l adK adV dC dI cy ad B hB0 (Int.le_trans hB1 (by decide)) qr s1   5 (by decide) (by decide) 0 (by decide) (by decide) w48 H.size hT f0_ c85 (show 0 ≤ f0_.toInt from r21) (show f0_.toInt ≤ 5 from t22) x95 c96 (show 0 ≤ x95.toInt by first | with_reducible assumption | omega) (show x95.toInt ≤ 400 by first | with_reducible assumption | omega) (show x95.toInt ≤ 399 by first | with_reducible assumption | omega)) (cwV 2 hC.2.2.2.2 uV_RX12_162 rfl rfl rfl (by decide +kernel) ⟨Nat.le_of_ble_eq_true rfl, Nat.le_of_ble_eq_true rfl⟩) rfl hl.1 rfl (Nat.le_of_ble_eq_true rfl) dX12_term_69 (fun w101 H locs hp100 hw => ?_)
            obtain ⟨hT, k102, hv108, hg107⟩ := hp100
            try simp only [show (5 : Int32).toInt = 5 by decide] at hv108
            try simp only [show (0 : Int32).toInt = 0 by decide] at hv108
            have hF := hF.tr k102 (by decide)
            have c109 := k102.gi kM_at0 (by decide) c84
            have c110 := k102.gi kM_at0 (by decide) c85
            have c111 := k102.gi kM_at1 rfl c86
            have c112 := k102.gi kM_at0 (by decide) c69
            obtain ⟨⟨x103, c104, rx103, tx103⟩, hq105, g106⟩ := hg107
            replace hM := hM.call hv108 rfl
            have ex103 : x103.toInt = f0_.toInt := by rw [← c110.symm.trans c104]
            obtain ⟨x113, c114, rx113, tx113⟩ := hT.rda (lo := 0) (hi := 400) (i := (f0_.toInt).toNat) kM_at3 rfl rfl (by omega)
            have g106 : x113.toInt = x95.toInt + 1 := by have q := g106; simp only [c85, c110, c96, c114] at q; first | with_reducible exact q | omega
            have hO : OKW w101 f0_.toInt gb (((gd + 1) + 1) - 1) := OKW_put hO (by have q := hq105; rw [c85] at q; exact q) (by rw [c96]; omega) (fun x hx => by simp only [(show (5 : Int32).toInt = 5 by decide), (show (0 : Int32).toInt = 0 by decide)] at hx; exact okT_bin (by omega) (by omega) (by omega) (by omega)) (by omega) (by omega)
            refine lv_goto (tgt := 9) hx hb dX12_term_72 (by decide) ?_
            exact ih9 f9_0_1 x68 x113 H locs ls w101 (show 0 ≤ f9_0_1.toInt from r2) (show f9_0_1.toInt ≤ 400 from t16) (show 0 ≤ f0_.toInt from r21) (show f0_.toInt ≤ 5 from t22) (show 1 ≤ x68.toInt by first | with_reducible assumption | omega) (show x68.toInt ≤ 60 by first | with_reducible assumption | omega) (show 0 ≤ x113.toInt by first | with_reducible assumption | omega) (show x113.toInt ≤ 300 by first | with_reducible assumption | omega) (show 3 * x113.toInt + 11 ≤ 3 * f2_.toInt + 14 * (x68.toInt - f1_.toInt) by omega) (show f1_.toInt + 1 ≤ x68.toInt by omega) (show x113.toInt ≤ 300 by first | with_reducible assumption | omega) (show (60 - x68.toInt).toNat < n9 by first | exact tn_lt hm9 (by omega) (by omega) | omega) hw hT hF (OKW_cast hO (show ((gd + 1) + 1) - 1 = gd + 1 by first | exact Int.le_antisymm (by omega) (by omega) | omega)) c109 c110 c112 c114 hM (lv_sub hl [1] rfl)
          · replace hM := hM.call (r' := 1) hv83 (by decide)
            have ex73 : x73.toInt = f9_0_1.toInt := by rw [← c84.symm.trans c74]
            have ex75 : x75.toInt = f0_.toInt := by rw [← c85.symm.trans c76]
            obtain ⟨x97, c98, rx97, tx97⟩ := hT.rda (lo := 0) (hi := 400) (i := (f0_.toInt).toNat) kM_at3 rfl rfl (by omega)
            have g80 : x97.toInt = f9_3__f0__toInt_toNat.toInt + 1 := by have q := g80; simp only [c42, c85, c44, c98] at q; first | with_reducible exact q | omega
            have g81 : x77.toInt = f9_0_18.toInt + 1 := by have q := g81; simp only [c42, c85, c43, c78] at q; first | with_reducible exact q | omega
            have hO : OKW w48 f0_.toInt gb ((gd + 1) + 1) := by have q := hq79; exact OKW_cast q (by omega)
            refine lv_if_ne (tgt := 66) hx hb dX12_term_61 (by decide) (fun _ => ?_) (fun c => absurd c (by decide))
            replace hM := hM.pos (by decide)
            refine lv_aload_n hx hb dX12_term_66 rfl (lv_at hl 1 rfl) ?_
            refine lv_iload_n hx hb dX12_term_67 rfl (lv_at hl 0 rfl) ?_
            refine lv_iconst (v := 0) hx hb dX12_term_68 (by decide) ?_
            refine tk_Vv hC hK hw hT hA hE hSR kM_at0 (by decide) rfl (kz_X12_puts_1 l adK adV dC dI cy ad B hB0 (Int.le_trans hB1 (by decide)) qr s1   5 (by decide) (by decide) 0 (by decide) (by decide) w48 H.size hT f0_ c85 (show 0 ≤ f0_.toInt from r21) (show f0_.toInt ≤ 5 from t22) x97 c98 (show 0 ≤ x97.toInt by first | with_reducible assumption | omega) (show x97.toInt ≤ 400 by first | with_reducible assumption | omega) (show x97.toInt ≤ 399 by first | with_reducible assumption | omega)) (cwV 2 hC.2.2.2.2 uV_RX12_162 rfl rfl rfl (by decide +kernel) ⟨Nat.le_of_ble_eq_true rfl, Nat.le_of_ble_eq_true rfl⟩) rfl hl.1 rfl (Nat.le_of_ble_eq_true rfl) dX12_term_69 (fun w117 H locs hp116 hw => ?_)
            obtain ⟨hT, k118, hv124, hg123⟩ := hp116
            try simp only [show (5 : Int32).toInt = 5 by decide] at hv124
            try simp only [show (0 : Int32).toInt = 0 by decide] at hv124
            have hF := hF.tr k118 (by decide)
            have c125 := k118.gi kM_at0 (by decide) c84
            have c126 := k118.gi kM_at0 (by decide) c85
            have c127 := k118.gi kM_at1 rfl c86
            have c128 := k118.gi kM_at0 (by decide) c78
            obtain ⟨⟨x119, c120, rx119, tx119⟩, hq121, g122⟩ := hg123
            replace hM := hM.call hv124 rfl
            have ex119 : x119.toInt = f0_.toInt := by rw [← c126.symm.trans c120]
            obtain ⟨x129, c130, rx129, tx129⟩ := hT.rda (lo := 0) (hi := 400) (i := (f0_.toInt).toNat) kM_at3 rfl rfl (by omega)
            have g122 : x129.toInt = x97.toInt + 1 := by have q := g122; simp only [c85, c126, c98, c130] at q; first | with_reducible exact q | omega
            have hO : OKW w117 f0_.toInt gb (((gd + 1) + 1) - 1) := OKW_put hO (by have q := hq121; rw [c85] at q; exact q) (by rw [c98]; omega) (fun x hx => by simp only [(show (5 : Int32).toInt = 5 by decide), (show (0 : Int32).toInt = 0 by decide)] at hx; exact okT_bin (by omega) (by omega) (by omega) (by omega)) (by omega) (by omega)
            refine lv_goto (tgt := 9) hx hb dX12_term_72 (by decide) ?_
            exact ih9 f9_0_1 x77 x129 H locs ls w117 (show 0 ≤ f9_0_1.toInt from r2) (show f9_0_1.toInt ≤ 400 from t16) (show 0 ≤ f0_.toInt from r21) (show f0_.toInt ≤ 5 from t22) (show 1 ≤ x77.toInt by first | with_reducible assumption | omega) (show x77.toInt ≤ 60 by first | with_reducible assumption | omega) (show 0 ≤ x129.toInt by first | with_reducible assumption | omega) (show x129.toInt ≤ 300 by first | with_reducible assumption | omega) (show 3 * x129.toInt + 11 ≤ 3 * f2_.toInt + 14 * (x77.toInt - f1_.toInt) by omega) (show f1_.toInt + 1 ≤ x77.toInt by omega) (show x129.toInt ≤ 300 by first | with_reducible assumption | omega) (show (60 - x77.toInt).toNat < n9 by first | exact tn_lt hm9 (by omega) (by omega) | omega) hw hT hF (OKW_cast hO (show ((gd + 1) + 1) - 1 = gd + 1 by first | exact Int.le_antisymm (by omega) (by omega) | omega)) c125 c126 c128 c130 hM (lv_sub hl [1] rfl)
        · have c34 : x32.toInt = (42 : Int) := wk_eq.mp c34
          replace hM := hM.neg (fun q => q c34)
          refine lv_iconst (v := 4) hx hb dX12_term_41 (by decide) ?_
          refine lv_goto (tgt := 46) hx hb dX12_term_42 (by decide) ?_
          refine lv_istore_n (lv' := [(1, .int 4), (0, .ref (ad 0))]) hx hb dX12_term_46 rfl hl (by decide) rfl (fun ls hl => ?_)
          refine lv_aload_n hx hb dX12_term_47 rfl (lv_at hl 1 rfl) ?_
          refine lv_dup hx hb dX12_term_48 rfl ?_
          refine tk_geti hC hK hw hT hinX12 kM_at0 (by decide) rfl 14 (by decide) (List.mem_cons_of_mem _ uw_19_18) rfl rfl dX12_term_49 (fun x131 c132 rx131 tx131 => ?_)
          refine wk_top f27_0_14 (c132.symm.trans c20) ?_
          replace hM := hM.rd (sI_at c20)
          refine lv_iconst (v := 1) hx hb dX12_term_52 (by decide) ?_
          refine lv_iadd hx hb dX12_term_53 ?_
          refine lv_topi (fun x133 ex133 => ?_)
          have ezx133 := ex133
          have ex133 : x133.toInt = f27_0_14.toInt + (1 : Int) := by rw [ex133]; exact wk_add (show (-2147483648) ≤ f27_0_14.toInt + (1 : Int) by omega) (show f27_0_14.toInt + (1 : Int) ≤ 2147483647 by omega)
          replace hM := hM.lt ex133.symm
          refine tk_puti hC hK hw hT hinX12 tyX12_ok nmX12 kM_at0 (by decide) rfl rfl 14 (by decide) (List.mem_cons_of_mem _ uw_19_18) rfl rfl rfl rfl (show 0 ≤ x133.toInt by first | with_reducible assumption | omega) (show x133.toInt ≤ 400 by first | with_reducible assumption | omega) dX12_term_54 (fun H locs w134 hw hT k136 c135 => ?_)
          replace hM := hM.wr (sI_up k136 c135)
          have hO := OKW_F1 k136 (by decide) (by decide) (by decide) (by decide) hO
          have hF := hF.put kM_at0 (k := 14) (by decide) k136
          have c137 := k136.gi (Or.inr (by decide)) c17
          have c138 := k136.gi (Or.inr (by decide)) c23
          have c139 := k136.gi (Or.inr (by decide)) c26
          have c140 := k136.gi (Or.inl (tk_ne kM_at3 kM_at0 (by decide))) c29
          have c141 := k136.gi (Or.inl (tk_ne kM_at1 kM_at0 (by decide))) c33
          refine lv_aload_n hx hb dX12_term_57 rfl (lv_at hl 1 rfl) ?_
          refine tk_Vi hC hK hw hT hA hE hSR kM_at0 (by decide) rfl (kz_X12_value_1 l adK adV dC dI cy ad B hB0 (Int.le_trans hB1 (by decide)) qr s1    w134 H.size hT f0_ c138 (show 0 ≤ f0_.toInt from r21) (show f0_.toInt ≤ 5 from t22) f9_0_18 c139 (show 0 ≤ f9_0_18.toInt from Int.le_trans (by decide) r24) (show f9_0_18.toInt ≤ 60 from t25) f9_3__f0__toInt_toNat c140 (show 0 ≤ f9_3__f0__toInt_toNat.toInt from r27) (show f9_3__f0__toInt_toNat.toInt ≤ 400 from Int.le_trans t28 (by decide)) (show f9_3__f0__toInt_toNat.toInt ≤ 399 from Int.le_trans t28 (by decide)) gb (gd + 1) (by omega) (by omega) (OKW_cast hO (show gd + 1 = gd + 1 from rfl))) (cwV 0 hC.2.2.2.2 uV_RX12_176 rfl rfl rfl (by decide +kernel) ⟨Nat.le_of_ble_eq_true rfl, Nat.le_of_ble_eq_true rfl⟩) rfl hl.1 rfl (Nat.le_of_ble_eq_true rfl) dX12_term_58 (fun r142 w144 H locs hp143 hw => ?_)
          obtain ⟨hT, k145, hv179, hg178⟩ := hp143
          have hF := hF.tr k145 (by decide)
          have c180 := k145.gi kM_at0 (by decide) c137
          have c181 := k145.gi kM_at0 (by decide) c138
          have c182 := k145.gi kM_at1 rfl c141
          rcases hg178 with ⟨rfl, ⟨x146, c147, rx146, tx146⟩, ⟨x148, c149, rx148, tx148⟩, ⟨x150, c151, rx150, tx150⟩, hq152⟩ | ⟨rfl, ⟨x153, c154, rx153, tx153⟩, ⟨x155, c156, rx155, tx155⟩, ⟨x157, c158, rx157, tx157⟩, hq159⟩ | ⟨rfl, ⟨x160, c161, rx160, tx160⟩, ⟨x162, c163, rx162, tx162⟩, ⟨x164, c165, rx164, tx164⟩, hq166, g167, g168⟩ | ⟨rfl, ⟨x169, c170, rx169, tx169⟩, ⟨x171, c172, rx171, tx171⟩, ⟨x173, c174, rx173, tx173⟩, hq175, g176, g177⟩
          · replace hM := hM.call (r' := 0) hv179 (by decide)
            have ex146 : x146.toInt = f9_0_1.toInt := by rw [← c180.symm.trans c147]
            have ex150 : x150.toInt = f0_.toInt := by rw [← c181.symm.trans c151]
            obtain ⟨x183, c184, rx183, tx183⟩ := hT.rda (lo := 0) (hi := 400) (i := (f0_.toInt).toNat) kM_at3 rfl rfl (by omega)
            obtain ⟨x185, c186, rx185, tx185⟩ := hT.rdi (lo := 0) (hi := 60) (k := 18) kM_at0 (by decide) rfl
            have hR := hq152
            refine lv_if_ne (tgt := 66) hx hb dX12_term_61 (by decide) (fun c => absurd (by decide) c) (fun _ => ?_)
            replace hM := hM.neg (by decide)
            refine lv_iconst (v := 0) hx hb dX12_term_64 (by decide) ?_
            exact tk_zret hC hr rfl hlocks hK ⟨hT, hF, hM.ret (by decide), (Or.inl ⟨rfl, ⟨f9_0_1, c180, (show 1 ≤ f9_0_1.toInt from r15), (show f9_0_1.toInt ≤ 400 from t16)⟩, ⟨x148, c149, (show 1 ≤ x148.toInt by first | with_reducible assumption | omega), (show x148.toInt ≤ 3205 by first | with_reducible assumption | omega)⟩, ⟨f0_, c181, (show 0 ≤ f0_.toInt from r21), (show f0_.toInt ≤ 5 from t22)⟩, hR⟩)⟩ hw dX12_term_65
          · replace hM := hM.call (r' := 0) hv179 (by decide)
            have ex153 : x153.toInt = f9_0_1.toInt := by rw [← c180.symm.trans c154]
            have ex157 : x157.toInt = f0_.toInt := by rw [← c181.symm.trans c158]
            obtain ⟨x187, c188, rx187, tx187⟩ := hT.rda (lo := 0) (hi := 400) (i := (f0_.toInt).toNat) kM_at3 rfl rfl (by omega)
            obtain ⟨x189, c190, rx189, tx189⟩ := hT.rdi (lo := 0) (hi := 60) (k := 18) kM_at0 (by decide) rfl
            have hR := hq159
            refine lv_if_ne (tgt := 66) hx hb dX12_term_61 (by decide) (fun c => absurd (by decide) c) (fun _ => ?_)
            replace hM := hM.neg (by decide)
            refine lv_iconst (v := 0) hx hb dX12_term_64 (by decide) ?_
            exact tk_zret hC hr rfl hlocks hK ⟨hT, hF, hM.ret (by decide), (Or.inl ⟨rfl, ⟨f9_0_1, c180, (show 1 ≤ f9_0_1.toInt from r15), (show f9_0_1.toInt ≤ 400 from t16)⟩, ⟨x155, c156, (show 1 ≤ x155.toInt by first | with_reducible assumption | omega), (show x155.toInt ≤ 3205 by first | with_reducible assumption | omega)⟩, ⟨f0_, c181, (show 0 ≤ f0_.toInt from r21), (show f0_.toInt ≤ 5 from t22)⟩, hR⟩)⟩ hw dX12_term_65
          · replace hM := hM.call (r' := 1) hv179 (by decide)
            have ex160 : x160.toInt = f9_0_1.toInt := by rw [← c180.symm.trans c161]
            have ex162 : x162.toInt = f0_.toInt := by rw [← c181.symm.trans c163]
            obtain ⟨x191, c192, rx191, tx191⟩ := hT.rda (lo := 0) (hi := 400) (i := (f0_.toInt).toNat) kM_at3 rfl rfl (by omega)
            have g167 : x191.toInt = f9_3__f0__toInt_toNat.toInt + 1 := by have q := g167; simp only [c138, c181, c140, c192] at q; first | with_reducible exact q | omega
            have g168 : x164.toInt = f9_0_18.toInt + 1 := by have q := g168; simp only [c138, c181, c139, c165] at q; first | with_reducible exact q | omega
            have hO : OKW w144 f0_.toInt gb ((gd + 1) + 1) := by have q := hq166; exact OKW_cast q (by omega)
            refine lv_if_ne (tgt := 66) hx hb dX12_term_61 (by decide) (fun _ => ?_) (fun c => absurd c (by decide))
            replace hM := hM.pos (by decide)
            refine lv_aload_n hx hb dX12_term_66 rfl (lv_at hl 1 rfl) ?_
            refine lv_iload_n hx hb dX12_term_67 rfl (lv_at hl 0 rfl) ?_
            refine lv_iconst (v := 0) hx hb dX12_term_68 (by decide) ?_
            refine tk_Vv hC hK hw hT hA hE hSR kM_at0 (by decide) rfl (kz_X12_puts_1 l adK adV dC dI cy ad B hB0 (Int.le_trans hB1 (by decide)) qr s1   4 (by decide) (by decide) 0 (by decide) (by decide) w144 H.size hT f0_ c181 (show 0 ≤ f0_.toInt from r21) (show f0_.toInt ≤ 5 from t22) x191 c192 (show 0 ≤ x191.toInt by first | with_reducible assumption | omega) (show x191.toInt ≤ 400 by first | with_reducible assumption | omega) (show x191.toInt ≤ 399 by first | with_reducible assumption | omega)) (cwV 2 hC.2.2.2.2 uV_RX12_162 rfl rfl rfl (by decide +kernel) ⟨Nat.le_of_ble_eq_true rfl, Nat.le_of_ble_eq_true rfl⟩) rfl hl.1 rfl (Nat.le_of_ble_eq_true rfl) dX12_term_69 (fun w197 H locs hp196 hw => ?_)
            obtain ⟨hT, k198, hv204, hg203⟩ := hp196
            try simp only [show (4 : Int32).toInt = 4 by decide] at hv204
            try simp only [show (0 : Int32).toInt = 0 by decide] at hv204
            have hF := hF.tr k198 (by decide)
            have c205 := k198.gi kM_at0 (by decide) c180
            have c206 := k198.gi kM_at0 (by decide) c181
            have c207 := k198.gi kM_at1 rfl c182
            have c208 := k198.gi kM_at0 (by decide) c165
            obtain ⟨⟨x199, c200, rx199, tx199⟩, hq201, g202⟩ := hg203
            replace hM := hM.call hv204 rfl
            have ex199 : x199.toInt = f0_.toInt := by rw [← c206.symm.trans c200]
            obtain ⟨x209, c210, rx209, tx209⟩ := hT.rda (lo := 0) (hi := 400) (i := (f0_.toInt).toNat) kM_at3 rfl rfl (by omega)
            have g202 : x209.toInt = x191.toInt + 1 := by have q := g202; simp only [c181, c206, c192, c210] at q; first | with_reducible exact q | omega
            have hO : OKW w197 f0_.toInt gb (((gd + 1) + 1) - 1) := OKW_put hO (by have q := hq201; rw [c181] at q; exact q) (by rw [c192]; omega) (fun x hx => by simp only [(show (4 : Int32).toInt = 4 by decide), (show (0 : Int32).toInt = 0 by decide)] at hx; exact okT_bin (by omega) (by omega) (by omega) (by omega)) (by omega) (by omega)
            refine lv_goto (tgt := 9) hx hb dX12_term_72 (by decide) ?_
            exact ih9 f9_0_1 x164 x209 H locs ls w197 (show 0 ≤ f9_0_1.toInt from r2) (show f9_0_1.toInt ≤ 400 from t16) (show 0 ≤ f0_.toInt from r21) (show f0_.toInt ≤ 5 from t22) (show 1 ≤ x164.toInt by first | with_reducible assumption | omega) (show x164.toInt ≤ 60 by first | with_reducible assumption | omega) (show 0 ≤ x209.toInt by first | with_reducible assumption | omega) (show x209.toInt ≤ 300 by first | with_reducible assumption | omega) (show 3 * x209.toInt + 11 ≤ 3 * f2_.toInt + 14 * (x164.toInt - f1_.toInt) by omega) (show f1_.toInt + 1 ≤ x164.toInt by omega) (show x209.toInt ≤ 300 by first | with_reducible assumption | omega) (show (60 - x164.toInt).toNat < n9 by first | exact tn_lt hm9 (by omega) (by omega) | omega) hw hT hF (OKW_cast hO (show ((gd + 1) + 1) - 1 = gd + 1 by first | exact Int.le_antisymm (by omega) (by omega) | omega)) c205 c206 c208 c210 hM (lv_sub hl [1] rfl)
          · replace hM := hM.call (r' := 1) hv179 (by decide)
            have ex169 : x169.toInt = f9_0_1.toInt := by rw [← c180.symm.trans c170]
            have ex171 : x171.toInt = f0_.toInt := by rw [← c181.symm.trans c172]
            obtain ⟨x193, c194, rx193, tx193⟩ := hT.rda (lo := 0) (hi := 400) (i := (f0_.toInt).toNat) kM_at3 rfl rfl (by omega)
            have g176 : x193.toInt = f9_3__f0__toInt_toNat.toInt + 1 := by have q := g176; simp only [c138, c181, c140, c194] at q; first | with_reducible exact q | omega
            have g177 : x173.toInt = f9_0_18.toInt + 1 := by have q := g177; simp only [c138, c181, c139, c174] at q; first | with_reducible exact q | omega
            have hO : OKW w144 f0_.toInt gb ((gd + 1) + 1) := by have q := hq175; exact OKW_cast q (by omega)
            refine lv_if_ne (tgt := 66) hx hb dX12_term_61 (by decide) (fun _ => ?_) (fun c => absurd c (by decide))
            replace hM := hM.pos (by decide)
            refine lv_aload_n hx hb dX12_term_66 rfl (lv_at hl 1 rfl) ?_
            refine lv_iload_n hx hb dX12_term_67 rfl (lv_at hl 0 rfl) ?_
            refine lv_iconst (v := 0) hx hb dX12_term_68 (by decide) ?_
            refine tk_Vv hC hK hw hT hA hE hSR kM_at0 (by decide) rfl (kz_X12_puts_1 l adK adV dC dI cy ad B hB0 (Int.le_trans hB1 (by decide)) qr s1   4 (by decide) (by decide) 0 (by decide) (by decide) w144 H.size hT f0_ c181 (show 0 ≤ f0_.toInt from r21) (show f0_.toInt ≤ 5 from t22) x193 c194 (show 0 ≤ x193.toInt by first | with_reducible assumption | omega) (show x193.toInt ≤ 400 by first | with_reducible assumption | omega) (show x193.toInt ≤ 399 by first | with_reducible assumption | omega)) (cwV 2 hC.2.2.2.2 uV_RX12_162 rfl rfl rfl (by decide +kernel) ⟨Nat.le_of_ble_eq_true rfl, Nat.le_of_ble_eq_true rfl⟩) rfl hl.1 rfl (Nat.le_of_ble_eq_true rfl) dX12_term_69 (fun w213 H locs hp212 hw => ?_)
            obtain ⟨hT, k214, hv220, hg219⟩ := hp212
            try simp only [show (4 : Int32).toInt = 4 by decide] at hv220
            try simp only [show (0 : Int32).toInt = 0 by decide] at hv220
            have hF := hF.tr k214 (by decide)
            have c221 := k214.gi kM_at0 (by decide) c180
            have c222 := k214.gi kM_at0 (by decide) c181
            have c223 := k214.gi kM_at1 rfl c182
            have c224 := k214.gi kM_at0 (by decide) c174
            obtain ⟨⟨x215, c216, rx215, tx215⟩, hq217, g218⟩ := hg219
            replace hM := hM.call hv220 rfl
            have ex215 : x215.toInt = f0_.toInt := by rw [← c222.symm.trans c216]
            obtain ⟨x225, c226, rx225, tx225⟩ := hT.rda (lo := 0) (hi := 400) (i := (f0_.toInt).toNat) kM_at3 rfl rfl (by omega)
            have g218 : x225.toInt = x193.toInt + 1 := by have q := g218; simp only [c181, c222, c194, c226] at q; first | with_reducible exact q | omega
            have hO : OKW w213 f0_.toInt gb (((gd + 1) + 1) - 1) := OKW_put hO (by have q := hq217; rw [c181] at q; exact q) (by rw [c194]; omega) (fun x hx => by simp only [(show (4 : Int32).toInt = 4 by decide), (show (0 : Int32).toInt = 0 by decide)] at hx; exact okT_bin (by omega) (by omega) (by omega) (by omega)) (by omega) (by omega)
            refine lv_goto (tgt := 9) hx hb dX12_term_72 (by decide) ?_
            exact ih9 f9_0_1 x173 x225 H locs ls w213 (show 0 ≤ f9_0_1.toInt from r2) (show f9_0_1.toInt ≤ 400 from t16) (show 0 ≤ f0_.toInt from r21) (show f0_.toInt ≤ 5 from t22) (show 1 ≤ x173.toInt by first | with_reducible assumption | omega) (show x173.toInt ≤ 60 by first | with_reducible assumption | omega) (show 0 ≤ x225.toInt by first | with_reducible assumption | omega) (show x225.toInt ≤ 300 by first | with_reducible assumption | omega) (show 3 * x225.toInt + 11 ≤ 3 * f2_.toInt + 14 * (x173.toInt - f1_.toInt) by omega) (show f1_.toInt + 1 ≤ x173.toInt by omega) (show x225.toInt ≤ 300 by first | with_reducible assumption | omega) (show (60 - x173.toInt).toNat < n9 by first | exact tn_lt hm9 (by omega) (by omega) | omega) hw hT hF (OKW_cast hO (show ((gd + 1) + 1) - 1 = gd + 1 by first | exact Int.le_antisymm (by omega) (by omega) | omega)) c221 c222 c224 c226 hM (lv_sub hl [1] rfl)
      replace hM := hM.suc (fun _ => e_X12_term_9)
      refine lv_aload_n hx hb dX12_term_9 rfl (lv_at hl 0 rfl) ?_
      obtain ⟨x227, c228, rx227, tx227⟩ := hT.rdi (lo := 0) (hi := 400) (k := 14) kM_at0 (by decide) rfl
      refine tk_Vi hC hK hw hT hA hE hSR kM_at0 (by decide) rfl (kz_X12_see_1 l adK adV dC dI cy ad B hB0 (Int.le_trans hB1 (by decide)) qr s1    w1 H.size hT x227 c228 (show 0 ≤ x227.toInt by first | with_reducible assumption | omega) (show x227.toInt ≤ 400 by first | with_reducible assumption | omega)) (cwV 0 hC.2.2.2.2 uV_RX12_97 rfl rfl rfl (by decide +kernel) ⟨Nat.le_of_ble_eq_true rfl, Nat.le_of_ble_eq_true rfl⟩) rfl hl.1 rfl (Nat.le_of_ble_eq_true rfl) dX12_term_10 (fun r229 w231 H locs hp230 hw => ?_)
      obtain ⟨hT, k232, hv250, hg249⟩ := hp230
      have hO := OKW_FE k232 (fun _ => rfl) (fun _ => rfl) (fun _ => rfl) (fun _ => rfl) hO
      have hF := hF.tr k232 (by decide)
      have c251 := k232.gi kM_at0 (by decide) c4
      have c252 := k232.gi kM_at0 (by decide) c7
      have c253 := k232.gi kM_at0 (by decide) c10
      have c254 := k232.gi kM_at3 rfl c13
      rcases hg249 with ⟨g233, g234, ⟨x235, c236, rx235, tx235⟩, ⟨x237, c238, rx237, tx237⟩, g239, g240⟩ | ⟨rfl, ⟨x241, c242, rx241, tx241⟩, ⟨x243, c244, rx243, tx243⟩, g245⟩ | ⟨rfl, ⟨x246, c247, rx246, tx246⟩, g248⟩
      · replace hM := hM.call hv250 rfl
        have ex235 : x235.toInt = f9_0_1.toInt := by rw [← c251.symm.trans c236]
        have g239 : (gi w231 1 (x237.toInt).toNat).toInt ≠ 32 := by have q := g239; simp only [c7, c252, c238] at q; first | with_reducible exact q | omega
        have g240 : (x237.toInt = x227.toInt ∨ (gi w1 1 (x227.toInt).toNat).toInt = 32) := by have q := g240; simp only [c7, c252, c228, c238] at q; first | with_reducible exact q | omega
        refine lv_bipush (v := 42) hx hb dX12_term_13 (by decide) ?_
        refine lv_icmp_eq (tgt := 27) hx hb dX12_term_15 (by decide) (fun c257 => ?_) (fun c257 => ?_)
        · have c257 : r229.toInt = (42 : Int) := wk_eq.mp c257
          replace hM := hM.pos c257
          exact J27 x237 H locs ls w231 (show 1 ≤ f9_0_1.toInt by first | with_reducible assumption | omega) (show f9_0_1.toInt ≤ 400 from t3) (show 0 ≤ x237.toInt by first | with_reducible assumption | omega) (show x237.toInt ≤ 399 by first | with_reducible assumption | omega) (show 0 ≤ f0_.toInt from r5) (show f0_.toInt ≤ 5 from t6) (show 1 ≤ f9_0_18.toInt from r8) (show f9_0_18.toInt ≤ 60 from t9) (show 0 ≤ f9_3__f0__toInt_toNat.toInt from r11) (show f9_3__f0__toInt_toNat.toInt ≤ 300 from t12) (show 3 * f9_3__f0__toInt_toNat.toInt + 11 ≤ 3 * f2_.toInt + 14 * (f9_0_18.toInt - f1_.toInt) by omega) (show f1_.toInt + 1 ≤ f9_0_18.toInt by omega) (show f9_3__f0__toInt_toNat.toInt ≤ 300 from t12)  hw hT hF (OKW_cast hO (show gd + 1 = gd + 1 from rfl)) c251 c238 c252 c253 c254 hM (lv_sub hl [0] rfl)
        · have c257 : ¬ r229.toInt = (42 : Int) := wk_eqF c257
          replace hM := hM.neg c257
          refine lv_aload_n hx hb dX12_term_18 rfl (lv_at hl 0 rfl) ?_
          refine tk_Vi hC hK hw hT hA hE hSR kM_at0 (by decide) rfl (kz_X12_see_1 l adK adV dC dI cy ad B hB0 (Int.le_trans hB1 (by decide)) qr s1    w231 H.size hT x237 c238 (show 0 ≤ x237.toInt by first | with_reducible assumption | omega) (show x237.toInt ≤ 400 by first | with_reducible assumption | omega)) (cwV 0 hC.2.2.2.2 uV_RX12_97 rfl rfl rfl (by decide +kernel) ⟨Nat.le_of_ble_eq_true rfl, Nat.le_of_ble_eq_true rfl⟩) rfl hl.1 rfl (Nat.le_of_ble_eq_true rfl) dX12_term_19 (fun r258 w260 H locs hp259 hw => ?_)
          obtain ⟨hT, k261, hv279, hg278⟩ := hp259
          have hO := OKW_FE k261 (fun _ => rfl) (fun _ => rfl) (fun _ => rfl) (fun _ => rfl) hO
          have hF := hF.tr k261 (by decide)
          have c280 := k261.gi kM_at0 (by decide) c251
          have c281 := k261.gi kM_at0 (by decide) c252
          have c282 := k261.gi kM_at0 (by decide) c253
          have c283 := k261.gi kM_at3 rfl c254
          rcases hg278 with ⟨g262, g263, ⟨x264, c265, rx264, tx264⟩, ⟨x266, c267, rx266, tx266⟩, g268, g269⟩ | ⟨rfl, ⟨x270, c271, rx270, tx270⟩, ⟨x272, c273, rx272, tx272⟩, g274⟩ | ⟨rfl, ⟨x275, c276, rx275, tx275⟩, g277⟩
          · replace hM := hM.call hv279 rfl
            have ex264 : x264.toInt = f9_0_1.toInt := by rw [← c280.symm.trans c265]
            have g268 : (gi w260 1 (x266.toInt).toNat).toInt ≠ 32 := by have q := g268; simp only [c252, c281, c267] at q; first | with_reducible exact q | omega
            have g269 : (x266.toInt = x237.toInt ∨ (gi w231 1 (x237.toInt).toNat).toInt = 32) := by have q := g269; simp only [c252, c281, c238, c267] at q; first | with_reducible exact q | omega
            refine lv_bipush (v := 47) hx hb dX12_term_22 (by decide) ?_
            refine lv_icmp_ne (tgt := 75) hx hb dX12_term_24 (by decide) (fun c286 => ?_) (fun c286 => ?_)
            · have c286 : ¬ r258.toInt = (47 : Int) := wk_eqF c286
              replace hM := hM.pos c286
              refine lv_iconst (v := 1) hx hb dX12_term_75 (by decide) ?_
              exact tk_zret hC hr rfl hlocks hK ⟨hT, hF, hM.ret (by decide), (Or.inr (Or.inr (Or.inl ⟨rfl, ⟨f9_0_1, c280, (show 1 ≤ f9_0_1.toInt by first | with_reducible assumption | omega), (show f9_0_1.toInt ≤ 400 from t3)⟩, ⟨f0_, c281, (show 0 ≤ f0_.toInt from r5), (show f0_.toInt ≤ 5 from t6)⟩, ⟨f9_0_18, c282, (show 1 ≤ f9_0_18.toInt from r8), (show f9_0_18.toInt ≤ 60 from t9)⟩, (OKW_cast hO (by omega)), (by simp only [c281, cf0_, cf2_, c283, cf1_, c282]; omega), (by simp only [c281, cf0_, cf1_, c282]; omega)⟩)))⟩ hw dX12_term_76
            · have c286 : r258.toInt = (47 : Int) := wk_eq.mp c286
              replace hM := hM.neg (fun q => q c286)
              exact J27 x266 H locs ls w260 (show 1 ≤ f9_0_1.toInt by first | with_reducible assumption | omega) (show f9_0_1.toInt ≤ 400 from t3) (show 0 ≤ x266.toInt by first | with_reducible assumption | omega) (show x266.toInt ≤ 399 by first | with_reducible assumption | omega) (show 0 ≤ f0_.toInt from r5) (show f0_.toInt ≤ 5 from t6) (show 1 ≤ f9_0_18.toInt from r8) (show f9_0_18.toInt ≤ 60 from t9) (show 0 ≤ f9_3__f0__toInt_toNat.toInt from r11) (show f9_3__f0__toInt_toNat.toInt ≤ 300 from t12) (show 3 * f9_3__f0__toInt_toNat.toInt + 11 ≤ 3 * f2_.toInt + 14 * (f9_0_18.toInt - f1_.toInt) by omega) (show f1_.toInt + 1 ≤ f9_0_18.toInt by omega) (show f9_3__f0__toInt_toNat.toInt ≤ 300 from t12)  hw hT hF (OKW_cast hO (show gd + 1 = gd + 1 from rfl)) c280 c267 c281 c282 c283 hM (lv_sub hl [0] rfl)
          · replace hM := hM.call (r' := (-1)) hv279 (by decide)
            have ex270 : x270.toInt = f9_0_1.toInt := by rw [← c280.symm.trans c271]
            have g274 : (x272.toInt = x237.toInt ∨ (gi w231 1 (x237.toInt).toNat).toInt = 32) := by have q := g274; simp only [c252, c281, c238, c273] at q; first | with_reducible exact q | omega
            refine lv_bipush (v := 47) hx hb dX12_term_22 (by decide) ?_
            refine lv_icmp_ne (tgt := 75) hx hb dX12_term_24 (by decide) (fun _ => ?_) (fun c => absurd c (by decide))
            replace hM := hM.pos (by decide)
            refine lv_iconst (v := 1) hx hb dX12_term_75 (by decide) ?_
            exact tk_zret hC hr rfl hlocks hK ⟨hT, hF, hM.ret (by decide), (Or.inr (Or.inr (Or.inl ⟨rfl, ⟨f9_0_1, c280, (show 1 ≤ f9_0_1.toInt by first | with_reducible assumption | omega), (show f9_0_1.toInt ≤ 400 from t3)⟩, ⟨f0_, c281, (show 0 ≤ f0_.toInt from r5), (show f0_.toInt ≤ 5 from t6)⟩, ⟨f9_0_18, c282, (show 1 ≤ f9_0_18.toInt from r8), (show f9_0_18.toInt ≤ 60 from t9)⟩, (OKW_cast hO (by omega)), (by simp only [c281, cf0_, cf2_, c283, cf1_, c282]; omega), (by simp only [c281, cf0_, cf1_, c282]; omega)⟩)))⟩ hw dX12_term_76
          · replace hM := hM.call (r' := (-1)) hv279 (by decide)
            have ex275 : x275.toInt = f9_0_1.toInt := by rw [← c280.symm.trans c276]
            obtain ⟨x284, c285, rx284, tx284⟩ := hT.rdi (lo := 0) (hi := 400) (k := 14) kM_at0 (by decide) rfl
            have g277 : (x284.toInt = x237.toInt ∨ (gi w231 1 (x237.toInt).toNat).toInt = 32) := by have q := g277; simp only [c252, c281, c238, c285] at q; first | with_reducible exact q | omega
            refine lv_bipush (v := 47) hx hb dX12_term_22 (by decide) ?_
            refine lv_icmp_ne (tgt := 75) hx hb dX12_term_24 (by decide) (fun _ => ?_) (fun c => absurd c (by decide))
            replace hM := hM.pos (by decide)
            refine lv_iconst (v := 1) hx hb dX12_term_75 (by decide) ?_
            exact tk_zret hC hr rfl hlocks hK ⟨hT, hF, hM.ret (by decide), (Or.inr (Or.inr (Or.inl ⟨rfl, ⟨f9_0_1, c280, (show 1 ≤ f9_0_1.toInt by first | with_reducible assumption | omega), (show f9_0_1.toInt ≤ 400 from t3)⟩, ⟨f0_, c281, (show 0 ≤ f0_.toInt from r5), (show f0_.toInt ≤ 5 from t6)⟩, ⟨f9_0_18, c282, (show 1 ≤ f9_0_18.toInt from r8), (show f9_0_18.toInt ≤ 60 from t9)⟩, (OKW_cast hO (by omega)), (by simp only [c281, cf0_, cf2_, c283, cf1_, c282]; omega), (by simp only [c281, cf0_, cf1_, c282]; omega)⟩)))⟩ hw dX12_term_76
      · replace hM := hM.call (r' := (-1)) hv250 (by decide)
        have ex241 : x241.toInt = f9_0_1.toInt := by rw [← c251.symm.trans c242]
        have g245 : (x243.toInt = x227.toInt ∨ (gi w1 1 (x227.toInt).toNat).toInt = 32) := by have q := g245; simp only [c7, c252, c228, c244] at q; first | with_reducible exact q | omega
        refine lv_bipush (v := 42) hx hb dX12_term_13 (by decide) ?_
        refine lv_icmp_eq (tgt := 27) hx hb dX12_term_15 (by decide) (fun c => absurd c (by decide)) (fun _ => ?_)
        replace hM := hM.neg (by decide)
        refine lv_aload_n hx hb dX12_term_18 rfl (lv_at hl 0 rfl) ?_
        refine tk_Vi hC hK hw hT hA hE hSR kM_at0 (by decide) rfl (kz_X12_see_1 l adK adV dC dI cy ad B hB0 (Int.le_trans hB1 (by decide)) qr s1    w231 H.size hT x243 c244 (show 0 ≤ x243.toInt by first | with_reducible assumption | omega) (show x243.toInt ≤ 400 by first | with_reducible assumption | omega)) (cwV 0 hC.2.2.2.2 uV_RX12_97 rfl rfl rfl (by decide +kernel) ⟨Nat.le_of_ble_eq_true rfl, Nat.le_of_ble_eq_true rfl⟩) rfl hl.1 rfl (Nat.le_of_ble_eq_true rfl) dX12_term_19 (fun r287 w289 H locs hp288 hw => ?_)
        obtain ⟨hT, k290, hv308, hg307⟩ := hp288
        have hO := OKW_FE k290 (fun _ => rfl) (fun _ => rfl) (fun _ => rfl) (fun _ => rfl) hO
        have hF := hF.tr k290 (by decide)
        have c309 := k290.gi kM_at0 (by decide) c251
        have c310 := k290.gi kM_at0 (by decide) c252
        have c311 := k290.gi kM_at0 (by decide) c253
        have c312 := k290.gi kM_at3 rfl c254
        rcases hg307 with ⟨g291, g292, ⟨x293, c294, rx293, tx293⟩, ⟨x295, c296, rx295, tx295⟩, g297, g298⟩ | ⟨rfl, ⟨x299, c300, rx299, tx299⟩, ⟨x301, c302, rx301, tx301⟩, g303⟩ | ⟨rfl, ⟨x304, c305, rx304, tx304⟩, g306⟩
        · replace hM := hM.call hv308 rfl
          have ex293 : x293.toInt = f9_0_1.toInt := by rw [← c309.symm.trans c294]
          have g297 : (gi w289 1 (x295.toInt).toNat).toInt ≠ 32 := by have q := g297; simp only [c252, c310, c296] at q; first | with_reducible exact q | omega
          have g298 : (x295.toInt = x243.toInt ∨ (gi w231 1 (x243.toInt).toNat).toInt = 32) := by have q := g298; simp only [c252, c310, c244, c296] at q; first | with_reducible exact q | omega
          refine lv_bipush (v := 47) hx hb dX12_term_22 (by decide) ?_
          refine lv_icmp_ne (tgt := 75) hx hb dX12_term_24 (by decide) (fun c315 => ?_) (fun c315 => ?_)
          · have c315 : ¬ r287.toInt = (47 : Int) := wk_eqF c315
            replace hM := hM.pos c315
            refine lv_iconst (v := 1) hx hb dX12_term_75 (by decide) ?_
            exact tk_zret hC hr rfl hlocks hK ⟨hT, hF, hM.ret (by decide), (Or.inr (Or.inr (Or.inl ⟨rfl, ⟨f9_0_1, c309, (show 1 ≤ f9_0_1.toInt by first | with_reducible assumption | omega), (show f9_0_1.toInt ≤ 400 from t3)⟩, ⟨f0_, c310, (show 0 ≤ f0_.toInt from r5), (show f0_.toInt ≤ 5 from t6)⟩, ⟨f9_0_18, c311, (show 1 ≤ f9_0_18.toInt from r8), (show f9_0_18.toInt ≤ 60 from t9)⟩, (OKW_cast hO (by omega)), (by simp only [c310, cf0_, cf2_, c312, cf1_, c311]; omega), (by simp only [c310, cf0_, cf1_, c311]; omega)⟩)))⟩ hw dX12_term_76
          · have c315 : r287.toInt = (47 : Int) := wk_eq.mp c315
            replace hM := hM.neg (fun q => q c315)
            exact J27 x295 H locs ls w289 (show 1 ≤ f9_0_1.toInt by first | with_reducible assumption | omega) (show f9_0_1.toInt ≤ 400 from t3) (show 0 ≤ x295.toInt by first | with_reducible assumption | omega) (show x295.toInt ≤ 399 by first | with_reducible assumption | omega) (show 0 ≤ f0_.toInt from r5) (show f0_.toInt ≤ 5 from t6) (show 1 ≤ f9_0_18.toInt from r8) (show f9_0_18.toInt ≤ 60 from t9) (show 0 ≤ f9_3__f0__toInt_toNat.toInt from r11) (show f9_3__f0__toInt_toNat.toInt ≤ 300 from t12) (show 3 * f9_3__f0__toInt_toNat.toInt + 11 ≤ 3 * f2_.toInt + 14 * (f9_0_18.toInt - f1_.toInt) by omega) (show f1_.toInt + 1 ≤ f9_0_18.toInt by omega) (show f9_3__f0__toInt_toNat.toInt ≤ 300 from t12)  hw hT hF (OKW_cast hO (show gd + 1 = gd + 1 from rfl)) c309 c296 c310 c311 c312 hM (lv_sub hl [0] rfl)
        · replace hM := hM.call (r' := (-1)) hv308 (by decide)
          have ex299 : x299.toInt = f9_0_1.toInt := by rw [← c309.symm.trans c300]
          have g303 : (x301.toInt = x243.toInt ∨ (gi w231 1 (x243.toInt).toNat).toInt = 32) := by have q := g303; simp only [c252, c310, c244, c302] at q; first | with_reducible exact q | omega
          refine lv_bipush (v := 47) hx hb dX12_term_22 (by decide) ?_
          refine lv_icmp_ne (tgt := 75) hx hb dX12_term_24 (by decide) (fun _ => ?_) (fun c => absurd c (by decide))
          replace hM := hM.pos (by decide)
          refine lv_iconst (v := 1) hx hb dX12_term_75 (by decide) ?_
          exact tk_zret hC hr rfl hlocks hK ⟨hT, hF, hM.ret (by decide), (Or.inr (Or.inr (Or.inl ⟨rfl, ⟨f9_0_1, c309, (show 1 ≤ f9_0_1.toInt by first | with_reducible assumption | omega), (show f9_0_1.toInt ≤ 400 from t3)⟩, ⟨f0_, c310, (show 0 ≤ f0_.toInt from r5), (show f0_.toInt ≤ 5 from t6)⟩, ⟨f9_0_18, c311, (show 1 ≤ f9_0_18.toInt from r8), (show f9_0_18.toInt ≤ 60 from t9)⟩, (OKW_cast hO (by omega)), (by simp only [c310, cf0_, cf2_, c312, cf1_, c311]; omega), (by simp only [c310, cf0_, cf1_, c311]; omega)⟩)))⟩ hw dX12_term_76
        · replace hM := hM.call (r' := (-1)) hv308 (by decide)
          have ex304 : x304.toInt = f9_0_1.toInt := by rw [← c309.symm.trans c305]
          obtain ⟨x313, c314, rx313, tx313⟩ := hT.rdi (lo := 0) (hi := 400) (k := 14) kM_at0 (by decide) rfl
          have g306 : (x313.toInt = x243.toInt ∨ (gi w231 1 (x243.toInt).toNat).toInt = 32) := by have q := g306; simp only [c252, c310, c244, c314] at q; first | with_reducible exact q | omega
          refine lv_bipush (v := 47) hx hb dX12_term_22 (by decide) ?_
          refine lv_icmp_ne (tgt := 75) hx hb dX12_term_24 (by decide) (fun _ => ?_) (fun c => absurd c (by decide))
          replace hM := hM.pos (by decide)
          refine lv_iconst (v := 1) hx hb dX12_term_75 (by decide) ?_
          exact tk_zret hC hr rfl hlocks hK ⟨hT, hF, hM.ret (by decide), (Or.inr (Or.inr (Or.inl ⟨rfl, ⟨f9_0_1, c309, (show 1 ≤ f9_0_1.toInt by first | with_reducible assumption | omega), (show f9_0_1.toInt ≤ 400 from t3)⟩, ⟨f0_, c310, (show 0 ≤ f0_.toInt from r5), (show f0_.toInt ≤ 5 from t6)⟩, ⟨f9_0_18, c311, (show 1 ≤ f9_0_18.toInt from r8), (show f9_0_18.toInt ≤ 60 from t9)⟩, (OKW_cast hO (by omega)), (by simp only [c310, cf0_, cf2_, c312, cf1_, c311]; omega), (by simp only [c310, cf0_, cf1_, c311]; omega)⟩)))⟩ hw dX12_term_76
      · replace hM := hM.call (r' := (-1)) hv250 (by decide)
        have ex246 : x246.toInt = f9_0_1.toInt := by rw [← c251.symm.trans c247]
        obtain ⟨x255, c256, rx255, tx255⟩ := hT.rdi (lo := 0) (hi := 400) (k := 14) kM_at0 (by decide) rfl
        have g248 : (x255.toInt = x227.toInt ∨ (gi w1 1 (x227.toInt).toNat).toInt = 32) := by have q := g248; simp only [c7, c252, c228, c256] at q; first | with_reducible exact q | omega
        refine lv_bipush (v := 42) hx hb dX12_term_13 (by decide) ?_
        refine lv_icmp_eq (tgt := 27) hx hb dX12_term_15 (by decide) (fun c => absurd c (by decide)) (fun _ => ?_)
        replace hM := hM.neg (by decide)
        refine lv_aload_n hx hb dX12_term_18 rfl (lv_at hl 0 rfl) ?_
        refine tk_Vi hC hK hw hT hA hE hSR kM_at0 (by decide) rfl (kz_X12_see_1 l adK adV dC dI cy ad B hB0 (Int.le_trans hB1 (by decide)) qr s1    w231 H.size hT x255 c256 (show 0 ≤ x255.toInt by first | with_reducible assumption | omega) (show x255.toInt ≤ 400 by first | with_reducible assumption | omega)) (cwV 0 hC.2.2.2.2 uV_RX12_97 rfl rfl rfl (by decide +kernel) ⟨Nat.le_of_ble_eq_true rfl, Nat.le_of_ble_eq_true rfl⟩) rfl hl.1 rfl (Nat.le_of_ble_eq_true rfl) dX12_term_19 (fun r316 w318 H locs hp317 hw => ?_)
        obtain ⟨hT, k319, hv337, hg336⟩ := hp317
        have hO := OKW_FE k319 (fun _ => rfl) (fun _ => rfl) (fun _ => rfl) (fun _ => rfl) hO
        have hF := hF.tr k319 (by decide)
        have c338 := k319.gi kM_at0 (by decide) c251
        have c339 := k319.gi kM_at0 (by decide) c252
        have c340 := k319.gi kM_at0 (by decide) c253
        have c341 := k319.gi kM_at3 rfl c254
        rcases hg336 with ⟨g320, g321, ⟨x322, c323, rx322, tx322⟩, ⟨x324, c325, rx324, tx324⟩, g326, g327⟩ | ⟨rfl, ⟨x328, c329, rx328, tx328⟩, ⟨x330, c331, rx330, tx330⟩, g332⟩ | ⟨rfl, ⟨x333, c334, rx333, tx333⟩, g335⟩
        · replace hM := hM.call hv337 rfl
          have ex322 : x322.toInt = f9_0_1.toInt := by rw [← c338.symm.trans c323]
          have g326 : (gi w318 1 (x324.toInt).toNat).toInt ≠ 32 := by have q := g326; simp only [c252, c339, c325] at q; first | with_reducible exact q | omega
          have g327 : (x324.toInt = x255.toInt ∨ (gi w231 1 (x255.toInt).toNat).toInt = 32) := by have q := g327; simp only [c252, c339, c256, c325] at q; first | with_reducible exact q | omega
          refine lv_bipush (v := 47) hx hb dX12_term_22 (by decide) ?_
          refine lv_icmp_ne (tgt := 75) hx hb dX12_term_24 (by decide) (fun c344 => ?_) (fun c344 => ?_)
          · have c344 : ¬ r316.toInt = (47 : Int) := wk_eqF c344
            replace hM := hM.pos c344
            refine lv_iconst (v := 1) hx hb dX12_term_75 (by decide) ?_
            exact tk_zret hC hr rfl hlocks hK ⟨hT, hF, hM.ret (by decide), (Or.inr (Or.inr (Or.inl ⟨rfl, ⟨f9_0_1, c338, (show 1 ≤ f9_0_1.toInt by first | with_reducible assumption | omega), (show f9_0_1.toInt ≤ 400 from t3)⟩, ⟨f0_, c339, (show 0 ≤ f0_.toInt from r5), (show f0_.toInt ≤ 5 from t6)⟩, ⟨f9_0_18, c340, (show 1 ≤ f9_0_18.toInt from r8), (show f9_0_18.toInt ≤ 60 from t9)⟩, (OKW_cast hO (by omega)), (by simp only [c339, cf0_, cf2_, c341, cf1_, c340]; omega), (by simp only [c339, cf0_, cf1_, c340]; omega)⟩)))⟩ hw dX12_term_76
          · have c344 : r316.toInt = (47 : Int) := wk_eq.mp c344
            replace hM := hM.neg (fun q => q c344)
            exact J27 x324 H locs ls w318 (show 1 ≤ f9_0_1.toInt by first | with_reducible assumption | omega) (show f9_0_1.toInt ≤ 400 from t3) (show 0 ≤ x324.toInt by first | with_reducible assumption | omega) (show x324.toInt ≤ 399 by first | with_reducible assumption | omega) (show 0 ≤ f0_.toInt from r5) (show f0_.toInt ≤ 5 from t6) (show 1 ≤ f9_0_18.toInt from r8) (show f9_0_18.toInt ≤ 60 from t9) (show 0 ≤ f9_3__f0__toInt_toNat.toInt from r11) (show f9_3__f0__toInt_toNat.toInt ≤ 300 from t12) (show 3 * f9_3__f0__toInt_toNat.toInt + 11 ≤ 3 * f2_.toInt + 14 * (f9_0_18.toInt - f1_.toInt) by omega) (show f1_.toInt + 1 ≤ f9_0_18.toInt by omega) (show f9_3__f0__toInt_toNat.toInt ≤ 300 from t12)  hw hT hF (OKW_cast hO (show gd + 1 = gd + 1 from rfl)) c338 c325 c339 c340 c341 hM (lv_sub hl [0] rfl)
        · replace hM := hM.call (r' := (-1)) hv337 (by decide)
          have ex328 : x328.toInt = f9_0_1.toInt := by rw [← c338.symm.trans c329]
          have g332 : (x330.toInt = x255.toInt ∨ (gi w231 1 (x255.toInt).toNat).toInt = 32) := by have q := g332; simp only [c252, c339, c256, c331] at q; first | with_reducible exact q | omega
          refine lv_bipush (v := 47) hx hb dX12_term_22 (by decide) ?_
          refine lv_icmp_ne (tgt := 75) hx hb dX12_term_24 (by decide) (fun _ => ?_) (fun c => absurd c (by decide))
          replace hM := hM.pos (by decide)
          refine lv_iconst (v := 1) hx hb dX12_term_75 (by decide) ?_
          exact tk_zret hC hr rfl hlocks hK ⟨hT, hF, hM.ret (by decide), (Or.inr (Or.inr (Or.inl ⟨rfl, ⟨f9_0_1, c338, (show 1 ≤ f9_0_1.toInt by first | with_reducible assumption | omega), (show f9_0_1.toInt ≤ 400 from t3)⟩, ⟨f0_, c339, (show 0 ≤ f0_.toInt from r5), (show f0_.toInt ≤ 5 from t6)⟩, ⟨f9_0_18, c340, (show 1 ≤ f9_0_18.toInt from r8), (show f9_0_18.toInt ≤ 60 from t9)⟩, (OKW_cast hO (by omega)), (by simp only [c339, cf0_, cf2_, c341, cf1_, c340]; omega), (by simp only [c339, cf0_, cf1_, c340]; omega)⟩)))⟩ hw dX12_term_76
        · replace hM := hM.call (r' := (-1)) hv337 (by decide)
          have ex333 : x333.toInt = f9_0_1.toInt := by rw [← c338.symm.trans c334]
          obtain ⟨x342, c343, rx342, tx342⟩ := hT.rdi (lo := 0) (hi := 400) (k := 14) kM_at0 (by decide) rfl
          have g335 : (x342.toInt = x255.toInt ∨ (gi w231 1 (x255.toInt).toNat).toInt = 32) := by have q := g335; simp only [c252, c339, c256, c343] at q; first | with_reducible exact q | omega
          refine lv_bipush (v := 47) hx hb dX12_term_22 (by decide) ?_
          refine lv_icmp_ne (tgt := 75) hx hb dX12_term_24 (by decide) (fun _ => ?_) (fun c => absurd c (by decide))
          replace hM := hM.pos (by decide)
          refine lv_iconst (v := 1) hx hb dX12_term_75 (by decide) ?_
          exact tk_zret hC hr rfl hlocks hK ⟨hT, hF, hM.ret (by decide), (Or.inr (Or.inr (Or.inr ⟨rfl, ⟨f9_0_1, c338, (show 0 ≤ f9_0_1.toInt from r2), (show f9_0_1.toInt ≤ 400 from t3)⟩, ⟨f0_, c339, (show 0 ≤ f0_.toInt from r5), (show f0_.toInt ≤ 5 from t6)⟩, ⟨f9_0_18, c340, (show 1 ≤ f9_0_18.toInt from r8), (show f9_0_18.toInt ≤ 60 from t9)⟩, (OKW_cast hO (by omega)), (by simp only [c339, cf0_, cf2_, c341, cf1_, c340]; omega), (by simp only [c339, cf0_, cf1_, c340]; omega)⟩)))⟩ hw dX12_term_76
  have hM : TT (fun n => m_X12_term n 0 (sI w0)) (fun n => m_X12_term n 0 (sI w0)) := TT.rf
  refine lv_aload_n hx hb dX12_term_0 rfl (lv_at hl 0 rfl) ?_
  refine tk_Vi hC hK hw hT hA hE hSR kM_at0 (by decide) rfl (kz_X12_value_1 l adK adV dC dI cy ad B hB0 (Int.le_trans hB1 (by decide)) qr s1    w0 s.heap.size hT f0_ cf0_ (show 0 ≤ f0_.toInt from rf0_) (show f0_.toInt ≤ 5 from tf0_) f1_ cf1_ (show 0 ≤ f1_.toInt from rf1_) (show f1_.toInt ≤ 60 from tf1_) f2_ cf2_ (show 0 ≤ f2_.toInt from rf2_) (show f2_.toInt ≤ 400 from tf2_) (show f2_.toInt ≤ 399 from Int.le_trans pr1_ (by decide)) gb (gd) (by omega) (by omega) (OKW_cast hO (show gd = gd from rfl))) (cwV 0 hC.2.2.2.2 uV_RX12_176 rfl rfl rfl (by decide +kernel) ⟨Nat.le_of_ble_eq_true rfl, Nat.le_of_ble_eq_true rfl⟩) rfl hl.1 rfl (Nat.le_of_ble_eq_true rfl) dX12_term_1 (fun r345 w347 H locs hp346 hw => ?_)
  obtain ⟨hT, k348, hv382, hg381⟩ := hp346
  have hF := hF.tr k348 (by decide)
  have c383 := k348.gi kM_at0 (by decide) cf0_
  rcases hg381 with ⟨rfl, ⟨x349, c350, rx349, tx349⟩, ⟨x351, c352, rx351, tx351⟩, ⟨x353, c354, rx353, tx353⟩, hq355⟩ | ⟨rfl, ⟨x356, c357, rx356, tx356⟩, ⟨x358, c359, rx358, tx358⟩, ⟨x360, c361, rx360, tx360⟩, hq362⟩ | ⟨rfl, ⟨x363, c364, rx363, tx363⟩, ⟨x365, c366, rx365, tx365⟩, ⟨x367, c368, rx367, tx367⟩, hq369, g370, g371⟩ | ⟨rfl, ⟨x372, c373, rx372, tx372⟩, ⟨x374, c375, rx374, tx374⟩, ⟨x376, c377, rx376, tx376⟩, hq378, g379, g380⟩
  · replace hM := hM.call (r' := 0) hv382 (by decide)
    have ex353 : x353.toInt = f0_.toInt := by rw [← c383.symm.trans c354]
    obtain ⟨x384, c385, rx384, tx384⟩ := hT.rda (lo := 0) (hi := 400) (i := (f0_.toInt).toNat) kM_at3 rfl rfl (by omega)
    obtain ⟨x386, c387, rx386, tx386⟩ := hT.rdi (lo := 0) (hi := 60) (k := 18) kM_at0 (by decide) rfl
    have hR := hq355
    refine lv_if_ne (tgt := 9) hx hb dX12_term_4 (by decide) (fun c => absurd (by decide) c) (fun _ => ?_)
    replace hM := hM.neg (by decide)
    refine lv_iconst (v := 0) hx hb dX12_term_7 (by decide) ?_
    exact tk_zret hC hr rfl hlocks hK ⟨hT, hF, hM.ret (by decide), (Or.inl ⟨rfl, ⟨x349, c350, (show 1 ≤ x349.toInt by first | with_reducible assumption | omega), (show x349.toInt ≤ 400 by first | with_reducible assumption | omega)⟩, ⟨x351, c352, (show 1 ≤ x351.toInt by first | with_reducible assumption | omega), (show x351.toInt ≤ 3205 by first | with_reducible assumption | omega)⟩, ⟨f0_, c383, (show 0 ≤ f0_.toInt from rf0_), (show f0_.toInt ≤ 5 from tf0_)⟩, hR⟩)⟩ hw dX12_term_8
  · replace hM := hM.call (r' := 0) hv382 (by decide)
    have ex360 : x360.toInt = f0_.toInt := by rw [← c383.symm.trans c361]
    obtain ⟨x388, c389, rx388, tx388⟩ := hT.rda (lo := 0) (hi := 400) (i := (f0_.toInt).toNat) kM_at3 rfl rfl (by omega)
    obtain ⟨x390, c391, rx390, tx390⟩ := hT.rdi (lo := 0) (hi := 60) (k := 18) kM_at0 (by decide) rfl
    have hR := hq362
    refine lv_if_ne (tgt := 9) hx hb dX12_term_4 (by decide) (fun c => absurd (by decide) c) (fun _ => ?_)
    replace hM := hM.neg (by decide)
    refine lv_iconst (v := 0) hx hb dX12_term_7 (by decide) ?_
    exact tk_zret hC hr rfl hlocks hK ⟨hT, hF, hM.ret (by decide), (Or.inr (Or.inl ⟨rfl, ⟨x356, c357, (show 0 ≤ x356.toInt by first | with_reducible assumption | omega), (show x356.toInt ≤ 400 by first | with_reducible assumption | omega)⟩, ⟨x358, c359, (show 1 ≤ x358.toInt by first | with_reducible assumption | omega), (show x358.toInt ≤ 3205 by first | with_reducible assumption | omega)⟩, ⟨f0_, c383, (show 0 ≤ f0_.toInt from rf0_), (show f0_.toInt ≤ 5 from tf0_)⟩, hR⟩))⟩ hw dX12_term_8
  · replace hM := hM.call (r' := 1) hv382 (by decide)
    have ex365 : x365.toInt = f0_.toInt := by rw [← c383.symm.trans c366]
    obtain ⟨x392, c393, rx392, tx392⟩ := hT.rda (lo := 0) (hi := 400) (i := (f0_.toInt).toNat) kM_at3 rfl rfl (by omega)
    have g370 : x392.toInt = f2_.toInt + 1 := by have q := g370; simp only [cf0_, c383, cf2_, c393] at q; first | with_reducible exact q | omega
    have g371 : x367.toInt = f1_.toInt + 1 := by have q := g371; simp only [cf0_, c383, cf1_, c368] at q; first | with_reducible exact q | omega
    have hO : OKW w347 f0_.toInt gb ((gd) + 1) := by have q := hq369; exact OKW_cast q (by omega)
    refine lv_if_ne (tgt := 9) hx hb dX12_term_4 (by decide) (fun _ => ?_) (fun c => absurd c (by decide))
    replace hM := hM.pos (by decide)
    exact L9 ((60 - x367.toInt).toNat + 1) x363 x367 x392 H locs ls w347 (show 0 ≤ x363.toInt by first | with_reducible assumption | omega) (show x363.toInt ≤ 400 by first | with_reducible assumption | omega) (show 0 ≤ f0_.toInt from rf0_) (show f0_.toInt ≤ 5 from tf0_) (show 1 ≤ x367.toInt by first | with_reducible assumption | omega) (show x367.toInt ≤ 60 by first | with_reducible assumption | omega) (show 0 ≤ x392.toInt by first | with_reducible assumption | omega) (show x392.toInt ≤ 300 by first | with_reducible assumption | omega) (show 3 * x392.toInt + 11 ≤ 3 * f2_.toInt + 14 * (x367.toInt - f1_.toInt) by omega) (show f1_.toInt + 1 ≤ x367.toInt by omega) (show x392.toInt ≤ 300 by first | with_reducible assumption | omega) (Nat.lt_succ_self _) hw hT hF (OKW_cast hO (show (gd) + 1 = gd + 1 by first | exact Int.le_antisymm (by omega) (by omega) | omega)) c364 c383 c368 c393 hM (lv_sub hl [0] rfl)
  · replace hM := hM.call (r' := 1) hv382 (by decide)
    have ex374 : x374.toInt = f0_.toInt := by rw [← c383.symm.trans c375]
    obtain ⟨x394, c395, rx394, tx394⟩ := hT.rda (lo := 0) (hi := 400) (i := (f0_.toInt).toNat) kM_at3 rfl rfl (by omega)
    have g379 : x394.toInt = f2_.toInt + 1 := by have q := g379; simp only [cf0_, c383, cf2_, c395] at q; first | with_reducible exact q | omega
    have g380 : x376.toInt = f1_.toInt + 1 := by have q := g380; simp only [cf0_, c383, cf1_, c377] at q; first | with_reducible exact q | omega
    have hO : OKW w347 f0_.toInt gb ((gd) + 1) := by have q := hq378; exact OKW_cast q (by omega)
    refine lv_if_ne (tgt := 9) hx hb dX12_term_4 (by decide) (fun _ => ?_) (fun c => absurd c (by decide))
    replace hM := hM.pos (by decide)
    exact L9 ((60 - x376.toInt).toNat + 1) x372 x376 x394 H locs ls w347 (show 0 ≤ x372.toInt by first | with_reducible assumption | omega) (show x372.toInt ≤ 400 by first | with_reducible assumption | omega) (show 0 ≤ f0_.toInt from rf0_) (show f0_.toInt ≤ 5 from tf0_) (show 1 ≤ x376.toInt by first | with_reducible assumption | omega) (show x376.toInt ≤ 60 by first | with_reducible assumption | omega) (show 0 ≤ x394.toInt by first | with_reducible assumption | omega) (show x394.toInt ≤ 300 by first | with_reducible assumption | omega) (show 3 * x394.toInt + 11 ≤ 3 * f2_.toInt + 14 * (x376.toInt - f1_.toInt) by omega) (show f1_.toInt + 1 ≤ x376.toInt by omega) (show x394.toInt ≤ 300 by first | with_reducible assumption | omega) (Nat.lt_succ_self _) hw hT hF (OKW_cast hO (show (gd) + 1 = gd + 1 by first | exact Int.le_antisymm (by omega) (by omega) | omega)) c373 c383 c377 c395 hM (lv_sub hl [0] rfl)
