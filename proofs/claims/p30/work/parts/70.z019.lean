abbrev Pz_X12_in_5 (ad : Nat → Nat) (cy : Nat → ClassId) (B : Int) (qr : Nat) (s1 : Int) (a0 : Int64) (w0 : va_W) : Int32 → va_W → Prop := fun r u => w0 = u ∧ Ev (fun n => m_X12_in n a0.toInt 0 359 (sI w0)) (r.toInt, sI w0) ∧ ((r = 0) ∨ (r = 1 ∧ 0 ≤ a0.toInt ∧ a0.toInt ≤ 359))
set_option maxHeartbeats 4000000 in
set_option maxRecDepth 100000 in
theorem kz_X12_in_5 (l : Launch) (adK adV : Nat → Nat) (dC : Nat → ClassId) (dI : Nat → Nat → Nat) (cy : Nat → ClassId) (ad : Nat → Nat) (B : Int) (hB0 : 100000 ≤ B) (hB1 : B ≤ 1073741824) (qr : Nat) (s1 : Int)  (a0 : Int64) (ra0 : (-2147483648) ≤ a0.toInt) (ta0 : a0.toInt ≤ 2147483647) (w0 : va_W) (sz : Nat) (hT : TW ksM ad cy B qr 12 w0)  : Met l yX12_in (wu yX12_in cX12_in 6 (some .boolean)) ({ frames := 1, cells := 0, slots := 0, locals := 12 }) (va_Pc [.long a0, .long 0, .long 359] (wpreS adK adV dC dI cy sz w0)) (va_Qi (Pz_X12_in_5 ad cy B qr s1 a0 w0) (fun u : va_W => wpost dC dI cy (va_A w0 sz) u) (va_A w0 sz)) 0 0 (va_A w0 sz) := by
  refine Met.ofW (cc := cX12_in) (maxL := 6) (ret := (some .boolean)) (by decide) rfl ?_
  intro p e s m args below meth c s₁ Bk hml hv
  obtain ⟨rfl, ⟨hsz, hP, hK, hD0⟩, hE, hSR⟩ := hv
  have hx := Bk.exec
  have hb := Bk.bytes
  have hr := Bk.returns
  have hlocks := Bk.notSynchronized
  have hC : CallFix p m c cX12_in 6 s _ (wu yX12_in cX12_in 6 (some .boolean)) RX12 := ⟨hx, hb, hml, findClass_of_methodNamed Bk.named, atoms_spec (ws := (wu yX12_in cX12_in 6 (some .boolean))) Bk.pre⟩
  subst hsz
  have hD := hD0.self (sz := s.heap.size)
  generalize hAe : va_A w0 s.heap.size = A at hD hE ⊢
  have hA : ∀ q : Nat, s.heap.size ≤ q → A q := fun q h => by rw [← hAe]; exact Or.inr h
  have hw : Wd dC dI A s.heap s.heap [] w0 := ⟨hP, hD, va_S.rf⟩
  have hF : FE ksM ([] : List (Nat × Nat × Nat)) w0 w0 := FE.rf
  have hl := lv_entry ([.long a0, .long 0, .long 359]) (n := 6) (Nat.le_of_ble_eq_true rfl)
  rw [lg_entry_eq]
  generalize (lg_sl ([.long a0, .long 0, .long 359]) ++ List.replicate (6 - (lg_sl ([.long a0, .long 0, .long 359])).length) Slot.unset).toArray = ls at hl ⊢
  have hl : lv_has ls 6 [(0, .long a0), (2, .long 0), (4, .long 359)] := hl
  generalize hloc : ([] : List Loc) = locs at hw ⊢
  have J17 : ∀ (H : Heap) (locs : List Loc) (ls : Array Slot), (-2147483648) ≤ a0.toInt → a0.toInt ≤ 2147483647 → Wd dC dI A s.heap H locs w0 → TT (fun n => m_X12_in n a0.toInt 0 359 (sI w0)) (fun n => b_X12_in_17 n (sI w0)) → lv_has ls 6 [(0, .long a0), (2, .long 0), (4, .long 359)] → W p l e ({ frames := 1, cells := 0, slots := 0, locals := 12 }) s m (List.toArray [.long a0, .long 0, .long 359]) below meth c H locs 0 0 (MQ below (va_Qi (Pz_X12_in_5 ad cy B qr s1 a0 w0) (fun u : va_W => wpost dC dI cy A u) A) (List.toArray [.long a0, .long 0, .long 359]) s 0 0 A) (F0 m 17 ls []) := by
    intro H locs ls r1 t2 hw hM hl
    refine lv_iconst (v := 0) hx hb dX12_in_17 (by decide) ?_
    exact tk_zret hC hr rfl hlocks hK ⟨rfl, hM.ret (by decide), (Or.inl rfl)⟩ hw dX12_in_18
  have hM : TT (fun n => m_X12_in n a0.toInt 0 359 (sI w0)) (fun n => m_X12_in n a0.toInt 0 359 (sI w0)) := TT.rf
  refine lv_lload_n hx hb dX12_in_0 rfl (lv_at hl 0 rfl) ?_
  refine lv_lload_n hx hb dX12_in_1 rfl (lv_at hl 1 rfl) ?_
  refine W.lcmp hx hb dX12_in_2 ?_
  refine lv_if_lt (tgt := 17) hx hb dX12_in_3 (by decide) (fun c3 => ?_) (fun c3 => ?_)
  · have c3 : a0.toInt < (0 : Int) := wk_cltT c3
    replace hM := hM.pos c3
    exact J17  s.heap locs ls  (show (-2147483648) ≤ a0.toInt from ra0) (show a0.toInt ≤ 2147483647 from ta0)  hw  hM (lv_sub hl [0, 1, 2] rfl)
  · have c3 : (0 : Int) ≤ a0.toInt := wk_cltF c3
    replace hM := hM.neg (Int.not_lt.mpr c3)
    refine lv_lload_n hx hb dX12_in_6 rfl (lv_at hl 0 rfl) ?_
    refine lv_lload hx hb dX12_in_7 (lv_at hl 2 rfl) ?_
    refine W.lcmp hx hb dX12_in_9 ?_
    refine lv_if_gt (tgt := 17) hx hb dX12_in_10 (by decide) (fun c4 => ?_) (fun c4 => ?_)
    · have c4 : (359 : Int) < a0.toInt := wk_cgtT c4
      replace hM := hM.pos c4
      exact J17  s.heap locs ls  (show (-2147483648) ≤ a0.toInt from ra0) (show a0.toInt ≤ 2147483647 from ta0)  hw  hM (lv_sub hl [0, 1, 2] rfl)
    · have c4 : a0.toInt ≤ (359 : Int) := wk_cgtF c4
      replace hM := hM.neg (Int.not_lt.mpr c4)
      refine lv_iconst (v := 1) hx hb dX12_in_13 (by decide) ?_
      refine lv_goto (tgt := 18) hx hb dX12_in_14 (by decide) ?_
      exact tk_zret hC hr rfl hlocks hK ⟨rfl, hM.ret (by decide), (Or.inr ⟨rfl, (show 0 ≤ a0.toInt by first | with_reducible assumption | omega), (show a0.toInt ≤ 359 by first | with_reducible assumption | omega)⟩)⟩ hw dX12_in_18
abbrev Pz_X12_numberHere_5 (ad : Nat → Nat) (cy : Nat → ClassId) (B : Int) (qr : Nat) (s1 : Int)  (w0 : va_W) : Int32 → va_W → Prop := fun r u => TW ksM ad cy B qr 12 u ∧ FE ksM [(12, 14, 14), (12, 15, 15), (12, 16, 16)] w0 u ∧ Ev (fun n => m_X12_numberHere n 0 0 359 (sI w0)) (r.toInt, sI u) ∧ ((r = 0 ∧ (∃ y : Int32, gi u 0 1 = y ∧ 1 ≤ y.toInt ∧ y.toInt ≤ 400) ∧ (∃ y : Int32, gi u 0 15 = y ∧ 1 ≤ y.toInt ∧ y.toInt ≤ 3205)) ∨ (r = 0 ∧ (∃ y : Int32, gi u 0 1 = y ∧ 0 ≤ y.toInt ∧ y.toInt ≤ 400) ∧ (∃ y : Int32, gi u 0 15 = y ∧ 1 ≤ y.toInt ∧ y.toInt ≤ 3205)) ∨ (r = 1 ∧ (∃ y : Int32, gi u 0 1 = y ∧ 1 ≤ y.toInt ∧ y.toInt ≤ 400) ∧ (∃ y : Int32, gi u 0 16 = y ∧ 0 ≤ y.toInt ∧ y.toInt ≤ 359)))
set_option maxHeartbeats 4000000 in
set_option maxRecDepth 100000 in
theorem kz_X12_numberHere_5 (l : Launch) (adK adV : Nat → Nat) (dC : Nat → ClassId) (dI : Nat → Nat → Nat) (cy : Nat → ClassId) (ad : Nat → Nat) (B : Int) (hB0 : 100000 ≤ B) (hB1 : B ≤ 1073741824) (qr : Nat) (s1 : Int)   (w0 : va_W) (sz : Nat) (hT : TW ksM ad cy B qr 12 w0)  : Met l yX12_numberHere (wu yX12_numberHere cX12_numberHere 5 (some .boolean)) ({ frames := 2, cells := 0, slots := 0, locals := 37 }) (va_Pc [.ref (ad 0), .int 0, .int 359] (wpreS adK adV dC dI cy sz w0)) (va_Qi (Pz_X12_numberHere_5 ad cy B qr s1  w0) (fun u : va_W => wpost dC dI cy (va_A w0 sz) u) (va_A w0 sz)) 0 0 (va_A w0 sz) := by
  refine Met.ofW (cc := cX12_numberHere) (maxL := 5) (ret := (some .boolean)) (by decide) rfl ?_
  intro p e s m args below meth c s₁ Bk hml hv
  obtain ⟨rfl, ⟨hsz, hP, hK, hD0⟩, hE, hSR⟩ := hv
  have hx := Bk.exec
  have hb := Bk.bytes
  have hr := Bk.returns
  have hlocks := Bk.notSynchronized
  have hC : CallFix p m c cX12_numberHere 5 s _ (wu yX12_numberHere cX12_numberHere 5 (some .boolean)) RX12 := ⟨hx, hb, hml, findClass_of_methodNamed Bk.named, atoms_spec (ws := (wu yX12_numberHere cX12_numberHere 5 (some .boolean))) Bk.pre⟩
  subst hsz
  have hD := hD0.self (sz := s.heap.size)
  generalize hAe : va_A w0 s.heap.size = A at hD hE ⊢
  have hA : ∀ q : Nat, s.heap.size ≤ q → A q := fun q h => by rw [← hAe]; exact Or.inr h
  have hw : Wd dC dI A s.heap s.heap [] w0 := ⟨hP, hD, va_S.rf⟩
  have hF : FE ksM [(12, 14, 14), (12, 15, 15), (12, 16, 16)] w0 w0 := FE.rf
  have hl := lv_entry ([.ref (ad 0), .int 0, .int 359]) (n := 5) (Nat.le_of_ble_eq_true rfl)
  rw [lg_entry_eq]
  generalize (lg_sl ([.ref (ad 0), .int 0, .int 359]) ++ List.replicate (5 - (lg_sl ([.ref (ad 0), .int 0, .int 359])).length) Slot.unset).toArray = ls at hl ⊢
  have hl : lv_has ls 5 [(0, .ref (ad 0)), (1, .int 0), (2, .int 359)] := hl
  generalize hloc : ([] : List Loc) = locs at hw ⊢
  have hinX12 : ∀ w ∈ u_ws RX12 TX12 42, w ∈ (wu yX12_numberHere cX12_numberHere 5 (some .boolean)) := fun _ h => List.mem_cons_of_mem _ (up_71 h)
  have J126 : ∀ (v126_3 : Int32) (v126_4 : Int32) (f126_0_1 : Int32) (f126_0_14 : Int32) (f126_0_16 : Int32) (H : Heap) (locs : List Loc) (ls : Array Slot) (w1 : va_W), 0 ≤ v126_3.toInt → v126_3.toInt ≤ 399 → 0 ≤ v126_4.toInt → v126_4.toInt ≤ 359 → 1 ≤ f126_0_1.toInt → f126_0_1.toInt ≤ 400 → 0 ≤ f126_0_14.toInt → f126_0_14.toInt ≤ 400 → 0 ≤ f126_0_16.toInt → f126_0_16.toInt ≤ 359 → Wd dC dI A s.heap H locs w1 → TW ksM ad cy B qr 12 w1 → FE ksM [(12, 14, 14), (12, 15, 15), (12, 16, 16)] w0 w1 → gi w1 0 1 = f126_0_1 → gi w1 0 14 = f126_0_14 → gi w1 0 16 = f126_0_16 → TT (fun n => m_X12_numberHere n 0 0 359 (sI w0)) (fun n => b_X12_numberHere_126 (j_X12_numberHere 0 n) n 0 (sI w1)) → lv_has ls 5 [(0, .ref (ad 0)), (1, .int 0), (2, .int 359), (3, .int v126_3), (4, .int v126_4)] → W p l e ({ frames := 2, cells := 0, slots := 0, locals := 37 }) s m (List.toArray [.ref (ad 0), .int 0, .int 359]) below meth c H locs 0 0 (MQ below (va_Qi (Pz_X12_numberHere_5 ad cy B qr s1  w0) (fun u : va_W => wpost dC dI cy A u) A) (List.toArray [.ref (ad 0), .int 0, .int 359]) s 0 0 A) (F0 m 126 ls []) := by
    intro v126_3 v126_4 f126_0_1 f126_0_14 f126_0_16 H locs ls w1 r2 t3 r4 t5 r6 t7 r9 t10 r12 t13 hw hT hF c8 c11 c14 hM hl
    refine lv_iconst (v := 1) hx hb dX12_numberHere_126 (by decide) ?_
    refine lv_goto (tgt := 131) hx hb dX12_numberHere_127 (by decide) ?_
    exact tk_zret hC hr rfl hlocks hK ⟨hT, hF, hM.ret (by decide), (Or.inr (Or.inr ⟨rfl, ⟨f126_0_1, c8, (show 1 ≤ f126_0_1.toInt from r6), (show f126_0_1.toInt ≤ 400 from t7)⟩, ⟨f126_0_16, c14, (show 0 ≤ f126_0_16.toInt from r12), (show f126_0_16.toInt ≤ 359 from t13)⟩⟩))⟩ hw dX12_numberHere_131
  have J117 : ∀ (v117_3 : Int32) (v117_4 : Int32) (f117_0_1 : Int32) (f117_0_14 : Int32) (f117_0_16 : Int32) (H : Heap) (locs : List Loc) (ls : Array Slot) (w15 : va_W), 0 ≤ v117_3.toInt → v117_3.toInt ≤ 399 → 1 ≤ f117_0_1.toInt → f117_0_1.toInt ≤ 400 → 0 ≤ f117_0_14.toInt → f117_0_14.toInt ≤ 400 → Wd dC dI A s.heap H locs w15 → TW ksM ad cy B qr 12 w15 → FE ksM [(12, 14, 14), (12, 15, 15), (12, 16, 16)] w0 w15 → gi w15 0 1 = f117_0_1 → gi w15 0 14 = f117_0_14 → gi w15 0 16 = f117_0_16 → TT (fun n => m_X12_numberHere n 0 0 359 (sI w0)) (fun n => b_X12_numberHere_117 (j_X12_numberHere 0 n) n 0 (v117_3.toInt) (sI w15)) → lv_has ls 5 [(0, .ref (ad 0)), (1, .int 0), (2, .int 359), (3, .int v117_3), (4, .int v117_4)] → W p l e ({ frames := 2, cells := 0, slots := 0, locals := 37 }) s m (List.toArray [.ref (ad 0), .int 0, .int 359]) below meth c H locs 0 0 (MQ below (va_Qi (Pz_X12_numberHere_5 ad cy B qr s1  w0) (fun u : va_W => wpost dC dI cy A u) A) (List.toArray [.ref (ad 0), .int 0, .int 359]) s 0 0 A) (F0 m 117 ls []) := by
    intro v117_3 v117_4 f117_0_1 f117_0_14 f117_0_16 H locs ls w15 r16 t17 r18 t19 r21 t22 hw hT hF c20 c23 c24 hM hl
    refine lv_aload_n hx hb dX12_numberHere_117 rfl (lv_at hl 0 rfl) ?_
    refine lv_iconst (v := 1) hx hb dX12_numberHere_118 (by decide) ?_
    refine lv_iload_n hx hb dX12_numberHere_119 rfl (lv_at hl 3 rfl) ?_
    refine tk_Vi hC hK hw hT hA hE hSR kM_at0 (by decide) rfl (kz_X12_fails_1 l adK adV dC dI cy ad B hB0 (Int.le_trans hB1 (by decide)) qr s1   1 (by decide) (by decide) v117_3 (show 0 ≤ v117_3.toInt from r16) (show v117_3.toInt ≤ 400 from Int.le_trans t17 (by decide)) w15 H.size hT ) (cwV 2 hC.2.2.2.2 uV_RX12_115 rfl rfl rfl (by decide +kernel) ⟨Nat.le_of_ble_eq_true rfl, Nat.le_of_ble_eq_true rfl⟩) rfl hl.1 rfl (Nat.le_of_ble_eq_true rfl) dX12_numberHere_120 (fun r25 w27 H locs hp26 hw => ?_)
    obtain ⟨hT, k28, hv32, hg31⟩ := hp26
    try simp only [show (1 : Int32).toInt = 1 by decide] at hv32
    have hF := hF.tr k28 (by decide)
    have c33 := k28.gi kM_at0 (by decide) c20
    have c34 := k28.gi kM_at0 (by decide) c23
    have c35 := k28.gi kM_at0 (by decide) c24
    obtain ⟨rfl, ⟨x29, c30, rx29, tx29⟩⟩ := hg31
    replace hM := hM.call (r' := 0) hv32 (by decide)
    refine lv_if_eq (tgt := 130) hx hb dX12_numberHere_123 (by decide) (fun _ => ?_) (fun c => absurd (by decide) c)
    replace hM := hM.pos (by decide)
    refine lv_iconst (v := 0) hx hb dX12_numberHere_130 (by decide) ?_
    exact tk_zret hC hr rfl hlocks hK ⟨hT, hF, hM.ret (by decide), (Or.inl ⟨rfl, ⟨f117_0_1, c33, (show 1 ≤ f117_0_1.toInt from r18), (show f117_0_1.toInt ≤ 400 from t19)⟩, ⟨x29, c30, (show 1 ≤ x29.toInt by first | with_reducible assumption | omega), (show x29.toInt ≤ 3205 by first | with_reducible assumption | omega)⟩⟩)⟩ hw dX12_numberHere_131
  have L34 : ∀ (n34 : Nat) (v34_3 : Int32) (v34_4 : Int32) (f34_0_1 : Int32) (f34_0_14 : Int32) (H : Heap) (locs : List Loc) (ls : Array Slot) (w36 : va_W), 0 ≤ v34_3.toInt → v34_3.toInt ≤ 399 → 1 ≤ f34_0_1.toInt → f34_0_1.toInt ≤ 400 → 0 ≤ f34_0_14.toInt → f34_0_14.toInt ≤ 400 → (400 - f34_0_14.toInt).toNat < n34 → Wd dC dI A s.heap H locs w36 → TW ksM ad cy B qr 12 w36 → FE ksM [(12, 14, 14), (12, 15, 15), (12, 16, 16)] w0 w36 → gi w36 0 1 = f34_0_1 → gi w36 0 14 = f34_0_14 → TT (fun n => m_X12_numberHere n 0 0 359 (sI w0)) (fun n => j_X12_numberHere 0 n 34 [(0 : Int), (359 : Int), v34_3.toInt, v34_4.toInt] (sI w36)) → lv_has ls 5 [(0, .ref (ad 0)), (1, .int 0), (2, .int 359), (3, .int v34_3), (4, .int v34_4)] → W p l e ({ frames := 2, cells := 0, slots := 0, locals := 37 }) s m (List.toArray [.ref (ad 0), .int 0, .int 359]) below meth c H locs 0 0 (MQ below (va_Qi (Pz_X12_numberHere_5 ad cy B qr s1  w0) (fun u : va_W => wpost dC dI cy A u) A) (List.toArray [.ref (ad 0), .int 0, .int 359]) s 0 0 A) (F0 m 34 ls []) := by
    intro n34
    induction n34 with
    | zero => intro v34_3 v34_4 f34_0_1 f34_0_14 H locs ls w36 r37 t38 r39 t40 r42 t43 hm34 hw hT hF c41 c44 hM hl; omega
    | succ n34 ih34 =>
      intro v34_3 v34_4 f34_0_1 f34_0_14 H locs ls w36 r37 t38 r39 t40 r42 t43 hm34 hw hT hF c41 c44 hM hl
      have J75 : ∀ (v75_4 : Int32) (H : Heap) (locs : List Loc) (ls : Array Slot) (w45 : va_W), 0 ≤ v34_3.toInt → v34_3.toInt ≤ 399 → 1 ≤ f34_0_1.toInt → f34_0_1.toInt ≤ 400 → 0 ≤ f34_0_14.toInt → f34_0_14.toInt ≤ 399 → Wd dC dI A s.heap H locs w45 → TW ksM ad cy B qr 12 w45 → FE ksM [(12, 14, 14), (12, 15, 15), (12, 16, 16)] w0 w45 → gi w45 0 1 = f34_0_1 → gi w45 0 14 = f34_0_14 → TT (fun n => m_X12_numberHere n 0 0 359 (sI w0)) (fun n => b_X12_numberHere_75 (j_X12_numberHere 0 n) n 0 (0 : Int) (359 : Int) (v34_3.toInt) (v75_4.toInt) (sI w45)) → lv_has ls 5 [(0, .ref (ad 0)), (1, .int 0), (2, .int 359), (3, .int v34_3), (4, .int v75_4)] → W p l e ({ frames := 2, cells := 0, slots := 0, locals := 37 }) s m (List.toArray [.ref (ad 0), .int 0, .int 359]) below meth c H locs 0 0 (MQ below (va_Qi (Pz_X12_numberHere_5 ad cy B qr s1  w0) (fun u : va_W => wpost dC dI cy A u) A) (List.toArray [.ref (ad 0), .int 0, .int 359]) s 0 0 A) (F0 m 75 ls []) := by
        intro v75_4 H locs ls w45 r46 t47 r48 t49 r51 t52 hw hT hF c50 c53 hM hl
        refine lv_aload_n hx hb dX12_numberHere_75 rfl (lv_at hl 0 rfl) ?_
        refine lv_dup hx hb dX12_numberHere_76 rfl ?_
        refine tk_geti hC hK hw hT hinX12 kM_at0 (by decide) rfl 14 (by decide) (List.mem_cons_of_mem _ uw_19_18) rfl rfl dX12_numberHere_77 (fun x54 c55 rx54 tx54 => ?_)
        refine wk_top f34_0_14 (c55.symm.trans c53) ?_
        replace hM := hM.rd (sI_at c53)
        refine lv_iconst (v := 1) hx hb dX12_numberHere_80 (by decide) ?_
        refine lv_iadd hx hb dX12_numberHere_81 ?_
        refine lv_topi (fun x56 ex56 => ?_)
        have ezx56 := ex56
        have ex56 : x56.toInt = f34_0_14.toInt + (1 : Int) := by rw [ex56]; exact wk_add (show (-2147483648) ≤ f34_0_14.toInt + (1 : Int) by omega) (show f34_0_14.toInt + (1 : Int) ≤ 2147483647 by omega)
        replace hM := hM.lt ex56.symm
        refine tk_puti hC hK hw hT hinX12 tyX12_ok nmX12 kM_at0 (by decide) rfl rfl 14 (by decide) (List.mem_cons_of_mem _ uw_19_18) rfl rfl rfl rfl (show 0 ≤ x56.toInt by first | with_reducible assumption | omega) (show x56.toInt ≤ 400 by first | with_reducible assumption | omega) dX12_numberHere_82 (fun H locs w57 hw hT k59 c58 => ?_)
        replace hM := hM.wr (sI_up k59 c58)
        have hF := hF.put kM_at0 (k := 14) (by decide) k59
        have c60 := k59.gi (Or.inr (by decide)) c50
        refine lv_goto (tgt := 34) hx hb dX12_numberHere_85 (by decide) ?_
        exact ih34 v34_3 v75_4 f34_0_1 x56 H locs ls w57 (show 0 ≤ v34_3.toInt from r46) (show v34_3.toInt ≤ 399 from t47) (show 1 ≤ f34_0_1.toInt from r48) (show f34_0_1.toInt ≤ 400 from t49) (show 0 ≤ x56.toInt by first | with_reducible assumption | omega) (show x56.toInt ≤ 400 by first | with_reducible assumption | omega) (show (400 - x56.toInt).toNat < n34 by first | exact tn_lt hm34 (by omega) (by omega) | omega) hw hT hF c60 c58 hM (lv_sub hl [0, 1, 2, 3, 4] rfl)
      replace hM := hM.suc (fun _ => e_X12_numberHere_34)
      refine lv_aload_n hx hb dX12_numberHere_34 rfl (lv_at hl 0 rfl) ?_
      refine lv_aload_n hx hb dX12_numberHere_35 rfl (lv_at hl 0 rfl) ?_
      refine tk_geti hC hK hw hT hinX12 kM_at0 (by decide) rfl 14 (by decide) (List.mem_cons_of_mem _ uw_19_18) rfl rfl dX12_numberHere_36 (fun x61 c62 rx61 tx61 => ?_)
      refine wk_top f34_0_14 (c62.symm.trans c44) ?_
      replace hM := hM.rd (sI_at c44)
      refine tk_Vi hC hK hw hT hA hE hSR kM_at0 (by decide) rfl (kz_X12_isDigit_1 l adK adV dC dI cy ad B hB0 (Int.le_trans hB1 (by decide)) qr s1   f34_0_14 (show 0 ≤ f34_0_14.toInt from r42) (show f34_0_14.toInt ≤ 400 from t43) w36 H.size hT ) (cwV 1 hC.2.2.2.2 uV_RX12_112 rfl rfl rfl (by decide +kernel) ⟨Nat.le_of_ble_eq_true rfl, Nat.le_of_ble_eq_true rfl⟩) rfl hl.1 rfl (Nat.le_of_ble_eq_true rfl) dX12_numberHere_39 (fun r63 w65 H locs hp64 hw => ?_)
      obtain ⟨rfl, hv73, hg72⟩ := hp64
      rcases hg72 with ⟨rfl, ⟨x67, c68, rx67, tx67⟩⟩ | ⟨rfl, g69, ⟨x70, c71, rx70, tx70⟩⟩
      · replace hM := hM.call (r' := 0) hv73 (by decide)
        have ex67 : x67.toInt = f34_0_1.toInt := by rw [← c41.symm.trans c68]
        refine lv_if_eq (tgt := 88) hx hb dX12_numberHere_42 (by decide) (fun _ => ?_) (fun c => absurd (by decide) c)
        replace hM := hM.pos (by decide)
        refine lv_aload_n hx hb dX12_numberHere_88 rfl (lv_at hl 0 rfl) ?_
        refine lv_iload hx hb dX12_numberHere_89 (lv_at hl 4 rfl) ?_
        refine tk_puti hC hK hw hT hinX12 tyX12_ok nmX12 kM_at0 (by decide) rfl rfl 16 (by decide) (List.mem_cons_of_mem _ uw_21_12) rfl rfl rfl rfl (wk_i32 v34_4).1 (wk_i32 v34_4).2 dX12_numberHere_91 (fun H locs w74 hw hT k76 c75 => ?_)
        replace hM := hM.wr (sI_up k76 c75)
        have hF := hF.put kM_at0 (k := 16) (by decide) k76
        have c77 := k76.gi (Or.inr (by decide)) c41
        have c78 := k76.gi (Or.inr (by decide)) c44
        refine lv_aload_n hx hb dX12_numberHere_94 rfl (lv_at hl 0 rfl) ?_
        refine tk_geti hC hK hw hT hinX12 kM_at0 (by decide) rfl 14 (by decide) (List.mem_cons_of_mem _ uw_19_18) rfl rfl dX12_numberHere_95 (fun x79 c80 rx79 tx79 => ?_)
        refine wk_top f34_0_14 (c80.symm.trans c78) ?_
        replace hM := hM.rd (sI_at c78)
        refine lv_iload_n hx hb dX12_numberHere_98 rfl (lv_at hl 3 rfl) ?_
        refine lv_isub hx hb dX12_numberHere_99 ?_
        refine lv_topi (fun x81 ex81 => ?_)
        have ezx81 := ex81
        have ex81 : x81.toInt = f34_0_14.toInt - v34_3.toInt := by rw [ex81]; exact wk_sub (show (-2147483648) ≤ f34_0_14.toInt - v34_3.toInt by omega) (show f34_0_14.toInt - v34_3.toInt ≤ 2147483647 by omega)
        replace hM := hM.lt ex81.symm
        refine lv_iconst (v := 5) hx hb dX12_numberHere_100 (by decide) ?_
        refine lv_icmp_gt (tgt := 117) hx hb dX12_numberHere_101 (by decide) (fun c82 => ?_) (fun c82 => ?_)
        · have c82 : (5 : Int) < x81.toInt := wk_lt.mp c82
          replace hM := hM.pos c82
          exact J117 v34_3 v34_4 f34_0_1 f34_0_14 v34_4 H locs ls w74 (show 0 ≤ v34_3.toInt from r37) (show v34_3.toInt ≤ 399 from t38) (show 1 ≤ f34_0_1.toInt from r39) (show f34_0_1.toInt ≤ 400 from t40) (show 0 ≤ f34_0_14.toInt from r42) (show f34_0_14.toInt ≤ 400 from t43)  hw hT hF c77 c78 c75 hM (lv_sub hl [0, 1, 2, 3, 4] rfl)
        · have c82 : x81.toInt ≤ (5 : Int) := wk_ltF c82
          replace hM := hM.neg (Int.not_lt.mpr c82)
          refine lv_iload hx hb dX12_numberHere_104 (lv_at hl 4 rfl) ?_
          refine lv_i2l hx hb dX12_numberHere_106 rfl ?_
          refine lv_topl (fun x83 ex83 => ?_)
          have ex83 : x83.toInt = v34_4.toInt := by rw [ex83]; exact wk_i2l _
          have bx83 := wk_i32 v34_4
          replace hM := hM.lt ex83.symm
          refine lv_iload_n hx hb dX12_numberHere_107 rfl (lv_at hl 1 rfl) ?_
          refine lv_i2l hx hb dX12_numberHere_108 rfl ?_
          refine wk_topl 0 (by decide) ?_
          replace hM := hM.lt rfl
          refine lv_iload_n hx hb dX12_numberHere_109 rfl (lv_at hl 2 rfl) ?_
          refine lv_i2l hx hb dX12_numberHere_110 rfl ?_
          refine wk_topl 359 (by decide) ?_
          replace hM := hM.lt rfl
          refine tk_Si hC hK hw hT hA hE hSR (kz_X12_in_5 l adK adV dC dI cy ad B hB0 (Int.le_trans hB1 (by decide)) qr s1   x83 (show (-2147483648) ≤ x83.toInt by first | with_reducible assumption | omega) (show x83.toInt ≤ 2147483647 by first | with_reducible assumption | omega) w74 H.size hT ) (va_cwS 3 hC.2.2.2.2 uS_RX12_122 rfl rfl rfl (by decide +kernel) ⟨Nat.le_of_ble_eq_true rfl, Nat.le_of_ble_eq_true rfl⟩) rfl hl.1 rfl (Nat.le_of_ble_eq_true rfl) dX12_numberHere_111 (fun r84 w86 H locs hp85 hw => ?_)
          obtain ⟨rfl, hv91, hg90⟩ := hp85
          rcases hg90 with rfl | ⟨rfl, g88, g89⟩
          · replace hM := hM.call (r' := 0) hv91 (by decide)
            refine lv_if_ne (tgt := 126) hx hb dX12_numberHere_114 (by decide) (fun c => absurd (by decide) c) (fun _ => ?_)
            replace hM := hM.neg (by decide)
            exact J117 v34_3 v34_4 f34_0_1 f34_0_14 v34_4 H locs ls w74 (show 0 ≤ v34_3.toInt from r37) (show v34_3.toInt ≤ 399 from t38) (show 1 ≤ f34_0_1.toInt from r39) (show f34_0_1.toInt ≤ 400 from t40) (show 0 ≤ f34_0_14.toInt from r42) (show f34_0_14.toInt ≤ 400 from t43)  hw hT hF c77 c78 c75 hM (lv_sub hl [0, 1, 2, 3, 4] rfl)
          · replace hM := hM.call (r' := 1) hv91 (by decide)
            refine lv_if_ne (tgt := 126) hx hb dX12_numberHere_114 (by decide) (fun _ => ?_) (fun c => absurd c (by decide))
            replace hM := hM.pos (by decide)
            exact J126 v34_3 v34_4 f34_0_1 f34_0_14 v34_4 H locs ls w74 (show 0 ≤ v34_3.toInt from r37) (show v34_3.toInt ≤ 399 from t38) (show 0 ≤ v34_4.toInt by first | with_reducible assumption | omega) (show v34_4.toInt ≤ 359 by first | with_reducible assumption | omega) (show 1 ≤ f34_0_1.toInt from r39) (show f34_0_1.toInt ≤ 400 from t40) (show 0 ≤ f34_0_14.toInt from r42) (show f34_0_14.toInt ≤ 400 from t43) (show 0 ≤ v34_4.toInt by first | with_reducible assumption | omega) (show v34_4.toInt ≤ 359 by first | with_reducible assumption | omega)  hw hT hF c77 c78 c75 hM (lv_sub hl [0, 1, 2, 3, 4] rfl)
      · replace hM := hM.call (r' := 1) hv73 (by decide)
        have ex70 : x70.toInt = f34_0_1.toInt := by rw [← c41.symm.trans c71]
        refine lv_if_eq (tgt := 88) hx hb dX12_numberHere_42 (by decide) (fun c => absurd c (by decide)) (fun _ => ?_)
        replace hM := hM.neg (by decide)
        refine lv_aload_n hx hb dX12_numberHere_45 rfl (lv_at hl 0 rfl) ?_
        refine tk_geti hC hK hw hT hinX12 kM_at0 (by decide) rfl 14 (by decide) (List.mem_cons_of_mem _ uw_19_18) rfl rfl dX12_numberHere_46 (fun x92 c93 rx92 tx92 => ?_)
        refine wk_top f34_0_14 (c93.symm.trans c44) ?_
        replace hM := hM.rd (sI_at c44)
        refine lv_iload_n hx hb dX12_numberHere_49 rfl (lv_at hl 3 rfl) ?_
        refine lv_isub hx hb dX12_numberHere_50 ?_
        refine lv_topi (fun x94 ex94 => ?_)
        have ezx94 := ex94
        have ex94 : x94.toInt = f34_0_14.toInt - v34_3.toInt := by rw [ex94]; exact wk_sub (show (-2147483648) ≤ f34_0_14.toInt - v34_3.toInt by omega) (show f34_0_14.toInt - v34_3.toInt ≤ 2147483647 by omega)
        replace hM := hM.lt ex94.symm
        refine lv_iconst (v := 5) hx hb dX12_numberHere_51 (by decide) ?_
        refine lv_icmp_ge (tgt := 75) hx hb dX12_numberHere_52 (by decide) (fun c95 => ?_) (fun c95 => ?_)
        · have c95 : (5 : Int) ≤ x94.toInt := wk_le.mp c95
          replace hM := hM.pos c95
          exact J75 v34_4 H locs ls w36 (show 0 ≤ v34_3.toInt from r37) (show v34_3.toInt ≤ 399 from t38) (show 1 ≤ f34_0_1.toInt from r39) (show f34_0_1.toInt ≤ 400 from t40) (show 0 ≤ f34_0_14.toInt from r42) (show f34_0_14.toInt ≤ 399 by first | with_reducible assumption | omega)  hw hT hF c41 c44 hM (lv_sub hl [0, 1, 2, 3, 4] rfl)
        · have c95 : x94.toInt < (5 : Int) := wk_leF c95
          replace hM := hM.neg (Int.not_le.mpr c95)
          refine lv_bipush (v := 10) hx hb dX12_numberHere_55 (by decide) ?_
          refine lv_iload hx hb dX12_numberHere_57 (lv_at hl 4 rfl) ?_
          refine lv_imul hx hb dX12_numberHere_59 ?_
          have nx96 := wk_i32 v34_4
          refine lv_topi (fun x97 ex97 => ?_)
          have ezx97 := ex97
          replace hM := hM.lt (o32_e (f := fun x y => x * y) ezx97 (by decide) rfl)
          refine lv_aload_n hx hb dX12_numberHere_60 rfl (lv_at hl 0 rfl) ?_
          refine tk_getA hC hK hw hT hinX12 kM_at0 (by decide) rfl 0 (by decide) (List.mem_cons_of_mem _ uw_6_14) rfl rfl dX12_numberHere_61 ?_
          refine lv_aload_n hx hb dX12_numberHere_64 rfl (lv_at hl 0 rfl) ?_
          refine tk_geti hC hK hw hT hinX12 kM_at0 (by decide) rfl 14 (by decide) (List.mem_cons_of_mem _ uw_19_18) rfl rfl dX12_numberHere_65 (fun x98 c99 rx98 tx98 => ?_)
          refine wk_top f34_0_14 (c99.symm.trans c44) ?_
          replace hM := hM.rd (sI_at c44)
          refine tk_bald hC hK hw hT kM_at1 rfl rfl (show 0 ≤ f34_0_14.toInt from r42) (show f34_0_14.toInt < 400 by first | with_reducible assumption | omega) dX12_numberHere_68 (fun x100 c101 rx100 tx100 => ?_)
          have hox100 := c101
          replace hM := hM.rd (sI_at hox100)
          have c101 : gi w36 1 (f34_0_14.toInt).toNat = x100 := (congrArg (gi w36 1) (congrArg Int.toNat (show f34_0_14.toInt = f34_0_14.toInt from rfl))).trans c101
          refine lv_iadd hx hb dX12_numberHere_69 ?_
          have nx102 := wk_i32 x97
          refine lv_topi (fun x103 ex103 => ?_)
          have ezx103 := ex103
          replace hM := hM.lt (o32_e (f := fun x y => x + y) ezx103 rfl rfl)
          refine lv_bipush (v := 48) hx hb dX12_numberHere_70 (by decide) ?_
          refine lv_isub hx hb dX12_numberHere_72 ?_
          have nx104 := wk_i32 x103
          refine lv_topi (fun x105 ex105 => ?_)
          have ezx105 := ex105
          replace hM := hM.lt (o32_e (f := fun x y => x - y) ezx105 rfl (by decide))
          refine lv_istore (lv' := [(4, .int x105), (0, .ref (ad 0)), (1, .int 0), (2, .int 359), (3, .int v34_3)]) hx hb dX12_numberHere_73 hl (by decide) rfl (fun ls hl => ?_)
          exact J75 x105 H locs ls w36 (show 0 ≤ v34_3.toInt from r37) (show v34_3.toInt ≤ 399 from t38) (show 1 ≤ f34_0_1.toInt from r39) (show f34_0_1.toInt ≤ 400 from t40) (show 0 ≤ f34_0_14.toInt from r42) (show f34_0_14.toInt ≤ 399 by first | with_reducible assumption | omega)  hw hT hF c41 c44 hM (lv_sub hl [1, 2, 3, 4, 0] rfl)
  have hM : TT (fun n => m_X12_numberHere n 0 0 359 (sI w0)) (fun n => m_X12_numberHere n 0 0 359 (sI w0)) := TT.rf
  refine lv_aload_n hx hb dX12_numberHere_0 rfl (lv_at hl 0 rfl) ?_
  obtain ⟨x106, c107, rx106, tx106⟩ := hT.rdi (lo := 0) (hi := 400) (k := 14) kM_at0 (by decide) rfl
  refine tk_Vi hC hK hw hT hA hE hSR kM_at0 (by decide) rfl (kz_X12_see_1 l adK adV dC dI cy ad B hB0 (Int.le_trans hB1 (by decide)) qr s1    w0 s.heap.size hT x106 c107 (show 0 ≤ x106.toInt by first | with_reducible assumption | omega) (show x106.toInt ≤ 400 by first | with_reducible assumption | omega)) (cwV 0 hC.2.2.2.2 uV_RX12_97 rfl rfl rfl (by decide +kernel) ⟨Nat.le_of_ble_eq_true rfl, Nat.le_of_ble_eq_true rfl⟩) rfl hl.1 rfl (Nat.le_of_ble_eq_true rfl) dX12_numberHere_1 (fun r108 w110 H locs hp109 hw => ?_)
  obtain ⟨hT, k111, hv129, hg128⟩ := hp109
  have hF := hF.tr k111 (by decide)
  rcases hg128 with ⟨g112, g113, ⟨x114, c115, rx114, tx114⟩, ⟨x116, c117, rx116, tx116⟩, g118, g119⟩ | ⟨rfl, ⟨x120, c121, rx120, tx120⟩, ⟨x122, c123, rx122, tx122⟩, g124⟩ | ⟨rfl, ⟨x125, c126, rx125, tx125⟩, g127⟩
  · replace hM := hM.call hv129 rfl
    have g118 : (gi w110 1 (x116.toInt).toNat).toInt ≠ 32 := by have q := g118; simp only [c117] at q; first | with_reducible exact q | omega
    have g119 : (x116.toInt = x106.toInt ∨ (gi w0 1 (x106.toInt).toNat).toInt = 32) := by have q := g119; simp only [c107, c117] at q; first | with_reducible exact q | omega
    refine lv_pop hx hb dX12_numberHere_4 rfl ?_
    refine lv_aload_n hx hb dX12_numberHere_5 rfl (lv_at hl 0 rfl) ?_
    refine lv_aload_n hx hb dX12_numberHere_6 rfl (lv_at hl 0 rfl) ?_
    refine tk_geti hC hK hw hT hinX12 kM_at0 (by decide) rfl 14 (by decide) (List.mem_cons_of_mem _ uw_19_18) rfl rfl dX12_numberHere_7 (fun x132 c133 rx132 tx132 => ?_)
    refine wk_top x116 (c133.symm.trans c117) ?_
    replace hM := hM.rd (sI_at c117)
    refine tk_Vi hC hK hw hT hA hE hSR kM_at0 (by decide) rfl (kz_X12_isDigit_2 l adK adV dC dI cy ad B hB0 (Int.le_trans hB1 (by decide)) qr s1   x116 (show 0 ≤ x116.toInt by first | with_reducible assumption | omega) (show x116.toInt ≤ 399 by first | with_reducible assumption | omega) w110 H.size hT ) (cwV 1 hC.2.2.2.2 uV_RX12_112 rfl rfl rfl (by decide +kernel) ⟨Nat.le_of_ble_eq_true rfl, Nat.le_of_ble_eq_true rfl⟩) rfl hl.1 rfl (Nat.le_of_ble_eq_true rfl) dX12_numberHere_10 (fun r134 w136 H locs hp135 hw => ?_)
    obtain ⟨rfl, hv143, hg142⟩ := hp135
    rcases hg142 with ⟨rfl, ⟨x138, c139, rx138, tx138⟩⟩ | ⟨rfl, ⟨x140, c141, rx140, tx140⟩⟩
    · replace hM := hM.call (r' := 0) hv143 (by decide)
      have ex138 : x138.toInt = x114.toInt := by rw [← c115.symm.trans c139]
      refine lv_if_ne (tgt := 26) hx hb dX12_numberHere_13 (by decide) (fun c => absurd (by decide) c) (fun _ => ?_)
      replace hM := hM.neg (by decide)
      refine lv_aload_n hx hb dX12_numberHere_16 rfl (lv_at hl 0 rfl) ?_
      refine lv_iconst (v := 0) hx hb dX12_numberHere_17 (by decide) ?_
      refine lv_aload_n hx hb dX12_numberHere_18 rfl (lv_at hl 0 rfl) ?_
      refine tk_geti hC hK hw hT hinX12 kM_at0 (by decide) rfl 14 (by decide) (List.mem_cons_of_mem _ uw_19_18) rfl rfl dX12_numberHere_19 (fun x144 c145 rx144 tx144 => ?_)
      refine wk_top x116 (c145.symm.trans c117) ?_
      replace hM := hM.rd (sI_at c117)
      refine tk_Vi hC hK hw hT hA hE hSR kM_at0 (by decide) rfl (kz_X12_fails_1 l adK adV dC dI cy ad B hB0 (Int.le_trans hB1 (by decide)) qr s1   0 (by decide) (by decide) x116 (show 0 ≤ x116.toInt by first | with_reducible assumption | omega) (show x116.toInt ≤ 400 by first | with_reducible assumption | omega) w110 H.size hT ) (cwV 2 hC.2.2.2.2 uV_RX12_115 rfl rfl rfl (by decide +kernel) ⟨Nat.le_of_ble_eq_true rfl, Nat.le_of_ble_eq_true rfl⟩) rfl hl.1 rfl (Nat.le_of_ble_eq_true rfl) dX12_numberHere_22 (fun r146 w148 H locs hp147 hw => ?_)
      obtain ⟨hT, k149, hv153, hg152⟩ := hp147
      try simp only [show (0 : Int32).toInt = 0 by decide] at hv153
      have hF := hF.tr k149 (by decide)
      have c154 := k149.gi kM_at0 (by decide) c115
      have c155 := k149.gi kM_at0 (by decide) c117
      obtain ⟨rfl, ⟨x150, c151, rx150, tx150⟩⟩ := hg152
      replace hM := hM.call (r' := 0) hv153 (by decide)
      exact tk_zret hC hr rfl hlocks hK ⟨hT, hF, hM.ret (by decide), (Or.inl ⟨rfl, ⟨x114, c154, (show 1 ≤ x114.toInt by first | with_reducible assumption | omega), (show x114.toInt ≤ 400 by first | with_reducible assumption | omega)⟩, ⟨x150, c151, (show 1 ≤ x150.toInt by first | with_reducible assumption | omega), (show x150.toInt ≤ 3205 by first | with_reducible assumption | omega)⟩⟩)⟩ hw dX12_numberHere_25
    · replace hM := hM.call (r' := 1) hv143 (by decide)
      have ex140 : x140.toInt = x114.toInt := by rw [← c115.symm.trans c141]
      refine lv_if_ne (tgt := 26) hx hb dX12_numberHere_13 (by decide) (fun _ => ?_) (fun c => absurd c (by decide))
      replace hM := hM.pos (by decide)
      refine lv_aload_n hx hb dX12_numberHere_26 rfl (lv_at hl 0 rfl) ?_
      refine tk_geti hC hK hw hT hinX12 kM_at0 (by decide) rfl 14 (by decide) (List.mem_cons_of_mem _ uw_19_18) rfl rfl dX12_numberHere_27 (fun x156 c157 rx156 tx156 => ?_)
      refine wk_top x116 (c157.symm.trans c117) ?_
      replace hM := hM.rd (sI_at c117)
      refine lv_istore_n (lv' := [(3, .int x116), (0, .ref (ad 0)), (1, .int 0), (2, .int 359)]) hx hb dX12_numberHere_30 rfl hl (by decide) rfl (fun ls hl => ?_)
      refine lv_iconst (v := 0) hx hb dX12_numberHere_31 (by decide) ?_
      refine lv_istore (lv' := [(4, .int 0), (3, .int x116), (0, .ref (ad 0)), (1, .int 0), (2, .int 359)]) hx hb dX12_numberHere_32 hl (by decide) rfl (fun ls hl => ?_)
      exact L34 ((400 - x116.toInt).toNat + 1) x116 0 x114 x116 H locs ls w110 (show 0 ≤ x116.toInt by first | with_reducible assumption | omega) (show x116.toInt ≤ 399 by first | with_reducible assumption | omega) (show 1 ≤ x114.toInt by first | with_reducible assumption | omega) (show x114.toInt ≤ 400 by first | with_reducible assumption | omega) (show 0 ≤ x116.toInt by first | with_reducible assumption | omega) (show x116.toInt ≤ 400 by first | with_reducible assumption | omega) (Nat.lt_succ_self _) hw hT hF c115 c117 hM (lv_sub hl [2, 3, 4, 1, 0] rfl)
  · replace hM := hM.call (r' := (-1)) hv129 (by decide)
    have g124 : (x122.toInt = x106.toInt ∨ (gi w0 1 (x106.toInt).toNat).toInt = 32) := by have q := g124; simp only [c107, c123] at q; first | with_reducible exact q | omega
    refine lv_pop hx hb dX12_numberHere_4 rfl ?_
    refine lv_aload_n hx hb dX12_numberHere_5 rfl (lv_at hl 0 rfl) ?_
    refine lv_aload_n hx hb dX12_numberHere_6 rfl (lv_at hl 0 rfl) ?_
    refine tk_geti hC hK hw hT hinX12 kM_at0 (by decide) rfl 14 (by decide) (List.mem_cons_of_mem _ uw_19_18) rfl rfl dX12_numberHere_7 (fun x158 c159 rx158 tx158 => ?_)
    refine wk_top x122 (c159.symm.trans c123) ?_
    replace hM := hM.rd (sI_at c123)
    refine tk_Vi hC hK hw hT hA hE hSR kM_at0 (by decide) rfl (kz_X12_isDigit_3 l adK adV dC dI cy ad B hB0 (Int.le_trans hB1 (by decide)) qr s1   x122 (show 1 ≤ x122.toInt by first | with_reducible assumption | omega) (show x122.toInt ≤ 399 by first | with_reducible assumption | omega) w110 H.size hT ) (cwV 1 hC.2.2.2.2 uV_RX12_112 rfl rfl rfl (by decide +kernel) ⟨Nat.le_of_ble_eq_true rfl, Nat.le_of_ble_eq_true rfl⟩) rfl hl.1 rfl (Nat.le_of_ble_eq_true rfl) dX12_numberHere_10 (fun r160 w162 H locs hp161 hw => ?_)
    obtain ⟨rfl, hv169, hg168⟩ := hp161
    rcases hg168 with ⟨rfl, ⟨x164, c165, rx164, tx164⟩⟩ | ⟨rfl, ⟨x166, c167, rx166, tx166⟩⟩
    · replace hM := hM.call (r' := 0) hv169 (by decide)
      have ex164 : x164.toInt = x120.toInt := by rw [← c121.symm.trans c165]
      refine lv_if_ne (tgt := 26) hx hb dX12_numberHere_13 (by decide) (fun c => absurd (by decide) c) (fun _ => ?_)
      replace hM := hM.neg (by decide)
      refine lv_aload_n hx hb dX12_numberHere_16 rfl (lv_at hl 0 rfl) ?_
      refine lv_iconst (v := 0) hx hb dX12_numberHere_17 (by decide) ?_
      refine lv_aload_n hx hb dX12_numberHere_18 rfl (lv_at hl 0 rfl) ?_
      refine tk_geti hC hK hw hT hinX12 kM_at0 (by decide) rfl 14 (by decide) (List.mem_cons_of_mem _ uw_19_18) rfl rfl dX12_numberHere_19 (fun x170 c171 rx170 tx170 => ?_)
      refine wk_top x122 (c171.symm.trans c123) ?_
      replace hM := hM.rd (sI_at c123)
      refine tk_Vi hC hK hw hT hA hE hSR kM_at0 (by decide) rfl (kz_X12_fails_1 l adK adV dC dI cy ad B hB0 (Int.le_trans hB1 (by decide)) qr s1   0 (by decide) (by decide) x122 (show 0 ≤ x122.toInt by first | with_reducible assumption | omega) (show x122.toInt ≤ 400 by first | with_reducible assumption | omega) w110 H.size hT ) (cwV 2 hC.2.2.2.2 uV_RX12_115 rfl rfl rfl (by decide +kernel) ⟨Nat.le_of_ble_eq_true rfl, Nat.le_of_ble_eq_true rfl⟩) rfl hl.1 rfl (Nat.le_of_ble_eq_true rfl) dX12_numberHere_22 (fun r172 w174 H locs hp173 hw => ?_)
      obtain ⟨hT, k175, hv179, hg178⟩ := hp173
      try simp only [show (0 : Int32).toInt = 0 by decide] at hv179
      have hF := hF.tr k175 (by decide)
      have c180 := k175.gi kM_at0 (by decide) c121
      have c181 := k175.gi kM_at0 (by decide) c123
      obtain ⟨rfl, ⟨x176, c177, rx176, tx176⟩⟩ := hg178
      replace hM := hM.call (r' := 0) hv179 (by decide)
      exact tk_zret hC hr rfl hlocks hK ⟨hT, hF, hM.ret (by decide), (Or.inl ⟨rfl, ⟨x120, c180, (show 1 ≤ x120.toInt by first | with_reducible assumption | omega), (show x120.toInt ≤ 400 by first | with_reducible assumption | omega)⟩, ⟨x176, c177, (show 1 ≤ x176.toInt by first | with_reducible assumption | omega), (show x176.toInt ≤ 3205 by first | with_reducible assumption | omega)⟩⟩)⟩ hw dX12_numberHere_25
    · replace hM := hM.call (r' := 1) hv169 (by decide)
      have ex166 : x166.toInt = x120.toInt := by rw [← c121.symm.trans c167]
      refine lv_if_ne (tgt := 26) hx hb dX12_numberHere_13 (by decide) (fun _ => ?_) (fun c => absurd c (by decide))
      replace hM := hM.pos (by decide)
      refine lv_aload_n hx hb dX12_numberHere_26 rfl (lv_at hl 0 rfl) ?_
      refine tk_geti hC hK hw hT hinX12 kM_at0 (by decide) rfl 14 (by decide) (List.mem_cons_of_mem _ uw_19_18) rfl rfl dX12_numberHere_27 (fun x182 c183 rx182 tx182 => ?_)
      refine wk_top x122 (c183.symm.trans c123) ?_
      replace hM := hM.rd (sI_at c123)
      refine lv_istore_n (lv' := [(3, .int x122), (0, .ref (ad 0)), (1, .int 0), (2, .int 359)]) hx hb dX12_numberHere_30 rfl hl (by decide) rfl (fun ls hl => ?_)
      refine lv_iconst (v := 0) hx hb dX12_numberHere_31 (by decide) ?_
      refine lv_istore (lv' := [(4, .int 0), (3, .int x122), (0, .ref (ad 0)), (1, .int 0), (2, .int 359)]) hx hb dX12_numberHere_32 hl (by decide) rfl (fun ls hl => ?_)
      exact L34 ((400 - x122.toInt).toNat + 1) x122 0 x120 x122 H locs ls w110 (show 0 ≤ x122.toInt by first | with_reducible assumption | omega) (show x122.toInt ≤ 399 by first | with_reducible assumption | omega) (show 1 ≤ x120.toInt by first | with_reducible assumption | omega) (show x120.toInt ≤ 400 by first | with_reducible assumption | omega) (show 0 ≤ x122.toInt by first | with_reducible assumption | omega) (show x122.toInt ≤ 400 by first | with_reducible assumption | omega) (Nat.lt_succ_self _) hw hT hF c121 c123 hM (lv_sub hl [2, 3, 4, 1, 0] rfl)
  · replace hM := hM.call (r' := (-1)) hv129 (by decide)
    obtain ⟨x130, c131, rx130, tx130⟩ := hT.rdi (lo := 0) (hi := 400) (k := 14) kM_at0 (by decide) rfl
    have g127 : (x130.toInt = x106.toInt ∨ (gi w0 1 (x106.toInt).toNat).toInt = 32) := by have q := g127; simp only [c107, c131] at q; first | with_reducible exact q | omega
    refine lv_pop hx hb dX12_numberHere_4 rfl ?_
    refine lv_aload_n hx hb dX12_numberHere_5 rfl (lv_at hl 0 rfl) ?_
    refine lv_aload_n hx hb dX12_numberHere_6 rfl (lv_at hl 0 rfl) ?_
    refine tk_geti hC hK hw hT hinX12 kM_at0 (by decide) rfl 14 (by decide) (List.mem_cons_of_mem _ uw_19_18) rfl rfl dX12_numberHere_7 (fun x184 c185 rx184 tx184 => ?_)
    refine wk_top x130 (c185.symm.trans c131) ?_
    replace hM := hM.rd (sI_at c131)
    refine tk_Vi hC hK hw hT hA hE hSR kM_at0 (by decide) rfl (kz_X12_isDigit_1 l adK adV dC dI cy ad B hB0 (Int.le_trans hB1 (by decide)) qr s1   x130 (show 0 ≤ x130.toInt by first | with_reducible assumption | omega) (show x130.toInt ≤ 400 by first | with_reducible assumption | omega) w110 H.size hT ) (cwV 1 hC.2.2.2.2 uV_RX12_112 rfl rfl rfl (by decide +kernel) ⟨Nat.le_of_ble_eq_true rfl, Nat.le_of_ble_eq_true rfl⟩) rfl hl.1 rfl (Nat.le_of_ble_eq_true rfl) dX12_numberHere_10 (fun r186 w188 H locs hp187 hw => ?_)
    obtain ⟨rfl, hv196, hg195⟩ := hp187
    rcases hg195 with ⟨rfl, ⟨x190, c191, rx190, tx190⟩⟩ | ⟨rfl, g192, ⟨x193, c194, rx193, tx193⟩⟩
    · replace hM := hM.call (r' := 0) hv196 (by decide)
      have ex190 : x190.toInt = x125.toInt := by rw [← c126.symm.trans c191]
      refine lv_if_ne (tgt := 26) hx hb dX12_numberHere_13 (by decide) (fun c => absurd (by decide) c) (fun _ => ?_)
      replace hM := hM.neg (by decide)
      refine lv_aload_n hx hb dX12_numberHere_16 rfl (lv_at hl 0 rfl) ?_
      refine lv_iconst (v := 0) hx hb dX12_numberHere_17 (by decide) ?_
      refine lv_aload_n hx hb dX12_numberHere_18 rfl (lv_at hl 0 rfl) ?_
      refine tk_geti hC hK hw hT hinX12 kM_at0 (by decide) rfl 14 (by decide) (List.mem_cons_of_mem _ uw_19_18) rfl rfl dX12_numberHere_19 (fun x197 c198 rx197 tx197 => ?_)
      refine wk_top x130 (c198.symm.trans c131) ?_
      replace hM := hM.rd (sI_at c131)
      refine tk_Vi hC hK hw hT hA hE hSR kM_at0 (by decide) rfl (kz_X12_fails_1 l adK adV dC dI cy ad B hB0 (Int.le_trans hB1 (by decide)) qr s1   0 (by decide) (by decide) x130 (show 0 ≤ x130.toInt by first | with_reducible assumption | omega) (show x130.toInt ≤ 400 by first | with_reducible assumption | omega) w110 H.size hT ) (cwV 2 hC.2.2.2.2 uV_RX12_115 rfl rfl rfl (by decide +kernel) ⟨Nat.le_of_ble_eq_true rfl, Nat.le_of_ble_eq_true rfl⟩) rfl hl.1 rfl (Nat.le_of_ble_eq_true rfl) dX12_numberHere_22 (fun r199 w201 H locs hp200 hw => ?_)
      obtain ⟨hT, k202, hv206, hg205⟩ := hp200
      try simp only [show (0 : Int32).toInt = 0 by decide] at hv206
      have hF := hF.tr k202 (by decide)
      have c207 := k202.gi kM_at0 (by decide) c126
      have c208 := k202.gi kM_at0 (by decide) c131
      obtain ⟨rfl, ⟨x203, c204, rx203, tx203⟩⟩ := hg205
      replace hM := hM.call (r' := 0) hv206 (by decide)
      exact tk_zret hC hr rfl hlocks hK ⟨hT, hF, hM.ret (by decide), (Or.inr (Or.inl ⟨rfl, ⟨x125, c207, (show 0 ≤ x125.toInt by first | with_reducible assumption | omega), (show x125.toInt ≤ 400 by first | with_reducible assumption | omega)⟩, ⟨x203, c204, (show 1 ≤ x203.toInt by first | with_reducible assumption | omega), (show x203.toInt ≤ 3205 by first | with_reducible assumption | omega)⟩⟩))⟩ hw dX12_numberHere_25
    · replace hM := hM.call (r' := 1) hv196 (by decide)
      have ex193 : x193.toInt = x125.toInt := by rw [← c126.symm.trans c194]
      refine lv_if_ne (tgt := 26) hx hb dX12_numberHere_13 (by decide) (fun _ => ?_) (fun c => absurd c (by decide))
      replace hM := hM.pos (by decide)
      refine lv_aload_n hx hb dX12_numberHere_26 rfl (lv_at hl 0 rfl) ?_
      refine tk_geti hC hK hw hT hinX12 kM_at0 (by decide) rfl 14 (by decide) (List.mem_cons_of_mem _ uw_19_18) rfl rfl dX12_numberHere_27 (fun x209 c210 rx209 tx209 => ?_)
      refine wk_top x130 (c210.symm.trans c131) ?_
      replace hM := hM.rd (sI_at c131)
      refine lv_istore_n (lv' := [(3, .int x130), (0, .ref (ad 0)), (1, .int 0), (2, .int 359)]) hx hb dX12_numberHere_30 rfl hl (by decide) rfl (fun ls hl => ?_)
      refine lv_iconst (v := 0) hx hb dX12_numberHere_31 (by decide) ?_
      refine lv_istore (lv' := [(4, .int 0), (3, .int x130), (0, .ref (ad 0)), (1, .int 0), (2, .int 359)]) hx hb dX12_numberHere_32 hl (by decide) rfl (fun ls hl => ?_)
      exact L34 ((400 - x130.toInt).toNat + 1) x130 0 x125 x130 H locs ls w110 (show 0 ≤ x130.toInt by first | with_reducible assumption | omega) (show x130.toInt ≤ 399 by first | with_reducible assumption | omega) (show 1 ≤ x125.toInt by first | with_reducible assumption | omega) (show x125.toInt ≤ 400 by first | with_reducible assumption | omega) (show 0 ≤ x130.toInt by first | with_reducible assumption | omega) (show x130.toInt ≤ 400 by first | with_reducible assumption | omega) (Nat.lt_succ_self _) hw hT hF c126 c131 hM (lv_sub hl [2, 3, 4, 1, 0] rfl)
abbrev Pz_X12_isSaintHere_1 (ad : Nat → Nat) (cy : Nat → ClassId) (B : Int) (qr : Nat) (s1 : Int) (a1 : Int32) (w0 : va_W) : Int32 → va_W → Prop := fun r u => TW ksM ad cy B qr 12 u ∧ FE ksM [(12, 9, 9), (12, 14, 14), (12, 15, 15), (12, 16, 16), (66, 0, 16)] w0 u ∧ Ev (fun n => m_X12_isSaintHere n 0 a1.toInt (sI w0)) (r.toInt, sI u) ∧ ((r = 0 ∧ (∃ y : Int32, gi u 0 9 = y ∧ 8 ≤ y.toInt ∧ y.toInt ≤ 8) ∧ (∃ y : Int32, gi u 0 15 = y ∧ 1 ≤ y.toInt ∧ y.toInt ≤ 3205)) ∨ (r = 0 ∧ (∃ y : Int32, gi u 0 1 = y ∧ 1 ≤ y.toInt ∧ y.toInt ≤ 400) ∧ (∃ y : Int32, gi u 0 9 = y ∧ 0 ≤ y.toInt ∧ y.toInt ≤ 7) ∧ (∃ y : Int32, gi u 0 15 = y ∧ 1 ≤ y.toInt ∧ y.toInt ≤ 3205)) ∨ (r = 0 ∧ (∃ y : Int32, gi u 0 1 = y ∧ 0 ≤ y.toInt ∧ y.toInt ≤ 400) ∧ (∃ y : Int32, gi u 0 9 = y ∧ 0 ≤ y.toInt ∧ y.toInt ≤ 7) ∧ (∃ y : Int32, gi u 0 15 = y ∧ 1 ≤ y.toInt ∧ y.toInt ≤ 3205)) ∨ (r = 1 ∧ (∃ y : Int32, gi u 0 1 = y ∧ 1 ≤ y.toInt ∧ y.toInt ≤ 400) ∧ (∃ y : Int32, gi u 0 7 = y ∧ 1 ≤ y.toInt ∧ y.toInt ≤ 10) ∧ (∃ y : Int32, gi u 0 9 = y ∧ 1 ≤ y.toInt ∧ y.toInt ≤ 8) ∧ (∃ y : Int32, gi u 0 16 = y ∧ 0 ≤ y.toInt ∧ y.toInt ≤ 359)))
set_option maxHeartbeats 4000000 in
set_option maxRecDepth 100000 in
theorem kz_X12_isSaintHere_1 (l : Launch) (adK adV : Nat → Nat) (dC : Nat → ClassId) (dI : Nat → Nat → Nat) (cy : Nat → ClassId) (ad : Nat → Nat) (B : Int) (hB0 : 100000 ≤ B) (hB1 : B ≤ 1073741824) (qr : Nat) (s1 : Int)  (a1 : Int32) (ra1 : 0 ≤ a1.toInt) (ta1 : a1.toInt ≤ 400) (w0 : va_W) (sz : Nat) (hT : TW ksM ad cy B qr 12 w0)  : Met l yX12_isSaintHere (wu yX12_isSaintHere cX12_isSaintHere 2 (some .boolean)) ({ frames := 3, cells := 0, slots := 0, locals := 61 }) (va_Pc [.ref (ad 0), .int a1] (wpreS adK adV dC dI cy sz w0)) (va_Qi (Pz_X12_isSaintHere_1 ad cy B qr s1 a1 w0) (fun u : va_W => wpost dC dI cy (va_A w0 sz) u) (va_A w0 sz)) 0 0 (va_A w0 sz) := by
  refine Met.ofW (cc := cX12_isSaintHere) (maxL := 2) (ret := (some .boolean)) (by decide) rfl ?_
  intro p e s m args below meth c s₁ Bk hml hv
  obtain ⟨rfl, ⟨hsz, hP, hK, hD0⟩, hE, hSR⟩ := hv
  have hx := Bk.exec
  have hb := Bk.bytes
  have hr := Bk.returns
  have hlocks := Bk.notSynchronized
  have hC : CallFix p m c cX12_isSaintHere 2 s _ (wu yX12_isSaintHere cX12_isSaintHere 2 (some .boolean)) RX12 := ⟨hx, hb, hml, findClass_of_methodNamed Bk.named, atoms_spec (ws := (wu yX12_isSaintHere cX12_isSaintHere 2 (some .boolean))) Bk.pre⟩
  subst hsz
  have hD := hD0.self (sz := s.heap.size)
  generalize hAe : va_A w0 s.heap.size = A at hD hE ⊢
  have hA : ∀ q : Nat, s.heap.size ≤ q → A q := fun q h => by rw [← hAe]; exact Or.inr h
  have hw : Wd dC dI A s.heap s.heap [] w0 := ⟨hP, hD, va_S.rf⟩
  have hF : FE ksM [(12, 9, 9), (12, 14, 14), (12, 15, 15), (12, 16, 16), (66, 0, 16)] w0 w0 := FE.rf
  have hl := lv_entry ([.ref (ad 0), .int a1]) (n := 2) (Nat.le_of_ble_eq_true rfl)
  rw [lg_entry_eq]
  generalize (lg_sl ([.ref (ad 0), .int a1]) ++ List.replicate (2 - (lg_sl ([.ref (ad 0), .int a1])).length) Slot.unset).toArray = ls at hl ⊢
  have hl : lv_has ls 2 [(0, .ref (ad 0)), (1, .int a1)] := hl
  generalize hloc : ([] : List Loc) = locs at hw ⊢
  have hinX12 : ∀ w ∈ u_ws RX12 TX12 42, w ∈ (wu yX12_isSaintHere cX12_isSaintHere 2 (some .boolean)) := fun _ h => List.mem_cons_of_mem _ (up_71 h)
  have hM : TT (fun n => m_X12_isSaintHere n 0 a1.toInt (sI w0)) (fun n => m_X12_isSaintHere n 0 a1.toInt (sI w0)) := TT.rf
  refine lv_aload_n hx hb dX12_isSaintHere_0 rfl (lv_at hl 0 rfl) ?_
  refine tk_geti hC hK hw hT hinX12 kM_at0 (by decide) rfl 9 (by decide) (List.mem_cons_of_mem _ uw_19_10) rfl rfl dX12_isSaintHere_1 (fun x1 c2 rx1 tx1 => ?_)
  replace hM := hM.rd (sI_at c2)
  refine lv_bipush (v := 8) hx hb dX12_isSaintHere_4 (by decide) ?_
  refine lv_icmp_ne (tgt := 16) hx hb dX12_isSaintHere_6 (by decide) (fun c3 => ?_) (fun c3 => ?_)
  · have c3 : ¬ x1.toInt = (8 : Int) := wk_eqF c3
    replace hM := hM.pos c3
    refine lv_aload_n hx hb dX12_isSaintHere_16 rfl (lv_at hl 0 rfl) ?_
    refine tk_Vv hC hK hw hT hA hE hSR kM_at0 (by decide) rfl (kz_X12_passWord_1 l adK adV dC dI cy ad B hB0 (Int.le_trans hB1 (by decide)) qr s1    w0 s.heap.size hT ) (cwV 0 hC.2.2.2.2 uV_RX12_109 rfl rfl rfl (by decide +kernel) ⟨Nat.le_of_ble_eq_true rfl, Nat.le_of_ble_eq_true rfl⟩) rfl hl.1 rfl (Nat.le_of_ble_eq_true rfl) dX12_isSaintHere_17 (fun w6 H locs hp5 hw => ?_)
    obtain ⟨hT, k7, hv15, hg14⟩ := hp5
    have hF := hF.tr k7 (by decide)
    have c16 := k7.gi kM_at0 (by decide) c2
    rcases hg14 with ⟨⟨x8, c9, rx8, tx8⟩, ⟨x10, c11, rx10, tx10⟩⟩ | ⟨x12, c13, rx12, tx12⟩
    · replace hM := hM.call hv15 rfl
      refine lv_aload_n hx hb dX12_isSaintHere_20 rfl (lv_at hl 0 rfl) ?_
      refine lv_iconst (v := 0) hx hb dX12_isSaintHere_21 (by decide) ?_
      refine lv_aload_n hx hb dX12_isSaintHere_22 rfl (lv_at hl 0 rfl) ?_
      refine tk_geti hC hK hw hT hinX12 kM_at0 (by decide) rfl 7 (by decide) (List.mem_cons_of_mem _ uw_19_8) rfl rfl dX12_isSaintHere_23 (fun x17 c18 rx17 tx17 => ?_)
      replace hM := hM.rd (sI_at c18)
      refine lv_iconst (v := 1) hx hb dX12_isSaintHere_26 (by decide) ?_
      refine lv_isub hx hb dX12_isSaintHere_27 ?_
      refine lv_topi (fun x19 ex19 => ?_)
      have ezx19 := ex19
      have ex19 : x19.toInt = x17.toInt - (1 : Int) := by rw [ex19]; exact wk_sub (show (-2147483648) ≤ x17.toInt - (1 : Int) by omega) (show x17.toInt - (1 : Int) ≤ 2147483647 by omega)
      replace hM := hM.lt ex19.symm
      refine tk_Vi hC hK hw hT hA hE hSR kM_at0 (by decide) rfl (kz_X12_numberHere_4 l adK adV dC dI cy ad B hB0 (Int.le_trans hB1 (by decide)) qr s1   x19 (show (-1) ≤ x19.toInt by first | with_reducible assumption | omega) (show x19.toInt ≤ 9 by first | with_reducible assumption | omega) w6 H.size hT ) (cwV 2 hC.2.2.2.2 uV_RX12_167 rfl rfl rfl (by decide +kernel) ⟨Nat.le_of_ble_eq_true rfl, Nat.le_of_ble_eq_true rfl⟩) rfl hl.1 rfl (Nat.le_of_ble_eq_true rfl) dX12_isSaintHere_28 (fun r20 w22 H locs hp21 hw => ?_)
      obtain ⟨hT, k23, hv38, hg37⟩ := hp21
      have hF := hF.tr k23 (by decide)
      have c39 := k23.gi kM_at0 (by decide) c16
      have c40 := k23.gi kM_at0 (by decide) c9
      have c41 := k23.gi kM_at0 (by decide) c18
      rcases hg37 with ⟨rfl, ⟨x24, c25, rx24, tx24⟩, ⟨x26, c27, rx26, tx26⟩⟩ | ⟨rfl, ⟨x28, c29, rx28, tx28⟩, ⟨x30, c31, rx30, tx30⟩⟩ | ⟨rfl, g32, ⟨x33, c34, rx33, tx33⟩, ⟨x35, c36, rx35, tx35⟩⟩
      · replace hM := hM.call (r' := 0) hv38 (by decide)
        have ex24 : x24.toInt = x8.toInt := by rw [← c40.symm.trans c25]
        refine lv_if_ne (tgt := 36) hx hb dX12_isSaintHere_31 (by decide) (fun c => absurd (by decide) c) (fun _ => ?_)
        replace hM := hM.neg (by decide)
        refine lv_iconst (v := 0) hx hb dX12_isSaintHere_34 (by decide) ?_
        exact tk_zret hC hr rfl hlocks hK ⟨hT, hF, hM.ret (by decide), (Or.inr (Or.inl ⟨rfl, ⟨x8, c40, (show 1 ≤ x8.toInt by first | with_reducible assumption | omega), (show x8.toInt ≤ 400 by first | with_reducible assumption | omega)⟩, ⟨x1, c39, (show 0 ≤ x1.toInt from rx1), (show x1.toInt ≤ 7 by first | with_reducible assumption | omega)⟩, ⟨x26, c27, (show 1 ≤ x26.toInt by first | with_reducible assumption | omega), (show x26.toInt ≤ 3205 by first | with_reducible assumption | omega)⟩⟩))⟩ hw dX12_isSaintHere_35
      · replace hM := hM.call (r' := 0) hv38 (by decide)
        have ex28 : x28.toInt = x8.toInt := by rw [← c40.symm.trans c29]
        refine lv_if_ne (tgt := 36) hx hb dX12_isSaintHere_31 (by decide) (fun c => absurd (by decide) c) (fun _ => ?_)
        replace hM := hM.neg (by decide)
        refine lv_iconst (v := 0) hx hb dX12_isSaintHere_34 (by decide) ?_
        exact tk_zret hC hr rfl hlocks hK ⟨hT, hF, hM.ret (by decide), (Or.inr (Or.inl ⟨rfl, ⟨x8, c40, (show 1 ≤ x8.toInt by first | with_reducible assumption | omega), (show x8.toInt ≤ 400 by first | with_reducible assumption | omega)⟩, ⟨x1, c39, (show 0 ≤ x1.toInt from rx1), (show x1.toInt ≤ 7 by first | with_reducible assumption | omega)⟩, ⟨x30, c31, (show 1 ≤ x30.toInt by first | with_reducible assumption | omega), (show x30.toInt ≤ 3205 by first | with_reducible assumption | omega)⟩⟩))⟩ hw dX12_isSaintHere_35
      · replace hM := hM.call (r' := 1) hv38 (by decide)
        have ex33 : x33.toInt = x8.toInt := by rw [← c40.symm.trans c34]
        refine lv_if_ne (tgt := 36) hx hb dX12_isSaintHere_31 (by decide) (fun _ => ?_) (fun c => absurd c (by decide))
        replace hM := hM.pos (by decide)
        refine lv_aload_n hx hb dX12_isSaintHere_36 rfl (lv_at hl 0 rfl) ?_
        refine tk_getA hC hK hw hT hinX12 kM_at0 (by decide) rfl 12 (by decide) (List.mem_cons_of_mem _ uw_6_20) rfl rfl dX12_isSaintHere_37 ?_
        refine lv_iconst (v := 2) hx hb dX12_isSaintHere_40 (by decide) ?_
        refine lv_aload_n hx hb dX12_isSaintHere_41 rfl (lv_at hl 0 rfl) ?_
        refine tk_geti hC hK hw hT hinX12 kM_at0 (by decide) rfl 9 (by decide) (List.mem_cons_of_mem _ uw_19_10) rfl rfl dX12_isSaintHere_42 (fun x42 c43 rx42 tx42 => ?_)
        refine wk_top x1 (c43.symm.trans c39) ?_
        replace hM := hM.rd (sI_at c39)
        refine lv_imul hx hb dX12_isSaintHere_45 ?_
        refine lv_topi (fun x44 ex44 => ?_)
        have ezx44 := ex44
        have ex44 : x44.toInt = (2 : Int) * x1.toInt := by rw [ex44]; exact wk_mul (show (-2147483648) ≤ (2 : Int) * x1.toInt by omega) (show (2 : Int) * x1.toInt ≤ 2147483647 by omega)
        replace hM := hM.lt ex44.symm
        refine lv_aload_n hx hb dX12_isSaintHere_46 rfl (lv_at hl 0 rfl) ?_
        refine tk_geti hC hK hw hT hinX12 kM_at0 (by decide) rfl 16 (by decide) (List.mem_cons_of_mem _ uw_21_12) rfl rfl dX12_isSaintHere_47 (fun x45 c46 rx45 tx45 => ?_)
        refine wk_top x35 (c46.symm.trans c36) ?_
        replace hM := hM.rd (sI_at c36)
        refine tk_iast hC hK hw hT kM_at7 (by decide) rfl rfl (show 0 ≤ x44.toInt by first | with_reducible assumption | omega) (show x44.toInt < 16 by first | with_reducible assumption | omega) (wk_i32 x35).1 (wk_i32 x35).2 dX12_isSaintHere_50 (fun H locs w47 hw hT k49 c48 => ?_)
        replace hM := hM.wr (sI_up k49 c48)
        have hF := hF.put kM_at7 (inE_of (a := 0) (b := 16) (by decide) (show 0 ≤ x44.toInt.toNat by omega) (show x44.toInt.toNat ≤ 16 by omega)) k49
        have c50 := k49.gi (Or.inl (tk_ne kM_at0 kM_at7 (by decide))) c39
        have c51 := k49.gi (Or.inl (tk_ne kM_at0 kM_at7 (by decide))) c40
        have c52 := k49.gi (Or.inl (tk_ne kM_at0 kM_at7 (by decide))) c41
        have c53 := k49.gi (Or.inl (tk_ne kM_at0 kM_at7 (by decide))) c36
        refine lv_aload_n hx hb dX12_isSaintHere_51 rfl (lv_at hl 0 rfl) ?_
        refine lv_iconst (v := 0) hx hb dX12_isSaintHere_52 (by decide) ?_
        refine lv_sipush (v := 359) hx hb dX12_isSaintHere_53 (by decide) ?_
        refine tk_Vi hC hK hw hT hA hE hSR kM_at0 (by decide) rfl (kz_X12_numberHere_5 l adK adV dC dI cy ad B hB0 (Int.le_trans hB1 (by decide)) qr s1    w47 H.size hT ) (cwV 2 hC.2.2.2.2 uV_RX12_167 rfl rfl rfl (by decide +kernel) ⟨Nat.le_of_ble_eq_true rfl, Nat.le_of_ble_eq_true rfl⟩) rfl hl.1 rfl (Nat.le_of_ble_eq_true rfl) dX12_isSaintHere_56 (fun r54 w56 H locs hp55 hw => ?_)
        obtain ⟨hT, k57, hv71, hg70⟩ := hp55
        have hF := hF.tr k57 (by decide)
        have c72 := k57.gi kM_at0 (by decide) c50
        have c73 := k57.gi kM_at0 (by decide) c51
        have c74 := k57.gi kM_at0 (by decide) c52
        rcases hg70 with ⟨rfl, ⟨x58, c59, rx58, tx58⟩, ⟨x60, c61, rx60, tx60⟩⟩ | ⟨rfl, ⟨x62, c63, rx62, tx62⟩, ⟨x64, c65, rx64, tx64⟩⟩ | ⟨rfl, ⟨x66, c67, rx66, tx66⟩, ⟨x68, c69, rx68, tx68⟩⟩
        · replace hM := hM.call (r' := 0) hv71 (by decide)
          have ex58 : x58.toInt = x8.toInt := by rw [← c73.symm.trans c59]
          refine lv_if_ne (tgt := 64) hx hb dX12_isSaintHere_59 (by decide) (fun c => absurd (by decide) c) (fun _ => ?_)
          replace hM := hM.neg (by decide)
          refine lv_iconst (v := 0) hx hb dX12_isSaintHere_62 (by decide) ?_
          exact tk_zret hC hr rfl hlocks hK ⟨hT, hF, hM.ret (by decide), (Or.inr (Or.inl ⟨rfl, ⟨x8, c73, (show 1 ≤ x8.toInt by first | with_reducible assumption | omega), (show x8.toInt ≤ 400 by first | with_reducible assumption | omega)⟩, ⟨x1, c72, (show 0 ≤ x1.toInt from rx1), (show x1.toInt ≤ 7 by first | with_reducible assumption | omega)⟩, ⟨x60, c61, (show 1 ≤ x60.toInt by first | with_reducible assumption | omega), (show x60.toInt ≤ 3205 by first | with_reducible assumption | omega)⟩⟩))⟩ hw dX12_isSaintHere_63
        · replace hM := hM.call (r' := 0) hv71 (by decide)
          have ex62 : x62.toInt = x8.toInt := by rw [← c73.symm.trans c63]
          refine lv_if_ne (tgt := 64) hx hb dX12_isSaintHere_59 (by decide) (fun c => absurd (by decide) c) (fun _ => ?_)
          replace hM := hM.neg (by decide)
          refine lv_iconst (v := 0) hx hb dX12_isSaintHere_62 (by decide) ?_
          exact tk_zret hC hr rfl hlocks hK ⟨hT, hF, hM.ret (by decide), (Or.inr (Or.inl ⟨rfl, ⟨x8, c73, (show 1 ≤ x8.toInt by first | with_reducible assumption | omega), (show x8.toInt ≤ 400 by first | with_reducible assumption | omega)⟩, ⟨x1, c72, (show 0 ≤ x1.toInt from rx1), (show x1.toInt ≤ 7 by first | with_reducible assumption | omega)⟩, ⟨x64, c65, (show 1 ≤ x64.toInt by first | with_reducible assumption | omega), (show x64.toInt ≤ 3205 by first | with_reducible assumption | omega)⟩⟩))⟩ hw dX12_isSaintHere_63
        · replace hM := hM.call (r' := 1) hv71 (by decide)
          have ex66 : x66.toInt = x8.toInt := by rw [← c73.symm.trans c67]
          refine lv_if_ne (tgt := 64) hx hb dX12_isSaintHere_59 (by decide) (fun _ => ?_) (fun c => absurd c (by decide))
          replace hM := hM.pos (by decide)
          refine lv_aload_n hx hb dX12_isSaintHere_64 rfl (lv_at hl 0 rfl) ?_
          refine tk_getA hC hK hw hT hinX12 kM_at0 (by decide) rfl 12 (by decide) (List.mem_cons_of_mem _ uw_6_20) rfl rfl dX12_isSaintHere_65 ?_
          refine lv_iconst (v := 2) hx hb dX12_isSaintHere_68 (by decide) ?_
          refine lv_aload_n hx hb dX12_isSaintHere_69 rfl (lv_at hl 0 rfl) ?_
          refine tk_geti hC hK hw hT hinX12 kM_at0 (by decide) rfl 9 (by decide) (List.mem_cons_of_mem _ uw_19_10) rfl rfl dX12_isSaintHere_70 (fun x75 c76 rx75 tx75 => ?_)
          refine wk_top x1 (c76.symm.trans c72) ?_
          replace hM := hM.rd (sI_at c72)
          refine lv_imul hx hb dX12_isSaintHere_73 ?_
          refine lv_topi (fun x77 ex77 => ?_)
          have ezx77 := ex77
          have ex77 : x77.toInt = (2 : Int) * x1.toInt := by rw [ex77]; exact wk_mul (show (-2147483648) ≤ (2 : Int) * x1.toInt by omega) (show (2 : Int) * x1.toInt ≤ 2147483647 by omega)
          replace hM := hM.lt ex77.symm
          refine lv_iconst (v := 1) hx hb dX12_isSaintHere_74 (by decide) ?_
          refine lv_iadd hx hb dX12_isSaintHere_75 ?_
          refine lv_topi (fun x78 ex78 => ?_)
          have ezx78 := ex78
          have ex78 : x78.toInt = x77.toInt + (1 : Int) := by rw [ex78]; exact wk_add (show (-2147483648) ≤ x77.toInt + (1 : Int) by omega) (show x77.toInt + (1 : Int) ≤ 2147483647 by omega)
          replace hM := hM.lt ex78.symm
          refine lv_aload_n hx hb dX12_isSaintHere_76 rfl (lv_at hl 0 rfl) ?_
          refine tk_geti hC hK hw hT hinX12 kM_at0 (by decide) rfl 16 (by decide) (List.mem_cons_of_mem _ uw_21_12) rfl rfl dX12_isSaintHere_77 (fun x79 c80 rx79 tx79 => ?_)
          refine wk_top x68 (c80.symm.trans c69) ?_
          replace hM := hM.rd (sI_at c69)
          refine tk_iast hC hK hw hT kM_at7 (by decide) rfl rfl (show 0 ≤ x78.toInt by first | with_reducible assumption | omega) (show x78.toInt < 16 by first | with_reducible assumption | omega) (wk_i32 x68).1 (wk_i32 x68).2 dX12_isSaintHere_80 (fun H locs w81 hw hT k83 c82 => ?_)
          replace hM := hM.wr (sI_up k83 c82)
          have hF := hF.put kM_at7 (inE_of (a := 0) (b := 16) (by decide) (show 0 ≤ x78.toInt.toNat by omega) (show x78.toInt.toNat ≤ 16 by omega)) k83
          have c84 := k83.gi (Or.inl (tk_ne kM_at0 kM_at7 (by decide))) c72
          have c85 := k83.gi (Or.inl (tk_ne kM_at0 kM_at7 (by decide))) c73
          have c86 := k83.gi (Or.inl (tk_ne kM_at0 kM_at7 (by decide))) c74
          have c87 := k83.gi (Or.inl (tk_ne kM_at0 kM_at7 (by decide))) c69
          refine lv_aload_n hx hb dX12_isSaintHere_81 rfl (lv_at hl 0 rfl) ?_
          refine lv_dup hx hb dX12_isSaintHere_82 rfl ?_
          refine tk_geti hC hK hw hT hinX12 kM_at0 (by decide) rfl 9 (by decide) (List.mem_cons_of_mem _ uw_19_10) rfl rfl dX12_isSaintHere_83 (fun x88 c89 rx88 tx88 => ?_)
          refine wk_top x1 (c89.symm.trans c84) ?_
          replace hM := hM.rd (sI_at c84)
          refine lv_iconst (v := 1) hx hb dX12_isSaintHere_86 (by decide) ?_
          refine lv_iadd hx hb dX12_isSaintHere_87 ?_
          refine lv_topi (fun x90 ex90 => ?_)
          have ezx90 := ex90
          have ex90 : x90.toInt = x1.toInt + (1 : Int) := by rw [ex90]; exact wk_add (show (-2147483648) ≤ x1.toInt + (1 : Int) by omega) (show x1.toInt + (1 : Int) ≤ 2147483647 by omega)
          replace hM := hM.lt ex90.symm
          refine tk_puti hC hK hw hT hinX12 tyX12_ok nmX12 kM_at0 (by decide) rfl rfl 9 (by decide) (List.mem_cons_of_mem _ uw_19_10) rfl rfl rfl rfl (show 0 ≤ x90.toInt by first | with_reducible assumption | omega) (show x90.toInt ≤ 8 by first | with_reducible assumption | omega) dX12_isSaintHere_88 (fun H locs w91 hw hT k93 c92 => ?_)
          replace hM := hM.wr (sI_up k93 c92)
          have hF := hF.put kM_at0 (k := 9) (by decide) k93
          have c94 := k93.gi (Or.inr (by decide)) c85
          have c95 := k93.gi (Or.inr (by decide)) c86
          have c96 := k93.gi (Or.inr (by decide)) c87
          refine lv_iconst (v := 1) hx hb dX12_isSaintHere_91 (by decide) ?_
          exact tk_zret hC hr rfl hlocks hK ⟨hT, hF, hM.ret (by decide), (Or.inr (Or.inr (Or.inr ⟨rfl, ⟨x8, c94, (show 1 ≤ x8.toInt by first | with_reducible assumption | omega), (show x8.toInt ≤ 400 by first | with_reducible assumption | omega)⟩, ⟨x17, c95, (show 1 ≤ x17.toInt by first | with_reducible assumption | omega), (show x17.toInt ≤ 10 from tx17)⟩, ⟨x90, c92, (show 1 ≤ x90.toInt by first | with_reducible assumption | omega), (show x90.toInt ≤ 8 by first | with_reducible assumption | omega)⟩, ⟨x68, c96, (show 0 ≤ x68.toInt by first | with_reducible assumption | omega), (show x68.toInt ≤ 359 by first | with_reducible assumption | omega)⟩⟩)))⟩ hw dX12_isSaintHere_92
    · replace hM := hM.call hv15 rfl
      refine lv_aload_n hx hb dX12_isSaintHere_20 rfl (lv_at hl 0 rfl) ?_
      refine lv_iconst (v := 0) hx hb dX12_isSaintHere_21 (by decide) ?_
      refine lv_aload_n hx hb dX12_isSaintHere_22 rfl (lv_at hl 0 rfl) ?_
      refine tk_geti hC hK hw hT hinX12 kM_at0 (by decide) rfl 7 (by decide) (List.mem_cons_of_mem _ uw_19_8) rfl rfl dX12_isSaintHere_23 (fun x97 c98 rx97 tx97 => ?_)
      replace hM := hM.rd (sI_at c98)
      refine lv_iconst (v := 1) hx hb dX12_isSaintHere_26 (by decide) ?_
      refine lv_isub hx hb dX12_isSaintHere_27 ?_
      refine lv_topi (fun x99 ex99 => ?_)
      have ezx99 := ex99
      have ex99 : x99.toInt = x97.toInt - (1 : Int) := by rw [ex99]; exact wk_sub (show (-2147483648) ≤ x97.toInt - (1 : Int) by omega) (show x97.toInt - (1 : Int) ≤ 2147483647 by omega)
      replace hM := hM.lt ex99.symm
      refine tk_Vi hC hK hw hT hA hE hSR kM_at0 (by decide) rfl (kz_X12_numberHere_4 l adK adV dC dI cy ad B hB0 (Int.le_trans hB1 (by decide)) qr s1   x99 (show (-1) ≤ x99.toInt by first | with_reducible assumption | omega) (show x99.toInt ≤ 9 by first | with_reducible assumption | omega) w6 H.size hT ) (cwV 2 hC.2.2.2.2 uV_RX12_167 rfl rfl rfl (by decide +kernel) ⟨Nat.le_of_ble_eq_true rfl, Nat.le_of_ble_eq_true rfl⟩) rfl hl.1 rfl (Nat.le_of_ble_eq_true rfl) dX12_isSaintHere_28 (fun r100 w102 H locs hp101 hw => ?_)
      obtain ⟨hT, k103, hv118, hg117⟩ := hp101
      have hF := hF.tr k103 (by decide)
      have c119 := k103.gi kM_at0 (by decide) c16
      have c120 := k103.gi kM_at0 (by decide) c13
      have c121 := k103.gi kM_at0 (by decide) c98
      rcases hg117 with ⟨rfl, ⟨x104, c105, rx104, tx104⟩, ⟨x106, c107, rx106, tx106⟩⟩ | ⟨rfl, ⟨x108, c109, rx108, tx108⟩, ⟨x110, c111, rx110, tx110⟩⟩ | ⟨rfl, g112, ⟨x113, c114, rx113, tx113⟩, ⟨x115, c116, rx115, tx115⟩⟩
      · replace hM := hM.call (r' := 0) hv118 (by decide)
        have ex104 : x104.toInt = x12.toInt := by rw [← c120.symm.trans c105]
        refine lv_if_ne (tgt := 36) hx hb dX12_isSaintHere_31 (by decide) (fun c => absurd (by decide) c) (fun _ => ?_)
        replace hM := hM.neg (by decide)
        refine lv_iconst (v := 0) hx hb dX12_isSaintHere_34 (by decide) ?_
        exact tk_zret hC hr rfl hlocks hK ⟨hT, hF, hM.ret (by decide), (Or.inr (Or.inl ⟨rfl, ⟨x12, c120, (show 1 ≤ x12.toInt by first | with_reducible assumption | omega), (show x12.toInt ≤ 400 by first | with_reducible assumption | omega)⟩, ⟨x1, c119, (show 0 ≤ x1.toInt from rx1), (show x1.toInt ≤ 7 by first | with_reducible assumption | omega)⟩, ⟨x106, c107, (show 1 ≤ x106.toInt by first | with_reducible assumption | omega), (show x106.toInt ≤ 3205 by first | with_reducible assumption | omega)⟩⟩))⟩ hw dX12_isSaintHere_35
      · replace hM := hM.call (r' := 0) hv118 (by decide)
        have ex108 : x108.toInt = x12.toInt := by rw [← c120.symm.trans c109]
        refine lv_if_ne (tgt := 36) hx hb dX12_isSaintHere_31 (by decide) (fun c => absurd (by decide) c) (fun _ => ?_)
        replace hM := hM.neg (by decide)
        refine lv_iconst (v := 0) hx hb dX12_isSaintHere_34 (by decide) ?_
        exact tk_zret hC hr rfl hlocks hK ⟨hT, hF, hM.ret (by decide), (Or.inr (Or.inr (Or.inl ⟨rfl, ⟨x12, c120, (show 0 ≤ x12.toInt by first | with_reducible assumption | omega), (show x12.toInt ≤ 400 by first | with_reducible assumption | omega)⟩, ⟨x1, c119, (show 0 ≤ x1.toInt from rx1), (show x1.toInt ≤ 7 by first | with_reducible assumption | omega)⟩, ⟨x110, c111, (show 1 ≤ x110.toInt by first | with_reducible assumption | omega), (show x110.toInt ≤ 3205 by first | with_reducible assumption | omega)⟩⟩)))⟩ hw dX12_isSaintHere_35
      · replace hM := hM.call (r' := 1) hv118 (by decide)
        have ex113 : x113.toInt = x12.toInt := by rw [← c120.symm.trans c114]
        refine lv_if_ne (tgt := 36) hx hb dX12_isSaintHere_31 (by decide) (fun _ => ?_) (fun c => absurd c (by decide))
        replace hM := hM.pos (by decide)
        refine lv_aload_n hx hb dX12_isSaintHere_36 rfl (lv_at hl 0 rfl) ?_
        refine tk_getA hC hK hw hT hinX12 kM_at0 (by decide) rfl 12 (by decide) (List.mem_cons_of_mem _ uw_6_20) rfl rfl dX12_isSaintHere_37 ?_
        refine lv_iconst (v := 2) hx hb dX12_isSaintHere_40 (by decide) ?_
        refine lv_aload_n hx hb dX12_isSaintHere_41 rfl (lv_at hl 0 rfl) ?_
        refine tk_geti hC hK hw hT hinX12 kM_at0 (by decide) rfl 9 (by decide) (List.mem_cons_of_mem _ uw_19_10) rfl rfl dX12_isSaintHere_42 (fun x122 c123 rx122 tx122 => ?_)
        refine wk_top x1 (c123.symm.trans c119) ?_
        replace hM := hM.rd (sI_at c119)
        refine lv_imul hx hb dX12_isSaintHere_45 ?_
        refine lv_topi (fun x124 ex124 => ?_)
        have ezx124 := ex124
        have ex124 : x124.toInt = (2 : Int) * x1.toInt := by rw [ex124]; exact wk_mul (show (-2147483648) ≤ (2 : Int) * x1.toInt by omega) (show (2 : Int) * x1.toInt ≤ 2147483647 by omega)
        replace hM := hM.lt ex124.symm
        refine lv_aload_n hx hb dX12_isSaintHere_46 rfl (lv_at hl 0 rfl) ?_
        refine tk_geti hC hK hw hT hinX12 kM_at0 (by decide) rfl 16 (by decide) (List.mem_cons_of_mem _ uw_21_12) rfl rfl dX12_isSaintHere_47 (fun x125 c126 rx125 tx125 => ?_)
        refine wk_top x115 (c126.symm.trans c116) ?_
        replace hM := hM.rd (sI_at c116)
        refine tk_iast hC hK hw hT kM_at7 (by decide) rfl rfl (show 0 ≤ x124.toInt by first | with_reducible assumption | omega) (show x124.toInt < 16 by first | with_reducible assumption | omega) (wk_i32 x115).1 (wk_i32 x115).2 dX12_isSaintHere_50 (fun H locs w127 hw hT k129 c128 => ?_)
        replace hM := hM.wr (sI_up k129 c128)
        have hF := hF.put kM_at7 (inE_of (a := 0) (b := 16) (by decide) (show 0 ≤ x124.toInt.toNat by omega) (show x124.toInt.toNat ≤ 16 by omega)) k129
        have c130 := k129.gi (Or.inl (tk_ne kM_at0 kM_at7 (by decide))) c119
        have c131 := k129.gi (Or.inl (tk_ne kM_at0 kM_at7 (by decide))) c120
        have c132 := k129.gi (Or.inl (tk_ne kM_at0 kM_at7 (by decide))) c121
        have c133 := k129.gi (Or.inl (tk_ne kM_at0 kM_at7 (by decide))) c116
        refine lv_aload_n hx hb dX12_isSaintHere_51 rfl (lv_at hl 0 rfl) ?_
        refine lv_iconst (v := 0) hx hb dX12_isSaintHere_52 (by decide) ?_
        refine lv_sipush (v := 359) hx hb dX12_isSaintHere_53 (by decide) ?_
        refine tk_Vi hC hK hw hT hA hE hSR kM_at0 (by decide) rfl (kz_X12_numberHere_5 l adK adV dC dI cy ad B hB0 (Int.le_trans hB1 (by decide)) qr s1    w127 H.size hT ) (cwV 2 hC.2.2.2.2 uV_RX12_167 rfl rfl rfl (by decide +kernel) ⟨Nat.le_of_ble_eq_true rfl, Nat.le_of_ble_eq_true rfl⟩) rfl hl.1 rfl (Nat.le_of_ble_eq_true rfl) dX12_isSaintHere_56 (fun r134 w136 H locs hp135 hw => ?_)
        obtain ⟨hT, k137, hv151, hg150⟩ := hp135
        have hF := hF.tr k137 (by decide)
        have c152 := k137.gi kM_at0 (by decide) c130
        have c153 := k137.gi kM_at0 (by decide) c131
        have c154 := k137.gi kM_at0 (by decide) c132
        rcases hg150 with ⟨rfl, ⟨x138, c139, rx138, tx138⟩, ⟨x140, c141, rx140, tx140⟩⟩ | ⟨rfl, ⟨x142, c143, rx142, tx142⟩, ⟨x144, c145, rx144, tx144⟩⟩ | ⟨rfl, ⟨x146, c147, rx146, tx146⟩, ⟨x148, c149, rx148, tx148⟩⟩
        · replace hM := hM.call (r' := 0) hv151 (by decide)
          have ex138 : x138.toInt = x12.toInt := by rw [← c153.symm.trans c139]
          refine lv_if_ne (tgt := 64) hx hb dX12_isSaintHere_59 (by decide) (fun c => absurd (by decide) c) (fun _ => ?_)
          replace hM := hM.neg (by decide)
          refine lv_iconst (v := 0) hx hb dX12_isSaintHere_62 (by decide) ?_
          exact tk_zret hC hr rfl hlocks hK ⟨hT, hF, hM.ret (by decide), (Or.inr (Or.inl ⟨rfl, ⟨x12, c153, (show 1 ≤ x12.toInt by first | with_reducible assumption | omega), (show x12.toInt ≤ 400 by first | with_reducible assumption | omega)⟩, ⟨x1, c152, (show 0 ≤ x1.toInt from rx1), (show x1.toInt ≤ 7 by first | with_reducible assumption | omega)⟩, ⟨x140, c141, (show 1 ≤ x140.toInt by first | with_reducible assumption | omega), (show x140.toInt ≤ 3205 by first | with_reducible assumption | omega)⟩⟩))⟩ hw dX12_isSaintHere_63
        · replace hM := hM.call (r' := 0) hv151 (by decide)
          have ex142 : x142.toInt = x12.toInt := by rw [← c153.symm.trans c143]
          refine lv_if_ne (tgt := 64) hx hb dX12_isSaintHere_59 (by decide) (fun c => absurd (by decide) c) (fun _ => ?_)
          replace hM := hM.neg (by decide)
          refine lv_iconst (v := 0) hx hb dX12_isSaintHere_62 (by decide) ?_
          exact tk_zret hC hr rfl hlocks hK ⟨hT, hF, hM.ret (by decide), (Or.inr (Or.inl ⟨rfl, ⟨x12, c153, (show 1 ≤ x12.toInt by first | with_reducible assumption | omega), (show x12.toInt ≤ 400 by first | with_reducible assumption | omega)⟩, ⟨x1, c152, (show 0 ≤ x1.toInt from rx1), (show x1.toInt ≤ 7 by first | with_reducible assumption | omega)⟩, ⟨x144, c145, (show 1 ≤ x144.toInt by first | with_reducible assumption | omega), (show x144.toInt ≤ 3205 by first | with_reducible assumption | omega)⟩⟩))⟩ hw dX12_isSaintHere_63
        · replace hM := hM.call (r' := 1) hv151 (by decide)
          have ex146 : x146.toInt = x12.toInt := by rw [← c153.symm.trans c147]
          refine lv_if_ne (tgt := 64) hx hb dX12_isSaintHere_59 (by decide) (fun _ => ?_) (fun c => absurd c (by decide))
          replace hM := hM.pos (by decide)
          refine lv_aload_n hx hb dX12_isSaintHere_64 rfl (lv_at hl 0 rfl) ?_
          refine tk_getA hC hK hw hT hinX12 kM_at0 (by decide) rfl 12 (by decide) (List.mem_cons_of_mem _ uw_6_20) rfl rfl dX12_isSaintHere_65 ?_
          refine lv_iconst (v := 2) hx hb dX12_isSaintHere_68 (by decide) ?_
          refine lv_aload_n hx hb dX12_isSaintHere_69 rfl (lv_at hl 0 rfl) ?_
          refine tk_geti hC hK hw hT hinX12 kM_at0 (by decide) rfl 9 (by decide) (List.mem_cons_of_mem _ uw_19_10) rfl rfl dX12_isSaintHere_70 (fun x155 c156 rx155 tx155 => ?_)
          refine wk_top x1 (c156.symm.trans c152) ?_
          replace hM := hM.rd (sI_at c152)
          refine lv_imul hx hb dX12_isSaintHere_73 ?_
          refine lv_topi (fun x157 ex157 => ?_)
          have ezx157 := ex157
          have ex157 : x157.toInt = (2 : Int) * x1.toInt := by rw [ex157]; exact wk_mul (show (-2147483648) ≤ (2 : Int) * x1.toInt by omega) (show (2 : Int) * x1.toInt ≤ 2147483647 by omega)
          replace hM := hM.lt ex157.symm
          refine lv_iconst (v := 1) hx hb dX12_isSaintHere_74 (by decide) ?_
          refine lv_iadd hx hb dX12_isSaintHere_75 ?_
          refine lv_topi (fun x158 ex158 => ?_)
          have ezx158 := ex158
          have ex158 : x158.toInt = x157.toInt + (1 : Int) := by rw [ex158]; exact wk_add (show (-2147483648) ≤ x157.toInt + (1 : Int) by omega) (show x157.toInt + (1 : Int) ≤ 2147483647 by omega)
          replace hM := hM.lt ex158.symm
          refine lv_aload_n hx hb dX12_isSaintHere_76 rfl (lv_at hl 0 rfl) ?_
          refine tk_geti hC hK hw hT hinX12 kM_at0 (by decide) rfl 16 (by decide) (List.mem_cons_of_mem _ uw_21_12) rfl rfl dX12_isSaintHere_77 (fun x159 c160 rx159 tx159 => ?_)
          refine wk_top x148 (c160.symm.trans c149) ?_
          replace hM := hM.rd (sI_at c149)
          refine tk_iast hC hK hw hT kM_at7 (by decide) rfl rfl (show 0 ≤ x158.toInt by first | with_reducible assumption | omega) (show x158.toInt < 16 by first | with_reducible assumption | omega) (wk_i32 x148).1 (wk_i32 x148).2 dX12_isSaintHere_80 (fun H locs w161 hw hT k163 c162 => ?_)
          replace hM := hM.wr (sI_up k163 c162)
          have hF := hF.put kM_at7 (inE_of (a := 0) (b := 16) (by decide) (show 0 ≤ x158.toInt.toNat by omega) (show x158.toInt.toNat ≤ 16 by omega)) k163
          have c164 := k163.gi (Or.inl (tk_ne kM_at0 kM_at7 (by decide))) c152
          have c165 := k163.gi (Or.inl (tk_ne kM_at0 kM_at7 (by decide))) c153
          have c166 := k163.gi (Or.inl (tk_ne kM_at0 kM_at7 (by decide))) c154
          have c167 := k163.gi (Or.inl (tk_ne kM_at0 kM_at7 (by decide))) c149
          refine lv_aload_n hx hb dX12_isSaintHere_81 rfl (lv_at hl 0 rfl) ?_
          refine lv_dup hx hb dX12_isSaintHere_82 rfl ?_
          refine tk_geti hC hK hw hT hinX12 kM_at0 (by decide) rfl 9 (by decide) (List.mem_cons_of_mem _ uw_19_10) rfl rfl dX12_isSaintHere_83 (fun x168 c169 rx168 tx168 => ?_)
          refine wk_top x1 (c169.symm.trans c164) ?_
          replace hM := hM.rd (sI_at c164)
          refine lv_iconst (v := 1) hx hb dX12_isSaintHere_86 (by decide) ?_
          refine lv_iadd hx hb dX12_isSaintHere_87 ?_
          refine lv_topi (fun x170 ex170 => ?_)
          have ezx170 := ex170
          have ex170 : x170.toInt = x1.toInt + (1 : Int) := by rw [ex170]; exact wk_add (show (-2147483648) ≤ x1.toInt + (1 : Int) by omega) (show x1.toInt + (1 : Int) ≤ 2147483647 by omega)
          replace hM := hM.lt ex170.symm
          refine tk_puti hC hK hw hT hinX12 tyX12_ok nmX12 kM_at0 (by decide) rfl rfl 9 (by decide) (List.mem_cons_of_mem _ uw_19_10) rfl rfl rfl rfl (show 0 ≤ x170.toInt by first | with_reducible assumption | omega) (show x170.toInt ≤ 8 by first | with_reducible assumption | omega) dX12_isSaintHere_88 (fun H locs w171 hw hT k173 c172 => ?_)
          replace hM := hM.wr (sI_up k173 c172)
          have hF := hF.put kM_at0 (k := 9) (by decide) k173
          have c174 := k173.gi (Or.inr (by decide)) c165
          have c175 := k173.gi (Or.inr (by decide)) c166
          have c176 := k173.gi (Or.inr (by decide)) c167
          refine lv_iconst (v := 1) hx hb dX12_isSaintHere_91 (by decide) ?_
          exact tk_zret hC hr rfl hlocks hK ⟨hT, hF, hM.ret (by decide), (Or.inr (Or.inr (Or.inr ⟨rfl, ⟨x12, c174, (show 1 ≤ x12.toInt by first | with_reducible assumption | omega), (show x12.toInt ≤ 400 by first | with_reducible assumption | omega)⟩, ⟨x97, c175, (show 1 ≤ x97.toInt by first | with_reducible assumption | omega), (show x97.toInt ≤ 10 from tx97)⟩, ⟨x170, c172, (show 1 ≤ x170.toInt by first | with_reducible assumption | omega), (show x170.toInt ≤ 8 by first | with_reducible assumption | omega)⟩, ⟨x148, c176, (show 0 ≤ x148.toInt by first | with_reducible assumption | omega), (show x148.toInt ≤ 359 by first | with_reducible assumption | omega)⟩⟩)))⟩ hw dX12_isSaintHere_92
  · have c3 : x1.toInt = (8 : Int) := wk_eq.mp c3
    replace hM := hM.neg (fun q => q c3)
    refine lv_aload_n hx hb dX12_isSaintHere_9 rfl (lv_at hl 0 rfl) ?_
    refine lv_iconst (v := 4) hx hb dX12_isSaintHere_10 (by decide) ?_
    refine lv_iload_n hx hb dX12_isSaintHere_11 rfl (lv_at hl 1 rfl) ?_
    refine tk_Vi hC hK hw hT hA hE hSR kM_at0 (by decide) rfl (kz_X12_fails_1 l adK adV dC dI cy ad B hB0 (Int.le_trans hB1 (by decide)) qr s1   4 (by decide) (by decide) a1 (show 0 ≤ a1.toInt from ra1) (show a1.toInt ≤ 400 from ta1) w0 s.heap.size hT ) (cwV 2 hC.2.2.2.2 uV_RX12_115 rfl rfl rfl (by decide +kernel) ⟨Nat.le_of_ble_eq_true rfl, Nat.le_of_ble_eq_true rfl⟩) rfl hl.1 rfl (Nat.le_of_ble_eq_true rfl) dX12_isSaintHere_12 (fun r177 w179 H locs hp178 hw => ?_)
    obtain ⟨hT, k180, hv184, hg183⟩ := hp178
    try simp only [show (4 : Int32).toInt = 4 by decide] at hv184
    have hF := hF.tr k180 (by decide)
    have c185 := k180.gi kM_at0 (by decide) c2
    obtain ⟨rfl, ⟨x181, c182, rx181, tx181⟩⟩ := hg183
    replace hM := hM.call (r' := 0) hv184 (by decide)
    exact tk_zret hC hr rfl hlocks hK ⟨hT, hF, hM.ret (by decide), (Or.inl ⟨rfl, ⟨x1, c185, (show 8 ≤ x1.toInt by first | with_reducible assumption | omega), (show x1.toInt ≤ 8 from tx1)⟩, ⟨x181, c182, (show 1 ≤ x181.toInt by first | with_reducible assumption | omega), (show x181.toInt ≤ 3205 by first | with_reducible assumption | omega)⟩⟩)⟩ hw dX12_isSaintHere_15
abbrev Pz_X12_in_6 (ad : Nat → Nat) (cy : Nat → ClassId) (B : Int) (qr : Nat) (s1 : Int) (a0 : Int64) (a2 : Int64) (w0 : va_W) : Int32 → va_W → Prop := fun r u => w0 = u ∧ Ev (fun n => m_X12_in n a0.toInt 0 a2.toInt (sI w0)) (r.toInt, sI w0) ∧ ((r = 0) ∨ (r = 1 ∧ 0 ≤ a0.toInt ∧ a0.toInt ≤ 9))
set_option maxHeartbeats 4000000 in
set_option maxRecDepth 100000 in
theorem kz_X12_in_6 (l : Launch) (adK adV : Nat → Nat) (dC : Nat → ClassId) (dI : Nat → Nat → Nat) (cy : Nat → ClassId) (ad : Nat → Nat) (B : Int) (hB0 : 100000 ≤ B) (hB1 : B ≤ 1073741824) (qr : Nat) (s1 : Int)  (a0 : Int64) (ra0 : (-2147483648) ≤ a0.toInt) (ta0 : a0.toInt ≤ 2147483647) (a2 : Int64) (ra2 : 0 ≤ a2.toInt) (ta2 : a2.toInt ≤ 9) (w0 : va_W) (sz : Nat) (hT : TW ksM ad cy B qr 12 w0)  : Met l yX12_in (wu yX12_in cX12_in 6 (some .boolean)) ({ frames := 1, cells := 0, slots := 0, locals := 12 }) (va_Pc [.long a0, .long 0, .long a2] (wpreS adK adV dC dI cy sz w0)) (va_Qi (Pz_X12_in_6 ad cy B qr s1 a0 a2 w0) (fun u : va_W => wpost dC dI cy (va_A w0 sz) u) (va_A w0 sz)) 0 0 (va_A w0 sz) := by
  refine Met.ofW (cc := cX12_in) (maxL := 6) (ret := (some .boolean)) (by decide) rfl ?_
  intro p e s m args below meth c s₁ Bk hml hv
  obtain ⟨rfl, ⟨hsz, hP, hK, hD0⟩, hE, hSR⟩ := hv
  have hx := Bk.exec
  have hb := Bk.bytes
  have hr := Bk.returns
  have hlocks := Bk.notSynchronized
  have hC : CallFix p m c cX12_in 6 s _ (wu yX12_in cX12_in 6 (some .boolean)) RX12 := ⟨hx, hb, hml, findClass_of_methodNamed Bk.named, atoms_spec (ws := (wu yX12_in cX12_in 6 (some .boolean))) Bk.pre⟩
  subst hsz
  have hD := hD0.self (sz := s.heap.size)
  generalize hAe : va_A w0 s.heap.size = A at hD hE ⊢
  have hA : ∀ q : Nat, s.heap.size ≤ q → A q := fun q h => by rw [← hAe]; exact Or.inr h
  have hw : Wd dC dI A s.heap s.heap [] w0 := ⟨hP, hD, va_S.rf⟩
  have hF : FE ksM ([] : List (Nat × Nat × Nat)) w0 w0 := FE.rf
  have hl := lv_entry ([.long a0, .long 0, .long a2]) (n := 6) (Nat.le_of_ble_eq_true rfl)
  rw [lg_entry_eq]
  generalize (lg_sl ([.long a0, .long 0, .long a2]) ++ List.replicate (6 - (lg_sl ([.long a0, .long 0, .long a2])).length) Slot.unset).toArray = ls at hl ⊢
  have hl : lv_has ls 6 [(0, .long a0), (2, .long 0), (4, .long a2)] := hl
  generalize hloc : ([] : List Loc) = locs at hw ⊢
  have J17 : ∀ (H : Heap) (locs : List Loc) (ls : Array Slot), (-2147483648) ≤ a0.toInt → a0.toInt ≤ 2147483647 → 0 ≤ a2.toInt → a2.toInt ≤ 9 → Wd dC dI A s.heap H locs w0 → TT (fun n => m_X12_in n a0.toInt 0 a2.toInt (sI w0)) (fun n => b_X12_in_17 n (sI w0)) → lv_has ls 6 [(0, .long a0), (2, .long 0), (4, .long a2)] → W p l e ({ frames := 1, cells := 0, slots := 0, locals := 12 }) s m (List.toArray [.long a0, .long 0, .long a2]) below meth c H locs 0 0 (MQ below (va_Qi (Pz_X12_in_6 ad cy B qr s1 a0 a2 w0) (fun u : va_W => wpost dC dI cy A u) A) (List.toArray [.long a0, .long 0, .long a2]) s 0 0 A) (F0 m 17 ls []) := by
    intro H locs ls r1 t2 r3 t4 hw hM hl
    refine lv_iconst (v := 0) hx hb dX12_in_17 (by decide) ?_
    exact tk_zret hC hr rfl hlocks hK ⟨rfl, hM.ret (by decide), (Or.inl rfl)⟩ hw dX12_in_18
  have hM : TT (fun n => m_X12_in n a0.toInt 0 a2.toInt (sI w0)) (fun n => m_X12_in n a0.toInt 0 a2.toInt (sI w0)) := TT.rf
  refine lv_lload_n hx hb dX12_in_0 rfl (lv_at hl 0 rfl) ?_
  refine lv_lload_n hx hb dX12_in_1 rfl (lv_at hl 1 rfl) ?_
  refine W.lcmp hx hb dX12_in_2 ?_
  refine lv_if_lt (tgt := 17) hx hb dX12_in_3 (by decide) (fun c5 => ?_) (fun c5 => ?_)
  · have c5 : a0.toInt < (0 : Int) := wk_cltT c5
    replace hM := hM.pos c5
    exact J17  s.heap locs ls  (show (-2147483648) ≤ a0.toInt from ra0) (show a0.toInt ≤ 2147483647 from ta0) (show 0 ≤ a2.toInt from ra2) (show a2.toInt ≤ 9 from ta2)  hw  hM (lv_sub hl [0, 1, 2] rfl)
  · have c5 : (0 : Int) ≤ a0.toInt := wk_cltF c5
    replace hM := hM.neg (Int.not_lt.mpr c5)
    refine lv_lload_n hx hb dX12_in_6 rfl (lv_at hl 0 rfl) ?_
    refine lv_lload hx hb dX12_in_7 (lv_at hl 2 rfl) ?_
    refine W.lcmp hx hb dX12_in_9 ?_
    refine lv_if_gt (tgt := 17) hx hb dX12_in_10 (by decide) (fun c6 => ?_) (fun c6 => ?_)
    · have c6 : a2.toInt < a0.toInt := wk_cgtT c6
      replace hM := hM.pos c6
      exact J17  s.heap locs ls  (show (-2147483648) ≤ a0.toInt from ra0) (show a0.toInt ≤ 2147483647 from ta0) (show 0 ≤ a2.toInt from ra2) (show a2.toInt ≤ 9 from ta2)  hw  hM (lv_sub hl [0, 1, 2] rfl)
    · have c6 : a0.toInt ≤ a2.toInt := wk_cgtF c6
      replace hM := hM.neg (Int.not_lt.mpr c6)
      refine lv_iconst (v := 1) hx hb dX12_in_13 (by decide) ?_
      refine lv_goto (tgt := 18) hx hb dX12_in_14 (by decide) ?_
      exact tk_zret hC hr rfl hlocks hK ⟨rfl, hM.ret (by decide), (Or.inr ⟨rfl, (show 0 ≤ a0.toInt by first | with_reducible assumption | omega), (show a0.toInt ≤ 9 by first | with_reducible assumption | omega)⟩)⟩ hw dX12_in_18
abbrev Pz_X12_numberHere_6 (ad : Nat → Nat) (cy : Nat → ClassId) (B : Int) (qr : Nat) (s1 : Int) (a2 : Int32) (w0 : va_W) : Int32 → va_W → Prop := fun r u => TW ksM ad cy B qr 12 u ∧ FE ksM [(12, 14, 14), (12, 15, 15), (12, 16, 16)] w0 u ∧ Ev (fun n => m_X12_numberHere n 0 0 a2.toInt (sI w0)) (r.toInt, sI u) ∧ ((r = 0 ∧ (∃ y : Int32, gi u 0 1 = y ∧ 1 ≤ y.toInt ∧ y.toInt ≤ 400) ∧ (∃ y : Int32, gi u 0 15 = y ∧ 1 ≤ y.toInt ∧ y.toInt ≤ 3205)) ∨ (r = 0 ∧ (∃ y : Int32, gi u 0 1 = y ∧ 0 ≤ y.toInt ∧ y.toInt ≤ 400) ∧ (∃ y : Int32, gi u 0 15 = y ∧ 1 ≤ y.toInt ∧ y.toInt ≤ 3205)) ∨ (r = 1 ∧ (∃ y : Int32, gi u 0 1 = y ∧ 1 ≤ y.toInt ∧ y.toInt ≤ 400) ∧ (∃ y : Int32, gi u 0 16 = y ∧ 0 ≤ y.toInt ∧ y.toInt ≤ 9)))
set_option maxHeartbeats 4000000 in
set_option maxRecDepth 100000 in
theorem kz_X12_numberHere_6 (l : Launch) (adK adV : Nat → Nat) (dC : Nat → ClassId) (dI : Nat → Nat → Nat) (cy : Nat → ClassId) (ad : Nat → Nat) (B : Int) (hB0 : 100000 ≤ B) (hB1 : B ≤ 1073741824) (qr : Nat) (s1 : Int)  (a2 : Int32) (ra2 : 0 ≤ a2.toInt) (ta2 : a2.toInt ≤ 9) (w0 : va_W) (sz : Nat) (hT : TW ksM ad cy B qr 12 w0)  : Met l yX12_numberHere (wu yX12_numberHere cX12_numberHere 5 (some .boolean)) ({ frames := 2, cells := 0, slots := 0, locals := 37 }) (va_Pc [.ref (ad 0), .int 0, .int a2] (wpreS adK adV dC dI cy sz w0)) (va_Qi (Pz_X12_numberHere_6 ad cy B qr s1 a2 w0) (fun u : va_W => wpost dC dI cy (va_A w0 sz) u) (va_A w0 sz)) 0 0 (va_A w0 sz) := by
  refine Met.ofW (cc := cX12_numberHere) (maxL := 5) (ret := (some .boolean)) (by decide) rfl ?_
  intro p e s m args below meth c s₁ Bk hml hv
  obtain ⟨rfl, ⟨hsz, hP, hK, hD0⟩, hE, hSR⟩ := hv
  have hx := Bk.exec
  have hb := Bk.bytes
  have hr := Bk.returns
  have hlocks := Bk.notSynchronized
  have hC : CallFix p m c cX12_numberHere 5 s _ (wu yX12_numberHere cX12_numberHere 5 (some .boolean)) RX12 := ⟨hx, hb, hml, findClass_of_methodNamed Bk.named, atoms_spec (ws := (wu yX12_numberHere cX12_numberHere 5 (some .boolean))) Bk.pre⟩
  subst hsz
  have hD := hD0.self (sz := s.heap.size)
  generalize hAe : va_A w0 s.heap.size = A at hD hE ⊢
  have hA : ∀ q : Nat, s.heap.size ≤ q → A q := fun q h => by rw [← hAe]; exact Or.inr h
  have hw : Wd dC dI A s.heap s.heap [] w0 := ⟨hP, hD, va_S.rf⟩
  have hF : FE ksM [(12, 14, 14), (12, 15, 15), (12, 16, 16)] w0 w0 := FE.rf
  have hl := lv_entry ([.ref (ad 0), .int 0, .int a2]) (n := 5) (Nat.le_of_ble_eq_true rfl)
  rw [lg_entry_eq]
  generalize (lg_sl ([.ref (ad 0), .int 0, .int a2]) ++ List.replicate (5 - (lg_sl ([.ref (ad 0), .int 0, .int a2])).length) Slot.unset).toArray = ls at hl ⊢
  have hl : lv_has ls 5 [(0, .ref (ad 0)), (1, .int 0), (2, .int a2)] := hl
  generalize hloc : ([] : List Loc) = locs at hw ⊢
  have hinX12 : ∀ w ∈ u_ws RX12 TX12 42, w ∈ (wu yX12_numberHere cX12_numberHere 5 (some .boolean)) := fun _ h => List.mem_cons_of_mem _ (up_71 h)
  have J126 : ∀ (v126_3 : Int32) (v126_4 : Int32) (f126_0_1 : Int32) (f126_0_14 : Int32) (f126_0_16 : Int32) (H : Heap) (locs : List Loc) (ls : Array Slot) (w1 : va_W), 0 ≤ a2.toInt → a2.toInt ≤ 9 → 0 ≤ v126_3.toInt → v126_3.toInt ≤ 399 → 0 ≤ v126_4.toInt → v126_4.toInt ≤ 9 → 1 ≤ f126_0_1.toInt → f126_0_1.toInt ≤ 400 → 0 ≤ f126_0_14.toInt → f126_0_14.toInt ≤ 400 → 0 ≤ f126_0_16.toInt → f126_0_16.toInt ≤ 9 → Wd dC dI A s.heap H locs w1 → TW ksM ad cy B qr 12 w1 → FE ksM [(12, 14, 14), (12, 15, 15), (12, 16, 16)] w0 w1 → gi w1 0 1 = f126_0_1 → gi w1 0 14 = f126_0_14 → gi w1 0 16 = f126_0_16 → TT (fun n => m_X12_numberHere n 0 0 a2.toInt (sI w0)) (fun n => b_X12_numberHere_126 (j_X12_numberHere 0 n) n 0 (sI w1)) → lv_has ls 5 [(0, .ref (ad 0)), (1, .int 0), (2, .int a2), (3, .int v126_3), (4, .int v126_4)] → W p l e ({ frames := 2, cells := 0, slots := 0, locals := 37 }) s m (List.toArray [.ref (ad 0), .int 0, .int a2]) below meth c H locs 0 0 (MQ below (va_Qi (Pz_X12_numberHere_6 ad cy B qr s1 a2 w0) (fun u : va_W => wpost dC dI cy A u) A) (List.toArray [.ref (ad 0), .int 0, .int a2]) s 0 0 A) (F0 m 126 ls []) := by
    intro v126_3 v126_4 f126_0_1 f126_0_14 f126_0_16 H locs ls w1 r2 t3 r4 t5 r6 t7 r8 t9 r11 t12 r14 t15 hw hT hF c10 c13 c16 hM hl
    refine lv_iconst (v := 1) hx hb dX12_numberHere_126 (by decide) ?_
    refine lv_goto (tgt := 131) hx hb dX12_numberHere_127 (by decide) ?_
    exact tk_zret hC hr rfl hlocks hK ⟨hT, hF, hM.ret (by decide), (Or.inr (Or.inr ⟨rfl, ⟨f126_0_1, c10, (show 1 ≤ f126_0_1.toInt from r8), (show f126_0_1.toInt ≤ 400 from t9)⟩, ⟨f126_0_16, c16, (show 0 ≤ f126_0_16.toInt from r14), (show f126_0_16.toInt ≤ 9 from t15)⟩⟩))⟩ hw dX12_numberHere_131
  have J117 : ∀ (v117_3 : Int32) (v117_4 : Int32) (f117_0_1 : Int32) (f117_0_14 : Int32) (f117_0_16 : Int32) (H : Heap) (locs : List Loc) (ls : Array Slot) (w17 : va_W), 0 ≤ a2.toInt → a2.toInt ≤ 9 → 0 ≤ v117_3.toInt → v117_3.toInt ≤ 399 → 1 ≤ f117_0_1.toInt → f117_0_1.toInt ≤ 400 → 0 ≤ f117_0_14.toInt → f117_0_14.toInt ≤ 400 → Wd dC dI A s.heap H locs w17 → TW ksM ad cy B qr 12 w17 → FE ksM [(12, 14, 14), (12, 15, 15), (12, 16, 16)] w0 w17 → gi w17 0 1 = f117_0_1 → gi w17 0 14 = f117_0_14 → gi w17 0 16 = f117_0_16 → TT (fun n => m_X12_numberHere n 0 0 a2.toInt (sI w0)) (fun n => b_X12_numberHere_117 (j_X12_numberHere 0 n) n 0 (v117_3.toInt) (sI w17)) → lv_has ls 5 [(0, .ref (ad 0)), (1, .int 0), (2, .int a2), (3, .int v117_3), (4, .int v117_4)] → W p l e ({ frames := 2, cells := 0, slots := 0, locals := 37 }) s m (List.toArray [.ref (ad 0), .int 0, .int a2]) below meth c H locs 0 0 (MQ below (va_Qi (Pz_X12_numberHere_6 ad cy B qr s1 a2 w0) (fun u : va_W => wpost dC dI cy A u) A) (List.toArray [.ref (ad 0), .int 0, .int a2]) s 0 0 A) (F0 m 117 ls []) := by
    intro v117_3 v117_4 f117_0_1 f117_0_14 f117_0_16 H locs ls w17 r18 t19 r20 t21 r22 t23 r25 t26 hw hT hF c24 c27 c28 hM hl
    refine lv_aload_n hx hb dX12_numberHere_117 rfl (lv_at hl 0 rfl) ?_
    refine lv_iconst (v := 1) hx hb dX12_numberHere_118 (by decide) ?_
    refine lv_iload_n hx hb dX12_numberHere_119 rfl (lv_at hl 3 rfl) ?_
    refine tk_Vi hC hK hw hT hA hE hSR kM_at0 (by decide) rfl (kz_X12_fails_1 l adK adV dC dI cy ad B hB0 (Int.le_trans hB1 (by decide)) qr s1   1 (by decide) (by decide) v117_3 (show 0 ≤ v117_3.toInt from r20) (show v117_3.toInt ≤ 400 from Int.le_trans t21 (by decide)) w17 H.size hT ) (cwV 2 hC.2.2.2.2 uV_RX12_115 rfl rfl rfl (by decide +kernel) ⟨Nat.le_of_ble_eq_true rfl, Nat.le_of_ble_eq_true rfl⟩) rfl hl.1 rfl (Nat.le_of_ble_eq_true rfl) dX12_numberHere_120 (fun r29 w31 H locs hp30 hw => ?_)
    obtain ⟨hT, k32, hv36, hg35⟩ := hp30
    try simp only [show (1 : Int32).toInt = 1 by decide] at hv36
    have hF := hF.tr k32 (by decide)
    have c37 := k32.gi kM_at0 (by decide) c24
    have c38 := k32.gi kM_at0 (by decide) c27
    have c39 := k32.gi kM_at0 (by decide) c28
    obtain ⟨rfl, ⟨x33, c34, rx33, tx33⟩⟩ := hg35
    replace hM := hM.call (r' := 0) hv36 (by decide)
    refine lv_if_eq (tgt := 130) hx hb dX12_numberHere_123 (by decide) (fun _ => ?_) (fun c => absurd (by decide) c)
    replace hM := hM.pos (by decide)
    refine lv_iconst (v := 0) hx hb dX12_numberHere_130 (by decide) ?_
    exact tk_zret hC hr rfl hlocks hK ⟨hT, hF, hM.ret (by decide), (Or.inl ⟨rfl, ⟨f117_0_1, c37, (show 1 ≤ f117_0_1.toInt from r22), (show f117_0_1.toInt ≤ 400 from t23)⟩, ⟨x33, c34, (show 1 ≤ x33.toInt by first | with_reducible assumption | omega), (show x33.toInt ≤ 3205 by first | with_reducible assumption | omega)⟩⟩)⟩ hw dX12_numberHere_131
  have L34 : ∀ (n34 : Nat) (v34_3 : Int32) (v34_4 : Int32) (f34_0_1 : Int32) (f34_0_14 : Int32) (H : Heap) (locs : List Loc) (ls : Array Slot) (w40 : va_W), 0 ≤ a2.toInt → a2.toInt ≤ 9 → 0 ≤ v34_3.toInt → v34_3.toInt ≤ 399 → 1 ≤ f34_0_1.toInt → f34_0_1.toInt ≤ 400 → 0 ≤ f34_0_14.toInt → f34_0_14.toInt ≤ 400 → (400 - f34_0_14.toInt).toNat < n34 → Wd dC dI A s.heap H locs w40 → TW ksM ad cy B qr 12 w40 → FE ksM [(12, 14, 14), (12, 15, 15), (12, 16, 16)] w0 w40 → gi w40 0 1 = f34_0_1 → gi w40 0 14 = f34_0_14 → TT (fun n => m_X12_numberHere n 0 0 a2.toInt (sI w0)) (fun n => j_X12_numberHere 0 n 34 [(0 : Int), a2.toInt, v34_3.toInt, v34_4.toInt] (sI w40)) → lv_has ls 5 [(0, .ref (ad 0)), (1, .int 0), (2, .int a2), (3, .int v34_3), (4, .int v34_4)] → W p l e ({ frames := 2, cells := 0, slots := 0, locals := 37 }) s m (List.toArray [.ref (ad 0), .int 0, .int a2]) below meth c H locs 0 0 (MQ below (va_Qi (Pz_X12_numberHere_6 ad cy B qr s1 a2 w0) (fun u : va_W => wpost dC dI cy A u) A) (List.toArray [.ref (ad 0), .int 0, .int a2]) s 0 0 A) (F0 m 34 ls []) := by
    intro n34
    induction n34 with
    | zero => intro v34_3 v34_4 f34_0_1 f34_0_14 H locs ls w40 r41 t42 r43 t44 r45 t46 r48 t49 hm34 hw hT hF c47 c50 hM hl; omega
    | succ n34 ih34 =>
      intro v34_3 v34_4 f34_0_1 f34_0_14 H locs ls w40 r41 t42 r43 t44 r45 t46 r48 t49 hm34 hw hT hF c47 c50 hM hl
      have J75 : ∀ (v75_4 : Int32) (H : Heap) (locs : List Loc) (ls : Array Slot) (w51 : va_W), 0 ≤ a2.toInt → a2.toInt ≤ 9 → 0 ≤ v34_3.toInt → v34_3.toInt ≤ 399 → 1 ≤ f34_0_1.toInt → f34_0_1.toInt ≤ 400 → 0 ≤ f34_0_14.toInt → f34_0_14.toInt ≤ 399 → Wd dC dI A s.heap H locs w51 → TW ksM ad cy B qr 12 w51 → FE ksM [(12, 14, 14), (12, 15, 15), (12, 16, 16)] w0 w51 → gi w51 0 1 = f34_0_1 → gi w51 0 14 = f34_0_14 → TT (fun n => m_X12_numberHere n 0 0 a2.toInt (sI w0)) (fun n => b_X12_numberHere_75 (j_X12_numberHere 0 n) n 0 (0 : Int) (a2.toInt) (v34_3.toInt) (v75_4.toInt) (sI w51)) → lv_has ls 5 [(0, .ref (ad 0)), (1, .int 0), (2, .int a2), (3, .int v34_3), (4, .int v75_4)] → W p l e ({ frames := 2, cells := 0, slots := 0, locals := 37 }) s m (List.toArray [.ref (ad 0), .int 0, .int a2]) below meth c H locs 0 0 (MQ below (va_Qi (Pz_X12_numberHere_6 ad cy B qr s1 a2 w0) (fun u : va_W => wpost dC dI cy A u) A) (List.toArray [.ref (ad 0), .int 0, .int a2]) s 0 0 A) (F0 m 75 ls []) := by
        intro v75_4 H locs ls w51 r52 t53 r54 t55 r56 t57 r59 t60 hw hT hF c58 c61 hM hl
        refine lv_aload_n hx hb dX12_numberHere_75 rfl (lv_at hl 0 rfl) ?_
        refine lv_dup hx hb dX12_numberHere_76 rfl ?_
        refine tk_geti hC hK hw hT hinX12 kM_at0 (by decide) rfl 14 (by decide) (List.mem_cons_of_mem _ uw_19_18) rfl rfl dX12_numberHere_77 (fun x62 c63 rx62 tx62 => ?_)
        refine wk_top f34_0_14 (c63.symm.trans c61) ?_
        replace hM := hM.rd (sI_at c61)
        refine lv_iconst (v := 1) hx hb dX12_numberHere_80 (by decide) ?_
        refine lv_iadd hx hb dX12_numberHere_81 ?_
        refine lv_topi (fun x64 ex64 => ?_)
        have ezx64 := ex64
        have ex64 : x64.toInt = f34_0_14.toInt + (1 : Int) := by rw [ex64]; exact wk_add (show (-2147483648) ≤ f34_0_14.toInt + (1 : Int) by omega) (show f34_0_14.toInt + (1 : Int) ≤ 2147483647 by omega)
        replace hM := hM.lt ex64.symm
        refine tk_puti hC hK hw hT hinX12 tyX12_ok nmX12 kM_at0 (by decide) rfl rfl 14 (by decide) (List.mem_cons_of_mem _ uw_19_18) rfl rfl rfl rfl (show 0 ≤ x64.toInt by first | with_reducible assumption | omega) (show x64.toInt ≤ 400 by first | with_reducible assumption | omega) dX12_numberHere_82 (fun H locs w65 hw hT k67 c66 => ?_)
        replace hM := hM.wr (sI_up k67 c66)
        have hF := hF.put kM_at0 (k := 14) (by decide) k67
        have c68 := k67.gi (Or.inr (by decide)) c58
        refine lv_goto (tgt := 34) hx hb dX12_numberHere_85 (by decide) ?_
        exact ih34 v34_3 v75_4 f34_0_1 x64 H locs ls w65 (show 0 ≤ a2.toInt from r52) (show a2.toInt ≤ 9 from t53) (show 0 ≤ v34_3.toInt from r54) (show v34_3.toInt ≤ 399 from t55) (show 1 ≤ f34_0_1.toInt from r56) (show f34_0_1.toInt ≤ 400 from t57) (show 0 ≤ x64.toInt by first | with_reducible assumption | omega) (show x64.toInt ≤ 400 by first | with_reducible assumption | omega) (show (400 - x64.toInt).toNat < n34 by first | exact tn_lt hm34 (by omega) (by omega) | omega) hw hT hF c68 c66 hM (lv_sub hl [0, 1, 2, 3, 4] rfl)
      replace hM := hM.suc (fun _ => e_X12_numberHere_34)
      refine lv_aload_n hx hb dX12_numberHere_34 rfl (lv_at hl 0 rfl) ?_
      refine lv_aload_n hx hb dX12_numberHere_35 rfl (lv_at hl 0 rfl) ?_
      refine tk_geti hC hK hw hT hinX12 kM_at0 (by decide) rfl 14 (by decide) (List.mem_cons_of_mem _ uw_19_18) rfl rfl dX12_numberHere_36 (fun x69 c70 rx69 tx69 => ?_)
      refine wk_top f34_0_14 (c70.symm.trans c50) ?_
      replace hM := hM.rd (sI_at c50)
      refine tk_Vi hC hK hw hT hA hE hSR kM_at0 (by decide) rfl (kz_X12_isDigit_1 l adK adV dC dI cy ad B hB0 (Int.le_trans hB1 (by decide)) qr s1   f34_0_14 (show 0 ≤ f34_0_14.toInt from r48) (show f34_0_14.toInt ≤ 400 from t49) w40 H.size hT ) (cwV 1 hC.2.2.2.2 uV_RX12_112 rfl rfl rfl (by decide +kernel) ⟨Nat.le_of_ble_eq_true rfl, Nat.le_of_ble_eq_true rfl⟩) rfl hl.1 rfl (Nat.le_of_ble_eq_true rfl) dX12_numberHere_39 (fun r71 w73 H locs hp72 hw => ?_)
      obtain ⟨rfl, hv81, hg80⟩ := hp72
      rcases hg80 with ⟨rfl, ⟨x75, c76, rx75, tx75⟩⟩ | ⟨rfl, g77, ⟨x78, c79, rx78, tx78⟩⟩
      · replace hM := hM.call (r' := 0) hv81 (by decide)
        have ex75 : x75.toInt = f34_0_1.toInt := by rw [← c47.symm.trans c76]
        refine lv_if_eq (tgt := 88) hx hb dX12_numberHere_42 (by decide) (fun _ => ?_) (fun c => absurd (by decide) c)
        replace hM := hM.pos (by decide)
        refine lv_aload_n hx hb dX12_numberHere_88 rfl (lv_at hl 0 rfl) ?_
        refine lv_iload hx hb dX12_numberHere_89 (lv_at hl 4 rfl) ?_
        refine tk_puti hC hK hw hT hinX12 tyX12_ok nmX12 kM_at0 (by decide) rfl rfl 16 (by decide) (List.mem_cons_of_mem _ uw_21_12) rfl rfl rfl rfl (wk_i32 v34_4).1 (wk_i32 v34_4).2 dX12_numberHere_91 (fun H locs w82 hw hT k84 c83 => ?_)
        replace hM := hM.wr (sI_up k84 c83)
        have hF := hF.put kM_at0 (k := 16) (by decide) k84
        have c85 := k84.gi (Or.inr (by decide)) c47
        have c86 := k84.gi (Or.inr (by decide)) c50
        refine lv_aload_n hx hb dX12_numberHere_94 rfl (lv_at hl 0 rfl) ?_
        refine tk_geti hC hK hw hT hinX12 kM_at0 (by decide) rfl 14 (by decide) (List.mem_cons_of_mem _ uw_19_18) rfl rfl dX12_numberHere_95 (fun x87 c88 rx87 tx87 => ?_)
        refine wk_top f34_0_14 (c88.symm.trans c86) ?_
        replace hM := hM.rd (sI_at c86)
        refine lv_iload_n hx hb dX12_numberHere_98 rfl (lv_at hl 3 rfl) ?_
        refine lv_isub hx hb dX12_numberHere_99 ?_
        refine lv_topi (fun x89 ex89 => ?_)
        have ezx89 := ex89
        have ex89 : x89.toInt = f34_0_14.toInt - v34_3.toInt := by rw [ex89]; exact wk_sub (show (-2147483648) ≤ f34_0_14.toInt - v34_3.toInt by omega) (show f34_0_14.toInt - v34_3.toInt ≤ 2147483647 by omega)
        replace hM := hM.lt ex89.symm
        refine lv_iconst (v := 5) hx hb dX12_numberHere_100 (by decide) ?_
        refine lv_icmp_gt (tgt := 117) hx hb dX12_numberHere_101 (by decide) (fun c90 => ?_) (fun c90 => ?_)
        · have c90 : (5 : Int) < x89.toInt := wk_lt.mp c90
          replace hM := hM.pos c90
          exact J117 v34_3 v34_4 f34_0_1 f34_0_14 v34_4 H locs ls w82 (show 0 ≤ a2.toInt from r41) (show a2.toInt ≤ 9 from t42) (show 0 ≤ v34_3.toInt from r43) (show v34_3.toInt ≤ 399 from t44) (show 1 ≤ f34_0_1.toInt from r45) (show f34_0_1.toInt ≤ 400 from t46) (show 0 ≤ f34_0_14.toInt from r48) (show f34_0_14.toInt ≤ 400 from t49)  hw hT hF c85 c86 c83 hM (lv_sub hl [0, 1, 2, 3, 4] rfl)
        · have c90 : x89.toInt ≤ (5 : Int) := wk_ltF c90
          replace hM := hM.neg (Int.not_lt.mpr c90)
          refine lv_iload hx hb dX12_numberHere_104 (lv_at hl 4 rfl) ?_
          refine lv_i2l hx hb dX12_numberHere_106 rfl ?_
          refine lv_topl (fun x91 ex91 => ?_)
          have ex91 : x91.toInt = v34_4.toInt := by rw [ex91]; exact wk_i2l _
          have bx91 := wk_i32 v34_4
          replace hM := hM.lt ex91.symm
          refine lv_iload_n hx hb dX12_numberHere_107 rfl (lv_at hl 1 rfl) ?_
          refine lv_i2l hx hb dX12_numberHere_108 rfl ?_
          refine wk_topl 0 (by decide) ?_
          replace hM := hM.lt rfl
          refine lv_iload_n hx hb dX12_numberHere_109 rfl (lv_at hl 2 rfl) ?_
          refine lv_i2l hx hb dX12_numberHere_110 rfl ?_
          refine lv_topl (fun x92 ex92 => ?_)
          have ex92 : x92.toInt = a2.toInt := by rw [ex92]; exact wk_i2l _
          have bx92 := wk_i32 a2
          replace hM := hM.lt ex92.symm
          refine tk_Si hC hK hw hT hA hE hSR (kz_X12_in_6 l adK adV dC dI cy ad B hB0 (Int.le_trans hB1 (by decide)) qr s1   x91 (show (-2147483648) ≤ x91.toInt by first | with_reducible assumption | omega) (show x91.toInt ≤ 2147483647 by first | with_reducible assumption | omega) x92 (show 0 ≤ x92.toInt by first | with_reducible assumption | omega) (show x92.toInt ≤ 9 by first | with_reducible assumption | omega) w82 H.size hT ) (va_cwS 3 hC.2.2.2.2 uS_RX12_122 rfl rfl rfl (by decide +kernel) ⟨Nat.le_of_ble_eq_true rfl, Nat.le_of_ble_eq_true rfl⟩) rfl hl.1 rfl (Nat.le_of_ble_eq_true rfl) dX12_numberHere_111 (fun r93 w95 H locs hp94 hw => ?_)
          obtain ⟨rfl, hv100, hg99⟩ := hp94
          rcases hg99 with rfl | ⟨rfl, g97, g98⟩
          · replace hM := hM.call (r' := 0) hv100 (by decide)
            refine lv_if_ne (tgt := 126) hx hb dX12_numberHere_114 (by decide) (fun c => absurd (by decide) c) (fun _ => ?_)
            replace hM := hM.neg (by decide)
            exact J117 v34_3 v34_4 f34_0_1 f34_0_14 v34_4 H locs ls w82 (show 0 ≤ a2.toInt from r41) (show a2.toInt ≤ 9 from t42) (show 0 ≤ v34_3.toInt from r43) (show v34_3.toInt ≤ 399 from t44) (show 1 ≤ f34_0_1.toInt from r45) (show f34_0_1.toInt ≤ 400 from t46) (show 0 ≤ f34_0_14.toInt from r48) (show f34_0_14.toInt ≤ 400 from t49)  hw hT hF c85 c86 c83 hM (lv_sub hl [0, 1, 2, 3, 4] rfl)
          · replace hM := hM.call (r' := 1) hv100 (by decide)
            refine lv_if_ne (tgt := 126) hx hb dX12_numberHere_114 (by decide) (fun _ => ?_) (fun c => absurd c (by decide))
            replace hM := hM.pos (by decide)
            exact J126 v34_3 v34_4 f34_0_1 f34_0_14 v34_4 H locs ls w82 (show 0 ≤ a2.toInt from r41) (show a2.toInt ≤ 9 from t42) (show 0 ≤ v34_3.toInt from r43) (show v34_3.toInt ≤ 399 from t44) (show 0 ≤ v34_4.toInt by first | with_reducible assumption | omega) (show v34_4.toInt ≤ 9 by first | with_reducible assumption | omega) (show 1 ≤ f34_0_1.toInt from r45) (show f34_0_1.toInt ≤ 400 from t46) (show 0 ≤ f34_0_14.toInt from r48) (show f34_0_14.toInt ≤ 400 from t49) (show 0 ≤ v34_4.toInt by first | with_reducible assumption | omega) (show v34_4.toInt ≤ 9 by first | with_reducible assumption | omega)  hw hT hF c85 c86 c83 hM (lv_sub hl [0, 1, 2, 3, 4] rfl)
      · replace hM := hM.call (r' := 1) hv81 (by decide)
        have ex78 : x78.toInt = f34_0_1.toInt := by rw [← c47.symm.trans c79]
        refine lv_if_eq (tgt := 88) hx hb dX12_numberHere_42 (by decide) (fun c => absurd c (by decide)) (fun _ => ?_)
        replace hM := hM.neg (by decide)
        refine lv_aload_n hx hb dX12_numberHere_45 rfl (lv_at hl 0 rfl) ?_
        refine tk_geti hC hK hw hT hinX12 kM_at0 (by decide) rfl 14 (by decide) (List.mem_cons_of_mem _ uw_19_18) rfl rfl dX12_numberHere_46 (fun x101 c102 rx101 tx101 => ?_)
        refine wk_top f34_0_14 (c102.symm.trans c50) ?_
        replace hM := hM.rd (sI_at c50)
        refine lv_iload_n hx hb dX12_numberHere_49 rfl (lv_at hl 3 rfl) ?_
        refine lv_isub hx hb dX12_numberHere_50 ?_
        refine lv_topi (fun x103 ex103 => ?_)
        have ezx103 := ex103
        have ex103 : x103.toInt = f34_0_14.toInt - v34_3.toInt := by rw [ex103]; exact wk_sub (show (-2147483648) ≤ f34_0_14.toInt - v34_3.toInt by omega) (show f34_0_14.toInt - v34_3.toInt ≤ 2147483647 by omega)
        replace hM := hM.lt ex103.symm
        refine lv_iconst (v := 5) hx hb dX12_numberHere_51 (by decide) ?_
        refine lv_icmp_ge (tgt := 75) hx hb dX12_numberHere_52 (by decide) (fun c104 => ?_) (fun c104 => ?_)
        · have c104 : (5 : Int) ≤ x103.toInt := wk_le.mp c104
          replace hM := hM.pos c104
          exact J75 v34_4 H locs ls w40 (show 0 ≤ a2.toInt from r41) (show a2.toInt ≤ 9 from t42) (show 0 ≤ v34_3.toInt from r43) (show v34_3.toInt ≤ 399 from t44) (show 1 ≤ f34_0_1.toInt from r45) (show f34_0_1.toInt ≤ 400 from t46) (show 0 ≤ f34_0_14.toInt from r48) (show f34_0_14.toInt ≤ 399 by first | with_reducible assumption | omega)  hw hT hF c47 c50 hM (lv_sub hl [0, 1, 2, 3, 4] rfl)
        · have c104 : x103.toInt < (5 : Int) := wk_leF c104
          replace hM := hM.neg (Int.not_le.mpr c104)
          refine lv_bipush (v := 10) hx hb dX12_numberHere_55 (by decide) ?_
          refine lv_iload hx hb dX12_numberHere_57 (lv_at hl 4 rfl) ?_
          refine lv_imul hx hb dX12_numberHere_59 ?_
          have nx105 := wk_i32 v34_4
          refine lv_topi (fun x106 ex106 => ?_)
          have ezx106 := ex106
          replace hM := hM.lt (o32_e (f := fun x y => x * y) ezx106 (by decide) rfl)
          refine lv_aload_n hx hb dX12_numberHere_60 rfl (lv_at hl 0 rfl) ?_
          refine tk_getA hC hK hw hT hinX12 kM_at0 (by decide) rfl 0 (by decide) (List.mem_cons_of_mem _ uw_6_14) rfl rfl dX12_numberHere_61 ?_
          refine lv_aload_n hx hb dX12_numberHere_64 rfl (lv_at hl 0 rfl) ?_
          refine tk_geti hC hK hw hT hinX12 kM_at0 (by decide) rfl 14 (by decide) (List.mem_cons_of_mem _ uw_19_18) rfl rfl dX12_numberHere_65 (fun x107 c108 rx107 tx107 => ?_)
          refine wk_top f34_0_14 (c108.symm.trans c50) ?_
          replace hM := hM.rd (sI_at c50)
          refine tk_bald hC hK hw hT kM_at1 rfl rfl (show 0 ≤ f34_0_14.toInt from r48) (show f34_0_14.toInt < 400 by first | with_reducible assumption | omega) dX12_numberHere_68 (fun x109 c110 rx109 tx109 => ?_)
          have hox109 := c110
          replace hM := hM.rd (sI_at hox109)
          have c110 : gi w40 1 (f34_0_14.toInt).toNat = x109 := (congrArg (gi w40 1) (congrArg Int.toNat (show f34_0_14.toInt = f34_0_14.toInt from rfl))).trans c110
          refine lv_iadd hx hb dX12_numberHere_69 ?_
          have nx111 := wk_i32 x106
          refine lv_topi (fun x112 ex112 => ?_)
          have ezx112 := ex112
          replace hM := hM.lt (o32_e (f := fun x y => x + y) ezx112 rfl rfl)
          refine lv_bipush (v := 48) hx hb dX12_numberHere_70 (by decide) ?_
          refine lv_isub hx hb dX12_numberHere_72 ?_
          have nx113 := wk_i32 x112
          refine lv_topi (fun x114 ex114 => ?_)
          have ezx114 := ex114
          replace hM := hM.lt (o32_e (f := fun x y => x - y) ezx114 rfl (by decide))
          refine lv_istore (lv' := [(4, .int x114), (0, .ref (ad 0)), (1, .int 0), (2, .int a2), (3, .int v34_3)]) hx hb dX12_numberHere_73 hl (by decide) rfl (fun ls hl => ?_)
          exact J75 x114 H locs ls w40 (show 0 ≤ a2.toInt from r41) (show a2.toInt ≤ 9 from t42) (show 0 ≤ v34_3.toInt from r43) (show v34_3.toInt ≤ 399 from t44) (show 1 ≤ f34_0_1.toInt from r45) (show f34_0_1.toInt ≤ 400 from t46) (show 0 ≤ f34_0_14.toInt from r48) (show f34_0_14.toInt ≤ 399 by first | with_reducible assumption | omega)  hw hT hF c47 c50 hM (lv_sub hl [1, 2, 3, 4, 0] rfl)
  have hM : TT (fun n => m_X12_numberHere n 0 0 a2.toInt (sI w0)) (fun n => m_X12_numberHere n 0 0 a2.toInt (sI w0)) := TT.rf
  refine lv_aload_n hx hb dX12_numberHere_0 rfl (lv_at hl 0 rfl) ?_
  obtain ⟨x115, c116, rx115, tx115⟩ := hT.rdi (lo := 0) (hi := 400) (k := 14) kM_at0 (by decide) rfl
  refine tk_Vi hC hK hw hT hA hE hSR kM_at0 (by decide) rfl (kz_X12_see_1 l adK adV dC dI cy ad B hB0 (Int.le_trans hB1 (by decide)) qr s1    w0 s.heap.size hT x115 c116 (show 0 ≤ x115.toInt by first | with_reducible assumption | omega) (show x115.toInt ≤ 400 by first | with_reducible assumption | omega)) (cwV 0 hC.2.2.2.2 uV_RX12_97 rfl rfl rfl (by decide +kernel) ⟨Nat.le_of_ble_eq_true rfl, Nat.le_of_ble_eq_true rfl⟩) rfl hl.1 rfl (Nat.le_of_ble_eq_true rfl) dX12_numberHere_1 (fun r117 w119 H locs hp118 hw => ?_)
  obtain ⟨hT, k120, hv138, hg137⟩ := hp118
  have hF := hF.tr k120 (by decide)
  rcases hg137 with ⟨g121, g122, ⟨x123, c124, rx123, tx123⟩, ⟨x125, c126, rx125, tx125⟩, g127, g128⟩ | ⟨rfl, ⟨x129, c130, rx129, tx129⟩, ⟨x131, c132, rx131, tx131⟩, g133⟩ | ⟨rfl, ⟨x134, c135, rx134, tx134⟩, g136⟩
  · replace hM := hM.call hv138 rfl
    have g127 : (gi w119 1 (x125.toInt).toNat).toInt ≠ 32 := by have q := g127; simp only [c126] at q; first | with_reducible exact q | omega
    have g128 : (x125.toInt = x115.toInt ∨ (gi w0 1 (x115.toInt).toNat).toInt = 32) := by have q := g128; simp only [c116, c126] at q; first | with_reducible exact q | omega
    refine lv_pop hx hb dX12_numberHere_4 rfl ?_
    refine lv_aload_n hx hb dX12_numberHere_5 rfl (lv_at hl 0 rfl) ?_
    refine lv_aload_n hx hb dX12_numberHere_6 rfl (lv_at hl 0 rfl) ?_
    refine tk_geti hC hK hw hT hinX12 kM_at0 (by decide) rfl 14 (by decide) (List.mem_cons_of_mem _ uw_19_18) rfl rfl dX12_numberHere_7 (fun x141 c142 rx141 tx141 => ?_)
    refine wk_top x125 (c142.symm.trans c126) ?_
    replace hM := hM.rd (sI_at c126)
    refine tk_Vi hC hK hw hT hA hE hSR kM_at0 (by decide) rfl (kz_X12_isDigit_2 l adK adV dC dI cy ad B hB0 (Int.le_trans hB1 (by decide)) qr s1   x125 (show 0 ≤ x125.toInt by first | with_reducible assumption | omega) (show x125.toInt ≤ 399 by first | with_reducible assumption | omega) w119 H.size hT ) (cwV 1 hC.2.2.2.2 uV_RX12_112 rfl rfl rfl (by decide +kernel) ⟨Nat.le_of_ble_eq_true rfl, Nat.le_of_ble_eq_true rfl⟩) rfl hl.1 rfl (Nat.le_of_ble_eq_true rfl) dX12_numberHere_10 (fun r143 w145 H locs hp144 hw => ?_)
    obtain ⟨rfl, hv152, hg151⟩ := hp144
    rcases hg151 with ⟨rfl, ⟨x147, c148, rx147, tx147⟩⟩ | ⟨rfl, ⟨x149, c150, rx149, tx149⟩⟩
    · replace hM := hM.call (r' := 0) hv152 (by decide)
      have ex147 : x147.toInt = x123.toInt := by rw [← c124.symm.trans c148]
      refine lv_if_ne (tgt := 26) hx hb dX12_numberHere_13 (by decide) (fun c => absurd (by decide) c) (fun _ => ?_)
      replace hM := hM.neg (by decide)
      refine lv_aload_n hx hb dX12_numberHere_16 rfl (lv_at hl 0 rfl) ?_
      refine lv_iconst (v := 0) hx hb dX12_numberHere_17 (by decide) ?_
      refine lv_aload_n hx hb dX12_numberHere_18 rfl (lv_at hl 0 rfl) ?_
      refine tk_geti hC hK hw hT hinX12 kM_at0 (by decide) rfl 14 (by decide) (List.mem_cons_of_mem _ uw_19_18) rfl rfl dX12_numberHere_19 (fun x153 c154 rx153 tx153 => ?_)
      refine wk_top x125 (c154.symm.trans c126) ?_
      replace hM := hM.rd (sI_at c126)
      refine tk_Vi hC hK hw hT hA hE hSR kM_at0 (by decide) rfl (kz_X12_fails_1 l adK adV dC dI cy ad B hB0 (Int.le_trans hB1 (by decide)) qr s1   0 (by decide) (by decide) x125 (show 0 ≤ x125.toInt by first | with_reducible assumption | omega) (show x125.toInt ≤ 400 by first | with_reducible assumption | omega) w119 H.size hT ) (cwV 2 hC.2.2.2.2 uV_RX12_115 rfl rfl rfl (by decide +kernel) ⟨Nat.le_of_ble_eq_true rfl, Nat.le_of_ble_eq_true rfl⟩) rfl hl.1 rfl (Nat.le_of_ble_eq_true rfl) dX12_numberHere_22 (fun r155 w157 H locs hp156 hw => ?_)
      obtain ⟨hT, k158, hv162, hg161⟩ := hp156
      try simp only [show (0 : Int32).toInt = 0 by decide] at hv162
      have hF := hF.tr k158 (by decide)
      have c163 := k158.gi kM_at0 (by decide) c124
      have c164 := k158.gi kM_at0 (by decide) c126
      obtain ⟨rfl, ⟨x159, c160, rx159, tx159⟩⟩ := hg161
      replace hM := hM.call (r' := 0) hv162 (by decide)
      exact tk_zret hC hr rfl hlocks hK ⟨hT, hF, hM.ret (by decide), (Or.inl ⟨rfl, ⟨x123, c163, (show 1 ≤ x123.toInt by first | with_reducible assumption | omega), (show x123.toInt ≤ 400 by first | with_reducible assumption | omega)⟩, ⟨x159, c160, (show 1 ≤ x159.toInt by first | with_reducible assumption | omega), (show x159.toInt ≤ 3205 by first | with_reducible assumption | omega)⟩⟩)⟩ hw dX12_numberHere_25
    · replace hM := hM.call (r' := 1) hv152 (by decide)
      have ex149 : x149.toInt = x123.toInt := by rw [← c124.symm.trans c150]
      refine lv_if_ne (tgt := 26) hx hb dX12_numberHere_13 (by decide) (fun _ => ?_) (fun c => absurd c (by decide))
      replace hM := hM.pos (by decide)
      refine lv_aload_n hx hb dX12_numberHere_26 rfl (lv_at hl 0 rfl) ?_
      refine tk_geti hC hK hw hT hinX12 kM_at0 (by decide) rfl 14 (by decide) (List.mem_cons_of_mem _ uw_19_18) rfl rfl dX12_numberHere_27 (fun x165 c166 rx165 tx165 => ?_)
      refine wk_top x125 (c166.symm.trans c126) ?_
      replace hM := hM.rd (sI_at c126)
      refine lv_istore_n (lv' := [(3, .int x125), (0, .ref (ad 0)), (1, .int 0), (2, .int a2)]) hx hb dX12_numberHere_30 rfl hl (by decide) rfl (fun ls hl => ?_)
      refine lv_iconst (v := 0) hx hb dX12_numberHere_31 (by decide) ?_
      refine lv_istore (lv' := [(4, .int 0), (3, .int x125), (0, .ref (ad 0)), (1, .int 0), (2, .int a2)]) hx hb dX12_numberHere_32 hl (by decide) rfl (fun ls hl => ?_)
      exact L34 ((400 - x125.toInt).toNat + 1) x125 0 x123 x125 H locs ls w119 (show 0 ≤ a2.toInt from ra2) (show a2.toInt ≤ 9 from ta2) (show 0 ≤ x125.toInt by first | with_reducible assumption | omega) (show x125.toInt ≤ 399 by first | with_reducible assumption | omega) (show 1 ≤ x123.toInt by first | with_reducible assumption | omega) (show x123.toInt ≤ 400 by first | with_reducible assumption | omega) (show 0 ≤ x125.toInt by first | with_reducible assumption | omega) (show x125.toInt ≤ 400 by first | with_reducible assumption | omega) (Nat.lt_succ_self _) hw hT hF c124 c126 hM (lv_sub hl [2, 3, 4, 1, 0] rfl)
  · replace hM := hM.call (r' := (-1)) hv138 (by decide)
    have g133 : (x131.toInt = x115.toInt ∨ (gi w0 1 (x115.toInt).toNat).toInt = 32) := by have q := g133; simp only [c116, c132] at q; first | with_reducible exact q | omega
    refine lv_pop hx hb dX12_numberHere_4 rfl ?_
    refine lv_aload_n hx hb dX12_numberHere_5 rfl (lv_at hl 0 rfl) ?_
    refine lv_aload_n hx hb dX12_numberHere_6 rfl (lv_at hl 0 rfl) ?_
    refine tk_geti hC hK hw hT hinX12 kM_at0 (by decide) rfl 14 (by decide) (List.mem_cons_of_mem _ uw_19_18) rfl rfl dX12_numberHere_7 (fun x167 c168 rx167 tx167 => ?_)
    refine wk_top x131 (c168.symm.trans c132) ?_
    replace hM := hM.rd (sI_at c132)
    refine tk_Vi hC hK hw hT hA hE hSR kM_at0 (by decide) rfl (kz_X12_isDigit_3 l adK adV dC dI cy ad B hB0 (Int.le_trans hB1 (by decide)) qr s1   x131 (show 1 ≤ x131.toInt by first | with_reducible assumption | omega) (show x131.toInt ≤ 399 by first | with_reducible assumption | omega) w119 H.size hT ) (cwV 1 hC.2.2.2.2 uV_RX12_112 rfl rfl rfl (by decide +kernel) ⟨Nat.le_of_ble_eq_true rfl, Nat.le_of_ble_eq_true rfl⟩) rfl hl.1 rfl (Nat.le_of_ble_eq_true rfl) dX12_numberHere_10 (fun r169 w171 H locs hp170 hw => ?_)
    obtain ⟨rfl, hv178, hg177⟩ := hp170
    rcases hg177 with ⟨rfl, ⟨x173, c174, rx173, tx173⟩⟩ | ⟨rfl, ⟨x175, c176, rx175, tx175⟩⟩
    · replace hM := hM.call (r' := 0) hv178 (by decide)
      have ex173 : x173.toInt = x129.toInt := by rw [← c130.symm.trans c174]
      refine lv_if_ne (tgt := 26) hx hb dX12_numberHere_13 (by decide) (fun c => absurd (by decide) c) (fun _ => ?_)
      replace hM := hM.neg (by decide)
      refine lv_aload_n hx hb dX12_numberHere_16 rfl (lv_at hl 0 rfl) ?_
      refine lv_iconst (v := 0) hx hb dX12_numberHere_17 (by decide) ?_
      refine lv_aload_n hx hb dX12_numberHere_18 rfl (lv_at hl 0 rfl) ?_
      refine tk_geti hC hK hw hT hinX12 kM_at0 (by decide) rfl 14 (by decide) (List.mem_cons_of_mem _ uw_19_18) rfl rfl dX12_numberHere_19 (fun x179 c180 rx179 tx179 => ?_)
      refine wk_top x131 (c180.symm.trans c132) ?_
      replace hM := hM.rd (sI_at c132)
      refine tk_Vi hC hK hw hT hA hE hSR kM_at0 (by decide) rfl (kz_X12_fails_1 l adK adV dC dI cy ad B hB0 (Int.le_trans hB1 (by decide)) qr s1   0 (by decide) (by decide) x131 (show 0 ≤ x131.toInt by first | with_reducible assumption | omega) (show x131.toInt ≤ 400 by first | with_reducible assumption | omega) w119 H.size hT ) (cwV 2 hC.2.2.2.2 uV_RX12_115 rfl rfl rfl (by decide +kernel) ⟨Nat.le_of_ble_eq_true rfl, Nat.le_of_ble_eq_true rfl⟩) rfl hl.1 rfl (Nat.le_of_ble_eq_true rfl) dX12_numberHere_22 (fun r181 w183 H locs hp182 hw => ?_)
      obtain ⟨hT, k184, hv188, hg187⟩ := hp182
      try simp only [show (0 : Int32).toInt = 0 by decide] at hv188
      have hF := hF.tr k184 (by decide)
      have c189 := k184.gi kM_at0 (by decide) c130
      have c190 := k184.gi kM_at0 (by decide) c132
      obtain ⟨rfl, ⟨x185, c186, rx185, tx185⟩⟩ := hg187
      replace hM := hM.call (r' := 0) hv188 (by decide)
      exact tk_zret hC hr rfl hlocks hK ⟨hT, hF, hM.ret (by decide), (Or.inl ⟨rfl, ⟨x129, c189, (show 1 ≤ x129.toInt by first | with_reducible assumption | omega), (show x129.toInt ≤ 400 by first | with_reducible assumption | omega)⟩, ⟨x185, c186, (show 1 ≤ x185.toInt by first | with_reducible assumption | omega), (show x185.toInt ≤ 3205 by first | with_reducible assumption | omega)⟩⟩)⟩ hw dX12_numberHere_25
    · replace hM := hM.call (r' := 1) hv178 (by decide)
      have ex175 : x175.toInt = x129.toInt := by rw [← c130.symm.trans c176]
      refine lv_if_ne (tgt := 26) hx hb dX12_numberHere_13 (by decide) (fun _ => ?_) (fun c => absurd c (by decide))
      replace hM := hM.pos (by decide)
      refine lv_aload_n hx hb dX12_numberHere_26 rfl (lv_at hl 0 rfl) ?_
      refine tk_geti hC hK hw hT hinX12 kM_at0 (by decide) rfl 14 (by decide) (List.mem_cons_of_mem _ uw_19_18) rfl rfl dX12_numberHere_27 (fun x191 c192 rx191 tx191 => ?_)
      refine wk_top x131 (c192.symm.trans c132) ?_
      replace hM := hM.rd (sI_at c132)
      refine lv_istore_n (lv' := [(3, .int x131), (0, .ref (ad 0)), (1, .int 0), (2, .int a2)]) hx hb dX12_numberHere_30 rfl hl (by decide) rfl (fun ls hl => ?_)
      refine lv_iconst (v := 0) hx hb dX12_numberHere_31 (by decide) ?_
      refine lv_istore (lv' := [(4, .int 0), (3, .int x131), (0, .ref (ad 0)), (1, .int 0), (2, .int a2)]) hx hb dX12_numberHere_32 hl (by decide) rfl (fun ls hl => ?_)
      exact L34 ((400 - x131.toInt).toNat + 1) x131 0 x129 x131 H locs ls w119 (show 0 ≤ a2.toInt from ra2) (show a2.toInt ≤ 9 from ta2) (show 0 ≤ x131.toInt by first | with_reducible assumption | omega) (show x131.toInt ≤ 399 by first | with_reducible assumption | omega) (show 1 ≤ x129.toInt by first | with_reducible assumption | omega) (show x129.toInt ≤ 400 by first | with_reducible assumption | omega) (show 0 ≤ x131.toInt by first | with_reducible assumption | omega) (show x131.toInt ≤ 400 by first | with_reducible assumption | omega) (Nat.lt_succ_self _) hw hT hF c130 c132 hM (lv_sub hl [2, 3, 4, 1, 0] rfl)
  · replace hM := hM.call (r' := (-1)) hv138 (by decide)
    obtain ⟨x139, c140, rx139, tx139⟩ := hT.rdi (lo := 0) (hi := 400) (k := 14) kM_at0 (by decide) rfl
    have g136 : (x139.toInt = x115.toInt ∨ (gi w0 1 (x115.toInt).toNat).toInt = 32) := by have q := g136; simp only [c116, c140] at q; first | with_reducible exact q | omega
    refine lv_pop hx hb dX12_numberHere_4 rfl ?_
    refine lv_aload_n hx hb dX12_numberHere_5 rfl (lv_at hl 0 rfl) ?_
    refine lv_aload_n hx hb dX12_numberHere_6 rfl (lv_at hl 0 rfl) ?_
    refine tk_geti hC hK hw hT hinX12 kM_at0 (by decide) rfl 14 (by decide) (List.mem_cons_of_mem _ uw_19_18) rfl rfl dX12_numberHere_7 (fun x193 c194 rx193 tx193 => ?_)
    refine wk_top x139 (c194.symm.trans c140) ?_
    replace hM := hM.rd (sI_at c140)
    refine tk_Vi hC hK hw hT hA hE hSR kM_at0 (by decide) rfl (kz_X12_isDigit_1 l adK adV dC dI cy ad B hB0 (Int.le_trans hB1 (by decide)) qr s1   x139 (show 0 ≤ x139.toInt by first | with_reducible assumption | omega) (show x139.toInt ≤ 400 by first | with_reducible assumption | omega) w119 H.size hT ) (cwV 1 hC.2.2.2.2 uV_RX12_112 rfl rfl rfl (by decide +kernel) ⟨Nat.le_of_ble_eq_true rfl, Nat.le_of_ble_eq_true rfl⟩) rfl hl.1 rfl (Nat.le_of_ble_eq_true rfl) dX12_numberHere_10 (fun r195 w197 H locs hp196 hw => ?_)
    obtain ⟨rfl, hv205, hg204⟩ := hp196
    rcases hg204 with ⟨rfl, ⟨x199, c200, rx199, tx199⟩⟩ | ⟨rfl, g201, ⟨x202, c203, rx202, tx202⟩⟩
    · replace hM := hM.call (r' := 0) hv205 (by decide)
      have ex199 : x199.toInt = x134.toInt := by rw [← c135.symm.trans c200]
      refine lv_if_ne (tgt := 26) hx hb dX12_numberHere_13 (by decide) (fun c => absurd (by decide) c) (fun _ => ?_)
      replace hM := hM.neg (by decide)
      refine lv_aload_n hx hb dX12_numberHere_16 rfl (lv_at hl 0 rfl) ?_
      refine lv_iconst (v := 0) hx hb dX12_numberHere_17 (by decide) ?_
      refine lv_aload_n hx hb dX12_numberHere_18 rfl (lv_at hl 0 rfl) ?_
      refine tk_geti hC hK hw hT hinX12 kM_at0 (by decide) rfl 14 (by decide) (List.mem_cons_of_mem _ uw_19_18) rfl rfl dX12_numberHere_19 (fun x206 c207 rx206 tx206 => ?_)
      refine wk_top x139 (c207.symm.trans c140) ?_
      replace hM := hM.rd (sI_at c140)
      refine tk_Vi hC hK hw hT hA hE hSR kM_at0 (by decide) rfl (kz_X12_fails_1 l adK adV dC dI cy ad B hB0 (Int.le_trans hB1 (by decide)) qr s1   0 (by decide) (by decide) x139 (show 0 ≤ x139.toInt by first | with_reducible assumption | omega) (show x139.toInt ≤ 400 by first | with_reducible assumption | omega) w119 H.size hT ) (cwV 2 hC.2.2.2.2 uV_RX12_115 rfl rfl rfl (by decide +kernel) ⟨Nat.le_of_ble_eq_true rfl, Nat.le_of_ble_eq_true rfl⟩) rfl hl.1 rfl (Nat.le_of_ble_eq_true rfl) dX12_numberHere_22 (fun r208 w210 H locs hp209 hw => ?_)
      obtain ⟨hT, k211, hv215, hg214⟩ := hp209
      try simp only [show (0 : Int32).toInt = 0 by decide] at hv215
      have hF := hF.tr k211 (by decide)
      have c216 := k211.gi kM_at0 (by decide) c135
      have c217 := k211.gi kM_at0 (by decide) c140
      obtain ⟨rfl, ⟨x212, c213, rx212, tx212⟩⟩ := hg214
      replace hM := hM.call (r' := 0) hv215 (by decide)
      exact tk_zret hC hr rfl hlocks hK ⟨hT, hF, hM.ret (by decide), (Or.inr (Or.inl ⟨rfl, ⟨x134, c216, (show 0 ≤ x134.toInt by first | with_reducible assumption | omega), (show x134.toInt ≤ 400 by first | with_reducible assumption | omega)⟩, ⟨x212, c213, (show 1 ≤ x212.toInt by first | with_reducible assumption | omega), (show x212.toInt ≤ 3205 by first | with_reducible assumption | omega)⟩⟩))⟩ hw dX12_numberHere_25
    · replace hM := hM.call (r' := 1) hv205 (by decide)
      have ex202 : x202.toInt = x134.toInt := by rw [← c135.symm.trans c203]
      refine lv_if_ne (tgt := 26) hx hb dX12_numberHere_13 (by decide) (fun _ => ?_) (fun c => absurd c (by decide))
      replace hM := hM.pos (by decide)
      refine lv_aload_n hx hb dX12_numberHere_26 rfl (lv_at hl 0 rfl) ?_
      refine tk_geti hC hK hw hT hinX12 kM_at0 (by decide) rfl 14 (by decide) (List.mem_cons_of_mem _ uw_19_18) rfl rfl dX12_numberHere_27 (fun x218 c219 rx218 tx218 => ?_)
      refine wk_top x139 (c219.symm.trans c140) ?_
      replace hM := hM.rd (sI_at c140)
      refine lv_istore_n (lv' := [(3, .int x139), (0, .ref (ad 0)), (1, .int 0), (2, .int a2)]) hx hb dX12_numberHere_30 rfl hl (by decide) rfl (fun ls hl => ?_)
      refine lv_iconst (v := 0) hx hb dX12_numberHere_31 (by decide) ?_
      refine lv_istore (lv' := [(4, .int 0), (3, .int x139), (0, .ref (ad 0)), (1, .int 0), (2, .int a2)]) hx hb dX12_numberHere_32 hl (by decide) rfl (fun ls hl => ?_)
      exact L34 ((400 - x139.toInt).toNat + 1) x139 0 x134 x139 H locs ls w119 (show 0 ≤ a2.toInt from ra2) (show a2.toInt ≤ 9 from ta2) (show 0 ≤ x139.toInt by first | with_reducible assumption | omega) (show x139.toInt ≤ 399 by first | with_reducible assumption | omega) (show 1 ≤ x134.toInt by first | with_reducible assumption | omega) (show x134.toInt ≤ 400 by first | with_reducible assumption | omega) (show 0 ≤ x139.toInt by first | with_reducible assumption | omega) (show x139.toInt ≤ 400 by first | with_reducible assumption | omega) (Nat.lt_succ_self _) hw hT hF c135 c140 hM (lv_sub hl [2, 3, 4, 1, 0] rfl)
abbrev Pz_X12_in_7 (ad : Nat → Nat) (cy : Nat → ClassId) (B : Int) (qr : Nat) (s1 : Int) (a0 : Int64) (w0 : va_W) : Int32 → va_W → Prop := fun r u => w0 = u ∧ Ev (fun n => m_X12_in n a0.toInt 1 9 (sI w0)) (r.toInt, sI w0) ∧ ((r = 0) ∨ (r = 1 ∧ 1 ≤ a0.toInt ∧ a0.toInt ≤ 9))
set_option maxHeartbeats 4000000 in
set_option maxRecDepth 100000 in
theorem kz_X12_in_7 (l : Launch) (adK adV : Nat → Nat) (dC : Nat → ClassId) (dI : Nat → Nat → Nat) (cy : Nat → ClassId) (ad : Nat → Nat) (B : Int) (hB0 : 100000 ≤ B) (hB1 : B ≤ 1073741824) (qr : Nat) (s1 : Int)  (a0 : Int64) (ra0 : (-2147483648) ≤ a0.toInt) (ta0 : a0.toInt ≤ 2147483647) (w0 : va_W) (sz : Nat) (hT : TW ksM ad cy B qr 12 w0)  : Met l yX12_in (wu yX12_in cX12_in 6 (some .boolean)) ({ frames := 1, cells := 0, slots := 0, locals := 12 }) (va_Pc [.long a0, .long 1, .long 9] (wpreS adK adV dC dI cy sz w0)) (va_Qi (Pz_X12_in_7 ad cy B qr s1 a0 w0) (fun u : va_W => wpost dC dI cy (va_A w0 sz) u) (va_A w0 sz)) 0 0 (va_A w0 sz) := by
  refine Met.ofW (cc := cX12_in) (maxL := 6) (ret := (some .boolean)) (by decide) rfl ?_
  intro p e s m args below meth c s₁ Bk hml hv
  obtain ⟨rfl, ⟨hsz, hP, hK, hD0⟩, hE, hSR⟩ := hv
  have hx := Bk.exec
  have hb := Bk.bytes
  have hr := Bk.returns
  have hlocks := Bk.notSynchronized
  have hC : CallFix p m c cX12_in 6 s _ (wu yX12_in cX12_in 6 (some .boolean)) RX12 := ⟨hx, hb, hml, findClass_of_methodNamed Bk.named, atoms_spec (ws := (wu yX12_in cX12_in 6 (some .boolean))) Bk.pre⟩
  subst hsz
  have hD := hD0.self (sz := s.heap.size)
  generalize hAe : va_A w0 s.heap.size = A at hD hE ⊢
  have hA : ∀ q : Nat, s.heap.size ≤ q → A q := fun q h => by rw [← hAe]; exact Or.inr h
  have hw : Wd dC dI A s.heap s.heap [] w0 := ⟨hP, hD, va_S.rf⟩
  have hF : FE ksM ([] : List (Nat × Nat × Nat)) w0 w0 := FE.rf
  have hl := lv_entry ([.long a0, .long 1, .long 9]) (n := 6) (Nat.le_of_ble_eq_true rfl)
  rw [lg_entry_eq]
  generalize (lg_sl ([.long a0, .long 1, .long 9]) ++ List.replicate (6 - (lg_sl ([.long a0, .long 1, .long 9])).length) Slot.unset).toArray = ls at hl ⊢
  have hl : lv_has ls 6 [(0, .long a0), (2, .long 1), (4, .long 9)] := hl
  generalize hloc : ([] : List Loc) = locs at hw ⊢
  have J17 : ∀ (H : Heap) (locs : List Loc) (ls : Array Slot), (-2147483648) ≤ a0.toInt → a0.toInt ≤ 2147483647 → Wd dC dI A s.heap H locs w0 → TT (fun n => m_X12_in n a0.toInt 1 9 (sI w0)) (fun n => b_X12_in_17 n (sI w0)) → lv_has ls 6 [(0, .long a0), (2, .long 1), (4, .long 9)] → W p l e ({ frames := 1, cells := 0, slots := 0, locals := 12 }) s m (List.toArray [.long a0, .long 1, .long 9]) below meth c H locs 0 0 (MQ below (va_Qi (Pz_X12_in_7 ad cy B qr s1 a0 w0) (fun u : va_W => wpost dC dI cy A u) A) (List.toArray [.long a0, .long 1, .long 9]) s 0 0 A) (F0 m 17 ls []) := by
    intro H locs ls r1 t2 hw hM hl
    refine lv_iconst (v := 0) hx hb dX12_in_17 (by decide) ?_
    exact tk_zret hC hr rfl hlocks hK ⟨rfl, hM.ret (by decide), (Or.inl rfl)⟩ hw dX12_in_18
  have hM : TT (fun n => m_X12_in n a0.toInt 1 9 (sI w0)) (fun n => m_X12_in n a0.toInt 1 9 (sI w0)) := TT.rf
  refine lv_lload_n hx hb dX12_in_0 rfl (lv_at hl 0 rfl) ?_
  refine lv_lload_n hx hb dX12_in_1 rfl (lv_at hl 1 rfl) ?_
  refine W.lcmp hx hb dX12_in_2 ?_
  refine lv_if_lt (tgt := 17) hx hb dX12_in_3 (by decide) (fun c3 => ?_) (fun c3 => ?_)
  · have c3 : a0.toInt < (1 : Int) := wk_cltT c3
    replace hM := hM.pos c3
    exact J17  s.heap locs ls  (show (-2147483648) ≤ a0.toInt from ra0) (show a0.toInt ≤ 2147483647 from ta0)  hw  hM (lv_sub hl [0, 1, 2] rfl)
  · have c3 : (1 : Int) ≤ a0.toInt := wk_cltF c3
    replace hM := hM.neg (Int.not_lt.mpr c3)
    refine lv_lload_n hx hb dX12_in_6 rfl (lv_at hl 0 rfl) ?_
    refine lv_lload hx hb dX12_in_7 (lv_at hl 2 rfl) ?_
    refine W.lcmp hx hb dX12_in_9 ?_
    refine lv_if_gt (tgt := 17) hx hb dX12_in_10 (by decide) (fun c4 => ?_) (fun c4 => ?_)
    · have c4 : (9 : Int) < a0.toInt := wk_cgtT c4
      replace hM := hM.pos c4
      exact J17  s.heap locs ls  (show (-2147483648) ≤ a0.toInt from ra0) (show a0.toInt ≤ 2147483647 from ta0)  hw  hM (lv_sub hl [0, 1, 2] rfl)
    · have c4 : a0.toInt ≤ (9 : Int) := wk_cgtF c4
      replace hM := hM.neg (Int.not_lt.mpr c4)
      refine lv_iconst (v := 1) hx hb dX12_in_13 (by decide) ?_
      refine lv_goto (tgt := 18) hx hb dX12_in_14 (by decide) ?_
      exact tk_zret hC hr rfl hlocks hK ⟨rfl, hM.ret (by decide), (Or.inr ⟨rfl, (show 1 ≤ a0.toInt by first | with_reducible assumption | omega), (show a0.toInt ≤ 9 by first | with_reducible assumption | omega)⟩)⟩ hw dX12_in_18
abbrev Pz_X12_numberHere_7 (ad : Nat → Nat) (cy : Nat → ClassId) (B : Int) (qr : Nat) (s1 : Int)  (w0 : va_W) : Int32 → va_W → Prop := fun r u => TW ksM ad cy B qr 12 u ∧ FE ksM [(12, 14, 14), (12, 15, 15), (12, 16, 16)] w0 u ∧ Ev (fun n => m_X12_numberHere n 0 1 9 (sI w0)) (r.toInt, sI u) ∧ ((r = 0 ∧ (∃ y : Int32, gi u 0 1 = y ∧ 1 ≤ y.toInt ∧ y.toInt ≤ 400) ∧ (∃ y : Int32, gi u 0 15 = y ∧ 1 ≤ y.toInt ∧ y.toInt ≤ 3205)) ∨ (r = 0 ∧ (∃ y : Int32, gi u 0 1 = y ∧ 0 ≤ y.toInt ∧ y.toInt ≤ 400) ∧ (∃ y : Int32, gi u 0 15 = y ∧ 1 ≤ y.toInt ∧ y.toInt ≤ 3205)) ∨ (r = 1 ∧ (∃ y : Int32, gi u 0 1 = y ∧ 1 ≤ y.toInt ∧ y.toInt ≤ 400) ∧ (∃ y : Int32, gi u 0 16 = y ∧ 1 ≤ y.toInt ∧ y.toInt ≤ 9)))
set_option maxHeartbeats 4000000 in
set_option maxRecDepth 100000 in
theorem kz_X12_numberHere_7 (l : Launch) (adK adV : Nat → Nat) (dC : Nat → ClassId) (dI : Nat → Nat → Nat) (cy : Nat → ClassId) (ad : Nat → Nat) (B : Int) (hB0 : 100000 ≤ B) (hB1 : B ≤ 1073741824) (qr : Nat) (s1 : Int)   (w0 : va_W) (sz : Nat) (hT : TW ksM ad cy B qr 12 w0)  : Met l yX12_numberHere (wu yX12_numberHere cX12_numberHere 5 (some .boolean)) ({ frames := 2, cells := 0, slots := 0, locals := 37 }) (va_Pc [.ref (ad 0), .int 1, .int 9] (wpreS adK adV dC dI cy sz w0)) (va_Qi (Pz_X12_numberHere_7 ad cy B qr s1  w0) (fun u : va_W => wpost dC dI cy (va_A w0 sz) u) (va_A w0 sz)) 0 0 (va_A w0 sz) := by
  refine Met.ofW (cc := cX12_numberHere) (maxL := 5) (ret := (some .boolean)) (by decide) rfl ?_
  intro p e s m args below meth c s₁ Bk hml hv
  obtain ⟨rfl, ⟨hsz, hP, hK, hD0⟩, hE, hSR⟩ := hv
  have hx := Bk.exec
  have hb := Bk.bytes
  have hr := Bk.returns
  have hlocks := Bk.notSynchronized
  have hC : CallFix p m c cX12_numberHere 5 s _ (wu yX12_numberHere cX12_numberHere 5 (some .boolean)) RX12 := ⟨hx, hb, hml, findClass_of_methodNamed Bk.named, atoms_spec (ws := (wu yX12_numberHere cX12_numberHere 5 (some .boolean))) Bk.pre⟩
  subst hsz
  have hD := hD0.self (sz := s.heap.size)
  generalize hAe : va_A w0 s.heap.size = A at hD hE ⊢
  have hA : ∀ q : Nat, s.heap.size ≤ q → A q := fun q h => by rw [← hAe]; exact Or.inr h
  have hw : Wd dC dI A s.heap s.heap [] w0 := ⟨hP, hD, va_S.rf⟩
  have hF : FE ksM [(12, 14, 14), (12, 15, 15), (12, 16, 16)] w0 w0 := FE.rf
  have hl := lv_entry ([.ref (ad 0), .int 1, .int 9]) (n := 5) (Nat.le_of_ble_eq_true rfl)
  rw [lg_entry_eq]
  generalize (lg_sl ([.ref (ad 0), .int 1, .int 9]) ++ List.replicate (5 - (lg_sl ([.ref (ad 0), .int 1, .int 9])).length) Slot.unset).toArray = ls at hl ⊢
  have hl : lv_has ls 5 [(0, .ref (ad 0)), (1, .int 1), (2, .int 9)] := hl
  generalize hloc : ([] : List Loc) = locs at hw ⊢
  have hinX12 : ∀ w ∈ u_ws RX12 TX12 42, w ∈ (wu yX12_numberHere cX12_numberHere 5 (some .boolean)) := fun _ h => List.mem_cons_of_mem _ (up_71 h)
  have J126 : ∀ (v126_3 : Int32) (v126_4 : Int32) (f126_0_1 : Int32) (f126_0_14 : Int32) (f126_0_16 : Int32) (H : Heap) (locs : List Loc) (ls : Array Slot) (w1 : va_W), 0 ≤ v126_3.toInt → v126_3.toInt ≤ 399 → 1 ≤ v126_4.toInt → v126_4.toInt ≤ 9 → 1 ≤ f126_0_1.toInt → f126_0_1.toInt ≤ 400 → 0 ≤ f126_0_14.toInt → f126_0_14.toInt ≤ 400 → 1 ≤ f126_0_16.toInt → f126_0_16.toInt ≤ 9 → Wd dC dI A s.heap H locs w1 → TW ksM ad cy B qr 12 w1 → FE ksM [(12, 14, 14), (12, 15, 15), (12, 16, 16)] w0 w1 → gi w1 0 1 = f126_0_1 → gi w1 0 14 = f126_0_14 → gi w1 0 16 = f126_0_16 → TT (fun n => m_X12_numberHere n 0 1 9 (sI w0)) (fun n => b_X12_numberHere_126 (j_X12_numberHere 0 n) n 0 (sI w1)) → lv_has ls 5 [(0, .ref (ad 0)), (1, .int 1), (2, .int 9), (3, .int v126_3), (4, .int v126_4)] → W p l e ({ frames := 2, cells := 0, slots := 0, locals := 37 }) s m (List.toArray [.ref (ad 0), .int 1, .int 9]) below meth c H locs 0 0 (MQ below (va_Qi (Pz_X12_numberHere_7 ad cy B qr s1  w0) (fun u : va_W => wpost dC dI cy A u) A) (List.toArray [.ref (ad 0), .int 1, .int 9]) s 0 0 A) (F0 m 126 ls []) := by
    intro v126_3 v126_4 f126_0_1 f126_0_14 f126_0_16 H locs ls w1 r2 t3 r4 t5 r6 t7 r9 t10 r12 t13 hw hT hF c8 c11 c14 hM hl
    refine lv_iconst (v := 1) hx hb dX12_numberHere_126 (by decide) ?_
    refine lv_goto (tgt := 131) hx hb dX12_numberHere_127 (by decide) ?_
    exact tk_zret hC hr rfl hlocks hK ⟨hT, hF, hM.ret (by decide), (Or.inr (Or.inr ⟨rfl, ⟨f126_0_1, c8, (show 1 ≤ f126_0_1.toInt from r6), (show f126_0_1.toInt ≤ 400 from t7)⟩, ⟨f126_0_16, c14, (show 1 ≤ f126_0_16.toInt from r12), (show f126_0_16.toInt ≤ 9 from t13)⟩⟩))⟩ hw dX12_numberHere_131
  have J117 : ∀ (v117_3 : Int32) (v117_4 : Int32) (f117_0_1 : Int32) (f117_0_14 : Int32) (f117_0_16 : Int32) (H : Heap) (locs : List Loc) (ls : Array Slot) (w15 : va_W), 0 ≤ v117_3.toInt → v117_3.toInt ≤ 399 → 1 ≤ f117_0_1.toInt → f117_0_1.toInt ≤ 400 → 0 ≤ f117_0_14.toInt → f117_0_14.toInt ≤ 400 → Wd dC dI A s.heap H locs w15 → TW ksM ad cy B qr 12 w15 → FE ksM [(12, 14, 14), (12, 15, 15), (12, 16, 16)] w0 w15 → gi w15 0 1 = f117_0_1 → gi w15 0 14 = f117_0_14 → gi w15 0 16 = f117_0_16 → TT (fun n => m_X12_numberHere n 0 1 9 (sI w0)) (fun n => b_X12_numberHere_117 (j_X12_numberHere 0 n) n 0 (v117_3.toInt) (sI w15)) → lv_has ls 5 [(0, .ref (ad 0)), (1, .int 1), (2, .int 9), (3, .int v117_3), (4, .int v117_4)] → W p l e ({ frames := 2, cells := 0, slots := 0, locals := 37 }) s m (List.toArray [.ref (ad 0), .int 1, .int 9]) below meth c H locs 0 0 (MQ below (va_Qi (Pz_X12_numberHere_7 ad cy B qr s1  w0) (fun u : va_W => wpost dC dI cy A u) A) (List.toArray [.ref (ad 0), .int 1, .int 9]) s 0 0 A) (F0 m 117 ls []) := by
    intro v117_3 v117_4 f117_0_1 f117_0_14 f117_0_16 H locs ls w15 r16 t17 r18 t19 r21 t22 hw hT hF c20 c23 c24 hM hl
    refine lv_aload_n hx hb dX12_numberHere_117 rfl (lv_at hl 0 rfl) ?_
    refine lv_iconst (v := 1) hx hb dX12_numberHere_118 (by decide) ?_
    refine lv_iload_n hx hb dX12_numberHere_119 rfl (lv_at hl 3 rfl) ?_
    refine tk_Vi hC hK hw hT hA hE hSR kM_at0 (by decide) rfl (kz_X12_fails_1 l adK adV dC dI cy ad B hB0 (Int.le_trans hB1 (by decide)) qr s1   1 (by decide) (by decide) v117_3 (show 0 ≤ v117_3.toInt from r16) (show v117_3.toInt ≤ 400 from Int.le_trans t17 (by decide)) w15 H.size hT ) (cwV 2 hC.2.2.2.2 uV_RX12_115 rfl rfl rfl (by decide +kernel) ⟨Nat.le_of_ble_eq_true rfl, Nat.le_of_ble_eq_true rfl⟩) rfl hl.1 rfl (Nat.le_of_ble_eq_true rfl) dX12_numberHere_120 (fun r25 w27 H locs hp26 hw => ?_)
    obtain ⟨hT, k28, hv32, hg31⟩ := hp26
    try simp only [show (1 : Int32).toInt = 1 by decide] at hv32
    have hF := hF.tr k28 (by decide)
    have c33 := k28.gi kM_at0 (by decide) c20
    have c34 := k28.gi kM_at0 (by decide) c23
    have c35 := k28.gi kM_at0 (by decide) c24
    obtain ⟨rfl, ⟨x29, c30, rx29, tx29⟩⟩ := hg31
    replace hM := hM.call (r' := 0) hv32 (by decide)
    refine lv_if_eq (tgt := 130) hx hb dX12_numberHere_123 (by decide) (fun _ => ?_) (fun c => absurd (by decide) c)
    replace hM := hM.pos (by decide)
    refine lv_iconst (v := 0) hx hb dX12_numberHere_130 (by decide) ?_
    exact tk_zret hC hr rfl hlocks hK ⟨hT, hF, hM.ret (by decide), (Or.inl ⟨rfl, ⟨f117_0_1, c33, (show 1 ≤ f117_0_1.toInt from r18), (show f117_0_1.toInt ≤ 400 from t19)⟩, ⟨x29, c30, (show 1 ≤ x29.toInt by first | with_reducible assumption | omega), (show x29.toInt ≤ 3205 by first | with_reducible assumption | omega)⟩⟩)⟩ hw dX12_numberHere_131
  have L34 : ∀ (n34 : Nat) (v34_3 : Int32) (v34_4 : Int32) (f34_0_1 : Int32) (f34_0_14 : Int32) (H : Heap) (locs : List Loc) (ls : Array Slot) (w36 : va_W), 0 ≤ v34_3.toInt → v34_3.toInt ≤ 399 → 1 ≤ f34_0_1.toInt → f34_0_1.toInt ≤ 400 → 0 ≤ f34_0_14.toInt → f34_0_14.toInt ≤ 400 → (400 - f34_0_14.toInt).toNat < n34 → Wd dC dI A s.heap H locs w36 → TW ksM ad cy B qr 12 w36 → FE ksM [(12, 14, 14), (12, 15, 15), (12, 16, 16)] w0 w36 → gi w36 0 1 = f34_0_1 → gi w36 0 14 = f34_0_14 → TT (fun n => m_X12_numberHere n 0 1 9 (sI w0)) (fun n => j_X12_numberHere 0 n 34 [(1 : Int), (9 : Int), v34_3.toInt, v34_4.toInt] (sI w36)) → lv_has ls 5 [(0, .ref (ad 0)), (1, .int 1), (2, .int 9), (3, .int v34_3), (4, .int v34_4)] → W p l e ({ frames := 2, cells := 0, slots := 0, locals := 37 }) s m (List.toArray [.ref (ad 0), .int 1, .int 9]) below meth c H locs 0 0 (MQ below (va_Qi (Pz_X12_numberHere_7 ad cy B qr s1  w0) (fun u : va_W => wpost dC dI cy A u) A) (List.toArray [.ref (ad 0), .int 1, .int 9]) s 0 0 A) (F0 m 34 ls []) := by
    intro n34
    induction n34 with
    | zero => intro v34_3 v34_4 f34_0_1 f34_0_14 H locs ls w36 r37 t38 r39 t40 r42 t43 hm34 hw hT hF c41 c44 hM hl; omega
    | succ n34 ih34 =>
      intro v34_3 v34_4 f34_0_1 f34_0_14 H locs ls w36 r37 t38 r39 t40 r42 t43 hm34 hw hT hF c41 c44 hM hl
      have J75 : ∀ (v75_4 : Int32) (H : Heap) (locs : List Loc) (ls : Array Slot) (w45 : va_W), 0 ≤ v34_3.toInt → v34_3.toInt ≤ 399 → 1 ≤ f34_0_1.toInt → f34_0_1.toInt ≤ 400 → 0 ≤ f34_0_14.toInt → f34_0_14.toInt ≤ 399 → Wd dC dI A s.heap H locs w45 → TW ksM ad cy B qr 12 w45 → FE ksM [(12, 14, 14), (12, 15, 15), (12, 16, 16)] w0 w45 → gi w45 0 1 = f34_0_1 → gi w45 0 14 = f34_0_14 → TT (fun n => m_X12_numberHere n 0 1 9 (sI w0)) (fun n => b_X12_numberHere_75 (j_X12_numberHere 0 n) n 0 (1 : Int) (9 : Int) (v34_3.toInt) (v75_4.toInt) (sI w45)) → lv_has ls 5 [(0, .ref (ad 0)), (1, .int 1), (2, .int 9), (3, .int v34_3), (4, .int v75_4)] → W p l e ({ frames := 2, cells := 0, slots := 0, locals := 37 }) s m (List.toArray [.ref (ad 0), .int 1, .int 9]) below meth c H locs 0 0 (MQ below (va_Qi (Pz_X12_numberHere_7 ad cy B qr s1  w0) (fun u : va_W => wpost dC dI cy A u) A) (List.toArray [.ref (ad 0), .int 1, .int 9]) s 0 0 A) (F0 m 75 ls []) := by
        intro v75_4 H locs ls w45 r46 t47 r48 t49 r51 t52 hw hT hF c50 c53 hM hl
        refine lv_aload_n hx hb dX12_numberHere_75 rfl (lv_at hl 0 rfl) ?_
        refine lv_dup hx hb dX12_numberHere_76 rfl ?_
        refine tk_geti hC hK hw hT hinX12 kM_at0 (by decide) rfl 14 (by decide) (List.mem_cons_of_mem _ uw_19_18) rfl rfl dX12_numberHere_77 (fun x54 c55 rx54 tx54 => ?_)
        refine wk_top f34_0_14 (c55.symm.trans c53) ?_
        replace hM := hM.rd (sI_at c53)
        refine lv_iconst (v := 1) hx hb dX12_numberHere_80 (by decide) ?_
        refine lv_iadd hx hb dX12_numberHere_81 ?_
        refine lv_topi (fun x56 ex56 => ?_)
        have ezx56 := ex56
        have ex56 : x56.toInt = f34_0_14.toInt + (1 : Int) := by rw [ex56]; exact wk_add (show (-2147483648) ≤ f34_0_14.toInt + (1 : Int) by omega) (show f34_0_14.toInt + (1 : Int) ≤ 2147483647 by omega)
        replace hM := hM.lt ex56.symm
        refine tk_puti hC hK hw hT hinX12 tyX12_ok nmX12 kM_at0 (by decide) rfl rfl 14 (by decide) (List.mem_cons_of_mem _ uw_19_18) rfl rfl rfl rfl (show 0 ≤ x56.toInt by first | with_reducible assumption | omega) (show x56.toInt ≤ 400 by first | with_reducible assumption | omega) dX12_numberHere_82 (fun H locs w57 hw hT k59 c58 => ?_)
        replace hM := hM.wr (sI_up k59 c58)
        have hF := hF.put kM_at0 (k := 14) (by decide) k59
        have c60 := k59.gi (Or.inr (by decide)) c50
        refine lv_goto (tgt := 34) hx hb dX12_numberHere_85 (by decide) ?_
        exact ih34 v34_3 v75_4 f34_0_1 x56 H locs ls w57 (show 0 ≤ v34_3.toInt from r46) (show v34_3.toInt ≤ 399 from t47) (show 1 ≤ f34_0_1.toInt from r48) (show f34_0_1.toInt ≤ 400 from t49) (show 0 ≤ x56.toInt by first | with_reducible assumption | omega) (show x56.toInt ≤ 400 by first | with_reducible assumption | omega) (show (400 - x56.toInt).toNat < n34 by first | exact tn_lt hm34 (by omega) (by omega) | omega) hw hT hF c60 c58 hM (lv_sub hl [0, 1, 2, 3, 4] rfl)
      replace hM := hM.suc (fun _ => e_X12_numberHere_34)
      refine lv_aload_n hx hb dX12_numberHere_34 rfl (lv_at hl 0 rfl) ?_
      refine lv_aload_n hx hb dX12_numberHere_35 rfl (lv_at hl 0 rfl) ?_
      refine tk_geti hC hK hw hT hinX12 kM_at0 (by decide) rfl 14 (by decide) (List.mem_cons_of_mem _ uw_19_18) rfl rfl dX12_numberHere_36 (fun x61 c62 rx61 tx61 => ?_)
      refine wk_top f34_0_14 (c62.symm.trans c44) ?_
      replace hM := hM.rd (sI_at c44)
      refine tk_Vi hC hK hw hT hA hE hSR kM_at0 (by decide) rfl (kz_X12_isDigit_1 l adK adV dC dI cy ad B hB0 (Int.le_trans hB1 (by decide)) qr s1   f34_0_14 (show 0 ≤ f34_0_14.toInt from r42) (show f34_0_14.toInt ≤ 400 from t43) w36 H.size hT ) (cwV 1 hC.2.2.2.2 uV_RX12_112 rfl rfl rfl (by decide +kernel) ⟨Nat.le_of_ble_eq_true rfl, Nat.le_of_ble_eq_true rfl⟩) rfl hl.1 rfl (Nat.le_of_ble_eq_true rfl) dX12_numberHere_39 (fun r63 w65 H locs hp64 hw => ?_)
      obtain ⟨rfl, hv73, hg72⟩ := hp64
      rcases hg72 with ⟨rfl, ⟨x67, c68, rx67, tx67⟩⟩ | ⟨rfl, g69, ⟨x70, c71, rx70, tx70⟩⟩
      · replace hM := hM.call (r' := 0) hv73 (by decide)
        have ex67 : x67.toInt = f34_0_1.toInt := by rw [← c41.symm.trans c68]
        refine lv_if_eq (tgt := 88) hx hb dX12_numberHere_42 (by decide) (fun _ => ?_) (fun c => absurd (by decide) c)
        replace hM := hM.pos (by decide)
        refine lv_aload_n hx hb dX12_numberHere_88 rfl (lv_at hl 0 rfl) ?_
        refine lv_iload hx hb dX12_numberHere_89 (lv_at hl 4 rfl) ?_
        refine tk_puti hC hK hw hT hinX12 tyX12_ok nmX12 kM_at0 (by decide) rfl rfl 16 (by decide) (List.mem_cons_of_mem _ uw_21_12) rfl rfl rfl rfl (wk_i32 v34_4).1 (wk_i32 v34_4).2 dX12_numberHere_91 (fun H locs w74 hw hT k76 c75 => ?_)
        replace hM := hM.wr (sI_up k76 c75)
        have hF := hF.put kM_at0 (k := 16) (by decide) k76
        have c77 := k76.gi (Or.inr (by decide)) c41
        have c78 := k76.gi (Or.inr (by decide)) c44
        refine lv_aload_n hx hb dX12_numberHere_94 rfl (lv_at hl 0 rfl) ?_
        refine tk_geti hC hK hw hT hinX12 kM_at0 (by decide) rfl 14 (by decide) (List.mem_cons_of_mem _ uw_19_18) rfl rfl dX12_numberHere_95 (fun x79 c80 rx79 tx79 => ?_)
        refine wk_top f34_0_14 (c80.symm.trans c78) ?_
        replace hM := hM.rd (sI_at c78)
        refine lv_iload_n hx hb dX12_numberHere_98 rfl (lv_at hl 3 rfl) ?_
        refine lv_isub hx hb dX12_numberHere_99 ?_
        refine lv_topi (fun x81 ex81 => ?_)
        have ezx81 := ex81
        have ex81 : x81.toInt = f34_0_14.toInt - v34_3.toInt := by rw [ex81]; exact wk_sub (show (-2147483648) ≤ f34_0_14.toInt - v34_3.toInt by omega) (show f34_0_14.toInt - v34_3.toInt ≤ 2147483647 by omega)
        replace hM := hM.lt ex81.symm
        refine lv_iconst (v := 5) hx hb dX12_numberHere_100 (by decide) ?_
        refine lv_icmp_gt (tgt := 117) hx hb dX12_numberHere_101 (by decide) (fun c82 => ?_) (fun c82 => ?_)
        · have c82 : (5 : Int) < x81.toInt := wk_lt.mp c82
          replace hM := hM.pos c82
          exact J117 v34_3 v34_4 f34_0_1 f34_0_14 v34_4 H locs ls w74 (show 0 ≤ v34_3.toInt from r37) (show v34_3.toInt ≤ 399 from t38) (show 1 ≤ f34_0_1.toInt from r39) (show f34_0_1.toInt ≤ 400 from t40) (show 0 ≤ f34_0_14.toInt from r42) (show f34_0_14.toInt ≤ 400 from t43)  hw hT hF c77 c78 c75 hM (lv_sub hl [0, 1, 2, 3, 4] rfl)
        · have c82 : x81.toInt ≤ (5 : Int) := wk_ltF c82
          replace hM := hM.neg (Int.not_lt.mpr c82)
          refine lv_iload hx hb dX12_numberHere_104 (lv_at hl 4 rfl) ?_
          refine lv_i2l hx hb dX12_numberHere_106 rfl ?_
          refine lv_topl (fun x83 ex83 => ?_)
          have ex83 : x83.toInt = v34_4.toInt := by rw [ex83]; exact wk_i2l _
          have bx83 := wk_i32 v34_4
          replace hM := hM.lt ex83.symm
          refine lv_iload_n hx hb dX12_numberHere_107 rfl (lv_at hl 1 rfl) ?_
          refine lv_i2l hx hb dX12_numberHere_108 rfl ?_
          refine wk_topl 1 (by decide) ?_
          replace hM := hM.lt rfl
          refine lv_iload_n hx hb dX12_numberHere_109 rfl (lv_at hl 2 rfl) ?_
          refine lv_i2l hx hb dX12_numberHere_110 rfl ?_
          refine wk_topl 9 (by decide) ?_
          replace hM := hM.lt rfl
          refine tk_Si hC hK hw hT hA hE hSR (kz_X12_in_7 l adK adV dC dI cy ad B hB0 (Int.le_trans hB1 (by decide)) qr s1   x83 (show (-2147483648) ≤ x83.toInt by first | with_reducible assumption | omega) (show x83.toInt ≤ 2147483647 by first | with_reducible assumption | omega) w74 H.size hT ) (va_cwS 3 hC.2.2.2.2 uS_RX12_122 rfl rfl rfl (by decide +kernel) ⟨Nat.le_of_ble_eq_true rfl, Nat.le_of_ble_eq_true rfl⟩) rfl hl.1 rfl (Nat.le_of_ble_eq_true rfl) dX12_numberHere_111 (fun r84 w86 H locs hp85 hw => ?_)
          obtain ⟨rfl, hv91, hg90⟩ := hp85
          rcases hg90 with rfl | ⟨rfl, g88, g89⟩
          · replace hM := hM.call (r' := 0) hv91 (by decide)
            refine lv_if_ne (tgt := 126) hx hb dX12_numberHere_114 (by decide) (fun c => absurd (by decide) c) (fun _ => ?_)
            replace hM := hM.neg (by decide)
            exact J117 v34_3 v34_4 f34_0_1 f34_0_14 v34_4 H locs ls w74 (show 0 ≤ v34_3.toInt from r37) (show v34_3.toInt ≤ 399 from t38) (show 1 ≤ f34_0_1.toInt from r39) (show f34_0_1.toInt ≤ 400 from t40) (show 0 ≤ f34_0_14.toInt from r42) (show f34_0_14.toInt ≤ 400 from t43)  hw hT hF c77 c78 c75 hM (lv_sub hl [0, 1, 2, 3, 4] rfl)
          · replace hM := hM.call (r' := 1) hv91 (by decide)
            refine lv_if_ne (tgt := 126) hx hb dX12_numberHere_114 (by decide) (fun _ => ?_) (fun c => absurd c (by decide))
            replace hM := hM.pos (by decide)
            exact J126 v34_3 v34_4 f34_0_1 f34_0_14 v34_4 H locs ls w74 (show 0 ≤ v34_3.toInt from r37) (show v34_3.toInt ≤ 399 from t38) (show 1 ≤ v34_4.toInt by first | with_reducible assumption | omega) (show v34_4.toInt ≤ 9 by first | with_reducible assumption | omega) (show 1 ≤ f34_0_1.toInt from r39) (show f34_0_1.toInt ≤ 400 from t40) (show 0 ≤ f34_0_14.toInt from r42) (show f34_0_14.toInt ≤ 400 from t43) (show 1 ≤ v34_4.toInt by first | with_reducible assumption | omega) (show v34_4.toInt ≤ 9 by first | with_reducible assumption | omega)  hw hT hF c77 c78 c75 hM (lv_sub hl [0, 1, 2, 3, 4] rfl)
      · replace hM := hM.call (r' := 1) hv73 (by decide)
        have ex70 : x70.toInt = f34_0_1.toInt := by rw [← c41.symm.trans c71]
        refine lv_if_eq (tgt := 88) hx hb dX12_numberHere_42 (by decide) (fun c => absurd c (by decide)) (fun _ => ?_)
        replace hM := hM.neg (by decide)
        refine lv_aload_n hx hb dX12_numberHere_45 rfl (lv_at hl 0 rfl) ?_
        refine tk_geti hC hK hw hT hinX12 kM_at0 (by decide) rfl 14 (by decide) (List.mem_cons_of_mem _ uw_19_18) rfl rfl dX12_numberHere_46 (fun x92 c93 rx92 tx92 => ?_)
        refine wk_top f34_0_14 (c93.symm.trans c44) ?_
        replace hM := hM.rd (sI_at c44)
        refine lv_iload_n hx hb dX12_numberHere_49 rfl (lv_at hl 3 rfl) ?_
        refine lv_isub hx hb dX12_numberHere_50 ?_
        refine lv_topi (fun x94 ex94 => ?_)
        have ezx94 := ex94
        have ex94 : x94.toInt = f34_0_14.toInt - v34_3.toInt := by rw [ex94]; exact wk_sub (show (-2147483648) ≤ f34_0_14.toInt - v34_3.toInt by omega) (show f34_0_14.toInt - v34_3.toInt ≤ 2147483647 by omega)
        replace hM := hM.lt ex94.symm
        refine lv_iconst (v := 5) hx hb dX12_numberHere_51 (by decide) ?_
        refine lv_icmp_ge (tgt := 75) hx hb dX12_numberHere_52 (by decide) (fun c95 => ?_) (fun c95 => ?_)
        · have c95 : (5 : Int) ≤ x94.toInt := wk_le.mp c95
          replace hM := hM.pos c95
          exact J75 v34_4 H locs ls w36 (show 0 ≤ v34_3.toInt from r37) (show v34_3.toInt ≤ 399 from t38) (show 1 ≤ f34_0_1.toInt from r39) (show f34_0_1.toInt ≤ 400 from t40) (show 0 ≤ f34_0_14.toInt from r42) (show f34_0_14.toInt ≤ 399 by first | with_reducible assumption | omega)  hw hT hF c41 c44 hM (lv_sub hl [0, 1, 2, 3, 4] rfl)
        · have c95 : x94.toInt < (5 : Int) := wk_leF c95
          replace hM := hM.neg (Int.not_le.mpr c95)
          refine lv_bipush (v := 10) hx hb dX12_numberHere_55 (by decide) ?_
          refine lv_iload hx hb dX12_numberHere_57 (lv_at hl 4 rfl) ?_
          refine lv_imul hx hb dX12_numberHere_59 ?_
          have nx96 := wk_i32 v34_4
          refine lv_topi (fun x97 ex97 => ?_)
          have ezx97 := ex97
          replace hM := hM.lt (o32_e (f := fun x y => x * y) ezx97 (by decide) rfl)
          refine lv_aload_n hx hb dX12_numberHere_60 rfl (lv_at hl 0 rfl) ?_
          refine tk_getA hC hK hw hT hinX12 kM_at0 (by decide) rfl 0 (by decide) (List.mem_cons_of_mem _ uw_6_14) rfl rfl dX12_numberHere_61 ?_
          refine lv_aload_n hx hb dX12_numberHere_64 rfl (lv_at hl 0 rfl) ?_
          refine tk_geti hC hK hw hT hinX12 kM_at0 (by decide) rfl 14 (by decide) (List.mem_cons_of_mem _ uw_19_18) rfl rfl dX12_numberHere_65 (fun x98 c99 rx98 tx98 => ?_)
          refine wk_top f34_0_14 (c99.symm.trans c44) ?_
          replace hM := hM.rd (sI_at c44)
          refine tk_bald hC hK hw hT kM_at1 rfl rfl (show 0 ≤ f34_0_14.toInt from r42) (show f34_0_14.toInt < 400 by first | with_reducible assumption | omega) dX12_numberHere_68 (fun x100 c101 rx100 tx100 => ?_)
          have hox100 := c101
          replace hM := hM.rd (sI_at hox100)
          have c101 : gi w36 1 (f34_0_14.toInt).toNat = x100 := (congrArg (gi w36 1) (congrArg Int.toNat (show f34_0_14.toInt = f34_0_14.toInt from rfl))).trans c101
          refine lv_iadd hx hb dX12_numberHere_69 ?_
          have nx102 := wk_i32 x97
          refine lv_topi (fun x103 ex103 => ?_)
          have ezx103 := ex103
          replace hM := hM.lt (o32_e (f := fun x y => x + y) ezx103 rfl rfl)
          refine lv_bipush (v := 48) hx hb dX12_numberHere_70 (by decide) ?_
          refine lv_isub hx hb dX12_numberHere_72 ?_
          have nx104 := wk_i32 x103
          refine lv_topi (fun x105 ex105 => ?_)
          have ezx105 := ex105
          replace hM := hM.lt (o32_e (f := fun x y => x - y) ezx105 rfl (by decide))
          refine lv_istore (lv' := [(4, .int x105), (0, .ref (ad 0)), (1, .int 1), (2, .int 9), (3, .int v34_3)]) hx hb dX12_numberHere_73 hl (by decide) rfl (fun ls hl => ?_)
          exact J75 x105 H locs ls w36 (show 0 ≤ v34_3.toInt from r37) (show v34_3.toInt ≤ 399 from t38) (show 1 ≤ f34_0_1.toInt from r39) (show f34_0_1.toInt ≤ 400 from t40) (show 0 ≤ f34_0_14.toInt from r42) (show f34_0_14.toInt ≤ 399 by first | with_reducible assumption | omega)  hw hT hF c41 c44 hM (lv_sub hl [1, 2, 3, 4, 0] rfl)
  have hM : TT (fun n => m_X12_numberHere n 0 1 9 (sI w0)) (fun n => m_X12_numberHere n 0 1 9 (sI w0)) := TT.rf
  refine lv_aload_n hx hb dX12_numberHere_0 rfl (lv_at hl 0 rfl) ?_
  obtain ⟨x106, c107, rx106, tx106⟩ := hT.rdi (lo := 0) (hi := 400) (k := 14) kM_at0 (by decide) rfl
  refine tk_Vi hC hK hw hT hA hE hSR kM_at0 (by decide) rfl (kz_X12_see_1 l adK adV dC dI cy ad B hB0 (Int.le_trans hB1 (by decide)) qr s1    w0 s.heap.size hT x106 c107 (show 0 ≤ x106.toInt by first | with_reducible assumption | omega) (show x106.toInt ≤ 400 by first | with_reducible assumption | omega)) (cwV 0 hC.2.2.2.2 uV_RX12_97 rfl rfl rfl (by decide +kernel) ⟨Nat.le_of_ble_eq_true rfl, Nat.le_of_ble_eq_true rfl⟩) rfl hl.1 rfl (Nat.le_of_ble_eq_true rfl) dX12_numberHere_1 (fun r108 w110 H locs hp109 hw => ?_)
  obtain ⟨hT, k111, hv129, hg128⟩ := hp109
  have hF := hF.tr k111 (by decide)
  rcases hg128 with ⟨g112, g113, ⟨x114, c115, rx114, tx114⟩, ⟨x116, c117, rx116, tx116⟩, g118, g119⟩ | ⟨rfl, ⟨x120, c121, rx120, tx120⟩, ⟨x122, c123, rx122, tx122⟩, g124⟩ | ⟨rfl, ⟨x125, c126, rx125, tx125⟩, g127⟩
  · replace hM := hM.call hv129 rfl
    have g118 : (gi w110 1 (x116.toInt).toNat).toInt ≠ 32 := by have q := g118; simp only [c117] at q; first | with_reducible exact q | omega
    have g119 : (x116.toInt = x106.toInt ∨ (gi w0 1 (x106.toInt).toNat).toInt = 32) := by have q := g119; simp only [c107, c117] at q; first | with_reducible exact q | omega
    refine lv_pop hx hb dX12_numberHere_4 rfl ?_
    refine lv_aload_n hx hb dX12_numberHere_5 rfl (lv_at hl 0 rfl) ?_
    refine lv_aload_n hx hb dX12_numberHere_6 rfl (lv_at hl 0 rfl) ?_
    refine tk_geti hC hK hw hT hinX12 kM_at0 (by decide) rfl 14 (by decide) (List.mem_cons_of_mem _ uw_19_18) rfl rfl dX12_numberHere_7 (fun x132 c133 rx132 tx132 => ?_)
    refine wk_top x116 (c133.symm.trans c117) ?_
    replace hM := hM.rd (sI_at c117)
    refine tk_Vi hC hK hw hT hA hE hSR kM_at0 (by decide) rfl (kz_X12_isDigit_2 l adK adV dC dI cy ad B hB0 (Int.le_trans hB1 (by decide)) qr s1   x116 (show 0 ≤ x116.toInt by first | with_reducible assumption | omega) (show x116.toInt ≤ 399 by first | with_reducible assumption | omega) w110 H.size hT ) (cwV 1 hC.2.2.2.2 uV_RX12_112 rfl rfl rfl (by decide +kernel) ⟨Nat.le_of_ble_eq_true rfl, Nat.le_of_ble_eq_true rfl⟩) rfl hl.1 rfl (Nat.le_of_ble_eq_true rfl) dX12_numberHere_10 (fun r134 w136 H locs hp135 hw => ?_)
    obtain ⟨rfl, hv143, hg142⟩ := hp135
    rcases hg142 with ⟨rfl, ⟨x138, c139, rx138, tx138⟩⟩ | ⟨rfl, ⟨x140, c141, rx140, tx140⟩⟩
    · replace hM := hM.call (r' := 0) hv143 (by decide)
      have ex138 : x138.toInt = x114.toInt := by rw [← c115.symm.trans c139]
      refine lv_if_ne (tgt := 26) hx hb dX12_numberHere_13 (by decide) (fun c => absurd (by decide) c) (fun _ => ?_)
      replace hM := hM.neg (by decide)
      refine lv_aload_n hx hb dX12_numberHere_16 rfl (lv_at hl 0 rfl) ?_
      refine lv_iconst (v := 0) hx hb dX12_numberHere_17 (by decide) ?_
      refine lv_aload_n hx hb dX12_numberHere_18 rfl (lv_at hl 0 rfl) ?_
      refine tk_geti hC hK hw hT hinX12 kM_at0 (by decide) rfl 14 (by decide) (List.mem_cons_of_mem _ uw_19_18) rfl rfl dX12_numberHere_19 (fun x144 c145 rx144 tx144 => ?_)
      refine wk_top x116 (c145.symm.trans c117) ?_
      replace hM := hM.rd (sI_at c117)
      refine tk_Vi hC hK hw hT hA hE hSR kM_at0 (by decide) rfl (kz_X12_fails_1 l adK adV dC dI cy ad B hB0 (Int.le_trans hB1 (by decide)) qr s1   0 (by decide) (by decide) x116 (show 0 ≤ x116.toInt by first | with_reducible assumption | omega) (show x116.toInt ≤ 400 by first | with_reducible assumption | omega) w110 H.size hT ) (cwV 2 hC.2.2.2.2 uV_RX12_115 rfl rfl rfl (by decide +kernel) ⟨Nat.le_of_ble_eq_true rfl, Nat.le_of_ble_eq_true rfl⟩) rfl hl.1 rfl (Nat.le_of_ble_eq_true rfl) dX12_numberHere_22 (fun r146 w148 H locs hp147 hw => ?_)
      obtain ⟨hT, k149, hv153, hg152⟩ := hp147
      try simp only [show (0 : Int32).toInt = 0 by decide] at hv153
      have hF := hF.tr k149 (by decide)
      have c154 := k149.gi kM_at0 (by decide) c115
      have c155 := k149.gi kM_at0 (by decide) c117
      obtain ⟨rfl, ⟨x150, c151, rx150, tx150⟩⟩ := hg152
      replace hM := hM.call (r' := 0) hv153 (by decide)
      exact tk_zret hC hr rfl hlocks hK ⟨hT, hF, hM.ret (by decide), (Or.inl ⟨rfl, ⟨x114, c154, (show 1 ≤ x114.toInt by first | with_reducible assumption | omega), (show x114.toInt ≤ 400 by first | with_reducible assumption | omega)⟩, ⟨x150, c151, (show 1 ≤ x150.toInt by first | with_reducible assumption | omega), (show x150.toInt ≤ 3205 by first | with_reducible assumption | omega)⟩⟩)⟩ hw dX12_numberHere_25
    · replace hM := hM.call (r' := 1) hv143 (by decide)
      have ex140 : x140.toInt = x114.toInt := by rw [← c115.symm.trans c141]
      refine lv_if_ne (tgt := 26) hx hb dX12_numberHere_13 (by decide) (fun _ => ?_) (fun c => absurd c (by decide))
      replace hM := hM.pos (by decide)
      refine lv_aload_n hx hb dX12_numberHere_26 rfl (lv_at hl 0 rfl) ?_
      refine tk_geti hC hK hw hT hinX12 kM_at0 (by decide) rfl 14 (by decide) (List.mem_cons_of_mem _ uw_19_18) rfl rfl dX12_numberHere_27 (fun x156 c157 rx156 tx156 => ?_)
      refine wk_top x116 (c157.symm.trans c117) ?_
      replace hM := hM.rd (sI_at c117)
      refine lv_istore_n (lv' := [(3, .int x116), (0, .ref (ad 0)), (1, .int 1), (2, .int 9)]) hx hb dX12_numberHere_30 rfl hl (by decide) rfl (fun ls hl => ?_)
      refine lv_iconst (v := 0) hx hb dX12_numberHere_31 (by decide) ?_
      refine lv_istore (lv' := [(4, .int 0), (3, .int x116), (0, .ref (ad 0)), (1, .int 1), (2, .int 9)]) hx hb dX12_numberHere_32 hl (by decide) rfl (fun ls hl => ?_)
      exact L34 ((400 - x116.toInt).toNat + 1) x116 0 x114 x116 H locs ls w110 (show 0 ≤ x116.toInt by first | with_reducible assumption | omega) (show x116.toInt ≤ 399 by first | with_reducible assumption | omega) (show 1 ≤ x114.toInt by first | with_reducible assumption | omega) (show x114.toInt ≤ 400 by first | with_reducible assumption | omega) (show 0 ≤ x116.toInt by first | with_reducible assumption | omega) (show x116.toInt ≤ 400 by first | with_reducible assumption | omega) (Nat.lt_succ_self _) hw hT hF c115 c117 hM (lv_sub hl [2, 3, 4, 1, 0] rfl)
  · replace hM := hM.call (r' := (-1)) hv129 (by decide)
    have g124 : (x122.toInt = x106.toInt ∨ (gi w0 1 (x106.toInt).toNat).toInt = 32) := by have q := g124; simp only [c107, c123] at q; first | with_reducible exact q | omega
    refine lv_pop hx hb dX12_numberHere_4 rfl ?_
    refine lv_aload_n hx hb dX12_numberHere_5 rfl (lv_at hl 0 rfl) ?_
    refine lv_aload_n hx hb dX12_numberHere_6 rfl (lv_at hl 0 rfl) ?_
    refine tk_geti hC hK hw hT hinX12 kM_at0 (by decide) rfl 14 (by decide) (List.mem_cons_of_mem _ uw_19_18) rfl rfl dX12_numberHere_7 (fun x158 c159 rx158 tx158 => ?_)
    refine wk_top x122 (c159.symm.trans c123) ?_
    replace hM := hM.rd (sI_at c123)
    refine tk_Vi hC hK hw hT hA hE hSR kM_at0 (by decide) rfl (kz_X12_isDigit_3 l adK adV dC dI cy ad B hB0 (Int.le_trans hB1 (by decide)) qr s1   x122 (show 1 ≤ x122.toInt by first | with_reducible assumption | omega) (show x122.toInt ≤ 399 by first | with_reducible assumption | omega) w110 H.size hT ) (cwV 1 hC.2.2.2.2 uV_RX12_112 rfl rfl rfl (by decide +kernel) ⟨Nat.le_of_ble_eq_true rfl, Nat.le_of_ble_eq_true rfl⟩) rfl hl.1 rfl (Nat.le_of_ble_eq_true rfl) dX12_numberHere_10 (fun r160 w162 H locs hp161 hw => ?_)
    obtain ⟨rfl, hv169, hg168⟩ := hp161
    rcases hg168 with ⟨rfl, ⟨x164, c165, rx164, tx164⟩⟩ | ⟨rfl, ⟨x166, c167, rx166, tx166⟩⟩
    · replace hM := hM.call (r' := 0) hv169 (by decide)
      have ex164 : x164.toInt = x120.toInt := by rw [← c121.symm.trans c165]
      refine lv_if_ne (tgt := 26) hx hb dX12_numberHere_13 (by decide) (fun c => absurd (by decide) c) (fun _ => ?_)
      replace hM := hM.neg (by decide)
      refine lv_aload_n hx hb dX12_numberHere_16 rfl (lv_at hl 0 rfl) ?_
      refine lv_iconst (v := 0) hx hb dX12_numberHere_17 (by decide) ?_
      refine lv_aload_n hx hb dX12_numberHere_18 rfl (lv_at hl 0 rfl) ?_
      refine tk_geti hC hK hw hT hinX12 kM_at0 (by decide) rfl 14 (by decide) (List.mem_cons_of_mem _ uw_19_18) rfl rfl dX12_numberHere_19 (fun x170 c171 rx170 tx170 => ?_)
      refine wk_top x122 (c171.symm.trans c123) ?_
      replace hM := hM.rd (sI_at c123)
      refine tk_Vi hC hK hw hT hA hE hSR kM_at0 (by decide) rfl (kz_X12_fails_1 l adK adV dC dI cy ad B hB0 (Int.le_trans hB1 (by decide)) qr s1   0 (by decide) (by decide) x122 (show 0 ≤ x122.toInt by first | with_reducible assumption | omega) (show x122.toInt ≤ 400 by first | with_reducible assumption | omega) w110 H.size hT ) (cwV 2 hC.2.2.2.2 uV_RX12_115 rfl rfl rfl (by decide +kernel) ⟨Nat.le_of_ble_eq_true rfl, Nat.le_of_ble_eq_true rfl⟩) rfl hl.1 rfl (Nat.le_of_ble_eq_true rfl) dX12_numberHere_22 (fun r172 w174 H locs hp173 hw => ?_)
      obtain ⟨hT, k175, hv179, hg178⟩ := hp173
      try simp only [show (0 : Int32).toInt = 0 by decide] at hv179
      have hF := hF.tr k175 (by decide)
      have c180 := k175.gi kM_at0 (by decide) c121
      have c181 := k175.gi kM_at0 (by decide) c123
      obtain ⟨rfl, ⟨x176, c177, rx176, tx176⟩⟩ := hg178
      replace hM := hM.call (r' := 0) hv179 (by decide)
      exact tk_zret hC hr rfl hlocks hK ⟨hT, hF, hM.ret (by decide), (Or.inl ⟨rfl, ⟨x120, c180, (show 1 ≤ x120.toInt by first | with_reducible assumption | omega), (show x120.toInt ≤ 400 by first | with_reducible assumption | omega)⟩, ⟨x176, c177, (show 1 ≤ x176.toInt by first | with_reducible assumption | omega), (show x176.toInt ≤ 3205 by first | with_reducible assumption | omega)⟩⟩)⟩ hw dX12_numberHere_25
    · replace hM := hM.call (r' := 1) hv169 (by decide)
      have ex166 : x166.toInt = x120.toInt := by rw [← c121.symm.trans c167]
      refine lv_if_ne (tgt := 26) hx hb dX12_numberHere_13 (by decide) (fun _ => ?_) (fun c => absurd c (by decide))
      replace hM := hM.pos (by decide)
      refine lv_aload_n hx hb dX12_numberHere_26 rfl (lv_at hl 0 rfl) ?_
      refine tk_geti hC hK hw hT hinX12 kM_at0 (by decide) rfl 14 (by decide) (List.mem_cons_of_mem _ uw_19_18) rfl rfl dX12_numberHere_27 (fun x182 c183 rx182 tx182 => ?_)
      refine wk_top x122 (c183.symm.trans c123) ?_
      replace hM := hM.rd (sI_at c123)
      refine lv_istore_n (lv' := [(3, .int x122), (0, .ref (ad 0)), (1, .int 1), (2, .int 9)]) hx hb dX12_numberHere_30 rfl hl (by decide) rfl (fun ls hl => ?_)
      refine lv_iconst (v := 0) hx hb dX12_numberHere_31 (by decide) ?_
      refine lv_istore (lv' := [(4, .int 0), (3, .int x122), (0, .ref (ad 0)), (1, .int 1), (2, .int 9)]) hx hb dX12_numberHere_32 hl (by decide) rfl (fun ls hl => ?_)
      exact L34 ((400 - x122.toInt).toNat + 1) x122 0 x120 x122 H locs ls w110 (show 0 ≤ x122.toInt by first | with_reducible assumption | omega) (show x122.toInt ≤ 399 by first | with_reducible assumption | omega) (show 1 ≤ x120.toInt by first | with_reducible assumption | omega) (show x120.toInt ≤ 400 by first | with_reducible assumption | omega) (show 0 ≤ x122.toInt by first | with_reducible assumption | omega) (show x122.toInt ≤ 400 by first | with_reducible assumption | omega) (Nat.lt_succ_self _) hw hT hF c121 c123 hM (lv_sub hl [2, 3, 4, 1, 0] rfl)
  · replace hM := hM.call (r' := (-1)) hv129 (by decide)
    obtain ⟨x130, c131, rx130, tx130⟩ := hT.rdi (lo := 0) (hi := 400) (k := 14) kM_at0 (by decide) rfl
    have g127 : (x130.toInt = x106.toInt ∨ (gi w0 1 (x106.toInt).toNat).toInt = 32) := by have q := g127; simp only [c107, c131] at q; first | with_reducible exact q | omega
    refine lv_pop hx hb dX12_numberHere_4 rfl ?_
    refine lv_aload_n hx hb dX12_numberHere_5 rfl (lv_at hl 0 rfl) ?_
    refine lv_aload_n hx hb dX12_numberHere_6 rfl (lv_at hl 0 rfl) ?_
    refine tk_geti hC hK hw hT hinX12 kM_at0 (by decide) rfl 14 (by decide) (List.mem_cons_of_mem _ uw_19_18) rfl rfl dX12_numberHere_7 (fun x184 c185 rx184 tx184 => ?_)
    refine wk_top x130 (c185.symm.trans c131) ?_
    replace hM := hM.rd (sI_at c131)
    refine tk_Vi hC hK hw hT hA hE hSR kM_at0 (by decide) rfl (kz_X12_isDigit_1 l adK adV dC dI cy ad B hB0 (Int.le_trans hB1 (by decide)) qr s1   x130 (show 0 ≤ x130.toInt by first | with_reducible assumption | omega) (show x130.toInt ≤ 400 by first | with_reducible assumption | omega) w110 H.size hT ) (cwV 1 hC.2.2.2.2 uV_RX12_112 rfl rfl rfl (by decide +kernel) ⟨Nat.le_of_ble_eq_true rfl, Nat.le_of_ble_eq_true rfl⟩) rfl hl.1 rfl (Nat.le_of_ble_eq_true rfl) dX12_numberHere_10 (fun r186 w188 H locs hp187 hw => ?_)
    obtain ⟨rfl, hv196, hg195⟩ := hp187
    rcases hg195 with ⟨rfl, ⟨x190, c191, rx190, tx190⟩⟩ | ⟨rfl, g192, ⟨x193, c194, rx193, tx193⟩⟩
    · replace hM := hM.call (r' := 0) hv196 (by decide)
      have ex190 : x190.toInt = x125.toInt := by rw [← c126.symm.trans c191]
      refine lv_if_ne (tgt := 26) hx hb dX12_numberHere_13 (by decide) (fun c => absurd (by decide) c) (fun _ => ?_)
      replace hM := hM.neg (by decide)
      refine lv_aload_n hx hb dX12_numberHere_16 rfl (lv_at hl 0 rfl) ?_
      refine lv_iconst (v := 0) hx hb dX12_numberHere_17 (by decide) ?_
      refine lv_aload_n hx hb dX12_numberHere_18 rfl (lv_at hl 0 rfl) ?_
      refine tk_geti hC hK hw hT hinX12 kM_at0 (by decide) rfl 14 (by decide) (List.mem_cons_of_mem _ uw_19_18) rfl rfl dX12_numberHere_19 (fun x197 c198 rx197 tx197 => ?_)
      refine wk_top x130 (c198.symm.trans c131) ?_
      replace hM := hM.rd (sI_at c131)
      refine tk_Vi hC hK hw hT hA hE hSR kM_at0 (by decide) rfl (kz_X12_fails_1 l adK adV dC dI cy ad B hB0 (Int.le_trans hB1 (by decide)) qr s1   0 (by decide) (by decide) x130 (show 0 ≤ x130.toInt by first | with_reducible assumption | omega) (show x130.toInt ≤ 400 by first | with_reducible assumption | omega) w110 H.size hT ) (cwV 2 hC.2.2.2.2 uV_RX12_115 rfl rfl rfl (by decide +kernel) ⟨Nat.le_of_ble_eq_true rfl, Nat.le_of_ble_eq_true rfl⟩) rfl hl.1 rfl (Nat.le_of_ble_eq_true rfl) dX12_numberHere_22 (fun r199 w201 H locs hp200 hw => ?_)
      obtain ⟨hT, k202, hv206, hg205⟩ := hp200
      try simp only [show (0 : Int32).toInt = 0 by decide] at hv206
      have hF := hF.tr k202 (by decide)
      have c207 := k202.gi kM_at0 (by decide) c126
      have c208 := k202.gi kM_at0 (by decide) c131
      obtain ⟨rfl, ⟨x203, c204, rx203, tx203⟩⟩ := hg205
      replace hM := hM.call (r' := 0) hv206 (by decide)
      exact tk_zret hC hr rfl hlocks hK ⟨hT, hF, hM.ret (by decide), (Or.inr (Or.inl ⟨rfl, ⟨x125, c207, (show 0 ≤ x125.toInt by first | with_reducible assumption | omega), (show x125.toInt ≤ 400 by first | with_reducible assumption | omega)⟩, ⟨x203, c204, (show 1 ≤ x203.toInt by first | with_reducible assumption | omega), (show x203.toInt ≤ 3205 by first | with_reducible assumption | omega)⟩⟩))⟩ hw dX12_numberHere_25
    · replace hM := hM.call (r' := 1) hv196 (by decide)
      have ex193 : x193.toInt = x125.toInt := by rw [← c126.symm.trans c194]
      refine lv_if_ne (tgt := 26) hx hb dX12_numberHere_13 (by decide) (fun _ => ?_) (fun c => absurd c (by decide))
      replace hM := hM.pos (by decide)
      refine lv_aload_n hx hb dX12_numberHere_26 rfl (lv_at hl 0 rfl) ?_
      refine tk_geti hC hK hw hT hinX12 kM_at0 (by decide) rfl 14 (by decide) (List.mem_cons_of_mem _ uw_19_18) rfl rfl dX12_numberHere_27 (fun x209 c210 rx209 tx209 => ?_)
      refine wk_top x130 (c210.symm.trans c131) ?_
      replace hM := hM.rd (sI_at c131)
      refine lv_istore_n (lv' := [(3, .int x130), (0, .ref (ad 0)), (1, .int 1), (2, .int 9)]) hx hb dX12_numberHere_30 rfl hl (by decide) rfl (fun ls hl => ?_)
      refine lv_iconst (v := 0) hx hb dX12_numberHere_31 (by decide) ?_
      refine lv_istore (lv' := [(4, .int 0), (3, .int x130), (0, .ref (ad 0)), (1, .int 1), (2, .int 9)]) hx hb dX12_numberHere_32 hl (by decide) rfl (fun ls hl => ?_)
      exact L34 ((400 - x130.toInt).toNat + 1) x130 0 x125 x130 H locs ls w110 (show 0 ≤ x130.toInt by first | with_reducible assumption | omega) (show x130.toInt ≤ 399 by first | with_reducible assumption | omega) (show 1 ≤ x125.toInt by first | with_reducible assumption | omega) (show x125.toInt ≤ 400 by first | with_reducible assumption | omega) (show 0 ≤ x130.toInt by first | with_reducible assumption | omega) (show x130.toInt ≤ 400 by first | with_reducible assumption | omega) (Nat.lt_succ_self _) hw hT hF c126 c131 hM (lv_sub hl [2, 3, 4, 1, 0] rfl)
