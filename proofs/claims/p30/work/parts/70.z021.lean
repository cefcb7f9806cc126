abbrev Pz_X12_in_8 (ad : Nat → Nat) (cy : Nat → ClassId) (B : Int) (qr : Nat) (s1 : Int) (a0 : Int64) (w0 : va_W) : Int32 → va_W → Prop := fun r u => w0 = u ∧ Ev (fun n => m_X12_in n a0.toInt 2 10 (sI w0)) (r.toInt, sI w0) ∧ ((r = 0) ∨ (r = 1 ∧ 2 ≤ a0.toInt ∧ a0.toInt ≤ 10))
set_option maxHeartbeats 4000000 in
set_option maxRecDepth 100000 in
theorem kz_X12_in_8 (l : Launch) (adK adV : Nat → Nat) (dC : Nat → ClassId) (dI : Nat → Nat → Nat) (cy : Nat → ClassId) (ad : Nat → Nat) (B : Int) (hB0 : 100000 ≤ B) (hB1 : B ≤ 1073741824) (qr : Nat) (s1 : Int)  (a0 : Int64) (ra0 : (-2147483648) ≤ a0.toInt) (ta0 : a0.toInt ≤ 2147483647) (w0 : va_W) (sz : Nat) (hT : TW ksM ad cy B qr 12 w0)  : Met l yX12_in (wu yX12_in cX12_in 6 (some .boolean)) ({ frames := 1, cells := 0, slots := 0, locals := 12 }) (va_Pc [.long a0, .long 2, .long 10] (wpreS adK adV dC dI cy sz w0)) (va_Qi (Pz_X12_in_8 ad cy B qr s1 a0 w0) (fun u : va_W => wpost dC dI cy (va_A w0 sz) u) (va_A w0 sz)) 0 0 (va_A w0 sz) := by
  refine Met.ofW (cc := cX12_in) (maxL := 6) (ret := (some .boolean)) (by decide) rfl ?_
  intro p e s m args below meth c s₁ Bk hml hv
  obtain ⟨rfl, ⟨hsz, hP, hK, hD0⟩, hE, hSR⟩ := hv
  have hx := Bk.exec
  have hb := Bk.bytes
  have hr := Bk.returns
  have hlocks := Bk.notSynchronized
  have hC : CallFix p m c cX12_in 6 s _ (wu yX12_in cX12_in 6 (some .boolean)) RX12 := ⟨hx, hb, hml, findClass_of_methodNamed Bk.named, atoms_spec (ws := (wu yX12_in cX12_in 6 (some .boolean))) Bk.pre⟩
  subst hsz
  have hD := hD0.self (sz := s.heap.size)
  generalize hAe : va_A w0 s.heap.size = A at hD hE ⊢
  have hA : ∀ q : Nat, s.heap.size ≤ q → A q := fun q h => by rw [← hAe]; exact Or.inr h
  have hw : Wd dC dI A s.heap s.heap [] w0 := ⟨hP, hD, va_S.rf⟩
  have hF : FE ksM ([] : List (Nat × Nat × Nat)) w0 w0 := FE.rf
  have hl := lv_entry ([.long a0, .long 2, .long 10]) (n := 6) (Nat.le_of_ble_eq_true rfl)
  rw [lg_entry_eq]
  generalize (lg_sl ([.long a0, .long 2, .long 10]) ++ List.replicate (6 - (lg_sl ([.long a0, .long 2, .long 10])).length) Slot.unset).toArray = ls at hl ⊢
  have hl : lv_has ls 6 [(0, .long a0), (2, .long 2), (4, .long 10)] := hl
  generalize hloc : ([] : List Loc) = locs at hw ⊢
  have J17 : ∀ (H : Heap) (locs : List Loc) (ls : Array Slot), (-2147483648) ≤ a0.toInt → a0.toInt ≤ 2147483647 → Wd dC dI A s.heap H locs w0 → TT (fun n => m_X12_in n a0.toInt 2 10 (sI w0)) (fun n => b_X12_in_17 n (sI w0)) → lv_has ls 6 [(0, .long a0), (2, .long 2), (4, .long 10)] → W p l e ({ frames := 1, cells := 0, slots := 0, locals := 12 }) s m (List.toArray [.long a0, .long 2, .long 10]) below meth c H locs 0 0 (MQ below (va_Qi (Pz_X12_in_8 ad cy B qr s1 a0 w0) (fun u : va_W => wpost dC dI cy A u) A) (List.toArray [.long a0, .long 2, .long 10]) s 0 0 A) (F0 m 17 ls []) := by
    intro H locs ls r1 t2 hw hM hl
    refine lv_iconst (v := 0) hx hb dX12_in_17 (by decide) ?_
    exact tk_zret hC hr rfl hlocks hK ⟨rfl, hM.ret (by decide), (Or.inl rfl)⟩ hw dX12_in_18
  have hM : TT (fun n => m_X12_in n a0.toInt 2 10 (sI w0)) (fun n => m_X12_in n a0.toInt 2 10 (sI w0)) := TT.rf
  refine lv_lload_n hx hb dX12_in_0 rfl (lv_at hl 0 rfl) ?_
  refine lv_lload_n hx hb dX12_in_1 rfl (lv_at hl 1 rfl) ?_
  refine W.lcmp hx hb dX12_in_2 ?_
  refine lv_if_lt (tgt := 17) hx hb dX12_in_3 (by decide) (fun c3 => ?_) (fun c3 => ?_)
  · have c3 : a0.toInt < (2 : Int) := wk_cltT c3
    replace hM := hM.pos c3
    exact J17  s.heap locs ls  (show (-2147483648) ≤ a0.toInt from ra0) (show a0.toInt ≤ 2147483647 from ta0)  hw  hM (lv_sub hl [0, 1, 2] rfl)
  · have c3 : (2 : Int) ≤ a0.toInt := wk_cltF c3
    replace hM := hM.neg (Int.not_lt.mpr c3)
    refine lv_lload_n hx hb dX12_in_6 rfl (lv_at hl 0 rfl) ?_
    refine lv_lload hx hb dX12_in_7 (lv_at hl 2 rfl) ?_
    refine W.lcmp hx hb dX12_in_9 ?_
    refine lv_if_gt (tgt := 17) hx hb dX12_in_10 (by decide) (fun c4 => ?_) (fun c4 => ?_)
    · have c4 : (10 : Int) < a0.toInt := wk_cgtT c4
      replace hM := hM.pos c4
      exact J17  s.heap locs ls  (show (-2147483648) ≤ a0.toInt from ra0) (show a0.toInt ≤ 2147483647 from ta0)  hw  hM (lv_sub hl [0, 1, 2] rfl)
    · have c4 : a0.toInt ≤ (10 : Int) := wk_cgtF c4
      replace hM := hM.neg (Int.not_lt.mpr c4)
      refine lv_iconst (v := 1) hx hb dX12_in_13 (by decide) ?_
      refine lv_goto (tgt := 18) hx hb dX12_in_14 (by decide) ?_
      exact tk_zret hC hr rfl hlocks hK ⟨rfl, hM.ret (by decide), (Or.inr ⟨rfl, (show 2 ≤ a0.toInt by first | with_reducible assumption | omega), (show a0.toInt ≤ 10 by first | with_reducible assumption | omega)⟩)⟩ hw dX12_in_18
abbrev Pz_X12_numberHere_8 (ad : Nat → Nat) (cy : Nat → ClassId) (B : Int) (qr : Nat) (s1 : Int)  (w0 : va_W) : Int32 → va_W → Prop := fun r u => TW ksM ad cy B qr 12 u ∧ FE ksM [(12, 14, 14), (12, 15, 15), (12, 16, 16)] w0 u ∧ Ev (fun n => m_X12_numberHere n 0 2 10 (sI w0)) (r.toInt, sI u) ∧ ((r = 0 ∧ (∃ y : Int32, gi u 0 1 = y ∧ 1 ≤ y.toInt ∧ y.toInt ≤ 400) ∧ (∃ y : Int32, gi u 0 15 = y ∧ 1 ≤ y.toInt ∧ y.toInt ≤ 3205)) ∨ (r = 0 ∧ (∃ y : Int32, gi u 0 1 = y ∧ 0 ≤ y.toInt ∧ y.toInt ≤ 400) ∧ (∃ y : Int32, gi u 0 15 = y ∧ 1 ≤ y.toInt ∧ y.toInt ≤ 3205)) ∨ (r = 1 ∧ (∃ y : Int32, gi u 0 1 = y ∧ 1 ≤ y.toInt ∧ y.toInt ≤ 400) ∧ (∃ y : Int32, gi u 0 16 = y ∧ 2 ≤ y.toInt ∧ y.toInt ≤ 10)))
set_option maxHeartbeats 4000000 in
set_option maxRecDepth 100000 in
theorem kz_X12_numberHere_8 (l : Launch) (adK adV : Nat → Nat) (dC : Nat → ClassId) (dI : Nat → Nat → Nat) (cy : Nat → ClassId) (ad : Nat → Nat) (B : Int) (hB0 : 100000 ≤ B) (hB1 : B ≤ 1073741824) (qr : Nat) (s1 : Int)   (w0 : va_W) (sz : Nat) (hT : TW ksM ad cy B qr 12 w0)  : Met l yX12_numberHere (wu yX12_numberHere cX12_numberHere 5 (some .boolean)) ({ frames := 2, cells := 0, slots := 0, locals := 37 }) (va_Pc [.ref (ad 0), .int 2, .int 10] (wpreS adK adV dC dI cy sz w0)) (va_Qi (Pz_X12_numberHere_8 ad cy B qr s1  w0) (fun u : va_W => wpost dC dI cy (va_A w0 sz) u) (va_A w0 sz)) 0 0 (va_A w0 sz) := by
  refine Met.ofW (cc := cX12_numberHere) (maxL := 5) (ret := (some .boolean)) (by decide) rfl ?_
  intro p e s m args below meth c s₁ Bk hml hv
  obtain ⟨rfl, ⟨hsz, hP, hK, hD0⟩, hE, hSR⟩ := hv
  have hx := Bk.exec
  have hb := Bk.bytes
  have hr := Bk.returns
  have hlocks := Bk.notSynchronized
  have hC : CallFix p m c cX12_numberHere 5 s _ (wu yX12_numberHere cX12_numberHere 5 (some .boolean)) RX12 := ⟨hx, hb, hml, findClass_of_methodNamed Bk.named, atoms_spec (ws := (wu yX12_numberHere cX12_numberHere 5 (some .boolean))) Bk.pre⟩
  subst hsz
  have hD := hD0.self (sz := s.heap.size)
  generalize hAe : va_A w0 s.heap.size = A at hD hE ⊢
  have hA : ∀ q : Nat, s.heap.size ≤ q → A q := fun q h => by rw [← hAe]; exact Or.inr h
  have hw : Wd dC dI A s.heap s.heap [] w0 := ⟨hP, hD, va_S.rf⟩
  have hF : FE ksM [(12, 14, 14), (12, 15, 15), (12, 16, 16)] w0 w0 := FE.rf
  have hl := lv_entry ([.ref (ad 0), .int 2, .int 10]) (n := 5) (Nat.le_of_ble_eq_true rfl)
  rw [lg_entry_eq]
  generalize (lg_sl ([.ref (ad 0), .int 2, .int 10]) ++ List.replicate (5 - (lg_sl ([.ref (ad 0), .int 2, .int 10])).length) Slot.unset).toArray = ls at hl ⊢
  have hl : lv_has ls 5 [(0, .ref (ad 0)), (1, .int 2), (2, .int 10)] := hl
  generalize hloc : ([] : List Loc) = locs at hw ⊢
  have hinX12 : ∀ w ∈ u_ws RX12 TX12 42, w ∈ (wu yX12_numberHere cX12_numberHere 5 (some .boolean)) := fun _ h => List.mem_cons_of_mem _ (up_71 h)
  have J126 : ∀ (v126_3 : Int32) (v126_4 : Int32) (f126_0_1 : Int32) (f126_0_14 : Int32) (f126_0_16 : Int32) (H : Heap) (locs : List Loc) (ls : Array Slot) (w1 : va_W), 0 ≤ v126_3.toInt → v126_3.toInt ≤ 399 → 2 ≤ v126_4.toInt → v126_4.toInt ≤ 10 → 1 ≤ f126_0_1.toInt → f126_0_1.toInt ≤ 400 → 0 ≤ f126_0_14.toInt → f126_0_14.toInt ≤ 400 → 2 ≤ f126_0_16.toInt → f126_0_16.toInt ≤ 10 → Wd dC dI A s.heap H locs w1 → TW ksM ad cy B qr 12 w1 → FE ksM [(12, 14, 14), (12, 15, 15), (12, 16, 16)] w0 w1 → gi w1 0 1 = f126_0_1 → gi w1 0 14 = f126_0_14 → gi w1 0 16 = f126_0_16 → TT (fun n => m_X12_numberHere n 0 2 10 (sI w0)) (fun n => b_X12_numberHere_126 (j_X12_numberHere 0 n) n 0 (sI w1)) → lv_has ls 5 [(0, .ref (ad 0)), (1, .int 2), (2, .int 10), (3, .int v126_3), (4, .int v126_4)] → W p l e ({ frames := 2, cells := 0, slots := 0, locals := 37 }) s m (List.toArray [.ref (ad 0), .int 2, .int 10]) below meth c H locs 0 0 (MQ below (va_Qi (Pz_X12_numberHere_8 ad cy B qr s1  w0) (fun u : va_W => wpost dC dI cy A u) A) (List.toArray [.ref (ad 0), .int 2, .int 10]) s 0 0 A) (F0 m 126 ls []) := by
    intro v126_3 v126_4 f126_0_1 f126_0_14 f126_0_16 H locs ls w1 r2 t3 r4 t5 r6 t7 r9 t10 r12 t13 hw hT hF c8 c11 c14 hM hl
    refine lv_iconst (v := 1) hx hb dX12_numberHere_126 (by decide) ?_
    refine lv_goto (tgt := 131) hx hb dX12_numberHere_127 (by decide) ?_
    exact tk_zret hC hr rfl hlocks hK ⟨hT, hF, hM.ret (by decide), (Or.inr (Or.inr ⟨rfl, ⟨f126_0_1, c8, (show 1 ≤ f126_0_1.toInt from r6), (show f126_0_1.toInt ≤ 400 from t7)⟩, ⟨f126_0_16, c14, (show 2 ≤ f126_0_16.toInt from r12), (show f126_0_16.toInt ≤ 10 from t13)⟩⟩))⟩ hw dX12_numberHere_131
  have J117 : ∀ (v117_3 : Int32) (v117_4 : Int32) (f117_0_1 : Int32) (f117_0_14 : Int32) (f117_0_16 : Int32) (H : Heap) (locs : List Loc) (ls : Array Slot) (w15 : va_W), 0 ≤ v117_3.toInt → v117_3.toInt ≤ 399 → 1 ≤ f117_0_1.toInt → f117_0_1.toInt ≤ 400 → 0 ≤ f117_0_14.toInt → f117_0_14.toInt ≤ 400 → Wd dC dI A s.heap H locs w15 → TW ksM ad cy B qr 12 w15 → FE ksM [(12, 14, 14), (12, 15, 15), (12, 16, 16)] w0 w15 → gi w15 0 1 = f117_0_1 → gi w15 0 14 = f117_0_14 → gi w15 0 16 = f117_0_16 → TT (fun n => m_X12_numberHere n 0 2 10 (sI w0)) (fun n => b_X12_numberHere_117 (j_X12_numberHere 0 n) n 0 (v117_3.toInt) (sI w15)) → lv_has ls 5 [(0, .ref (ad 0)), (1, .int 2), (2, .int 10), (3, .int v117_3), (4, .int v117_4)] → W p l e ({ frames := 2, cells := 0, slots := 0, locals := 37 }) s m (List.toArray [.ref (ad 0), .int 2, .int 10]) below meth c H locs 0 0 (MQ below (va_Qi (Pz_X12_numberHere_8 ad cy B qr s1  w0) (fun u : va_W => wpost dC dI cy A u) A) (List.toArray [.ref (ad 0), .int 2, .int 10]) s 0 0 A) (F0 m 117 ls []) := by
    intro v117_3 v117_4 f117_0_1 f117_0_14 f117_0_16 H locs ls w15 r16 t17 r18 t19 r21 t22 hw hT hF c20 c23 c24 hM hl
    refine lv_aload_n hx hb dX12_numberHere_117 rfl (lv_at hl 0 rfl) ?_
    refine lv_iconst (v := 1) hx hb dX12_numberHere_118 (by decide) ?_
    refine lv_iload_n hx hb dX12_numberHere_119 rfl (lv_at hl 3 rfl) ?_
    refine tk_Vi hC hK hw hT hA hE hSR kM_at0 (by decide) rfl (kz_X12_fails_1 l adK adV dC dI cy ad B hB0 (Int.le_trans hB1 (by decide)) qr s1   1 (by decide) (by decide) v117_3 (show 0 ≤ v117_3.toInt from r16) (show v117_3.toInt ≤ 400 from Int.le_trans t17 (by decide)) w15 H.size hT ) (cwV 2 hC.2.2.2.2 uV_RX12_115 rfl rfl rfl (by decide +kernel) ⟨Nat.le_of_ble_eq_true rfl, Nat.le_of_ble_eq_true rfl⟩) rfl hl.1 rfl (Nat.le_of_ble_eq_true rfl) dX12_numberHere_120 (fun r25 w27 H locs hp26 hw => ?_)
    obtain ⟨hT, k28, hv32, hg31⟩ := hp26
    try simp only [show (1 : Int32).toInt = 1 by decide] at hv32
    have hF := hF.tr k28 (by decide)
    have c33 := k28.gi kM_at0 (by decide) c20
    have c34 := k28.gi kM_at0 (by decide) c23
    have c35 := k28.gi kM_at0 (by decide) c24
    obtain ⟨rfl, ⟨x29, c30, rx29, tx29⟩⟩ := hg31
    replace hM := hM.call (r' := 0) hv32 (by decide)
    refine lv_if_eq (tgt := 130) hx hb dX12_numberHere_123 (by decide) (fun _ => ?_) (fun c => absurd (by decide) c)
    replace hM := hM.pos (by decide)
    refine lv_iconst (v := 0) hx hb dX12_numberHere_130 (by decide) ?_
    exact tk_zret hC hr rfl hlocks hK ⟨hT, hF, hM.ret (by decide), (Or.inl ⟨rfl, ⟨f117_0_1, c33, (show 1 ≤ f117_0_1.toInt from r18), (show f117_0_1.toInt ≤ 400 from t19)⟩, ⟨x29, c30, (show 1 ≤ x29.toInt by first | with_reducible assumption | omega), (show x29.toInt ≤ 3205 by first | with_reducible assumption | omega)⟩⟩)⟩ hw dX12_numberHere_131
  have L34 : ∀ (n34 : Nat) (v34_3 : Int32) (v34_4 : Int32) (f34_0_1 : Int32) (f34_0_14 : Int32) (H : Heap) (locs : List Loc) (ls : Array Slot) (w36 : va_W), 0 ≤ v34_3.toInt → v34_3.toInt ≤ 399 → 1 ≤ f34_0_1.toInt → f34_0_1.toInt ≤ 400 → 0 ≤ f34_0_14.toInt → f34_0_14.toInt ≤ 400 → (400 - f34_0_14.toInt).toNat < n34 → Wd dC dI A s.heap H locs w36 → TW ksM ad cy B qr 12 w36 → FE ksM [(12, 14, 14), (12, 15, 15), (12, 16, 16)] w0 w36 → gi w36 0 1 = f34_0_1 → gi w36 0 14 = f34_0_14 → TT (fun n => m_X12_numberHere n 0 2 10 (sI w0)) (fun n => j_X12_numberHere 0 n 34 [(2 : Int), (10 : Int), v34_3.toInt, v34_4.toInt] (sI w36)) → lv_has ls 5 [(0, .ref (ad 0)), (1, .int 2), (2, .int 10), (3, .int v34_3), (4, .int v34_4)] → W p l e ({ frames := 2, cells := 0, slots := 0, locals := 37 }) s m (List.toArray [.ref (ad 0), .int 2, .int 10]) below meth c H locs 0 0 (MQ below (va_Qi (Pz_X12_numberHere_8 ad cy B qr s1  w0) (fun u : va_W => wpost dC dI cy A u) A) (List.toArray [.ref (ad 0), .int 2, .int 10]) s 0 0 A) (F0 m 34 ls []) := by
    intro n34
    induction n34 with
    | zero => intro v34_3 v34_4 f34_0_1 f34_0_14 H locs ls w36 r37 t38 r39 t40 r42 t43 hm34 hw hT hF c41 c44 hM hl; omega
    | succ n34 ih34 =>
      intro v34_3 v34_4 f34_0_1 f34_0_14 H locs ls w36 r37 t38 r39 t40 r42 t43 hm34 hw hT hF c41 c44 hM hl
      have J75 : ∀ (v75_4 : Int32) (H : Heap) (locs : List Loc) (ls : Array Slot) (w45 : va_W), 0 ≤ v34_3.toInt → v34_3.toInt ≤ 399 → 1 ≤ f34_0_1.toInt → f34_0_1.toInt ≤ 400 → 0 ≤ f34_0_14.toInt → f34_0_14.toInt ≤ 399 → Wd dC dI A s.heap H locs w45 → TW ksM ad cy B qr 12 w45 → FE ksM [(12, 14, 14), (12, 15, 15), (12, 16, 16)] w0 w45 → gi w45 0 1 = f34_0_1 → gi w45 0 14 = f34_0_14 → TT (fun n => m_X12_numberHere n 0 2 10 (sI w0)) (fun n => b_X12_numberHere_75 (j_X12_numberHere 0 n) n 0 (2 : Int) (10 : Int) (v34_3.toInt) (v75_4.toInt) (sI w45)) → lv_has ls 5 [(0, .ref (ad 0)), (1, .int 2), (2, .int 10), (3, .int v34_3), (4, .int v75_4)] → W p l e ({ frames := 2, cells := 0, slots := 0, locals := 37 }) s m (List.toArray [.ref (ad 0), .int 2, .int 10]) below meth c H locs 0 0 (MQ below (va_Qi (Pz_X12_numberHere_8 ad cy B qr s1  w0) (fun u : va_W => wpost dC dI cy A u) A) (List.toArray [.ref (ad 0), .int 2, .int 10]) s 0 0 A) (F0 m 75 ls []) := by
        intro v75_4 H locs ls w45 r46 t47 r48 t49 r51 t52 hw hT hF c50 c53 hM hl
        refine lv_aload_n hx hb dX12_numberHere_75 rfl (lv_at hl 0 rfl) ?_
        refine lv_dup hx hb dX12_numberHere_76 rfl ?_
        refine tk_geti hC hK hw hT hinX12 kM_at0 (by decide) rfl 14 (by decide) (List.mem_cons_of_mem _ uw_19_18) rfl rfl dX12_numberHere_77 (fun x54 c55 rx54 tx54 => ?_)
        refine wk_top f34_0_14 (c55.symm.trans c53) ?_
        replace hM := hM.rd (sI_at c53)
        refine lv_iconst (v := 1) hx hb dX12_numberHere_80 (by decide) ?_
        refine lv_iadd hx hb dX12_numberHere_81 ?_
        refine lv_topi (fun x56 ex56 => ?_)
        have ezx56 := ex56
        have ex56 : x56.toInt = f34_0_14.toInt + (1 : Int) := by rw [ex56]; exact wk_add (show (-2147483648) ≤ f34_0_14.toInt + (1 : Int) by omega) (show f34_0_14.toInt + (1 : Int) ≤ 2147483647 by omega)
        replace hM := hM.lt ex56.symm
        refine tk_puti hC hK hw hT hinX12 tyX12_ok nmX12 kM_at0 (by decide) rfl rfl 14 (by decide) (List.mem_cons_of_mem _ uw_19_18) rfl rfl rfl rfl (show 0 ≤ x56.toInt by first | with_reducible assumption | omega) (show x56.toInt ≤ 400 by first | with_reducible assumption | omega) dX12_numberHere_82 (fun H locs w57 hw hT k59 c58 => ?_)
        replace hM := hM.wr (sI_up k59 c58)
        have hF := hF.put kM_at0 (k := 14) (by decide) k59
        have c60 := k59.gi (Or.inr (by decide)) c50
        refine lv_goto (tgt := 34) hx hb dX12_numberHere_85 (by decide) ?_
        exact ih34 v34_3 v75_4 f34_0_1 x56 H locs ls w57 (show 0 ≤ v34_3.toInt from r46) (show v34_3.toInt ≤ 399 from t47) (show 1 ≤ f34_0_1.toInt from r48) (show f34_0_1.toInt ≤ 400 from t49) (show 0 ≤ x56.toInt by first | with_reducible assumption | omega) (show x56.toInt ≤ 400 by first | with_reducible assumption | omega) (show (400 - x56.toInt).toNat < n34 by first | exact tn_lt hm34 (by omega) (by omega) | omega) hw hT hF c60 c58 hM (lv_sub hl [0, 1, 2, 3, 4] rfl)
      replace hM := hM.suc (fun _ => e_X12_numberHere_34)
      refine lv_aload_n hx hb dX12_numberHere_34 rfl (lv_at hl 0 rfl) ?_
      refine lv_aload_n hx hb dX12_numberHere_35 rfl (lv_at hl 0 rfl) ?_
      refine tk_geti hC hK hw hT hinX12 kM_at0 (by decide) rfl 14 (by decide) (List.mem_cons_of_mem _ uw_19_18) rfl rfl dX12_numberHere_36 (fun x61 c62 rx61 tx61 => ?_)
      refine wk_top f34_0_14 (c62.symm.trans c44) ?_
      replace hM := hM.rd (sI_at c44)
      refine tk_Vi hC hK hw hT hA hE hSR kM_at0 (by decide) rfl (kz_X12_isDigit_1 l adK adV dC dI cy ad B hB0 (Int.le_trans hB1 (by decide)) qr s1   f34_0_14 (show 0 ≤ f34_0_14.toInt from r42) (show f34_0_14.toInt ≤ 400 from t43) w36 H.size hT ) (cwV 1 hC.2.2.2.2 uV_RX12_112 rfl rfl rfl (by decide +kernel) ⟨Nat.le_of_ble_eq_true rfl, Nat.le_of_ble_eq_true rfl⟩) rfl hl.1 rfl (Nat.le_of_ble_eq_true rfl) dX12_numberHere_39 (fun r63 w65 H locs hp64 hw => ?_)
      obtain ⟨rfl, hv73, hg72⟩ := hp64
      rcases hg72 with ⟨rfl, ⟨x67, c68, rx67, tx67⟩⟩ | ⟨rfl, g69, ⟨x70, c71, rx70, tx70⟩⟩
      · replace hM := hM.call (r' := 0) hv73 (by decide)
        have ex67 : x67.toInt = f34_0_1.toInt := by rw [← c41.symm.trans c68]
        refine lv_if_eq (tgt := 88) hx hb dX12_numberHere_42 (by decide) (fun _ => ?_) (fun c => absurd (by decide) c)
        replace hM := hM.pos (by decide)
        refine lv_aload_n hx hb dX12_numberHere_88 rfl (lv_at hl 0 rfl) ?_
        refine lv_iload hx hb dX12_numberHere_89 (lv_at hl 4 rfl) ?_
        refine tk_puti hC hK hw hT hinX12 tyX12_ok nmX12 kM_at0 (by decide) rfl rfl 16 (by decide) (List.mem_cons_of_mem _ uw_21_12) rfl rfl rfl rfl (wk_i32 v34_4).1 (wk_i32 v34_4).2 dX12_numberHere_91 (fun H locs w74 hw hT k76 c75 => ?_)
        replace hM := hM.wr (sI_up k76 c75)
        have hF := hF.put kM_at0 (k := 16) (by decide) k76
        have c77 := k76.gi (Or.inr (by decide)) c41
        have c78 := k76.gi (Or.inr (by decide)) c44
        refine lv_aload_n hx hb dX12_numberHere_94 rfl (lv_at hl 0 rfl) ?_
        refine tk_geti hC hK hw hT hinX12 kM_at0 (by decide) rfl 14 (by decide) (List.mem_cons_of_mem _ uw_19_18) rfl rfl dX12_numberHere_95 (fun x79 c80 rx79 tx79 => ?_)
        refine wk_top f34_0_14 (c80.symm.trans c78) ?_
        replace hM := hM.rd (sI_at c78)
        refine lv_iload_n hx hb dX12_numberHere_98 rfl (lv_at hl 3 rfl) ?_
        refine lv_isub hx hb dX12_numberHere_99 ?_
        refine lv_topi (fun x81 ex81 => ?_)
        have ezx81 := ex81
        have ex81 : x81.toInt = f34_0_14.toInt - v34_3.toInt := by rw [ex81]; exact wk_sub (show (-2147483648) ≤ f34_0_14.toInt - v34_3.toInt by omega) (show f34_0_14.toInt - v34_3.toInt ≤ 2147483647 by omega)
        replace hM := hM.lt ex81.symm
        refine lv_iconst (v := 5) hx hb dX12_numberHere_100 (by decide) ?_
        refine lv_icmp_gt (tgt := 117) hx hb dX12_numberHere_101 (by decide) (fun c82 => ?_) (fun c82 => ?_)
        · have c82 : (5 : Int) < x81.toInt := wk_lt.mp c82
          replace hM := hM.pos c82
          exact J117 v34_3 v34_4 f34_0_1 f34_0_14 v34_4 H locs ls w74 (show 0 ≤ v34_3.toInt from r37) (show v34_3.toInt ≤ 399 from t38) (show 1 ≤ f34_0_1.toInt from r39) (show f34_0_1.toInt ≤ 400 from t40) (show 0 ≤ f34_0_14.toInt from r42) (show f34_0_14.toInt ≤ 400 from t43)  hw hT hF c77 c78 c75 hM (lv_sub hl [0, 1, 2, 3, 4] rfl)
        · have c82 : x81.toInt ≤ (5 : Int) := wk_ltF c82
          replace hM := hM.neg (Int.not_lt.mpr c82)
          refine lv_iload hx hb dX12_numberHere_104 (lv_at hl 4 rfl) ?_
          refine lv_i2l hx hb dX12_numberHere_106 rfl ?_
          refine lv_topl (fun x83 ex83 => ?_)
          have ex83 : x83.toInt = v34_4.toInt := by rw [ex83]; exact wk_i2l _
          have bx83 := wk_i32 v34_4
          replace hM := hM.lt ex83.symm
          refine lv_iload_n hx hb dX12_numberHere_107 rfl (lv_at hl 1 rfl) ?_
          refine lv_i2l hx hb dX12_numberHere_108 rfl ?_
          refine wk_topl 2 (by decide) ?_
          replace hM := hM.lt rfl
          refine lv_iload_n hx hb dX12_numberHere_109 rfl (lv_at hl 2 rfl) ?_
          refine lv_i2l hx hb dX12_numberHere_110 rfl ?_
          refine wk_topl 10 (by decide) ?_
          replace hM := hM.lt rfl
          refine tk_Si hC hK hw hT hA hE hSR (kz_X12_in_8 l adK adV dC dI cy ad B hB0 (Int.le_trans hB1 (by decide)) qr s1   x83 (show (-2147483648) ≤ x83.toInt by first | with_reducible assumption | omega) (show x83.toInt ≤ 2147483647 by first | with_reducible assumption | omega) w74 H.size hT ) (va_cwS 3 hC.2.2.2.2 uS_RX12_122 rfl rfl rfl (by decide +kernel) ⟨Nat.le_of_ble_eq_true rfl, Nat.le_of_ble_eq_true rfl⟩) rfl hl.1 rfl (Nat.le_of_ble_eq_true rfl) dX12_numberHere_111 (fun r84 w86 H locs hp85 hw => ?_)
          obtain ⟨rfl, hv91, hg90⟩ := hp85
          rcases hg90 with rfl | ⟨rfl, g88, g89⟩
          · replace hM := hM.call (r' := 0) hv91 (by decide)
            refine lv_if_ne (tgt := 126) hx hb dX12_numberHere_114 (by decide) (fun c => absurd (by decide) c) (fun _ => ?_)
            replace hM := hM.neg (by decide)
            exact J117 v34_3 v34_4 f34_0_1 f34_0_14 v34_4 H locs ls w74 (show 0 ≤ v34_3.toInt from r37) (show v34_3.toInt ≤ 399 from t38) (show 1 ≤ f34_0_1.toInt from r39) (show f34_0_1.toInt ≤ 400 from t40) (show 0 ≤ f34_0_14.toInt from r42) (show f34_0_14.toInt ≤ 400 from t43)  hw hT hF c77 c78 c75 hM (lv_sub hl [0, 1, 2, 3, 4] rfl)
          · replace hM := hM.call (r' := 1) hv91 (by decide)
            refine lv_if_ne (tgt := 126) hx hb dX12_numberHere_114 (by decide) (fun _ => ?_) (fun c => absurd c (by decide))
            replace hM := hM.pos (by decide)
            exact J126 v34_3 v34_4 f34_0_1 f34_0_14 v34_4 H locs ls w74 (show 0 ≤ v34_3.toInt from r37) (show v34_3.toInt ≤ 399 from t38) (show 2 ≤ v34_4.toInt by first | with_reducible assumption | omega) (show v34_4.toInt ≤ 10 by first | with_reducible assumption | omega) (show 1 ≤ f34_0_1.toInt from r39) (show f34_0_1.toInt ≤ 400 from t40) (show 0 ≤ f34_0_14.toInt from r42) (show f34_0_14.toInt ≤ 400 from t43) (show 2 ≤ v34_4.toInt by first | with_reducible assumption | omega) (show v34_4.toInt ≤ 10 by first | with_reducible assumption | omega)  hw hT hF c77 c78 c75 hM (lv_sub hl [0, 1, 2, 3, 4] rfl)
      · replace hM := hM.call (r' := 1) hv73 (by decide)
        have ex70 : x70.toInt = f34_0_1.toInt := by rw [← c41.symm.trans c71]
        refine lv_if_eq (tgt := 88) hx hb dX12_numberHere_42 (by decide) (fun c => absurd c (by decide)) (fun _ => ?_)
        replace hM := hM.neg (by decide)
        refine lv_aload_n hx hb dX12_numberHere_45 rfl (lv_at hl 0 rfl) ?_
        refine tk_geti hC hK hw hT hinX12 kM_at0 (by decide) rfl 14 (by decide) (List.mem_cons_of_mem _ uw_19_18) rfl rfl dX12_numberHere_46 (fun x92 c93 rx92 tx92 => ?_)
        refine wk_top f34_0_14 (c93.symm.trans c44) ?_
        replace hM := hM.rd (sI_at c44)
        refine lv_iload_n hx hb dX12_numberHere_49 rfl (lv_at hl 3 rfl) ?_
        refine lv_isub hx hb dX12_numberHere_50 ?_
        refine lv_topi (fun x94 ex94 => ?_)
        have ezx94 := ex94
        have ex94 : x94.toInt = f34_0_14.toInt - v34_3.toInt := by rw [ex94]; exact wk_sub (show (-2147483648) ≤ f34_0_14.toInt - v34_3.toInt by omega) (show f34_0_14.toInt - v34_3.toInt ≤ 2147483647 by omega)
        replace hM := hM.lt ex94.symm
        refine lv_iconst (v := 5) hx hb dX12_numberHere_51 (by decide) ?_
        refine lv_icmp_ge (tgt := 75) hx hb dX12_numberHere_52 (by decide) (fun c95 => ?_) (fun c95 => ?_)
        · have c95 : (5 : Int) ≤ x94.toInt := wk_le.mp c95
          replace hM := hM.pos c95
          exact J75 v34_4 H locs ls w36 (show 0 ≤ v34_3.toInt from r37) (show v34_3.toInt ≤ 399 from t38) (show 1 ≤ f34_0_1.toInt from r39) (show f34_0_1.toInt ≤ 400 from t40) (show 0 ≤ f34_0_14.toInt from r42) (show f34_0_14.toInt ≤ 399 by first | with_reducible assumption | omega)  hw hT hF c41 c44 hM (lv_sub hl [0, 1, 2, 3, 4] rfl)
        · have c95 : x94.toInt < (5 : Int) := wk_leF c95
          replace hM := hM.neg (Int.not_le.mpr c95)
          refine lv_bipush (v := 10) hx hb dX12_numberHere_55 (by decide) ?_
          refine lv_iload hx hb dX12_numberHere_57 (lv_at hl 4 rfl) ?_
          refine lv_imul hx hb dX12_numberHere_59 ?_
          have nx96 := wk_i32 v34_4
          refine lv_topi (fun x97 ex97 => ?_)
          have ezx97 := ex97
          replace hM := hM.lt (o32_e (f := fun x y => x * y) ezx97 (by decide) rfl)
          refine lv_aload_n hx hb dX12_numberHere_60 rfl (lv_at hl 0 rfl) ?_
          refine tk_getA hC hK hw hT hinX12 kM_at0 (by decide) rfl 0 (by decide) (List.mem_cons_of_mem _ uw_6_14) rfl rfl dX12_numberHere_61 ?_
          refine lv_aload_n hx hb dX12_numberHere_64 rfl (lv_at hl 0 rfl) ?_
          refine tk_geti hC hK hw hT hinX12 kM_at0 (by decide) rfl 14 (by decide) (List.mem_cons_of_mem _ uw_19_18) rfl rfl dX12_numberHere_65 (fun x98 c99 rx98 tx98 => ?_)
          refine wk_top f34_0_14 (c99.symm.trans c44) ?_
          replace hM := hM.rd (sI_at c44)
          refine tk_bald hC hK hw hT kM_at1 rfl rfl (show 0 ≤ f34_0_14.toInt from r42) (show f34_0_14.toInt < 400 by first | with_reducible assumption | omega) dX12_numberHere_68 (fun x100 c101 rx100 tx100 => ?_)
          have hox100 := c101
          replace hM := hM.rd (sI_at hox100)
          have c101 : gi w36 1 (f34_0_14.toInt).toNat = x100 := (congrArg (gi w36 1) (congrArg Int.toNat (show f34_0_14.toInt = f34_0_14.toInt from rfl))).trans c101
          refine lv_iadd hx hb dX12_numberHere_69 ?_
          have nx102 := wk_i32 x97
          refine lv_topi (fun x103 ex103 => ?_)
          have ezx103 := ex103
          replace hM := hM.lt (o32_e (f := fun x y => x + y) ezx103 rfl rfl)
          refine lv_bipush (v := 48) hx hb dX12_numberHere_70 (by decide) ?_
          refine lv_isub hx hb dX12_numberHere_72 ?_
          have nx104 := wk_i32 x103
          refine lv_topi (fun x105 ex105 => ?_)
          have ezx105 := ex105
          replace hM := hM.lt (o32_e (f := fun x y => x - y) ezx105 rfl (by decide))
          refine lv_istore (lv' := [(4, .int x105), (0, .ref (ad 0)), (1, .int 2), (2, .int 10), (3, .int v34_3)]) hx hb dX12_numberHere_73 hl (by decide) rfl (fun ls hl => ?_)
          exact J75 x105 H locs ls w36 (show 0 ≤ v34_3.toInt from r37) (show v34_3.toInt ≤ 399 from t38) (show 1 ≤ f34_0_1.toInt from r39) (show f34_0_1.toInt ≤ 400 from t40) (show 0 ≤ f34_0_14.toInt from r42) (show f34_0_14.toInt ≤ 399 by first | with_reducible assumption | omega)  hw hT hF c41 c44 hM (lv_sub hl [1, 2, 3, 4, 0] rfl)
  have hM : TT (fun n => m_X12_numberHere n 0 2 10 (sI w0)) (fun n => m_X12_numberHere n 0 2 10 (sI w0)) := TT.rf
  refine lv_aload_n hx hb dX12_numberHere_0 rfl (lv_at hl 0 rfl) ?_
  obtain ⟨x106, c107, rx106, tx106⟩ := hT.rdi (lo := 0) (hi := 400) (k := 14) kM_at0 (by decide) rfl
  refine tk_Vi hC hK hw hT hA hE hSR kM_at0 (by decide) rfl (kz_X12_see_1 l adK adV dC dI cy ad B hB0 (Int.le_trans hB1 (by decide)) qr s1    w0 s.heap.size hT x106 c107 (show 0 ≤ x106.toInt by first | with_reducible assumption | omega) (show x106.toInt ≤ 400 by first | with_reducible assumption | omega)) (cwV 0 hC.2.2.2.2 uV_RX12_97 rfl rfl rfl (by decide +kernel) ⟨Nat.le_of_ble_eq_true rfl, Nat.le_of_ble_eq_true rfl⟩) rfl hl.1 rfl (Nat.le_of_ble_eq_true rfl) dX12_numberHere_1 (fun r108 w110 H locs hp109 hw => ?_)
  obtain ⟨hT, k111, hv129, hg128⟩ := hp109
  have hF := hF.tr k111 (by decide)
  rcases hg128 with ⟨g112, g113, ⟨x114, c115, rx114, tx114⟩, ⟨x116, c117, rx116, tx116⟩, g118, g119⟩ | ⟨rfl, ⟨x120, c121, rx120, tx120⟩, ⟨x122, c123, rx122, tx122⟩, g124⟩ | ⟨rfl, ⟨x125, c126, rx125, tx125⟩, g127⟩
  · replace hM := hM.call hv129 rfl
    have g118 : (gi w110 1 (x116.toInt).toNat).toInt ≠ 32 := by have q := g118; simp only [c117] at q; first | with_reducible exact q | omega
    have g119 : (x116.toInt = x106.toInt ∨ (gi w0 1 (x106.toInt).toNat).toInt = 32) := by have q := g119; simp only [c107, c117] at q; first | with_reducible exact q | omega
    refine lv_pop hx hb dX12_numberHere_4 rfl ?_
    refine lv_aload_n hx hb dX12_numberHere_5 rfl (lv_at hl 0 rfl) ?_
    refine lv_aload_n hx hb dX12_numberHere_6 rfl (lv_at hl 0 rfl) ?_
    refine tk_geti hC hK hw hT hinX12 kM_at0 (by decide) rfl 14 (by decide) (List.mem_cons_of_mem _ uw_19_18) rfl rfl dX12_numberHere_7 (fun x132 c133 rx132 tx132 => ?_)
    refine wk_top x116 (c133.symm.trans c117) ?_
    replace hM := hM.rd (sI_at c117)
    refine tk_Vi hC hK hw hT hA hE hSR kM_at0 (by decide) rfl (kz_X12_isDigit_2 l adK adV dC dI cy ad B hB0 (Int.le_trans hB1 (by decide)) qr s1   x116 (show 0 ≤ x116.toInt by first | with_reducible assumption | omega) (show x116.toInt ≤ 399 by first | with_reducible assumption | omega) w110 H.size hT ) (cwV 1 hC.2.2.2.2 uV_RX12_112 rfl rfl rfl (by decide +kernel) ⟨Nat.le_of_ble_eq_true rfl, Nat.le_of_ble_eq_true rfl⟩) rfl hl.1 rfl (Nat.le_of_ble_eq_true rfl) dX12_numberHere_10 (fun r134 w136 H locs hp135 hw => ?_)
    obtain ⟨rfl, hv143, hg142⟩ := hp135
    rcases hg142 with ⟨rfl, ⟨x138, c139, rx138, tx138⟩⟩ | ⟨rfl, ⟨x140, c141, rx140, tx140⟩⟩
    · replace hM := hM.call (r' := 0) hv143 (by decide)
      have ex138 : x138.toInt = x114.toInt := by rw [← c115.symm.trans c139]
      refine lv_if_ne (tgt := 26) hx hb dX12_numberHere_13 (by decide) (fun c => absurd (by decide) c) (fun _ => ?_)
      replace hM := hM.neg (by decide)
      refine lv_aload_n hx hb dX12_numberHere_16 rfl (lv_at hl 0 rfl) ?_
      refine lv_iconst (v := 0) hx hb dX12_numberHere_17 (by decide) ?_
      refine lv_aload_n hx hb dX12_numberHere_18 rfl (lv_at hl 0 rfl) ?_
      refine tk_geti hC hK hw hT hinX12 kM_at0 (by decide) rfl 14 (by decide) (List.mem_cons_of_mem _ uw_19_18) rfl rfl dX12_numberHere_19 (fun x144 c145 rx144 tx144 => ?_)
      refine wk_top x116 (c145.symm.trans c117) ?_
      replace hM := hM.rd (sI_at c117)
      refine tk_Vi hC hK hw hT hA hE hSR kM_at0 (by decide) rfl (kz_X12_fails_1 l adK adV dC dI cy ad B hB0 (Int.le_trans hB1 (by decide)) qr s1   0 (by decide) (by decide) x116 (show 0 ≤ x116.toInt by first | with_reducible assumption | omega) (show x116.toInt ≤ 400 by first | with_reducible assumption | omega) w110 H.size hT ) (cwV 2 hC.2.2.2.2 uV_RX12_115 rfl rfl rfl (by decide +kernel) ⟨Nat.le_of_ble_eq_true rfl, Nat.le_of_ble_eq_true rfl⟩) rfl hl.1 rfl (Nat.le_of_ble_eq_true rfl) dX12_numberHere_22 (fun r146 w148 H locs hp147 hw => ?_)
      obtain ⟨hT, k149, hv153, hg152⟩ := hp147
      try simp only [show (0 : Int32).toInt = 0 by decide] at hv153
      have hF := hF.tr k149 (by decide)
      have c154 := k149.gi kM_at0 (by decide) c115
      have c155 := k149.gi kM_at0 (by decide) c117
      obtain ⟨rfl, ⟨x150, c151, rx150, tx150⟩⟩ := hg152
      replace hM := hM.call (r' := 0) hv153 (by decide)
      exact tk_zret hC hr rfl hlocks hK ⟨hT, hF, hM.ret (by decide), (Or.inl ⟨rfl, ⟨x114, c154, (show 1 ≤ x114.toInt by first | with_reducible assumption | omega), (show x114.toInt ≤ 400 by first | with_reducible assumption | omega)⟩, ⟨x150, c151, (show 1 ≤ x150.toInt by first | with_reducible assumption | omega), (show x150.toInt ≤ 3205 by first | with_reducible assumption | omega)⟩⟩)⟩ hw dX12_numberHere_25
    · replace hM := hM.call (r' := 1) hv143 (by decide)
      have ex140 : x140.toInt = x114.toInt := by rw [← c115.symm.trans c141]
      refine lv_if_ne (tgt := 26) hx hb dX12_numberHere_13 (by decide) (fun _ => ?_) (fun c => absurd c (by decide))
      replace hM := hM.pos (by decide)
      refine lv_aload_n hx hb dX12_numberHere_26 rfl (lv_at hl 0 rfl) ?_
      refine tk_geti hC hK hw hT hinX12 kM_at0 (by decide) rfl 14 (by decide) (List.mem_cons_of_mem _ uw_19_18) rfl rfl dX12_numberHere_27 (fun x156 c157 rx156 tx156 => ?_)
      refine wk_top x116 (c157.symm.trans c117) ?_
      replace hM := hM.rd (sI_at c117)
      refine lv_istore_n (lv' := [(3, .int x116), (0, .ref (ad 0)), (1, .int 2), (2, .int 10)]) hx hb dX12_numberHere_30 rfl hl (by decide) rfl (fun ls hl => ?_)
      refine lv_iconst (v := 0) hx hb dX12_numberHere_31 (by decide) ?_
      refine lv_istore (lv' := [(4, .int 0), (3, .int x116), (0, .ref (ad 0)), (1, .int 2), (2, .int 10)]) hx hb dX12_numberHere_32 hl (by decide) rfl (fun ls hl => ?_)
      exact L34 ((400 - x116.toInt).toNat + 1) x116 0 x114 x116 H locs ls w110 (show 0 ≤ x116.toInt by first | with_reducible assumption | omega) (show x116.toInt ≤ 399 by first | with_reducible assumption | omega) (show 1 ≤ x114.toInt by first | with_reducible assumption | omega) (show x114.toInt ≤ 400 by first | with_reducible assumption | omega) (show 0 ≤ x116.toInt by first | with_reducible assumption | omega) (show x116.toInt ≤ 400 by first | with_reducible assumption | omega) (Nat.lt_succ_self _) hw hT hF c115 c117 hM (lv_sub hl [2, 3, 4, 1, 0] rfl)
  · replace hM := hM.call (r' := (-1)) hv129 (by decide)
    have g124 : (x122.toInt = x106.toInt ∨ (gi w0 1 (x106.toInt).toNat).toInt = 32) := by have q := g124; simp only [c107, c123] at q; first | with_reducible exact q | omega
    refine lv_pop hx hb dX12_numberHere_4 rfl ?_
    refine lv_aload_n hx hb dX12_numberHere_5 rfl (lv_at hl 0 rfl) ?_
    refine lv_aload_n hx hb dX12_numberHere_6 rfl (lv_at hl 0 rfl) ?_
    refine tk_geti hC hK hw hT hinX12 kM_at0 (by decide) rfl 14 (by decide) (List.mem_cons_of_mem _ uw_19_18) rfl rfl dX12_numberHere_7 (fun x158 c159 rx158 tx158 => ?_)
    refine wk_top x122 (c159.symm.trans c123) ?_
    replace hM := hM.rd (sI_at c123)
    refine tk_Vi hC hK hw hT hA hE hSR kM_at0 (by decide) rfl (kz_X12_isDigit_3 l adK adV dC dI cy ad B hB0 (Int.le_trans hB1 (by decide)) qr s1   x122 (show 1 ≤ x122.toInt by first | with_reducible assumption | omega) (show x122.toInt ≤ 399 by first | with_reducible assumption | omega) w110 H.size hT ) (cwV 1 hC.2.2.2.2 uV_RX12_112 rfl rfl rfl (by decide +kernel) ⟨Nat.le_of_ble_eq_true rfl, Nat.le_of_ble_eq_true rfl⟩) rfl hl.1 rfl (Nat.le_of_ble_eq_true rfl) dX12_numberHere_10 (fun r160 w162 H locs hp161 hw => ?_)
    obtain ⟨rfl, hv169, hg168⟩ := hp161
    rcases hg168 with ⟨rfl, ⟨x164, c165, rx164, tx164⟩⟩ | ⟨rfl, ⟨x166, c167, rx166, tx166⟩⟩
    · replace hM := hM.call (r' := 0) hv169 (by decide)
      have ex164 : x164.toInt = x120.toInt := by rw [← c121.symm.trans c165]
      refine lv_if_ne (tgt := 26) hx hb dX12_numberHere_13 (by decide) (fun c => absurd (by decide) c) (fun _ => ?_)
      replace hM := hM.neg (by decide)
      refine lv_aload_n hx hb dX12_numberHere_16 rfl (lv_at hl 0 rfl) ?_
      refine lv_iconst (v := 0) hx hb dX12_numberHere_17 (by decide) ?_
      refine lv_aload_n hx hb dX12_numberHere_18 rfl (lv_at hl 0 rfl) ?_
      refine tk_geti hC hK hw hT hinX12 kM_at0 (by decide) rfl 14 (by decide) (List.mem_cons_of_mem _ uw_19_18) rfl rfl dX12_numberHere_19 (fun x170 c171 rx170 tx170 => ?_)
      refine wk_top x122 (c171.symm.trans c123) ?_
      replace hM := hM.rd (sI_at c123)
      refine tk_Vi hC hK hw hT hA hE hSR kM_at0 (by decide) rfl (kz_X12_fails_1 l adK adV dC dI cy ad B hB0 (Int.le_trans hB1 (by decide)) qr s1   0 (by decide) (by decide) x122 (show 0 ≤ x122.toInt by first | with_reducible assumption | omega) (show x122.toInt ≤ 400 by first | with_reducible assumption | omega) w110 H.size hT ) (cwV 2 hC.2.2.2.2 uV_RX12_115 rfl rfl rfl (by decide +kernel) ⟨Nat.le_of_ble_eq_true rfl, Nat.le_of_ble_eq_true rfl⟩) rfl hl.1 rfl (Nat.le_of_ble_eq_true rfl) dX12_numberHere_22 (fun r172 w174 H locs hp173 hw => ?_)
      obtain ⟨hT, k175, hv179, hg178⟩ := hp173
      try simp only [show (0 : Int32).toInt = 0 by decide] at hv179
      have hF := hF.tr k175 (by decide)
      have c180 := k175.gi kM_at0 (by decide) c121
      have c181 := k175.gi kM_at0 (by decide) c123
      obtain ⟨rfl, ⟨x176, c177, rx176, tx176⟩⟩ := hg178
      replace hM := hM.call (r' := 0) hv179 (by decide)
      exact tk_zret hC hr rfl hlocks hK ⟨hT, hF, hM.ret (by decide), (Or.inl ⟨rfl, ⟨x120, c180, (show 1 ≤ x120.toInt by first | with_reducible assumption | omega), (show x120.toInt ≤ 400 by first | with_reducible assumption | omega)⟩, ⟨x176, c177, (show 1 ≤ x176.toInt by first | with_reducible assumption | omega), (show x176.toInt ≤ 3205 by first | with_reducible assumption | omega)⟩⟩)⟩ hw dX12_numberHere_25
    · replace hM := hM.call (r' := 1) hv169 (by decide)
      have ex166 : x166.toInt = x120.toInt := by rw [← c121.symm.trans c167]
      refine lv_if_ne (tgt := 26) hx hb dX12_numberHere_13 (by decide) (fun _ => ?_) (fun c => absurd c (by decide))
      replace hM := hM.pos (by decide)
      refine lv_aload_n hx hb dX12_numberHere_26 rfl (lv_at hl 0 rfl) ?_
      refine tk_geti hC hK hw hT hinX12 kM_at0 (by decide) rfl 14 (by decide) (List.mem_cons_of_mem _ uw_19_18) rfl rfl dX12_numberHere_27 (fun x182 c183 rx182 tx182 => ?_)
      refine wk_top x122 (c183.symm.trans c123) ?_
      replace hM := hM.rd (sI_at c123)
      refine lv_istore_n (lv' := [(3, .int x122), (0, .ref (ad 0)), (1, .int 2), (2, .int 10)]) hx hb dX12_numberHere_30 rfl hl (by decide) rfl (fun ls hl => ?_)
      refine lv_iconst (v := 0) hx hb dX12_numberHere_31 (by decide) ?_
      refine lv_istore (lv' := [(4, .int 0), (3, .int x122), (0, .ref (ad 0)), (1, .int 2), (2, .int 10)]) hx hb dX12_numberHere_32 hl (by decide) rfl (fun ls hl => ?_)
      exact L34 ((400 - x122.toInt).toNat + 1) x122 0 x120 x122 H locs ls w110 (show 0 ≤ x122.toInt by first | with_reducible assumption | omega) (show x122.toInt ≤ 399 by first | with_reducible assumption | omega) (show 1 ≤ x120.toInt by first | with_reducible assumption | omega) (show x120.toInt ≤ 400 by first | with_reducible assumption | omega) (show 0 ≤ x122.toInt by first | with_reducible assumption | omega) (show x122.toInt ≤ 400 by first | with_reducible assumption | omega) (Nat.lt_succ_self _) hw hT hF c121 c123 hM (lv_sub hl [2, 3, 4, 1, 0] rfl)
  · replace hM := hM.call (r' := (-1)) hv129 (by decide)
    obtain ⟨x130, c131, rx130, tx130⟩ := hT.rdi (lo := 0) (hi := 400) (k := 14) kM_at0 (by decide) rfl
    have g127 : (x130.toInt = x106.toInt ∨ (gi w0 1 (x106.toInt).toNat).toInt = 32) := by have q := g127; simp only [c107, c131] at q; first | with_reducible exact q | omega
    refine lv_pop hx hb dX12_numberHere_4 rfl ?_
    refine lv_aload_n hx hb dX12_numberHere_5 rfl (lv_at hl 0 rfl) ?_
    refine lv_aload_n hx hb dX12_numberHere_6 rfl (lv_at hl 0 rfl) ?_
    refine tk_geti hC hK hw hT hinX12 kM_at0 (by decide) rfl 14 (by decide) (List.mem_cons_of_mem _ uw_19_18) rfl rfl dX12_numberHere_7 (fun x184 c185 rx184 tx184 => ?_)
    refine wk_top x130 (c185.symm.trans c131) ?_
    replace hM := hM.rd (sI_at c131)
    refine tk_Vi hC hK hw hT hA hE hSR kM_at0 (by decide) rfl (kz_X12_isDigit_1 l adK adV dC dI cy ad B hB0 (Int.le_trans hB1 (by decide)) qr s1   x130 (show 0 ≤ x130.toInt by first | with_reducible assumption | omega) (show x130.toInt ≤ 400 by first | with_reducible assumption | omega) w110 H.size hT ) (cwV 1 hC.2.2.2.2 uV_RX12_112 rfl rfl rfl (by decide +kernel) ⟨Nat.le_of_ble_eq_true rfl, Nat.le_of_ble_eq_true rfl⟩) rfl hl.1 rfl (Nat.le_of_ble_eq_true rfl) dX12_numberHere_10 (fun r186 w188 H locs hp187 hw => ?_)
    obtain ⟨rfl, hv196, hg195⟩ := hp187
    rcases hg195 with ⟨rfl, ⟨x190, c191, rx190, tx190⟩⟩ | ⟨rfl, g192, ⟨x193, c194, rx193, tx193⟩⟩
    · replace hM := hM.call (r' := 0) hv196 (by decide)
      have ex190 : x190.toInt = x125.toInt := by rw [← c126.symm.trans c191]
      refine lv_if_ne (tgt := 26) hx hb dX12_numberHere_13 (by decide) (fun c => absurd (by decide) c) (fun _ => ?_)
      replace hM := hM.neg (by decide)
      refine lv_aload_n hx hb dX12_numberHere_16 rfl (lv_at hl 0 rfl) ?_
      refine lv_iconst (v := 0) hx hb dX12_numberHere_17 (by decide) ?_
      refine lv_aload_n hx hb dX12_numberHere_18 rfl (lv_at hl 0 rfl) ?_
      refine tk_geti hC hK hw hT hinX12 kM_at0 (by decide) rfl 14 (by decide) (List.mem_cons_of_mem _ uw_19_18) rfl rfl dX12_numberHere_19 (fun x197 c198 rx197 tx197 => ?_)
      refine wk_top x130 (c198.symm.trans c131) ?_
      replace hM := hM.rd (sI_at c131)
      refine tk_Vi hC hK hw hT hA hE hSR kM_at0 (by decide) rfl (kz_X12_fails_1 l adK adV dC dI cy ad B hB0 (Int.le_trans hB1 (by decide)) qr s1   0 (by decide) (by decide) x130 (show 0 ≤ x130.toInt by first | with_reducible assumption | omega) (show x130.toInt ≤ 400 by first | with_reducible assumption | omega) w110 H.size hT ) (cwV 2 hC.2.2.2.2 uV_RX12_115 rfl rfl rfl (by decide +kernel) ⟨Nat.le_of_ble_eq_true rfl, Nat.le_of_ble_eq_true rfl⟩) rfl hl.1 rfl (Nat.le_of_ble_eq_true rfl) dX12_numberHere_22 (fun r199 w201 H locs hp200 hw => ?_)
      obtain ⟨hT, k202, hv206, hg205⟩ := hp200
      try simp only [show (0 : Int32).toInt = 0 by decide] at hv206
      have hF := hF.tr k202 (by decide)
      have c207 := k202.gi kM_at0 (by decide) c126
      have c208 := k202.gi kM_at0 (by decide) c131
      obtain ⟨rfl, ⟨x203, c204, rx203, tx203⟩⟩ := hg205
      replace hM := hM.call (r' := 0) hv206 (by decide)
      exact tk_zret hC hr rfl hlocks hK ⟨hT, hF, hM.ret (by decide), (Or.inr (Or.inl ⟨rfl, ⟨x125, c207, (show 0 ≤ x125.toInt by first | with_reducible assumption | omega), (show x125.toInt ≤ 400 by first | with_reducible assumption | omega)⟩, ⟨x203, c204, (show 1 ≤ x203.toInt by first | with_reducible assumption | omega), (show x203.toInt ≤ 3205 by first | with_reducible assumption | omega)⟩⟩))⟩ hw dX12_numberHere_25
    · replace hM := hM.call (r' := 1) hv196 (by decide)
      have ex193 : x193.toInt = x125.toInt := by rw [← c126.symm.trans c194]
      refine lv_if_ne (tgt := 26) hx hb dX12_numberHere_13 (by decide) (fun _ => ?_) (fun c => absurd c (by decide))
      replace hM := hM.pos (by decide)
      refine lv_aload_n hx hb dX12_numberHere_26 rfl (lv_at hl 0 rfl) ?_
      refine tk_geti hC hK hw hT hinX12 kM_at0 (by decide) rfl 14 (by decide) (List.mem_cons_of_mem _ uw_19_18) rfl rfl dX12_numberHere_27 (fun x209 c210 rx209 tx209 => ?_)
      refine wk_top x130 (c210.symm.trans c131) ?_
      replace hM := hM.rd (sI_at c131)
      refine lv_istore_n (lv' := [(3, .int x130), (0, .ref (ad 0)), (1, .int 2), (2, .int 10)]) hx hb dX12_numberHere_30 rfl hl (by decide) rfl (fun ls hl => ?_)
      refine lv_iconst (v := 0) hx hb dX12_numberHere_31 (by decide) ?_
      refine lv_istore (lv' := [(4, .int 0), (3, .int x130), (0, .ref (ad 0)), (1, .int 2), (2, .int 10)]) hx hb dX12_numberHere_32 hl (by decide) rfl (fun ls hl => ?_)
      exact L34 ((400 - x130.toInt).toNat + 1) x130 0 x125 x130 H locs ls w110 (show 0 ≤ x130.toInt by first | with_reducible assumption | omega) (show x130.toInt ≤ 399 by first | with_reducible assumption | omega) (show 1 ≤ x125.toInt by first | with_reducible assumption | omega) (show x125.toInt ≤ 400 by first | with_reducible assumption | omega) (show 0 ≤ x130.toInt by first | with_reducible assumption | omega) (show x130.toInt ≤ 400 by first | with_reducible assumption | omega) (Nat.lt_succ_self _) hw hT hF c126 c131 hM (lv_sub hl [2, 3, 4, 1, 0] rfl)
abbrev Pz_X12_areCornersHere_1 (ad : Nat → Nat) (cy : Nat → ClassId) (B : Int) (qr : Nat) (s1 : Int) (a1 : Int32) (w0 : va_W) : Int32 → va_W → Prop := fun r u => TW ksM ad cy B qr 12 u ∧ FE ksM [(12, 7, 7), (12, 14, 14), (12, 15, 15), (12, 16, 16)] w0 u ∧ Ev (fun n => m_X12_areCornersHere n 0 a1.toInt (sI w0)) (r.toInt, sI u) ∧ ((r = 0 ∧ (∃ y : Int32, gi u 0 7 = y ∧ 1 ≤ y.toInt ∧ y.toInt ≤ 10) ∧ (∃ y : Int32, gi u 0 15 = y ∧ 1 ≤ y.toInt ∧ y.toInt ≤ 3205)) ∨ (r = 0 ∧ (∃ y : Int32, gi u 0 1 = y ∧ 1 ≤ y.toInt ∧ y.toInt ≤ 400) ∧ (∃ y : Int32, gi u 0 7 = y ∧ 0 ≤ y.toInt ∧ y.toInt ≤ 0) ∧ (∃ y : Int32, gi u 0 15 = y ∧ 1 ≤ y.toInt ∧ y.toInt ≤ 3205)) ∨ (r = 0 ∧ (∃ y : Int32, gi u 0 1 = y ∧ 0 ≤ y.toInt ∧ y.toInt ≤ 400) ∧ (∃ y : Int32, gi u 0 7 = y ∧ 0 ≤ y.toInt ∧ y.toInt ≤ 0) ∧ (∃ y : Int32, gi u 0 15 = y ∧ 1 ≤ y.toInt ∧ y.toInt ≤ 3205)) ∨ (r = 1 ∧ (∃ y : Int32, gi u 0 1 = y ∧ 1 ≤ y.toInt ∧ y.toInt ≤ 400) ∧ (∃ y : Int32, gi u 0 7 = y ∧ 2 ≤ y.toInt ∧ y.toInt ≤ 10) ∧ (∃ y : Int32, gi u 0 16 = y ∧ 2 ≤ y.toInt ∧ y.toInt ≤ 10)))
set_option maxHeartbeats 4000000 in
set_option maxRecDepth 100000 in
theorem kz_X12_areCornersHere_1 (l : Launch) (adK adV : Nat → Nat) (dC : Nat → ClassId) (dI : Nat → Nat → Nat) (cy : Nat → ClassId) (ad : Nat → Nat) (B : Int) (hB0 : 100000 ≤ B) (hB1 : B ≤ 1073741824) (qr : Nat) (s1 : Int)  (a1 : Int32) (ra1 : 0 ≤ a1.toInt) (ta1 : a1.toInt ≤ 400) (w0 : va_W) (sz : Nat) (hT : TW ksM ad cy B qr 12 w0)  : Met l yX12_areCornersHere (wu yX12_areCornersHere cX12_areCornersHere 2 (some .boolean)) ({ frames := 3, cells := 0, slots := 0, locals := 61 }) (va_Pc [.ref (ad 0), .int a1] (wpreS adK adV dC dI cy sz w0)) (va_Qi (Pz_X12_areCornersHere_1 ad cy B qr s1 a1 w0) (fun u : va_W => wpost dC dI cy (va_A w0 sz) u) (va_A w0 sz)) 0 0 (va_A w0 sz) := by
  refine Met.ofW (cc := cX12_areCornersHere) (maxL := 2) (ret := (some .boolean)) (by decide) rfl ?_
  intro p e s m args below meth c s₁ Bk hml hv
  obtain ⟨rfl, ⟨hsz, hP, hK, hD0⟩, hE, hSR⟩ := hv
  have hx := Bk.exec
  have hb := Bk.bytes
  have hr := Bk.returns
  have hlocks := Bk.notSynchronized
  have hC : CallFix p m c cX12_areCornersHere 2 s _ (wu yX12_areCornersHere cX12_areCornersHere 2 (some .boolean)) RX12 := ⟨hx, hb, hml, findClass_of_methodNamed Bk.named, atoms_spec (ws := (wu yX12_areCornersHere cX12_areCornersHere 2 (some .boolean))) Bk.pre⟩
  subst hsz
  have hD := hD0.self (sz := s.heap.size)
  generalize hAe : va_A w0 s.heap.size = A at hD hE ⊢
  have hA : ∀ q : Nat, s.heap.size ≤ q → A q := fun q h => by rw [← hAe]; exact Or.inr h
  have hw : Wd dC dI A s.heap s.heap [] w0 := ⟨hP, hD, va_S.rf⟩
  have hF : FE ksM [(12, 7, 7), (12, 14, 14), (12, 15, 15), (12, 16, 16)] w0 w0 := FE.rf
  have hl := lv_entry ([.ref (ad 0), .int a1]) (n := 2) (Nat.le_of_ble_eq_true rfl)
  rw [lg_entry_eq]
  generalize (lg_sl ([.ref (ad 0), .int a1]) ++ List.replicate (2 - (lg_sl ([.ref (ad 0), .int a1])).length) Slot.unset).toArray = ls at hl ⊢
  have hl : lv_has ls 2 [(0, .ref (ad 0)), (1, .int a1)] := hl
  generalize hloc : ([] : List Loc) = locs at hw ⊢
  have hinX12 : ∀ w ∈ u_ws RX12 TX12 42, w ∈ (wu yX12_areCornersHere cX12_areCornersHere 2 (some .boolean)) := fun _ h => List.mem_cons_of_mem _ (up_71 h)
  have hM : TT (fun n => m_X12_areCornersHere n 0 a1.toInt (sI w0)) (fun n => m_X12_areCornersHere n 0 a1.toInt (sI w0)) := TT.rf
  refine lv_aload_n hx hb dX12_areCornersHere_0 rfl (lv_at hl 0 rfl) ?_
  refine tk_geti hC hK hw hT hinX12 kM_at0 (by decide) rfl 7 (by decide) (List.mem_cons_of_mem _ uw_19_8) rfl rfl dX12_areCornersHere_1 (fun x1 c2 rx1 tx1 => ?_)
  replace hM := hM.rd (sI_at c2)
  refine lv_if_le (tgt := 14) hx hb dX12_areCornersHere_4 (by decide) (fun c3 => ?_) (fun c3 => ?_)
  · have c3 : x1.toInt ≤ (0 : Int) := wk_le.mp c3
    replace hM := hM.pos c3
    refine lv_aload_n hx hb dX12_areCornersHere_14 rfl (lv_at hl 0 rfl) ?_
    refine tk_Vv hC hK hw hT hA hE hSR kM_at0 (by decide) rfl (kz_X12_passWord_1 l adK adV dC dI cy ad B hB0 (Int.le_trans hB1 (by decide)) qr s1    w0 s.heap.size hT ) (cwV 0 hC.2.2.2.2 uV_RX12_109 rfl rfl rfl (by decide +kernel) ⟨Nat.le_of_ble_eq_true rfl, Nat.le_of_ble_eq_true rfl⟩) rfl hl.1 rfl (Nat.le_of_ble_eq_true rfl) dX12_areCornersHere_15 (fun w6 H locs hp5 hw => ?_)
    obtain ⟨hT, k7, hv15, hg14⟩ := hp5
    have hF := hF.tr k7 (by decide)
    have c16 := k7.gi kM_at0 (by decide) c2
    rcases hg14 with ⟨⟨x8, c9, rx8, tx8⟩, ⟨x10, c11, rx10, tx10⟩⟩ | ⟨x12, c13, rx12, tx12⟩
    · replace hM := hM.call hv15 rfl
      refine lv_aload_n hx hb dX12_areCornersHere_18 rfl (lv_at hl 0 rfl) ?_
      refine lv_iconst (v := 2) hx hb dX12_areCornersHere_19 (by decide) ?_
      refine lv_bipush (v := 10) hx hb dX12_areCornersHere_20 (by decide) ?_
      refine tk_Vi hC hK hw hT hA hE hSR kM_at0 (by decide) rfl (kz_X12_numberHere_8 l adK adV dC dI cy ad B hB0 (Int.le_trans hB1 (by decide)) qr s1    w6 H.size hT ) (cwV 2 hC.2.2.2.2 uV_RX12_167 rfl rfl rfl (by decide +kernel) ⟨Nat.le_of_ble_eq_true rfl, Nat.le_of_ble_eq_true rfl⟩) rfl hl.1 rfl (Nat.le_of_ble_eq_true rfl) dX12_areCornersHere_22 (fun r17 w19 H locs hp18 hw => ?_)
      obtain ⟨hT, k20, hv34, hg33⟩ := hp18
      have hF := hF.tr k20 (by decide)
      have c35 := k20.gi kM_at0 (by decide) c16
      have c36 := k20.gi kM_at0 (by decide) c9
      rcases hg33 with ⟨rfl, ⟨x21, c22, rx21, tx21⟩, ⟨x23, c24, rx23, tx23⟩⟩ | ⟨rfl, ⟨x25, c26, rx25, tx25⟩, ⟨x27, c28, rx27, tx27⟩⟩ | ⟨rfl, ⟨x29, c30, rx29, tx29⟩, ⟨x31, c32, rx31, tx31⟩⟩
      · replace hM := hM.call (r' := 0) hv34 (by decide)
        have ex21 : x21.toInt = x8.toInt := by rw [← c36.symm.trans c22]
        refine lv_if_ne (tgt := 30) hx hb dX12_areCornersHere_25 (by decide) (fun c => absurd (by decide) c) (fun _ => ?_)
        replace hM := hM.neg (by decide)
        refine lv_iconst (v := 0) hx hb dX12_areCornersHere_28 (by decide) ?_
        exact tk_zret hC hr rfl hlocks hK ⟨hT, hF, hM.ret (by decide), (Or.inr (Or.inl ⟨rfl, ⟨x8, c36, (show 1 ≤ x8.toInt by first | with_reducible assumption | omega), (show x8.toInt ≤ 400 by first | with_reducible assumption | omega)⟩, ⟨x1, c35, (show 0 ≤ x1.toInt from rx1), (show x1.toInt ≤ 0 by first | with_reducible assumption | omega)⟩, ⟨x23, c24, (show 1 ≤ x23.toInt by first | with_reducible assumption | omega), (show x23.toInt ≤ 3205 by first | with_reducible assumption | omega)⟩⟩))⟩ hw dX12_areCornersHere_29
      · replace hM := hM.call (r' := 0) hv34 (by decide)
        have ex25 : x25.toInt = x8.toInt := by rw [← c36.symm.trans c26]
        refine lv_if_ne (tgt := 30) hx hb dX12_areCornersHere_25 (by decide) (fun c => absurd (by decide) c) (fun _ => ?_)
        replace hM := hM.neg (by decide)
        refine lv_iconst (v := 0) hx hb dX12_areCornersHere_28 (by decide) ?_
        exact tk_zret hC hr rfl hlocks hK ⟨hT, hF, hM.ret (by decide), (Or.inr (Or.inl ⟨rfl, ⟨x8, c36, (show 1 ≤ x8.toInt by first | with_reducible assumption | omega), (show x8.toInt ≤ 400 by first | with_reducible assumption | omega)⟩, ⟨x1, c35, (show 0 ≤ x1.toInt from rx1), (show x1.toInt ≤ 0 by first | with_reducible assumption | omega)⟩, ⟨x27, c28, (show 1 ≤ x27.toInt by first | with_reducible assumption | omega), (show x27.toInt ≤ 3205 by first | with_reducible assumption | omega)⟩⟩))⟩ hw dX12_areCornersHere_29
      · replace hM := hM.call (r' := 1) hv34 (by decide)
        have ex29 : x29.toInt = x8.toInt := by rw [← c36.symm.trans c30]
        refine lv_if_ne (tgt := 30) hx hb dX12_areCornersHere_25 (by decide) (fun _ => ?_) (fun c => absurd c (by decide))
        replace hM := hM.pos (by decide)
        refine lv_aload_n hx hb dX12_areCornersHere_30 rfl (lv_at hl 0 rfl) ?_
        refine lv_aload_n hx hb dX12_areCornersHere_31 rfl (lv_at hl 0 rfl) ?_
        refine tk_geti hC hK hw hT hinX12 kM_at0 (by decide) rfl 16 (by decide) (List.mem_cons_of_mem _ uw_21_12) rfl rfl dX12_areCornersHere_32 (fun x37 c38 rx37 tx37 => ?_)
        refine wk_top x31 (c38.symm.trans c32) ?_
        replace hM := hM.rd (sI_at c32)
        refine tk_puti hC hK hw hT hinX12 tyX12_ok nmX12 kM_at0 (by decide) rfl rfl 7 (by decide) (List.mem_cons_of_mem _ uw_19_8) rfl rfl rfl rfl (show 0 ≤ x31.toInt by first | with_reducible assumption | omega) (show x31.toInt ≤ 10 by first | with_reducible assumption | omega) dX12_areCornersHere_35 (fun H locs w39 hw hT k41 c40 => ?_)
        replace hM := hM.wr (sI_up k41 c40)
        have hF := hF.put kM_at0 (k := 7) (by decide) k41
        have c42 := k41.gi (Or.inr (by decide)) c36
        have c43 := k41.gi (Or.inr (by decide)) c32
        refine lv_iconst (v := 1) hx hb dX12_areCornersHere_38 (by decide) ?_
        exact tk_zret hC hr rfl hlocks hK ⟨hT, hF, hM.ret (by decide), (Or.inr (Or.inr (Or.inr ⟨rfl, ⟨x8, c42, (show 1 ≤ x8.toInt by first | with_reducible assumption | omega), (show x8.toInt ≤ 400 by first | with_reducible assumption | omega)⟩, ⟨x31, c40, (show 2 ≤ x31.toInt by first | with_reducible assumption | omega), (show x31.toInt ≤ 10 by first | with_reducible assumption | omega)⟩, ⟨x31, c43, (show 2 ≤ x31.toInt by first | with_reducible assumption | omega), (show x31.toInt ≤ 10 by first | with_reducible assumption | omega)⟩⟩)))⟩ hw dX12_areCornersHere_39
    · replace hM := hM.call hv15 rfl
      refine lv_aload_n hx hb dX12_areCornersHere_18 rfl (lv_at hl 0 rfl) ?_
      refine lv_iconst (v := 2) hx hb dX12_areCornersHere_19 (by decide) ?_
      refine lv_bipush (v := 10) hx hb dX12_areCornersHere_20 (by decide) ?_
      refine tk_Vi hC hK hw hT hA hE hSR kM_at0 (by decide) rfl (kz_X12_numberHere_8 l adK adV dC dI cy ad B hB0 (Int.le_trans hB1 (by decide)) qr s1    w6 H.size hT ) (cwV 2 hC.2.2.2.2 uV_RX12_167 rfl rfl rfl (by decide +kernel) ⟨Nat.le_of_ble_eq_true rfl, Nat.le_of_ble_eq_true rfl⟩) rfl hl.1 rfl (Nat.le_of_ble_eq_true rfl) dX12_areCornersHere_22 (fun r44 w46 H locs hp45 hw => ?_)
      obtain ⟨hT, k47, hv61, hg60⟩ := hp45
      have hF := hF.tr k47 (by decide)
      have c62 := k47.gi kM_at0 (by decide) c16
      have c63 := k47.gi kM_at0 (by decide) c13
      rcases hg60 with ⟨rfl, ⟨x48, c49, rx48, tx48⟩, ⟨x50, c51, rx50, tx50⟩⟩ | ⟨rfl, ⟨x52, c53, rx52, tx52⟩, ⟨x54, c55, rx54, tx54⟩⟩ | ⟨rfl, ⟨x56, c57, rx56, tx56⟩, ⟨x58, c59, rx58, tx58⟩⟩
      · replace hM := hM.call (r' := 0) hv61 (by decide)
        have ex48 : x48.toInt = x12.toInt := by rw [← c63.symm.trans c49]
        refine lv_if_ne (tgt := 30) hx hb dX12_areCornersHere_25 (by decide) (fun c => absurd (by decide) c) (fun _ => ?_)
        replace hM := hM.neg (by decide)
        refine lv_iconst (v := 0) hx hb dX12_areCornersHere_28 (by decide) ?_
        exact tk_zret hC hr rfl hlocks hK ⟨hT, hF, hM.ret (by decide), (Or.inr (Or.inl ⟨rfl, ⟨x12, c63, (show 1 ≤ x12.toInt by first | with_reducible assumption | omega), (show x12.toInt ≤ 400 by first | with_reducible assumption | omega)⟩, ⟨x1, c62, (show 0 ≤ x1.toInt from rx1), (show x1.toInt ≤ 0 by first | with_reducible assumption | omega)⟩, ⟨x50, c51, (show 1 ≤ x50.toInt by first | with_reducible assumption | omega), (show x50.toInt ≤ 3205 by first | with_reducible assumption | omega)⟩⟩))⟩ hw dX12_areCornersHere_29
      · replace hM := hM.call (r' := 0) hv61 (by decide)
        have ex52 : x52.toInt = x12.toInt := by rw [← c63.symm.trans c53]
        refine lv_if_ne (tgt := 30) hx hb dX12_areCornersHere_25 (by decide) (fun c => absurd (by decide) c) (fun _ => ?_)
        replace hM := hM.neg (by decide)
        refine lv_iconst (v := 0) hx hb dX12_areCornersHere_28 (by decide) ?_
        exact tk_zret hC hr rfl hlocks hK ⟨hT, hF, hM.ret (by decide), (Or.inr (Or.inr (Or.inl ⟨rfl, ⟨x12, c63, (show 0 ≤ x12.toInt by first | with_reducible assumption | omega), (show x12.toInt ≤ 400 by first | with_reducible assumption | omega)⟩, ⟨x1, c62, (show 0 ≤ x1.toInt from rx1), (show x1.toInt ≤ 0 by first | with_reducible assumption | omega)⟩, ⟨x54, c55, (show 1 ≤ x54.toInt by first | with_reducible assumption | omega), (show x54.toInt ≤ 3205 by first | with_reducible assumption | omega)⟩⟩)))⟩ hw dX12_areCornersHere_29
      · replace hM := hM.call (r' := 1) hv61 (by decide)
        have ex56 : x56.toInt = x12.toInt := by rw [← c63.symm.trans c57]
        refine lv_if_ne (tgt := 30) hx hb dX12_areCornersHere_25 (by decide) (fun _ => ?_) (fun c => absurd c (by decide))
        replace hM := hM.pos (by decide)
        refine lv_aload_n hx hb dX12_areCornersHere_30 rfl (lv_at hl 0 rfl) ?_
        refine lv_aload_n hx hb dX12_areCornersHere_31 rfl (lv_at hl 0 rfl) ?_
        refine tk_geti hC hK hw hT hinX12 kM_at0 (by decide) rfl 16 (by decide) (List.mem_cons_of_mem _ uw_21_12) rfl rfl dX12_areCornersHere_32 (fun x64 c65 rx64 tx64 => ?_)
        refine wk_top x58 (c65.symm.trans c59) ?_
        replace hM := hM.rd (sI_at c59)
        refine tk_puti hC hK hw hT hinX12 tyX12_ok nmX12 kM_at0 (by decide) rfl rfl 7 (by decide) (List.mem_cons_of_mem _ uw_19_8) rfl rfl rfl rfl (show 0 ≤ x58.toInt by first | with_reducible assumption | omega) (show x58.toInt ≤ 10 by first | with_reducible assumption | omega) dX12_areCornersHere_35 (fun H locs w66 hw hT k68 c67 => ?_)
        replace hM := hM.wr (sI_up k68 c67)
        have hF := hF.put kM_at0 (k := 7) (by decide) k68
        have c69 := k68.gi (Or.inr (by decide)) c63
        have c70 := k68.gi (Or.inr (by decide)) c59
        refine lv_iconst (v := 1) hx hb dX12_areCornersHere_38 (by decide) ?_
        exact tk_zret hC hr rfl hlocks hK ⟨hT, hF, hM.ret (by decide), (Or.inr (Or.inr (Or.inr ⟨rfl, ⟨x12, c69, (show 1 ≤ x12.toInt by first | with_reducible assumption | omega), (show x12.toInt ≤ 400 by first | with_reducible assumption | omega)⟩, ⟨x58, c67, (show 2 ≤ x58.toInt by first | with_reducible assumption | omega), (show x58.toInt ≤ 10 by first | with_reducible assumption | omega)⟩, ⟨x58, c70, (show 2 ≤ x58.toInt by first | with_reducible assumption | omega), (show x58.toInt ≤ 10 by first | with_reducible assumption | omega)⟩⟩)))⟩ hw dX12_areCornersHere_39
  · have c3 : (0 : Int) < x1.toInt := wk_leF c3
    replace hM := hM.neg (Int.not_le.mpr c3)
    refine lv_aload_n hx hb dX12_areCornersHere_7 rfl (lv_at hl 0 rfl) ?_
    refine lv_iconst (v := 4) hx hb dX12_areCornersHere_8 (by decide) ?_
    refine lv_iload_n hx hb dX12_areCornersHere_9 rfl (lv_at hl 1 rfl) ?_
    refine tk_Vi hC hK hw hT hA hE hSR kM_at0 (by decide) rfl (kz_X12_fails_1 l adK adV dC dI cy ad B hB0 (Int.le_trans hB1 (by decide)) qr s1   4 (by decide) (by decide) a1 (show 0 ≤ a1.toInt from ra1) (show a1.toInt ≤ 400 from ta1) w0 s.heap.size hT ) (cwV 2 hC.2.2.2.2 uV_RX12_115 rfl rfl rfl (by decide +kernel) ⟨Nat.le_of_ble_eq_true rfl, Nat.le_of_ble_eq_true rfl⟩) rfl hl.1 rfl (Nat.le_of_ble_eq_true rfl) dX12_areCornersHere_10 (fun r71 w73 H locs hp72 hw => ?_)
    obtain ⟨hT, k74, hv78, hg77⟩ := hp72
    try simp only [show (4 : Int32).toInt = 4 by decide] at hv78
    have hF := hF.tr k74 (by decide)
    have c79 := k74.gi kM_at0 (by decide) c2
    obtain ⟨rfl, ⟨x75, c76, rx75, tx75⟩⟩ := hg77
    replace hM := hM.call (r' := 0) hv78 (by decide)
    exact tk_zret hC hr rfl hlocks hK ⟨hT, hF, hM.ret (by decide), (Or.inl ⟨rfl, ⟨x1, c79, (show 1 ≤ x1.toInt by first | with_reducible assumption | omega), (show x1.toInt ≤ 10 from tx1)⟩, ⟨x75, c76, (show 1 ≤ x75.toInt by first | with_reducible assumption | omega), (show x75.toInt ≤ 3205 by first | with_reducible assumption | omega)⟩⟩)⟩ hw dX12_areCornersHere_13
abbrev Pz_X12_townLineHere_1 (ad : Nat → Nat) (cy : Nat → ClassId) (B : Int) (qr : Nat) (s1 : Int) (a1 : Int32) (w0 : va_W) : Int32 → va_W → Prop := fun r u => TW ksM ad cy B qr 12 u ∧ FE ksM [(12, 7, 7), (12, 8, 8), (12, 9, 9), (12, 10, 10), (12, 14, 14), (12, 15, 15), (12, 16, 16), (65, 0, 120), (66, 0, 16), (67, 0, 12)] w0 u ∧ Ev (fun n => m_X12_townLineHere n 0 a1.toInt (sI w0)) (r.toInt, sI u) ∧ ((r = 0 ∧ (∃ y : Int32, gi u 0 1 = y ∧ 1 ≤ y.toInt ∧ y.toInt ≤ 400) ∧ (∃ y : Int32, gi u 0 7 = y ∧ 0 ≤ y.toInt ∧ y.toInt ≤ 10) ∧ (∃ y : Int32, gi u 0 15 = y ∧ 1 ≤ y.toInt ∧ y.toInt ≤ 3205)) ∨ (r = 0 ∧ (∃ y : Int32, gi u 0 1 = y ∧ 0 ≤ y.toInt ∧ y.toInt ≤ 400) ∧ (∃ y : Int32, gi u 0 7 = y ∧ 0 ≤ y.toInt ∧ y.toInt ≤ 10) ∧ (∃ y : Int32, gi u 0 15 = y ∧ 1 ≤ y.toInt ∧ y.toInt ≤ 3205)) ∨ (r = 1 ∧ (∃ y : Int32, gi u 0 1 = y ∧ 1 ≤ y.toInt ∧ y.toInt ≤ 400) ∧ (∃ y : Int32, gi u 0 7 = y ∧ 1 ≤ y.toInt ∧ y.toInt ≤ 10) ∧ (∃ y : Int32, gi u 0 16 = y ∧ 0 ≤ y.toInt ∧ y.toInt ≤ 359)))
set_option maxHeartbeats 4000000 in
set_option maxRecDepth 100000 in
theorem kz_X12_townLineHere_1 (l : Launch) (adK adV : Nat → Nat) (dC : Nat → ClassId) (dI : Nat → Nat → Nat) (cy : Nat → ClassId) (ad : Nat → Nat) (B : Int) (hB0 : 100000 ≤ B) (hB1 : B ≤ 1073741824) (qr : Nat) (s1 : Int)  (a1 : Int32) (ra1 : 0 ≤ a1.toInt) (ta1 : a1.toInt ≤ 400) (w0 : va_W) (sz : Nat) (hT : TW ksM ad cy B qr 12 w0)  : Met l yX12_townLineHere (wu yX12_townLineHere cX12_townLineHere 2 (some .boolean)) ({ frames := 4, cells := 0, slots := 0, locals := 84 }) (va_Pc [.ref (ad 0), .int a1] (wpreS adK adV dC dI cy sz w0)) (va_Qi (Pz_X12_townLineHere_1 ad cy B qr s1 a1 w0) (fun u : va_W => wpost dC dI cy (va_A w0 sz) u) (va_A w0 sz)) 0 0 (va_A w0 sz) := by
  refine Met.ofW (cc := cX12_townLineHere) (maxL := 2) (ret := (some .boolean)) (by decide) rfl ?_
  intro p e s m args below meth c s₁ Bk hml hv
  obtain ⟨rfl, ⟨hsz, hP, hK, hD0⟩, hE, hSR⟩ := hv
  have hx := Bk.exec
  have hb := Bk.bytes
  have hr := Bk.returns
  have hlocks := Bk.notSynchronized
  have hC : CallFix p m c cX12_townLineHere 2 s _ (wu yX12_townLineHere cX12_townLineHere 2 (some .boolean)) RX12 := ⟨hx, hb, hml, findClass_of_methodNamed Bk.named, atoms_spec (ws := (wu yX12_townLineHere cX12_townLineHere 2 (some .boolean))) Bk.pre⟩
  subst hsz
  have hD := hD0.self (sz := s.heap.size)
  generalize hAe : va_A w0 s.heap.size = A at hD hE ⊢
  have hA : ∀ q : Nat, s.heap.size ≤ q → A q := fun q h => by rw [← hAe]; exact Or.inr h
  have hw : Wd dC dI A s.heap s.heap [] w0 := ⟨hP, hD, va_S.rf⟩
  have hF : FE ksM [(12, 7, 7), (12, 8, 8), (12, 9, 9), (12, 10, 10), (12, 14, 14), (12, 15, 15), (12, 16, 16), (65, 0, 120), (66, 0, 16), (67, 0, 12)] w0 w0 := FE.rf
  have hl := lv_entry ([.ref (ad 0), .int a1]) (n := 2) (Nat.le_of_ble_eq_true rfl)
  rw [lg_entry_eq]
  generalize (lg_sl ([.ref (ad 0), .int a1]) ++ List.replicate (2 - (lg_sl ([.ref (ad 0), .int a1])).length) Slot.unset).toArray = ls at hl ⊢
  have hl : lv_has ls 2 [(0, .ref (ad 0)), (1, .int a1)] := hl
  generalize hloc : ([] : List Loc) = locs at hw ⊢
  have hinX12 : ∀ w ∈ u_ws RX12 TX12 42, w ∈ (wu yX12_townLineHere cX12_townLineHere 2 (some .boolean)) := fun _ h => List.mem_cons_of_mem _ (up_71 h)
  have hM : TT (fun n => m_X12_townLineHere n 0 a1.toInt (sI w0)) (fun n => m_X12_townLineHere n 0 a1.toInt (sI w0)) := TT.rf
  refine lv_aload_n hx hb dX12_townLineHere_0 rfl (lv_at hl 0 rfl) ?_
  refine lv_ldc2 (v := 27988559963452019) hx hb hC.2.2.2.1 (hC.2.2.2.2 _ (List.mem_cons_of_mem _ uw_20_0)) dX12_townLineHere_1 ?_
  obtain ⟨x1, c2, rx1, tx1⟩ := hT.rdi (lo := 0) (hi := 400) (k := 14) kM_at0 (by decide) rfl
  refine tk_Vi hC hK hw hT hA hE hSR kM_at0 (by decide) rfl (kz_X12_isWord_1 l adK adV dC dI cy ad B hB0 (Int.le_trans hB1 (by decide)) qr s1    w0 s.heap.size hT x1 c2 (show 0 ≤ x1.toInt by first | with_reducible assumption | omega) (show x1.toInt ≤ 400 by first | with_reducible assumption | omega)) (cwV 1 hC.2.2.2.2 uV_RX12_105 rfl rfl rfl (by decide +kernel) ⟨Nat.le_of_ble_eq_true rfl, Nat.le_of_ble_eq_true rfl⟩) rfl hl.1 rfl (Nat.le_of_ble_eq_true rfl) dX12_townLineHere_4 (fun r3 w5 H locs hp4 hw => ?_)
  obtain ⟨hT, k6, hv14, hg13⟩ := hp4
  have hF := hF.tr k6 (by decide)
  rcases hg13 with ⟨rfl, ⟨x7, c8, rx7, tx7⟩, g9⟩ | ⟨rfl, ⟨x10, c11, rx10, tx10⟩, g12⟩
  · replace hM := hM.call (r' := 0) hv14 (by decide)
    obtain ⟨x15, c16, rx15, tx15⟩ := hT.rdi (lo := 0) (hi := 400) (k := 14) kM_at0 (by decide) rfl
    have g9 : (x15.toInt = x1.toInt ∨ (gi w0 1 (x1.toInt).toNat).toInt = 32) := by have q := g9; simp only [c2, c16] at q; first | with_reducible exact q | omega
    refine lv_if_eq (tgt := 16) hx hb dX12_townLineHere_7 (by decide) (fun _ => ?_) (fun c => absurd (by decide) c)
    replace hM := hM.pos (by decide)
    refine lv_aload_n hx hb dX12_townLineHere_16 rfl (lv_at hl 0 rfl) ?_
    refine tk_geti hC hK hw hT hinX12 kM_at0 (by decide) rfl 7 (by decide) (List.mem_cons_of_mem _ uw_19_8) rfl rfl dX12_townLineHere_17 (fun x19 c20 rx19 tx19 => ?_)
    replace hM := hM.rd (sI_at c20)
    refine lv_if_ne (tgt := 30) hx hb dX12_townLineHere_20 (by decide) (fun c21 => ?_) (fun c21 => ?_)
    · have c21 : ¬ x19.toInt = (0 : Int) := wk_eqF c21
      replace hM := hM.pos c21
      refine lv_aload_n hx hb dX12_townLineHere_30 rfl (lv_at hl 0 rfl) ?_
      refine lv_ldc2 (v := 126943972648308) hx hb hC.2.2.2.1 (hC.2.2.2.2 _ (List.mem_cons_of_mem _ uw_20_1)) dX12_townLineHere_31 ?_
      refine tk_Vi hC hK hw hT hA hE hSR kM_at0 (by decide) rfl (kz_X12_isWord_2 l adK adV dC dI cy ad B hB0 (Int.le_trans hB1 (by decide)) qr s1    w5 H.size hT x15 c16 (show 0 ≤ x15.toInt by first | with_reducible assumption | omega) (show x15.toInt ≤ 400 by first | with_reducible assumption | omega)) (cwV 1 hC.2.2.2.2 uV_RX12_105 rfl rfl rfl (by decide +kernel) ⟨Nat.le_of_ble_eq_true rfl, Nat.le_of_ble_eq_true rfl⟩) rfl hl.1 rfl (Nat.le_of_ble_eq_true rfl) dX12_townLineHere_34 (fun r22 w24 H locs hp23 hw => ?_)
      obtain ⟨hT, k25, hv33, hg32⟩ := hp23
      have hF := hF.tr k25 (by decide)
      have c34 := k25.gi kM_at0 (by decide) c8
      have c35 := k25.gi kM_at0 (by decide) c20
      rcases hg32 with ⟨rfl, ⟨x26, c27, rx26, tx26⟩, g28⟩ | ⟨rfl, ⟨x29, c30, rx29, tx29⟩, g31⟩
      · replace hM := hM.call (r' := 0) hv33 (by decide)
        have ex26 : x26.toInt = x7.toInt := by rw [← c34.symm.trans c27]
        obtain ⟨x36, c37, rx36, tx36⟩ := hT.rdi (lo := 0) (hi := 400) (k := 14) kM_at0 (by decide) rfl
        have g28 : (x36.toInt = x15.toInt ∨ (gi w5 1 (x15.toInt).toNat).toInt = 32) := by have q := g28; simp only [c16, c37] at q; first | with_reducible exact q | omega
        refine lv_if_eq (tgt := 48) hx hb dX12_townLineHere_37 (by decide) (fun _ => ?_) (fun c => absurd (by decide) c)
        replace hM := hM.pos (by decide)
        refine lv_aload_n hx hb dX12_townLineHere_48 rfl (lv_at hl 0 rfl) ?_
        refine lv_ldc2 (v := 495555538548) hx hb hC.2.2.2.1 (hC.2.2.2.2 _ (List.mem_cons_of_mem _ uw_20_2)) dX12_townLineHere_49 ?_
        refine tk_Vi hC hK hw hT hA hE hSR kM_at0 (by decide) rfl (kz_X12_isWord_3 l adK adV dC dI cy ad B hB0 (Int.le_trans hB1 (by decide)) qr s1    w24 H.size hT x36 c37 (show 0 ≤ x36.toInt by first | with_reducible assumption | omega) (show x36.toInt ≤ 400 by first | with_reducible assumption | omega)) (cwV 1 hC.2.2.2.2 uV_RX12_105 rfl rfl rfl (by decide +kernel) ⟨Nat.le_of_ble_eq_true rfl, Nat.le_of_ble_eq_true rfl⟩) rfl hl.1 rfl (Nat.le_of_ble_eq_true rfl) dX12_townLineHere_52 (fun r40 w42 H locs hp41 hw => ?_)
        obtain ⟨hT, k43, hv51, hg50⟩ := hp41
        have hF := hF.tr k43 (by decide)
        have c52 := k43.gi kM_at0 (by decide) c34
        have c53 := k43.gi kM_at0 (by decide) c35
        rcases hg50 with ⟨rfl, ⟨x44, c45, rx44, tx44⟩, g46⟩ | ⟨rfl, ⟨x47, c48, rx47, tx47⟩, g49⟩
        · replace hM := hM.call (r' := 0) hv51 (by decide)
          have ex44 : x44.toInt = x7.toInt := by rw [← c52.symm.trans c45]
          obtain ⟨x54, c55, rx54, tx54⟩ := hT.rdi (lo := 0) (hi := 400) (k := 14) kM_at0 (by decide) rfl
          have g46 : (x54.toInt = x36.toInt ∨ (gi w24 1 (x36.toInt).toNat).toInt = 32) := by have q := g46; simp only [c37, c55] at q; first | with_reducible exact q | omega
          refine lv_if_eq (tgt := 66) hx hb dX12_townLineHere_55 (by decide) (fun _ => ?_) (fun c => absurd (by decide) c)
          replace hM := hM.pos (by decide)
          refine lv_aload_n hx hb dX12_townLineHere_66 rfl (lv_at hl 0 rfl) ?_
          refine lv_iload_n hx hb dX12_townLineHere_67 rfl (lv_at hl 1 rfl) ?_
          refine tk_Vi hC hK hw hT hA hE hSR kM_at0 (by decide) rfl (kz_X12_isLiftHere_1 l adK adV dC dI cy ad B hB0 (Int.le_trans hB1 (by decide)) qr s1   a1 (show 0 ≤ a1.toInt from ra1) (show a1.toInt ≤ 400 from ta1) w42 H.size hT ) (cwV 1 hC.2.2.2.2 uV_RX12_251 rfl rfl rfl (by decide +kernel) ⟨Nat.le_of_ble_eq_true rfl, Nat.le_of_ble_eq_true rfl⟩) rfl hl.1 rfl (Nat.le_of_ble_eq_true rfl) dX12_townLineHere_68 (fun r58 w60 H locs hp59 hw => ?_)
          obtain ⟨hT, k61, hv87, hg86⟩ := hp59
          have hF := hF.tr k61 (by decide)
          have c88 := k61.gi kM_at0 (by decide) c52
          have c89 := k61.gi kM_at0 (by decide) c53
          rcases hg86 with ⟨rfl, ⟨x62, c63, rx62, tx62⟩, ⟨x64, c65, rx64, tx64⟩⟩ | ⟨rfl, ⟨x66, c67, rx66, tx66⟩, ⟨x68, c69, rx68, tx68⟩, ⟨x70, c71, rx70, tx70⟩⟩ | ⟨rfl, ⟨x72, c73, rx72, tx72⟩, ⟨x74, c75, rx74, tx74⟩, ⟨x76, c77, rx76, tx76⟩⟩ | ⟨rfl, ⟨x78, c79, rx78, tx78⟩, ⟨x80, c81, rx80, tx80⟩, ⟨x82, c83, rx82, tx82⟩, ⟨x84, c85, rx84, tx84⟩⟩
          · replace hM := hM.call (r' := 0) hv87 (by decide)
            exact tk_zret hC hr rfl hlocks hK ⟨hT, hF, hM.ret (by decide), (Or.inr (Or.inl ⟨rfl, ⟨x7, c88, (show 0 ≤ x7.toInt by first | with_reducible assumption | omega), (show x7.toInt ≤ 400 by first | with_reducible assumption | omega)⟩, ⟨x19, c89, (show 0 ≤ x19.toInt from rx19), (show x19.toInt ≤ 10 from tx19)⟩, ⟨x64, c65, (show 1 ≤ x64.toInt by first | with_reducible assumption | omega), (show x64.toInt ≤ 3205 by first | with_reducible assumption | omega)⟩⟩))⟩ hw dX12_townLineHere_71
          · replace hM := hM.call (r' := 0) hv87 (by decide)
            have ex66 : x66.toInt = x7.toInt := by rw [← c88.symm.trans c67]
            exact tk_zret hC hr rfl hlocks hK ⟨hT, hF, hM.ret (by decide), (Or.inl ⟨rfl, ⟨x7, c88, (show 1 ≤ x7.toInt by first | with_reducible assumption | omega), (show x7.toInt ≤ 400 by first | with_reducible assumption | omega)⟩, ⟨x19, c89, (show 0 ≤ x19.toInt from rx19), (show x19.toInt ≤ 10 from tx19)⟩, ⟨x70, c71, (show 1 ≤ x70.toInt by first | with_reducible assumption | omega), (show x70.toInt ≤ 3205 by first | with_reducible assumption | omega)⟩⟩)⟩ hw dX12_townLineHere_71
          · replace hM := hM.call (r' := 0) hv87 (by decide)
            have ex72 : x72.toInt = x7.toInt := by rw [← c88.symm.trans c73]
            exact tk_zret hC hr rfl hlocks hK ⟨hT, hF, hM.ret (by decide), (Or.inr (Or.inl ⟨rfl, ⟨x7, c88, (show 0 ≤ x7.toInt by first | with_reducible assumption | omega), (show x7.toInt ≤ 400 by first | with_reducible assumption | omega)⟩, ⟨x19, c89, (show 0 ≤ x19.toInt from rx19), (show x19.toInt ≤ 10 from tx19)⟩, ⟨x76, c77, (show 1 ≤ x76.toInt by first | with_reducible assumption | omega), (show x76.toInt ≤ 3205 by first | with_reducible assumption | omega)⟩⟩))⟩ hw dX12_townLineHere_71
          · replace hM := hM.call (r' := 1) hv87 (by decide)
            have ex78 : x78.toInt = x7.toInt := by rw [← c88.symm.trans c79]
            exact tk_zret hC hr rfl hlocks hK ⟨hT, hF, hM.ret (by decide), (Or.inr (Or.inr ⟨rfl, ⟨x7, c88, (show 1 ≤ x7.toInt by first | with_reducible assumption | omega), (show x7.toInt ≤ 400 by first | with_reducible assumption | omega)⟩, ⟨x19, c89, (show 1 ≤ x19.toInt by first | with_reducible assumption | omega), (show x19.toInt ≤ 10 from tx19)⟩, ⟨x84, c85, (show 0 ≤ x84.toInt by first | with_reducible assumption | omega), (show x84.toInt ≤ 359 by first | with_reducible assumption | omega)⟩⟩))⟩ hw dX12_townLineHere_71
        · replace hM := hM.call (r' := 1) hv51 (by decide)
          have ex47 : x47.toInt = x7.toInt := by rw [← c52.symm.trans c48]
          obtain ⟨x56, c57, rx56, tx56⟩ := hT.rdi (lo := 0) (hi := 400) (k := 14) kM_at0 (by decide) rfl
          have g49 : (x56.toInt = x36.toInt ∨ (gi w24 1 (x36.toInt).toNat).toInt = 32) := by have q := g49; simp only [c37, c57] at q; first | with_reducible exact q | omega
          refine lv_if_eq (tgt := 66) hx hb dX12_townLineHere_55 (by decide) (fun c => absurd c (by decide)) (fun _ => ?_)
          replace hM := hM.neg (by decide)
          refine lv_aload_n hx hb dX12_townLineHere_58 rfl (lv_at hl 0 rfl) ?_
          refine lv_iload_n hx hb dX12_townLineHere_59 rfl (lv_at hl 1 rfl) ?_
          refine tk_Vi hC hK hw hT hA hE hSR kM_at0 (by decide) rfl (kz_X12_isSaintHere_1 l adK adV dC dI cy ad B hB0 (Int.le_trans hB1 (by decide)) qr s1   a1 (show 0 ≤ a1.toInt from ra1) (show a1.toInt ≤ 400 from ta1) w42 H.size hT ) (cwV 1 hC.2.2.2.2 uV_RX12_248 rfl rfl rfl (by decide +kernel) ⟨Nat.le_of_ble_eq_true rfl, Nat.le_of_ble_eq_true rfl⟩) rfl hl.1 rfl (Nat.le_of_ble_eq_true rfl) dX12_townLineHere_60 (fun r90 w92 H locs hp91 hw => ?_)
          obtain ⟨hT, k93, hv119, hg118⟩ := hp91
          have hF := hF.tr k93 (by decide)
          have c120 := k93.gi kM_at0 (by decide) c52
          have c121 := k93.gi kM_at0 (by decide) c53
          rcases hg118 with ⟨rfl, ⟨x94, c95, rx94, tx94⟩, ⟨x96, c97, rx96, tx96⟩⟩ | ⟨rfl, ⟨x98, c99, rx98, tx98⟩, ⟨x100, c101, rx100, tx100⟩, ⟨x102, c103, rx102, tx102⟩⟩ | ⟨rfl, ⟨x104, c105, rx104, tx104⟩, ⟨x106, c107, rx106, tx106⟩, ⟨x108, c109, rx108, tx108⟩⟩ | ⟨rfl, ⟨x110, c111, rx110, tx110⟩, ⟨x112, c113, rx112, tx112⟩, ⟨x114, c115, rx114, tx114⟩, ⟨x116, c117, rx116, tx116⟩⟩
          · replace hM := hM.call (r' := 0) hv119 (by decide)
            refine lv_goto (tgt := 71) hx hb dX12_townLineHere_63 (by decide) ?_
            exact tk_zret hC hr rfl hlocks hK ⟨hT, hF, hM.ret (by decide), (Or.inr (Or.inl ⟨rfl, ⟨x7, c120, (show 0 ≤ x7.toInt by first | with_reducible assumption | omega), (show x7.toInt ≤ 400 by first | with_reducible assumption | omega)⟩, ⟨x19, c121, (show 0 ≤ x19.toInt from rx19), (show x19.toInt ≤ 10 from tx19)⟩, ⟨x96, c97, (show 1 ≤ x96.toInt by first | with_reducible assumption | omega), (show x96.toInt ≤ 3205 by first | with_reducible assumption | omega)⟩⟩))⟩ hw dX12_townLineHere_71
          · replace hM := hM.call (r' := 0) hv119 (by decide)
            have ex98 : x98.toInt = x7.toInt := by rw [← c120.symm.trans c99]
            refine lv_goto (tgt := 71) hx hb dX12_townLineHere_63 (by decide) ?_
            exact tk_zret hC hr rfl hlocks hK ⟨hT, hF, hM.ret (by decide), (Or.inl ⟨rfl, ⟨x7, c120, (show 1 ≤ x7.toInt by first | with_reducible assumption | omega), (show x7.toInt ≤ 400 by first | with_reducible assumption | omega)⟩, ⟨x19, c121, (show 0 ≤ x19.toInt from rx19), (show x19.toInt ≤ 10 from tx19)⟩, ⟨x102, c103, (show 1 ≤ x102.toInt by first | with_reducible assumption | omega), (show x102.toInt ≤ 3205 by first | with_reducible assumption | omega)⟩⟩)⟩ hw dX12_townLineHere_71
          · replace hM := hM.call (r' := 0) hv119 (by decide)
            have ex104 : x104.toInt = x7.toInt := by rw [← c120.symm.trans c105]
            refine lv_goto (tgt := 71) hx hb dX12_townLineHere_63 (by decide) ?_
            exact tk_zret hC hr rfl hlocks hK ⟨hT, hF, hM.ret (by decide), (Or.inr (Or.inl ⟨rfl, ⟨x7, c120, (show 0 ≤ x7.toInt by first | with_reducible assumption | omega), (show x7.toInt ≤ 400 by first | with_reducible assumption | omega)⟩, ⟨x19, c121, (show 0 ≤ x19.toInt from rx19), (show x19.toInt ≤ 10 from tx19)⟩, ⟨x108, c109, (show 1 ≤ x108.toInt by first | with_reducible assumption | omega), (show x108.toInt ≤ 3205 by first | with_reducible assumption | omega)⟩⟩))⟩ hw dX12_townLineHere_71
          · replace hM := hM.call (r' := 1) hv119 (by decide)
            have ex110 : x110.toInt = x7.toInt := by rw [← c120.symm.trans c111]
            have ex112 : x112.toInt = x19.toInt := by rw [← c121.symm.trans c113]
            refine lv_goto (tgt := 71) hx hb dX12_townLineHere_63 (by decide) ?_
            exact tk_zret hC hr rfl hlocks hK ⟨hT, hF, hM.ret (by decide), (Or.inr (Or.inr ⟨rfl, ⟨x7, c120, (show 1 ≤ x7.toInt by first | with_reducible assumption | omega), (show x7.toInt ≤ 400 by first | with_reducible assumption | omega)⟩, ⟨x19, c121, (show 1 ≤ x19.toInt by first | with_reducible assumption | omega), (show x19.toInt ≤ 10 from tx19)⟩, ⟨x116, c117, (show 0 ≤ x116.toInt by first | with_reducible assumption | omega), (show x116.toInt ≤ 359 by first | with_reducible assumption | omega)⟩⟩))⟩ hw dX12_townLineHere_71
      · replace hM := hM.call (r' := 1) hv33 (by decide)
        have ex29 : x29.toInt = x7.toInt := by rw [← c34.symm.trans c30]
        obtain ⟨x38, c39, rx38, tx38⟩ := hT.rdi (lo := 0) (hi := 400) (k := 14) kM_at0 (by decide) rfl
        have g31 : (x38.toInt = x15.toInt ∨ (gi w5 1 (x15.toInt).toNat).toInt = 32) := by have q := g31; simp only [c16, c39] at q; first | with_reducible exact q | omega
        refine lv_if_eq (tgt := 48) hx hb dX12_townLineHere_37 (by decide) (fun c => absurd c (by decide)) (fun _ => ?_)
        replace hM := hM.neg (by decide)
        refine lv_aload_n hx hb dX12_townLineHere_40 rfl (lv_at hl 0 rfl) ?_
        refine lv_iload_n hx hb dX12_townLineHere_41 rfl (lv_at hl 1 rfl) ?_
        refine tk_Vi hC hK hw hT hA hE hSR kM_at0 (by decide) rfl (kz_X12_isStreetHere_1 l adK adV dC dI cy ad B hB0 (Int.le_trans hB1 (by decide)) qr s1   a1 (show 0 ≤ a1.toInt from ra1) (show a1.toInt ≤ 400 from ta1) w24 H.size hT ) (cwV 1 hC.2.2.2.2 uV_RX12_243 rfl rfl rfl (by decide +kernel) ⟨Nat.le_of_ble_eq_true rfl, Nat.le_of_ble_eq_true rfl⟩) rfl hl.1 rfl (Nat.le_of_ble_eq_true rfl) dX12_townLineHere_42 (fun r122 w124 H locs hp123 hw => ?_)
        obtain ⟨hT, k125, hv151, hg150⟩ := hp123
        have hF := hF.tr k125 (by decide)
        have c152 := k125.gi kM_at0 (by decide) c34
        have c153 := k125.gi kM_at0 (by decide) c35
        rcases hg150 with ⟨rfl, ⟨x126, c127, rx126, tx126⟩, ⟨x128, c129, rx128, tx128⟩⟩ | ⟨rfl, ⟨x130, c131, rx130, tx130⟩, ⟨x132, c133, rx132, tx132⟩, ⟨x134, c135, rx134, tx134⟩⟩ | ⟨rfl, ⟨x136, c137, rx136, tx136⟩, ⟨x138, c139, rx138, tx138⟩, ⟨x140, c141, rx140, tx140⟩⟩ | ⟨rfl, ⟨x142, c143, rx142, tx142⟩, ⟨x144, c145, rx144, tx144⟩, ⟨x146, c147, rx146, tx146⟩, ⟨x148, c149, rx148, tx148⟩⟩
        · replace hM := hM.call (r' := 0) hv151 (by decide)
          refine lv_goto (tgt := 71) hx hb dX12_townLineHere_45 (by decide) ?_
          exact tk_zret hC hr rfl hlocks hK ⟨hT, hF, hM.ret (by decide), (Or.inr (Or.inl ⟨rfl, ⟨x7, c152, (show 0 ≤ x7.toInt by first | with_reducible assumption | omega), (show x7.toInt ≤ 400 by first | with_reducible assumption | omega)⟩, ⟨x19, c153, (show 0 ≤ x19.toInt from rx19), (show x19.toInt ≤ 10 from tx19)⟩, ⟨x128, c129, (show 1 ≤ x128.toInt by first | with_reducible assumption | omega), (show x128.toInt ≤ 3205 by first | with_reducible assumption | omega)⟩⟩))⟩ hw dX12_townLineHere_71
        · replace hM := hM.call (r' := 0) hv151 (by decide)
          have ex130 : x130.toInt = x7.toInt := by rw [← c152.symm.trans c131]
          refine lv_goto (tgt := 71) hx hb dX12_townLineHere_45 (by decide) ?_
          exact tk_zret hC hr rfl hlocks hK ⟨hT, hF, hM.ret (by decide), (Or.inl ⟨rfl, ⟨x7, c152, (show 1 ≤ x7.toInt by first | with_reducible assumption | omega), (show x7.toInt ≤ 400 by first | with_reducible assumption | omega)⟩, ⟨x19, c153, (show 0 ≤ x19.toInt from rx19), (show x19.toInt ≤ 10 from tx19)⟩, ⟨x134, c135, (show 1 ≤ x134.toInt by first | with_reducible assumption | omega), (show x134.toInt ≤ 3205 by first | with_reducible assumption | omega)⟩⟩)⟩ hw dX12_townLineHere_71
        · replace hM := hM.call (r' := 0) hv151 (by decide)
          have ex136 : x136.toInt = x7.toInt := by rw [← c152.symm.trans c137]
          refine lv_goto (tgt := 71) hx hb dX12_townLineHere_45 (by decide) ?_
          exact tk_zret hC hr rfl hlocks hK ⟨hT, hF, hM.ret (by decide), (Or.inr (Or.inl ⟨rfl, ⟨x7, c152, (show 0 ≤ x7.toInt by first | with_reducible assumption | omega), (show x7.toInt ≤ 400 by first | with_reducible assumption | omega)⟩, ⟨x19, c153, (show 0 ≤ x19.toInt from rx19), (show x19.toInt ≤ 10 from tx19)⟩, ⟨x140, c141, (show 1 ≤ x140.toInt by first | with_reducible assumption | omega), (show x140.toInt ≤ 3205 by first | with_reducible assumption | omega)⟩⟩))⟩ hw dX12_townLineHere_71
        · replace hM := hM.call (r' := 1) hv151 (by decide)
          have ex142 : x142.toInt = x7.toInt := by rw [← c152.symm.trans c143]
          have ex144 : x144.toInt = x19.toInt := by rw [← c153.symm.trans c145]
          refine lv_goto (tgt := 71) hx hb dX12_townLineHere_45 (by decide) ?_
          exact tk_zret hC hr rfl hlocks hK ⟨hT, hF, hM.ret (by decide), (Or.inr (Or.inr ⟨rfl, ⟨x7, c152, (show 1 ≤ x7.toInt by first | with_reducible assumption | omega), (show x7.toInt ≤ 400 by first | with_reducible assumption | omega)⟩, ⟨x19, c153, (show 1 ≤ x19.toInt by first | with_reducible assumption | omega), (show x19.toInt ≤ 10 from tx19)⟩, ⟨x148, c149, (show 0 ≤ x148.toInt by first | with_reducible assumption | omega), (show x148.toInt ≤ 359 by first | with_reducible assumption | omega)⟩⟩))⟩ hw dX12_townLineHere_71
    · have c21 : x19.toInt = (0 : Int) := wk_eq.mp c21
      replace hM := hM.neg (fun q => q c21)
      refine lv_aload_n hx hb dX12_townLineHere_23 rfl (lv_at hl 0 rfl) ?_
      refine lv_iconst (v := 4) hx hb dX12_townLineHere_24 (by decide) ?_
      refine lv_iload_n hx hb dX12_townLineHere_25 rfl (lv_at hl 1 rfl) ?_
      refine tk_Vi hC hK hw hT hA hE hSR kM_at0 (by decide) rfl (kz_X12_fails_1 l adK adV dC dI cy ad B hB0 (Int.le_trans hB1 (by decide)) qr s1   4 (by decide) (by decide) a1 (show 0 ≤ a1.toInt from ra1) (show a1.toInt ≤ 400 from ta1) w5 H.size hT ) (cwV 2 hC.2.2.2.2 uV_RX12_115 rfl rfl rfl (by decide +kernel) ⟨Nat.le_of_ble_eq_true rfl, Nat.le_of_ble_eq_true rfl⟩) rfl hl.1 rfl (Nat.le_of_ble_eq_true rfl) dX12_townLineHere_26 (fun r154 w156 H locs hp155 hw => ?_)
      obtain ⟨hT, k157, hv161, hg160⟩ := hp155
      try simp only [show (4 : Int32).toInt = 4 by decide] at hv161
      have hF := hF.tr k157 (by decide)
      have c162 := k157.gi kM_at0 (by decide) c8
      have c163 := k157.gi kM_at0 (by decide) c16
      have c164 := k157.gi kM_at0 (by decide) c20
      obtain ⟨rfl, ⟨x158, c159, rx158, tx158⟩⟩ := hg160
      replace hM := hM.call (r' := 0) hv161 (by decide)
      exact tk_zret hC hr rfl hlocks hK ⟨hT, hF, hM.ret (by decide), (Or.inr (Or.inl ⟨rfl, ⟨x7, c162, (show 0 ≤ x7.toInt by first | with_reducible assumption | omega), (show x7.toInt ≤ 400 by first | with_reducible assumption | omega)⟩, ⟨x19, c164, (show 0 ≤ x19.toInt from rx19), (show x19.toInt ≤ 10 from tx19)⟩, ⟨x158, c159, (show 1 ≤ x158.toInt by first | with_reducible assumption | omega), (show x158.toInt ≤ 3205 by first | with_reducible assumption | omega)⟩⟩))⟩ hw dX12_townLineHere_29
  · replace hM := hM.call (r' := 1) hv14 (by decide)
    obtain ⟨x17, c18, rx17, tx17⟩ := hT.rdi (lo := 0) (hi := 400) (k := 14) kM_at0 (by decide) rfl
    have g12 : (x17.toInt = x1.toInt ∨ (gi w0 1 (x1.toInt).toNat).toInt = 32) := by have q := g12; simp only [c2, c18] at q; first | with_reducible exact q | omega
    refine lv_if_eq (tgt := 16) hx hb dX12_townLineHere_7 (by decide) (fun c => absurd c (by decide)) (fun _ => ?_)
    replace hM := hM.neg (by decide)
    refine lv_aload_n hx hb dX12_townLineHere_10 rfl (lv_at hl 0 rfl) ?_
    refine lv_iload_n hx hb dX12_townLineHere_11 rfl (lv_at hl 1 rfl) ?_
    refine tk_Vi hC hK hw hT hA hE hSR kM_at0 (by decide) rfl (kz_X12_areCornersHere_1 l adK adV dC dI cy ad B hB0 (Int.le_trans hB1 (by decide)) qr s1   a1 (show 0 ≤ a1.toInt from ra1) (show a1.toInt ≤ 400 from ta1) w5 H.size hT ) (cwV 1 hC.2.2.2.2 uV_RX12_238 rfl rfl rfl (by decide +kernel) ⟨Nat.le_of_ble_eq_true rfl, Nat.le_of_ble_eq_true rfl⟩) rfl hl.1 rfl (Nat.le_of_ble_eq_true rfl) dX12_townLineHere_12 (fun r165 w167 H locs hp166 hw => ?_)
    obtain ⟨hT, k168, hv192, hg191⟩ := hp166
    have hF := hF.tr k168 (by decide)
    have c193 := k168.gi kM_at0 (by decide) c11
    rcases hg191 with ⟨rfl, ⟨x169, c170, rx169, tx169⟩, ⟨x171, c172, rx171, tx171⟩⟩ | ⟨rfl, ⟨x173, c174, rx173, tx173⟩, ⟨x175, c176, rx175, tx175⟩, ⟨x177, c178, rx177, tx177⟩⟩ | ⟨rfl, ⟨x179, c180, rx179, tx179⟩, ⟨x181, c182, rx181, tx181⟩, ⟨x183, c184, rx183, tx183⟩⟩ | ⟨rfl, ⟨x185, c186, rx185, tx185⟩, ⟨x187, c188, rx187, tx187⟩, ⟨x189, c190, rx189, tx189⟩⟩
    · replace hM := hM.call (r' := 0) hv192 (by decide)
      exact tk_zret hC hr rfl hlocks hK ⟨hT, hF, hM.ret (by decide), (Or.inr (Or.inl ⟨rfl, ⟨x10, c193, (show 0 ≤ x10.toInt by first | with_reducible assumption | omega), (show x10.toInt ≤ 400 by first | with_reducible assumption | omega)⟩, ⟨x169, c170, (show 0 ≤ x169.toInt by first | with_reducible assumption | omega), (show x169.toInt ≤ 10 by first | with_reducible assumption | omega)⟩, ⟨x171, c172, (show 1 ≤ x171.toInt by first | with_reducible assumption | omega), (show x171.toInt ≤ 3205 by first | with_reducible assumption | omega)⟩⟩))⟩ hw dX12_townLineHere_15
    · replace hM := hM.call (r' := 0) hv192 (by decide)
      have ex173 : x173.toInt = x10.toInt := by rw [← c193.symm.trans c174]
      exact tk_zret hC hr rfl hlocks hK ⟨hT, hF, hM.ret (by decide), (Or.inl ⟨rfl, ⟨x10, c193, (show 1 ≤ x10.toInt by first | with_reducible assumption | omega), (show x10.toInt ≤ 400 by first | with_reducible assumption | omega)⟩, ⟨x175, c176, (show 0 ≤ x175.toInt by first | with_reducible assumption | omega), (show x175.toInt ≤ 10 by first | with_reducible assumption | omega)⟩, ⟨x177, c178, (show 1 ≤ x177.toInt by first | with_reducible assumption | omega), (show x177.toInt ≤ 3205 by first | with_reducible assumption | omega)⟩⟩)⟩ hw dX12_townLineHere_15
    · replace hM := hM.call (r' := 0) hv192 (by decide)
      have ex179 : x179.toInt = x10.toInt := by rw [← c193.symm.trans c180]
      exact tk_zret hC hr rfl hlocks hK ⟨hT, hF, hM.ret (by decide), (Or.inr (Or.inl ⟨rfl, ⟨x10, c193, (show 0 ≤ x10.toInt by first | with_reducible assumption | omega), (show x10.toInt ≤ 400 by first | with_reducible assumption | omega)⟩, ⟨x181, c182, (show 0 ≤ x181.toInt by first | with_reducible assumption | omega), (show x181.toInt ≤ 10 by first | with_reducible assumption | omega)⟩, ⟨x183, c184, (show 1 ≤ x183.toInt by first | with_reducible assumption | omega), (show x183.toInt ≤ 3205 by first | with_reducible assumption | omega)⟩⟩))⟩ hw dX12_townLineHere_15
    · replace hM := hM.call (r' := 1) hv192 (by decide)
      have ex185 : x185.toInt = x10.toInt := by rw [← c193.symm.trans c186]
      exact tk_zret hC hr rfl hlocks hK ⟨hT, hF, hM.ret (by decide), (Or.inr (Or.inr ⟨rfl, ⟨x10, c193, (show 1 ≤ x10.toInt by first | with_reducible assumption | omega), (show x10.toInt ≤ 400 by first | with_reducible assumption | omega)⟩, ⟨x187, c188, (show 1 ≤ x187.toInt by first | with_reducible assumption | omega), (show x187.toInt ≤ 10 by first | with_reducible assumption | omega)⟩, ⟨x189, c190, (show 0 ≤ x189.toInt by first | with_reducible assumption | omega), (show x189.toInt ≤ 359 by first | with_reducible assumption | omega)⟩⟩))⟩ hw dX12_townLineHere_15
abbrev Pz_X12_isWord_4 (ad : Nat → Nat) (cy : Nat → ClassId) (B : Int) (qr : Nat) (s1 : Int)  (w0 : va_W) : Int32 → va_W → Prop := fun r u => TW ksM ad cy B qr 12 u ∧ FE ksM [(12, 14, 14)] w0 u ∧ Ev (fun n => m_X12_isWord n 0 1818846836 (sI w0)) (r.toInt, sI u) ∧ ((r = 0 ∧ (∃ y : Int32, gi u 0 1 = y ∧ 0 ≤ y.toInt ∧ y.toInt ≤ 400) ∧ (((gi u 0 14).toInt = (gi w0 0 14).toInt ∨ (gi w0 1 ((gi w0 0 14).toInt).toNat).toInt = 32))) ∨ (r = 1 ∧ (∃ y : Int32, gi u 0 1 = y ∧ 0 ≤ y.toInt ∧ y.toInt ≤ 400) ∧ (((gi u 0 14).toInt = (gi w0 0 14).toInt ∨ (gi w0 1 ((gi w0 0 14).toInt).toNat).toInt = 32))))
set_option maxHeartbeats 4000000 in
set_option maxRecDepth 100000 in
theorem kz_X12_isWord_4 (l : Launch) (adK adV : Nat → Nat) (dC : Nat → ClassId) (dI : Nat → Nat → Nat) (cy : Nat → ClassId) (ad : Nat → Nat) (B : Int) (hB0 : 100000 ≤ B) (hB1 : B ≤ 1073741824) (qr : Nat) (s1 : Int)   (w0 : va_W) (sz : Nat) (hT : TW ksM ad cy B qr 12 w0) (f0_ : Int32) (cf0_ : gi w0 0 14 = f0_) (rf0_ : 0 ≤ f0_.toInt) (tf0_ : f0_.toInt ≤ 400) : Met l yX12_isWord (wu yX12_isWord cX12_isWord 6 (some .boolean)) ({ frames := 2, cells := 0, slots := 0, locals := 33 }) (va_Pc [.ref (ad 0), .long 1818846836] (wpreS adK adV dC dI cy sz w0)) (va_Qi (Pz_X12_isWord_4 ad cy B qr s1  w0) (fun u : va_W => wpost dC dI cy (va_A w0 sz) u) (va_A w0 sz)) 0 0 (va_A w0 sz) := by
  refine Met.ofW (cc := cX12_isWord) (maxL := 6) (ret := (some .boolean)) (by decide) rfl ?_
  intro p e s m args below meth c s₁ Bk hml hv
  obtain ⟨rfl, ⟨hsz, hP, hK, hD0⟩, hE, hSR⟩ := hv
  have hx := Bk.exec
  have hb := Bk.bytes
  have hr := Bk.returns
  have hlocks := Bk.notSynchronized
  have hC : CallFix p m c cX12_isWord 6 s _ (wu yX12_isWord cX12_isWord 6 (some .boolean)) RX12 := ⟨hx, hb, hml, findClass_of_methodNamed Bk.named, atoms_spec (ws := (wu yX12_isWord cX12_isWord 6 (some .boolean))) Bk.pre⟩
  subst hsz
  have hD := hD0.self (sz := s.heap.size)
  generalize hAe : va_A w0 s.heap.size = A at hD hE ⊢
  have hA : ∀ q : Nat, s.heap.size ≤ q → A q := fun q h => by rw [← hAe]; exact Or.inr h
  have hw : Wd dC dI A s.heap s.heap [] w0 := ⟨hP, hD, va_S.rf⟩
  have hF : FE ksM [(12, 14, 14)] w0 w0 := FE.rf
  have hl := lv_entry ([.ref (ad 0), .long 1818846836]) (n := 6) (Nat.le_of_ble_eq_true rfl)
  rw [lg_entry_eq]
  generalize (lg_sl ([.ref (ad 0), .long 1818846836]) ++ List.replicate (6 - (lg_sl ([.ref (ad 0), .long 1818846836])).length) Slot.unset).toArray = ls at hl ⊢
  have hl : lv_has ls 6 [(0, .ref (ad 0)), (1, .long 1818846836)] := hl
  generalize hloc : ([] : List Loc) = locs at hw ⊢
  have hinX12 : ∀ w ∈ u_ws RX12 TX12 42, w ∈ (wu yX12_isWord cX12_isWord 6 (some .boolean)) := fun _ h => List.mem_cons_of_mem _ (up_71 h)
  have J78 : ∀ (v78_3 : Int64) (v78_5 : Int32) (f78_0_1 : Int32) (f78_0_14 : Int32) (H : Heap) (locs : List Loc) (ls : Array Slot) (w1 : va_W), 0 ≤ v78_5.toInt → v78_5.toInt ≤ 400 → 0 ≤ f78_0_1.toInt → f78_0_1.toInt ≤ 400 → 0 ≤ f78_0_14.toInt → f78_0_14.toInt ≤ 400 → ((f78_0_14.toInt = f0_.toInt ∨ (gi w0 1 (f0_.toInt).toNat).toInt = 32)) → Wd dC dI A s.heap H locs w1 → TW ksM ad cy B qr 12 w1 → FE ksM [(12, 14, 14)] w0 w1 → gi w1 0 1 = f78_0_1 → gi w1 0 14 = f78_0_14 → TT (fun n => m_X12_isWord n 0 1818846836 (sI w0)) (fun n => b_X12_isWord_78 (j_X12_isWord 0 n) n 0 (sI w1)) → lv_has ls 6 [(0, .ref (ad 0)), (1, .long 1818846836), (3, .long v78_3), (5, .int v78_5)] → W p l e ({ frames := 2, cells := 0, slots := 0, locals := 33 }) s m (List.toArray [.ref (ad 0), .long 1818846836]) below meth c H locs 0 0 (MQ below (va_Qi (Pz_X12_isWord_4 ad cy B qr s1  w0) (fun u : va_W => wpost dC dI cy A u) A) (List.toArray [.ref (ad 0), .long 1818846836]) s 0 0 A) (F0 m 78 ls []) := by
    intro v78_3 v78_5 f78_0_1 f78_0_14 H locs ls w1 r2 t3 r4 t5 r7 t8 hcr78_0 hw hT hF c6 c9 hM hl
    refine lv_iconst (v := 0) hx hb dX12_isWord_78 (by decide) ?_
    exact tk_zret hC hr rfl hlocks hK ⟨hT, hF, hM.ret (by decide), (Or.inl ⟨rfl, ⟨f78_0_1, c6, (show 0 ≤ f78_0_1.toInt from r4), (show f78_0_1.toInt ≤ 400 from t5)⟩, (by simp only [cf0_, c9]; omega)⟩)⟩ hw dX12_isWord_79
  have L10 : ∀ (n10 : Nat) (v10_3 : Int64) (v10_5 : Int32) (f10_0_1 : Int32) (f10_0_14 : Int32) (H : Heap) (locs : List Loc) (ls : Array Slot) (w10 : va_W), 0 ≤ v10_5.toInt → v10_5.toInt ≤ 400 → 0 ≤ f10_0_1.toInt → f10_0_1.toInt ≤ 400 → 0 ≤ f10_0_14.toInt → f10_0_14.toInt ≤ 400 → ((f10_0_14.toInt = f0_.toInt ∨ (gi w0 1 (f0_.toInt).toNat).toInt = 32)) → (400 - v10_5.toInt).toNat < n10 → Wd dC dI A s.heap H locs w10 → TW ksM ad cy B qr 12 w10 → FE ksM [(12, 14, 14)] w0 w10 → gi w10 0 1 = f10_0_1 → gi w10 0 14 = f10_0_14 → TT (fun n => m_X12_isWord n 0 1818846836 (sI w0)) (fun n => j_X12_isWord 0 n 10 [(1818846836 : Int), v10_3.toInt, v10_5.toInt] (sI w10)) → lv_has ls 6 [(0, .ref (ad 0)), (1, .long 1818846836), (3, .long v10_3), (5, .int v10_5)] → W p l e ({ frames := 2, cells := 0, slots := 0, locals := 33 }) s m (List.toArray [.ref (ad 0), .long 1818846836]) below meth c H locs 0 0 (MQ below (va_Qi (Pz_X12_isWord_4 ad cy B qr s1  w0) (fun u : va_W => wpost dC dI cy A u) A) (List.toArray [.ref (ad 0), .long 1818846836]) s 0 0 A) (F0 m 10 ls []) := by
    intro n10
    induction n10 with
    | zero => intro v10_3 v10_5 f10_0_1 f10_0_14 H locs ls w10 r11 t12 r13 t14 r16 t17 hcr10_0 hm10 hw hT hF c15 c18 hM hl; omega
    | succ n10 ih10 =>
      intro v10_3 v10_5 f10_0_1 f10_0_14 H locs ls w10 r11 t12 r13 t14 r16 t17 hcr10_0 hm10 hw hT hF c15 c18 hM hl
      have J50 : ∀ (v50_3 : Int64) (H : Heap) (locs : List Loc) (ls : Array Slot) (w19 : va_W), 0 ≤ v10_5.toInt → v10_5.toInt ≤ 399 → 1 ≤ f10_0_1.toInt → f10_0_1.toInt ≤ 400 → 0 ≤ f10_0_14.toInt → f10_0_14.toInt ≤ 399 → ((f10_0_14.toInt = f0_.toInt ∨ (gi w0 1 (f0_.toInt).toNat).toInt = 32)) → Wd dC dI A s.heap H locs w19 → TW ksM ad cy B qr 12 w19 → FE ksM [(12, 14, 14)] w0 w19 → gi w19 0 1 = f10_0_1 → gi w19 0 14 = f10_0_14 → TT (fun n => m_X12_isWord n 0 1818846836 (sI w0)) (fun n => b_X12_isWord_50 (j_X12_isWord 0 n) n 0 (1818846836 : Int) (v50_3.toInt) (v10_5.toInt) (sI w19)) → lv_has ls 6 [(0, .ref (ad 0)), (1, .long 1818846836), (3, .long v50_3), (5, .int v10_5)] → W p l e ({ frames := 2, cells := 0, slots := 0, locals := 33 }) s m (List.toArray [.ref (ad 0), .long 1818846836]) below meth c H locs 0 0 (MQ below (va_Qi (Pz_X12_isWord_4 ad cy B qr s1  w0) (fun u : va_W => wpost dC dI cy A u) A) (List.toArray [.ref (ad 0), .long 1818846836]) s 0 0 A) (F0 m 50 ls []) := by
        intro v50_3 H locs ls w19 r20 t21 r22 t23 r25 t26 hcr50_0 hw hT hF c24 c27 hM hl
        obtain ⟨x28, ex28⟩ : ∃ y : Int32, y = v10_5 + Int32.ofInt 1 := ⟨_, rfl⟩
        have erx28 := ex28
        refine lv_iinc (v := x28) (lv' := [(5, .int x28), (0, .ref (ad 0)), (1, .long 1818846836), (3, .long v50_3)]) hx hb dX12_isWord_50 hl (k := 3) rfl ex28.symm (by decide) rfl (fun ls hl => ?_)
        have ex28 : x28.toInt = v10_5.toInt + 1 := by rw [ex28]; exact wk_add (y := 1) (show -2147483648 ≤ v10_5.toInt + 1 by omega) (show v10_5.toInt + 1 ≤ 2147483647 by omega)
        replace hM := hM.lt ex28.symm
        refine lv_goto (tgt := 10) hx hb dX12_isWord_53 (by decide) ?_
        exact ih10 v50_3 x28 f10_0_1 f10_0_14 H locs ls w19 (show 0 ≤ x28.toInt by first | with_reducible assumption | omega) (show x28.toInt ≤ 400 by first | with_reducible assumption | omega) (show 0 ≤ f10_0_1.toInt from r13) (show f10_0_1.toInt ≤ 400 from t23) (show 0 ≤ f10_0_14.toInt from r25) (show f10_0_14.toInt ≤ 400 from t17) (show (f10_0_14.toInt = f0_.toInt ∨ (gi w0 1 (f0_.toInt).toNat).toInt = 32) by first | omega | assumption | (left; omega) | (left; decide) | (right; assumption)) (show (400 - x28.toInt).toNat < n10 by first | exact tn_lt hm10 (by omega) (by omega) | omega) hw hT hF c24 c27 hM (lv_sub hl [1, 2, 3, 0] rfl)
      replace hM := hM.suc (fun _ => e_X12_isWord_10)
      refine lv_aload_n hx hb dX12_isWord_10 rfl (lv_at hl 0 rfl) ?_
      refine lv_aload_n hx hb dX12_isWord_11 rfl (lv_at hl 0 rfl) ?_
      refine tk_geti hC hK hw hT hinX12 kM_at0 (by decide) rfl 14 (by decide) (List.mem_cons_of_mem _ uw_19_18) rfl rfl dX12_isWord_12 (fun x29 c30 rx29 tx29 => ?_)
      refine wk_top f10_0_14 (c30.symm.trans c18) ?_
      replace hM := hM.rd (sI_at c18)
      refine lv_iload hx hb dX12_isWord_15 (lv_at hl 3 rfl) ?_
      refine lv_iadd hx hb dX12_isWord_17 ?_
      refine lv_topi (fun x31 ex31 => ?_)
      have ezx31 := ex31
      have ex31 : x31.toInt = f10_0_14.toInt + v10_5.toInt := by rw [ex31]; exact wk_add (show (-2147483648) ≤ f10_0_14.toInt + v10_5.toInt by omega) (show f10_0_14.toInt + v10_5.toInt ≤ 2147483647 by omega)
      replace hM := hM.lt ex31.symm
      refine tk_Vi hC hK hw hT hA hE hSR kM_at0 (by decide) rfl (kz_X12_isLetter_1 l adK adV dC dI cy ad B hB0 (Int.le_trans hB1 (by decide)) qr s1   x31 (show 0 ≤ x31.toInt by first | with_reducible assumption | omega) (show x31.toInt ≤ 800 by first | with_reducible assumption | omega) w10 H.size hT ) (cwV 1 hC.2.2.2.2 uV_RX12_101 rfl rfl rfl (by decide +kernel) ⟨Nat.le_of_ble_eq_true rfl, Nat.le_of_ble_eq_true rfl⟩) rfl hl.1 rfl (Nat.le_of_ble_eq_true rfl) dX12_isWord_18 (fun r32 w34 H locs hp33 hw => ?_)
      obtain ⟨rfl, hv42, hg41⟩ := hp33
      rcases hg41 with ⟨rfl, ⟨x36, c37, rx36, tx36⟩⟩ | ⟨rfl, g38, ⟨x39, c40, rx39, tx39⟩⟩
      · replace hM := hM.call (r' := 0) hv42 (by decide)
        have ex36 : x36.toInt = f10_0_1.toInt := by rw [← c15.symm.trans c37]
        refine lv_if_eq (tgt := 56) hx hb dX12_isWord_21 (by decide) (fun _ => ?_) (fun c => absurd (by decide) c)
        replace hM := hM.pos (by decide)
        refine lv_iload hx hb dX12_isWord_56 (lv_at hl 3 rfl) ?_
        refine lv_if_le (tgt := 78) hx hb dX12_isWord_58 (by decide) (fun c43 => ?_) (fun c43 => ?_)
        · have c43 : v10_5.toInt ≤ (0 : Int) := wk_le.mp c43
          replace hM := hM.pos c43
          exact J78 v10_3 v10_5 f10_0_1 f10_0_14 H locs ls w10 (show 0 ≤ v10_5.toInt from r11) (show v10_5.toInt ≤ 400 from t12) (show 0 ≤ f10_0_1.toInt from r13) (show f10_0_1.toInt ≤ 400 from t14) (show 0 ≤ f10_0_14.toInt from r16) (show f10_0_14.toInt ≤ 400 from t17) (show (f10_0_14.toInt = f0_.toInt ∨ (gi w0 1 (f0_.toInt).toNat).toInt = 32) by first | omega | assumption | (left; omega) | (left; decide) | (right; assumption))  hw hT hF c15 c18 hM (lv_sub hl [0, 1, 2, 3] rfl)
        · have c43 : (0 : Int) < v10_5.toInt := wk_leF c43
          replace hM := hM.neg (Int.not_le.mpr c43)
          refine lv_iload hx hb dX12_isWord_61 (lv_at hl 3 rfl) ?_
          refine lv_bipush (v := 8) hx hb dX12_isWord_63 (by decide) ?_
          refine lv_icmp_ge (tgt := 78) hx hb dX12_isWord_65 (by decide) (fun c44 => ?_) (fun c44 => ?_)
          · have c44 : (8 : Int) ≤ v10_5.toInt := wk_le.mp c44
            replace hM := hM.pos c44
            exact J78 v10_3 v10_5 f10_0_1 f10_0_14 H locs ls w10 (show 0 ≤ v10_5.toInt from r11) (show v10_5.toInt ≤ 400 from t12) (show 0 ≤ f10_0_1.toInt from r13) (show f10_0_1.toInt ≤ 400 from t14) (show 0 ≤ f10_0_14.toInt from r16) (show f10_0_14.toInt ≤ 400 from t17) (show (f10_0_14.toInt = f0_.toInt ∨ (gi w0 1 (f0_.toInt).toNat).toInt = 32) by first | omega | assumption | (left; omega) | (left; decide) | (right; assumption))  hw hT hF c15 c18 hM (lv_sub hl [0, 1, 2, 3] rfl)
          · have c44 : v10_5.toInt < (8 : Int) := wk_leF c44
            replace hM := hM.neg (Int.not_le.mpr c44)
            refine lv_lload_n hx hb dX12_isWord_68 rfl (lv_at hl 2 rfl) ?_
            refine lv_lload_n hx hb dX12_isWord_69 rfl (lv_at hl 1 rfl) ?_
            refine W.lcmp hx hb dX12_isWord_70 ?_
            refine lv_if_ne (tgt := 78) hx hb dX12_isWord_71 (by decide) (fun c45 => ?_) (fun c45 => ?_)
            · have c45 : ¬ v10_3.toInt = (1818846836 : Int) := wk_ceF c45
              replace hM := hM.pos c45
              exact J78 v10_3 v10_5 f10_0_1 f10_0_14 H locs ls w10 (show 0 ≤ v10_5.toInt from r11) (show v10_5.toInt ≤ 400 from t12) (show 0 ≤ f10_0_1.toInt from r13) (show f10_0_1.toInt ≤ 400 from t14) (show 0 ≤ f10_0_14.toInt from r16) (show f10_0_14.toInt ≤ 400 from t17) (show (f10_0_14.toInt = f0_.toInt ∨ (gi w0 1 (f0_.toInt).toNat).toInt = 32) by first | omega | assumption | (left; omega) | (left; decide) | (right; assumption))  hw hT hF c15 c18 hM (lv_sub hl [0, 1, 2, 3] rfl)
            · have c45 : v10_3.toInt = (1818846836 : Int) := wk_ceT c45
              replace hM := hM.neg (fun q => q c45)
              refine lv_iconst (v := 1) hx hb dX12_isWord_74 (by decide) ?_
              refine lv_goto (tgt := 79) hx hb dX12_isWord_75 (by decide) ?_
              exact tk_zret hC hr rfl hlocks hK ⟨hT, hF, hM.ret (by decide), (Or.inr ⟨rfl, ⟨f10_0_1, c15, (show 0 ≤ f10_0_1.toInt from r13), (show f10_0_1.toInt ≤ 400 from t14)⟩, (by simp only [cf0_, c18]; omega)⟩)⟩ hw dX12_isWord_79
      · replace hM := hM.call (r' := 1) hv42 (by decide)
        have ex39 : x39.toInt = f10_0_1.toInt := by rw [← c15.symm.trans c40]
        refine lv_if_eq (tgt := 56) hx hb dX12_isWord_21 (by decide) (fun c => absurd c (by decide)) (fun _ => ?_)
        replace hM := hM.neg (by decide)
        refine lv_iload hx hb dX12_isWord_24 (lv_at hl 3 rfl) ?_
        refine lv_bipush (v := 8) hx hb dX12_isWord_26 (by decide) ?_
        refine lv_icmp_ge (tgt := 50) hx hb dX12_isWord_28 (by decide) (fun c46 => ?_) (fun c46 => ?_)
        · have c46 : (8 : Int) ≤ v10_5.toInt := wk_le.mp c46
          replace hM := hM.pos c46
          exact J50 v10_3 H locs ls w10 (show 0 ≤ v10_5.toInt from r11) (show v10_5.toInt ≤ 399 by first | with_reducible assumption | omega) (show 1 ≤ f10_0_1.toInt by first | with_reducible assumption | omega) (show f10_0_1.toInt ≤ 400 from t14) (show 0 ≤ f10_0_14.toInt from r16) (show f10_0_14.toInt ≤ 399 by first | with_reducible assumption | omega) (show (f10_0_14.toInt = f0_.toInt ∨ (gi w0 1 (f0_.toInt).toNat).toInt = 32) by first | omega | assumption | (left; omega) | (left; decide) | (right; assumption))  hw hT hF c15 c18 hM (lv_sub hl [0, 1, 2, 3] rfl)
        · have c46 : v10_5.toInt < (8 : Int) := wk_leF c46
          replace hM := hM.neg (Int.not_le.mpr c46)
          refine lv_lload_n hx hb dX12_isWord_31 rfl (lv_at hl 2 rfl) ?_
          refine lv_bipush (v := 8) hx hb dX12_isWord_32 (by decide) ?_
          refine lv_lshl hx hb dX12_isWord_34 rfl ?_
          refine lv_topl (fun x47 ex47 => ?_)
          replace hM := hM.lt (mShlL_e ex47 rfl (by decide))
          refine lv_aload_n hx hb dX12_isWord_35 rfl (lv_at hl 0 rfl) ?_
          refine tk_getA hC hK hw hT hinX12 kM_at0 (by decide) rfl 0 (by decide) (List.mem_cons_of_mem _ uw_6_14) rfl rfl dX12_isWord_36 ?_
          refine lv_aload_n hx hb dX12_isWord_39 rfl (lv_at hl 0 rfl) ?_
          refine tk_geti hC hK hw hT hinX12 kM_at0 (by decide) rfl 14 (by decide) (List.mem_cons_of_mem _ uw_19_18) rfl rfl dX12_isWord_40 (fun x48 c49 rx48 tx48 => ?_)
          refine wk_top f10_0_14 (c49.symm.trans c18) ?_
          replace hM := hM.rd (sI_at c18)
          refine lv_iload hx hb dX12_isWord_43 (lv_at hl 3 rfl) ?_
          refine lv_iadd hx hb dX12_isWord_45 ?_
          refine lv_topi (fun x50 ex50 => ?_)
          have ezx50 := ex50
          have ex50 : x50.toInt = f10_0_14.toInt + v10_5.toInt := by rw [ex50]; exact wk_add (show (-2147483648) ≤ f10_0_14.toInt + v10_5.toInt by omega) (show f10_0_14.toInt + v10_5.toInt ≤ 2147483647 by omega)
          replace hM := hM.lt ex50.symm
          refine tk_bald hC hK hw hT kM_at1 rfl rfl (show 0 ≤ x50.toInt by first | with_reducible assumption | omega) (show x50.toInt < 400 by first | with_reducible assumption | omega) dX12_isWord_46 (fun x51 c52 rx51 tx51 => ?_)
          have hox51 := c52
          replace hM := hM.rd (sI_at hox51)
          have c52 : gi w10 1 (1 * f10_0_14.toInt + 1 * v10_5.toInt + 0).toNat = x51 := (congrArg (gi w10 1) (congrArg Int.toNat (show 1 * f10_0_14.toInt + 1 * v10_5.toInt + 0 = x50.toInt by first | exact Int.le_antisymm (by omega) (by omega) | omega))).trans c52
          refine lv_i2l hx hb dX12_isWord_47 rfl ?_
          refine lv_topl (fun x53 ex53 => ?_)
          have ex53 : x53.toInt = x51.toInt := by rw [ex53]; exact wk_i2l _
          have bx53 := wk_i32 x51
          replace hM := hM.lt ex53.symm
          refine lv_lor hx hb dX12_isWord_48 ?_
          refine lv_topl (fun x54 ex54 => ?_)
          have ezx54 := ex54
          replace hM := hM.lt (o64_e (f := fun x y => x ||| y) ezx54 rfl rfl)
          refine lv_lstore_n (lv' := [(3, .long x54), (0, .ref (ad 0)), (1, .long 1818846836), (5, .int v10_5)]) hx hb dX12_isWord_49 rfl hl (by decide) rfl (fun ls hl => ?_)
          exact J50 x54 H locs ls w10 (show 0 ≤ v10_5.toInt from r11) (show v10_5.toInt ≤ 399 by first | with_reducible assumption | omega) (show 1 ≤ f10_0_1.toInt by first | with_reducible assumption | omega) (show f10_0_1.toInt ≤ 400 from t14) (show 0 ≤ f10_0_14.toInt from r16) (show f10_0_14.toInt ≤ 399 by first | with_reducible assumption | omega) (show (f10_0_14.toInt = f0_.toInt ∨ (gi w0 1 (f0_.toInt).toNat).toInt = 32) by first | omega | assumption | (left; omega) | (left; decide) | (right; assumption) | (right; rw [c52]; omega) | (right; rw [c52]; decide))  hw hT hF c15 c18 hM (lv_sub hl [1, 2, 0, 3] rfl)
  have hM : TT (fun n => m_X12_isWord n 0 1818846836 (sI w0)) (fun n => m_X12_isWord n 0 1818846836 (sI w0)) := TT.rf
  refine lv_aload_n hx hb dX12_isWord_0 rfl (lv_at hl 0 rfl) ?_
  refine tk_Vi hC hK hw hT hA hE hSR kM_at0 (by decide) rfl (kz_X12_see_1 l adK adV dC dI cy ad B hB0 (Int.le_trans hB1 (by decide)) qr s1    w0 s.heap.size hT f0_ cf0_ (show 0 ≤ f0_.toInt from rf0_) (show f0_.toInt ≤ 400 from tf0_)) (cwV 0 hC.2.2.2.2 uV_RX12_97 rfl rfl rfl (by decide +kernel) ⟨Nat.le_of_ble_eq_true rfl, Nat.le_of_ble_eq_true rfl⟩) rfl hl.1 rfl (Nat.le_of_ble_eq_true rfl) dX12_isWord_1 (fun r55 w57 H locs hp56 hw => ?_)
  obtain ⟨hT, k58, hv76, hg75⟩ := hp56
  have hF := hF.tr k58 (by decide)
  rcases hg75 with ⟨g59, g60, ⟨x61, c62, rx61, tx61⟩, ⟨x63, c64, rx63, tx63⟩, g65, g66⟩ | ⟨rfl, ⟨x67, c68, rx67, tx67⟩, ⟨x69, c70, rx69, tx69⟩, g71⟩ | ⟨rfl, ⟨x72, c73, rx72, tx72⟩, g74⟩
  · replace hM := hM.call hv76 rfl
    have g65 : (gi w57 1 (x63.toInt).toNat).toInt ≠ 32 := by have q := g65; simp only [c64] at q; first | with_reducible exact q | omega
    have g66 : (x63.toInt = f0_.toInt ∨ (gi w0 1 (f0_.toInt).toNat).toInt = 32) := by have q := g66; simp only [cf0_, c64] at q; first | with_reducible exact q | omega
    refine lv_pop hx hb dX12_isWord_4 rfl ?_
    refine lv_lconst (v := 0) hx hb dX12_isWord_5 (by decide) ?_
    refine lv_lstore_n (lv' := [(3, .long 0), (0, .ref (ad 0)), (1, .long 1818846836)]) hx hb dX12_isWord_6 rfl hl (by decide) rfl (fun ls hl => ?_)
    refine lv_iconst (v := 0) hx hb dX12_isWord_7 (by decide) ?_
    refine lv_istore (lv' := [(5, .int 0), (3, .long 0), (0, .ref (ad 0)), (1, .long 1818846836)]) hx hb dX12_isWord_8 hl (by decide) rfl (fun ls hl => ?_)
    exact L10 ((400 - (0 : Int)).toNat + 1) 0 0 x61 x63 H locs ls w57 (by decide) (by decide) (show 0 ≤ x61.toInt by first | with_reducible assumption | omega) (show x61.toInt ≤ 400 by first | with_reducible assumption | omega) (show 0 ≤ x63.toInt by first | with_reducible assumption | omega) (show x63.toInt ≤ 400 by first | with_reducible assumption | omega) (show (x63.toInt = f0_.toInt ∨ (gi w0 1 (f0_.toInt).toNat).toInt = 32) by first | omega | assumption | (left; omega) | (left; decide) | (right; assumption)) (Nat.lt_succ_self _) hw hT hF c62 c64 hM (lv_sub hl [2, 3, 1, 0] rfl)
  · replace hM := hM.call (r' := (-1)) hv76 (by decide)
    have g71 : (x69.toInt = f0_.toInt ∨ (gi w0 1 (f0_.toInt).toNat).toInt = 32) := by have q := g71; simp only [cf0_, c70] at q; first | with_reducible exact q | omega
    refine lv_pop hx hb dX12_isWord_4 rfl ?_
    refine lv_lconst (v := 0) hx hb dX12_isWord_5 (by decide) ?_
    refine lv_lstore_n (lv' := [(3, .long 0), (0, .ref (ad 0)), (1, .long 1818846836)]) hx hb dX12_isWord_6 rfl hl (by decide) rfl (fun ls hl => ?_)
    refine lv_iconst (v := 0) hx hb dX12_isWord_7 (by decide) ?_
    refine lv_istore (lv' := [(5, .int 0), (3, .long 0), (0, .ref (ad 0)), (1, .long 1818846836)]) hx hb dX12_isWord_8 hl (by decide) rfl (fun ls hl => ?_)
    exact L10 ((400 - (0 : Int)).toNat + 1) 0 0 x67 x69 H locs ls w57 (by decide) (by decide) (show 0 ≤ x67.toInt by first | with_reducible assumption | omega) (show x67.toInt ≤ 400 by first | with_reducible assumption | omega) (show 0 ≤ x69.toInt by first | with_reducible assumption | omega) (show x69.toInt ≤ 400 by first | with_reducible assumption | omega) (show (x69.toInt = f0_.toInt ∨ (gi w0 1 (f0_.toInt).toNat).toInt = 32) by first | omega | assumption | (left; omega) | (left; decide) | (right; assumption)) (Nat.lt_succ_self _) hw hT hF c68 c70 hM (lv_sub hl [2, 3, 1, 0] rfl)
  · replace hM := hM.call (r' := (-1)) hv76 (by decide)
    obtain ⟨x77, c78, rx77, tx77⟩ := hT.rdi (lo := 0) (hi := 400) (k := 14) kM_at0 (by decide) rfl
    have g74 : (x77.toInt = f0_.toInt ∨ (gi w0 1 (f0_.toInt).toNat).toInt = 32) := by have q := g74; simp only [cf0_, c78] at q; first | with_reducible exact q | omega
    refine lv_pop hx hb dX12_isWord_4 rfl ?_
    refine lv_lconst (v := 0) hx hb dX12_isWord_5 (by decide) ?_
    refine lv_lstore_n (lv' := [(3, .long 0), (0, .ref (ad 0)), (1, .long 1818846836)]) hx hb dX12_isWord_6 rfl hl (by decide) rfl (fun ls hl => ?_)
    refine lv_iconst (v := 0) hx hb dX12_isWord_7 (by decide) ?_
    refine lv_istore (lv' := [(5, .int 0), (3, .long 0), (0, .ref (ad 0)), (1, .long 1818846836)]) hx hb dX12_isWord_8 hl (by decide) rfl (fun ls hl => ?_)
    exact L10 ((400 - (0 : Int)).toNat + 1) 0 0 x72 x77 H locs ls w57 (by decide) (by decide) (show 0 ≤ x72.toInt by first | with_reducible assumption | omega) (show x72.toInt ≤ 400 by first | with_reducible assumption | omega) (show 0 ≤ x77.toInt by first | with_reducible assumption | omega) (show x77.toInt ≤ 400 by first | with_reducible assumption | omega) (show (x77.toInt = f0_.toInt ∨ (gi w0 1 (f0_.toInt).toNat).toInt = 32) by first | omega | assumption | (left; omega) | (left; decide) | (right; assumption)) (Nat.lt_succ_self _) hw hT hF c73 c78 hM (lv_sub hl [2, 3, 1, 0] rfl)
abbrev Pz_X12_clauseHere_1 (ad : Nat → Nat) (cy : Nat → ClassId) (B : Int) (qr : Nat) (s1 : Int)  (w0 : va_W) : Int32 → va_W → Prop := fun r u => TW ksM ad cy B qr 12 u ∧ FE ksM [(12, 7, 7), (12, 8, 8), (12, 9, 9), (12, 10, 10), (12, 14, 14), (12, 15, 15), (12, 16, 16), (12, 20, 20), (65, 0, 120), (66, 0, 16), (67, 0, 12)] w0 u ∧ Ev (fun n => m_X12_clauseHere n 0 (sI w0)) (r.toInt, sI u) ∧ ((r = 0 ∧ (∃ y : Int32, gi u 0 1 = y ∧ 1 ≤ y.toInt ∧ y.toInt ≤ 400) ∧ (∃ y : Int32, gi u 0 15 = y ∧ 1 ≤ y.toInt ∧ y.toInt ≤ 3205) ∧ (∃ y : Int32, gi u 0 17 = y ∧ 6 ≤ y.toInt ∧ y.toInt ≤ 6) ∧ (∃ y : Int32, gi u 0 20 = y ∧ 0 ≤ y.toInt ∧ y.toInt ≤ 32) ∧ ((gi w0 0 20).toInt ≤ (gi u 0 20).toInt)) ∨ (r = 0 ∧ (∃ y : Int32, gi u 0 1 = y ∧ 0 ≤ y.toInt ∧ y.toInt ≤ 400) ∧ (∃ y : Int32, gi u 0 15 = y ∧ 1 ≤ y.toInt ∧ y.toInt ≤ 3205) ∧ (∃ y : Int32, gi u 0 17 = y ∧ 6 ≤ y.toInt ∧ y.toInt ≤ 6) ∧ (∃ y : Int32, gi u 0 20 = y ∧ 0 ≤ y.toInt ∧ y.toInt ≤ 32) ∧ ((gi w0 0 20).toInt ≤ (gi u 0 20).toInt)) ∨ (r = 1 ∧ (∃ y : Int32, gi u 0 1 = y ∧ 1 ≤ y.toInt ∧ y.toInt ≤ 400) ∧ (∃ y : Int32, gi u 0 7 = y ∧ 1 ≤ y.toInt ∧ y.toInt ≤ 10) ∧ (∃ y : Int32, gi u 0 16 = y ∧ 0 ≤ y.toInt ∧ y.toInt ≤ 359) ∧ (∃ y : Int32, gi u 0 17 = y ∧ 6 ≤ y.toInt ∧ y.toInt ≤ 6) ∧ (∃ y : Int32, gi u 0 20 = y ∧ 1 ≤ y.toInt ∧ y.toInt ≤ 32) ∧ ((gi u 0 20).toInt = (gi w0 0 20).toInt + 1)))
set_option maxHeartbeats 4000000 in
set_option maxRecDepth 100000 in
theorem kz_X12_clauseHere_1 (l : Launch) (adK adV : Nat → Nat) (dC : Nat → ClassId) (dI : Nat → Nat → Nat) (cy : Nat → ClassId) (ad : Nat → Nat) (B : Int) (hB0 : 100000 ≤ B) (hB1 : B ≤ 1073741824) (qr : Nat) (s1 : Int)   (w0 : va_W) (sz : Nat) (hT : TW ksM ad cy B qr 12 w0) (cf0_ : gi w0 0 17 = 6) (f1_ : Int32) (cf1_ : gi w0 0 20 = f1_) (rf1_ : 0 ≤ f1_.toInt) (tf1_ : f1_.toInt ≤ 32) : Met l yX12_clauseHere (wu yX12_clauseHere cX12_clauseHere 4 (some .boolean)) ({ frames := 5, cells := 0, slots := 0, locals := 105 }) (va_Pc [.ref (ad 0)] (wpreS adK adV dC dI cy sz w0)) (va_Qi (Pz_X12_clauseHere_1 ad cy B qr s1  w0) (fun u : va_W => wpost dC dI cy (va_A w0 sz) u) (va_A w0 sz)) 0 0 (va_A w0 sz) := by
  refine Met.ofW (cc := cX12_clauseHere) (maxL := 4) (ret := (some .boolean)) (by decide) rfl ?_
  intro p e s m args below meth c s₁ Bk hml hv
  obtain ⟨rfl, ⟨hsz, hP, hK, hD0⟩, hE, hSR⟩ := hv
  have hx := Bk.exec
  have hb := Bk.bytes
  have hr := Bk.returns
  have hlocks := Bk.notSynchronized
  have hC : CallFix p m c cX12_clauseHere 4 s _ (wu yX12_clauseHere cX12_clauseHere 4 (some .boolean)) RX12 := ⟨hx, hb, hml, findClass_of_methodNamed Bk.named, atoms_spec (ws := (wu yX12_clauseHere cX12_clauseHere 4 (some .boolean))) Bk.pre⟩
  subst hsz
  have hD := hD0.self (sz := s.heap.size)
  generalize hAe : va_A w0 s.heap.size = A at hD hE ⊢
  have hA : ∀ q : Nat, s.heap.size ≤ q → A q := fun q h => by rw [← hAe]; exact Or.inr h
  have hw : Wd dC dI A s.heap s.heap [] w0 := ⟨hP, hD, va_S.rf⟩
  have hF : FE ksM [(12, 7, 7), (12, 8, 8), (12, 9, 9), (12, 10, 10), (12, 14, 14), (12, 15, 15), (12, 16, 16), (12, 20, 20), (65, 0, 120), (66, 0, 16), (67, 0, 12)] w0 w0 := FE.rf
  have hl := lv_entry ([.ref (ad 0)]) (n := 4) (Nat.le_of_ble_eq_true rfl)
  rw [lg_entry_eq]
  generalize (lg_sl ([.ref (ad 0)]) ++ List.replicate (4 - (lg_sl ([.ref (ad 0)])).length) Slot.unset).toArray = ls at hl ⊢
  have hl : lv_has ls 4 [(0, .ref (ad 0))] := hl
  generalize hloc : ([] : List Loc) = locs at hw ⊢
  have hinX12 : ∀ w ∈ u_ws RX12 TX12 42, w ∈ (wu yX12_clauseHere cX12_clauseHere 4 (some .boolean)) := fun _ h => List.mem_cons_of_mem _ (up_71 h)
  have J69 : ∀ (v69_1 : Int32) (f69_0_1 : Int32) (f69_0_14 : Int32) (H : Heap) (locs : List Loc) (ls : Array Slot) (w1 : va_W), 0 ≤ v69_1.toInt → v69_1.toInt ≤ 400 → 0 ≤ f69_0_1.toInt → f69_0_1.toInt ≤ 400 → 0 ≤ f69_0_14.toInt → f69_0_14.toInt ≤ 400 → 0 ≤ f1_.toInt → f1_.toInt ≤ 32 → (f1_.toInt = f1_.toInt) → Wd dC dI A s.heap H locs w1 → TW ksM ad cy B qr 12 w1 → FE ksM [(12, 7, 7), (12, 8, 8), (12, 9, 9), (12, 10, 10), (12, 14, 14), (12, 15, 15), (12, 16, 16), (12, 20, 20), (65, 0, 120), (66, 0, 16), (67, 0, 12)] w0 w1 → gi w1 0 1 = f69_0_1 → gi w1 0 14 = f69_0_14 → gi w1 0 17 = 6 → gi w1 0 20 = f1_ → TT (fun n => m_X12_clauseHere n 0 (sI w0)) (fun n => b_X12_clauseHere_69 n 0 (v69_1.toInt) (1 : Int) (sI w1)) → lv_has ls 4 [(0, .ref (ad 0)), (1, .int v69_1), (2, .int 1)] → W p l e ({ frames := 5, cells := 0, slots := 0, locals := 105 }) s m (List.toArray [.ref (ad 0)]) below meth c H locs 0 0 (MQ below (va_Qi (Pz_X12_clauseHere_1 ad cy B qr s1  w0) (fun u : va_W => wpost dC dI cy A u) A) (List.toArray [.ref (ad 0)]) s 0 0 A) (F0 m 69 ls []) := by
    intro v69_1 f69_0_1 f69_0_14 H locs ls w1 r2 t3 r4 t5 r7 t8 r11 t12 hcr69_0 hw hT hF c6 c9 c10 c13 hM hl
    have hM : TT (fun n => m_X12_clauseHere n 0 (sI w0)) (fun n => b_X12_clauseHere_89 n 0 (v69_1.toInt) (1 : Int) 1 (sI w1)) := hM
    refine lv_iconst (v := 1) hx hb dX12_clauseHere_69 (by decide) ?_
    refine lv_goto (tgt := 89) hx hb dX12_clauseHere_70 (by decide) ?_
    refine lv_istore_n (lv' := [(3, .int 1), (0, .ref (ad 0)), (1, .int v69_1), (2, .int 1)]) hx hb dX12_clauseHere_89 rfl hl (by decide) rfl (fun ls hl => ?_)
    refine lv_iload_n hx hb dX12_clauseHere_90 rfl (lv_at hl 0 rfl) ?_
    refine lv_if_ne (tgt := 101) hx hb dX12_clauseHere_91 (by decide) (fun _ => ?_) (fun c => absurd c (by decide))
    replace hM := hM.pos (by decide)
    refine lv_aload_n hx hb dX12_clauseHere_101 rfl (lv_at hl 1 rfl) ?_
    refine tk_geti hC hK hw hT hinX12 kM_at0 (by decide) rfl 20 (by decide) (List.mem_cons_of_mem _ uw_19_17) rfl rfl dX12_clauseHere_102 (fun x14 c15 rx14 tx14 => ?_)
    refine wk_top f1_ (c15.symm.trans c13) ?_
    replace hM := hM.rd (sI_at c13)
    refine lv_iload_n hx hb dX12_clauseHere_105 rfl (lv_at hl 3 rfl) ?_
    refine lv_if_eq (tgt := 114) hx hb dX12_clauseHere_106 (by decide) (fun c => absurd c (by decide)) (fun _ => ?_)
    replace hM := hM.neg (by decide)
    refine lv_bipush (v := 32) hx hb dX12_clauseHere_109 (by decide) ?_
    refine lv_goto (tgt := 116) hx hb dX12_clauseHere_111 (by decide) ?_
    refine lv_icmp_ne (tgt := 126) hx hb dX12_clauseHere_116 (by decide) (fun c16 => ?_) (fun c16 => ?_)
    · have c16 : ¬ f1_.toInt = (32 : Int) := wk_eqF c16
      replace hM := hM.pos c16
      refine lv_aload_n hx hb dX12_clauseHere_126 rfl (lv_at hl 1 rfl) ?_
      refine lv_dup hx hb dX12_clauseHere_127 rfl ?_
      refine tk_geti hC hK hw hT hinX12 kM_at0 (by decide) rfl 20 (by decide) (List.mem_cons_of_mem _ uw_19_17) rfl rfl dX12_clauseHere_128 (fun x17 c18 rx17 tx17 => ?_)
      refine wk_top f1_ (c18.symm.trans c13) ?_
      replace hM := hM.rd (sI_at c13)
      refine lv_iconst (v := 1) hx hb dX12_clauseHere_131 (by decide) ?_
      refine lv_iadd hx hb dX12_clauseHere_132 ?_
      refine lv_topi (fun x19 ex19 => ?_)
      have ezx19 := ex19
      have ex19 : x19.toInt = f1_.toInt + (1 : Int) := by rw [ex19]; exact wk_add (show (-2147483648) ≤ f1_.toInt + (1 : Int) by omega) (show f1_.toInt + (1 : Int) ≤ 2147483647 by omega)
      replace hM := hM.lt ex19.symm
      refine tk_puti hC hK hw hT hinX12 tyX12_ok nmX12 kM_at0 (by decide) rfl rfl 20 (by decide) (List.mem_cons_of_mem _ uw_19_17) rfl rfl rfl rfl (show 0 ≤ x19.toInt by first | with_reducible assumption | omega) (show x19.toInt ≤ 32 by first | with_reducible assumption | omega) dX12_clauseHere_133 (fun H locs w20 hw hT k22 c21 => ?_)
      replace hM := hM.wr (sI_up k22 c21)
      have hF := hF.put kM_at0 (k := 20) (by decide) k22
      have c23 := k22.gi (Or.inr (by decide)) c6
      have c24 := k22.gi (Or.inr (by decide)) c9
      have c25 := k22.gi (Or.inr (by decide)) c10
      refine lv_iload_n hx hb dX12_clauseHere_136 rfl (lv_at hl 3 rfl) ?_
      refine lv_if_eq (tgt := 148) hx hb dX12_clauseHere_137 (by decide) (fun c => absurd c (by decide)) (fun _ => ?_)
      replace hM := hM.neg (by decide)
      refine lv_aload_n hx hb dX12_clauseHere_140 rfl (lv_at hl 1 rfl) ?_
      refine lv_iload_n hx hb dX12_clauseHere_141 rfl (lv_at hl 2 rfl) ?_
      refine tk_Vi hC hK hw hT hA hE hSR kM_at0 (by decide) rfl (kz_X12_townLineHere_1 l adK adV dC dI cy ad B hB0 (Int.le_trans hB1 (by decide)) qr s1   v69_1 (show 0 ≤ v69_1.toInt from r2) (show v69_1.toInt ≤ 400 from t3) w20 H.size hT ) (cwV 1 hC.2.2.2.2 uV_RX12_270 rfl rfl rfl (by decide +kernel) ⟨Nat.le_of_ble_eq_true rfl, Nat.le_of_ble_eq_true rfl⟩) rfl hl.1 rfl (Nat.le_of_ble_eq_true rfl) dX12_clauseHere_142 (fun r26 w28 H locs hp27 hw => ?_)
      obtain ⟨hT, k29, hv49, hg48⟩ := hp27
      have hF := hF.tr k29 (by decide)
      have c50 := k29.gi kM_at0 (by decide) c23
      have c51 := k29.gi kM_at0 (by decide) c25
      have c52 := k29.gi kM_at0 (by decide) c21
      rcases hg48 with ⟨rfl, ⟨x30, c31, rx30, tx30⟩, ⟨x32, c33, rx32, tx32⟩, ⟨x34, c35, rx34, tx34⟩⟩ | ⟨rfl, ⟨x36, c37, rx36, tx36⟩, ⟨x38, c39, rx38, tx38⟩, ⟨x40, c41, rx40, tx40⟩⟩ | ⟨rfl, ⟨x42, c43, rx42, tx42⟩, ⟨x44, c45, rx44, tx44⟩, ⟨x46, c47, rx46, tx46⟩⟩
      · replace hM := hM.call (r' := 0) hv49 (by decide)
        have ex30 : x30.toInt = f69_0_1.toInt := by rw [← c50.symm.trans c31]
        refine lv_goto (tgt := 156) hx hb dX12_clauseHere_145 (by decide) ?_
        exact tk_zret hC hr rfl hlocks hK ⟨hT, hF, hM.ret (by decide), (Or.inl ⟨rfl, ⟨f69_0_1, c50, (show 1 ≤ f69_0_1.toInt by first | with_reducible assumption | omega), (show f69_0_1.toInt ≤ 400 from t5)⟩, ⟨x34, c35, (show 1 ≤ x34.toInt by first | with_reducible assumption | omega), (show x34.toInt ≤ 3205 by first | with_reducible assumption | omega)⟩, ⟨6, c51, (by decide), (by decide)⟩, ⟨x19, c52, (show 0 ≤ x19.toInt by first | with_reducible assumption | omega), (show x19.toInt ≤ 32 by first | with_reducible assumption | omega)⟩, (by simp only [cf1_, c52]; omega)⟩)⟩ hw dX12_clauseHere_156
      · replace hM := hM.call (r' := 0) hv49 (by decide)
        have ex36 : x36.toInt = f69_0_1.toInt := by rw [← c50.symm.trans c37]
        refine lv_goto (tgt := 156) hx hb dX12_clauseHere_145 (by decide) ?_
        exact tk_zret hC hr rfl hlocks hK ⟨hT, hF, hM.ret (by decide), (Or.inr (Or.inl ⟨rfl, ⟨f69_0_1, c50, (show 0 ≤ f69_0_1.toInt from r4), (show f69_0_1.toInt ≤ 400 from t5)⟩, ⟨x40, c41, (show 1 ≤ x40.toInt by first | with_reducible assumption | omega), (show x40.toInt ≤ 3205 by first | with_reducible assumption | omega)⟩, ⟨6, c51, (by decide), (by decide)⟩, ⟨x19, c52, (show 0 ≤ x19.toInt by first | with_reducible assumption | omega), (show x19.toInt ≤ 32 by first | with_reducible assumption | omega)⟩, (by simp only [cf1_, c52]; omega)⟩))⟩ hw dX12_clauseHere_156
      · replace hM := hM.call (r' := 1) hv49 (by decide)
        have ex42 : x42.toInt = f69_0_1.toInt := by rw [← c50.symm.trans c43]
        refine lv_goto (tgt := 156) hx hb dX12_clauseHere_145 (by decide) ?_
        exact tk_zret hC hr rfl hlocks hK ⟨hT, hF, hM.ret (by decide), (Or.inr (Or.inr ⟨rfl, ⟨f69_0_1, c50, (show 1 ≤ f69_0_1.toInt by first | with_reducible assumption | omega), (show f69_0_1.toInt ≤ 400 from t5)⟩, ⟨x44, c45, (show 1 ≤ x44.toInt by first | with_reducible assumption | omega), (show x44.toInt ≤ 10 by first | with_reducible assumption | omega)⟩, ⟨x46, c47, (show 0 ≤ x46.toInt by first | with_reducible assumption | omega), (show x46.toInt ≤ 359 by first | with_reducible assumption | omega)⟩, ⟨6, c51, (by decide), (by decide)⟩, ⟨x19, c52, (show 1 ≤ x19.toInt by first | with_reducible assumption | omega), (show x19.toInt ≤ 32 by first | with_reducible assumption | omega)⟩, (by simp only [cf1_, c52]; omega)⟩))⟩ hw dX12_clauseHere_156
    · have c16 : f1_.toInt = (32 : Int) := wk_eq.mp c16
      replace hM := hM.neg (fun q => q c16)
      refine lv_aload_n hx hb dX12_clauseHere_119 rfl (lv_at hl 1 rfl) ?_
      refine lv_iconst (v := 4) hx hb dX12_clauseHere_120 (by decide) ?_
      refine lv_iload_n hx hb dX12_clauseHere_121 rfl (lv_at hl 2 rfl) ?_
      refine tk_Vi hC hK hw hT hA hE hSR kM_at0 (by decide) rfl (kz_X12_fails_1 l adK adV dC dI cy ad B hB0 (Int.le_trans hB1 (by decide)) qr s1   4 (by decide) (by decide) v69_1 (show 0 ≤ v69_1.toInt from r2) (show v69_1.toInt ≤ 400 from t3) w1 H.size hT ) (cwV 2 hC.2.2.2.2 uV_RX12_115 rfl rfl rfl (by decide +kernel) ⟨Nat.le_of_ble_eq_true rfl, Nat.le_of_ble_eq_true rfl⟩) rfl hl.1 rfl (Nat.le_of_ble_eq_true rfl) dX12_clauseHere_122 (fun r53 w55 H locs hp54 hw => ?_)
      obtain ⟨hT, k56, hv60, hg59⟩ := hp54
      try simp only [show (4 : Int32).toInt = 4 by decide] at hv60
      have hF := hF.tr k56 (by decide)
      have c61 := k56.gi kM_at0 (by decide) c6
      have c62 := k56.gi kM_at0 (by decide) c9
      have c63 := k56.gi kM_at0 (by decide) c10
      have c64 := k56.gi kM_at0 (by decide) c13
      obtain ⟨rfl, ⟨x57, c58, rx57, tx57⟩⟩ := hg59
      replace hM := hM.call (r' := 0) hv60 (by decide)
      exact tk_zret hC hr rfl hlocks hK ⟨hT, hF, hM.ret (by decide), (Or.inr (Or.inl ⟨rfl, ⟨f69_0_1, c61, (show 0 ≤ f69_0_1.toInt from r4), (show f69_0_1.toInt ≤ 400 from t5)⟩, ⟨x57, c58, (show 1 ≤ x57.toInt by first | with_reducible assumption | omega), (show x57.toInt ≤ 3205 by first | with_reducible assumption | omega)⟩, ⟨6, c63, (by decide), (by decide)⟩, ⟨f1_, c64, (show 0 ≤ f1_.toInt from r11), (show f1_.toInt ≤ 32 from t12)⟩, (by simp only [cf1_, c64]; omega)⟩))⟩ hw dX12_clauseHere_125
  have hM : TT (fun n => m_X12_clauseHere n 0 (sI w0)) (fun n => m_X12_clauseHere n 0 (sI w0)) := TT.rf
  refine lv_aload_n hx hb dX12_clauseHere_0 rfl (lv_at hl 0 rfl) ?_
  obtain ⟨x65, c66, rx65, tx65⟩ := hT.rdi (lo := 0) (hi := 400) (k := 14) kM_at0 (by decide) rfl
  refine tk_Vi hC hK hw hT hA hE hSR kM_at0 (by decide) rfl (kz_X12_see_1 l adK adV dC dI cy ad B hB0 (Int.le_trans hB1 (by decide)) qr s1    w0 s.heap.size hT x65 c66 (show 0 ≤ x65.toInt by first | with_reducible assumption | omega) (show x65.toInt ≤ 400 by first | with_reducible assumption | omega)) (cwV 0 hC.2.2.2.2 uV_RX12_97 rfl rfl rfl (by decide +kernel) ⟨Nat.le_of_ble_eq_true rfl, Nat.le_of_ble_eq_true rfl⟩) rfl hl.1 rfl (Nat.le_of_ble_eq_true rfl) dX12_clauseHere_1 (fun r67 w69 H locs hp68 hw => ?_)
  obtain ⟨hT, k70, hv88, hg87⟩ := hp68
  have hF := hF.tr k70 (by decide)
  have c89 := k70.gi kM_at0 (by decide) cf0_
  have c90 := k70.gi kM_at0 (by decide) cf1_
  rcases hg87 with ⟨g71, g72, ⟨x73, c74, rx73, tx73⟩, ⟨x75, c76, rx75, tx75⟩, g77, g78⟩ | ⟨rfl, ⟨x79, c80, rx79, tx79⟩, ⟨x81, c82, rx81, tx81⟩, g83⟩ | ⟨rfl, ⟨x84, c85, rx84, tx84⟩, g86⟩
  · replace hM := hM.call hv88 rfl
    have g77 : (gi w69 1 (x75.toInt).toNat).toInt ≠ 32 := by have q := g77; simp only [c76] at q; first | with_reducible exact q | omega
    have g78 : (x75.toInt = x65.toInt ∨ (gi w0 1 (x65.toInt).toNat).toInt = 32) := by have q := g78; simp only [c66, c76] at q; first | with_reducible exact q | omega
    refine lv_pop hx hb dX12_clauseHere_4 rfl ?_
    refine lv_aload_n hx hb dX12_clauseHere_5 rfl (lv_at hl 0 rfl) ?_
    refine tk_geti hC hK hw hT hinX12 kM_at0 (by decide) rfl 14 (by decide) (List.mem_cons_of_mem _ uw_19_18) rfl rfl dX12_clauseHere_6 (fun x93 c94 rx93 tx93 => ?_)
    refine wk_top x75 (c94.symm.trans c76) ?_
    replace hM := hM.rd (sI_at c76)
    refine lv_istore_n (lv' := [(1, .int x75), (0, .ref (ad 0))]) hx hb dX12_clauseHere_9 rfl hl (by decide) rfl (fun ls hl => ?_)
    refine lv_aload_n hx hb dX12_clauseHere_10 rfl (lv_at hl 1 rfl) ?_
    refine tk_geti hC hK hw hT hinX12 kM_at0 (by decide) rfl 17 (by decide) (List.mem_cons_of_mem _ uw_19_7) rfl rfl dX12_clauseHere_11 (fun x95 c96 rx95 tx95 => ?_)
    refine wk_top 6 (c96.symm.trans c89) ?_
    replace hM := hM.rd (v := 6) ((sI_at c89).trans (by decide))
    refine lv_bipush (v := 6) hx hb dX12_clauseHere_14 (by decide) ?_
    refine lv_icmp_ne (tgt := 23) hx hb dX12_clauseHere_16 (by decide) (fun c => absurd (by decide) c) (fun _ => ?_)
    replace hM := hM.neg (by decide)
    refine lv_iconst (v := 1) hx hb dX12_clauseHere_19 (by decide) ?_
    refine lv_goto (tgt := 24) hx hb dX12_clauseHere_20 (by decide) ?_
    refine lv_istore_n (lv' := [(2, .int 1), (1, .int x75), (0, .ref (ad 0))]) hx hb dX12_clauseHere_24 rfl hl (by decide) rfl (fun ls hl => ?_)
    refine lv_iload_n hx hb dX12_clauseHere_25 rfl (lv_at hl 0 rfl) ?_
    refine lv_if_eq (tgt := 77) hx hb dX12_clauseHere_26 (by decide) (fun c => absurd c (by decide)) (fun _ => ?_)
    replace hM := hM.neg (by decide)
    refine lv_aload_n hx hb dX12_clauseHere_29 rfl (lv_at hl 2 rfl) ?_
    refine lv_ldc2 (v := 27988559963452019) hx hb hC.2.2.2.1 (hC.2.2.2.2 _ (List.mem_cons_of_mem _ uw_20_0)) dX12_clauseHere_30 ?_
    refine tk_Vi hC hK hw hT hA hE hSR kM_at0 (by decide) rfl (kz_X12_isWord_1 l adK adV dC dI cy ad B hB0 (Int.le_trans hB1 (by decide)) qr s1    w69 H.size hT x75 c76 (show 0 ≤ x75.toInt by first | with_reducible assumption | omega) (show x75.toInt ≤ 400 by first | with_reducible assumption | omega)) (cwV 1 hC.2.2.2.2 uV_RX12_105 rfl rfl rfl (by decide +kernel) ⟨Nat.le_of_ble_eq_true rfl, Nat.le_of_ble_eq_true rfl⟩) rfl hl.1 rfl (Nat.le_of_ble_eq_true rfl) dX12_clauseHere_33 (fun r97 w99 H locs hp98 hw => ?_)
    obtain ⟨hT, k100, hv108, hg107⟩ := hp98
    have hF := hF.tr k100 (by decide)
    have c109 := k100.gi kM_at0 (by decide) c89
    have c110 := k100.gi kM_at0 (by decide) c90
    have c111 := k100.gi kM_at0 (by decide) c74
    rcases hg107 with ⟨rfl, ⟨x101, c102, rx101, tx101⟩, g103⟩ | ⟨rfl, ⟨x104, c105, rx104, tx104⟩, g106⟩
    · replace hM := hM.call (r' := 0) hv108 (by decide)
      have ex101 : x101.toInt = x73.toInt := by rw [← c111.symm.trans c102]
      obtain ⟨x112, c113, rx112, tx112⟩ := hT.rdi (lo := 0) (hi := 400) (k := 14) kM_at0 (by decide) rfl
      have g103 : (x112.toInt = x75.toInt ∨ (gi w69 1 (x75.toInt).toNat).toInt = 32) := by have q := g103; simp only [c76, c113] at q; first | with_reducible exact q | omega
      refine lv_if_ne (tgt := 69) hx hb dX12_clauseHere_36 (by decide) (fun c => absurd (by decide) c) (fun _ => ?_)
      replace hM := hM.neg (by decide)
      refine lv_aload_n hx hb dX12_clauseHere_39 rfl (lv_at hl 2 rfl) ?_
      refine lv_ldc2 (v := 126943972648308) hx hb hC.2.2.2.1 (hC.2.2.2.2 _ (List.mem_cons_of_mem _ uw_20_1)) dX12_clauseHere_40 ?_
      refine tk_Vi hC hK hw hT hA hE hSR kM_at0 (by decide) rfl (kz_X12_isWord_2 l adK adV dC dI cy ad B hB0 (Int.le_trans hB1 (by decide)) qr s1    w99 H.size hT x112 c113 (show 0 ≤ x112.toInt by first | with_reducible assumption | omega) (show x112.toInt ≤ 400 by first | with_reducible assumption | omega)) (cwV 1 hC.2.2.2.2 uV_RX12_105 rfl rfl rfl (by decide +kernel) ⟨Nat.le_of_ble_eq_true rfl, Nat.le_of_ble_eq_true rfl⟩) rfl hl.1 rfl (Nat.le_of_ble_eq_true rfl) dX12_clauseHere_43 (fun r116 w118 H locs hp117 hw => ?_)
      obtain ⟨hT, k119, hv127, hg126⟩ := hp117
      have hF := hF.tr k119 (by decide)
      have c128 := k119.gi kM_at0 (by decide) c109
      have c129 := k119.gi kM_at0 (by decide) c110
      have c130 := k119.gi kM_at0 (by decide) c111
      rcases hg126 with ⟨rfl, ⟨x120, c121, rx120, tx120⟩, g122⟩ | ⟨rfl, ⟨x123, c124, rx123, tx123⟩, g125⟩
      · replace hM := hM.call (r' := 0) hv127 (by decide)
        have ex120 : x120.toInt = x73.toInt := by rw [← c130.symm.trans c121]
        obtain ⟨x131, c132, rx131, tx131⟩ := hT.rdi (lo := 0) (hi := 400) (k := 14) kM_at0 (by decide) rfl
        have g122 : (x131.toInt = x112.toInt ∨ (gi w99 1 (x112.toInt).toNat).toInt = 32) := by have q := g122; simp only [c113, c132] at q; first | with_reducible exact q | omega
        refine lv_if_ne (tgt := 69) hx hb dX12_clauseHere_46 (by decide) (fun c => absurd (by decide) c) (fun _ => ?_)
        replace hM := hM.neg (by decide)
        refine lv_aload_n hx hb dX12_clauseHere_49 rfl (lv_at hl 2 rfl) ?_
        refine lv_ldc2 (v := 495555538548) hx hb hC.2.2.2.1 (hC.2.2.2.2 _ (List.mem_cons_of_mem _ uw_20_2)) dX12_clauseHere_50 ?_
        refine tk_Vi hC hK hw hT hA hE hSR kM_at0 (by decide) rfl (kz_X12_isWord_3 l adK adV dC dI cy ad B hB0 (Int.le_trans hB1 (by decide)) qr s1    w118 H.size hT x131 c132 (show 0 ≤ x131.toInt by first | with_reducible assumption | omega) (show x131.toInt ≤ 400 by first | with_reducible assumption | omega)) (cwV 1 hC.2.2.2.2 uV_RX12_105 rfl rfl rfl (by decide +kernel) ⟨Nat.le_of_ble_eq_true rfl, Nat.le_of_ble_eq_true rfl⟩) rfl hl.1 rfl (Nat.le_of_ble_eq_true rfl) dX12_clauseHere_53 (fun r135 w137 H locs hp136 hw => ?_)
        obtain ⟨hT, k138, hv146, hg145⟩ := hp136
        have hF := hF.tr k138 (by decide)
        have c147 := k138.gi kM_at0 (by decide) c128
        have c148 := k138.gi kM_at0 (by decide) c129
        have c149 := k138.gi kM_at0 (by decide) c130
        rcases hg145 with ⟨rfl, ⟨x139, c140, rx139, tx139⟩, g141⟩ | ⟨rfl, ⟨x142, c143, rx142, tx142⟩, g144⟩
        · replace hM := hM.call (r' := 0) hv146 (by decide)
          have ex139 : x139.toInt = x73.toInt := by rw [← c149.symm.trans c140]
          obtain ⟨x150, c151, rx150, tx150⟩ := hT.rdi (lo := 0) (hi := 400) (k := 14) kM_at0 (by decide) rfl
          have g141 : (x150.toInt = x131.toInt ∨ (gi w118 1 (x131.toInt).toNat).toInt = 32) := by have q := g141; simp only [c132, c151] at q; first | with_reducible exact q | omega
          refine lv_if_ne (tgt := 69) hx hb dX12_clauseHere_56 (by decide) (fun c => absurd (by decide) c) (fun _ => ?_)
          replace hM := hM.neg (by decide)
          refine lv_aload_n hx hb dX12_clauseHere_59 rfl (lv_at hl 2 rfl) ?_
          refine lv_ldc2 (v := 1818846836) hx hb hC.2.2.2.1 (hC.2.2.2.2 _ (List.mem_cons_of_mem _ uw_20_3)) dX12_clauseHere_60 ?_
          refine tk_Vi hC hK hw hT hA hE hSR kM_at0 (by decide) rfl (kz_X12_isWord_4 l adK adV dC dI cy ad B hB0 (Int.le_trans hB1 (by decide)) qr s1    w137 H.size hT x150 c151 (show 0 ≤ x150.toInt by first | with_reducible assumption | omega) (show x150.toInt ≤ 400 by first | with_reducible assumption | omega)) (cwV 1 hC.2.2.2.2 uV_RX12_105 rfl rfl rfl (by decide +kernel) ⟨Nat.le_of_ble_eq_true rfl, Nat.le_of_ble_eq_true rfl⟩) rfl hl.1 rfl (Nat.le_of_ble_eq_true rfl) dX12_clauseHere_63 (fun r154 w156 H locs hp155 hw => ?_)
          obtain ⟨hT, k157, hv165, hg164⟩ := hp155
          have hF := hF.tr k157 (by decide)
          have c166 := k157.gi kM_at0 (by decide) c147
          have c167 := k157.gi kM_at0 (by decide) c148
          have c168 := k157.gi kM_at0 (by decide) c149
          rcases hg164 with ⟨rfl, ⟨x158, c159, rx158, tx158⟩, g160⟩ | ⟨rfl, ⟨x161, c162, rx161, tx161⟩, g163⟩
          · replace hM := hM.call (r' := 0) hv165 (by decide)
            have ex158 : x158.toInt = x73.toInt := by rw [← c168.symm.trans c159]
            obtain ⟨x169, c170, rx169, tx169⟩ := hT.rdi (lo := 0) (hi := 400) (k := 14) kM_at0 (by decide) rfl
            have g160 : (x169.toInt = x150.toInt ∨ (gi w137 1 (x150.toInt).toNat).toInt = 32) := by have q := g160; simp only [c151, c170] at q; first | with_reducible exact q | omega
            refine lv_if_eq (tgt := 73) hx hb dX12_clauseHere_66 (by decide) (fun _ => ?_) (fun c => absurd (by decide) c)
            replace hM := hM.pos (by decide)
            refine lv_iconst (v := 0) hx hb dX12_clauseHere_73 (by decide) ?_
            refine lv_goto (tgt := 89) hx hb dX12_clauseHere_74 (by decide) ?_
            refine lv_istore_n (lv' := [(3, .int 0), (2, .int 1), (1, .int x75), (0, .ref (ad 0))]) hx hb dX12_clauseHere_89 rfl hl (by decide) rfl (fun ls hl => ?_)
            refine lv_iload_n hx hb dX12_clauseHere_90 rfl (lv_at hl 0 rfl) ?_
            refine lv_if_ne (tgt := 101) hx hb dX12_clauseHere_91 (by decide) (fun c => absurd (by decide) c) (fun _ => ?_)
            replace hM := hM.neg (by decide)
            refine lv_aload_n hx hb dX12_clauseHere_94 rfl (lv_at hl 3 rfl) ?_
            refine lv_iconst (v := 0) hx hb dX12_clauseHere_95 (by decide) ?_
            refine lv_iload_n hx hb dX12_clauseHere_96 rfl (lv_at hl 2 rfl) ?_
            refine tk_Vi hC hK hw hT hA hE hSR kM_at0 (by decide) rfl (kz_X12_fails_1 l adK adV dC dI cy ad B hB0 (Int.le_trans hB1 (by decide)) qr s1   0 (by decide) (by decide) x75 (show 0 ≤ x75.toInt by first | with_reducible assumption | omega) (show x75.toInt ≤ 400 by first | with_reducible assumption | omega) w156 H.size hT ) (cwV 2 hC.2.2.2.2 uV_RX12_115 rfl rfl rfl (by decide +kernel) ⟨Nat.le_of_ble_eq_true rfl, Nat.le_of_ble_eq_true rfl⟩) rfl hl.1 rfl (Nat.le_of_ble_eq_true rfl) dX12_clauseHere_97 (fun r173 w175 H locs hp174 hw => ?_)
            obtain ⟨hT, k176, hv180, hg179⟩ := hp174
            try simp only [show (0 : Int32).toInt = 0 by decide] at hv180
            have hF := hF.tr k176 (by decide)
            have c181 := k176.gi kM_at0 (by decide) c166
            have c182 := k176.gi kM_at0 (by decide) c167
            have c183 := k176.gi kM_at0 (by decide) c168
            have c184 := k176.gi kM_at0 (by decide) c170
            obtain ⟨rfl, ⟨x177, c178, rx177, tx177⟩⟩ := hg179
            replace hM := hM.call (r' := 0) hv180 (by decide)
            exact tk_zret hC hr rfl hlocks hK ⟨hT, hF, hM.ret (by decide), (Or.inl ⟨rfl, ⟨x73, c183, (show 1 ≤ x73.toInt by first | with_reducible assumption | omega), (show x73.toInt ≤ 400 by first | with_reducible assumption | omega)⟩, ⟨x177, c178, (show 1 ≤ x177.toInt by first | with_reducible assumption | omega), (show x177.toInt ≤ 3205 by first | with_reducible assumption | omega)⟩, ⟨6, c181, (by decide), (by decide)⟩, ⟨f1_, c182, (show 0 ≤ f1_.toInt from rf1_), (show f1_.toInt ≤ 32 from tf1_)⟩, (by simp only [cf1_, c182]; omega)⟩)⟩ hw dX12_clauseHere_100
          · replace hM := hM.call (r' := 1) hv165 (by decide)
            have ex161 : x161.toInt = x73.toInt := by rw [← c168.symm.trans c162]
            obtain ⟨x171, c172, rx171, tx171⟩ := hT.rdi (lo := 0) (hi := 400) (k := 14) kM_at0 (by decide) rfl
            have g163 : (x171.toInt = x150.toInt ∨ (gi w137 1 (x150.toInt).toNat).toInt = 32) := by have q := g163; simp only [c151, c172] at q; first | with_reducible exact q | omega
            refine lv_if_eq (tgt := 73) hx hb dX12_clauseHere_66 (by decide) (fun c => absurd c (by decide)) (fun _ => ?_)
            replace hM := hM.neg (by decide)
            exact J69 x75 x73 x171 H locs ls w156 (show 0 ≤ x75.toInt by first | with_reducible assumption | omega) (show x75.toInt ≤ 400 by first | with_reducible assumption | omega) (show 0 ≤ x73.toInt by first | with_reducible assumption | omega) (show x73.toInt ≤ 400 by first | with_reducible assumption | omega) (show 0 ≤ x171.toInt by first | with_reducible assumption | omega) (show x171.toInt ≤ 400 by first | with_reducible assumption | omega) (show 0 ≤ f1_.toInt from rf1_) (show f1_.toInt ≤ 32 from tf1_) (show f1_.toInt = f1_.toInt from rfl)  hw hT hF c168 c172 c166 c167 hM (lv_sub hl [2, 1, 0] rfl)
        · replace hM := hM.call (r' := 1) hv146 (by decide)
          have ex142 : x142.toInt = x73.toInt := by rw [← c149.symm.trans c143]
          obtain ⟨x152, c153, rx152, tx152⟩ := hT.rdi (lo := 0) (hi := 400) (k := 14) kM_at0 (by decide) rfl
          have g144 : (x152.toInt = x131.toInt ∨ (gi w118 1 (x131.toInt).toNat).toInt = 32) := by have q := g144; simp only [c132, c153] at q; first | with_reducible exact q | omega
          refine lv_if_ne (tgt := 69) hx hb dX12_clauseHere_56 (by decide) (fun _ => ?_) (fun c => absurd c (by decide))
          replace hM := hM.pos (by decide)
          exact J69 x75 x73 x152 H locs ls w137 (show 0 ≤ x75.toInt by first | with_reducible assumption | omega) (show x75.toInt ≤ 400 by first | with_reducible assumption | omega) (show 0 ≤ x73.toInt by first | with_reducible assumption | omega) (show x73.toInt ≤ 400 by first | with_reducible assumption | omega) (show 0 ≤ x152.toInt by first | with_reducible assumption | omega) (show x152.toInt ≤ 400 by first | with_reducible assumption | omega) (show 0 ≤ f1_.toInt from rf1_) (show f1_.toInt ≤ 32 from tf1_) (show f1_.toInt = f1_.toInt from rfl)  hw hT hF c149 c153 c147 c148 hM (lv_sub hl [2, 1, 0] rfl)
      · replace hM := hM.call (r' := 1) hv127 (by decide)
        have ex123 : x123.toInt = x73.toInt := by rw [← c130.symm.trans c124]
        obtain ⟨x133, c134, rx133, tx133⟩ := hT.rdi (lo := 0) (hi := 400) (k := 14) kM_at0 (by decide) rfl
        have g125 : (x133.toInt = x112.toInt ∨ (gi w99 1 (x112.toInt).toNat).toInt = 32) := by have q := g125; simp only [c113, c134] at q; first | with_reducible exact q | omega
        refine lv_if_ne (tgt := 69) hx hb dX12_clauseHere_46 (by decide) (fun _ => ?_) (fun c => absurd c (by decide))
        replace hM := hM.pos (by decide)
        exact J69 x75 x73 x133 H locs ls w118 (show 0 ≤ x75.toInt by first | with_reducible assumption | omega) (show x75.toInt ≤ 400 by first | with_reducible assumption | omega) (show 0 ≤ x73.toInt by first | with_reducible assumption | omega) (show x73.toInt ≤ 400 by first | with_reducible assumption | omega) (show 0 ≤ x133.toInt by first | with_reducible assumption | omega) (show x133.toInt ≤ 400 by first | with_reducible assumption | omega) (show 0 ≤ f1_.toInt from rf1_) (show f1_.toInt ≤ 32 from tf1_) (show f1_.toInt = f1_.toInt from rfl)  hw hT hF c130 c134 c128 c129 hM (lv_sub hl [2, 1, 0] rfl)
    · replace hM := hM.call (r' := 1) hv108 (by decide)
      have ex104 : x104.toInt = x73.toInt := by rw [← c111.symm.trans c105]
      obtain ⟨x114, c115, rx114, tx114⟩ := hT.rdi (lo := 0) (hi := 400) (k := 14) kM_at0 (by decide) rfl
      have g106 : (x114.toInt = x75.toInt ∨ (gi w69 1 (x75.toInt).toNat).toInt = 32) := by have q := g106; simp only [c76, c115] at q; first | with_reducible exact q | omega
      refine lv_if_ne (tgt := 69) hx hb dX12_clauseHere_36 (by decide) (fun _ => ?_) (fun c => absurd c (by decide))
      replace hM := hM.pos (by decide)
      exact J69 x75 x73 x114 H locs ls w99 (show 0 ≤ x75.toInt by first | with_reducible assumption | omega) (show x75.toInt ≤ 400 by first | with_reducible assumption | omega) (show 0 ≤ x73.toInt by first | with_reducible assumption | omega) (show x73.toInt ≤ 400 by first | with_reducible assumption | omega) (show 0 ≤ x114.toInt by first | with_reducible assumption | omega) (show x114.toInt ≤ 400 by first | with_reducible assumption | omega) (show 0 ≤ f1_.toInt from rf1_) (show f1_.toInt ≤ 32 from tf1_) (show f1_.toInt = f1_.toInt from rfl)  hw hT hF c111 c115 c109 c110 hM (lv_sub hl [2, 1, 0] rfl)
  · replace hM := hM.call (r' := (-1)) hv88 (by decide)
    have g83 : (x81.toInt = x65.toInt ∨ (gi w0 1 (x65.toInt).toNat).toInt = 32) := by have q := g83; simp only [c66, c82] at q; first | with_reducible exact q | omega
    refine lv_pop hx hb dX12_clauseHere_4 rfl ?_
    refine lv_aload_n hx hb dX12_clauseHere_5 rfl (lv_at hl 0 rfl) ?_
    refine tk_geti hC hK hw hT hinX12 kM_at0 (by decide) rfl 14 (by decide) (List.mem_cons_of_mem _ uw_19_18) rfl rfl dX12_clauseHere_6 (fun x185 c186 rx185 tx185 => ?_)
    refine wk_top x81 (c186.symm.trans c82) ?_
    replace hM := hM.rd (sI_at c82)
    refine lv_istore_n (lv' := [(1, .int x81), (0, .ref (ad 0))]) hx hb dX12_clauseHere_9 rfl hl (by decide) rfl (fun ls hl => ?_)
    refine lv_aload_n hx hb dX12_clauseHere_10 rfl (lv_at hl 1 rfl) ?_
    refine tk_geti hC hK hw hT hinX12 kM_at0 (by decide) rfl 17 (by decide) (List.mem_cons_of_mem _ uw_19_7) rfl rfl dX12_clauseHere_11 (fun x187 c188 rx187 tx187 => ?_)
    refine wk_top 6 (c188.symm.trans c89) ?_
    replace hM := hM.rd (v := 6) ((sI_at c89).trans (by decide))
    refine lv_bipush (v := 6) hx hb dX12_clauseHere_14 (by decide) ?_
    refine lv_icmp_ne (tgt := 23) hx hb dX12_clauseHere_16 (by decide) (fun c => absurd (by decide) c) (fun _ => ?_)
    replace hM := hM.neg (by decide)
    refine lv_iconst (v := 1) hx hb dX12_clauseHere_19 (by decide) ?_
    refine lv_goto (tgt := 24) hx hb dX12_clauseHere_20 (by decide) ?_
    refine lv_istore_n (lv' := [(2, .int 1), (1, .int x81), (0, .ref (ad 0))]) hx hb dX12_clauseHere_24 rfl hl (by decide) rfl (fun ls hl => ?_)
    refine lv_iload_n hx hb dX12_clauseHere_25 rfl (lv_at hl 0 rfl) ?_
    refine lv_if_eq (tgt := 77) hx hb dX12_clauseHere_26 (by decide) (fun c => absurd c (by decide)) (fun _ => ?_)
    replace hM := hM.neg (by decide)
    refine lv_aload_n hx hb dX12_clauseHere_29 rfl (lv_at hl 2 rfl) ?_
    refine lv_ldc2 (v := 27988559963452019) hx hb hC.2.2.2.1 (hC.2.2.2.2 _ (List.mem_cons_of_mem _ uw_20_0)) dX12_clauseHere_30 ?_
    refine tk_Vi hC hK hw hT hA hE hSR kM_at0 (by decide) rfl (kz_X12_isWord_1 l adK adV dC dI cy ad B hB0 (Int.le_trans hB1 (by decide)) qr s1    w69 H.size hT x81 c82 (show 0 ≤ x81.toInt by first | with_reducible assumption | omega) (show x81.toInt ≤ 400 by first | with_reducible assumption | omega)) (cwV 1 hC.2.2.2.2 uV_RX12_105 rfl rfl rfl (by decide +kernel) ⟨Nat.le_of_ble_eq_true rfl, Nat.le_of_ble_eq_true rfl⟩) rfl hl.1 rfl (Nat.le_of_ble_eq_true rfl) dX12_clauseHere_33 (fun r189 w191 H locs hp190 hw => ?_)
    obtain ⟨hT, k192, hv200, hg199⟩ := hp190
    have hF := hF.tr k192 (by decide)
    have c201 := k192.gi kM_at0 (by decide) c89
    have c202 := k192.gi kM_at0 (by decide) c90
    have c203 := k192.gi kM_at0 (by decide) c80
    rcases hg199 with ⟨rfl, ⟨x193, c194, rx193, tx193⟩, g195⟩ | ⟨rfl, ⟨x196, c197, rx196, tx196⟩, g198⟩
    · replace hM := hM.call (r' := 0) hv200 (by decide)
      have ex193 : x193.toInt = x79.toInt := by rw [← c203.symm.trans c194]
      obtain ⟨x204, c205, rx204, tx204⟩ := hT.rdi (lo := 0) (hi := 400) (k := 14) kM_at0 (by decide) rfl
      have g195 : (x204.toInt = x81.toInt ∨ (gi w69 1 (x81.toInt).toNat).toInt = 32) := by have q := g195; simp only [c82, c205] at q; first | with_reducible exact q | omega
      refine lv_if_ne (tgt := 69) hx hb dX12_clauseHere_36 (by decide) (fun c => absurd (by decide) c) (fun _ => ?_)
      replace hM := hM.neg (by decide)
      refine lv_aload_n hx hb dX12_clauseHere_39 rfl (lv_at hl 2 rfl) ?_
      refine lv_ldc2 (v := 126943972648308) hx hb hC.2.2.2.1 (hC.2.2.2.2 _ (List.mem_cons_of_mem _ uw_20_1)) dX12_clauseHere_40 ?_
      refine tk_Vi hC hK hw hT hA hE hSR kM_at0 (by decide) rfl (kz_X12_isWord_2 l adK adV dC dI cy ad B hB0 (Int.le_trans hB1 (by decide)) qr s1    w191 H.size hT x204 c205 (show 0 ≤ x204.toInt by first | with_reducible assumption | omega) (show x204.toInt ≤ 400 by first | with_reducible assumption | omega)) (cwV 1 hC.2.2.2.2 uV_RX12_105 rfl rfl rfl (by decide +kernel) ⟨Nat.le_of_ble_eq_true rfl, Nat.le_of_ble_eq_true rfl⟩) rfl hl.1 rfl (Nat.le_of_ble_eq_true rfl) dX12_clauseHere_43 (fun r208 w210 H locs hp209 hw => ?_)
      obtain ⟨hT, k211, hv219, hg218⟩ := hp209
      have hF := hF.tr k211 (by decide)
      have c220 := k211.gi kM_at0 (by decide) c201
      have c221 := k211.gi kM_at0 (by decide) c202
      have c222 := k211.gi kM_at0 (by decide) c203
      rcases hg218 with ⟨rfl, ⟨x212, c213, rx212, tx212⟩, g214⟩ | ⟨rfl, ⟨x215, c216, rx215, tx215⟩, g217⟩
      · replace hM := hM.call (r' := 0) hv219 (by decide)
        have ex212 : x212.toInt = x79.toInt := by rw [← c222.symm.trans c213]
        obtain ⟨x223, c224, rx223, tx223⟩ := hT.rdi (lo := 0) (hi := 400) (k := 14) kM_at0 (by decide) rfl
        have g214 : (x223.toInt = x204.toInt ∨ (gi w191 1 (x204.toInt).toNat).toInt = 32) := by have q := g214; simp only [c205, c224] at q; first | with_reducible exact q | omega
        refine lv_if_ne (tgt := 69) hx hb dX12_clauseHere_46 (by decide) (fun c => absurd (by decide) c) (fun _ => ?_)
        replace hM := hM.neg (by decide)
        refine lv_aload_n hx hb dX12_clauseHere_49 rfl (lv_at hl 2 rfl) ?_
        refine lv_ldc2 (v := 495555538548) hx hb hC.2.2.2.1 (hC.2.2.2.2 _ (List.mem_cons_of_mem _ uw_20_2)) dX12_clauseHere_50 ?_
        refine tk_Vi hC hK hw hT hA hE hSR kM_at0 (by decide) rfl (kz_X12_isWord_3 l adK adV dC dI cy ad B hB0 (Int.le_trans hB1 (by decide)) qr s1    w210 H.size hT x223 c224 (show 0 ≤ x223.toInt by first | with_reducible assumption | omega) (show x223.toInt ≤ 400 by first | with_reducible assumption | omega)) (cwV 1 hC.2.2.2.2 uV_RX12_105 rfl rfl rfl (by decide +kernel) ⟨Nat.le_of_ble_eq_true rfl, Nat.le_of_ble_eq_true rfl⟩) rfl hl.1 rfl (Nat.le_of_ble_eq_true rfl) dX12_clauseHere_53 (fun r227 w229 H locs hp228 hw => ?_)
        obtain ⟨hT, k230, hv238, hg237⟩ := hp228
        have hF := hF.tr k230 (by decide)
        have c239 := k230.gi kM_at0 (by decide) c220
        have c240 := k230.gi kM_at0 (by decide) c221
        have c241 := k230.gi kM_at0 (by decide) c222
        rcases hg237 with ⟨rfl, ⟨x231, c232, rx231, tx231⟩, g233⟩ | ⟨rfl, ⟨x234, c235, rx234, tx234⟩, g236⟩
        · replace hM := hM.call (r' := 0) hv238 (by decide)
          have ex231 : x231.toInt = x79.toInt := by rw [← c241.symm.trans c232]
          obtain ⟨x242, c243, rx242, tx242⟩ := hT.rdi (lo := 0) (hi := 400) (k := 14) kM_at0 (by decide) rfl
          have g233 : (x242.toInt = x223.toInt ∨ (gi w210 1 (x223.toInt).toNat).toInt = 32) := by have q := g233; simp only [c224, c243] at q; first | with_reducible exact q | omega
          refine lv_if_ne (tgt := 69) hx hb dX12_clauseHere_56 (by decide) (fun c => absurd (by decide) c) (fun _ => ?_)
          replace hM := hM.neg (by decide)
          refine lv_aload_n hx hb dX12_clauseHere_59 rfl (lv_at hl 2 rfl) ?_
          refine lv_ldc2 (v := 1818846836) hx hb hC.2.2.2.1 (hC.2.2.2.2 _ (List.mem_cons_of_mem _ uw_20_3)) dX12_clauseHere_60 ?_
          refine tk_Vi hC hK hw hT hA hE hSR kM_at0 (by decide) rfl (kz_X12_isWord_4 l adK adV dC dI cy ad B hB0 (Int.le_trans hB1 (by decide)) qr s1    w229 H.size hT x242 c243 (show 0 ≤ x242.toInt by first | with_reducible assumption | omega) (show x242.toInt ≤ 400 by first | with_reducible assumption | omega)) (cwV 1 hC.2.2.2.2 uV_RX12_105 rfl rfl rfl (by decide +kernel) ⟨Nat.le_of_ble_eq_true rfl, Nat.le_of_ble_eq_true rfl⟩) rfl hl.1 rfl (Nat.le_of_ble_eq_true rfl) dX12_clauseHere_63 (fun r246 w248 H locs hp247 hw => ?_)
          obtain ⟨hT, k249, hv257, hg256⟩ := hp247
          have hF := hF.tr k249 (by decide)
          have c258 := k249.gi kM_at0 (by decide) c239
          have c259 := k249.gi kM_at0 (by decide) c240
          have c260 := k249.gi kM_at0 (by decide) c241
          rcases hg256 with ⟨rfl, ⟨x250, c251, rx250, tx250⟩, g252⟩ | ⟨rfl, ⟨x253, c254, rx253, tx253⟩, g255⟩
          · replace hM := hM.call (r' := 0) hv257 (by decide)
            have ex250 : x250.toInt = x79.toInt := by rw [← c260.symm.trans c251]
            obtain ⟨x261, c262, rx261, tx261⟩ := hT.rdi (lo := 0) (hi := 400) (k := 14) kM_at0 (by decide) rfl
            have g252 : (x261.toInt = x242.toInt ∨ (gi w229 1 (x242.toInt).toNat).toInt = 32) := by have q := g252; simp only [c243, c262] at q; first | with_reducible exact q | omega
            refine lv_if_eq (tgt := 73) hx hb dX12_clauseHere_66 (by decide) (fun _ => ?_) (fun c => absurd (by decide) c)
            replace hM := hM.pos (by decide)
            refine lv_iconst (v := 0) hx hb dX12_clauseHere_73 (by decide) ?_
            refine lv_goto (tgt := 89) hx hb dX12_clauseHere_74 (by decide) ?_
            refine lv_istore_n (lv' := [(3, .int 0), (2, .int 1), (1, .int x81), (0, .ref (ad 0))]) hx hb dX12_clauseHere_89 rfl hl (by decide) rfl (fun ls hl => ?_)
            refine lv_iload_n hx hb dX12_clauseHere_90 rfl (lv_at hl 0 rfl) ?_
            refine lv_if_ne (tgt := 101) hx hb dX12_clauseHere_91 (by decide) (fun c => absurd (by decide) c) (fun _ => ?_)
            replace hM := hM.neg (by decide)
            refine lv_aload_n hx hb dX12_clauseHere_94 rfl (lv_at hl 3 rfl) ?_
            refine lv_iconst (v := 0) hx hb dX12_clauseHere_95 (by decide) ?_
            refine lv_iload_n hx hb dX12_clauseHere_96 rfl (lv_at hl 2 rfl) ?_
            refine tk_Vi hC hK hw hT hA hE hSR kM_at0 (by decide) rfl (kz_X12_fails_1 l adK adV dC dI cy ad B hB0 (Int.le_trans hB1 (by decide)) qr s1   0 (by decide) (by decide) x81 (show 0 ≤ x81.toInt by first | with_reducible assumption | omega) (show x81.toInt ≤ 400 by first | with_reducible assumption | omega) w248 H.size hT ) (cwV 2 hC.2.2.2.2 uV_RX12_115 rfl rfl rfl (by decide +kernel) ⟨Nat.le_of_ble_eq_true rfl, Nat.le_of_ble_eq_true rfl⟩) rfl hl.1 rfl (Nat.le_of_ble_eq_true rfl) dX12_clauseHere_97 (fun r265 w267 H locs hp266 hw => ?_)
            obtain ⟨hT, k268, hv272, hg271⟩ := hp266
            try simp only [show (0 : Int32).toInt = 0 by decide] at hv272
            have hF := hF.tr k268 (by decide)
            have c273 := k268.gi kM_at0 (by decide) c258
            have c274 := k268.gi kM_at0 (by decide) c259
            have c275 := k268.gi kM_at0 (by decide) c260
            have c276 := k268.gi kM_at0 (by decide) c262
            obtain ⟨rfl, ⟨x269, c270, rx269, tx269⟩⟩ := hg271
            replace hM := hM.call (r' := 0) hv272 (by decide)
            exact tk_zret hC hr rfl hlocks hK ⟨hT, hF, hM.ret (by decide), (Or.inl ⟨rfl, ⟨x79, c275, (show 1 ≤ x79.toInt by first | with_reducible assumption | omega), (show x79.toInt ≤ 400 by first | with_reducible assumption | omega)⟩, ⟨x269, c270, (show 1 ≤ x269.toInt by first | with_reducible assumption | omega), (show x269.toInt ≤ 3205 by first | with_reducible assumption | omega)⟩, ⟨6, c273, (by decide), (by decide)⟩, ⟨f1_, c274, (show 0 ≤ f1_.toInt from rf1_), (show f1_.toInt ≤ 32 from tf1_)⟩, (by simp only [cf1_, c274]; omega)⟩)⟩ hw dX12_clauseHere_100
          · replace hM := hM.call (r' := 1) hv257 (by decide)
            have ex253 : x253.toInt = x79.toInt := by rw [← c260.symm.trans c254]
            obtain ⟨x263, c264, rx263, tx263⟩ := hT.rdi (lo := 0) (hi := 400) (k := 14) kM_at0 (by decide) rfl
            have g255 : (x263.toInt = x242.toInt ∨ (gi w229 1 (x242.toInt).toNat).toInt = 32) := by have q := g255; simp only [c243, c264] at q; first | with_reducible exact q | omega
            refine lv_if_eq (tgt := 73) hx hb dX12_clauseHere_66 (by decide) (fun c => absurd c (by decide)) (fun _ => ?_)
            replace hM := hM.neg (by decide)
            exact J69 x81 x79 x263 H locs ls w248 (show 0 ≤ x81.toInt by first | with_reducible assumption | omega) (show x81.toInt ≤ 400 by first | with_reducible assumption | omega) (show 0 ≤ x79.toInt by first | with_reducible assumption | omega) (show x79.toInt ≤ 400 by first | with_reducible assumption | omega) (show 0 ≤ x263.toInt by first | with_reducible assumption | omega) (show x263.toInt ≤ 400 by first | with_reducible assumption | omega) (show 0 ≤ f1_.toInt from rf1_) (show f1_.toInt ≤ 32 from tf1_) (show f1_.toInt = f1_.toInt from rfl)  hw hT hF c260 c264 c258 c259 hM (lv_sub hl [2, 1, 0] rfl)
        · replace hM := hM.call (r' := 1) hv238 (by decide)
          have ex234 : x234.toInt = x79.toInt := by rw [← c241.symm.trans c235]
          obtain ⟨x244, c245, rx244, tx244⟩ := hT.rdi (lo := 0) (hi := 400) (k := 14) kM_at0 (by decide) rfl
          have g236 : (x244.toInt = x223.toInt ∨ (gi w210 1 (x223.toInt).toNat).toInt = 32) := by have q := g236; simp only [c224, c245] at q; first | with_reducible exact q | omega
          refine lv_if_ne (tgt := 69) hx hb dX12_clauseHere_56 (by decide) (fun _ => ?_) (fun c => absurd c (by decide))
          replace hM := hM.pos (by decide)
          exact J69 x81 x79 x244 H locs ls w229 (show 0 ≤ x81.toInt by first | with_reducible assumption | omega) (show x81.toInt ≤ 400 by first | with_reducible assumption | omega) (show 0 ≤ x79.toInt by first | with_reducible assumption | omega) (show x79.toInt ≤ 400 by first | with_reducible assumption | omega) (show 0 ≤ x244.toInt by first | with_reducible assumption | omega) (show x244.toInt ≤ 400 by first | with_reducible assumption | omega) (show 0 ≤ f1_.toInt from rf1_) (show f1_.toInt ≤ 32 from tf1_) (show f1_.toInt = f1_.toInt from rfl)  hw hT hF c241 c245 c239 c240 hM (lv_sub hl [2, 1, 0] rfl)
      · replace hM := hM.call (r' := 1) hv219 (by decide)
        have ex215 : x215.toInt = x79.toInt := by rw [← c222.symm.trans c216]
        obtain ⟨x225, c226, rx225, tx225⟩ := hT.rdi (lo := 0) (hi := 400) (k := 14) kM_at0 (by decide) rfl
        have g217 : (x225.toInt = x204.toInt ∨ (gi w191 1 (x204.toInt).toNat).toInt = 32) := by have q := g217; simp only [c205, c226] at q; first | with_reducible exact q | omega
        refine lv_if_ne (tgt := 69) hx hb dX12_clauseHere_46 (by decide) (fun _ => ?_) (fun c => absurd c (by decide))
        replace hM := hM.pos (by decide)
        exact J69 x81 x79 x225 H locs ls w210 (show 0 ≤ x81.toInt by first | with_reducible assumption | omega) (show x81.toInt ≤ 400 by first | with_reducible assumption | omega) (show 0 ≤ x79.toInt by first | with_reducible assumption | omega) (show x79.toInt ≤ 400 by first | with_reducible assumption | omega) (show 0 ≤ x225.toInt by first | with_reducible assumption | omega) (show x225.toInt ≤ 400 by first | with_reducible assumption | omega) (show 0 ≤ f1_.toInt from rf1_) (show f1_.toInt ≤ 32 from tf1_) (show f1_.toInt = f1_.toInt from rfl)  hw hT hF c222 c226 c220 c221 hM (lv_sub hl [2, 1, 0] rfl)
    · replace hM := hM.call (r' := 1) hv200 (by decide)
      have ex196 : x196.toInt = x79.toInt := by rw [← c203.symm.trans c197]
      obtain ⟨x206, c207, rx206, tx206⟩ := hT.rdi (lo := 0) (hi := 400) (k := 14) kM_at0 (by decide) rfl
      have g198 : (x206.toInt = x81.toInt ∨ (gi w69 1 (x81.toInt).toNat).toInt = 32) := by have q := g198; simp only [c82, c207] at q; first | with_reducible exact q | omega
      refine lv_if_ne (tgt := 69) hx hb dX12_clauseHere_36 (by decide) (fun _ => ?_) (fun c => absurd c (by decide))
      replace hM := hM.pos (by decide)
      exact J69 x81 x79 x206 H locs ls w191 (show 0 ≤ x81.toInt by first | with_reducible assumption | omega) (show x81.toInt ≤ 400 by first | with_reducible assumption | omega) (show 0 ≤ x79.toInt by first | with_reducible assumption | omega) (show x79.toInt ≤ 400 by first | with_reducible assumption | omega) (show 0 ≤ x206.toInt by first | with_reducible assumption | omega) (show x206.toInt ≤ 400 by first | with_reducible assumption | omega) (show 0 ≤ f1_.toInt from rf1_) (show f1_.toInt ≤ 32 from tf1_) (show f1_.toInt = f1_.toInt from rfl)  hw hT hF c203 c207 c201 c202 hM (lv_sub hl [2, 1, 0] rfl)
  · replace hM := hM.call (r' := (-1)) hv88 (by decide)
    obtain ⟨x91, c92, rx91, tx91⟩ := hT.rdi (lo := 0) (hi := 400) (k := 14) kM_at0 (by decide) rfl
    have g86 : (x91.toInt = x65.toInt ∨ (gi w0 1 (x65.toInt).toNat).toInt = 32) := by have q := g86; simp only [c66, c92] at q; first | with_reducible exact q | omega
    refine lv_pop hx hb dX12_clauseHere_4 rfl ?_
    refine lv_aload_n hx hb dX12_clauseHere_5 rfl (lv_at hl 0 rfl) ?_
    refine tk_geti hC hK hw hT hinX12 kM_at0 (by decide) rfl 14 (by decide) (List.mem_cons_of_mem _ uw_19_18) rfl rfl dX12_clauseHere_6 (fun x277 c278 rx277 tx277 => ?_)
    refine wk_top x91 (c278.symm.trans c92) ?_
    replace hM := hM.rd (sI_at c92)
    refine lv_istore_n (lv' := [(1, .int x91), (0, .ref (ad 0))]) hx hb dX12_clauseHere_9 rfl hl (by decide) rfl (fun ls hl => ?_)
    refine lv_aload_n hx hb dX12_clauseHere_10 rfl (lv_at hl 1 rfl) ?_
    refine tk_geti hC hK hw hT hinX12 kM_at0 (by decide) rfl 17 (by decide) (List.mem_cons_of_mem _ uw_19_7) rfl rfl dX12_clauseHere_11 (fun x279 c280 rx279 tx279 => ?_)
    refine wk_top 6 (c280.symm.trans c89) ?_
    replace hM := hM.rd (v := 6) ((sI_at c89).trans (by decide))
    refine lv_bipush (v := 6) hx hb dX12_clauseHere_14 (by decide) ?_
    refine lv_icmp_ne (tgt := 23) hx hb dX12_clauseHere_16 (by decide) (fun c => absurd (by decide) c) (fun _ => ?_)
    replace hM := hM.neg (by decide)
    refine lv_iconst (v := 1) hx hb dX12_clauseHere_19 (by decide) ?_
    refine lv_goto (tgt := 24) hx hb dX12_clauseHere_20 (by decide) ?_
    refine lv_istore_n (lv' := [(2, .int 1), (1, .int x91), (0, .ref (ad 0))]) hx hb dX12_clauseHere_24 rfl hl (by decide) rfl (fun ls hl => ?_)
    refine lv_iload_n hx hb dX12_clauseHere_25 rfl (lv_at hl 0 rfl) ?_
    refine lv_if_eq (tgt := 77) hx hb dX12_clauseHere_26 (by decide) (fun c => absurd c (by decide)) (fun _ => ?_)
    replace hM := hM.neg (by decide)
    refine lv_aload_n hx hb dX12_clauseHere_29 rfl (lv_at hl 2 rfl) ?_
    refine lv_ldc2 (v := 27988559963452019) hx hb hC.2.2.2.1 (hC.2.2.2.2 _ (List.mem_cons_of_mem _ uw_20_0)) dX12_clauseHere_30 ?_
    refine tk_Vi hC hK hw hT hA hE hSR kM_at0 (by decide) rfl (kz_X12_isWord_1 l adK adV dC dI cy ad B hB0 (Int.le_trans hB1 (by decide)) qr s1    w69 H.size hT x91 c92 (show 0 ≤ x91.toInt by first | with_reducible assumption | omega) (show x91.toInt ≤ 400 by first | with_reducible assumption | omega)) (cwV 1 hC.2.2.2.2 uV_RX12_105 rfl rfl rfl (by decide +kernel) ⟨Nat.le_of_ble_eq_true rfl, Nat.le_of_ble_eq_true rfl⟩) rfl hl.1 rfl (Nat.le_of_ble_eq_true rfl) dX12_clauseHere_33 (fun r281 w283 H locs hp282 hw => ?_)
    obtain ⟨hT, k284, hv292, hg291⟩ := hp282
    have hF := hF.tr k284 (by decide)
    have c293 := k284.gi kM_at0 (by decide) c89
    have c294 := k284.gi kM_at0 (by decide) c90
    have c295 := k284.gi kM_at0 (by decide) c85
    rcases hg291 with ⟨rfl, ⟨x285, c286, rx285, tx285⟩, g287⟩ | ⟨rfl, ⟨x288, c289, rx288, tx288⟩, g290⟩
    · replace hM := hM.call (r' := 0) hv292 (by decide)
      have ex285 : x285.toInt = x84.toInt := by rw [← c295.symm.trans c286]
      obtain ⟨x296, c297, rx296, tx296⟩ := hT.rdi (lo := 0) (hi := 400) (k := 14) kM_at0 (by decide) rfl
      have g287 : (x296.toInt = x91.toInt ∨ (gi w69 1 (x91.toInt).toNat).toInt = 32) := by have q := g287; simp only [c92, c297] at q; first | with_reducible exact q | omega
      refine lv_if_ne (tgt := 69) hx hb dX12_clauseHere_36 (by decide) (fun c => absurd (by decide) c) (fun _ => ?_)
      replace hM := hM.neg (by decide)
      refine lv_aload_n hx hb dX12_clauseHere_39 rfl (lv_at hl 2 rfl) ?_
      refine lv_ldc2 (v := 126943972648308) hx hb hC.2.2.2.1 (hC.2.2.2.2 _ (List.mem_cons_of_mem _ uw_20_1)) dX12_clauseHere_40 ?_
      refine tk_Vi hC hK hw hT hA hE hSR kM_at0 (by decide) rfl (kz_X12_isWord_2 l adK adV dC dI cy ad B hB0 (Int.le_trans hB1 (by decide)) qr s1    w283 H.size hT x296 c297 (show 0 ≤ x296.toInt by first | with_reducible assumption | omega) (show x296.toInt ≤ 400 by first | with_reducible assumption | omega)) (cwV 1 hC.2.2.2.2 uV_RX12_105 rfl rfl rfl (by decide +kernel) ⟨Nat.le_of_ble_eq_true rfl, Nat.le_of_ble_eq_true rfl⟩) rfl hl.1 rfl (Nat.le_of_ble_eq_true rfl) dX12_clauseHere_43 (fun r300 w302 H locs hp301 hw => ?_)
      obtain ⟨hT, k303, hv311, hg310⟩ := hp301
      have hF := hF.tr k303 (by decide)
      have c312 := k303.gi kM_at0 (by decide) c293
      have c313 := k303.gi kM_at0 (by decide) c294
      have c314 := k303.gi kM_at0 (by decide) c295
      rcases hg310 with ⟨rfl, ⟨x304, c305, rx304, tx304⟩, g306⟩ | ⟨rfl, ⟨x307, c308, rx307, tx307⟩, g309⟩
      · replace hM := hM.call (r' := 0) hv311 (by decide)
        have ex304 : x304.toInt = x84.toInt := by rw [← c314.symm.trans c305]
        obtain ⟨x315, c316, rx315, tx315⟩ := hT.rdi (lo := 0) (hi := 400) (k := 14) kM_at0 (by decide) rfl
        have g306 : (x315.toInt = x296.toInt ∨ (gi w283 1 (x296.toInt).toNat).toInt = 32) := by have q := g306; simp only [c297, c316] at q; first | with_reducible exact q | omega
        refine lv_if_ne (tgt := 69) hx hb dX12_clauseHere_46 (by decide) (fun c => absurd (by decide) c) (fun _ => ?_)
        replace hM := hM.neg (by decide)
        refine lv_aload_n hx hb dX12_clauseHere_49 rfl (lv_at hl 2 rfl) ?_
        refine lv_ldc2 (v := 495555538548) hx hb hC.2.2.2.1 (hC.2.2.2.2 _ (List.mem_cons_of_mem _ uw_20_2)) dX12_clauseHere_50 ?_
        refine tk_Vi hC hK hw hT hA hE hSR kM_at0 (by decide) rfl (kz_X12_isWord_3 l adK adV dC dI cy ad B hB0 (Int.le_trans hB1 (by decide)) qr s1    w302 H.size hT x315 c316 (show 0 ≤ x315.toInt by first | with_reducible assumption | omega) (show x315.toInt ≤ 400 by first | with_reducible assumption | omega)) (cwV 1 hC.2.2.2.2 uV_RX12_105 rfl rfl rfl (by decide +kernel) ⟨Nat.le_of_ble_eq_true rfl, Nat.le_of_ble_eq_true rfl⟩) rfl hl.1 rfl (Nat.le_of_ble_eq_true rfl) dX12_clauseHere_53 (fun r319 w321 H locs hp320 hw => ?_)
        obtain ⟨hT, k322, hv330, hg329⟩ := hp320
        have hF := hF.tr k322 (by decide)
        have c331 := k322.gi kM_at0 (by decide) c312
        have c332 := k322.gi kM_at0 (by decide) c313
        have c333 := k322.gi kM_at0 (by decide) c314
        rcases hg329 with ⟨rfl, ⟨x323, c324, rx323, tx323⟩, g325⟩ | ⟨rfl, ⟨x326, c327, rx326, tx326⟩, g328⟩
        · replace hM := hM.call (r' := 0) hv330 (by decide)
          have ex323 : x323.toInt = x84.toInt := by rw [← c333.symm.trans c324]
          obtain ⟨x334, c335, rx334, tx334⟩ := hT.rdi (lo := 0) (hi := 400) (k := 14) kM_at0 (by decide) rfl
          have g325 : (x334.toInt = x315.toInt ∨ (gi w302 1 (x315.toInt).toNat).toInt = 32) := by have q := g325; simp only [c316, c335] at q; first | with_reducible exact q | omega
          refine lv_if_ne (tgt := 69) hx hb dX12_clauseHere_56 (by decide) (fun c => absurd (by decide) c) (fun _ => ?_)
          replace hM := hM.neg (by decide)
          refine lv_aload_n hx hb dX12_clauseHere_59 rfl (lv_at hl 2 rfl) ?_
          refine lv_ldc2 (v := 1818846836) hx hb hC.2.2.2.1 (hC.2.2.2.2 _ (List.mem_cons_of_mem _ uw_20_3)) dX12_clauseHere_60 ?_
          refine tk_Vi hC hK hw hT hA hE hSR kM_at0 (by decide) rfl (kz_X12_isWord_4 l adK adV dC dI cy ad B hB0 (Int.le_trans hB1 (by decide)) qr s1    w321 H.size hT x334 c335 (show 0 ≤ x334.toInt by first | with_reducible assumption | omega) (show x334.toInt ≤ 400 by first | with_reducible assumption | omega)) (cwV 1 hC.2.2.2.2 uV_RX12_105 rfl rfl rfl (by decide +kernel) ⟨Nat.le_of_ble_eq_true rfl, Nat.le_of_ble_eq_true rfl⟩) rfl hl.1 rfl (Nat.le_of_ble_eq_true rfl) dX12_clauseHere_63 (fun r338 w340 H locs hp339 hw => ?_)
          obtain ⟨hT, k341, hv349, hg348⟩ := hp339
          have hF := hF.tr k341 (by decide)
          have c350 := k341.gi kM_at0 (by decide) c331
          have c351 := k341.gi kM_at0 (by decide) c332
          have c352 := k341.gi kM_at0 (by decide) c333
          rcases hg348 with ⟨rfl, ⟨x342, c343, rx342, tx342⟩, g344⟩ | ⟨rfl, ⟨x345, c346, rx345, tx345⟩, g347⟩
          · replace hM := hM.call (r' := 0) hv349 (by decide)
            have ex342 : x342.toInt = x84.toInt := by rw [← c352.symm.trans c343]
            obtain ⟨x353, c354, rx353, tx353⟩ := hT.rdi (lo := 0) (hi := 400) (k := 14) kM_at0 (by decide) rfl
            have g344 : (x353.toInt = x334.toInt ∨ (gi w321 1 (x334.toInt).toNat).toInt = 32) := by have q := g344; simp only [c335, c354] at q; first | with_reducible exact q | omega
            refine lv_if_eq (tgt := 73) hx hb dX12_clauseHere_66 (by decide) (fun _ => ?_) (fun c => absurd (by decide) c)
            replace hM := hM.pos (by decide)
            refine lv_iconst (v := 0) hx hb dX12_clauseHere_73 (by decide) ?_
            refine lv_goto (tgt := 89) hx hb dX12_clauseHere_74 (by decide) ?_
            refine lv_istore_n (lv' := [(3, .int 0), (2, .int 1), (1, .int x91), (0, .ref (ad 0))]) hx hb dX12_clauseHere_89 rfl hl (by decide) rfl (fun ls hl => ?_)
            refine lv_iload_n hx hb dX12_clauseHere_90 rfl (lv_at hl 0 rfl) ?_
            refine lv_if_ne (tgt := 101) hx hb dX12_clauseHere_91 (by decide) (fun c => absurd (by decide) c) (fun _ => ?_)
            replace hM := hM.neg (by decide)
            refine lv_aload_n hx hb dX12_clauseHere_94 rfl (lv_at hl 3 rfl) ?_
            refine lv_iconst (v := 0) hx hb dX12_clauseHere_95 (by decide) ?_
            refine lv_iload_n hx hb dX12_clauseHere_96 rfl (lv_at hl 2 rfl) ?_
            refine tk_Vi hC hK hw hT hA hE hSR kM_at0 (by decide) rfl (kz_X12_fails_1 l adK adV dC dI cy ad B hB0 (Int.le_trans hB1 (by decide)) qr s1   0 (by decide) (by decide) x91 (show 0 ≤ x91.toInt by first | with_reducible assumption | omega) (show x91.toInt ≤ 400 by first | with_reducible assumption | omega) w340 H.size hT ) (cwV 2 hC.2.2.2.2 uV_RX12_115 rfl rfl rfl (by decide +kernel) ⟨Nat.le_of_ble_eq_true rfl, Nat.le_of_ble_eq_true rfl⟩) rfl hl.1 rfl (Nat.le_of_ble_eq_true rfl) dX12_clauseHere_97 (fun r357 w359 H locs hp358 hw => ?_)
            obtain ⟨hT, k360, hv364, hg363⟩ := hp358
            try simp only [show (0 : Int32).toInt = 0 by decide] at hv364
            have hF := hF.tr k360 (by decide)
            have c365 := k360.gi kM_at0 (by decide) c350
            have c366 := k360.gi kM_at0 (by decide) c351
            have c367 := k360.gi kM_at0 (by decide) c352
            have c368 := k360.gi kM_at0 (by decide) c354
            obtain ⟨rfl, ⟨x361, c362, rx361, tx361⟩⟩ := hg363
            replace hM := hM.call (r' := 0) hv364 (by decide)
            exact tk_zret hC hr rfl hlocks hK ⟨hT, hF, hM.ret (by decide), (Or.inr (Or.inl ⟨rfl, ⟨x84, c367, (show 0 ≤ x84.toInt by first | with_reducible assumption | omega), (show x84.toInt ≤ 400 by first | with_reducible assumption | omega)⟩, ⟨x361, c362, (show 1 ≤ x361.toInt by first | with_reducible assumption | omega), (show x361.toInt ≤ 3205 by first | with_reducible assumption | omega)⟩, ⟨6, c365, (by decide), (by decide)⟩, ⟨f1_, c366, (show 0 ≤ f1_.toInt from rf1_), (show f1_.toInt ≤ 32 from tf1_)⟩, (by simp only [cf1_, c366]; omega)⟩))⟩ hw dX12_clauseHere_100
          · replace hM := hM.call (r' := 1) hv349 (by decide)
            have ex345 : x345.toInt = x84.toInt := by rw [← c352.symm.trans c346]
            obtain ⟨x355, c356, rx355, tx355⟩ := hT.rdi (lo := 0) (hi := 400) (k := 14) kM_at0 (by decide) rfl
            have g347 : (x355.toInt = x334.toInt ∨ (gi w321 1 (x334.toInt).toNat).toInt = 32) := by have q := g347; simp only [c335, c356] at q; first | with_reducible exact q | omega
            refine lv_if_eq (tgt := 73) hx hb dX12_clauseHere_66 (by decide) (fun c => absurd c (by decide)) (fun _ => ?_)
            replace hM := hM.neg (by decide)
            exact J69 x91 x84 x355 H locs ls w340 (show 0 ≤ x91.toInt by first | with_reducible assumption | omega) (show x91.toInt ≤ 400 by first | with_reducible assumption | omega) (show 0 ≤ x84.toInt by first | with_reducible assumption | omega) (show x84.toInt ≤ 400 by first | with_reducible assumption | omega) (show 0 ≤ x355.toInt by first | with_reducible assumption | omega) (show x355.toInt ≤ 400 by first | with_reducible assumption | omega) (show 0 ≤ f1_.toInt from rf1_) (show f1_.toInt ≤ 32 from tf1_) (show f1_.toInt = f1_.toInt from rfl)  hw hT hF c352 c356 c350 c351 hM (lv_sub hl [2, 1, 0] rfl)
        · replace hM := hM.call (r' := 1) hv330 (by decide)
          have ex326 : x326.toInt = x84.toInt := by rw [← c333.symm.trans c327]
          obtain ⟨x336, c337, rx336, tx336⟩ := hT.rdi (lo := 0) (hi := 400) (k := 14) kM_at0 (by decide) rfl
          have g328 : (x336.toInt = x315.toInt ∨ (gi w302 1 (x315.toInt).toNat).toInt = 32) := by have q := g328; simp only [c316, c337] at q; first | with_reducible exact q | omega
          refine lv_if_ne (tgt := 69) hx hb dX12_clauseHere_56 (by decide) (fun _ => ?_) (fun c => absurd c (by decide))
          replace hM := hM.pos (by decide)
          exact J69 x91 x84 x336 H locs ls w321 (show 0 ≤ x91.toInt by first | with_reducible assumption | omega) (show x91.toInt ≤ 400 by first | with_reducible assumption | omega) (show 0 ≤ x84.toInt by first | with_reducible assumption | omega) (show x84.toInt ≤ 400 by first | with_reducible assumption | omega) (show 0 ≤ x336.toInt by first | with_reducible assumption | omega) (show x336.toInt ≤ 400 by first | with_reducible assumption | omega) (show 0 ≤ f1_.toInt from rf1_) (show f1_.toInt ≤ 32 from tf1_) (show f1_.toInt = f1_.toInt from rfl)  hw hT hF c333 c337 c331 c332 hM (lv_sub hl [2, 1, 0] rfl)
      · replace hM := hM.call (r' := 1) hv311 (by decide)
        have ex307 : x307.toInt = x84.toInt := by rw [← c314.symm.trans c308]
        obtain ⟨x317, c318, rx317, tx317⟩ := hT.rdi (lo := 0) (hi := 400) (k := 14) kM_at0 (by decide) rfl
        have g309 : (x317.toInt = x296.toInt ∨ (gi w283 1 (x296.toInt).toNat).toInt = 32) := by have q := g309; simp only [c297, c318] at q; first | with_reducible exact q | omega
        refine lv_if_ne (tgt := 69) hx hb dX12_clauseHere_46 (by decide) (fun _ => ?_) (fun c => absurd c (by decide))
        replace hM := hM.pos (by decide)
        exact J69 x91 x84 x317 H locs ls w302 (show 0 ≤ x91.toInt by first | with_reducible assumption | omega) (show x91.toInt ≤ 400 by first | with_reducible assumption | omega) (show 0 ≤ x84.toInt by first | with_reducible assumption | omega) (show x84.toInt ≤ 400 by first | with_reducible assumption | omega) (show 0 ≤ x317.toInt by first | with_reducible assumption | omega) (show x317.toInt ≤ 400 by first | with_reducible assumption | omega) (show 0 ≤ f1_.toInt from rf1_) (show f1_.toInt ≤ 32 from tf1_) (show f1_.toInt = f1_.toInt from rfl)  hw hT hF c314 c318 c312 c313 hM (lv_sub hl [2, 1, 0] rfl)
    · replace hM := hM.call (r' := 1) hv292 (by decide)
      have ex288 : x288.toInt = x84.toInt := by rw [← c295.symm.trans c289]
      obtain ⟨x298, c299, rx298, tx298⟩ := hT.rdi (lo := 0) (hi := 400) (k := 14) kM_at0 (by decide) rfl
      have g290 : (x298.toInt = x91.toInt ∨ (gi w69 1 (x91.toInt).toNat).toInt = 32) := by have q := g290; simp only [c92, c299] at q; first | with_reducible exact q | omega
      refine lv_if_ne (tgt := 69) hx hb dX12_clauseHere_36 (by decide) (fun _ => ?_) (fun c => absurd c (by decide))
      replace hM := hM.pos (by decide)
      exact J69 x91 x84 x298 H locs ls w283 (show 0 ≤ x91.toInt by first | with_reducible assumption | omega) (show x91.toInt ≤ 400 by first | with_reducible assumption | omega) (show 0 ≤ x84.toInt by first | with_reducible assumption | omega) (show x84.toInt ≤ 400 by first | with_reducible assumption | omega) (show 0 ≤ x298.toInt by first | with_reducible assumption | omega) (show x298.toInt ≤ 400 by first | with_reducible assumption | omega) (show 0 ≤ f1_.toInt from rf1_) (show f1_.toInt ≤ 32 from tf1_) (show f1_.toInt = f1_.toInt from rfl)  hw hT hF c295 c299 c293 c294 hM (lv_sub hl [2, 1, 0] rfl)
