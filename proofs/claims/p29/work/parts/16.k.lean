abbrev P_X7_commonSign_1 (ad : Nat → Nat) (cy : Nat → ClassId) (B : Int) (qr : Nat) (s1 : Int) (a1 : Int32) (w0 : va_W) : Int32 → va_W → Prop := fun r u => TW ksC ad cy B qr s1 u ∧ FE ksC ([] : List (Nat × Nat × Nat)) w0 u ∧ ((0 ≤ r.toInt ∧ r.toInt ≤ 3))
set_option maxHeartbeats 4000000 in
set_option maxRecDepth 100000 in
theorem k_X7_commonSign_1 (l : Launch) (adK adV : Nat → Nat) (dC : Nat → ClassId) (dI : Nat → Nat → Nat) (cy : Nat → ClassId) (ad : Nat → Nat) (B : Int) (hB0 : 2147483648 ≤ B) (hB1 : B ≤ 1152921504606846976) (qr : Nat) (s1 : Int)  (a1 : Int32) (ra1 : 0 ≤ a1.toInt) (ta1 : a1.toInt ≤ 11) (w0 : va_W) (sz : Nat) (hT : TW ksC ad cy B qr s1 w0)  : Met l yX7_commonSign wsX7_commonSign ({ frames := 3, cells := 0, slots := 0, locals := 58 }) (va_Pc [.ref (ad 39), .int a1] (wpreS adK adV dC dI cy sz w0)) (va_Qi (P_X7_commonSign_1 ad cy B qr s1 a1 w0) (fun u : va_W => wpost dC dI cy (va_A w0 sz) u) (va_A w0 sz)) 0 0 (va_A w0 sz) := by
  refine Met.ofW (cc := cX7_commonSign) (maxL := 4) (ret := (some .int)) (by decide) rfl ?_
  intro p e s m args below meth c s₁ Bk hml hv
  obtain ⟨rfl, ⟨hsz, hP, hK, hD0⟩, hE, hSR⟩ := hv
  have hx := Bk.exec
  have hb := Bk.bytes
  have hr := Bk.returns
  have hlocks := Bk.notSynchronized
  have hC : CallFix p m c cX7_commonSign 4 s _ wsX7_commonSign RX7 := ⟨hx, hb, hml, findClass_of_methodNamed Bk.named, atoms_spec (ws := wsX7_commonSign) Bk.pre⟩
  subst hsz
  have hD := hD0.self (sz := s.heap.size)
  generalize hAe : va_A w0 s.heap.size = A at hD hE ⊢
  have hA : ∀ q : Nat, s.heap.size ≤ q → A q := fun q h => by rw [← hAe]; exact Or.inr h
  have hw : Wd dC dI A s.heap s.heap [] w0 := ⟨hP, hD, va_S.rf⟩
  have hF : FE ksC ([] : List (Nat × Nat × Nat)) w0 w0 := FE.rf
  have hl := lv_entry ([.ref (ad 39), .int a1]) (n := 4) (Nat.le_of_ble_eq_true rfl)
  rw [lg_entry_eq]
  generalize (lg_sl ([.ref (ad 39), .int a1]) ++ List.replicate (4 - (lg_sl ([.ref (ad 39), .int a1])).length) Slot.unset).toArray = ls at hl ⊢
  have hl : lv_has ls 4 [(0, .ref (ad 39)), (1, .int a1)] := hl
  generalize hloc : ([] : List Loc) = locs at hw ⊢
  have L4 : ∀ (n4 : Nat) (v4_2 : Int32) (v4_3 : Int32) (H : Heap) (locs : List Loc) (ls : Array Slot) (w1 : va_W), 0 ≤ a1.toInt → a1.toInt ≤ 11 → 0 ≤ v4_2.toInt → v4_2.toInt ≤ 3 → 1 ≤ v4_3.toInt → v4_3.toInt ≤ 4 → (4 - v4_3.toInt).toNat < n4 → Wd dC dI A s.heap H locs w1 → TW ksC ad cy B qr s1 w1 → FE ksC ([] : List (Nat × Nat × Nat)) w0 w1 → lv_has ls 4 [(0, .ref (ad 39)), (1, .int a1), (2, .int v4_2), (3, .int v4_3)] → W p l e ({ frames := 3, cells := 0, slots := 0, locals := 58 }) s m (List.toArray [.ref (ad 39), .int a1]) below meth c H locs 0 0 (MQ below (va_Qi (P_X7_commonSign_1 ad cy B qr s1 a1 w0) (fun u : va_W => wpost dC dI cy A u) A) (List.toArray [.ref (ad 39), .int a1]) s 0 0 A) (F0 m 4 ls []) := by
    intro n4
    induction n4 with
    | zero => intro v4_2 v4_3 H locs ls w1 r2 t3 r4 t5 r6 t7 hm4 hw hT hF hl; omega
    | succ n4 ih4 =>
      intro v4_2 v4_3 H locs ls w1 r2 t3 r4 t5 r6 t7 hm4 hw hT hF hl
      have J26 : ∀ (v26_2 : Int32) (H : Heap) (locs : List Loc) (ls : Array Slot) (w8 : va_W), 0 ≤ a1.toInt → a1.toInt ≤ 11 → 0 ≤ v26_2.toInt → v26_2.toInt ≤ 3 → 1 ≤ v4_3.toInt → v4_3.toInt ≤ 3 → Wd dC dI A s.heap H locs w8 → TW ksC ad cy B qr s1 w8 → FE ksC ([] : List (Nat × Nat × Nat)) w0 w8 → lv_has ls 4 [(0, .ref (ad 39)), (1, .int a1), (2, .int v26_2), (3, .int v4_3)] → W p l e ({ frames := 3, cells := 0, slots := 0, locals := 58 }) s m (List.toArray [.ref (ad 39), .int a1]) below meth c H locs 0 0 (MQ below (va_Qi (P_X7_commonSign_1 ad cy B qr s1 a1 w0) (fun u : va_W => wpost dC dI cy A u) A) (List.toArray [.ref (ad 39), .int a1]) s 0 0 A) (F0 m 26 ls []) := by
        intro v26_2 H locs ls w8 r9 t10 r11 t12 r13 t14 hw hT hF hl
        obtain ⟨x15, ex15⟩ : ∃ y : Int32, y = v4_3 + Int32.ofInt 1 := ⟨_, rfl⟩
        refine lv_iinc (v := x15) (lv' := [(3, .int x15), (0, .ref (ad 39)), (1, .int a1), (2, .int v26_2)]) hx hb dX7_commonSign_26 hl (k := 3) rfl ex15.symm (by decide) rfl (fun ls hl => ?_)
        have ex15 : x15.toInt = v4_3.toInt + 1 := by rw [ex15]; exact wk_add (y := 1) (show -2147483648 ≤ v4_3.toInt + 1 by omega) (show v4_3.toInt + 1 ≤ 2147483647 by omega)
        refine lv_goto (tgt := 4) hx hb dX7_commonSign_29 (by decide) ?_
        exact ih4 v26_2 x15 H locs ls w8 (show 0 ≤ a1.toInt by omega) (show a1.toInt ≤ 11 by omega) (show 0 ≤ v26_2.toInt by omega) (show v26_2.toInt ≤ 3 by omega) (show 1 ≤ x15.toInt by omega) (show x15.toInt ≤ 4 by omega) (show (4 - x15.toInt).toNat < n4 by omega) hw hT hF  (lv_sub hl [1, 2, 3, 0] rfl)
      refine lv_iload_n hx hb dX7_commonSign_4 rfl (lv_at hl 3 rfl) ?_
      refine lv_iconst (v := 3) hx hb dX7_commonSign_5 (by decide) ?_
      refine lv_icmp_gt (tgt := 32) hx hb dX7_commonSign_6 (by decide) (fun c16 => ?_) (fun c16 => ?_)
      · have c16 : (3 : Int) < v4_3.toInt := wk_lt.mp c16
        refine lv_iload_n hx hb dX7_commonSign_32 rfl (lv_at hl 2 rfl) ?_
        exact tk_iret hC hr hlocks hK ⟨hT, hF, ⟨(show 0 ≤ v4_2.toInt by omega), (show v4_2.toInt ≤ 3 by omega)⟩⟩ hw dX7_commonSign_33
      · have c16 : v4_3.toInt ≤ (3 : Int) := wk_ltF c16
        refine lv_aload_n hx hb dX7_commonSign_9 rfl (lv_at hl 0 rfl) ?_
        refine lv_iload_n hx hb dX7_commonSign_10 rfl (lv_at hl 1 rfl) ?_
        refine lv_iload_n hx hb dX7_commonSign_11 rfl (lv_at hl 3 rfl) ?_
        refine tk_Vi hC hK hw hT hA hE hSR kC_at39 (by decide) rfl (k_X7_daysWith_1 l adK adV dC dI cy ad B (by omega) (by omega) qr s1   a1 (show 0 ≤ a1.toInt by omega) (show a1.toInt ≤ 11 by omega) v4_3 (show 1 ≤ v4_3.toInt by omega) (show v4_3.toInt ≤ 3 by omega) w1 H.size hT ) (cwV 2 hC.2.2.2.2 gX7_commonSign_X7_daysWith rfl rfl rfl (by decide +kernel) ⟨Nat.le_of_ble_eq_true rfl, Nat.le_of_ble_eq_true rfl⟩) rfl hl.1 rfl (Nat.le_of_ble_eq_true rfl) dX7_commonSign_12 (fun r17 w19 H locs hp18 hw => ?_)
        obtain ⟨hT, k20, hg21⟩ := hp18
        have hF := hF.tr k20 (by decide)
        clear hg21
        refine lv_aload_n hx hb dX7_commonSign_15 rfl (lv_at hl 0 rfl) ?_
        refine lv_iload_n hx hb dX7_commonSign_16 rfl (lv_at hl 1 rfl) ?_
        refine lv_iload_n hx hb dX7_commonSign_17 rfl (lv_at hl 2 rfl) ?_
        refine tk_Vi hC hK hw hT hA hE hSR kC_at39 (by decide) rfl (k_X7_daysWith_2 l adK adV dC dI cy ad B (by omega) (by omega) qr s1   a1 (show 0 ≤ a1.toInt by omega) (show a1.toInt ≤ 11 by omega) v4_2 (show 0 ≤ v4_2.toInt by omega) (show v4_2.toInt ≤ 3 by omega) w19 H.size hT ) (cwV 2 hC.2.2.2.2 gX7_commonSign_X7_daysWith rfl rfl rfl (by decide +kernel) ⟨Nat.le_of_ble_eq_true rfl, Nat.le_of_ble_eq_true rfl⟩) rfl hl.1 rfl (Nat.le_of_ble_eq_true rfl) dX7_commonSign_18 (fun r22 w24 H locs hp23 hw => ?_)
        obtain ⟨hT, k25, hg26⟩ := hp23
        have hF := hF.tr k25 (by decide)
        clear hg26
        refine lv_icmp_le (tgt := 26) hx hb dX7_commonSign_21 (by decide) (fun c27 => ?_) (fun c27 => ?_)
        · have c27 : r17.toInt ≤ r22.toInt := wk_le.mp c27
          exact J26 v4_2 H locs ls w24 (show 0 ≤ a1.toInt by omega) (show a1.toInt ≤ 11 by omega) (show 0 ≤ v4_2.toInt by omega) (show v4_2.toInt ≤ 3 by omega) (show 1 ≤ v4_3.toInt by omega) (show v4_3.toInt ≤ 3 by omega)  hw hT hF  (lv_sub hl [0, 1, 2, 3] rfl)
        · have c27 : r22.toInt < r17.toInt := wk_leF c27
          refine lv_iload_n hx hb dX7_commonSign_24 rfl (lv_at hl 3 rfl) ?_
          refine lv_istore_n (lv' := [(2, .int v4_3), (0, .ref (ad 39)), (1, .int a1), (3, .int v4_3)]) hx hb dX7_commonSign_25 rfl hl (by decide) rfl (fun ls hl => ?_)
          exact J26 v4_3 H locs ls w24 (show 0 ≤ a1.toInt by omega) (show a1.toInt ≤ 11 by omega) (show 0 ≤ v4_3.toInt by omega) (show v4_3.toInt ≤ 3 by omega) (show 1 ≤ v4_3.toInt by omega) (show v4_3.toInt ≤ 3 by omega)  hw hT hF  (lv_sub hl [1, 2, 0, 3] rfl)
  refine lv_iconst (v := 0) hx hb dX7_commonSign_0 (by decide) ?_
  refine lv_istore_n (lv' := [(2, .int 0), (0, .ref (ad 39)), (1, .int a1)]) hx hb dX7_commonSign_1 rfl hl (by decide) rfl (fun ls hl => ?_)
  refine lv_iconst (v := 1) hx hb dX7_commonSign_2 (by decide) ?_
  refine lv_istore_n (lv' := [(3, .int 1), (2, .int 0), (0, .ref (ad 39)), (1, .int a1)]) hx hb dX7_commonSign_3 rfl hl (by decide) rfl (fun ls hl => ?_)
  exact L4 ((4 - (1 : Int)).toNat + 1) 0 1 s.heap locs ls w0 (show 0 ≤ a1.toInt by omega) (show a1.toInt ≤ 11 by omega) (by decide) (by decide) (by decide) (by decide) (Nat.lt_succ_self _) hw hT hF  (lv_sub hl [2, 3, 1, 0] rfl)
abbrev P_X11_cheap_1 (ad : Nat → Nat) (cy : Nat → ClassId) (B : Int) (qr : Nat) (s1 : Int) (a1 : Int32) (w0 : va_W) : Int32 → va_W → Prop := fun r u => TW ksC ad cy B qr s1 u ∧ FE ksC ([] : List (Nat × Nat × Nat)) w0 u ∧ ((0 ≤ r.toInt ∧ r.toInt ≤ 3 ∧ 0 ≤ a1.toInt ∧ a1.toInt ≤ 11 ∧ (∃ y : Int32, gi u 39 9 = y ∧ 1 ≤ y.toInt ∧ y.toInt ≤ 12)) ∨ (r = (-1)))
set_option maxHeartbeats 4000000 in
set_option maxRecDepth 100000 in
theorem k_X11_cheap_1 (l : Launch) (adK adV : Nat → Nat) (dC : Nat → ClassId) (dI : Nat → Nat → Nat) (cy : Nat → ClassId) (ad : Nat → Nat) (B : Int) (hB0 : 2147483648 ≤ B) (hB1 : B ≤ 1152921504606846976) (qr : Nat) (s1 : Int)  (a1 : Int32) (w0 : va_W) (sz : Nat) (hT : TW ksC ad cy B qr s1 w0)  : Met l yX11_cheap wsX11_cheap ({ frames := 4, cells := 0, slots := 0, locals := 81 }) (va_Pc [.ref (ad 0), .int a1] (wpreS adK adV dC dI cy sz w0)) (va_Qi (P_X11_cheap_1 ad cy B qr s1 a1 w0) (fun u : va_W => wpost dC dI cy (va_A w0 sz) u) (va_A w0 sz)) 0 0 (va_A w0 sz) := by
  refine Met.ofW (cc := cX11_cheap) (maxL := 2) (ret := (some .int)) (by decide) rfl ?_
  intro p e s m args below meth c s₁ Bk hml hv
  obtain ⟨rfl, ⟨hsz, hP, hK, hD0⟩, hE, hSR⟩ := hv
  have hx := Bk.exec
  have hb := Bk.bytes
  have hr := Bk.returns
  have hlocks := Bk.notSynchronized
  have hC : CallFix p m c cX11_cheap 2 s _ wsX11_cheap RX11 := ⟨hx, hb, hml, findClass_of_methodNamed Bk.named, atoms_spec (ws := wsX11_cheap) Bk.pre⟩
  subst hsz
  have hD := hD0.self (sz := s.heap.size)
  generalize hAe : va_A w0 s.heap.size = A at hD hE ⊢
  have hA : ∀ q : Nat, s.heap.size ≤ q → A q := fun q h => by rw [← hAe]; exact Or.inr h
  have hw : Wd dC dI A s.heap s.heap [] w0 := ⟨hP, hD, va_S.rf⟩
  have hF : FE ksC ([] : List (Nat × Nat × Nat)) w0 w0 := FE.rf
  have hl := lv_entry ([.ref (ad 0), .int a1]) (n := 2) (Nat.le_of_ble_eq_true rfl)
  rw [lg_entry_eq]
  generalize (lg_sl ([.ref (ad 0), .int a1]) ++ List.replicate (2 - (lg_sl ([.ref (ad 0), .int a1])).length) Slot.unset).toArray = ls at hl ⊢
  have hl : lv_has ls 2 [(0, .ref (ad 0)), (1, .int a1)] := hl
  generalize hloc : ([] : List Loc) = locs at hw ⊢
  have hinX11 : ∀ w ∈ u_ws RX11 TX11 13, w ∈ wsX11_cheap := fun _ h => List.mem_cons_of_mem _ (List.mem_append_left _ (List.mem_append_left _ (List.mem_append_right _ (h))))
  have hinX5 : ∀ w ∈ u_ws RX5 TX5 14, w ∈ wsX11_cheap := fun _ h => List.mem_cons_of_mem _ (List.mem_append_left _ (List.mem_append_right _ (h)))
  refine lv_aload_n hx hb dX11_cheap_0 rfl (lv_at hl 0 rfl) ?_
  refine tk_getA hC hK hw hT hinX11 kC_at0 (by decide) rfl 4 (by decide) (List.mem_of_getElem? (i := 1) rfl) rfl rfl dX11_cheap_1 ?_
  refine tk_getO hC hK hw hT hinX5 kC_at38 (by decide) rfl 0 (by decide) (List.mem_of_getElem? (i := 2) rfl) rfl rfl dX11_cheap_4 ?_
  refine lv_iload_n hx hb dX11_cheap_7 rfl (lv_at hl 1 rfl) ?_
  refine tk_Vi hC hK hw hT hA hE hSR kC_at39 (by decide) rfl (k_X7_hasStreet_1 l adK adV dC dI cy ad B (by omega) (by omega) qr s1   a1 w0 s.heap.size hT ) (cwV 1 hC.2.2.2.2 gX11_cheap_X7_hasStreet rfl rfl rfl (by decide +kernel) ⟨Nat.le_of_ble_eq_true rfl, Nat.le_of_ble_eq_true rfl⟩) rfl hl.1 rfl (Nat.le_of_ble_eq_true rfl) dX11_cheap_8 (fun r1 w3 H locs hp2 hw => ?_)
  obtain ⟨hT, k4, hg9⟩ := hp2
  have hF := hF.tr k4 (by decide)
  rcases hg9 with rfl | ⟨rfl, g5, g6, ⟨x7, c8, rx7, tx7⟩⟩
  · refine lv_if_eq (tgt := 28) hx hb dX11_cheap_11 (by decide) (fun _ => ?_) (fun c => absurd (by decide) c)
    refine lv_iconst (v := (-1)) hx hb dX11_cheap_28 (by decide) ?_
    exact tk_iret hC hr hlocks hK ⟨hT, hF, (Or.inr rfl)⟩ hw dX11_cheap_29
  · refine lv_if_eq (tgt := 28) hx hb dX11_cheap_11 (by decide) (fun c => absurd c (by decide)) (fun _ => ?_)
    refine lv_aload_n hx hb dX11_cheap_14 rfl (lv_at hl 0 rfl) ?_
    refine tk_getA hC hK hw hT hinX11 kC_at0 (by decide) rfl 4 (by decide) (List.mem_of_getElem? (i := 1) rfl) rfl rfl dX11_cheap_15 ?_
    refine tk_getO hC hK hw hT hinX5 kC_at38 (by decide) rfl 0 (by decide) (List.mem_of_getElem? (i := 2) rfl) rfl rfl dX11_cheap_18 ?_
    refine lv_iload_n hx hb dX11_cheap_21 rfl (lv_at hl 1 rfl) ?_
    refine tk_Vi hC hK hw hT hA hE hSR kC_at39 (by decide) rfl (k_X7_commonSign_1 l adK adV dC dI cy ad B (by omega) (by omega) qr s1   a1 (show 0 ≤ a1.toInt by omega) (show a1.toInt ≤ 11 by omega) w3 H.size hT ) (cwV 1 hC.2.2.2.2 gX11_cheap_X7_commonSign rfl rfl rfl (by decide +kernel) ⟨Nat.le_of_ble_eq_true rfl, Nat.le_of_ble_eq_true rfl⟩) rfl hl.1 rfl (Nat.le_of_ble_eq_true rfl) dX11_cheap_22 (fun r10 w12 H locs hp11 hw => ?_)
    obtain ⟨hT, k13, hg16⟩ := hp11
    have hF := hF.tr k13 (by decide)
    have c17 := k13.gi kC_at39 (by decide) c8
    obtain ⟨g14, g15⟩ := hg16
    refine lv_goto (tgt := 29) hx hb dX11_cheap_25 (by decide) ?_
    exact tk_iret hC hr hlocks hK ⟨hT, hF, (Or.inl ⟨(show 0 ≤ r10.toInt by omega), (show r10.toInt ≤ 3 by omega), (show 0 ≤ a1.toInt by omega), (show a1.toInt ≤ 11 by omega), ⟨x7, c17, (show 1 ≤ x7.toInt by omega), (show x7.toInt ≤ 12 by omega)⟩⟩)⟩ hw dX11_cheap_29
abbrev P_X7_commonSignWrong_1 (ad : Nat → Nat) (cy : Nat → ClassId) (B : Int) (qr : Nat) (s1 : Int) (a1 : Int32) (a2 : Int32) (w0 : va_W) : Int32 → va_W → Prop := fun r u => TW ksC ad cy B qr s1 u ∧ FE ksC ([] : List (Nat × Nat × Nat)) w0 u ∧ ((7 ≤ a2.toInt) ∨ (0 ≤ r.toInt ∧ r.toInt ≤ 1 ∧ a2.toInt ≤ 6))
set_option maxHeartbeats 4000000 in
set_option maxRecDepth 100000 in
theorem k_X7_commonSignWrong_1 (l : Launch) (adK adV : Nat → Nat) (dC : Nat → ClassId) (dI : Nat → Nat → Nat) (cy : Nat → ClassId) (ad : Nat → Nat) (B : Int) (hB0 : 2147483648 ≤ B) (hB1 : B ≤ 1152921504606846976) (qr : Nat) (s1 : Int)  (a1 : Int32) (ra1 : 0 ≤ a1.toInt) (ta1 : a1.toInt ≤ 11) (a2 : Int32) (ra2 : 0 ≤ a2.toInt) (ta2 : a2.toInt ≤ 7) (w0 : va_W) (sz : Nat) (hT : TW ksC ad cy B qr s1 w0)  : Met l yX7_commonSignWrong wsX7_commonSignWrong ({ frames := 4, cells := 0, slots := 0, locals := 81 }) (va_Pc [.ref (ad 39), .int a1, .int a2] (wpreS adK adV dC dI cy sz w0)) (va_Qi (P_X7_commonSignWrong_1 ad cy B qr s1 a1 a2 w0) (fun u : va_W => wpost dC dI cy (va_A w0 sz) u) (va_A w0 sz)) 0 0 (va_A w0 sz) := by
  refine Met.ofW (cc := cX7_commonSignWrong) (maxL := 4) (ret := (some .int)) (by decide) rfl ?_
  intro p e s m args below meth c s₁ Bk hml hv
  obtain ⟨rfl, ⟨hsz, hP, hK, hD0⟩, hE, hSR⟩ := hv
  have hx := Bk.exec
  have hb := Bk.bytes
  have hr := Bk.returns
  have hlocks := Bk.notSynchronized
  have hC : CallFix p m c cX7_commonSignWrong 4 s _ wsX7_commonSignWrong RX7 := ⟨hx, hb, hml, findClass_of_methodNamed Bk.named, atoms_spec (ws := wsX7_commonSignWrong) Bk.pre⟩
  subst hsz
  have hD := hD0.self (sz := s.heap.size)
  generalize hAe : va_A w0 s.heap.size = A at hD hE ⊢
  have hA : ∀ q : Nat, s.heap.size ≤ q → A q := fun q h => by rw [← hAe]; exact Or.inr h
  have hw : Wd dC dI A s.heap s.heap [] w0 := ⟨hP, hD, va_S.rf⟩
  have hF : FE ksC ([] : List (Nat × Nat × Nat)) w0 w0 := FE.rf
  have hl := lv_entry ([.ref (ad 39), .int a1, .int a2]) (n := 4) (Nat.le_of_ble_eq_true rfl)
  rw [lg_entry_eq]
  generalize (lg_sl ([.ref (ad 39), .int a1, .int a2]) ++ List.replicate (4 - (lg_sl ([.ref (ad 39), .int a1, .int a2])).length) Slot.unset).toArray = ls at hl ⊢
  have hl : lv_has ls 4 [(0, .ref (ad 39)), (1, .int a1), (2, .int a2)] := hl
  generalize hloc : ([] : List Loc) = locs at hw ⊢
  refine lv_aload_n hx hb dX7_commonSignWrong_0 rfl (lv_at hl 0 rfl) ?_
  refine lv_iload_n hx hb dX7_commonSignWrong_1 rfl (lv_at hl 1 rfl) ?_
  refine tk_Vi hC hK hw hT hA hE hSR kC_at39 (by decide) rfl (k_X7_commonSign_1 l adK adV dC dI cy ad B (by omega) (by omega) qr s1   a1 (show 0 ≤ a1.toInt by omega) (show a1.toInt ≤ 11 by omega) w0 s.heap.size hT ) (cwV 1 hC.2.2.2.2 gX7_commonSignWrong_X7_commonSign rfl rfl rfl (by decide +kernel) ⟨Nat.le_of_ble_eq_true rfl, Nat.le_of_ble_eq_true rfl⟩) rfl hl.1 rfl (Nat.le_of_ble_eq_true rfl) dX7_commonSignWrong_2 (fun r1 w3 H locs hp2 hw => ?_)
  obtain ⟨hT, k4, hg7⟩ := hp2
  have hF := hF.tr k4 (by decide)
  obtain ⟨g5, g6⟩ := hg7
  refine lv_istore_n (lv' := [(3, .int r1), (0, .ref (ad 39)), (1, .int a1), (2, .int a2)]) hx hb dX7_commonSignWrong_5 rfl hl (by decide) rfl (fun ls hl => ?_)
  refine lv_iload_n hx hb dX7_commonSignWrong_6 rfl (lv_at hl 3 rfl) ?_
  refine lv_bipush (v := 7) hx hb dX7_commonSignWrong_7 (by decide) ?_
  refine lv_icmp_ne (tgt := 22) hx hb dX7_commonSignWrong_9 (by decide) (fun c8 => ?_) (fun c8 => ?_)
  · have c8 : ¬ a2.toInt = (7 : Int) := wk_eqF c8
    refine lv_aload_n hx hb dX7_commonSignWrong_22 rfl (lv_at hl 1 rfl) ?_
    refine lv_iload_n hx hb dX7_commonSignWrong_23 rfl (lv_at hl 2 rfl) ?_
    refine lv_iload_n hx hb dX7_commonSignWrong_24 rfl (lv_at hl 3 rfl) ?_
    refine tk_Vi hC hK hw hT hA hE hSR kC_at39 (by decide) rfl (k_X7_signOn_1 l adK adV dC dI cy ad B (by omega) (by omega) qr s1   a1 (show 0 ≤ a1.toInt by omega) (show a1.toInt ≤ 11 by omega) a2 (show 0 ≤ a2.toInt by omega) (show a2.toInt ≤ 6 by omega) w3 H.size hT ) (cwV 2 hC.2.2.2.2 gX7_commonSignWrong_X7_signOn rfl rfl rfl (by decide +kernel) ⟨Nat.le_of_ble_eq_true rfl, Nat.le_of_ble_eq_true rfl⟩) rfl hl.1 rfl (Nat.le_of_ble_eq_true rfl) dX7_commonSignWrong_25 (fun r9 w11 H locs hp10 hw => ?_)
    obtain ⟨hT, k12, hg15⟩ := hp10
    have hF := hF.tr k12 (by decide)
    obtain ⟨g13, g14⟩ := hg15
    refine lv_iload_n hx hb dX7_commonSignWrong_28 rfl (lv_at hl 0 rfl) ?_
    refine lv_icmp_ne (tgt := 36) hx hb dX7_commonSignWrong_29 (by decide) (fun c16 => ?_) (fun c16 => ?_)
    · have c16 : ¬ r9.toInt = r1.toInt := wk_eqF c16
      refine lv_iconst (v := 1) hx hb dX7_commonSignWrong_36 (by decide) ?_
      exact tk_iret hC hr hlocks hK ⟨hT, hF, (Or.inr ⟨(by decide), (by decide), (show a2.toInt ≤ 6 by omega)⟩)⟩ hw dX7_commonSignWrong_37
    · have c16 : r9.toInt = r1.toInt := wk_eq.mp c16
      refine lv_iconst (v := 0) hx hb dX7_commonSignWrong_32 (by decide) ?_
      refine lv_goto (tgt := 37) hx hb dX7_commonSignWrong_33 (by decide) ?_
      exact tk_iret hC hr hlocks hK ⟨hT, hF, (Or.inr ⟨(by decide), (by decide), (show a2.toInt ≤ 6 by omega)⟩)⟩ hw dX7_commonSignWrong_37
  · have c8 : a2.toInt = (7 : Int) := wk_eq.mp c8
    refine lv_bipush (v := 7) hx hb dX7_commonSignWrong_12 (by decide) ?_
    refine lv_aload_n hx hb dX7_commonSignWrong_14 rfl (lv_at hl 1 rfl) ?_
    refine lv_iload_n hx hb dX7_commonSignWrong_15 rfl (lv_at hl 2 rfl) ?_
    refine lv_iload_n hx hb dX7_commonSignWrong_16 rfl (lv_at hl 0 rfl) ?_
    refine tk_Vi hC hK hw hT hA hE hSR kC_at39 (by decide) rfl (k_X7_daysWith_2 l adK adV dC dI cy ad B (by omega) (by omega) qr s1   a1 (show 0 ≤ a1.toInt by omega) (show a1.toInt ≤ 11 by omega) r1 (show 0 ≤ r1.toInt by omega) (show r1.toInt ≤ 3 by omega) w3 H.size hT ) (cwV 2 hC.2.2.2.2 gX7_commonSignWrong_X7_daysWith rfl rfl rfl (by decide +kernel) ⟨Nat.le_of_ble_eq_true rfl, Nat.le_of_ble_eq_true rfl⟩) rfl hl.1 rfl (Nat.le_of_ble_eq_true rfl) dX7_commonSignWrong_17 (fun r17 w19 H locs hp18 hw => ?_)
    obtain ⟨hT, k20, hg21⟩ := hp18
    have hF := hF.tr k20 (by decide)
    clear hg21
    refine lv_isub hx hb dX7_commonSignWrong_20 ?_
    have nx22 := wk_i32 r17
    refine lv_topi (fun x23 ex23 => ?_)
    exact tk_iret hC hr hlocks hK ⟨hT, hF, (Or.inl (show 7 ≤ a2.toInt by omega))⟩ hw dX7_commonSignWrong_21
abbrev P_X11_wrong_1 (ad : Nat → Nat) (cy : Nat → ClassId) (B : Int) (qr : Nat) (s1 : Int) (a1 : Int32) (w0 : va_W) : Int32 → va_W → Prop := fun r u => TW ksC ad cy B qr s1 u ∧ FE ksC ([] : List (Nat × Nat × Nat)) w0 u ∧ ((0 ≤ a1.toInt ∧ a1.toInt ≤ 7 ∧ (∃ y : Int32, gi u 39 8 = y ∧ 1 ≤ y.toInt ∧ y.toInt ≤ 10)) ∨ (r = (-1)))
set_option maxHeartbeats 4000000 in
set_option maxRecDepth 100000 in
theorem k_X11_wrong_1 (l : Launch) (adK adV : Nat → Nat) (dC : Nat → ClassId) (dI : Nat → Nat → Nat) (cy : Nat → ClassId) (ad : Nat → Nat) (B : Int) (hB0 : 2147483648 ≤ B) (hB1 : B ≤ 1152921504606846976) (qr : Nat) (s1 : Int)  (a1 : Int32) (w0 : va_W) (sz : Nat) (hT : TW ksC ad cy B qr s1 w0)  : Met l yX11_wrong wsX11_wrong ({ frames := 5, cells := 0, slots := 0, locals := 104 }) (va_Pc [.ref (ad 0), .int a1] (wpreS adK adV dC dI cy sz w0)) (va_Qi (P_X11_wrong_1 ad cy B qr s1 a1 w0) (fun u : va_W => wpost dC dI cy (va_A w0 sz) u) (va_A w0 sz)) 0 0 (va_A w0 sz) := by
  refine Met.ofW (cc := cX11_wrong) (maxL := 4) (ret := (some .int)) (by decide) rfl ?_
  intro p e s m args below meth c s₁ Bk hml hv
  obtain ⟨rfl, ⟨hsz, hP, hK, hD0⟩, hE, hSR⟩ := hv
  have hx := Bk.exec
  have hb := Bk.bytes
  have hr := Bk.returns
  have hlocks := Bk.notSynchronized
  have hC : CallFix p m c cX11_wrong 4 s _ wsX11_wrong RX11 := ⟨hx, hb, hml, findClass_of_methodNamed Bk.named, atoms_spec (ws := wsX11_wrong) Bk.pre⟩
  subst hsz
  have hD := hD0.self (sz := s.heap.size)
  generalize hAe : va_A w0 s.heap.size = A at hD hE ⊢
  have hA : ∀ q : Nat, s.heap.size ≤ q → A q := fun q h => by rw [← hAe]; exact Or.inr h
  have hw : Wd dC dI A s.heap s.heap [] w0 := ⟨hP, hD, va_S.rf⟩
  have hF : FE ksC ([] : List (Nat × Nat × Nat)) w0 w0 := FE.rf
  have hl := lv_entry ([.ref (ad 0), .int a1]) (n := 4) (Nat.le_of_ble_eq_true rfl)
  rw [lg_entry_eq]
  generalize (lg_sl ([.ref (ad 0), .int a1]) ++ List.replicate (4 - (lg_sl ([.ref (ad 0), .int a1])).length) Slot.unset).toArray = ls at hl ⊢
  have hl : lv_has ls 4 [(0, .ref (ad 0)), (1, .int a1)] := hl
  generalize hloc : ([] : List Loc) = locs at hw ⊢
  have hinX11 : ∀ w ∈ u_ws RX11 TX11 13, w ∈ wsX11_wrong := fun _ h => List.mem_cons_of_mem _ (List.mem_append_left _ (List.mem_append_left _ (List.mem_append_right _ (h))))
  have hinX5 : ∀ w ∈ u_ws RX5 TX5 14, w ∈ wsX11_wrong := fun _ h => List.mem_cons_of_mem _ (List.mem_append_left _ (List.mem_append_right _ (h)))
  have hinX7 : ∀ w ∈ u_ws RX7 TX7 12, w ∈ wsX11_wrong := fun _ h => List.mem_cons_of_mem _ (List.mem_append_right _ (h))
  have J20 : ∀ (f20_39_8 : Int32) (H : Heap) (locs : List Loc) (ls : Array Slot) (w1 : va_W), (-1) ≤ f20_39_8.toInt → f20_39_8.toInt ≤ 10 → Wd dC dI A s.heap H locs w1 → TW ksC ad cy B qr s1 w1 → FE ksC ([] : List (Nat × Nat × Nat)) w0 w1 → gi w1 39 8 = f20_39_8 → lv_has ls 4 [(0, .ref (ad 0)), (1, .int a1)] → W p l e ({ frames := 5, cells := 0, slots := 0, locals := 104 }) s m (List.toArray [.ref (ad 0), .int a1]) below meth c H locs 0 0 (MQ below (va_Qi (P_X11_wrong_1 ad cy B qr s1 a1 w0) (fun u : va_W => wpost dC dI cy A u) A) (List.toArray [.ref (ad 0), .int a1]) s 0 0 A) (F0 m 20 ls []) := by
    intro f20_39_8 H locs ls w1 r2 t3 hw hT hF c4 hl
    refine lv_iconst (v := (-1)) hx hb dX11_wrong_20 (by decide) ?_
    exact tk_iret hC hr hlocks hK ⟨hT, hF, (Or.inr rfl)⟩ hw dX11_wrong_21
  have L26 : ∀ (n26 : Nat) (v26_2 : Int32) (v26_3 : Int32) (f26_39_8 : Int32) (H : Heap) (locs : List Loc) (ls : Array Slot) (w5 : va_W), 0 ≤ a1.toInt → a1.toInt ≤ 7 → 0 ≤ v26_3.toInt → v26_3.toInt ≤ 12 → 1 ≤ f26_39_8.toInt → f26_39_8.toInt ≤ 10 → (12 - v26_3.toInt).toNat < n26 → Wd dC dI A s.heap H locs w5 → TW ksC ad cy B qr s1 w5 → FE ksC ([] : List (Nat × Nat × Nat)) w0 w5 → gi w5 39 8 = f26_39_8 → lv_has ls 4 [(0, .ref (ad 0)), (1, .int a1), (2, .int v26_2), (3, .int v26_3)] → W p l e ({ frames := 5, cells := 0, slots := 0, locals := 104 }) s m (List.toArray [.ref (ad 0), .int a1]) below meth c H locs 0 0 (MQ below (va_Qi (P_X11_wrong_1 ad cy B qr s1 a1 w0) (fun u : va_W => wpost dC dI cy A u) A) (List.toArray [.ref (ad 0), .int a1]) s 0 0 A) (F0 m 26 ls []) := by
    intro n26
    induction n26 with
    | zero => intro v26_2 v26_3 f26_39_8 H locs ls w5 r6 t7 r8 t9 r10 t11 hm26 hw hT hF c12 hl; omega
    | succ n26 ih26 =>
      intro v26_2 v26_3 f26_39_8 H locs ls w5 r6 t7 r8 t9 r10 t11 hm26 hw hT hF c12 hl
      refine lv_iload_n hx hb dX11_wrong_26 rfl (lv_at hl 3 rfl) ?_
      refine lv_aload_n hx hb dX11_wrong_27 rfl (lv_at hl 0 rfl) ?_
      refine tk_getA hC hK hw hT hinX11 kC_at0 (by decide) rfl 4 (by decide) (List.mem_of_getElem? (i := 1) rfl) rfl rfl dX11_wrong_28 ?_
      refine tk_getO hC hK hw hT hinX5 kC_at38 (by decide) rfl 0 (by decide) (List.mem_of_getElem? (i := 2) rfl) rfl rfl dX11_wrong_31 ?_
      refine tk_geti hC hK hw hT hinX7 kC_at39 (by decide) rfl 9 (by decide) (List.mem_of_getElem? (i := 3) rfl) rfl rfl dX11_wrong_34 (fun x13 c14 rx13 tx13 => ?_)
      refine lv_icmp_ge (tgt := 61) hx hb dX11_wrong_37 (by decide) (fun c15 => ?_) (fun c15 => ?_)
      · have c15 : x13.toInt ≤ v26_3.toInt := wk_le.mp c15
        refine lv_iload_n hx hb dX11_wrong_61 rfl (lv_at hl 2 rfl) ?_
        exact tk_iret hC hr hlocks hK ⟨hT, hF, (Or.inl ⟨(show 0 ≤ a1.toInt by omega), (show a1.toInt ≤ 7 by omega), ⟨f26_39_8, c12, (show 1 ≤ f26_39_8.toInt by omega), (show f26_39_8.toInt ≤ 10 by omega)⟩⟩)⟩ hw dX11_wrong_62
      · have c15 : v26_3.toInt < x13.toInt := wk_leF c15
        refine lv_iload_n hx hb dX11_wrong_40 rfl (lv_at hl 2 rfl) ?_
        refine lv_aload_n hx hb dX11_wrong_41 rfl (lv_at hl 0 rfl) ?_
        refine tk_getA hC hK hw hT hinX11 kC_at0 (by decide) rfl 4 (by decide) (List.mem_of_getElem? (i := 1) rfl) rfl rfl dX11_wrong_42 ?_
        refine tk_getO hC hK hw hT hinX5 kC_at38 (by decide) rfl 0 (by decide) (List.mem_of_getElem? (i := 2) rfl) rfl rfl dX11_wrong_45 ?_
        refine lv_iload_n hx hb dX11_wrong_48 rfl (lv_at hl 3 rfl) ?_
        refine lv_iload_n hx hb dX11_wrong_49 rfl (lv_at hl 1 rfl) ?_
        refine tk_Vi hC hK hw hT hA hE hSR kC_at39 (by decide) rfl (k_X7_commonSignWrong_1 l adK adV dC dI cy ad B (by omega) (by omega) qr s1   v26_3 (show 0 ≤ v26_3.toInt by omega) (show v26_3.toInt ≤ 11 by omega) a1 (show 0 ≤ a1.toInt by omega) (show a1.toInt ≤ 7 by omega) w5 H.size hT ) (cwV 2 hC.2.2.2.2 gX11_wrong_X7_commonSignWrong rfl rfl rfl (by decide +kernel) ⟨Nat.le_of_ble_eq_true rfl, Nat.le_of_ble_eq_true rfl⟩) rfl hl.1 rfl (Nat.le_of_ble_eq_true rfl) dX11_wrong_50 (fun r16 w18 H locs hp17 hw => ?_)
        obtain ⟨hT, k19, hg24⟩ := hp17
        have hF := hF.tr k19 (by decide)
        have c25 := k19.gi kC_at39 (by decide) c12
        have c26 := k19.gi kC_at39 (by decide) c14
        rcases hg24 with g20 | ⟨g21, g22, g23⟩
        · refine lv_iadd hx hb dX11_wrong_53 ?_
          have nx27 := wk_i32 v26_2
          have nx28 := wk_i32 r16
          refine lv_topi (fun x29 ex29 => ?_)
          refine lv_istore_n (lv' := [(2, .int x29), (0, .ref (ad 0)), (1, .int a1), (3, .int v26_3)]) hx hb dX11_wrong_54 rfl hl (by decide) rfl (fun ls hl => ?_)
          obtain ⟨x30, ex30⟩ : ∃ y : Int32, y = v26_3 + Int32.ofInt 1 := ⟨_, rfl⟩
          refine lv_iinc (v := x30) (lv' := [(3, .int x30), (2, .int x29), (0, .ref (ad 0)), (1, .int a1)]) hx hb dX11_wrong_55 hl (k := 3) rfl ex30.symm (by decide) rfl (fun ls hl => ?_)
          have ex30 : x30.toInt = v26_3.toInt + 1 := by rw [ex30]; exact wk_add (y := 1) (show -2147483648 ≤ v26_3.toInt + 1 by omega) (show v26_3.toInt + 1 ≤ 2147483647 by omega)
          refine lv_goto (tgt := 26) hx hb dX11_wrong_58 (by decide) ?_
          exact ih26 x29 x30 f26_39_8 H locs ls w18 (show 0 ≤ a1.toInt by omega) (show a1.toInt ≤ 7 by omega) (show 0 ≤ x30.toInt by omega) (show x30.toInt ≤ 12 by omega) (show 1 ≤ f26_39_8.toInt by omega) (show f26_39_8.toInt ≤ 10 by omega) (show (12 - x30.toInt).toNat < n26 by omega) hw hT hF c25 (lv_sub hl [2, 3, 1, 0] rfl)
        · refine lv_iadd hx hb dX11_wrong_53 ?_
          have nx31 := wk_i32 v26_2
          refine lv_topi (fun x32 ex32 => ?_)
          refine lv_istore_n (lv' := [(2, .int x32), (0, .ref (ad 0)), (1, .int a1), (3, .int v26_3)]) hx hb dX11_wrong_54 rfl hl (by decide) rfl (fun ls hl => ?_)
          obtain ⟨x33, ex33⟩ : ∃ y : Int32, y = v26_3 + Int32.ofInt 1 := ⟨_, rfl⟩
          refine lv_iinc (v := x33) (lv' := [(3, .int x33), (2, .int x32), (0, .ref (ad 0)), (1, .int a1)]) hx hb dX11_wrong_55 hl (k := 3) rfl ex33.symm (by decide) rfl (fun ls hl => ?_)
          have ex33 : x33.toInt = v26_3.toInt + 1 := by rw [ex33]; exact wk_add (y := 1) (show -2147483648 ≤ v26_3.toInt + 1 by omega) (show v26_3.toInt + 1 ≤ 2147483647 by omega)
          refine lv_goto (tgt := 26) hx hb dX11_wrong_58 (by decide) ?_
          exact ih26 x32 x33 f26_39_8 H locs ls w18 (show 0 ≤ a1.toInt by omega) (show a1.toInt ≤ 7 by omega) (show 0 ≤ x33.toInt by omega) (show x33.toInt ≤ 12 by omega) (show 1 ≤ f26_39_8.toInt by omega) (show f26_39_8.toInt ≤ 10 by omega) (show (12 - x33.toInt).toNat < n26 by omega) hw hT hF c25 (lv_sub hl [2, 3, 1, 0] rfl)
  refine lv_aload_n hx hb dX11_wrong_0 rfl (lv_at hl 0 rfl) ?_
  refine tk_getA hC hK hw hT hinX11 kC_at0 (by decide) rfl 4 (by decide) (List.mem_of_getElem? (i := 1) rfl) rfl rfl dX11_wrong_1 ?_
  refine tk_Vi hC hK hw hT hA hE hSR kC_at38 (by decide) rfl (k_X5_hasTown_1 l adK adV dC dI cy ad B (by omega) (by omega) qr s1    w0 s.heap.size hT ) (cwV 0 hC.2.2.2.2 gX11_wrong_X5_hasTown rfl rfl rfl (by decide +kernel) ⟨Nat.le_of_ble_eq_true rfl, Nat.le_of_ble_eq_true rfl⟩) rfl hl.1 rfl (Nat.le_of_ble_eq_true rfl) dX11_wrong_4 (fun r34 w36 H locs hp35 hw => ?_)
  obtain ⟨hT, k37, hg42⟩ := hp35
  have hF := hF.tr k37 (by decide)
  rcases hg42 with ⟨rfl, ⟨x38, c39, rx38, tx38⟩⟩ | ⟨rfl, ⟨x40, c41, rx40, tx40⟩⟩
  · refine lv_if_eq (tgt := 20) hx hb dX11_wrong_7 (by decide) (fun _ => ?_) (fun c => absurd (by decide) c)
    exact J20 x38 H locs ls w36 (show (-1) ≤ x38.toInt by omega) (show x38.toInt ≤ 10 by omega)  hw hT hF c39 (lv_sub hl [0, 1] rfl)
  · refine lv_if_eq (tgt := 20) hx hb dX11_wrong_7 (by decide) (fun c => absurd c (by decide)) (fun _ => ?_)
    refine lv_iload_n hx hb dX11_wrong_10 rfl (lv_at hl 1 rfl) ?_
    refine lv_if_lt (tgt := 20) hx hb dX11_wrong_11 (by decide) (fun c43 => ?_) (fun c43 => ?_)
    · have c43 : a1.toInt < (0 : Int) := wk_lt.mp c43
      exact J20 x40 H locs ls w36 (show (-1) ≤ x40.toInt by omega) (show x40.toInt ≤ 10 by omega)  hw hT hF c41 (lv_sub hl [0, 1] rfl)
    · have c43 : (0 : Int) ≤ a1.toInt := wk_ltF c43
      refine lv_iload_n hx hb dX11_wrong_14 rfl (lv_at hl 1 rfl) ?_
      refine lv_bipush (v := 7) hx hb dX11_wrong_15 (by decide) ?_
      refine lv_icmp_le (tgt := 22) hx hb dX11_wrong_17 (by decide) (fun c44 => ?_) (fun c44 => ?_)
      · have c44 : a1.toInt ≤ (7 : Int) := wk_le.mp c44
        refine lv_iconst (v := 0) hx hb dX11_wrong_22 (by decide) ?_
        refine lv_istore_n (lv' := [(2, .int 0), (0, .ref (ad 0)), (1, .int a1)]) hx hb dX11_wrong_23 rfl hl (by decide) rfl (fun ls hl => ?_)
        refine lv_iconst (v := 0) hx hb dX11_wrong_24 (by decide) ?_
        refine lv_istore_n (lv' := [(3, .int 0), (2, .int 0), (0, .ref (ad 0)), (1, .int a1)]) hx hb dX11_wrong_25 rfl hl (by decide) rfl (fun ls hl => ?_)
        exact L26 ((12 - (0 : Int)).toNat + 1) 0 0 x40 H locs ls w36 (show 0 ≤ a1.toInt by omega) (show a1.toInt ≤ 7 by omega) (by decide) (by decide) (show 1 ≤ x40.toInt by omega) (show x40.toInt ≤ 10 by omega) (Nat.lt_succ_self _) hw hT hF c41 (lv_sub hl [2, 3, 1, 0] rfl)
      · have c44 : (7 : Int) < a1.toInt := wk_leF c44
        exact J20 x40 H locs ls w36 (show (-1) ≤ x40.toInt by omega) (show x40.toInt ≤ 10 by omega)  hw hT hF c41 (lv_sub hl [0, 1] rfl)
abbrev P_X11_errand_1 (ad : Nat → Nat) (cy : Nat → ClassId) (B : Int) (qr : Nat) (s1 : Int) (a1 : Int32) (a2 : Int32) (w0 : va_W) : Int32 → va_W → Prop := fun r u => TW ksC ad cy B qr s1 u ∧ FE ksC [(5, 10, 10), (34, 0, 6), (35, 0, 6)] w0 u ∧ ((r = (-2)) ∨ (0 ≤ r.toInt ∧ r.toInt ≤ 6 ∧ (-1) ≤ a1.toInt ∧ a1.toInt ≤ 9 ∧ (∃ y : Int32, gi u 38 10 = y ∧ 0 ≤ y.toInt ∧ y.toInt ≤ 6)))
set_option maxHeartbeats 4000000 in
set_option maxRecDepth 100000 in
theorem k_X11_errand_1 (l : Launch) (adK adV : Nat → Nat) (dC : Nat → ClassId) (dI : Nat → Nat → Nat) (cy : Nat → ClassId) (ad : Nat → Nat) (B : Int) (hB0 : 2147483648 ≤ B) (hB1 : B ≤ 1152921504606846976) (qr : Nat) (s1 : Int)  (a1 : Int32) (a2 : Int32) (w0 : va_W) (sz : Nat) (hT : TW ksC ad cy B qr s1 w0)  : Met l yX11_errand wsX11_errand ({ frames := 2, cells := 0, slots := 0, locals := 33 }) (va_Pc [.ref (ad 0), .int a1, .int a2] (wpreS adK adV dC dI cy sz w0)) (va_Qi (P_X11_errand_1 ad cy B qr s1 a1 a2 w0) (fun u : va_W => wpost dC dI cy (va_A w0 sz) u) (va_A w0 sz)) 0 0 (va_A w0 sz) := by
  refine Met.ofW (cc := cX11_errand) (maxL := 3) (ret := (some .int)) (by decide) rfl ?_
  intro p e s m args below meth c s₁ Bk hml hv
  obtain ⟨rfl, ⟨hsz, hP, hK, hD0⟩, hE, hSR⟩ := hv
  have hx := Bk.exec
  have hb := Bk.bytes
  have hr := Bk.returns
  have hlocks := Bk.notSynchronized
  have hC : CallFix p m c cX11_errand 3 s _ wsX11_errand RX11 := ⟨hx, hb, hml, findClass_of_methodNamed Bk.named, atoms_spec (ws := wsX11_errand) Bk.pre⟩
  subst hsz
  have hD := hD0.self (sz := s.heap.size)
  generalize hAe : va_A w0 s.heap.size = A at hD hE ⊢
  have hA : ∀ q : Nat, s.heap.size ≤ q → A q := fun q h => by rw [← hAe]; exact Or.inr h
  have hw : Wd dC dI A s.heap s.heap [] w0 := ⟨hP, hD, va_S.rf⟩
  have hF : FE ksC [(5, 10, 10), (34, 0, 6), (35, 0, 6)] w0 w0 := FE.rf
  have hl := lv_entry ([.ref (ad 0), .int a1, .int a2]) (n := 3) (Nat.le_of_ble_eq_true rfl)
  rw [lg_entry_eq]
  generalize (lg_sl ([.ref (ad 0), .int a1, .int a2]) ++ List.replicate (3 - (lg_sl ([.ref (ad 0), .int a1, .int a2])).length) Slot.unset).toArray = ls at hl ⊢
  have hl : lv_has ls 3 [(0, .ref (ad 0)), (1, .int a1), (2, .int a2)] := hl
  generalize hloc : ([] : List Loc) = locs at hw ⊢
  have hinX11 : ∀ w ∈ u_ws RX11 TX11 13, w ∈ wsX11_errand := fun _ h => List.mem_cons_of_mem _ (List.mem_append_left _ (List.mem_append_left _ (List.mem_append_right _ (h))))
  have hinX5 : ∀ w ∈ u_ws RX5 TX5 14, w ∈ wsX11_errand := fun _ h => List.mem_cons_of_mem _ (List.mem_append_left _ (List.mem_append_right _ (h)))
  have J48 : ∀ (H : Heap) (locs : List Loc) (ls : Array Slot) (w1 : va_W), Wd dC dI A s.heap H locs w1 → TW ksC ad cy B qr s1 w1 → FE ksC [(5, 10, 10), (34, 0, 6), (35, 0, 6)] w0 w1 → lv_has ls 3 [(0, .ref (ad 0)), (1, .int a1), (2, .int a2)] → W p l e ({ frames := 2, cells := 0, slots := 0, locals := 33 }) s m (List.toArray [.ref (ad 0), .int a1, .int a2]) below meth c H locs 0 0 (MQ below (va_Qi (P_X11_errand_1 ad cy B qr s1 a1 a2 w0) (fun u : va_W => wpost dC dI cy A u) A) (List.toArray [.ref (ad 0), .int a1, .int a2]) s 0 0 A) (F0 m 48 ls []) := by
    intro H locs ls w1 hw hT hF hl
    refine lv_bipush (v := (-2)) hx hb dX11_errand_48 (by decide) ?_
    exact tk_iret hC hr hlocks hK ⟨hT, hF, (Or.inl rfl)⟩ hw dX11_errand_50
  refine lv_iload_n hx hb dX11_errand_0 rfl (lv_at hl 1 rfl) ?_
  refine lv_iconst (v := (-1)) hx hb dX11_errand_1 (by decide) ?_
  refine lv_icmp_ne (tgt := 15) hx hb dX11_errand_2 (by decide) (fun c2 => ?_) (fun c2 => ?_)
  · have c2 : ¬ a1.toInt = (-1 : Int) := wk_eqF c2
    refine lv_aload_n hx hb dX11_errand_15 rfl (lv_at hl 0 rfl) ?_
    refine lv_iload_n hx hb dX11_errand_16 rfl (lv_at hl 1 rfl) ?_
    refine tk_Vi hC hK hw hT hA hE hSR kC_at0 (by decide) rfl (k_X11_hasCorner_1 l adK adV dC dI cy ad B (by omega) (by omega) qr s1   a1 w0 s.heap.size hT ) (cwV 1 hC.2.2.2.2 gX11_errand_X11_hasCorner rfl rfl rfl (by decide +kernel) ⟨Nat.le_of_ble_eq_true rfl, Nat.le_of_ble_eq_true rfl⟩) rfl hl.1 rfl (Nat.le_of_ble_eq_true rfl) dX11_errand_17 (fun r3 w5 H locs hp4 hw => ?_)
    obtain ⟨hT, k6, hg11⟩ := hp4
    have hF := hF.tr k6 (by decide)
    rcases hg11 with rfl | ⟨rfl, g7, g8, ⟨x9, c10, rx9, tx9⟩⟩
    · refine lv_if_eq (tgt := 48) hx hb dX11_errand_20 (by decide) (fun _ => ?_) (fun c => absurd (by decide) c)
      exact J48  H locs ls w5   hw hT hF  (lv_sub hl [0, 1, 2] rfl)
    · refine lv_if_eq (tgt := 48) hx hb dX11_errand_20 (by decide) (fun c => absurd c (by decide)) (fun _ => ?_)
      refine lv_aload_n hx hb dX11_errand_23 rfl (lv_at hl 0 rfl) ?_
      refine lv_iload_n hx hb dX11_errand_24 rfl (lv_at hl 2 rfl) ?_
      refine tk_Vi hC hK hw hT hA hE hSR kC_at0 (by decide) rfl (k_X11_hasCorner_1 l adK adV dC dI cy ad B (by omega) (by omega) qr s1   a2 w5 H.size hT ) (cwV 1 hC.2.2.2.2 gX11_errand_X11_hasCorner rfl rfl rfl (by decide +kernel) ⟨Nat.le_of_ble_eq_true rfl, Nat.le_of_ble_eq_true rfl⟩) rfl hl.1 rfl (Nat.le_of_ble_eq_true rfl) dX11_errand_25 (fun r12 w14 H locs hp13 hw => ?_)
      obtain ⟨hT, k15, hg20⟩ := hp13
      have hF := hF.tr k15 (by decide)
      have c21 := k15.gi kC_at39 (by decide) c10
      rcases hg20 with rfl | ⟨rfl, g16, g17, ⟨x18, c19, rx18, tx18⟩⟩
      · refine lv_if_eq (tgt := 48) hx hb dX11_errand_28 (by decide) (fun _ => ?_) (fun c => absurd (by decide) c)
        exact J48  H locs ls w14   hw hT hF  (lv_sub hl [0, 1, 2] rfl)
      · have ex18 : x18.toInt = x9.toInt := by rw [← c21.symm.trans c19]
        refine lv_if_eq (tgt := 48) hx hb dX11_errand_28 (by decide) (fun c => absurd c (by decide)) (fun _ => ?_)
        refine lv_iload_n hx hb dX11_errand_31 rfl (lv_at hl 1 rfl) ?_
        refine lv_iload_n hx hb dX11_errand_32 rfl (lv_at hl 2 rfl) ?_
        refine lv_icmp_eq (tgt := 48) hx hb dX11_errand_33 (by decide) (fun c22 => ?_) (fun c22 => ?_)
        · have c22 : a1.toInt = a2.toInt := wk_eq.mp c22
          exact J48  H locs ls w14   hw hT hF  (lv_sub hl [0, 1, 2] rfl)
        · have c22 : ¬ a1.toInt = a2.toInt := wk_eqF c22
          refine lv_aload_n hx hb dX11_errand_36 rfl (lv_at hl 0 rfl) ?_
          refine tk_getA hC hK hw hT hinX11 kC_at0 (by decide) rfl 4 (by decide) (List.mem_of_getElem? (i := 1) rfl) rfl rfl dX11_errand_37 ?_
          refine tk_geti hC hK hw hT hinX5 kC_at38 (by decide) rfl 10 (by decide) (List.mem_of_getElem? (i := 2) rfl) rfl rfl dX11_errand_40 (fun x23 c24 rx23 tx23 => ?_)
          refine lv_bipush (v := 6) hx hb dX11_errand_43 (by decide) ?_
          refine lv_icmp_lt (tgt := 51) hx hb dX11_errand_45 (by decide) (fun c25 => ?_) (fun c25 => ?_)
          · have c25 : x23.toInt < (6 : Int) := wk_lt.mp c25
            refine lv_aload_n hx hb dX11_errand_51 rfl (lv_at hl 0 rfl) ?_
            refine tk_getA hC hK hw hT hinX11 kC_at0 (by decide) rfl 4 (by decide) (List.mem_of_getElem? (i := 1) rfl) rfl rfl dX11_errand_52 ?_
            refine tk_getO hC hK hw hT hinX5 kC_at38 (by decide) rfl 3 (by decide) (List.mem_of_getElem? (i := 3) rfl) rfl rfl dX11_errand_55 ?_
            refine lv_aload_n hx hb dX11_errand_58 rfl (lv_at hl 0 rfl) ?_
            refine tk_getA hC hK hw hT hinX11 kC_at0 (by decide) rfl 4 (by decide) (List.mem_of_getElem? (i := 1) rfl) rfl rfl dX11_errand_59 ?_
            refine tk_geti hC hK hw hT hinX5 kC_at38 (by decide) rfl 10 (by decide) (List.mem_of_getElem? (i := 2) rfl) rfl rfl dX11_errand_62 (fun x26 c27 rx26 tx26 => ?_)
            refine wk_top x23 (c27.symm.trans c24) ?_
            refine lv_iload_n hx hb dX11_errand_65 rfl (lv_at hl 1 rfl) ?_
            refine tk_iast hC hK hw hT kC_at50 (by decide) rfl rfl (show 0 ≤ x23.toInt by omega) (show x23.toInt < 6 by omega) (show 0 ≤ a1.toInt by omega) (show a1.toInt ≤ 9 by omega) dX11_errand_66 (fun H locs w28 hw hT k30 c29 => ?_)
            have hF := hF.put kC_at50 (inE_of (a := 0) (b := 6) (by decide) (show 0 ≤ x23.toInt.toNat by omega) (show x23.toInt.toNat ≤ 6 by omega)) k30
            have c31 := k30.gi (Or.inl (tk_ne kC_at39 kC_at50 (by decide))) c21
            have c32 := k30.gi (Or.inl (tk_ne kC_at38 kC_at50 (by decide))) c24
            refine lv_aload_n hx hb dX11_errand_67 rfl (lv_at hl 0 rfl) ?_
            refine tk_getA hC hK hw hT hinX11 kC_at0 (by decide) rfl 4 (by decide) (List.mem_of_getElem? (i := 1) rfl) rfl rfl dX11_errand_68 ?_
            refine tk_getO hC hK hw hT hinX5 kC_at38 (by decide) rfl 4 (by decide) (List.mem_of_getElem? (i := 4) rfl) rfl rfl dX11_errand_71 ?_
            refine lv_aload_n hx hb dX11_errand_74 rfl (lv_at hl 0 rfl) ?_
            refine tk_getA hC hK hw hT hinX11 kC_at0 (by decide) rfl 4 (by decide) (List.mem_of_getElem? (i := 1) rfl) rfl rfl dX11_errand_75 ?_
            refine tk_geti hC hK hw hT hinX5 kC_at38 (by decide) rfl 10 (by decide) (List.mem_of_getElem? (i := 2) rfl) rfl rfl dX11_errand_78 (fun x33 c34 rx33 tx33 => ?_)
            refine wk_top x23 (c34.symm.trans c32) ?_
            refine lv_iload_n hx hb dX11_errand_81 rfl (lv_at hl 2 rfl) ?_
            refine tk_iast hC hK hw hT kC_at51 (by decide) rfl rfl (show 0 ≤ x23.toInt by omega) (show x23.toInt < 6 by omega) (show 0 ≤ a2.toInt by omega) (show a2.toInt ≤ 9 by omega) dX11_errand_82 (fun H locs w35 hw hT k37 c36 => ?_)
            have hF := hF.put kC_at51 (inE_of (a := 0) (b := 6) (by decide) (show 0 ≤ x23.toInt.toNat by omega) (show x23.toInt.toNat ≤ 6 by omega)) k37
            have c38 := k37.gi (Or.inl (tk_ne kC_at39 kC_at51 (by decide))) c31
            have c39 := k37.gi (Or.inl (tk_ne kC_at38 kC_at51 (by decide))) c32
            refine lv_aload_n hx hb dX11_errand_83 rfl (lv_at hl 0 rfl) ?_
            refine tk_getA hC hK hw hT hinX11 kC_at0 (by decide) rfl 4 (by decide) (List.mem_of_getElem? (i := 1) rfl) rfl rfl dX11_errand_84 ?_
            refine lv_dup hx hb dX11_errand_87 rfl ?_
            refine tk_geti hC hK hw hT hinX5 kC_at38 (by decide) rfl 10 (by decide) (List.mem_of_getElem? (i := 2) rfl) rfl rfl dX11_errand_88 (fun x40 c41 rx40 tx40 => ?_)
            refine wk_top x23 (c41.symm.trans c39) ?_
            refine lv_iconst (v := 1) hx hb dX11_errand_91 (by decide) ?_
            refine lv_iadd hx hb dX11_errand_92 ?_
            refine lv_topi (fun x42 ex42 => ?_)
            have ex42 : x42.toInt = x23.toInt + (1 : Int) := by rw [ex42]; exact wk_add (show (-2147483648) ≤ x23.toInt + (1 : Int) by omega) (show x23.toInt + (1 : Int) ≤ 2147483647 by omega)
            refine tk_puti hC hK hw hT hinX5 tyX5_ok nmX5 kC_at38 (by decide) rfl rfl 10 (by decide) (List.mem_of_getElem? (i := 2) rfl) rfl rfl rfl rfl (show 0 ≤ x42.toInt by omega) (show x42.toInt ≤ 6 by omega) dX11_errand_93 (fun H locs w43 hw hT k45 c44 => ?_)
            have hF := hF.put kC_at38 (k := 10) (by decide) k45
            have c46 := k45.gi (Or.inr (by decide)) c38
            refine lv_aload_n hx hb dX11_errand_96 rfl (lv_at hl 0 rfl) ?_
            refine tk_getA hC hK hw hT hinX11 kC_at0 (by decide) rfl 4 (by decide) (List.mem_of_getElem? (i := 1) rfl) rfl rfl dX11_errand_97 ?_
            refine tk_geti hC hK hw hT hinX5 kC_at38 (by decide) rfl 10 (by decide) (List.mem_of_getElem? (i := 2) rfl) rfl rfl dX11_errand_100 (fun x47 c48 rx47 tx47 => ?_)
            refine wk_top x42 (c48.symm.trans c44) ?_
            exact tk_iret hC hr hlocks hK ⟨hT, hF, (Or.inr ⟨(show 0 ≤ x42.toInt by omega), (show x42.toInt ≤ 6 by omega), (show (-1) ≤ a1.toInt by omega), (show a1.toInt ≤ 9 by omega), ⟨x42, c44, (show 0 ≤ x42.toInt by omega), (show x42.toInt ≤ 6 by omega)⟩⟩)⟩ hw dX11_errand_103
          · have c25 : (6 : Int) ≤ x23.toInt := wk_ltF c25
            exact J48  H locs ls w14   hw hT hF  (lv_sub hl [0, 1, 2] rfl)
  · have c2 : a1.toInt = (-1 : Int) := wk_eq.mp c2
    refine lv_aload_n hx hb dX11_errand_5 rfl (lv_at hl 0 rfl) ?_
    refine tk_getA hC hK hw hT hinX11 kC_at0 (by decide) rfl 4 (by decide) (List.mem_of_getElem? (i := 1) rfl) rfl rfl dX11_errand_6 ?_
    refine lv_iconst (v := 0) hx hb dX11_errand_9 (by decide) ?_
    refine tk_puti hC hK hw hT hinX5 tyX5_ok nmX5 kC_at38 (by decide) rfl rfl 10 (by decide) (List.mem_of_getElem? (i := 2) rfl) rfl rfl rfl rfl (by decide) (by decide) dX11_errand_10 (fun H locs w49 hw hT k51 c50 => ?_)
    have hF := hF.put kC_at38 (k := 10) (by decide) k51
    refine lv_iconst (v := 0) hx hb dX11_errand_13 (by decide) ?_
    exact tk_iret hC hr hlocks hK ⟨hT, hF, (Or.inr ⟨(by decide), (by decide), (show (-1) ≤ a1.toInt by omega), (show a1.toInt ≤ 9 by omega), ⟨0, c50, (by decide), (by decide)⟩⟩)⟩ hw dX11_errand_14
abbrev P_X10_takeDay_1 (ad : Nat → Nat) (cy : Nat → ClassId) (B : Int) (qr : Nat) (s1 : Int) (a1 : Int32) (w0 : va_W) : va_W → Prop := fun u => TW ksC ad cy B qr s1 u ∧ FE ksC [(10, 4, 4), (50, 0, 12)] w0 u ∧ ((True))
set_option maxHeartbeats 4000000 in
set_option maxRecDepth 100000 in
theorem k_X10_takeDay_1 (l : Launch) (adK adV : Nat → Nat) (dC : Nat → ClassId) (dI : Nat → Nat → Nat) (cy : Nat → ClassId) (ad : Nat → Nat) (B : Int) (hB0 : 2147483648 ≤ B) (hB1 : B ≤ 1152921504606846976) (qr : Nat) (s1 : Int)  (a1 : Int32) (ra1 : 0 ≤ a1.toInt) (ta1 : a1.toInt ≤ 6) (w0 : va_W) (sz : Nat) (hT : TW ksC ad cy B qr s1 w0)  : Met l yX10_takeDay wsX10_takeDay ({ frames := 2, cells := 0, slots := 0, locals := 34 }) (va_Pc [.ref (ad 158), .int a1] (wpreS adK adV dC dI cy sz w0)) (va_Qv (P_X10_takeDay_1 ad cy B qr s1 a1 w0) (fun u : va_W => wpost dC dI cy (va_A w0 sz) u) (va_A w0 sz)) 0 0 (va_A w0 sz) := by
  refine Met.ofW (cc := cX10_takeDay) (maxL := 3) (ret := none) (by decide) rfl ?_
  intro p e s m args below meth c s₁ Bk hml hv
  obtain ⟨rfl, ⟨hsz, hP, hK, hD0⟩, hE, hSR⟩ := hv
  have hx := Bk.exec
  have hb := Bk.bytes
  have hr := Bk.returns
  have hlocks := Bk.notSynchronized
  have hC : CallFix p m c cX10_takeDay 3 s _ wsX10_takeDay RX10 := ⟨hx, hb, hml, findClass_of_methodNamed Bk.named, atoms_spec (ws := wsX10_takeDay) Bk.pre⟩
  subst hsz
  have hD := hD0.self (sz := s.heap.size)
  generalize hAe : va_A w0 s.heap.size = A at hD hE ⊢
  have hA : ∀ q : Nat, s.heap.size ≤ q → A q := fun q h => by rw [← hAe]; exact Or.inr h
  have hw : Wd dC dI A s.heap s.heap [] w0 := ⟨hP, hD, va_S.rf⟩
  have hF : FE ksC [(10, 4, 4), (50, 0, 12)] w0 w0 := FE.rf
  have hl := lv_entry ([.ref (ad 158), .int a1]) (n := 3) (Nat.le_of_ble_eq_true rfl)
  rw [lg_entry_eq]
  generalize (lg_sl ([.ref (ad 158), .int a1]) ++ List.replicate (3 - (lg_sl ([.ref (ad 158), .int a1])).length) Slot.unset).toArray = ls at hl ⊢
  have hl : lv_has ls 3 [(0, .ref (ad 158)), (1, .int a1)] := hl
  generalize hloc : ([] : List Loc) = locs at hw ⊢
  have hinX10 : ∀ w ∈ u_ws RX10 TX10 5, w ∈ wsX10_takeDay := fun _ h => List.mem_cons_of_mem _ (List.mem_append_left _ (List.mem_append_right _ (h)))
  have hinX7 : ∀ w ∈ u_ws RX7 TX7 12, w ∈ wsX10_takeDay := fun _ h => List.mem_cons_of_mem _ (List.mem_append_right _ (h))
  have J65 : ∀ (v65_2 : Int32) (f65_158_4 : Int32) (f65_39_9 : Int32) (H : Heap) (locs : List Loc) (ls : Array Slot) (w1 : va_W), 0 ≤ a1.toInt → a1.toInt ≤ 6 → 0 ≤ v65_2.toInt → v65_2.toInt ≤ 12 → 0 ≤ f65_158_4.toInt → f65_158_4.toInt ≤ 12 → 0 ≤ f65_39_9.toInt → f65_39_9.toInt ≤ 12 → Wd dC dI A s.heap H locs w1 → TW ksC ad cy B qr s1 w1 → FE ksC [(10, 4, 4), (50, 0, 12)] w0 w1 → gi w1 158 4 = f65_158_4 → gi w1 39 9 = f65_39_9 → lv_has ls 3 [(0, .ref (ad 158)), (1, .int a1), (2, .int v65_2)] → W p l e ({ frames := 2, cells := 0, slots := 0, locals := 34 }) s m (List.toArray [.ref (ad 158), .int a1]) below meth c H locs 0 0 (MQ below (va_Qv (P_X10_takeDay_1 ad cy B qr s1 a1 w0) (fun u : va_W => wpost dC dI cy A u) A) (List.toArray [.ref (ad 158), .int a1]) s 0 0 A) (F0 m 65 ls []) := by
    intro v65_2 f65_158_4 f65_39_9 H locs ls w1 r2 t3 r4 t5 r6 t7 r9 t10 hw hT hF c8 c11 hl
    exact tk_vret hC hr hlocks hK ⟨hT, hF, trivial⟩ hw dX10_takeDay_65
  have L7 : ∀ (n7 : Nat) (v7_2 : Int32) (f7_158_4 : Int32) (H : Heap) (locs : List Loc) (ls : Array Slot) (w12 : va_W), 0 ≤ a1.toInt → a1.toInt ≤ 6 → 0 ≤ v7_2.toInt → v7_2.toInt ≤ 12 → 0 ≤ f7_158_4.toInt → f7_158_4.toInt ≤ 12 → (12 - v7_2.toInt).toNat < n7 → Wd dC dI A s.heap H locs w12 → TW ksC ad cy B qr s1 w12 → FE ksC [(10, 4, 4), (50, 0, 12)] w0 w12 → gi w12 158 4 = f7_158_4 → lv_has ls 3 [(0, .ref (ad 158)), (1, .int a1), (2, .int v7_2)] → W p l e ({ frames := 2, cells := 0, slots := 0, locals := 34 }) s m (List.toArray [.ref (ad 158), .int a1]) below meth c H locs 0 0 (MQ below (va_Qv (P_X10_takeDay_1 ad cy B qr s1 a1 w0) (fun u : va_W => wpost dC dI cy A u) A) (List.toArray [.ref (ad 158), .int a1]) s 0 0 A) (F0 m 7 ls []) := by
    intro n7
    induction n7 with
    | zero => intro v7_2 f7_158_4 H locs ls w12 r13 t14 r15 t16 r17 t18 hm7 hw hT hF c19 hl; omega
    | succ n7 ih7 =>
      intro v7_2 f7_158_4 H locs ls w12 r13 t14 r15 t16 r17 t18 hm7 hw hT hF c19 hl
      have J59 : ∀ (f59_158_4 : Int32) (f59_39_9 : Int32) (H : Heap) (locs : List Loc) (ls : Array Slot) (w20 : va_W), 0 ≤ a1.toInt → a1.toInt ≤ 6 → 0 ≤ v7_2.toInt → v7_2.toInt ≤ 11 → 0 ≤ f59_158_4.toInt → f59_158_4.toInt ≤ 12 → 1 ≤ f59_39_9.toInt → f59_39_9.toInt ≤ 12 → Wd dC dI A s.heap H locs w20 → TW ksC ad cy B qr s1 w20 → FE ksC [(10, 4, 4), (50, 0, 12)] w0 w20 → gi w20 158 4 = f59_158_4 → gi w20 39 9 = f59_39_9 → lv_has ls 3 [(0, .ref (ad 158)), (1, .int a1), (2, .int v7_2)] → W p l e ({ frames := 2, cells := 0, slots := 0, locals := 34 }) s m (List.toArray [.ref (ad 158), .int a1]) below meth c H locs 0 0 (MQ below (va_Qv (P_X10_takeDay_1 ad cy B qr s1 a1 w0) (fun u : va_W => wpost dC dI cy A u) A) (List.toArray [.ref (ad 158), .int a1]) s 0 0 A) (F0 m 59 ls []) := by
        intro f59_158_4 f59_39_9 H locs ls w20 r21 t22 r23 t24 r25 t26 r28 t29 hw hT hF c27 c30 hl
        obtain ⟨x31, ex31⟩ : ∃ y : Int32, y = v7_2 + Int32.ofInt 1 := ⟨_, rfl⟩
        refine lv_iinc (v := x31) (lv' := [(2, .int x31), (0, .ref (ad 158)), (1, .int a1)]) hx hb dX10_takeDay_59 hl (k := 2) rfl ex31.symm (by decide) rfl (fun ls hl => ?_)
        have ex31 : x31.toInt = v7_2.toInt + 1 := by rw [ex31]; exact wk_add (y := 1) (show -2147483648 ≤ v7_2.toInt + 1 by omega) (show v7_2.toInt + 1 ≤ 2147483647 by omega)
        refine lv_goto (tgt := 7) hx hb dX10_takeDay_62 (by decide) ?_
        exact ih7 x31 f59_158_4 H locs ls w20 (show 0 ≤ a1.toInt by omega) (show a1.toInt ≤ 6 by omega) (show 0 ≤ x31.toInt by omega) (show x31.toInt ≤ 12 by omega) (show 0 ≤ f59_158_4.toInt by omega) (show f59_158_4.toInt ≤ 12 by omega) (show (12 - x31.toInt).toNat < n7 by omega) hw hT hF c27 (lv_sub hl [1, 2, 0] rfl)
      refine lv_iload_n hx hb dX10_takeDay_7 rfl (lv_at hl 2 rfl) ?_
      refine lv_aload_n hx hb dX10_takeDay_8 rfl (lv_at hl 0 rfl) ?_
      refine tk_getA hC hK hw hT hinX10 kC_at158 (by decide) rfl 1 (by decide) (List.mem_of_getElem? (i := 2) rfl) rfl rfl dX10_takeDay_9 ?_
      refine tk_geti hC hK hw hT hinX7 kC_at39 (by decide) rfl 9 (by decide) (List.mem_of_getElem? (i := 3) rfl) rfl rfl dX10_takeDay_12 (fun x32 c33 rx32 tx32 => ?_)
      refine lv_icmp_ge (tgt := 65) hx hb dX10_takeDay_15 (by decide) (fun c34 => ?_) (fun c34 => ?_)
      · have c34 : x32.toInt ≤ v7_2.toInt := wk_le.mp c34
        exact J65 v7_2 f7_158_4 x32 H locs ls w12 (show 0 ≤ a1.toInt by omega) (show a1.toInt ≤ 6 by omega) (show 0 ≤ v7_2.toInt by omega) (show v7_2.toInt ≤ 12 by omega) (show 0 ≤ f7_158_4.toInt by omega) (show f7_158_4.toInt ≤ 12 by omega) (show 0 ≤ x32.toInt by omega) (show x32.toInt ≤ 12 by omega)  hw hT hF c19 c33 (lv_sub hl [0, 1, 2] rfl)
      · have c34 : v7_2.toInt < x32.toInt := wk_leF c34
        refine lv_aload_n hx hb dX10_takeDay_18 rfl (lv_at hl 0 rfl) ?_
        refine tk_geti hC hK hw hT hinX10 kC_at158 (by decide) rfl 4 (by decide) (List.mem_of_getElem? (i := 1) rfl) rfl rfl dX10_takeDay_19 (fun x35 c36 rx35 tx35 => ?_)
        refine wk_top f7_158_4 (c36.symm.trans c19) ?_
        refine lv_bipush (v := 12) hx hb dX10_takeDay_22 (by decide) ?_
        refine lv_icmp_ge (tgt := 65) hx hb dX10_takeDay_24 (by decide) (fun c37 => ?_) (fun c37 => ?_)
        · have c37 : (12 : Int) ≤ f7_158_4.toInt := wk_le.mp c37
          exact J65 v7_2 f7_158_4 x32 H locs ls w12 (show 0 ≤ a1.toInt by omega) (show a1.toInt ≤ 6 by omega) (show 0 ≤ v7_2.toInt by omega) (show v7_2.toInt ≤ 12 by omega) (show 0 ≤ f7_158_4.toInt by omega) (show f7_158_4.toInt ≤ 12 by omega) (show 0 ≤ x32.toInt by omega) (show x32.toInt ≤ 12 by omega)  hw hT hF c19 c33 (lv_sub hl [0, 1, 2] rfl)
        · have c37 : f7_158_4.toInt < (12 : Int) := wk_leF c37
          refine lv_aload_n hx hb dX10_takeDay_27 rfl (lv_at hl 0 rfl) ?_
          refine tk_getA hC hK hw hT hinX10 kC_at158 (by decide) rfl 1 (by decide) (List.mem_of_getElem? (i := 2) rfl) rfl rfl dX10_takeDay_28 ?_
          refine lv_iload_n hx hb dX10_takeDay_31 rfl (lv_at hl 2 rfl) ?_
          refine lv_iload_n hx hb dX10_takeDay_32 rfl (lv_at hl 1 rfl) ?_
          refine tk_Vi hC hK hw hT hA hE hSR kC_at39 (by decide) rfl (k_X7_signOn_1 l adK adV dC dI cy ad B (by omega) (by omega) qr s1   v7_2 (show 0 ≤ v7_2.toInt by omega) (show v7_2.toInt ≤ 11 by omega) a1 (show 0 ≤ a1.toInt by omega) (show a1.toInt ≤ 6 by omega) w12 H.size hT ) (cwV 2 hC.2.2.2.2 gX10_takeDay_X7_signOn rfl rfl rfl (by decide +kernel) ⟨Nat.le_of_ble_eq_true rfl, Nat.le_of_ble_eq_true rfl⟩) rfl hl.1 rfl (Nat.le_of_ble_eq_true rfl) dX10_takeDay_33 (fun r38 w40 H locs hp39 hw => ?_)
          obtain ⟨hT, k41, hg44⟩ := hp39
          have hF := hF.tr k41 (by decide)
          have c45 := k41.gi kC_at158 (by decide) c19
          have c46 := k41.gi kC_at39 (by decide) c33
          obtain ⟨g42, g43⟩ := hg44
          refine lv_if_eq (tgt := 59) hx hb dX10_takeDay_36 (by decide) (fun c47 => ?_) (fun c47 => ?_)
          · have c47 : r38.toInt = (0 : Int) := wk_eq.mp c47
            exact J59 f7_158_4 x32 H locs ls w40 (show 0 ≤ a1.toInt by omega) (show a1.toInt ≤ 6 by omega) (show 0 ≤ v7_2.toInt by omega) (show v7_2.toInt ≤ 11 by omega) (show 0 ≤ f7_158_4.toInt by omega) (show f7_158_4.toInt ≤ 12 by omega) (show 1 ≤ x32.toInt by omega) (show x32.toInt ≤ 12 by omega)  hw hT hF c45 c46 (lv_sub hl [0, 1, 2] rfl)
          · have c47 : ¬ r38.toInt = (0 : Int) := wk_eqF c47
            refine lv_aload_n hx hb dX10_takeDay_39 rfl (lv_at hl 0 rfl) ?_
            refine tk_getA hC hK hw hT hinX10 kC_at158 (by decide) rfl 2 (by decide) (List.mem_of_getElem? (i := 4) rfl) rfl rfl dX10_takeDay_40 ?_
            refine lv_aload_n hx hb dX10_takeDay_43 rfl (lv_at hl 0 rfl) ?_
            refine tk_geti hC hK hw hT hinX10 kC_at158 (by decide) rfl 4 (by decide) (List.mem_of_getElem? (i := 1) rfl) rfl rfl dX10_takeDay_44 (fun x48 c49 rx48 tx48 => ?_)
            refine wk_top f7_158_4 (c49.symm.trans c45) ?_
            refine lv_iload_n hx hb dX10_takeDay_47 rfl (lv_at hl 2 rfl) ?_
            refine tk_iast hC hK hw hT kC_at159 (by decide) rfl rfl (show 0 ≤ f7_158_4.toInt by omega) (show f7_158_4.toInt < 12 by omega) (show 0 ≤ v7_2.toInt by omega) (show v7_2.toInt ≤ 11 by omega) dX10_takeDay_48 (fun H locs w50 hw hT k52 c51 => ?_)
            have hF := hF.put kC_at159 (inE_of (a := 0) (b := 12) (by decide) (show 0 ≤ f7_158_4.toInt.toNat by omega) (show f7_158_4.toInt.toNat ≤ 12 by omega)) k52
            have c53 := k52.gi (Or.inl (tk_ne kC_at158 kC_at159 (by decide))) c45
            have c54 := k52.gi (Or.inl (tk_ne kC_at39 kC_at159 (by decide))) c46
            refine lv_aload_n hx hb dX10_takeDay_49 rfl (lv_at hl 0 rfl) ?_
            refine lv_dup hx hb dX10_takeDay_50 rfl ?_
            refine tk_geti hC hK hw hT hinX10 kC_at158 (by decide) rfl 4 (by decide) (List.mem_of_getElem? (i := 1) rfl) rfl rfl dX10_takeDay_51 (fun x55 c56 rx55 tx55 => ?_)
            refine wk_top f7_158_4 (c56.symm.trans c53) ?_
            refine lv_iconst (v := 1) hx hb dX10_takeDay_54 (by decide) ?_
            refine lv_iadd hx hb dX10_takeDay_55 ?_
            refine lv_topi (fun x57 ex57 => ?_)
            have ex57 : x57.toInt = f7_158_4.toInt + (1 : Int) := by rw [ex57]; exact wk_add (show (-2147483648) ≤ f7_158_4.toInt + (1 : Int) by omega) (show f7_158_4.toInt + (1 : Int) ≤ 2147483647 by omega)
            refine tk_puti hC hK hw hT hinX10 tyX10_ok nmX10 kC_at158 (by decide) rfl rfl 4 (by decide) (List.mem_of_getElem? (i := 1) rfl) rfl rfl rfl rfl (show 0 ≤ x57.toInt by omega) (show x57.toInt ≤ 12 by omega) dX10_takeDay_56 (fun H locs w58 hw hT k60 c59 => ?_)
            have hF := hF.put kC_at158 (k := 4) (by decide) k60
            have c61 := k60.gi (Or.inr (by decide)) c54
            exact J59 x57 x32 H locs ls w58 (show 0 ≤ a1.toInt by omega) (show a1.toInt ≤ 6 by omega) (show 0 ≤ v7_2.toInt by omega) (show v7_2.toInt ≤ 11 by omega) (show 0 ≤ x57.toInt by omega) (show x57.toInt ≤ 12 by omega) (show 1 ≤ x32.toInt by omega) (show x32.toInt ≤ 12 by omega)  hw hT hF c59 c61 (lv_sub hl [0, 1, 2] rfl)
  refine lv_aload_n hx hb dX10_takeDay_0 rfl (lv_at hl 0 rfl) ?_
  refine lv_iconst (v := 0) hx hb dX10_takeDay_1 (by decide) ?_
  refine tk_puti hC hK hw hT hinX10 tyX10_ok nmX10 kC_at158 (by decide) rfl rfl 4 (by decide) (List.mem_of_getElem? (i := 1) rfl) rfl rfl rfl rfl (by decide) (by decide) dX10_takeDay_2 (fun H locs w62 hw hT k64 c63 => ?_)
  have hF := hF.put kC_at158 (k := 4) (by decide) k64
  refine lv_iconst (v := 0) hx hb dX10_takeDay_5 (by decide) ?_
  refine lv_istore_n (lv' := [(2, .int 0), (0, .ref (ad 158)), (1, .int a1)]) hx hb dX10_takeDay_6 rfl hl (by decide) rfl (fun ls hl => ?_)
  exact L7 ((12 - (0 : Int)).toNat + 1) 0 0 H locs ls w62 (show 0 ≤ a1.toInt by omega) (show a1.toInt ≤ 6 by omega) (by decide) (by decide) (by decide) (by decide) (Nat.lt_succ_self _) hw hT hF c63 (lv_sub hl [1, 2, 0] rfl)
abbrev P_X10_crossing_1 (ad : Nat → Nat) (cy : Nat → ClassId) (B : Int) (qr : Nat) (s1 : Int) (a1 : Int32) (a2 : Int32) (w0 : va_W) : Int32 → va_W → Prop := fun r u => TW ksC ad cy B qr s1 u ∧ FE ksC ([] : List (Nat × Nat × Nat)) w0 u ∧ (((-1) ≤ r.toInt ∧ r.toInt ≤ 1))
set_option maxHeartbeats 4000000 in
set_option maxRecDepth 100000 in
theorem k_X10_crossing_1 (l : Launch) (adK adV : Nat → Nat) (dC : Nat → ClassId) (dI : Nat → Nat → Nat) (cy : Nat → ClassId) (ad : Nat → Nat) (B : Int) (hB0 : 2147483648 ≤ B) (hB1 : B ≤ 1152921504606846976) (qr : Nat) (s1 : Int)  (a1 : Int32) (ra1 : 0 ≤ a1.toInt) (ta1 : a1.toInt ≤ 5) (a2 : Int32) (ra2 : 0 ≤ a2.toInt) (ta2 : a2.toInt ≤ 1023) (w0 : va_W) (sz : Nat) (hT : TW ksC ad cy B qr s1 w0)  : Met l yX10_crossing wsX10_crossing ({ frames := 1, cells := 0, slots := 0, locals := 12 }) (va_Pc [.ref (ad 158), .int a1, .int a2] (wpreS adK adV dC dI cy sz w0)) (va_Qi (P_X10_crossing_1 ad cy B qr s1 a1 a2 w0) (fun u : va_W => wpost dC dI cy (va_A w0 sz) u) (va_A w0 sz)) 0 0 (va_A w0 sz) := by
  refine Met.ofW (cc := cX10_crossing) (maxL := 3) (ret := (some .int)) (by decide) rfl ?_
  intro p e s m args below meth c s₁ Bk hml hv
  obtain ⟨rfl, ⟨hsz, hP, hK, hD0⟩, hE, hSR⟩ := hv
  have hx := Bk.exec
  have hb := Bk.bytes
  have hr := Bk.returns
  have hlocks := Bk.notSynchronized
  have hC : CallFix p m c cX10_crossing 3 s _ wsX10_crossing RX10 := ⟨hx, hb, hml, findClass_of_methodNamed Bk.named, atoms_spec (ws := wsX10_crossing) Bk.pre⟩
  subst hsz
  have hD := hD0.self (sz := s.heap.size)
  generalize hAe : va_A w0 s.heap.size = A at hD hE ⊢
  have hA : ∀ q : Nat, s.heap.size ≤ q → A q := fun q h => by rw [← hAe]; exact Or.inr h
  have hw : Wd dC dI A s.heap s.heap [] w0 := ⟨hP, hD, va_S.rf⟩
  have hF : FE ksC ([] : List (Nat × Nat × Nat)) w0 w0 := FE.rf
  have hl := lv_entry ([.ref (ad 158), .int a1, .int a2]) (n := 3) (Nat.le_of_ble_eq_true rfl)
  rw [lg_entry_eq]
  generalize (lg_sl ([.ref (ad 158), .int a1, .int a2]) ++ List.replicate (3 - (lg_sl ([.ref (ad 158), .int a1, .int a2])).length) Slot.unset).toArray = ls at hl ⊢
  have hl : lv_has ls 3 [(0, .ref (ad 158)), (1, .int a1), (2, .int a2)] := hl
  generalize hloc : ([] : List Loc) = locs at hw ⊢
  have hinX10 : ∀ w ∈ u_ws RX10 TX10 5, w ∈ wsX10_crossing := fun _ h => List.mem_cons_of_mem _ (List.mem_append_left _ (List.mem_append_right _ (h)))
  have hinX5 : ∀ w ∈ u_ws RX5 TX5 14, w ∈ wsX10_crossing := fun _ h => List.mem_cons_of_mem _ (List.mem_append_right _ (h))
  refine lv_iload_n hx hb dX10_crossing_0 rfl (lv_at hl 2 rfl) ?_
  refine lv_aload_n hx hb dX10_crossing_1 rfl (lv_at hl 0 rfl) ?_
  refine tk_getA hC hK hw hT hinX10 kC_at158 (by decide) rfl 0 (by decide) (List.mem_of_getElem? (i := 1) rfl) rfl rfl dX10_crossing_2 ?_
  refine tk_getO hC hK hw hT hinX5 kC_at38 (by decide) rfl 3 (by decide) (List.mem_of_getElem? (i := 2) rfl) rfl rfl dX10_crossing_5 ?_
  refine lv_iload_n hx hb dX10_crossing_8 rfl (lv_at hl 1 rfl) ?_
  refine tk_iald hC hK hw hT kC_at50 rfl rfl (show 0 ≤ a1.toInt by omega) (show a1.toInt < 6 by omega) dX10_crossing_9 (fun x1 c2 rx1 tx1 => ?_)
  refine lv_ishr hx hb dX10_crossing_10 ?_
  refine lv_topi (fun x3 ex3 => ?_)
  have bx3 : 0 ≤ x3.toInt ∧ x3.toInt ≤ a2.toInt := by rw [ex3]; exact wk_shr (by omega)
  refine lv_iconst (v := 1) hx hb dX10_crossing_11 (by decide) ?_
  refine lv_iand hx hb dX10_crossing_12 ?_
  refine lv_topi (fun x4 ex4 => ?_)
  have bx4 : 0 ≤ x4.toInt ∧ x4.toInt ≤ (1 : Int) := by rw [ex4]; exact wk_and (by decide)
  refine lv_iload_n hx hb dX10_crossing_13 rfl (lv_at hl 2 rfl) ?_
  refine lv_aload_n hx hb dX10_crossing_14 rfl (lv_at hl 0 rfl) ?_
  refine tk_getA hC hK hw hT hinX10 kC_at158 (by decide) rfl 0 (by decide) (List.mem_of_getElem? (i := 1) rfl) rfl rfl dX10_crossing_15 ?_
  refine tk_getO hC hK hw hT hinX5 kC_at38 (by decide) rfl 4 (by decide) (List.mem_of_getElem? (i := 3) rfl) rfl rfl dX10_crossing_18 ?_
  refine lv_iload_n hx hb dX10_crossing_21 rfl (lv_at hl 1 rfl) ?_
  refine tk_iald hC hK hw hT kC_at51 rfl rfl (show 0 ≤ a1.toInt by omega) (show a1.toInt < 6 by omega) dX10_crossing_22 (fun x5 c6 rx5 tx5 => ?_)
  refine lv_ishr hx hb dX10_crossing_23 ?_
  refine lv_topi (fun x7 ex7 => ?_)
  have bx7 : 0 ≤ x7.toInt ∧ x7.toInt ≤ a2.toInt := by rw [ex7]; exact wk_shr (by omega)
  refine lv_iconst (v := 1) hx hb dX10_crossing_24 (by decide) ?_
  refine lv_iand hx hb dX10_crossing_25 ?_
  refine lv_topi (fun x8 ex8 => ?_)
  have bx8 : 0 ≤ x8.toInt ∧ x8.toInt ≤ (1 : Int) := by rw [ex8]; exact wk_and (by decide)
  refine lv_isub hx hb dX10_crossing_26 ?_
  refine lv_topi (fun x9 ex9 => ?_)
  have ex9 : x9.toInt = x4.toInt - x8.toInt := by rw [ex9]; exact wk_sub (show (-2147483648) ≤ x4.toInt - x8.toInt by omega) (show x4.toInt - x8.toInt ≤ 2147483647 by omega)
  exact tk_iret hC hr hlocks hK ⟨hT, hF, ⟨(show (-1) ≤ x9.toInt by omega), (show x9.toInt ≤ 1 by omega)⟩⟩ hw dX10_crossing_27
abbrev P_X10_crossing_2 (ad : Nat → Nat) (cy : Nat → ClassId) (B : Int) (qr : Nat) (s1 : Int) (a1 : Int32) (a2 : Int32) (w0 : va_W) : Int32 → va_W → Prop := fun r u => TW ksC ad cy B qr s1 u ∧ FE ksC ([] : List (Nat × Nat × Nat)) w0 u ∧ (((-1) ≤ r.toInt ∧ r.toInt ≤ 1))
set_option maxHeartbeats 4000000 in
set_option maxRecDepth 100000 in
theorem k_X10_crossing_2 (l : Launch) (adK adV : Nat → Nat) (dC : Nat → ClassId) (dI : Nat → Nat → Nat) (cy : Nat → ClassId) (ad : Nat → Nat) (B : Int) (hB0 : 2147483648 ≤ B) (hB1 : B ≤ 1152921504606846976) (qr : Nat) (s1 : Int)  (a1 : Int32) (ra1 : 1 ≤ a1.toInt) (ta1 : a1.toInt ≤ 5) (a2 : Int32) (ra2 : 0 ≤ a2.toInt) (ta2 : a2.toInt ≤ 1023) (w0 : va_W) (sz : Nat) (hT : TW ksC ad cy B qr s1 w0)  : Met l yX10_crossing wsX10_crossing ({ frames := 1, cells := 0, slots := 0, locals := 12 }) (va_Pc [.ref (ad 158), .int a1, .int a2] (wpreS adK adV dC dI cy sz w0)) (va_Qi (P_X10_crossing_2 ad cy B qr s1 a1 a2 w0) (fun u : va_W => wpost dC dI cy (va_A w0 sz) u) (va_A w0 sz)) 0 0 (va_A w0 sz) := by
  refine Met.ofW (cc := cX10_crossing) (maxL := 3) (ret := (some .int)) (by decide) rfl ?_
  intro p e s m args below meth c s₁ Bk hml hv
  obtain ⟨rfl, ⟨hsz, hP, hK, hD0⟩, hE, hSR⟩ := hv
  have hx := Bk.exec
  have hb := Bk.bytes
  have hr := Bk.returns
  have hlocks := Bk.notSynchronized
  have hC : CallFix p m c cX10_crossing 3 s _ wsX10_crossing RX10 := ⟨hx, hb, hml, findClass_of_methodNamed Bk.named, atoms_spec (ws := wsX10_crossing) Bk.pre⟩
  subst hsz
  have hD := hD0.self (sz := s.heap.size)
  generalize hAe : va_A w0 s.heap.size = A at hD hE ⊢
  have hA : ∀ q : Nat, s.heap.size ≤ q → A q := fun q h => by rw [← hAe]; exact Or.inr h
  have hw : Wd dC dI A s.heap s.heap [] w0 := ⟨hP, hD, va_S.rf⟩
  have hF : FE ksC ([] : List (Nat × Nat × Nat)) w0 w0 := FE.rf
  have hl := lv_entry ([.ref (ad 158), .int a1, .int a2]) (n := 3) (Nat.le_of_ble_eq_true rfl)
  rw [lg_entry_eq]
  generalize (lg_sl ([.ref (ad 158), .int a1, .int a2]) ++ List.replicate (3 - (lg_sl ([.ref (ad 158), .int a1, .int a2])).length) Slot.unset).toArray = ls at hl ⊢
  have hl : lv_has ls 3 [(0, .ref (ad 158)), (1, .int a1), (2, .int a2)] := hl
  generalize hloc : ([] : List Loc) = locs at hw ⊢
  have hinX10 : ∀ w ∈ u_ws RX10 TX10 5, w ∈ wsX10_crossing := fun _ h => List.mem_cons_of_mem _ (List.mem_append_left _ (List.mem_append_right _ (h)))
  have hinX5 : ∀ w ∈ u_ws RX5 TX5 14, w ∈ wsX10_crossing := fun _ h => List.mem_cons_of_mem _ (List.mem_append_right _ (h))
  refine lv_iload_n hx hb dX10_crossing_0 rfl (lv_at hl 2 rfl) ?_
  refine lv_aload_n hx hb dX10_crossing_1 rfl (lv_at hl 0 rfl) ?_
  refine tk_getA hC hK hw hT hinX10 kC_at158 (by decide) rfl 0 (by decide) (List.mem_of_getElem? (i := 1) rfl) rfl rfl dX10_crossing_2 ?_
  refine tk_getO hC hK hw hT hinX5 kC_at38 (by decide) rfl 3 (by decide) (List.mem_of_getElem? (i := 2) rfl) rfl rfl dX10_crossing_5 ?_
  refine lv_iload_n hx hb dX10_crossing_8 rfl (lv_at hl 1 rfl) ?_
  refine tk_iald hC hK hw hT kC_at50 rfl rfl (show 0 ≤ a1.toInt by omega) (show a1.toInt < 6 by omega) dX10_crossing_9 (fun x1 c2 rx1 tx1 => ?_)
  refine lv_ishr hx hb dX10_crossing_10 ?_
  refine lv_topi (fun x3 ex3 => ?_)
  have bx3 : 0 ≤ x3.toInt ∧ x3.toInt ≤ a2.toInt := by rw [ex3]; exact wk_shr (by omega)
  refine lv_iconst (v := 1) hx hb dX10_crossing_11 (by decide) ?_
  refine lv_iand hx hb dX10_crossing_12 ?_
  refine lv_topi (fun x4 ex4 => ?_)
  have bx4 : 0 ≤ x4.toInt ∧ x4.toInt ≤ (1 : Int) := by rw [ex4]; exact wk_and (by decide)
  refine lv_iload_n hx hb dX10_crossing_13 rfl (lv_at hl 2 rfl) ?_
  refine lv_aload_n hx hb dX10_crossing_14 rfl (lv_at hl 0 rfl) ?_
  refine tk_getA hC hK hw hT hinX10 kC_at158 (by decide) rfl 0 (by decide) (List.mem_of_getElem? (i := 1) rfl) rfl rfl dX10_crossing_15 ?_
  refine tk_getO hC hK hw hT hinX5 kC_at38 (by decide) rfl 4 (by decide) (List.mem_of_getElem? (i := 3) rfl) rfl rfl dX10_crossing_18 ?_
  refine lv_iload_n hx hb dX10_crossing_21 rfl (lv_at hl 1 rfl) ?_
  refine tk_iald hC hK hw hT kC_at51 rfl rfl (show 0 ≤ a1.toInt by omega) (show a1.toInt < 6 by omega) dX10_crossing_22 (fun x5 c6 rx5 tx5 => ?_)
  refine lv_ishr hx hb dX10_crossing_23 ?_
  refine lv_topi (fun x7 ex7 => ?_)
  have bx7 : 0 ≤ x7.toInt ∧ x7.toInt ≤ a2.toInt := by rw [ex7]; exact wk_shr (by omega)
  refine lv_iconst (v := 1) hx hb dX10_crossing_24 (by decide) ?_
  refine lv_iand hx hb dX10_crossing_25 ?_
  refine lv_topi (fun x8 ex8 => ?_)
  have bx8 : 0 ≤ x8.toInt ∧ x8.toInt ≤ (1 : Int) := by rw [ex8]; exact wk_and (by decide)
  refine lv_isub hx hb dX10_crossing_26 ?_
  refine lv_topi (fun x9 ex9 => ?_)
  have ex9 : x9.toInt = x4.toInt - x8.toInt := by rw [ex9]; exact wk_sub (show (-2147483648) ≤ x4.toInt - x8.toInt by omega) (show x4.toInt - x8.toInt ≤ 2147483647 by omega)
  exact tk_iret hC hr hlocks hK ⟨hT, hF, ⟨(show (-1) ≤ x9.toInt by omega), (show x9.toInt ≤ 1 by omega)⟩⟩ hw dX10_crossing_27
abbrev P_X10_layRoads_1 (ad : Nat → Nat) (cy : Nat → ClassId) (B : Int) (qr : Nat) (s1 : Int) (a1 : Int32) (a3 : Int32) (w0 : va_W) : va_W → Prop := fun u => TW ksC ad cy B qr s1 u ∧ FE ksC [(51, 0, 10)] w0 u ∧ ((True))
set_option maxHeartbeats 4000000 in
set_option maxRecDepth 100000 in
theorem k_X10_layRoads_1 (l : Launch) (adK adV : Nat → Nat) (dC : Nat → ClassId) (dI : Nat → Nat → Nat) (cy : Nat → ClassId) (ad : Nat → Nat) (B : Int) (hB0 : 2147483648 ≤ B) (hB1 : B ≤ 1152921504606846976) (qr : Nat) (s1 : Int)  (a1 : Int32) (ra1 : 0 ≤ a1.toInt) (ta1 : a1.toInt ≤ 12) (a3 : Int32) (ra3 : 0 ≤ a3.toInt) (ta3 : a3.toInt ≤ 11) (w0 : va_W) (sz : Nat) (hT : TW ksC ad cy B qr s1 w0)  : Met l yX10_layRoads wsX10_layRoads ({ frames := 1, cells := 0, slots := 0, locals := 12 }) (va_Pc [.ref (ad 158), .int a1, .int 0, .int a3] (wpreS adK adV dC dI cy sz w0)) (va_Qv (P_X10_layRoads_1 ad cy B qr s1 a1 a3 w0) (fun u : va_W => wpost dC dI cy (va_A w0 sz) u) (va_A w0 sz)) 0 0 (va_A w0 sz) := by
  refine Met.ofW (cc := cX10_layRoads) (maxL := 8) (ret := none) (by decide) rfl ?_
  intro p e s m args below meth c s₁ Bk hml hv
  obtain ⟨rfl, ⟨hsz, hP, hK, hD0⟩, hE, hSR⟩ := hv
  have hx := Bk.exec
  have hb := Bk.bytes
  have hr := Bk.returns
  have hlocks := Bk.notSynchronized
  have hC : CallFix p m c cX10_layRoads 8 s _ wsX10_layRoads RX10 := ⟨hx, hb, hml, findClass_of_methodNamed Bk.named, atoms_spec (ws := wsX10_layRoads) Bk.pre⟩
  subst hsz
  have hD := hD0.self (sz := s.heap.size)
  generalize hAe : va_A w0 s.heap.size = A at hD hE ⊢
  have hA : ∀ q : Nat, s.heap.size ≤ q → A q := fun q h => by rw [← hAe]; exact Or.inr h
  have hw : Wd dC dI A s.heap s.heap [] w0 := ⟨hP, hD, va_S.rf⟩
  have hF : FE ksC [(51, 0, 10)] w0 w0 := FE.rf
  have hl := lv_entry ([.ref (ad 158), .int a1, .int 0, .int a3]) (n := 8) (Nat.le_of_ble_eq_true rfl)
  rw [lg_entry_eq]
  generalize (lg_sl ([.ref (ad 158), .int a1, .int 0, .int a3]) ++ List.replicate (8 - (lg_sl ([.ref (ad 158), .int a1, .int 0, .int a3])).length) Slot.unset).toArray = ls at hl ⊢
  have hl : lv_has ls 8 [(0, .ref (ad 158)), (1, .int a1), (2, .int 0), (3, .int a3)] := hl
  generalize hloc : ([] : List Loc) = locs at hw ⊢
  have hinX10 : ∀ w ∈ u_ws RX10 TX10 5, w ∈ wsX10_layRoads := fun _ h => List.mem_cons_of_mem _ (List.mem_append_left _ (List.mem_append_right _ (h)))
  have hinX7 : ∀ w ∈ u_ws RX7 TX7 12, w ∈ wsX10_layRoads := fun _ h => List.mem_cons_of_mem _ (List.mem_append_right _ (h))
  have L27 : ∀ (n27 : Nat) (v27_4 : Int32) (H : Heap) (locs : List Loc) (ls : Array Slot) (w1 : va_W), 0 ≤ a1.toInt → a1.toInt ≤ 12 → 0 ≤ a3.toInt → a3.toInt ≤ 11 → 0 ≤ v27_4.toInt → v27_4.toInt ≤ 12 → (12 - v27_4.toInt).toNat < n27 → Wd dC dI A s.heap H locs w1 → TW ksC ad cy B qr s1 w1 → FE ksC [(51, 0, 10)] w0 w1 → lv_has ls 8 [(0, .ref (ad 158)), (1, .int a1), (2, .int 0), (3, .int a3), (4, .int v27_4)] → W p l e ({ frames := 1, cells := 0, slots := 0, locals := 12 }) s m (List.toArray [.ref (ad 158), .int a1, .int 0, .int a3]) below meth c H locs 0 0 (MQ below (va_Qv (P_X10_layRoads_1 ad cy B qr s1 a1 a3 w0) (fun u : va_W => wpost dC dI cy A u) A) (List.toArray [.ref (ad 158), .int a1, .int 0, .int a3]) s 0 0 A) (F0 m 27 ls []) := by
    intro n27
    induction n27 with
    | zero => intro v27_4 H locs ls w1 r2 t3 r4 t5 r6 t7 hm27 hw hT hF hl; omega
    | succ n27 ih27 =>
      intro v27_4 H locs ls w1 r2 t3 r4 t5 r6 t7 hm27 hw hT hF hl
      have J144 : ∀ (f144_158_4 : Int32) (H : Heap) (locs : List Loc) (ls : Array Slot) (w8 : va_W), 0 ≤ a1.toInt → a1.toInt ≤ 12 → 0 ≤ a3.toInt → a3.toInt ≤ 11 → 0 ≤ v27_4.toInt → v27_4.toInt ≤ 11 → 1 ≤ f144_158_4.toInt → f144_158_4.toInt ≤ 12 → Wd dC dI A s.heap H locs w8 → TW ksC ad cy B qr s1 w8 → FE ksC [(51, 0, 10)] w0 w8 → gi w8 158 4 = f144_158_4 → lv_has ls 8 [(0, .ref (ad 158)), (1, .int a1), (2, .int 0), (3, .int a3), (4, .int v27_4)] → W p l e ({ frames := 1, cells := 0, slots := 0, locals := 12 }) s m (List.toArray [.ref (ad 158), .int a1, .int 0, .int a3]) below meth c H locs 0 0 (MQ below (va_Qv (P_X10_layRoads_1 ad cy B qr s1 a1 a3 w0) (fun u : va_W => wpost dC dI cy A u) A) (List.toArray [.ref (ad 158), .int a1, .int 0, .int a3]) s 0 0 A) (F0 m 144 ls []) := by
        intro f144_158_4 H locs ls w8 r9 t10 r11 t12 r13 t14 r15 t16 hw hT hF c17 hl
        obtain ⟨x18, ex18⟩ : ∃ y : Int32, y = v27_4 + Int32.ofInt 1 := ⟨_, rfl⟩
        refine lv_iinc (v := x18) (lv' := [(4, .int x18), (0, .ref (ad 158)), (1, .int a1), (2, .int 0), (3, .int a3)]) hx hb dX10_layRoads_144 hl (k := 4) rfl ex18.symm (by decide) rfl (fun ls hl => ?_)
        have ex18 : x18.toInt = v27_4.toInt + 1 := by rw [ex18]; exact wk_add (y := 1) (show -2147483648 ≤ v27_4.toInt + 1 by omega) (show v27_4.toInt + 1 ≤ 2147483647 by omega)
        refine lv_goto (tgt := 27) hx hb dX10_layRoads_147 (by decide) ?_
        exact ih27 x18 H locs ls w8 (show 0 ≤ a1.toInt by omega) (show a1.toInt ≤ 12 by omega) (show 0 ≤ a3.toInt by omega) (show a3.toInt ≤ 11 by omega) (show 0 ≤ x18.toInt by omega) (show x18.toInt ≤ 12 by omega) (show (12 - x18.toInt).toNat < n27 by omega) hw hT hF  (lv_sub hl [1, 2, 3, 4, 0] rfl)
      have J130 : ∀ (v130_5 : Int32) (v130_6 : Int32) (v130_7 : Int32) (f130_158_4 : Int32) (H : Heap) (locs : List Loc) (ls : Array Slot) (w19 : va_W), 0 ≤ a1.toInt → a1.toInt ≤ 12 → 0 ≤ a3.toInt → a3.toInt ≤ 11 → 0 ≤ v27_4.toInt → v27_4.toInt ≤ 11 → 0 ≤ v130_5.toInt → v130_5.toInt ≤ 9 → 0 ≤ v130_6.toInt → v130_6.toInt ≤ 9 → 0 ≤ v130_7.toInt → v130_7.toInt ≤ 1 → 1 ≤ f130_158_4.toInt → f130_158_4.toInt ≤ 12 → Wd dC dI A s.heap H locs w19 → TW ksC ad cy B qr s1 w19 → FE ksC [(51, 0, 10)] w0 w19 → gi w19 158 4 = f130_158_4 → lv_has ls 8 [(0, .ref (ad 158)), (1, .int a1), (2, .int 0), (3, .int a3), (4, .int v27_4), (5, .int v130_5), (6, .int v130_6), (7, .int v130_7)] → W p l e ({ frames := 1, cells := 0, slots := 0, locals := 12 }) s m (List.toArray [.ref (ad 158), .int a1, .int 0, .int a3]) below meth c H locs 0 0 (MQ below (va_Qv (P_X10_layRoads_1 ad cy B qr s1 a1 a3 w0) (fun u : va_W => wpost dC dI cy A u) A) (List.toArray [.ref (ad 158), .int a1, .int 0, .int a3]) s 0 0 A) (F0 m 130 ls []) := by
        intro v130_5 v130_6 v130_7 f130_158_4 H locs ls w19 r20 t21 r22 t23 r24 t25 r26 t27 r28 t29 r30 t31 r32 t33 hw hT hF c34 hl
        refine lv_aload_n hx hb dX10_layRoads_130 rfl (lv_at hl 0 rfl) ?_
        refine tk_getA hC hK hw hT hinX10 kC_at158 (by decide) rfl 3 (by decide) (List.mem_of_getElem? (i := 1) rfl) rfl rfl dX10_layRoads_131 ?_
        refine lv_iload hx hb dX10_layRoads_134 (lv_at hl 6 rfl) ?_
        refine lv_dup2_11 hx hb dX10_layRoads_136 rfl rfl ?_
        refine tk_iald hC hK hw hT kC_at160 rfl rfl (show 0 ≤ v130_6.toInt by omega) (show v130_6.toInt < 10 by omega) dX10_layRoads_137 (fun x35 c36 rx35 tx35 => ?_)
        refine lv_iconst (v := 1) hx hb dX10_layRoads_138 (by decide) ?_
        refine lv_iload hx hb dX10_layRoads_139 (lv_at hl 5 rfl) ?_
        refine lv_ishl hx hb dX10_layRoads_141 ?_
        refine lv_topi (fun x37 ex37 => ?_)
        have bx37 : 1 ≤ x37.toInt ∧ x37.toInt ≤ 512 := by rw [ex37]; exact wk_shl1 9 (by decide) (by omega) (by omega)
        refine lv_ior hx hb dX10_layRoads_142 ?_
        refine lv_topi (fun x38 ex38 => ?_)
        have bx38 : 0 ≤ x38.toInt ∧ x38.toInt < 1024 := by rw [ex38]; exact wk_or 10 (by decide) (by omega) (by omega) (by omega) (by omega)
        refine tk_iast hC hK hw hT kC_at160 (by decide) rfl rfl (show 0 ≤ v130_6.toInt by omega) (show v130_6.toInt < 10 by omega) (show 0 ≤ x38.toInt by omega) (show x38.toInt ≤ 1023 by omega) dX10_layRoads_143 (fun H locs w39 hw hT k41 c40 => ?_)
        have hF := hF.put kC_at160 (inE_of (a := 0) (b := 10) (by decide) (show 0 ≤ v130_6.toInt.toNat by omega) (show v130_6.toInt.toNat ≤ 10 by omega)) k41
        have c42 := k41.gi (Or.inl (tk_ne kC_at158 kC_at160 (by decide))) c34
        exact J144 f130_158_4 H locs ls w39 (show 0 ≤ a1.toInt by omega) (show a1.toInt ≤ 12 by omega) (show 0 ≤ a3.toInt by omega) (show a3.toInt ≤ 11 by omega) (show 0 ≤ v27_4.toInt by omega) (show v27_4.toInt ≤ 11 by omega) (show 1 ≤ f130_158_4.toInt by omega) (show f130_158_4.toInt ≤ 12 by omega)  hw hT hF c42 (lv_sub hl [0, 1, 2, 3, 4] rfl)
      have J118 : ∀ (v118_5 : Int32) (v118_6 : Int32) (v118_7 : Int32) (f118_158_4 : Int32) (H : Heap) (locs : List Loc) (ls : Array Slot) (w43 : va_W), 0 ≤ a1.toInt → a1.toInt ≤ 12 → 0 ≤ a3.toInt → a3.toInt ≤ 11 → 0 ≤ v27_4.toInt → v27_4.toInt ≤ 11 → 0 ≤ v118_5.toInt → v118_5.toInt ≤ 9 → 0 ≤ v118_6.toInt → v118_6.toInt ≤ 9 → 0 ≤ v118_7.toInt → v118_7.toInt ≤ 1 → 1 ≤ f118_158_4.toInt → f118_158_4.toInt ≤ 12 → Wd dC dI A s.heap H locs w43 → TW ksC ad cy B qr s1 w43 → FE ksC [(51, 0, 10)] w0 w43 → gi w43 158 4 = f118_158_4 → lv_has ls 8 [(0, .ref (ad 158)), (1, .int a1), (2, .int 0), (3, .int a3), (4, .int v27_4), (5, .int v118_5), (6, .int v118_6), (7, .int v118_7)] → W p l e ({ frames := 1, cells := 0, slots := 0, locals := 12 }) s m (List.toArray [.ref (ad 158), .int a1, .int 0, .int a3]) below meth c H locs 0 0 (MQ below (va_Qv (P_X10_layRoads_1 ad cy B qr s1 a1 a3 w0) (fun u : va_W => wpost dC dI cy A u) A) (List.toArray [.ref (ad 158), .int a1, .int 0, .int a3]) s 0 0 A) (F0 m 118 ls []) := by
        intro v118_5 v118_6 v118_7 f118_158_4 H locs ls w43 r44 t45 r46 t47 r48 t49 r50 t51 r52 t53 r54 t55 r56 t57 hw hT hF c58 hl
        refine lv_iload hx hb dX10_layRoads_118 (lv_at hl 4 rfl) ?_
        refine lv_iload_n hx hb dX10_layRoads_120 rfl (lv_at hl 1 rfl) ?_
        refine lv_icmp_lt (tgt := 130) hx hb dX10_layRoads_121 (by decide) (fun c59 => ?_) (fun c59 => ?_)
        · have c59 : v27_4.toInt < a1.toInt := wk_lt.mp c59
          exact J130 v118_5 v118_6 v118_7 f118_158_4 H locs ls w43 (show 0 ≤ a1.toInt by omega) (show a1.toInt ≤ 12 by omega) (show 0 ≤ a3.toInt by omega) (show a3.toInt ≤ 11 by omega) (show 0 ≤ v27_4.toInt by omega) (show v27_4.toInt ≤ 11 by omega) (show 0 ≤ v118_5.toInt by omega) (show v118_5.toInt ≤ 9 by omega) (show 0 ≤ v118_6.toInt by omega) (show v118_6.toInt ≤ 9 by omega) (show 0 ≤ v118_7.toInt by omega) (show v118_7.toInt ≤ 1 by omega) (show 1 ≤ f118_158_4.toInt by omega) (show f118_158_4.toInt ≤ 12 by omega)  hw hT hF c58 (lv_sub hl [0, 1, 2, 3, 4, 5, 6, 7] rfl)
        · have c59 : a1.toInt ≤ v27_4.toInt := wk_ltF c59
          refine lv_iload hx hb dX10_layRoads_124 (lv_at hl 7 rfl) ?_
          refine lv_iconst (v := 1) hx hb dX10_layRoads_126 (by decide) ?_
          refine lv_icmp_ne (tgt := 144) hx hb dX10_layRoads_127 (by decide) (fun c60 => ?_) (fun c60 => ?_)
          · have c60 : ¬ v118_7.toInt = (1 : Int) := wk_eqF c60
            exact J144 f118_158_4 H locs ls w43 (show 0 ≤ a1.toInt by omega) (show a1.toInt ≤ 12 by omega) (show 0 ≤ a3.toInt by omega) (show a3.toInt ≤ 11 by omega) (show 0 ≤ v27_4.toInt by omega) (show v27_4.toInt ≤ 11 by omega) (show 1 ≤ f118_158_4.toInt by omega) (show f118_158_4.toInt ≤ 12 by omega)  hw hT hF c58 (lv_sub hl [0, 1, 2, 3, 4] rfl)
          · have c60 : v118_7.toInt = (1 : Int) := wk_eq.mp c60
            exact J130 v118_5 v118_6 v118_7 f118_158_4 H locs ls w43 (show 0 ≤ a1.toInt by omega) (show a1.toInt ≤ 12 by omega) (show 0 ≤ a3.toInt by omega) (show a3.toInt ≤ 11 by omega) (show 0 ≤ v27_4.toInt by omega) (show v27_4.toInt ≤ 11 by omega) (show 0 ≤ v118_5.toInt by omega) (show v118_5.toInt ≤ 9 by omega) (show 0 ≤ v118_6.toInt by omega) (show v118_6.toInt ≤ 9 by omega) (show 0 ≤ v118_7.toInt by omega) (show v118_7.toInt ≤ 1 by omega) (show 1 ≤ f118_158_4.toInt by omega) (show f118_158_4.toInt ≤ 12 by omega)  hw hT hF c58 (lv_sub hl [0, 1, 2, 3, 4, 5, 6, 7] rfl)
      have J104 : ∀ (v104_5 : Int32) (v104_6 : Int32) (v104_7 : Int32) (f104_158_4 : Int32) (H : Heap) (locs : List Loc) (ls : Array Slot) (w61 : va_W), 0 ≤ a1.toInt → a1.toInt ≤ 12 → 0 ≤ a3.toInt → a3.toInt ≤ 11 → 0 ≤ v27_4.toInt → v27_4.toInt ≤ 11 → 0 ≤ v104_5.toInt → v104_5.toInt ≤ 9 → 0 ≤ v104_6.toInt → v104_6.toInt ≤ 9 → 0 ≤ v104_7.toInt → v104_7.toInt ≤ 1 → 1 ≤ f104_158_4.toInt → f104_158_4.toInt ≤ 12 → Wd dC dI A s.heap H locs w61 → TW ksC ad cy B qr s1 w61 → FE ksC [(51, 0, 10)] w0 w61 → gi w61 158 4 = f104_158_4 → lv_has ls 8 [(0, .ref (ad 158)), (1, .int a1), (2, .int 0), (3, .int a3), (4, .int v27_4), (5, .int v104_5), (6, .int v104_6), (7, .int v104_7)] → W p l e ({ frames := 1, cells := 0, slots := 0, locals := 12 }) s m (List.toArray [.ref (ad 158), .int a1, .int 0, .int a3]) below meth c H locs 0 0 (MQ below (va_Qv (P_X10_layRoads_1 ad cy B qr s1 a1 a3 w0) (fun u : va_W => wpost dC dI cy A u) A) (List.toArray [.ref (ad 158), .int a1, .int 0, .int a3]) s 0 0 A) (F0 m 104 ls []) := by
        intro v104_5 v104_6 v104_7 f104_158_4 H locs ls w61 r62 t63 r64 t65 r66 t67 r68 t69 r70 t71 r72 t73 r74 t75 hw hT hF c76 hl
        refine lv_aload_n hx hb dX10_layRoads_104 rfl (lv_at hl 0 rfl) ?_
        refine tk_getA hC hK hw hT hinX10 kC_at158 (by decide) rfl 3 (by decide) (List.mem_of_getElem? (i := 1) rfl) rfl rfl dX10_layRoads_105 ?_
        refine lv_iload hx hb dX10_layRoads_108 (lv_at hl 5 rfl) ?_
        refine lv_dup2_11 hx hb dX10_layRoads_110 rfl rfl ?_
        refine tk_iald hC hK hw hT kC_at160 rfl rfl (show 0 ≤ v104_5.toInt by omega) (show v104_5.toInt < 10 by omega) dX10_layRoads_111 (fun x77 c78 rx77 tx77 => ?_)
        refine lv_iconst (v := 1) hx hb dX10_layRoads_112 (by decide) ?_
        refine lv_iload hx hb dX10_layRoads_113 (lv_at hl 6 rfl) ?_
        refine lv_ishl hx hb dX10_layRoads_115 ?_
        refine lv_topi (fun x79 ex79 => ?_)
        have bx79 : 1 ≤ x79.toInt ∧ x79.toInt ≤ 512 := by rw [ex79]; exact wk_shl1 9 (by decide) (by omega) (by omega)
        refine lv_ior hx hb dX10_layRoads_116 ?_
        refine lv_topi (fun x80 ex80 => ?_)
        have bx80 : 0 ≤ x80.toInt ∧ x80.toInt < 1024 := by rw [ex80]; exact wk_or 10 (by decide) (by omega) (by omega) (by omega) (by omega)
        refine tk_iast hC hK hw hT kC_at160 (by decide) rfl rfl (show 0 ≤ v104_5.toInt by omega) (show v104_5.toInt < 10 by omega) (show 0 ≤ x80.toInt by omega) (show x80.toInt ≤ 1023 by omega) dX10_layRoads_117 (fun H locs w81 hw hT k83 c82 => ?_)
        have hF := hF.put kC_at160 (inE_of (a := 0) (b := 10) (by decide) (show 0 ≤ v104_5.toInt.toNat by omega) (show v104_5.toInt.toNat ≤ 10 by omega)) k83
        have c84 := k83.gi (Or.inl (tk_ne kC_at158 kC_at160 (by decide))) c76
        exact J118 v104_5 v104_6 v104_7 f104_158_4 H locs ls w81 (show 0 ≤ a1.toInt by omega) (show a1.toInt ≤ 12 by omega) (show 0 ≤ a3.toInt by omega) (show a3.toInt ≤ 11 by omega) (show 0 ≤ v27_4.toInt by omega) (show v27_4.toInt ≤ 11 by omega) (show 0 ≤ v104_5.toInt by omega) (show v104_5.toInt ≤ 9 by omega) (show 0 ≤ v104_6.toInt by omega) (show v104_6.toInt ≤ 9 by omega) (show 0 ≤ v104_7.toInt by omega) (show v104_7.toInt ≤ 1 by omega) (show 1 ≤ f104_158_4.toInt by omega) (show f104_158_4.toInt ≤ 12 by omega)  hw hT hF c84 (lv_sub hl [0, 1, 2, 3, 4, 5, 6, 7] rfl)
      refine lv_iload hx hb dX10_layRoads_27 (lv_at hl 4 rfl) ?_
      refine lv_aload_n hx hb dX10_layRoads_29 rfl (lv_at hl 0 rfl) ?_
      refine tk_geti hC hK hw hT hinX10 kC_at158 (by decide) rfl 4 (by decide) (List.mem_of_getElem? (i := 2) rfl) rfl rfl dX10_layRoads_30 (fun x85 c86 rx85 tx85 => ?_)
      refine lv_icmp_ge (tgt := 150) hx hb dX10_layRoads_33 (by decide) (fun c87 => ?_) (fun c87 => ?_)
      · have c87 : x85.toInt ≤ v27_4.toInt := wk_le.mp c87
        exact tk_vret hC hr hlocks hK ⟨hT, hF, trivial⟩ hw dX10_layRoads_150
      · have c87 : v27_4.toInt < x85.toInt := wk_leF c87
        refine lv_iload hx hb dX10_layRoads_36 (lv_at hl 4 rfl) ?_
        refine lv_iload_n hx hb dX10_layRoads_38 rfl (lv_at hl 3 rfl) ?_
        refine lv_icmp_ne (tgt := 45) hx hb dX10_layRoads_39 (by decide) (fun c88 => ?_) (fun c88 => ?_)
        · have c88 : ¬ v27_4.toInt = a3.toInt := wk_eqF c88
          refine lv_aload_n hx hb dX10_layRoads_45 rfl (lv_at hl 0 rfl) ?_
          refine tk_getA hC hK hw hT hinX10 kC_at158 (by decide) rfl 1 (by decide) (List.mem_of_getElem? (i := 3) rfl) rfl rfl dX10_layRoads_46 ?_
          refine tk_getO hC hK hw hT hinX7 kC_at39 (by decide) rfl 0 (by decide) (List.mem_of_getElem? (i := 4) rfl) rfl rfl dX10_layRoads_49 ?_
          refine lv_iconst (v := 2) hx hb dX10_layRoads_52 (by decide) ?_
          refine lv_aload_n hx hb dX10_layRoads_53 rfl (lv_at hl 0 rfl) ?_
          refine tk_getA hC hK hw hT hinX10 kC_at158 (by decide) rfl 2 (by decide) (List.mem_of_getElem? (i := 5) rfl) rfl rfl dX10_layRoads_54 ?_
          refine lv_iload hx hb dX10_layRoads_57 (lv_at hl 4 rfl) ?_
          refine tk_iald hC hK hw hT kC_at159 rfl rfl (show 0 ≤ v27_4.toInt by omega) (show v27_4.toInt < 12 by omega) dX10_layRoads_59 (fun x89 c90 rx89 tx89 => ?_)
          refine lv_imul hx hb dX10_layRoads_60 ?_
          refine lv_topi (fun x91 ex91 => ?_)
          have ex91 : x91.toInt = (2 : Int) * x89.toInt := by rw [ex91]; exact wk_mul (show (-2147483648) ≤ (2 : Int) * x89.toInt by omega) (show (2 : Int) * x89.toInt ≤ 2147483647 by omega)
          refine tk_iald hC hK hw hT kC_at40 rfl rfl (show 0 ≤ x91.toInt by omega) (show x91.toInt < 26 by omega) dX10_layRoads_61 (fun x92 c93 rx92 tx92 => ?_)
          refine lv_istore (lv' := [(5, .int x92), (0, .ref (ad 158)), (1, .int a1), (2, .int 0), (3, .int a3), (4, .int v27_4)]) hx hb dX10_layRoads_62 hl (by decide) rfl (fun ls hl => ?_)
          refine lv_aload_n hx hb dX10_layRoads_64 rfl (lv_at hl 1 rfl) ?_
          refine tk_getA hC hK hw hT hinX10 kC_at158 (by decide) rfl 1 (by decide) (List.mem_of_getElem? (i := 3) rfl) rfl rfl dX10_layRoads_65 ?_
          refine tk_getO hC hK hw hT hinX7 kC_at39 (by decide) rfl 0 (by decide) (List.mem_of_getElem? (i := 4) rfl) rfl rfl dX10_layRoads_68 ?_
          refine lv_iconst (v := 2) hx hb dX10_layRoads_71 (by decide) ?_
          refine lv_aload_n hx hb dX10_layRoads_72 rfl (lv_at hl 1 rfl) ?_
          refine tk_getA hC hK hw hT hinX10 kC_at158 (by decide) rfl 2 (by decide) (List.mem_of_getElem? (i := 5) rfl) rfl rfl dX10_layRoads_73 ?_
          refine lv_iload hx hb dX10_layRoads_76 (lv_at hl 5 rfl) ?_
          refine tk_iald hC hK hw hT kC_at159 rfl rfl (show 0 ≤ v27_4.toInt by omega) (show v27_4.toInt < 12 by omega) dX10_layRoads_78 (fun x94 c95 rx94 tx94 => ?_)
          refine lv_imul hx hb dX10_layRoads_79 ?_
          refine lv_topi (fun x96 ex96 => ?_)
          have ex96 : x96.toInt = (2 : Int) * x94.toInt := by rw [ex96]; exact wk_mul (show (-2147483648) ≤ (2 : Int) * x94.toInt by omega) (show (2 : Int) * x94.toInt ≤ 2147483647 by omega)
          refine lv_iconst (v := 1) hx hb dX10_layRoads_80 (by decide) ?_
          refine lv_iadd hx hb dX10_layRoads_81 ?_
          refine lv_topi (fun x97 ex97 => ?_)
          have ex97 : x97.toInt = x96.toInt + (1 : Int) := by rw [ex97]; exact wk_add (show (-2147483648) ≤ x96.toInt + (1 : Int) by omega) (show x96.toInt + (1 : Int) ≤ 2147483647 by omega)
          refine tk_iald hC hK hw hT kC_at40 rfl rfl (show 0 ≤ x97.toInt by omega) (show x97.toInt < 26 by omega) dX10_layRoads_82 (fun x98 c99 rx98 tx98 => ?_)
          refine lv_istore (lv' := [(6, .int x98), (5, .int x92), (0, .ref (ad 158)), (1, .int a1), (2, .int 0), (3, .int a3), (4, .int v27_4)]) hx hb dX10_layRoads_83 hl (by decide) rfl (fun ls hl => ?_)
          refine lv_iload_n hx hb dX10_layRoads_85 rfl (lv_at hl 4 rfl) ?_
          refine lv_iload hx hb dX10_layRoads_86 (lv_at hl 6 rfl) ?_
          refine lv_ishr hx hb dX10_layRoads_88 ?_
          refine lv_topi (fun x100 ex100 => ?_)
          have bx100 : 0 ≤ x100.toInt ∧ x100.toInt ≤ (0 : Int) := by rw [ex100]; exact wk_shr (by decide)
          refine lv_iconst (v := 1) hx hb dX10_layRoads_89 (by decide) ?_
          refine lv_iand hx hb dX10_layRoads_90 ?_
          refine lv_topi (fun x101 ex101 => ?_)
          have bx101 : 0 ≤ x101.toInt ∧ x101.toInt ≤ (1 : Int) := by rw [ex101]; exact wk_and (by decide)
          refine lv_istore (lv' := [(7, .int x101), (6, .int x98), (5, .int x92), (0, .ref (ad 158)), (1, .int a1), (2, .int 0), (3, .int a3), (4, .int v27_4)]) hx hb dX10_layRoads_91 hl (by decide) rfl (fun ls hl => ?_)
          refine lv_iload hx hb dX10_layRoads_93 (lv_at hl 7 rfl) ?_
          refine lv_iload_n hx hb dX10_layRoads_95 rfl (lv_at hl 4 rfl) ?_
          refine lv_icmp_lt (tgt := 104) hx hb dX10_layRoads_96 (by decide) (fun c102 => ?_) (fun c102 => ?_)
          · have c102 : v27_4.toInt < a1.toInt := wk_lt.mp c102
            exact J104 x92 x98 x101 x85 H locs ls w1 (show 0 ≤ a1.toInt by omega) (show a1.toInt ≤ 12 by omega) (show 0 ≤ a3.toInt by omega) (show a3.toInt ≤ 11 by omega) (show 0 ≤ v27_4.toInt by omega) (show v27_4.toInt ≤ 11 by omega) (show 0 ≤ x92.toInt by omega) (show x92.toInt ≤ 9 by omega) (show 0 ≤ x98.toInt by omega) (show x98.toInt ≤ 9 by omega) (show 0 ≤ x101.toInt by omega) (show x101.toInt ≤ 1 by omega) (show 1 ≤ x85.toInt by omega) (show x85.toInt ≤ 12 by omega)  hw hT hF c86 (lv_sub hl [3, 4, 5, 6, 7, 2, 1, 0] rfl)
          · have c102 : a1.toInt ≤ v27_4.toInt := wk_ltF c102
            refine lv_iload hx hb dX10_layRoads_99 (lv_at hl 0 rfl) ?_
            refine lv_if_ne (tgt := 118) hx hb dX10_layRoads_101 (by decide) (fun c103 => ?_) (fun c103 => ?_)
            · have c103 : ¬ x101.toInt = (0 : Int) := wk_eqF c103
              exact J118 x92 x98 x101 x85 H locs ls w1 (show 0 ≤ a1.toInt by omega) (show a1.toInt ≤ 12 by omega) (show 0 ≤ a3.toInt by omega) (show a3.toInt ≤ 11 by omega) (show 0 ≤ v27_4.toInt by omega) (show v27_4.toInt ≤ 11 by omega) (show 0 ≤ x92.toInt by omega) (show x92.toInt ≤ 9 by omega) (show 0 ≤ x98.toInt by omega) (show x98.toInt ≤ 9 by omega) (show 0 ≤ x101.toInt by omega) (show x101.toInt ≤ 1 by omega) (show 1 ≤ x85.toInt by omega) (show x85.toInt ≤ 12 by omega)  hw hT hF c86 (lv_sub hl [3, 4, 5, 6, 7, 2, 1, 0] rfl)
            · have c103 : x101.toInt = (0 : Int) := wk_eq.mp c103
              exact J104 x92 x98 x101 x85 H locs ls w1 (show 0 ≤ a1.toInt by omega) (show a1.toInt ≤ 12 by omega) (show 0 ≤ a3.toInt by omega) (show a3.toInt ≤ 11 by omega) (show 0 ≤ v27_4.toInt by omega) (show v27_4.toInt ≤ 11 by omega) (show 0 ≤ x92.toInt by omega) (show x92.toInt ≤ 9 by omega) (show 0 ≤ x98.toInt by omega) (show x98.toInt ≤ 9 by omega) (show 0 ≤ x101.toInt by omega) (show x101.toInt ≤ 1 by omega) (show 1 ≤ x85.toInt by omega) (show x85.toInt ≤ 12 by omega)  hw hT hF c86 (lv_sub hl [3, 4, 5, 6, 7, 2, 1, 0] rfl)
        · have c88 : v27_4.toInt = a3.toInt := wk_eq.mp c88
          refine lv_goto (tgt := 144) hx hb dX10_layRoads_42 (by decide) ?_
          exact J144 x85 H locs ls w1 (show 0 ≤ a1.toInt by omega) (show a1.toInt ≤ 12 by omega) (show 0 ≤ a3.toInt by omega) (show a3.toInt ≤ 11 by omega) (show 0 ≤ v27_4.toInt by omega) (show v27_4.toInt ≤ 11 by omega) (show 1 ≤ x85.toInt by omega) (show x85.toInt ≤ 12 by omega)  hw hT hF c86 (lv_sub hl [0, 1, 2, 3, 4] rfl)
  have L3 : ∀ (n3 : Nat) (v3_4 : Int32) (H : Heap) (locs : List Loc) (ls : Array Slot) (w104 : va_W), 0 ≤ a1.toInt → a1.toInt ≤ 12 → 0 ≤ a3.toInt → a3.toInt ≤ 11 → 0 ≤ v3_4.toInt → v3_4.toInt ≤ 10 → (10 - v3_4.toInt).toNat < n3 → Wd dC dI A s.heap H locs w104 → TW ksC ad cy B qr s1 w104 → FE ksC [(51, 0, 10)] w0 w104 → lv_has ls 8 [(0, .ref (ad 158)), (1, .int a1), (2, .int 0), (3, .int a3), (4, .int v3_4)] → W p l e ({ frames := 1, cells := 0, slots := 0, locals := 12 }) s m (List.toArray [.ref (ad 158), .int a1, .int 0, .int a3]) below meth c H locs 0 0 (MQ below (va_Qv (P_X10_layRoads_1 ad cy B qr s1 a1 a3 w0) (fun u : va_W => wpost dC dI cy A u) A) (List.toArray [.ref (ad 158), .int a1, .int 0, .int a3]) s 0 0 A) (F0 m 3 ls []) := by
    intro n3
    induction n3 with
    | zero => intro v3_4 H locs ls w104 r105 t106 r107 t108 r109 t110 hm3 hw hT hF hl; omega
    | succ n3 ih3 =>
      intro v3_4 H locs ls w104 r105 t106 r107 t108 r109 t110 hm3 hw hT hF hl
      refine lv_iload hx hb dX10_layRoads_3 (lv_at hl 4 rfl) ?_
      refine lv_bipush (v := 10) hx hb dX10_layRoads_5 (by decide) ?_
      refine lv_icmp_ge (tgt := 24) hx hb dX10_layRoads_7 (by decide) (fun c111 => ?_) (fun c111 => ?_)
      · have c111 : (10 : Int) ≤ v3_4.toInt := wk_le.mp c111
        refine lv_iconst (v := 0) hx hb dX10_layRoads_24 (by decide) ?_
        refine lv_istore (lv' := [(4, .int 0), (0, .ref (ad 158)), (1, .int a1), (2, .int 0), (3, .int a3)]) hx hb dX10_layRoads_25 hl (by decide) rfl (fun ls hl => ?_)
        exact L27 ((12 - (0 : Int)).toNat + 1) 0 H locs ls w104 (show 0 ≤ a1.toInt by omega) (show a1.toInt ≤ 12 by omega) (show 0 ≤ a3.toInt by omega) (show a3.toInt ≤ 11 by omega) (by decide) (by decide) (Nat.lt_succ_self _) hw hT hF  (lv_sub hl [1, 2, 3, 4, 0] rfl)
      · have c111 : v3_4.toInt < (10 : Int) := wk_leF c111
        refine lv_aload_n hx hb dX10_layRoads_10 rfl (lv_at hl 0 rfl) ?_
        refine tk_getA hC hK hw hT hinX10 kC_at158 (by decide) rfl 3 (by decide) (List.mem_of_getElem? (i := 1) rfl) rfl rfl dX10_layRoads_11 ?_
        refine lv_iload hx hb dX10_layRoads_14 (lv_at hl 4 rfl) ?_
        refine lv_iconst (v := 0) hx hb dX10_layRoads_16 (by decide) ?_
        refine tk_iast hC hK hw hT kC_at160 (by decide) rfl rfl (show 0 ≤ v3_4.toInt by omega) (show v3_4.toInt < 10 by omega) (by decide) (by decide) dX10_layRoads_17 (fun H locs w112 hw hT k114 c113 => ?_)
        have hF := hF.put kC_at160 (inE_of (a := 0) (b := 10) (by decide) (show 0 ≤ v3_4.toInt.toNat by omega) (show v3_4.toInt.toNat ≤ 10 by omega)) k114
        obtain ⟨x115, ex115⟩ : ∃ y : Int32, y = v3_4 + Int32.ofInt 1 := ⟨_, rfl⟩
        refine lv_iinc (v := x115) (lv' := [(4, .int x115), (0, .ref (ad 158)), (1, .int a1), (2, .int 0), (3, .int a3)]) hx hb dX10_layRoads_18 hl (k := 4) rfl ex115.symm (by decide) rfl (fun ls hl => ?_)
        have ex115 : x115.toInt = v3_4.toInt + 1 := by rw [ex115]; exact wk_add (y := 1) (show -2147483648 ≤ v3_4.toInt + 1 by omega) (show v3_4.toInt + 1 ≤ 2147483647 by omega)
        refine lv_goto (tgt := 3) hx hb dX10_layRoads_21 (by decide) ?_
        exact ih3 x115 H locs ls w112 (show 0 ≤ a1.toInt by omega) (show a1.toInt ≤ 12 by omega) (show 0 ≤ a3.toInt by omega) (show a3.toInt ≤ 11 by omega) (show 0 ≤ x115.toInt by omega) (show x115.toInt ≤ 10 by omega) (show (10 - x115.toInt).toNat < n3 by omega) hw hT hF  (lv_sub hl [1, 2, 3, 4, 0] rfl)
  refine lv_iconst (v := 0) hx hb dX10_layRoads_0 (by decide) ?_
  refine lv_istore (lv' := [(4, .int 0), (0, .ref (ad 158)), (1, .int a1), (2, .int 0), (3, .int a3)]) hx hb dX10_layRoads_1 hl (by decide) rfl (fun ls hl => ?_)
  exact L3 ((10 - (0 : Int)).toNat + 1) 0 s.heap locs ls w0 (show 0 ≤ a1.toInt by omega) (show a1.toInt ≤ 12 by omega) (show 0 ≤ a3.toInt by omega) (show a3.toInt ≤ 11 by omega) (by decide) (by decide) (Nat.lt_succ_self _) hw hT hF  (lv_sub hl [1, 2, 3, 4, 0] rfl)
abbrev P_X10_cornersFrom_1 (ad : Nat → Nat) (cy : Nat → ClassId) (B : Int) (qr : Nat) (s1 : Int) (a1 : Int32) (w0 : va_W) : Int32 → va_W → Prop := fun r u => TW ksC ad cy B qr s1 u ∧ FE ksC ([] : List (Nat × Nat × Nat)) w0 u ∧ ((0 ≤ r.toInt ∧ r.toInt ≤ 1023))
set_option maxHeartbeats 4000000 in
set_option maxRecDepth 100000 in
theorem k_X10_cornersFrom_1 (l : Launch) (adK adV : Nat → Nat) (dC : Nat → ClassId) (dI : Nat → Nat → Nat) (cy : Nat → ClassId) (ad : Nat → Nat) (B : Int) (hB0 : 2147483648 ≤ B) (hB1 : B ≤ 1152921504606846976) (qr : Nat) (s1 : Int)  (a1 : Int32) (ra1 : 0 ≤ a1.toInt) (ta1 : a1.toInt ≤ 9) (w0 : va_W) (sz : Nat) (hT : TW ksC ad cy B qr s1 w0)  : Met l yX10_cornersFrom wsX10_cornersFrom ({ frames := 1, cells := 0, slots := 0, locals := 12 }) (va_Pc [.ref (ad 158), .int a1] (wpreS adK adV dC dI cy sz w0)) (va_Qi (P_X10_cornersFrom_1 ad cy B qr s1 a1 w0) (fun u : va_W => wpost dC dI cy (va_A w0 sz) u) (va_A w0 sz)) 0 0 (va_A w0 sz) := by
  refine Met.ofW (cc := cX10_cornersFrom) (maxL := 7) (ret := (some .int)) (by decide) rfl ?_
  intro p e s m args below meth c s₁ Bk hml hv
  obtain ⟨rfl, ⟨hsz, hP, hK, hD0⟩, hE, hSR⟩ := hv
  have hx := Bk.exec
  have hb := Bk.bytes
  have hr := Bk.returns
  have hlocks := Bk.notSynchronized
  have hC : CallFix p m c cX10_cornersFrom 7 s _ wsX10_cornersFrom RX10 := ⟨hx, hb, hml, findClass_of_methodNamed Bk.named, atoms_spec (ws := wsX10_cornersFrom) Bk.pre⟩
  subst hsz
  have hD := hD0.self (sz := s.heap.size)
  generalize hAe : va_A w0 s.heap.size = A at hD hE ⊢
  have hA : ∀ q : Nat, s.heap.size ≤ q → A q := fun q h => by rw [← hAe]; exact Or.inr h
  have hw : Wd dC dI A s.heap s.heap [] w0 := ⟨hP, hD, va_S.rf⟩
  have hF : FE ksC ([] : List (Nat × Nat × Nat)) w0 w0 := FE.rf
  have hl := lv_entry ([.ref (ad 158), .int a1]) (n := 7) (Nat.le_of_ble_eq_true rfl)
  rw [lg_entry_eq]
  generalize (lg_sl ([.ref (ad 158), .int a1]) ++ List.replicate (7 - (lg_sl ([.ref (ad 158), .int a1])).length) Slot.unset).toArray = ls at hl ⊢
  have hl : lv_has ls 7 [(0, .ref (ad 158)), (1, .int a1)] := hl
  generalize hloc : ([] : List Loc) = locs at hw ⊢
  have hinX10 : ∀ w ∈ u_ws RX10 TX10 5, w ∈ wsX10_cornersFrom := fun _ h => List.mem_cons_of_mem _ (List.mem_append_left _ (List.mem_append_right _ (h)))
  have hinX7 : ∀ w ∈ u_ws RX7 TX7 12, w ∈ wsX10_cornersFrom := fun _ h => List.mem_cons_of_mem _ (List.mem_append_right _ (h))
  have J87 : ∀ (v87_2 : Int32) (v87_3 : Int32) (v87_4 : Int32) (H : Heap) (locs : List Loc) (ls : Array Slot) (w1 : va_W), 0 ≤ a1.toInt → a1.toInt ≤ 9 → 0 ≤ v87_2.toInt → v87_2.toInt ≤ 1023 → 0 ≤ v87_3.toInt → v87_3.toInt ≤ 1023 → 0 ≤ v87_4.toInt → v87_4.toInt ≤ 10 → Wd dC dI A s.heap H locs w1 → TW ksC ad cy B qr s1 w1 → FE ksC ([] : List (Nat × Nat × Nat)) w0 w1 → lv_has ls 7 [(0, .ref (ad 158)), (1, .int a1), (2, .int v87_2), (3, .int v87_3), (4, .int v87_4)] → W p l e ({ frames := 1, cells := 0, slots := 0, locals := 12 }) s m (List.toArray [.ref (ad 158), .int a1]) below meth c H locs 0 0 (MQ below (va_Qi (P_X10_cornersFrom_1 ad cy B qr s1 a1 w0) (fun u : va_W => wpost dC dI cy A u) A) (List.toArray [.ref (ad 158), .int a1]) s 0 0 A) (F0 m 87 ls []) := by
    intro v87_2 v87_3 v87_4 H locs ls w1 r2 t3 r4 t5 r6 t7 r8 t9 hw hT hF hl
    refine lv_iload_n hx hb dX10_cornersFrom_87 rfl (lv_at hl 2 rfl) ?_
    exact tk_iret hC hr hlocks hK ⟨hT, hF, ⟨(show 0 ≤ v87_2.toInt by omega), (show v87_2.toInt ≤ 1023 by omega)⟩⟩ hw dX10_cornersFrom_88
  have L9 : ∀ (n9 : Nat) (v9_2 : Int32) (v9_3 : Int32) (v9_4 : Int32) (H : Heap) (locs : List Loc) (ls : Array Slot) (w10 : va_W), 0 ≤ a1.toInt → a1.toInt ≤ 9 → 0 ≤ v9_2.toInt → v9_2.toInt ≤ 1023 → 0 ≤ v9_3.toInt → v9_3.toInt ≤ 1023 → 0 ≤ v9_4.toInt → v9_4.toInt ≤ 10 → (10 - v9_4.toInt).toNat < n9 → Wd dC dI A s.heap H locs w10 → TW ksC ad cy B qr s1 w10 → FE ksC ([] : List (Nat × Nat × Nat)) w0 w10 → lv_has ls 7 [(0, .ref (ad 158)), (1, .int a1), (2, .int v9_2), (3, .int v9_3), (4, .int v9_4)] → W p l e ({ frames := 1, cells := 0, slots := 0, locals := 12 }) s m (List.toArray [.ref (ad 158), .int a1]) below meth c H locs 0 0 (MQ below (va_Qi (P_X10_cornersFrom_1 ad cy B qr s1 a1 w0) (fun u : va_W => wpost dC dI cy A u) A) (List.toArray [.ref (ad 158), .int a1]) s 0 0 A) (F0 m 9 ls []) := by
    intro n9
    induction n9 with
    | zero => intro v9_2 v9_3 v9_4 H locs ls w10 r11 t12 r13 t14 r15 t16 r17 t18 hm9 hw hT hF hl; omega
    | succ n9 ih9 =>
      intro v9_2 v9_3 v9_4 H locs ls w10 r11 t12 r13 t14 r15 t16 r17 t18 hm9 hw hT hF hl
      have L26 : ∀ (n26 : Nat) (v26_5 : Int32) (v26_6 : Int32) (H : Heap) (locs : List Loc) (ls : Array Slot) (w19 : va_W), 0 ≤ a1.toInt → a1.toInt ≤ 9 → 0 ≤ v9_2.toInt → v9_2.toInt ≤ 1023 → 1 ≤ v9_3.toInt → v9_3.toInt ≤ 1023 → 0 ≤ v9_4.toInt → v9_4.toInt ≤ 9 → 0 ≤ v26_5.toInt → v26_5.toInt ≤ 1023 → 0 ≤ v26_6.toInt → v26_6.toInt ≤ 10 → (10 - v26_6.toInt).toNat < n26 → Wd dC dI A s.heap H locs w19 → TW ksC ad cy B qr s1 w19 → FE ksC ([] : List (Nat × Nat × Nat)) w0 w19 → lv_has ls 7 [(0, .ref (ad 158)), (1, .int a1), (2, .int v9_2), (3, .int v9_3), (4, .int v9_4), (5, .int v26_5), (6, .int v26_6)] → W p l e ({ frames := 1, cells := 0, slots := 0, locals := 12 }) s m (List.toArray [.ref (ad 158), .int a1]) below meth c H locs 0 0 (MQ below (va_Qi (P_X10_cornersFrom_1 ad cy B qr s1 a1 w0) (fun u : va_W => wpost dC dI cy A u) A) (List.toArray [.ref (ad 158), .int a1]) s 0 0 A) (F0 m 26 ls []) := by
        intro n26
        induction n26 with
        | zero => intro v26_5 v26_6 H locs ls w19 r20 t21 r22 t23 r24 t25 r26 t27 r28 t29 r30 t31 hm26 hw hT hF hl; omega
        | succ n26 ih26 =>
          intro v26_5 v26_6 H locs ls w19 r20 t21 r22 t23 r24 t25 r26 t27 r28 t29 r30 t31 hm26 hw hT hF hl
          have J59 : ∀ (v59_5 : Int32) (f59_39_8 : Int32) (H : Heap) (locs : List Loc) (ls : Array Slot) (w32 : va_W), 0 ≤ a1.toInt → a1.toInt ≤ 9 → 0 ≤ v9_2.toInt → v9_2.toInt ≤ 1023 → 1 ≤ v9_3.toInt → v9_3.toInt ≤ 1023 → 0 ≤ v9_4.toInt → v9_4.toInt ≤ 9 → 0 ≤ v59_5.toInt → v59_5.toInt ≤ 1023 → 0 ≤ v26_6.toInt → v26_6.toInt ≤ 9 → 1 ≤ f59_39_8.toInt → f59_39_8.toInt ≤ 10 → Wd dC dI A s.heap H locs w32 → TW ksC ad cy B qr s1 w32 → FE ksC ([] : List (Nat × Nat × Nat)) w0 w32 → gi w32 39 8 = f59_39_8 → lv_has ls 7 [(0, .ref (ad 158)), (1, .int a1), (2, .int v9_2), (3, .int v9_3), (4, .int v9_4), (5, .int v59_5), (6, .int v26_6)] → W p l e ({ frames := 1, cells := 0, slots := 0, locals := 12 }) s m (List.toArray [.ref (ad 158), .int a1]) below meth c H locs 0 0 (MQ below (va_Qi (P_X10_cornersFrom_1 ad cy B qr s1 a1 w0) (fun u : va_W => wpost dC dI cy A u) A) (List.toArray [.ref (ad 158), .int a1]) s 0 0 A) (F0 m 59 ls []) := by
            intro v59_5 f59_39_8 H locs ls w32 r33 t34 r35 t36 r37 t38 r39 t40 r41 t42 r43 t44 r45 t46 hw hT hF c47 hl
            obtain ⟨x48, ex48⟩ : ∃ y : Int32, y = v26_6 + Int32.ofInt 1 := ⟨_, rfl⟩
            refine lv_iinc (v := x48) (lv' := [(6, .int x48), (0, .ref (ad 158)), (1, .int a1), (2, .int v9_2), (3, .int v9_3), (4, .int v9_4), (5, .int v59_5)]) hx hb dX10_cornersFrom_59 hl (k := 6) rfl ex48.symm (by decide) rfl (fun ls hl => ?_)
            have ex48 : x48.toInt = v26_6.toInt + 1 := by rw [ex48]; exact wk_add (y := 1) (show -2147483648 ≤ v26_6.toInt + 1 by omega) (show v26_6.toInt + 1 ≤ 2147483647 by omega)
            refine lv_goto (tgt := 26) hx hb dX10_cornersFrom_62 (by decide) ?_
            exact ih26 v59_5 x48 H locs ls w32 (show 0 ≤ a1.toInt by omega) (show a1.toInt ≤ 9 by omega) (show 0 ≤ v9_2.toInt by omega) (show v9_2.toInt ≤ 1023 by omega) (show 1 ≤ v9_3.toInt by omega) (show v9_3.toInt ≤ 1023 by omega) (show 0 ≤ v9_4.toInt by omega) (show v9_4.toInt ≤ 9 by omega) (show 0 ≤ v59_5.toInt by omega) (show v59_5.toInt ≤ 1023 by omega) (show 0 ≤ x48.toInt by omega) (show x48.toInt ≤ 10 by omega) (show (10 - x48.toInt).toNat < n26 by omega) hw hT hF  (lv_sub hl [1, 2, 3, 4, 5, 6, 0] rfl)
          refine lv_iload hx hb dX10_cornersFrom_26 (lv_at hl 6 rfl) ?_
          refine lv_aload_n hx hb dX10_cornersFrom_28 rfl (lv_at hl 0 rfl) ?_
          refine tk_getA hC hK hw hT hinX10 kC_at158 (by decide) rfl 1 (by decide) (List.mem_of_getElem? (i := 1) rfl) rfl rfl dX10_cornersFrom_29 ?_
          refine tk_geti hC hK hw hT hinX7 kC_at39 (by decide) rfl 8 (by decide) (List.mem_of_getElem? (i := 2) rfl) rfl rfl dX10_cornersFrom_32 (fun x49 c50 rx49 tx49 => ?_)
          refine lv_icmp_ge (tgt := 65) hx hb dX10_cornersFrom_35 (by decide) (fun c51 => ?_) (fun c51 => ?_)
          · have c51 : x49.toInt ≤ v26_6.toInt := wk_le.mp c51
            refine lv_iload hx hb dX10_cornersFrom_65 (lv_at hl 5 rfl) ?_
            refine lv_iload_n hx hb dX10_cornersFrom_67 rfl (lv_at hl 2 rfl) ?_
            refine lv_iconst (v := (-1)) hx hb dX10_cornersFrom_68 (by decide) ?_
            refine lv_ixor hx hb dX10_cornersFrom_69 ?_
            refine lv_topi (fun x52 ex52 => ?_)
            refine lv_iand hx hb dX10_cornersFrom_70 ?_
            refine lv_topi (fun x53 ex53 => ?_)
            have bx53 : 0 ≤ x53.toInt ∧ x53.toInt ≤ v26_5.toInt := by rw [ex53]; exact wk_andC (by omega)
            refine lv_sipush (v := 1023) hx hb dX10_cornersFrom_71 (by decide) ?_
            refine lv_iand hx hb dX10_cornersFrom_74 ?_
            refine lv_topi (fun x54 ex54 => ?_)
            have bx54 : 0 ≤ x54.toInt ∧ x54.toInt ≤ (1023 : Int) := by rw [ex54]; exact wk_and (by decide)
            refine lv_istore_n (lv' := [(3, .int x54), (0, .ref (ad 158)), (1, .int a1), (2, .int v9_2), (4, .int v9_4), (5, .int v26_5), (6, .int v26_6)]) hx hb dX10_cornersFrom_75 rfl hl (by decide) rfl (fun ls hl => ?_)
            refine lv_iload_n hx hb dX10_cornersFrom_76 rfl (lv_at hl 3 rfl) ?_
            refine lv_iload hx hb dX10_cornersFrom_77 (lv_at hl 5 rfl) ?_
            refine lv_ior hx hb dX10_cornersFrom_79 ?_
            refine lv_topi (fun x55 ex55 => ?_)
            have bx55 : 0 ≤ x55.toInt ∧ x55.toInt < 1024 := by rw [ex55]; exact wk_or 10 (by decide) (by omega) (by omega) (by omega) (by omega)
            refine lv_istore_n (lv' := [(2, .int x55), (3, .int x54), (0, .ref (ad 158)), (1, .int a1), (4, .int v9_4), (5, .int v26_5), (6, .int v26_6)]) hx hb dX10_cornersFrom_80 rfl hl (by decide) rfl (fun ls hl => ?_)
            obtain ⟨x56, ex56⟩ : ∃ y : Int32, y = v9_4 + Int32.ofInt 1 := ⟨_, rfl⟩
            refine lv_iinc (v := x56) (lv' := [(4, .int x56), (2, .int x55), (3, .int x54), (0, .ref (ad 158)), (1, .int a1), (5, .int v26_5), (6, .int v26_6)]) hx hb dX10_cornersFrom_81 hl (k := 4) rfl ex56.symm (by decide) rfl (fun ls hl => ?_)
            have ex56 : x56.toInt = v9_4.toInt + 1 := by rw [ex56]; exact wk_add (y := 1) (show -2147483648 ≤ v9_4.toInt + 1 by omega) (show v9_4.toInt + 1 ≤ 2147483647 by omega)
            refine lv_goto (tgt := 9) hx hb dX10_cornersFrom_84 (by decide) ?_
            exact ih9 x55 x54 x56 H locs ls w19 (show 0 ≤ a1.toInt by omega) (show a1.toInt ≤ 9 by omega) (show 0 ≤ x55.toInt by omega) (show x55.toInt ≤ 1023 by omega) (show 0 ≤ x54.toInt by omega) (show x54.toInt ≤ 1023 by omega) (show 0 ≤ x56.toInt by omega) (show x56.toInt ≤ 10 by omega) (show (10 - x56.toInt).toNat < n9 by omega) hw hT hF  (lv_sub hl [3, 4, 1, 2, 0] rfl)
          · have c51 : v26_6.toInt < x49.toInt := wk_leF c51
            refine lv_iload_n hx hb dX10_cornersFrom_38 rfl (lv_at hl 3 rfl) ?_
            refine lv_iload hx hb dX10_cornersFrom_39 (lv_at hl 6 rfl) ?_
            refine lv_ishr hx hb dX10_cornersFrom_41 ?_
            refine lv_topi (fun x57 ex57 => ?_)
            have bx57 : 0 ≤ x57.toInt ∧ x57.toInt ≤ v9_3.toInt := by rw [ex57]; exact wk_shr (by omega)
            refine lv_iconst (v := 1) hx hb dX10_cornersFrom_42 (by decide) ?_
            refine lv_iand hx hb dX10_cornersFrom_43 ?_
            refine lv_topi (fun x58 ex58 => ?_)
            have bx58 : 0 ≤ x58.toInt ∧ x58.toInt ≤ (1 : Int) := by rw [ex58]; exact wk_and (by decide)
            refine lv_if_eq (tgt := 59) hx hb dX10_cornersFrom_44 (by decide) (fun c59 => ?_) (fun c59 => ?_)
            · have c59 : x58.toInt = (0 : Int) := wk_eq.mp c59
              exact J59 v26_5 x49 H locs ls w19 (show 0 ≤ a1.toInt by omega) (show a1.toInt ≤ 9 by omega) (show 0 ≤ v9_2.toInt by omega) (show v9_2.toInt ≤ 1023 by omega) (show 1 ≤ v9_3.toInt by omega) (show v9_3.toInt ≤ 1023 by omega) (show 0 ≤ v9_4.toInt by omega) (show v9_4.toInt ≤ 9 by omega) (show 0 ≤ v26_5.toInt by omega) (show v26_5.toInt ≤ 1023 by omega) (show 0 ≤ v26_6.toInt by omega) (show v26_6.toInt ≤ 9 by omega) (show 1 ≤ x49.toInt by omega) (show x49.toInt ≤ 10 by omega)  hw hT hF c50 (lv_sub hl [0, 1, 2, 3, 4, 5, 6] rfl)
            · have c59 : ¬ x58.toInt = (0 : Int) := wk_eqF c59
              refine lv_iload hx hb dX10_cornersFrom_47 (lv_at hl 5 rfl) ?_
              refine lv_aload_n hx hb dX10_cornersFrom_49 rfl (lv_at hl 0 rfl) ?_
              refine tk_getA hC hK hw hT hinX10 kC_at158 (by decide) rfl 3 (by decide) (List.mem_of_getElem? (i := 3) rfl) rfl rfl dX10_cornersFrom_50 ?_
              refine lv_iload hx hb dX10_cornersFrom_53 (lv_at hl 6 rfl) ?_
              refine tk_iald hC hK hw hT kC_at160 rfl rfl (show 0 ≤ v26_6.toInt by omega) (show v26_6.toInt < 10 by omega) dX10_cornersFrom_55 (fun x60 c61 rx60 tx60 => ?_)
              refine lv_ior hx hb dX10_cornersFrom_56 ?_
              refine lv_topi (fun x62 ex62 => ?_)
              have bx62 : 0 ≤ x62.toInt ∧ x62.toInt < 1024 := by rw [ex62]; exact wk_or 10 (by decide) (by omega) (by omega) (by omega) (by omega)
              refine lv_istore (lv' := [(5, .int x62), (0, .ref (ad 158)), (1, .int a1), (2, .int v9_2), (3, .int v9_3), (4, .int v9_4), (6, .int v26_6)]) hx hb dX10_cornersFrom_57 hl (by decide) rfl (fun ls hl => ?_)
              exact J59 x62 x49 H locs ls w19 (show 0 ≤ a1.toInt by omega) (show a1.toInt ≤ 9 by omega) (show 0 ≤ v9_2.toInt by omega) (show v9_2.toInt ≤ 1023 by omega) (show 1 ≤ v9_3.toInt by omega) (show v9_3.toInt ≤ 1023 by omega) (show 0 ≤ v9_4.toInt by omega) (show v9_4.toInt ≤ 9 by omega) (show 0 ≤ x62.toInt by omega) (show x62.toInt ≤ 1023 by omega) (show 0 ≤ v26_6.toInt by omega) (show v26_6.toInt ≤ 9 by omega) (show 1 ≤ x49.toInt by omega) (show x49.toInt ≤ 10 by omega)  hw hT hF c50 (lv_sub hl [1, 2, 3, 4, 5, 0, 6] rfl)
      refine lv_iload hx hb dX10_cornersFrom_9 (lv_at hl 4 rfl) ?_
      refine lv_bipush (v := 10) hx hb dX10_cornersFrom_11 (by decide) ?_
      refine lv_icmp_ge (tgt := 87) hx hb dX10_cornersFrom_13 (by decide) (fun c63 => ?_) (fun c63 => ?_)
      · have c63 : (10 : Int) ≤ v9_4.toInt := wk_le.mp c63
        exact J87 v9_2 v9_3 v9_4 H locs ls w10 (show 0 ≤ a1.toInt by omega) (show a1.toInt ≤ 9 by omega) (show 0 ≤ v9_2.toInt by omega) (show v9_2.toInt ≤ 1023 by omega) (show 0 ≤ v9_3.toInt by omega) (show v9_3.toInt ≤ 1023 by omega) (show 0 ≤ v9_4.toInt by omega) (show v9_4.toInt ≤ 10 by omega)  hw hT hF  (lv_sub hl [0, 1, 2, 3, 4] rfl)
      · have c63 : v9_4.toInt < (10 : Int) := wk_leF c63
        refine lv_iload_n hx hb dX10_cornersFrom_16 rfl (lv_at hl 3 rfl) ?_
        refine lv_if_eq (tgt := 87) hx hb dX10_cornersFrom_17 (by decide) (fun c64 => ?_) (fun c64 => ?_)
        · have c64 : v9_3.toInt = (0 : Int) := wk_eq.mp c64
          exact J87 v9_2 v9_3 v9_4 H locs ls w10 (show 0 ≤ a1.toInt by omega) (show a1.toInt ≤ 9 by omega) (show 0 ≤ v9_2.toInt by omega) (show v9_2.toInt ≤ 1023 by omega) (show 0 ≤ v9_3.toInt by omega) (show v9_3.toInt ≤ 1023 by omega) (show 0 ≤ v9_4.toInt by omega) (show v9_4.toInt ≤ 10 by omega)  hw hT hF  (lv_sub hl [0, 1, 2, 3, 4] rfl)
        · have c64 : ¬ v9_3.toInt = (0 : Int) := wk_eqF c64
          refine lv_iconst (v := 0) hx hb dX10_cornersFrom_20 (by decide) ?_
          refine lv_istore (lv' := [(5, .int 0), (0, .ref (ad 158)), (1, .int a1), (2, .int v9_2), (3, .int v9_3), (4, .int v9_4)]) hx hb dX10_cornersFrom_21 hl (by decide) rfl (fun ls hl => ?_)
          refine lv_iconst (v := 0) hx hb dX10_cornersFrom_23 (by decide) ?_
          refine lv_istore (lv' := [(6, .int 0), (5, .int 0), (0, .ref (ad 158)), (1, .int a1), (2, .int v9_2), (3, .int v9_3), (4, .int v9_4)]) hx hb dX10_cornersFrom_24 hl (by decide) rfl (fun ls hl => ?_)
          exact L26 ((10 - (0 : Int)).toNat + 1) 0 0 H locs ls w10 (show 0 ≤ a1.toInt by omega) (show a1.toInt ≤ 9 by omega) (show 0 ≤ v9_2.toInt by omega) (show v9_2.toInt ≤ 1023 by omega) (show 1 ≤ v9_3.toInt by omega) (show v9_3.toInt ≤ 1023 by omega) (show 0 ≤ v9_4.toInt by omega) (show v9_4.toInt ≤ 9 by omega) (by decide) (by decide) (by decide) (by decide) (Nat.lt_succ_self _) hw hT hF  (lv_sub hl [2, 3, 4, 5, 6, 1, 0] rfl)
  refine lv_iconst (v := 1) hx hb dX10_cornersFrom_0 (by decide) ?_
  refine lv_iload_n hx hb dX10_cornersFrom_1 rfl (lv_at hl 1 rfl) ?_
  refine lv_ishl hx hb dX10_cornersFrom_2 ?_
  refine lv_topi (fun x65 ex65 => ?_)
  have bx65 : 1 ≤ x65.toInt ∧ x65.toInt ≤ 512 := by rw [ex65]; exact wk_shl1 9 (by decide) (by omega) (by omega)
  refine lv_istore_n (lv' := [(2, .int x65), (0, .ref (ad 158)), (1, .int a1)]) hx hb dX10_cornersFrom_3 rfl hl (by decide) rfl (fun ls hl => ?_)
  refine lv_iload_n hx hb dX10_cornersFrom_4 rfl (lv_at hl 0 rfl) ?_
  refine lv_istore_n (lv' := [(3, .int x65), (2, .int x65), (0, .ref (ad 158)), (1, .int a1)]) hx hb dX10_cornersFrom_5 rfl hl (by decide) rfl (fun ls hl => ?_)
  refine lv_iconst (v := 0) hx hb dX10_cornersFrom_6 (by decide) ?_
  refine lv_istore (lv' := [(4, .int 0), (3, .int x65), (2, .int x65), (0, .ref (ad 158)), (1, .int a1)]) hx hb dX10_cornersFrom_7 hl (by decide) rfl (fun ls hl => ?_)
  exact L9 ((10 - (0 : Int)).toNat + 1) x65 x65 0 s.heap locs ls w0 (show 0 ≤ a1.toInt by omega) (show a1.toInt ≤ 9 by omega) (show 0 ≤ x65.toInt by omega) (show x65.toInt ≤ 1023 by omega) (show 0 ≤ x65.toInt by omega) (show x65.toInt ≤ 1023 by omega) (by decide) (by decide) (Nat.lt_succ_self _) hw hT hF  (lv_sub hl [3, 4, 2, 1, 0] rfl)
abbrev P_X10_oddsOver_1 (ad : Nat → Nat) (cy : Nat → ClassId) (B : Int) (qr : Nat) (s1 : Int) (a1 : Int32) (w0 : va_W) : Int32 → va_W → Prop := fun r u => TW ksC ad cy B qr s1 u ∧ FE ksC [(51, 0, 10)] w0 u ∧ ((0 ≤ r.toInt ∧ r.toInt ≤ 400))
set_option maxHeartbeats 4000000 in
set_option maxRecDepth 100000 in
theorem k_X10_oddsOver_1 (l : Launch) (adK adV : Nat → Nat) (dC : Nat → ClassId) (dI : Nat → Nat → Nat) (cy : Nat → ClassId) (ad : Nat → Nat) (B : Int) (hB0 : 2147483648 ≤ B) (hB1 : B ≤ 1152921504606846976) (qr : Nat) (s1 : Int)  (a1 : Int32) (ra1 : 0 ≤ a1.toInt) (ta1 : a1.toInt ≤ 11) (w0 : va_W) (sz : Nat) (hT : TW ksC ad cy B qr s1 w0)  : Met l yX10_oddsOver wsX10_oddsOver ({ frames := 2, cells := 0, slots := 0, locals := 39 }) (va_Pc [.ref (ad 158), .int a1] (wpreS adK adV dC dI cy sz w0)) (va_Qi (P_X10_oddsOver_1 ad cy B qr s1 a1 w0) (fun u : va_W => wpost dC dI cy (va_A w0 sz) u) (va_A w0 sz)) 0 0 (va_A w0 sz) := by
  refine Met.ofW (cc := cX10_oddsOver) (maxL := 7) (ret := (some .int)) (by decide) rfl ?_
  intro p e s m args below meth c s₁ Bk hml hv
  obtain ⟨rfl, ⟨hsz, hP, hK, hD0⟩, hE, hSR⟩ := hv
  have hx := Bk.exec
  have hb := Bk.bytes
  have hr := Bk.returns
  have hlocks := Bk.notSynchronized
  have hC : CallFix p m c cX10_oddsOver 7 s _ wsX10_oddsOver RX10 := ⟨hx, hb, hml, findClass_of_methodNamed Bk.named, atoms_spec (ws := wsX10_oddsOver) Bk.pre⟩
  subst hsz
  have hD := hD0.self (sz := s.heap.size)
  generalize hAe : va_A w0 s.heap.size = A at hD hE ⊢
  have hA : ∀ q : Nat, s.heap.size ≤ q → A q := fun q h => by rw [← hAe]; exact Or.inr h
  have hw : Wd dC dI A s.heap s.heap [] w0 := ⟨hP, hD, va_S.rf⟩
  have hF : FE ksC [(51, 0, 10)] w0 w0 := FE.rf
  have hl := lv_entry ([.ref (ad 158), .int a1]) (n := 7) (Nat.le_of_ble_eq_true rfl)
  rw [lg_entry_eq]
  generalize (lg_sl ([.ref (ad 158), .int a1]) ++ List.replicate (7 - (lg_sl ([.ref (ad 158), .int a1])).length) Slot.unset).toArray = ls at hl ⊢
  have hl : lv_has ls 7 [(0, .ref (ad 158)), (1, .int a1)] := hl
  generalize hloc : ([] : List Loc) = locs at hw ⊢
  have hinX10 : ∀ w ∈ u_ws RX10 TX10 5, w ∈ wsX10_oddsOver := fun _ h => List.mem_cons_of_mem _ (List.mem_append_left _ (List.mem_append_left _ (List.mem_append_right _ (h))))
  have hinX5 : ∀ w ∈ u_ws RX5 TX5 14, w ∈ wsX10_oddsOver := fun _ h => List.mem_cons_of_mem _ (List.mem_append_right _ (h))
  have hinX7 : ∀ w ∈ u_ws RX7 TX7 12, w ∈ wsX10_oddsOver := fun _ h => List.mem_cons_of_mem _ (List.mem_append_left _ (List.mem_append_right _ (h)))
  have L36 : ∀ (n36 : Nat) (v36_2 : Int32) (v36_3 : Int32) (v36_4 : Int32) (H : Heap) (locs : List Loc) (ls : Array Slot) (w1 : va_W), 0 ≤ a1.toInt → a1.toInt ≤ 11 → 0 ≤ v36_2.toInt → v36_2.toInt ≤ 1023 → 0 ≤ v36_3.toInt → v36_3.toInt ≤ 400 → 0 ≤ v36_4.toInt → v36_4.toInt ≤ 6 → (6 - v36_4.toInt).toNat < n36 → Wd dC dI A s.heap H locs w1 → TW ksC ad cy B qr s1 w1 → FE ksC [(51, 0, 10)] w0 w1 → lv_has ls 7 [(0, .ref (ad 158)), (1, .int a1), (2, .int v36_2), (3, .int v36_3), (4, .int v36_4)] → W p l e ({ frames := 2, cells := 0, slots := 0, locals := 39 }) s m (List.toArray [.ref (ad 158), .int a1]) below meth c H locs 0 0 (MQ below (va_Qi (P_X10_oddsOver_1 ad cy B qr s1 a1 w0) (fun u : va_W => wpost dC dI cy A u) A) (List.toArray [.ref (ad 158), .int a1]) s 0 0 A) (F0 m 36 ls []) := by
    intro n36
    induction n36 with
    | zero => intro v36_2 v36_3 v36_4 H locs ls w1 r2 t3 r4 t5 r6 t7 r8 t9 hm36 hw hT hF hl; omega
    | succ n36 ih36 =>
      intro v36_2 v36_3 v36_4 H locs ls w1 r2 t3 r4 t5 r6 t7 r8 t9 hm36 hw hT hF hl
      have L54 : ∀ (n54 : Nat) (v54_3 : Int32) (v54_5 : Int32) (f54_38_10 : Int32) (H : Heap) (locs : List Loc) (ls : Array Slot) (w10 : va_W), 0 ≤ a1.toInt → a1.toInt ≤ 11 → 0 ≤ v36_2.toInt → v36_2.toInt ≤ 1023 → 0 ≤ v54_3.toInt → v54_3.toInt ≤ 400 → 0 ≤ v36_4.toInt → v36_4.toInt ≤ 5 → 1 ≤ v54_5.toInt → v54_5.toInt ≤ 6 → 1 ≤ f54_38_10.toInt → f54_38_10.toInt ≤ 6 → (6 - v54_5.toInt).toNat < n54 → Wd dC dI A s.heap H locs w10 → TW ksC ad cy B qr s1 w10 → FE ksC [(51, 0, 10)] w0 w10 → gi w10 38 10 = f54_38_10 → lv_has ls 7 [(0, .ref (ad 158)), (1, .int a1), (2, .int v36_2), (3, .int v54_3), (4, .int v36_4), (5, .int v54_5)] → W p l e ({ frames := 2, cells := 0, slots := 0, locals := 39 }) s m (List.toArray [.ref (ad 158), .int a1]) below meth c H locs 0 0 (MQ below (va_Qi (P_X10_oddsOver_1 ad cy B qr s1 a1 w0) (fun u : va_W => wpost dC dI cy A u) A) (List.toArray [.ref (ad 158), .int a1]) s 0 0 A) (F0 m 54 ls []) := by
        intro n54
        induction n54 with
        | zero => intro v54_3 v54_5 f54_38_10 H locs ls w10 r11 t12 r13 t14 r15 t16 r17 t18 r19 t20 r21 t22 hm54 hw hT hF c23 hl; omega
        | succ n54 ih54 =>
          intro v54_3 v54_5 f54_38_10 H locs ls w10 r11 t12 r13 t14 r15 t16 r17 t18 r19 t20 r21 t22 hm54 hw hT hF c23 hl
          have J108 : ∀ (v108_3 : Int32) (v108_6 : Int32) (H : Heap) (locs : List Loc) (ls : Array Slot) (w24 : va_W), 0 ≤ a1.toInt → a1.toInt ≤ 11 → 0 ≤ v36_2.toInt → v36_2.toInt ≤ 1023 → 0 ≤ v108_3.toInt → v108_3.toInt ≤ 400 → 0 ≤ v36_4.toInt → v36_4.toInt ≤ 5 → 1 ≤ v54_5.toInt → v54_5.toInt ≤ 5 → 0 ≤ v108_6.toInt → v108_6.toInt ≤ 63 → 2 ≤ f54_38_10.toInt → f54_38_10.toInt ≤ 6 → Wd dC dI A s.heap H locs w24 → TW ksC ad cy B qr s1 w24 → FE ksC [(51, 0, 10)] w0 w24 → gi w24 38 10 = f54_38_10 → lv_has ls 7 [(0, .ref (ad 158)), (1, .int a1), (2, .int v36_2), (3, .int v108_3), (4, .int v36_4), (5, .int v54_5), (6, .int v108_6)] → W p l e ({ frames := 2, cells := 0, slots := 0, locals := 39 }) s m (List.toArray [.ref (ad 158), .int a1]) below meth c H locs 0 0 (MQ below (va_Qi (P_X10_oddsOver_1 ad cy B qr s1 a1 w0) (fun u : va_W => wpost dC dI cy A u) A) (List.toArray [.ref (ad 158), .int a1]) s 0 0 A) (F0 m 108 ls []) := by
            intro v108_3 v108_6 H locs ls w24 r25 t26 r27 t28 r29 t30 r31 t32 r33 t34 r35 t36 r37 t38 hw hT hF c39 hl
            obtain ⟨x40, ex40⟩ : ∃ y : Int32, y = v54_5 + Int32.ofInt 1 := ⟨_, rfl⟩
            refine lv_iinc (v := x40) (lv' := [(5, .int x40), (0, .ref (ad 158)), (1, .int a1), (2, .int v36_2), (3, .int v108_3), (4, .int v36_4), (6, .int v108_6)]) hx hb dX10_oddsOver_108 hl (k := 5) rfl ex40.symm (by decide) rfl (fun ls hl => ?_)
            have ex40 : x40.toInt = v54_5.toInt + 1 := by rw [ex40]; exact wk_add (y := 1) (show -2147483648 ≤ v54_5.toInt + 1 by omega) (show v54_5.toInt + 1 ≤ 2147483647 by omega)
            refine lv_goto (tgt := 54) hx hb dX10_oddsOver_111 (by decide) ?_
            exact ih54 v108_3 x40 f54_38_10 H locs ls w24 (show 0 ≤ a1.toInt by omega) (show a1.toInt ≤ 11 by omega) (show 0 ≤ v36_2.toInt by omega) (show v36_2.toInt ≤ 1023 by omega) (show 0 ≤ v108_3.toInt by omega) (show v108_3.toInt ≤ 400 by omega) (show 0 ≤ v36_4.toInt by omega) (show v36_4.toInt ≤ 5 by omega) (show 1 ≤ x40.toInt by omega) (show x40.toInt ≤ 6 by omega) (show 1 ≤ f54_38_10.toInt by omega) (show f54_38_10.toInt ≤ 6 by omega) (show (6 - x40.toInt).toNat < n54 by omega) hw hT hF c39 (lv_sub hl [1, 2, 3, 4, 5, 0] rfl)
          have J105 : ∀ (v105_6 : Int32) (H : Heap) (locs : List Loc) (ls : Array Slot) (w41 : va_W), 0 ≤ a1.toInt → a1.toInt ≤ 11 → 0 ≤ v36_2.toInt → v36_2.toInt ≤ 1023 → 0 ≤ v54_3.toInt → v54_3.toInt ≤ 400 → 0 ≤ v36_4.toInt → v36_4.toInt ≤ 5 → 1 ≤ v54_5.toInt → v54_5.toInt ≤ 5 → 0 ≤ v105_6.toInt → v105_6.toInt ≤ 63 → 2 ≤ f54_38_10.toInt → f54_38_10.toInt ≤ 6 → Wd dC dI A s.heap H locs w41 → TW ksC ad cy B qr s1 w41 → FE ksC [(51, 0, 10)] w0 w41 → gi w41 38 10 = f54_38_10 → lv_has ls 7 [(0, .ref (ad 158)), (1, .int a1), (2, .int v36_2), (3, .int v54_3), (4, .int v36_4), (5, .int v54_5), (6, .int v105_6)] → W p l e ({ frames := 2, cells := 0, slots := 0, locals := 39 }) s m (List.toArray [.ref (ad 158), .int a1]) below meth c H locs 0 0 (MQ below (va_Qi (P_X10_oddsOver_1 ad cy B qr s1 a1 w0) (fun u : va_W => wpost dC dI cy A u) A) (List.toArray [.ref (ad 158), .int a1]) s 0 0 A) (F0 m 105 ls []) := by
            intro v105_6 H locs ls w41 r42 t43 r44 t45 r46 t47 r48 t49 r50 t51 r52 t53 r54 t55 hw hT hF c56 hl
            refine lv_iload hx hb dX10_oddsOver_105 (lv_at hl 6 rfl) ?_
            refine lv_istore_n (lv' := [(3, .int v105_6), (0, .ref (ad 158)), (1, .int a1), (2, .int v36_2), (4, .int v36_4), (5, .int v54_5), (6, .int v105_6)]) hx hb dX10_oddsOver_107 rfl hl (by decide) rfl (fun ls hl => ?_)
            exact J108 v105_6 v105_6 H locs ls w41 (show 0 ≤ a1.toInt by omega) (show a1.toInt ≤ 11 by omega) (show 0 ≤ v36_2.toInt by omega) (show v36_2.toInt ≤ 1023 by omega) (show 0 ≤ v105_6.toInt by omega) (show v105_6.toInt ≤ 400 by omega) (show 0 ≤ v36_4.toInt by omega) (show v36_4.toInt ≤ 5 by omega) (show 1 ≤ v54_5.toInt by omega) (show v54_5.toInt ≤ 5 by omega) (show 0 ≤ v105_6.toInt by omega) (show v105_6.toInt ≤ 63 by omega) (show 2 ≤ f54_38_10.toInt by omega) (show f54_38_10.toInt ≤ 6 by omega)  hw hT hF c56 (lv_sub hl [1, 2, 3, 0, 4, 5, 6] rfl)
          refine lv_iload hx hb dX10_oddsOver_54 (lv_at hl 5 rfl) ?_
          refine lv_aload_n hx hb dX10_oddsOver_56 rfl (lv_at hl 0 rfl) ?_
          refine tk_getA hC hK hw hT hinX10 kC_at158 (by decide) rfl 0 (by decide) (List.mem_of_getElem? (i := 5) rfl) rfl rfl dX10_oddsOver_57 ?_
          refine tk_geti hC hK hw hT hinX5 kC_at38 (by decide) rfl 10 (by decide) (List.mem_of_getElem? (i := 6) rfl) rfl rfl dX10_oddsOver_60 (fun x57 c58 rx57 tx57 => ?_)
          refine wk_top f54_38_10 (c58.symm.trans c23) ?_
          refine lv_icmp_ge (tgt := 114) hx hb dX10_oddsOver_63 (by decide) (fun c59 => ?_) (fun c59 => ?_)
          · have c59 : f54_38_10.toInt ≤ v54_5.toInt := wk_le.mp c59
            obtain ⟨x60, ex60⟩ : ∃ y : Int32, y = v36_4 + Int32.ofInt 1 := ⟨_, rfl⟩
            refine lv_iinc (v := x60) (lv' := [(4, .int x60), (0, .ref (ad 158)), (1, .int a1), (2, .int v36_2), (3, .int v54_3), (5, .int v54_5)]) hx hb dX10_oddsOver_114 hl (k := 4) rfl ex60.symm (by decide) rfl (fun ls hl => ?_)
            have ex60 : x60.toInt = v36_4.toInt + 1 := by rw [ex60]; exact wk_add (y := 1) (show -2147483648 ≤ v36_4.toInt + 1 by omega) (show v36_4.toInt + 1 ≤ 2147483647 by omega)
            refine lv_goto (tgt := 36) hx hb dX10_oddsOver_117 (by decide) ?_
            exact ih36 v36_2 v54_3 x60 H locs ls w10 (show 0 ≤ a1.toInt by omega) (show a1.toInt ≤ 11 by omega) (show 0 ≤ v36_2.toInt by omega) (show v36_2.toInt ≤ 1023 by omega) (show 0 ≤ v54_3.toInt by omega) (show v54_3.toInt ≤ 400 by omega) (show 0 ≤ x60.toInt by omega) (show x60.toInt ≤ 6 by omega) (show (6 - x60.toInt).toNat < n36 by omega) hw hT hF  (lv_sub hl [1, 2, 3, 4, 0] rfl)
          · have c59 : v54_5.toInt < f54_38_10.toInt := wk_leF c59
            refine lv_iconst (v := 1) hx hb dX10_oddsOver_66 (by decide) ?_
            refine lv_iload hx hb dX10_oddsOver_67 (lv_at hl 4 rfl) ?_
            refine lv_ishl hx hb dX10_oddsOver_69 ?_
            refine lv_topi (fun x61 ex61 => ?_)
            have bx61 : 1 ≤ x61.toInt ∧ x61.toInt ≤ 32 := by rw [ex61]; exact wk_shl1 5 (by decide) (by omega) (by omega)
            refine lv_iconst (v := 1) hx hb dX10_oddsOver_70 (by decide) ?_
            refine lv_iload hx hb dX10_oddsOver_71 (lv_at hl 5 rfl) ?_
            refine lv_ishl hx hb dX10_oddsOver_73 ?_
            refine lv_topi (fun x62 ex62 => ?_)
            have bx62 : 1 ≤ x62.toInt ∧ x62.toInt ≤ 32 := by rw [ex62]; exact wk_shl1 5 (by decide) (by omega) (by omega)
            refine lv_ior hx hb dX10_oddsOver_74 ?_
            refine lv_topi (fun x63 ex63 => ?_)
            have bx63 : 0 ≤ x63.toInt ∧ x63.toInt < 64 := by rw [ex63]; exact wk_or 6 (by decide) (by omega) (by omega) (by omega) (by omega)
            refine lv_istore (lv' := [(6, .int x63), (0, .ref (ad 158)), (1, .int a1), (2, .int v36_2), (3, .int v54_3), (4, .int v36_4), (5, .int v54_5)]) hx hb dX10_oddsOver_75 hl (by decide) rfl (fun ls hl => ?_)
            refine lv_aload_n hx hb dX10_oddsOver_77 rfl (lv_at hl 1 rfl) ?_
            refine lv_iload hx hb dX10_oddsOver_78 (lv_at hl 5 rfl) ?_
            refine lv_iload_n hx hb dX10_oddsOver_80 rfl (lv_at hl 3 rfl) ?_
            refine tk_Vi hC hK hw hT hA hE hSR kC_at158 (by decide) rfl (k_X10_crossing_1 l adK adV dC dI cy ad B (by omega) (by omega) qr s1   v36_4 (show 0 ≤ v36_4.toInt by omega) (show v36_4.toInt ≤ 5 by omega) v36_2 (show 0 ≤ v36_2.toInt by omega) (show v36_2.toInt ≤ 1023 by omega) w10 H.size hT ) (cwV 2 hC.2.2.2.2 gX10_oddsOver_X10_crossing rfl rfl rfl (by decide +kernel) ⟨Nat.le_of_ble_eq_true rfl, Nat.le_of_ble_eq_true rfl⟩) rfl hl.1 rfl (Nat.le_of_ble_eq_true rfl) dX10_oddsOver_81 (fun r64 w66 H locs hp65 hw => ?_)
            obtain ⟨hT, k67, hg70⟩ := hp65
            have hF := hF.tr k67 (by decide)
            have c71 := k67.gi kC_at38 (by decide) c23
            obtain ⟨g68, g69⟩ := hg70
            refine lv_aload_n hx hb dX10_oddsOver_84 rfl (lv_at hl 1 rfl) ?_
            refine lv_iload hx hb dX10_oddsOver_85 (lv_at hl 6 rfl) ?_
            refine lv_iload_n hx hb dX10_oddsOver_87 rfl (lv_at hl 3 rfl) ?_
            refine tk_Vi hC hK hw hT hA hE hSR kC_at158 (by decide) rfl (k_X10_crossing_2 l adK adV dC dI cy ad B (by omega) (by omega) qr s1   v54_5 (show 1 ≤ v54_5.toInt by omega) (show v54_5.toInt ≤ 5 by omega) v36_2 (show 0 ≤ v36_2.toInt by omega) (show v36_2.toInt ≤ 1023 by omega) w66 H.size hT ) (cwV 2 hC.2.2.2.2 gX10_oddsOver_X10_crossing rfl rfl rfl (by decide +kernel) ⟨Nat.le_of_ble_eq_true rfl, Nat.le_of_ble_eq_true rfl⟩) rfl hl.1 rfl (Nat.le_of_ble_eq_true rfl) dX10_oddsOver_88 (fun r72 w74 H locs hp73 hw => ?_)
            obtain ⟨hT, k75, hg78⟩ := hp73
            have hF := hF.tr k75 (by decide)
            have c79 := k75.gi kC_at38 (by decide) c71
            obtain ⟨g76, g77⟩ := hg78
            refine lv_imul hx hb dX10_oddsOver_91 ?_
            refine lv_topi (fun x80 ex80 => ?_)
            refine lv_if_ge (tgt := 108) hx hb dX10_oddsOver_92 (by decide) (fun c81 => ?_) (fun c81 => ?_)
            · have c81 : (0 : Int) ≤ x80.toInt := wk_le.mp c81
              exact J108 v54_3 x63 H locs ls w74 (show 0 ≤ a1.toInt by omega) (show a1.toInt ≤ 11 by omega) (show 0 ≤ v36_2.toInt by omega) (show v36_2.toInt ≤ 1023 by omega) (show 0 ≤ v54_3.toInt by omega) (show v54_3.toInt ≤ 400 by omega) (show 0 ≤ v36_4.toInt by omega) (show v36_4.toInt ≤ 5 by omega) (show 1 ≤ v54_5.toInt by omega) (show v54_5.toInt ≤ 5 by omega) (show 0 ≤ x63.toInt by omega) (show x63.toInt ≤ 63 by omega) (show 2 ≤ f54_38_10.toInt by omega) (show f54_38_10.toInt ≤ 6 by omega)  hw hT hF c79 (lv_sub hl [1, 2, 3, 4, 5, 6, 0] rfl)
            · have c81 : x80.toInt < (0 : Int) := wk_leF c81
              refine lv_iload_n hx hb dX10_oddsOver_95 rfl (lv_at hl 4 rfl) ?_
              refine lv_if_eq (tgt := 105) hx hb dX10_oddsOver_96 (by decide) (fun c82 => ?_) (fun c82 => ?_)
              · have c82 : v54_3.toInt = (0 : Int) := wk_eq.mp c82
                exact J105 x63 H locs ls w74 (show 0 ≤ a1.toInt by omega) (show a1.toInt ≤ 11 by omega) (show 0 ≤ v36_2.toInt by omega) (show v36_2.toInt ≤ 1023 by omega) (show 0 ≤ v54_3.toInt by omega) (show v54_3.toInt ≤ 400 by omega) (show 0 ≤ v36_4.toInt by omega) (show v36_4.toInt ≤ 5 by omega) (show 1 ≤ v54_5.toInt by omega) (show v54_5.toInt ≤ 5 by omega) (show 0 ≤ x63.toInt by omega) (show x63.toInt ≤ 63 by omega) (show 2 ≤ f54_38_10.toInt by omega) (show f54_38_10.toInt ≤ 6 by omega)  hw hT hF c79 (lv_sub hl [1, 2, 3, 4, 5, 6, 0] rfl)
              · have c82 : ¬ v54_3.toInt = (0 : Int) := wk_eqF c82
                refine lv_iload hx hb dX10_oddsOver_99 (lv_at hl 0 rfl) ?_
                refine lv_iload_n hx hb dX10_oddsOver_101 rfl (lv_at hl 4 rfl) ?_
                refine lv_icmp_ge (tgt := 108) hx hb dX10_oddsOver_102 (by decide) (fun c83 => ?_) (fun c83 => ?_)
                · have c83 : v54_3.toInt ≤ x63.toInt := wk_le.mp c83
                  exact J108 v54_3 x63 H locs ls w74 (show 0 ≤ a1.toInt by omega) (show a1.toInt ≤ 11 by omega) (show 0 ≤ v36_2.toInt by omega) (show v36_2.toInt ≤ 1023 by omega) (show 0 ≤ v54_3.toInt by omega) (show v54_3.toInt ≤ 400 by omega) (show 0 ≤ v36_4.toInt by omega) (show v36_4.toInt ≤ 5 by omega) (show 1 ≤ v54_5.toInt by omega) (show v54_5.toInt ≤ 5 by omega) (show 0 ≤ x63.toInt by omega) (show x63.toInt ≤ 63 by omega) (show 2 ≤ f54_38_10.toInt by omega) (show f54_38_10.toInt ≤ 6 by omega)  hw hT hF c79 (lv_sub hl [1, 2, 3, 4, 5, 6, 0] rfl)
                · have c83 : x63.toInt < v54_3.toInt := wk_leF c83
                  exact J105 x63 H locs ls w74 (show 0 ≤ a1.toInt by omega) (show a1.toInt ≤ 11 by omega) (show 0 ≤ v36_2.toInt by omega) (show v36_2.toInt ≤ 1023 by omega) (show 0 ≤ v54_3.toInt by omega) (show v54_3.toInt ≤ 400 by omega) (show 0 ≤ v36_4.toInt by omega) (show v36_4.toInt ≤ 5 by omega) (show 1 ≤ v54_5.toInt by omega) (show v54_5.toInt ≤ 5 by omega) (show 0 ≤ x63.toInt by omega) (show x63.toInt ≤ 63 by omega) (show 2 ≤ f54_38_10.toInt by omega) (show f54_38_10.toInt ≤ 6 by omega)  hw hT hF c79 (lv_sub hl [1, 2, 3, 4, 5, 6, 0] rfl)
      refine lv_iload hx hb dX10_oddsOver_36 (lv_at hl 4 rfl) ?_
      refine lv_aload_n hx hb dX10_oddsOver_38 rfl (lv_at hl 0 rfl) ?_
      refine tk_getA hC hK hw hT hinX10 kC_at158 (by decide) rfl 0 (by decide) (List.mem_of_getElem? (i := 5) rfl) rfl rfl dX10_oddsOver_39 ?_
      refine tk_geti hC hK hw hT hinX5 kC_at38 (by decide) rfl 10 (by decide) (List.mem_of_getElem? (i := 6) rfl) rfl rfl dX10_oddsOver_42 (fun x84 c85 rx84 tx84 => ?_)
      refine lv_icmp_ge (tgt := 120) hx hb dX10_oddsOver_45 (by decide) (fun c86 => ?_) (fun c86 => ?_)
      · have c86 : x84.toInt ≤ v36_4.toInt := wk_le.mp c86
        refine lv_iload_n hx hb dX10_oddsOver_120 rfl (lv_at hl 3 rfl) ?_
        exact tk_iret hC hr hlocks hK ⟨hT, hF, ⟨(show 0 ≤ v36_3.toInt by omega), (show v36_3.toInt ≤ 400 by omega)⟩⟩ hw dX10_oddsOver_121
      · have c86 : v36_4.toInt < x84.toInt := wk_leF c86
        refine lv_iload hx hb dX10_oddsOver_48 (lv_at hl 4 rfl) ?_
        refine lv_iconst (v := 1) hx hb dX10_oddsOver_50 (by decide) ?_
        refine lv_iadd hx hb dX10_oddsOver_51 ?_
        refine lv_topi (fun x87 ex87 => ?_)
        have ex87 : x87.toInt = v36_4.toInt + (1 : Int) := by rw [ex87]; exact wk_add (show (-2147483648) ≤ v36_4.toInt + (1 : Int) by omega) (show v36_4.toInt + (1 : Int) ≤ 2147483647 by omega)
        refine lv_istore (lv' := [(5, .int x87), (0, .ref (ad 158)), (1, .int a1), (2, .int v36_2), (3, .int v36_3), (4, .int v36_4)]) hx hb dX10_oddsOver_52 hl (by decide) rfl (fun ls hl => ?_)
        exact L54 ((6 - x87.toInt).toNat + 1) v36_3 x87 x84 H locs ls w1 (show 0 ≤ a1.toInt by omega) (show a1.toInt ≤ 11 by omega) (show 0 ≤ v36_2.toInt by omega) (show v36_2.toInt ≤ 1023 by omega) (show 0 ≤ v36_3.toInt by omega) (show v36_3.toInt ≤ 400 by omega) (show 0 ≤ v36_4.toInt by omega) (show v36_4.toInt ≤ 5 by omega) (show 1 ≤ x87.toInt by omega) (show x87.toInt ≤ 6 by omega) (show 1 ≤ x84.toInt by omega) (show x84.toInt ≤ 6 by omega) (Nat.lt_succ_self _) hw hT hF c85 (lv_sub hl [1, 2, 3, 4, 5, 0] rfl)
  refine lv_aload_n hx hb dX10_oddsOver_0 rfl (lv_at hl 0 rfl) ?_
  refine lv_aload_n hx hb dX10_oddsOver_1 rfl (lv_at hl 0 rfl) ?_
  refine tk_geti hC hK hw hT hinX10 kC_at158 (by decide) rfl 4 (by decide) (List.mem_of_getElem? (i := 1) rfl) rfl rfl dX10_oddsOver_2 (fun x88 c89 rx88 tx88 => ?_)
  refine lv_iconst (v := 0) hx hb dX10_oddsOver_5 (by decide) ?_
  refine lv_iload_n hx hb dX10_oddsOver_6 rfl (lv_at hl 1 rfl) ?_
  refine tk_Vv hC hK hw hT hA hE hSR kC_at158 (by decide) rfl (k_X10_layRoads_1 l adK adV dC dI cy ad B (by omega) (by omega) qr s1   x88 (show 0 ≤ x88.toInt by omega) (show x88.toInt ≤ 12 by omega) a1 (show 0 ≤ a1.toInt by omega) (show a1.toInt ≤ 11 by omega) w0 s.heap.size hT ) (cwV 3 hC.2.2.2.2 gX10_oddsOver_X10_layRoads rfl rfl rfl (by decide +kernel) ⟨Nat.le_of_ble_eq_true rfl, Nat.le_of_ble_eq_true rfl⟩) rfl hl.1 rfl (Nat.le_of_ble_eq_true rfl) dX10_oddsOver_7 (fun w92 H locs hp91 hw => ?_)
  obtain ⟨hT, k93, hg94⟩ := hp91
  have hF := hF.tr k93 (by decide)
  have c95 := k93.gi kC_at158 (by decide) c89
  clear hg94
  refine lv_aload_n hx hb dX10_oddsOver_10 rfl (lv_at hl 0 rfl) ?_
  refine lv_aload_n hx hb dX10_oddsOver_11 rfl (lv_at hl 0 rfl) ?_
  refine tk_getA hC hK hw hT hinX10 kC_at158 (by decide) rfl 1 (by decide) (List.mem_of_getElem? (i := 2) rfl) rfl rfl dX10_oddsOver_12 ?_
  refine tk_getO hC hK hw hT hinX7 kC_at39 (by decide) rfl 0 (by decide) (List.mem_of_getElem? (i := 3) rfl) rfl rfl dX10_oddsOver_15 ?_
  refine lv_iconst (v := 2) hx hb dX10_oddsOver_18 (by decide) ?_
  refine lv_aload_n hx hb dX10_oddsOver_19 rfl (lv_at hl 0 rfl) ?_
  refine tk_getA hC hK hw hT hinX10 kC_at158 (by decide) rfl 2 (by decide) (List.mem_of_getElem? (i := 4) rfl) rfl rfl dX10_oddsOver_20 ?_
  refine lv_iload_n hx hb dX10_oddsOver_23 rfl (lv_at hl 1 rfl) ?_
  refine tk_iald hC hK hw hT kC_at159 rfl rfl (show 0 ≤ a1.toInt by omega) (show a1.toInt < 12 by omega) dX10_oddsOver_24 (fun x96 c97 rx96 tx96 => ?_)
  refine lv_imul hx hb dX10_oddsOver_25 ?_
  refine lv_topi (fun x98 ex98 => ?_)
  have ex98 : x98.toInt = (2 : Int) * x96.toInt := by rw [ex98]; exact wk_mul (show (-2147483648) ≤ (2 : Int) * x96.toInt by omega) (show (2 : Int) * x96.toInt ≤ 2147483647 by omega)
  refine tk_iald hC hK hw hT kC_at40 rfl rfl (show 0 ≤ x98.toInt by omega) (show x98.toInt < 26 by omega) dX10_oddsOver_26 (fun x99 c100 rx99 tx99 => ?_)
  refine tk_Vi hC hK hw hT hA hE hSR kC_at158 (by decide) rfl (k_X10_cornersFrom_1 l adK adV dC dI cy ad B (by omega) (by omega) qr s1   x99 (show 0 ≤ x99.toInt by omega) (show x99.toInt ≤ 9 by omega) w92 H.size hT ) (cwV 1 hC.2.2.2.2 gX10_oddsOver_X10_cornersFrom rfl rfl rfl (by decide +kernel) ⟨Nat.le_of_ble_eq_true rfl, Nat.le_of_ble_eq_true rfl⟩) rfl hl.1 rfl (Nat.le_of_ble_eq_true rfl) dX10_oddsOver_27 (fun r101 w103 H locs hp102 hw => ?_)
  obtain ⟨hT, k104, hg107⟩ := hp102
  have hF := hF.tr k104 (by decide)
  have c108 := k104.gi kC_at158 (by decide) c95
  obtain ⟨g105, g106⟩ := hg107
  refine lv_istore_n (lv' := [(2, .int r101), (0, .ref (ad 158)), (1, .int a1)]) hx hb dX10_oddsOver_30 rfl hl (by decide) rfl (fun ls hl => ?_)
  refine lv_iconst (v := 0) hx hb dX10_oddsOver_31 (by decide) ?_
  refine lv_istore_n (lv' := [(3, .int 0), (2, .int r101), (0, .ref (ad 158)), (1, .int a1)]) hx hb dX10_oddsOver_32 rfl hl (by decide) rfl (fun ls hl => ?_)
  refine lv_iconst (v := 0) hx hb dX10_oddsOver_33 (by decide) ?_
  refine lv_istore (lv' := [(4, .int 0), (3, .int 0), (2, .int r101), (0, .ref (ad 158)), (1, .int a1)]) hx hb dX10_oddsOver_34 hl (by decide) rfl (fun ls hl => ?_)
  exact L36 ((6 - (0 : Int)).toNat + 1) r101 0 0 H locs ls w103 (show 0 ≤ a1.toInt by omega) (show a1.toInt ≤ 11 by omega) (show 0 ≤ r101.toInt by omega) (show r101.toInt ≤ 1023 by omega) (by decide) (by decide) (by decide) (by decide) (Nat.lt_succ_self _) hw hT hF  (lv_sub hl [3, 4, 2, 1, 0] rfl)
abbrev P_X10_canDo_1 (ad : Nat → Nat) (cy : Nat → ClassId) (B : Int) (qr : Nat) (s1 : Int) (a1 : Int32) (w0 : va_W) : Int32 → va_W → Prop := fun r u => TW ksC ad cy B qr s1 u ∧ FE ksC ([] : List (Nat × Nat × Nat)) w0 u ∧ ((r = 0) ∨ (r = 1))
set_option maxHeartbeats 4000000 in
set_option maxRecDepth 100000 in
theorem k_X10_canDo_1 (l : Launch) (adK adV : Nat → Nat) (dC : Nat → ClassId) (dI : Nat → Nat → Nat) (cy : Nat → ClassId) (ad : Nat → Nat) (B : Int) (hB0 : 2147483648 ≤ B) (hB1 : B ≤ 1152921504606846976) (qr : Nat) (s1 : Int)  (a1 : Int32) (ra1 : 0 ≤ a1.toInt) (ta1 : a1.toInt ≤ 5) (w0 : va_W) (sz : Nat) (hT : TW ksC ad cy B qr s1 w0)  : Met l yX10_canDo wsX10_canDo ({ frames := 2, cells := 0, slots := 0, locals := 38 }) (va_Pc [.ref (ad 158), .int a1] (wpreS adK adV dC dI cy sz w0)) (va_Qi (P_X10_canDo_1 ad cy B qr s1 a1 w0) (fun u : va_W => wpost dC dI cy (va_A w0 sz) u) (va_A w0 sz)) 0 0 (va_A w0 sz) := by
  refine Met.ofW (cc := cX10_canDo) (maxL := 2) (ret := (some .boolean)) (by decide) rfl ?_
  intro p e s m args below meth c s₁ Bk hml hv
  obtain ⟨rfl, ⟨hsz, hP, hK, hD0⟩, hE, hSR⟩ := hv
  have hx := Bk.exec
  have hb := Bk.bytes
  have hr := Bk.returns
  have hlocks := Bk.notSynchronized
  have hC : CallFix p m c cX10_canDo 2 s _ wsX10_canDo RX10 := ⟨hx, hb, hml, findClass_of_methodNamed Bk.named, atoms_spec (ws := wsX10_canDo) Bk.pre⟩
  subst hsz
  have hD := hD0.self (sz := s.heap.size)
  generalize hAe : va_A w0 s.heap.size = A at hD hE ⊢
  have hA : ∀ q : Nat, s.heap.size ≤ q → A q := fun q h => by rw [← hAe]; exact Or.inr h
  have hw : Wd dC dI A s.heap s.heap [] w0 := ⟨hP, hD, va_S.rf⟩
  have hF : FE ksC ([] : List (Nat × Nat × Nat)) w0 w0 := FE.rf
  have hl := lv_entry ([.ref (ad 158), .int a1]) (n := 2) (Nat.le_of_ble_eq_true rfl)
  rw [lg_entry_eq]
  generalize (lg_sl ([.ref (ad 158), .int a1]) ++ List.replicate (2 - (lg_sl ([.ref (ad 158), .int a1])).length) Slot.unset).toArray = ls at hl ⊢
  have hl : lv_has ls 2 [(0, .ref (ad 158)), (1, .int a1)] := hl
  generalize hloc : ([] : List Loc) = locs at hw ⊢
  have hinX10 : ∀ w ∈ u_ws RX10 TX10 5, w ∈ wsX10_canDo := fun _ h => List.mem_cons_of_mem _ (List.mem_append_left _ (List.mem_append_left _ (List.mem_append_right _ (h))))
  have hinX5 : ∀ w ∈ u_ws RX5 TX5 14, w ∈ wsX10_canDo := fun _ h => List.mem_cons_of_mem _ (List.mem_append_left _ (List.mem_append_right _ (h)))
  refine lv_aload_n hx hb dX10_canDo_0 rfl (lv_at hl 0 rfl) ?_
  refine lv_aload_n hx hb dX10_canDo_1 rfl (lv_at hl 0 rfl) ?_
  refine tk_getA hC hK hw hT hinX10 kC_at158 (by decide) rfl 0 (by decide) (List.mem_of_getElem? (i := 1) rfl) rfl rfl dX10_canDo_2 ?_
  refine tk_getO hC hK hw hT hinX5 kC_at38 (by decide) rfl 3 (by decide) (List.mem_of_getElem? (i := 2) rfl) rfl rfl dX10_canDo_5 ?_
  refine lv_iload_n hx hb dX10_canDo_8 rfl (lv_at hl 1 rfl) ?_
  refine tk_iald hC hK hw hT kC_at50 rfl rfl (show 0 ≤ a1.toInt by omega) (show a1.toInt < 6 by omega) dX10_canDo_9 (fun x1 c2 rx1 tx1 => ?_)
  refine tk_Vi hC hK hw hT hA hE hSR kC_at158 (by decide) rfl (k_X10_cornersFrom_1 l adK adV dC dI cy ad B (by omega) (by omega) qr s1   x1 (show 0 ≤ x1.toInt by omega) (show x1.toInt ≤ 9 by omega) w0 s.heap.size hT ) (cwV 1 hC.2.2.2.2 gX10_canDo_X10_cornersFrom rfl rfl rfl (by decide +kernel) ⟨Nat.le_of_ble_eq_true rfl, Nat.le_of_ble_eq_true rfl⟩) rfl hl.1 rfl (Nat.le_of_ble_eq_true rfl) dX10_canDo_10 (fun r3 w5 H locs hp4 hw => ?_)
  obtain ⟨hT, k6, hg9⟩ := hp4
  have hF := hF.tr k6 (by decide)
  obtain ⟨g7, g8⟩ := hg9
  refine lv_aload_n hx hb dX10_canDo_13 rfl (lv_at hl 0 rfl) ?_
  refine tk_getA hC hK hw hT hinX10 kC_at158 (by decide) rfl 0 (by decide) (List.mem_of_getElem? (i := 1) rfl) rfl rfl dX10_canDo_14 ?_
  refine tk_getO hC hK hw hT hinX5 kC_at38 (by decide) rfl 4 (by decide) (List.mem_of_getElem? (i := 3) rfl) rfl rfl dX10_canDo_17 ?_
  refine lv_iload_n hx hb dX10_canDo_20 rfl (lv_at hl 1 rfl) ?_
  refine tk_iald hC hK hw hT kC_at51 rfl rfl (show 0 ≤ a1.toInt by omega) (show a1.toInt < 6 by omega) dX10_canDo_21 (fun x10 c11 rx10 tx10 => ?_)
  refine lv_ishr hx hb dX10_canDo_22 ?_
  refine lv_topi (fun x12 ex12 => ?_)
  have bx12 : 0 ≤ x12.toInt ∧ x12.toInt ≤ r3.toInt := by rw [ex12]; exact wk_shr (by omega)
  refine lv_iconst (v := 1) hx hb dX10_canDo_23 (by decide) ?_
  refine lv_iand hx hb dX10_canDo_24 ?_
  refine lv_topi (fun x13 ex13 => ?_)
  have bx13 : 0 ≤ x13.toInt ∧ x13.toInt ≤ (1 : Int) := by rw [ex13]; exact wk_and (by decide)
  refine lv_if_eq (tgt := 32) hx hb dX10_canDo_25 (by decide) (fun c14 => ?_) (fun c14 => ?_)
  · have c14 : x13.toInt = (0 : Int) := wk_eq.mp c14
    refine lv_iconst (v := 0) hx hb dX10_canDo_32 (by decide) ?_
    exact tk_zret hC hr rfl hlocks hK ⟨hT, hF, (Or.inl rfl)⟩ hw dX10_canDo_33
  · have c14 : ¬ x13.toInt = (0 : Int) := wk_eqF c14
    refine lv_iconst (v := 1) hx hb dX10_canDo_28 (by decide) ?_
    refine lv_goto (tgt := 33) hx hb dX10_canDo_29 (by decide) ?_
    exact tk_zret hC hr rfl hlocks hK ⟨hT, hF, (Or.inr rfl)⟩ hw dX10_canDo_33
abbrev P_X10_layRoads_2 (ad : Nat → Nat) (cy : Nat → ClassId) (B : Int) (qr : Nat) (s1 : Int) (a1 : Int32) (w0 : va_W) : va_W → Prop := fun u => TW ksC ad cy B qr s1 u ∧ FE ksC [(51, 0, 10)] w0 u ∧ ((True))
set_option maxHeartbeats 4000000 in
set_option maxRecDepth 100000 in
theorem k_X10_layRoads_2 (l : Launch) (adK adV : Nat → Nat) (dC : Nat → ClassId) (dI : Nat → Nat → Nat) (cy : Nat → ClassId) (ad : Nat → Nat) (B : Int) (hB0 : 2147483648 ≤ B) (hB1 : B ≤ 1152921504606846976) (qr : Nat) (s1 : Int)  (a1 : Int32) (ra1 : 0 ≤ a1.toInt) (ta1 : a1.toInt ≤ 12) (w0 : va_W) (sz : Nat) (hT : TW ksC ad cy B qr s1 w0)  : Met l yX10_layRoads wsX10_layRoads ({ frames := 1, cells := 0, slots := 0, locals := 12 }) (va_Pc [.ref (ad 158), .int a1, .int 0, .int (-1)] (wpreS adK adV dC dI cy sz w0)) (va_Qv (P_X10_layRoads_2 ad cy B qr s1 a1 w0) (fun u : va_W => wpost dC dI cy (va_A w0 sz) u) (va_A w0 sz)) 0 0 (va_A w0 sz) := by
  refine Met.ofW (cc := cX10_layRoads) (maxL := 8) (ret := none) (by decide) rfl ?_
  intro p e s m args below meth c s₁ Bk hml hv
  obtain ⟨rfl, ⟨hsz, hP, hK, hD0⟩, hE, hSR⟩ := hv
  have hx := Bk.exec
  have hb := Bk.bytes
  have hr := Bk.returns
  have hlocks := Bk.notSynchronized
  have hC : CallFix p m c cX10_layRoads 8 s _ wsX10_layRoads RX10 := ⟨hx, hb, hml, findClass_of_methodNamed Bk.named, atoms_spec (ws := wsX10_layRoads) Bk.pre⟩
  subst hsz
  have hD := hD0.self (sz := s.heap.size)
  generalize hAe : va_A w0 s.heap.size = A at hD hE ⊢
  have hA : ∀ q : Nat, s.heap.size ≤ q → A q := fun q h => by rw [← hAe]; exact Or.inr h
  have hw : Wd dC dI A s.heap s.heap [] w0 := ⟨hP, hD, va_S.rf⟩
  have hF : FE ksC [(51, 0, 10)] w0 w0 := FE.rf
  have hl := lv_entry ([.ref (ad 158), .int a1, .int 0, .int (-1)]) (n := 8) (Nat.le_of_ble_eq_true rfl)
  rw [lg_entry_eq]
  generalize (lg_sl ([.ref (ad 158), .int a1, .int 0, .int (-1)]) ++ List.replicate (8 - (lg_sl ([.ref (ad 158), .int a1, .int 0, .int (-1)])).length) Slot.unset).toArray = ls at hl ⊢
  have hl : lv_has ls 8 [(0, .ref (ad 158)), (1, .int a1), (2, .int 0), (3, .int (-1))] := hl
  generalize hloc : ([] : List Loc) = locs at hw ⊢
  have hinX10 : ∀ w ∈ u_ws RX10 TX10 5, w ∈ wsX10_layRoads := fun _ h => List.mem_cons_of_mem _ (List.mem_append_left _ (List.mem_append_right _ (h)))
  have hinX7 : ∀ w ∈ u_ws RX7 TX7 12, w ∈ wsX10_layRoads := fun _ h => List.mem_cons_of_mem _ (List.mem_append_right _ (h))
  have L27 : ∀ (n27 : Nat) (v27_4 : Int32) (H : Heap) (locs : List Loc) (ls : Array Slot) (w1 : va_W), 0 ≤ a1.toInt → a1.toInt ≤ 12 → 0 ≤ v27_4.toInt → v27_4.toInt ≤ 12 → (12 - v27_4.toInt).toNat < n27 → Wd dC dI A s.heap H locs w1 → TW ksC ad cy B qr s1 w1 → FE ksC [(51, 0, 10)] w0 w1 → lv_has ls 8 [(0, .ref (ad 158)), (1, .int a1), (2, .int 0), (3, .int (-1)), (4, .int v27_4)] → W p l e ({ frames := 1, cells := 0, slots := 0, locals := 12 }) s m (List.toArray [.ref (ad 158), .int a1, .int 0, .int (-1)]) below meth c H locs 0 0 (MQ below (va_Qv (P_X10_layRoads_2 ad cy B qr s1 a1 w0) (fun u : va_W => wpost dC dI cy A u) A) (List.toArray [.ref (ad 158), .int a1, .int 0, .int (-1)]) s 0 0 A) (F0 m 27 ls []) := by
    intro n27
    induction n27 with
    | zero => intro v27_4 H locs ls w1 r2 t3 r4 t5 hm27 hw hT hF hl; omega
    | succ n27 ih27 =>
      intro v27_4 H locs ls w1 r2 t3 r4 t5 hm27 hw hT hF hl
      have J144 : ∀ (v144_5 : Int32) (v144_6 : Int32) (v144_7 : Int32) (f144_158_4 : Int32) (H : Heap) (locs : List Loc) (ls : Array Slot) (w6 : va_W), 0 ≤ a1.toInt → a1.toInt ≤ 12 → 0 ≤ v27_4.toInt → v27_4.toInt ≤ 11 → 0 ≤ v144_5.toInt → v144_5.toInt ≤ 9 → 0 ≤ v144_6.toInt → v144_6.toInt ≤ 9 → 0 ≤ v144_7.toInt → v144_7.toInt ≤ 1 → 1 ≤ f144_158_4.toInt → f144_158_4.toInt ≤ 12 → Wd dC dI A s.heap H locs w6 → TW ksC ad cy B qr s1 w6 → FE ksC [(51, 0, 10)] w0 w6 → gi w6 158 4 = f144_158_4 → lv_has ls 8 [(0, .ref (ad 158)), (1, .int a1), (2, .int 0), (3, .int (-1)), (4, .int v27_4), (5, .int v144_5), (6, .int v144_6), (7, .int v144_7)] → W p l e ({ frames := 1, cells := 0, slots := 0, locals := 12 }) s m (List.toArray [.ref (ad 158), .int a1, .int 0, .int (-1)]) below meth c H locs 0 0 (MQ below (va_Qv (P_X10_layRoads_2 ad cy B qr s1 a1 w0) (fun u : va_W => wpost dC dI cy A u) A) (List.toArray [.ref (ad 158), .int a1, .int 0, .int (-1)]) s 0 0 A) (F0 m 144 ls []) := by
        intro v144_5 v144_6 v144_7 f144_158_4 H locs ls w6 r7 t8 r9 t10 r11 t12 r13 t14 r15 t16 r17 t18 hw hT hF c19 hl
        obtain ⟨x20, ex20⟩ : ∃ y : Int32, y = v27_4 + Int32.ofInt 1 := ⟨_, rfl⟩
        refine lv_iinc (v := x20) (lv' := [(4, .int x20), (0, .ref (ad 158)), (1, .int a1), (2, .int 0), (3, .int (-1)), (5, .int v144_5), (6, .int v144_6), (7, .int v144_7)]) hx hb dX10_layRoads_144 hl (k := 4) rfl ex20.symm (by decide) rfl (fun ls hl => ?_)
        have ex20 : x20.toInt = v27_4.toInt + 1 := by rw [ex20]; exact wk_add (y := 1) (show -2147483648 ≤ v27_4.toInt + 1 by omega) (show v27_4.toInt + 1 ≤ 2147483647 by omega)
        refine lv_goto (tgt := 27) hx hb dX10_layRoads_147 (by decide) ?_
        exact ih27 x20 H locs ls w6 (show 0 ≤ a1.toInt by omega) (show a1.toInt ≤ 12 by omega) (show 0 ≤ x20.toInt by omega) (show x20.toInt ≤ 12 by omega) (show (12 - x20.toInt).toNat < n27 by omega) hw hT hF  (lv_sub hl [1, 2, 3, 4, 0] rfl)
      have J130 : ∀ (v130_5 : Int32) (v130_6 : Int32) (v130_7 : Int32) (f130_158_4 : Int32) (H : Heap) (locs : List Loc) (ls : Array Slot) (w21 : va_W), 0 ≤ a1.toInt → a1.toInt ≤ 12 → 0 ≤ v27_4.toInt → v27_4.toInt ≤ 11 → 0 ≤ v130_5.toInt → v130_5.toInt ≤ 9 → 0 ≤ v130_6.toInt → v130_6.toInt ≤ 9 → 0 ≤ v130_7.toInt → v130_7.toInt ≤ 1 → 1 ≤ f130_158_4.toInt → f130_158_4.toInt ≤ 12 → Wd dC dI A s.heap H locs w21 → TW ksC ad cy B qr s1 w21 → FE ksC [(51, 0, 10)] w0 w21 → gi w21 158 4 = f130_158_4 → lv_has ls 8 [(0, .ref (ad 158)), (1, .int a1), (2, .int 0), (3, .int (-1)), (4, .int v27_4), (5, .int v130_5), (6, .int v130_6), (7, .int v130_7)] → W p l e ({ frames := 1, cells := 0, slots := 0, locals := 12 }) s m (List.toArray [.ref (ad 158), .int a1, .int 0, .int (-1)]) below meth c H locs 0 0 (MQ below (va_Qv (P_X10_layRoads_2 ad cy B qr s1 a1 w0) (fun u : va_W => wpost dC dI cy A u) A) (List.toArray [.ref (ad 158), .int a1, .int 0, .int (-1)]) s 0 0 A) (F0 m 130 ls []) := by
        intro v130_5 v130_6 v130_7 f130_158_4 H locs ls w21 r22 t23 r24 t25 r26 t27 r28 t29 r30 t31 r32 t33 hw hT hF c34 hl
        refine lv_aload_n hx hb dX10_layRoads_130 rfl (lv_at hl 0 rfl) ?_
        refine tk_getA hC hK hw hT hinX10 kC_at158 (by decide) rfl 3 (by decide) (List.mem_of_getElem? (i := 1) rfl) rfl rfl dX10_layRoads_131 ?_
        refine lv_iload hx hb dX10_layRoads_134 (lv_at hl 6 rfl) ?_
        refine lv_dup2_11 hx hb dX10_layRoads_136 rfl rfl ?_
        refine tk_iald hC hK hw hT kC_at160 rfl rfl (show 0 ≤ v130_6.toInt by omega) (show v130_6.toInt < 10 by omega) dX10_layRoads_137 (fun x35 c36 rx35 tx35 => ?_)
        refine lv_iconst (v := 1) hx hb dX10_layRoads_138 (by decide) ?_
        refine lv_iload hx hb dX10_layRoads_139 (lv_at hl 5 rfl) ?_
        refine lv_ishl hx hb dX10_layRoads_141 ?_
        refine lv_topi (fun x37 ex37 => ?_)
        have bx37 : 1 ≤ x37.toInt ∧ x37.toInt ≤ 512 := by rw [ex37]; exact wk_shl1 9 (by decide) (by omega) (by omega)
        refine lv_ior hx hb dX10_layRoads_142 ?_
        refine lv_topi (fun x38 ex38 => ?_)
        have bx38 : 0 ≤ x38.toInt ∧ x38.toInt < 1024 := by rw [ex38]; exact wk_or 10 (by decide) (by omega) (by omega) (by omega) (by omega)
        refine tk_iast hC hK hw hT kC_at160 (by decide) rfl rfl (show 0 ≤ v130_6.toInt by omega) (show v130_6.toInt < 10 by omega) (show 0 ≤ x38.toInt by omega) (show x38.toInt ≤ 1023 by omega) dX10_layRoads_143 (fun H locs w39 hw hT k41 c40 => ?_)
        have hF := hF.put kC_at160 (inE_of (a := 0) (b := 10) (by decide) (show 0 ≤ v130_6.toInt.toNat by omega) (show v130_6.toInt.toNat ≤ 10 by omega)) k41
        have c42 := k41.gi (Or.inl (tk_ne kC_at158 kC_at160 (by decide))) c34
        exact J144 v130_5 v130_6 v130_7 f130_158_4 H locs ls w39 (show 0 ≤ a1.toInt by omega) (show a1.toInt ≤ 12 by omega) (show 0 ≤ v27_4.toInt by omega) (show v27_4.toInt ≤ 11 by omega) (show 0 ≤ v130_5.toInt by omega) (show v130_5.toInt ≤ 9 by omega) (show 0 ≤ v130_6.toInt by omega) (show v130_6.toInt ≤ 9 by omega) (show 0 ≤ v130_7.toInt by omega) (show v130_7.toInt ≤ 1 by omega) (show 1 ≤ f130_158_4.toInt by omega) (show f130_158_4.toInt ≤ 12 by omega)  hw hT hF c42 (lv_sub hl [0, 1, 2, 3, 4, 5, 6, 7] rfl)
      have J118 : ∀ (v118_5 : Int32) (v118_6 : Int32) (v118_7 : Int32) (f118_158_4 : Int32) (H : Heap) (locs : List Loc) (ls : Array Slot) (w43 : va_W), 0 ≤ a1.toInt → a1.toInt ≤ 12 → 0 ≤ v27_4.toInt → v27_4.toInt ≤ 11 → 0 ≤ v118_5.toInt → v118_5.toInt ≤ 9 → 0 ≤ v118_6.toInt → v118_6.toInt ≤ 9 → 0 ≤ v118_7.toInt → v118_7.toInt ≤ 1 → 1 ≤ f118_158_4.toInt → f118_158_4.toInt ≤ 12 → Wd dC dI A s.heap H locs w43 → TW ksC ad cy B qr s1 w43 → FE ksC [(51, 0, 10)] w0 w43 → gi w43 158 4 = f118_158_4 → lv_has ls 8 [(0, .ref (ad 158)), (1, .int a1), (2, .int 0), (3, .int (-1)), (4, .int v27_4), (5, .int v118_5), (6, .int v118_6), (7, .int v118_7)] → W p l e ({ frames := 1, cells := 0, slots := 0, locals := 12 }) s m (List.toArray [.ref (ad 158), .int a1, .int 0, .int (-1)]) below meth c H locs 0 0 (MQ below (va_Qv (P_X10_layRoads_2 ad cy B qr s1 a1 w0) (fun u : va_W => wpost dC dI cy A u) A) (List.toArray [.ref (ad 158), .int a1, .int 0, .int (-1)]) s 0 0 A) (F0 m 118 ls []) := by
        intro v118_5 v118_6 v118_7 f118_158_4 H locs ls w43 r44 t45 r46 t47 r48 t49 r50 t51 r52 t53 r54 t55 hw hT hF c56 hl
        refine lv_iload hx hb dX10_layRoads_118 (lv_at hl 4 rfl) ?_
        refine lv_iload_n hx hb dX10_layRoads_120 rfl (lv_at hl 1 rfl) ?_
        refine lv_icmp_lt (tgt := 130) hx hb dX10_layRoads_121 (by decide) (fun c57 => ?_) (fun c57 => ?_)
        · have c57 : v27_4.toInt < a1.toInt := wk_lt.mp c57
          exact J130 v118_5 v118_6 v118_7 f118_158_4 H locs ls w43 (show 0 ≤ a1.toInt by omega) (show a1.toInt ≤ 12 by omega) (show 0 ≤ v27_4.toInt by omega) (show v27_4.toInt ≤ 11 by omega) (show 0 ≤ v118_5.toInt by omega) (show v118_5.toInt ≤ 9 by omega) (show 0 ≤ v118_6.toInt by omega) (show v118_6.toInt ≤ 9 by omega) (show 0 ≤ v118_7.toInt by omega) (show v118_7.toInt ≤ 1 by omega) (show 1 ≤ f118_158_4.toInt by omega) (show f118_158_4.toInt ≤ 12 by omega)  hw hT hF c56 (lv_sub hl [0, 1, 2, 3, 4, 5, 6, 7] rfl)
        · have c57 : a1.toInt ≤ v27_4.toInt := wk_ltF c57
          refine lv_iload hx hb dX10_layRoads_124 (lv_at hl 7 rfl) ?_
          refine lv_iconst (v := 1) hx hb dX10_layRoads_126 (by decide) ?_
          refine lv_icmp_ne (tgt := 144) hx hb dX10_layRoads_127 (by decide) (fun c58 => ?_) (fun c58 => ?_)
          · have c58 : ¬ v118_7.toInt = (1 : Int) := wk_eqF c58
            exact J144 v118_5 v118_6 v118_7 f118_158_4 H locs ls w43 (show 0 ≤ a1.toInt by omega) (show a1.toInt ≤ 12 by omega) (show 0 ≤ v27_4.toInt by omega) (show v27_4.toInt ≤ 11 by omega) (show 0 ≤ v118_5.toInt by omega) (show v118_5.toInt ≤ 9 by omega) (show 0 ≤ v118_6.toInt by omega) (show v118_6.toInt ≤ 9 by omega) (show 0 ≤ v118_7.toInt by omega) (show v118_7.toInt ≤ 1 by omega) (show 1 ≤ f118_158_4.toInt by omega) (show f118_158_4.toInt ≤ 12 by omega)  hw hT hF c56 (lv_sub hl [0, 1, 2, 3, 4, 5, 6, 7] rfl)
          · have c58 : v118_7.toInt = (1 : Int) := wk_eq.mp c58
            exact J130 v118_5 v118_6 v118_7 f118_158_4 H locs ls w43 (show 0 ≤ a1.toInt by omega) (show a1.toInt ≤ 12 by omega) (show 0 ≤ v27_4.toInt by omega) (show v27_4.toInt ≤ 11 by omega) (show 0 ≤ v118_5.toInt by omega) (show v118_5.toInt ≤ 9 by omega) (show 0 ≤ v118_6.toInt by omega) (show v118_6.toInt ≤ 9 by omega) (show 0 ≤ v118_7.toInt by omega) (show v118_7.toInt ≤ 1 by omega) (show 1 ≤ f118_158_4.toInt by omega) (show f118_158_4.toInt ≤ 12 by omega)  hw hT hF c56 (lv_sub hl [0, 1, 2, 3, 4, 5, 6, 7] rfl)
      have J104 : ∀ (v104_5 : Int32) (v104_6 : Int32) (v104_7 : Int32) (f104_158_4 : Int32) (H : Heap) (locs : List Loc) (ls : Array Slot) (w59 : va_W), 0 ≤ a1.toInt → a1.toInt ≤ 12 → 0 ≤ v27_4.toInt → v27_4.toInt ≤ 11 → 0 ≤ v104_5.toInt → v104_5.toInt ≤ 9 → 0 ≤ v104_6.toInt → v104_6.toInt ≤ 9 → 0 ≤ v104_7.toInt → v104_7.toInt ≤ 1 → 1 ≤ f104_158_4.toInt → f104_158_4.toInt ≤ 12 → Wd dC dI A s.heap H locs w59 → TW ksC ad cy B qr s1 w59 → FE ksC [(51, 0, 10)] w0 w59 → gi w59 158 4 = f104_158_4 → lv_has ls 8 [(0, .ref (ad 158)), (1, .int a1), (2, .int 0), (3, .int (-1)), (4, .int v27_4), (5, .int v104_5), (6, .int v104_6), (7, .int v104_7)] → W p l e ({ frames := 1, cells := 0, slots := 0, locals := 12 }) s m (List.toArray [.ref (ad 158), .int a1, .int 0, .int (-1)]) below meth c H locs 0 0 (MQ below (va_Qv (P_X10_layRoads_2 ad cy B qr s1 a1 w0) (fun u : va_W => wpost dC dI cy A u) A) (List.toArray [.ref (ad 158), .int a1, .int 0, .int (-1)]) s 0 0 A) (F0 m 104 ls []) := by
        intro v104_5 v104_6 v104_7 f104_158_4 H locs ls w59 r60 t61 r62 t63 r64 t65 r66 t67 r68 t69 r70 t71 hw hT hF c72 hl
        refine lv_aload_n hx hb dX10_layRoads_104 rfl (lv_at hl 0 rfl) ?_
        refine tk_getA hC hK hw hT hinX10 kC_at158 (by decide) rfl 3 (by decide) (List.mem_of_getElem? (i := 1) rfl) rfl rfl dX10_layRoads_105 ?_
        refine lv_iload hx hb dX10_layRoads_108 (lv_at hl 5 rfl) ?_
        refine lv_dup2_11 hx hb dX10_layRoads_110 rfl rfl ?_
        refine tk_iald hC hK hw hT kC_at160 rfl rfl (show 0 ≤ v104_5.toInt by omega) (show v104_5.toInt < 10 by omega) dX10_layRoads_111 (fun x73 c74 rx73 tx73 => ?_)
        refine lv_iconst (v := 1) hx hb dX10_layRoads_112 (by decide) ?_
        refine lv_iload hx hb dX10_layRoads_113 (lv_at hl 6 rfl) ?_
        refine lv_ishl hx hb dX10_layRoads_115 ?_
        refine lv_topi (fun x75 ex75 => ?_)
        have bx75 : 1 ≤ x75.toInt ∧ x75.toInt ≤ 512 := by rw [ex75]; exact wk_shl1 9 (by decide) (by omega) (by omega)
        refine lv_ior hx hb dX10_layRoads_116 ?_
        refine lv_topi (fun x76 ex76 => ?_)
        have bx76 : 0 ≤ x76.toInt ∧ x76.toInt < 1024 := by rw [ex76]; exact wk_or 10 (by decide) (by omega) (by omega) (by omega) (by omega)
        refine tk_iast hC hK hw hT kC_at160 (by decide) rfl rfl (show 0 ≤ v104_5.toInt by omega) (show v104_5.toInt < 10 by omega) (show 0 ≤ x76.toInt by omega) (show x76.toInt ≤ 1023 by omega) dX10_layRoads_117 (fun H locs w77 hw hT k79 c78 => ?_)
        have hF := hF.put kC_at160 (inE_of (a := 0) (b := 10) (by decide) (show 0 ≤ v104_5.toInt.toNat by omega) (show v104_5.toInt.toNat ≤ 10 by omega)) k79
        have c80 := k79.gi (Or.inl (tk_ne kC_at158 kC_at160 (by decide))) c72
        exact J118 v104_5 v104_6 v104_7 f104_158_4 H locs ls w77 (show 0 ≤ a1.toInt by omega) (show a1.toInt ≤ 12 by omega) (show 0 ≤ v27_4.toInt by omega) (show v27_4.toInt ≤ 11 by omega) (show 0 ≤ v104_5.toInt by omega) (show v104_5.toInt ≤ 9 by omega) (show 0 ≤ v104_6.toInt by omega) (show v104_6.toInt ≤ 9 by omega) (show 0 ≤ v104_7.toInt by omega) (show v104_7.toInt ≤ 1 by omega) (show 1 ≤ f104_158_4.toInt by omega) (show f104_158_4.toInt ≤ 12 by omega)  hw hT hF c80 (lv_sub hl [0, 1, 2, 3, 4, 5, 6, 7] rfl)
      refine lv_iload hx hb dX10_layRoads_27 (lv_at hl 4 rfl) ?_
      refine lv_aload_n hx hb dX10_layRoads_29 rfl (lv_at hl 0 rfl) ?_
      refine tk_geti hC hK hw hT hinX10 kC_at158 (by decide) rfl 4 (by decide) (List.mem_of_getElem? (i := 2) rfl) rfl rfl dX10_layRoads_30 (fun x81 c82 rx81 tx81 => ?_)
      refine lv_icmp_ge (tgt := 150) hx hb dX10_layRoads_33 (by decide) (fun c83 => ?_) (fun c83 => ?_)
      · have c83 : x81.toInt ≤ v27_4.toInt := wk_le.mp c83
        exact tk_vret hC hr hlocks hK ⟨hT, hF, trivial⟩ hw dX10_layRoads_150
      · have c83 : v27_4.toInt < x81.toInt := wk_leF c83
        refine lv_iload hx hb dX10_layRoads_36 (lv_at hl 4 rfl) ?_
        refine lv_iload_n hx hb dX10_layRoads_38 rfl (lv_at hl 3 rfl) ?_
        refine lv_icmp_ne (tgt := 45) hx hb dX10_layRoads_39 (by decide) (fun _ => ?_) (fun c => absurd (show v27_4.toInt = (-1 : Int) from wk_eq.mp c) (by omega))
        refine lv_aload_n hx hb dX10_layRoads_45 rfl (lv_at hl 0 rfl) ?_
        refine tk_getA hC hK hw hT hinX10 kC_at158 (by decide) rfl 1 (by decide) (List.mem_of_getElem? (i := 3) rfl) rfl rfl dX10_layRoads_46 ?_
        refine tk_getO hC hK hw hT hinX7 kC_at39 (by decide) rfl 0 (by decide) (List.mem_of_getElem? (i := 4) rfl) rfl rfl dX10_layRoads_49 ?_
        refine lv_iconst (v := 2) hx hb dX10_layRoads_52 (by decide) ?_
        refine lv_aload_n hx hb dX10_layRoads_53 rfl (lv_at hl 0 rfl) ?_
        refine tk_getA hC hK hw hT hinX10 kC_at158 (by decide) rfl 2 (by decide) (List.mem_of_getElem? (i := 5) rfl) rfl rfl dX10_layRoads_54 ?_
        refine lv_iload hx hb dX10_layRoads_57 (lv_at hl 4 rfl) ?_
        refine tk_iald hC hK hw hT kC_at159 rfl rfl (show 0 ≤ v27_4.toInt by omega) (show v27_4.toInt < 12 by omega) dX10_layRoads_59 (fun x84 c85 rx84 tx84 => ?_)
        refine lv_imul hx hb dX10_layRoads_60 ?_
        refine lv_topi (fun x86 ex86 => ?_)
        have ex86 : x86.toInt = (2 : Int) * x84.toInt := by rw [ex86]; exact wk_mul (show (-2147483648) ≤ (2 : Int) * x84.toInt by omega) (show (2 : Int) * x84.toInt ≤ 2147483647 by omega)
        refine tk_iald hC hK hw hT kC_at40 rfl rfl (show 0 ≤ x86.toInt by omega) (show x86.toInt < 26 by omega) dX10_layRoads_61 (fun x87 c88 rx87 tx87 => ?_)
        refine lv_istore (lv' := [(5, .int x87), (0, .ref (ad 158)), (1, .int a1), (2, .int 0), (3, .int (-1)), (4, .int v27_4)]) hx hb dX10_layRoads_62 hl (by decide) rfl (fun ls hl => ?_)
        refine lv_aload_n hx hb dX10_layRoads_64 rfl (lv_at hl 1 rfl) ?_
        refine tk_getA hC hK hw hT hinX10 kC_at158 (by decide) rfl 1 (by decide) (List.mem_of_getElem? (i := 3) rfl) rfl rfl dX10_layRoads_65 ?_
        refine tk_getO hC hK hw hT hinX7 kC_at39 (by decide) rfl 0 (by decide) (List.mem_of_getElem? (i := 4) rfl) rfl rfl dX10_layRoads_68 ?_
        refine lv_iconst (v := 2) hx hb dX10_layRoads_71 (by decide) ?_
        refine lv_aload_n hx hb dX10_layRoads_72 rfl (lv_at hl 1 rfl) ?_
        refine tk_getA hC hK hw hT hinX10 kC_at158 (by decide) rfl 2 (by decide) (List.mem_of_getElem? (i := 5) rfl) rfl rfl dX10_layRoads_73 ?_
        refine lv_iload hx hb dX10_layRoads_76 (lv_at hl 5 rfl) ?_
        refine tk_iald hC hK hw hT kC_at159 rfl rfl (show 0 ≤ v27_4.toInt by omega) (show v27_4.toInt < 12 by omega) dX10_layRoads_78 (fun x89 c90 rx89 tx89 => ?_)
        refine lv_imul hx hb dX10_layRoads_79 ?_
        refine lv_topi (fun x91 ex91 => ?_)
        have ex91 : x91.toInt = (2 : Int) * x89.toInt := by rw [ex91]; exact wk_mul (show (-2147483648) ≤ (2 : Int) * x89.toInt by omega) (show (2 : Int) * x89.toInt ≤ 2147483647 by omega)
        refine lv_iconst (v := 1) hx hb dX10_layRoads_80 (by decide) ?_
        refine lv_iadd hx hb dX10_layRoads_81 ?_
        refine lv_topi (fun x92 ex92 => ?_)
        have ex92 : x92.toInt = x91.toInt + (1 : Int) := by rw [ex92]; exact wk_add (show (-2147483648) ≤ x91.toInt + (1 : Int) by omega) (show x91.toInt + (1 : Int) ≤ 2147483647 by omega)
        refine tk_iald hC hK hw hT kC_at40 rfl rfl (show 0 ≤ x92.toInt by omega) (show x92.toInt < 26 by omega) dX10_layRoads_82 (fun x93 c94 rx93 tx93 => ?_)
        refine lv_istore (lv' := [(6, .int x93), (5, .int x87), (0, .ref (ad 158)), (1, .int a1), (2, .int 0), (3, .int (-1)), (4, .int v27_4)]) hx hb dX10_layRoads_83 hl (by decide) rfl (fun ls hl => ?_)
        refine lv_iload_n hx hb dX10_layRoads_85 rfl (lv_at hl 4 rfl) ?_
        refine lv_iload hx hb dX10_layRoads_86 (lv_at hl 6 rfl) ?_
        refine lv_ishr hx hb dX10_layRoads_88 ?_
        refine lv_topi (fun x95 ex95 => ?_)
        have bx95 : 0 ≤ x95.toInt ∧ x95.toInt ≤ (0 : Int) := by rw [ex95]; exact wk_shr (by decide)
        refine lv_iconst (v := 1) hx hb dX10_layRoads_89 (by decide) ?_
        refine lv_iand hx hb dX10_layRoads_90 ?_
        refine lv_topi (fun x96 ex96 => ?_)
        have bx96 : 0 ≤ x96.toInt ∧ x96.toInt ≤ (1 : Int) := by rw [ex96]; exact wk_and (by decide)
        refine lv_istore (lv' := [(7, .int x96), (6, .int x93), (5, .int x87), (0, .ref (ad 158)), (1, .int a1), (2, .int 0), (3, .int (-1)), (4, .int v27_4)]) hx hb dX10_layRoads_91 hl (by decide) rfl (fun ls hl => ?_)
        refine lv_iload hx hb dX10_layRoads_93 (lv_at hl 7 rfl) ?_
        refine lv_iload_n hx hb dX10_layRoads_95 rfl (lv_at hl 4 rfl) ?_
        refine lv_icmp_lt (tgt := 104) hx hb dX10_layRoads_96 (by decide) (fun c97 => ?_) (fun c97 => ?_)
        · have c97 : v27_4.toInt < a1.toInt := wk_lt.mp c97
          exact J104 x87 x93 x96 x81 H locs ls w1 (show 0 ≤ a1.toInt by omega) (show a1.toInt ≤ 12 by omega) (show 0 ≤ v27_4.toInt by omega) (show v27_4.toInt ≤ 11 by omega) (show 0 ≤ x87.toInt by omega) (show x87.toInt ≤ 9 by omega) (show 0 ≤ x93.toInt by omega) (show x93.toInt ≤ 9 by omega) (show 0 ≤ x96.toInt by omega) (show x96.toInt ≤ 1 by omega) (show 1 ≤ x81.toInt by omega) (show x81.toInt ≤ 12 by omega)  hw hT hF c82 (lv_sub hl [3, 4, 5, 6, 7, 2, 1, 0] rfl)
        · have c97 : a1.toInt ≤ v27_4.toInt := wk_ltF c97
          refine lv_iload hx hb dX10_layRoads_99 (lv_at hl 0 rfl) ?_
          refine lv_if_ne (tgt := 118) hx hb dX10_layRoads_101 (by decide) (fun c98 => ?_) (fun c98 => ?_)
          · have c98 : ¬ x96.toInt = (0 : Int) := wk_eqF c98
            exact J118 x87 x93 x96 x81 H locs ls w1 (show 0 ≤ a1.toInt by omega) (show a1.toInt ≤ 12 by omega) (show 0 ≤ v27_4.toInt by omega) (show v27_4.toInt ≤ 11 by omega) (show 0 ≤ x87.toInt by omega) (show x87.toInt ≤ 9 by omega) (show 0 ≤ x93.toInt by omega) (show x93.toInt ≤ 9 by omega) (show 0 ≤ x96.toInt by omega) (show x96.toInt ≤ 1 by omega) (show 1 ≤ x81.toInt by omega) (show x81.toInt ≤ 12 by omega)  hw hT hF c82 (lv_sub hl [3, 4, 5, 6, 7, 2, 1, 0] rfl)
          · have c98 : x96.toInt = (0 : Int) := wk_eq.mp c98
            exact J104 x87 x93 x96 x81 H locs ls w1 (show 0 ≤ a1.toInt by omega) (show a1.toInt ≤ 12 by omega) (show 0 ≤ v27_4.toInt by omega) (show v27_4.toInt ≤ 11 by omega) (show 0 ≤ x87.toInt by omega) (show x87.toInt ≤ 9 by omega) (show 0 ≤ x93.toInt by omega) (show x93.toInt ≤ 9 by omega) (show 0 ≤ x96.toInt by omega) (show x96.toInt ≤ 1 by omega) (show 1 ≤ x81.toInt by omega) (show x81.toInt ≤ 12 by omega)  hw hT hF c82 (lv_sub hl [3, 4, 5, 6, 7, 2, 1, 0] rfl)
  have L3 : ∀ (n3 : Nat) (v3_4 : Int32) (H : Heap) (locs : List Loc) (ls : Array Slot) (w99 : va_W), 0 ≤ a1.toInt → a1.toInt ≤ 12 → 0 ≤ v3_4.toInt → v3_4.toInt ≤ 10 → (10 - v3_4.toInt).toNat < n3 → Wd dC dI A s.heap H locs w99 → TW ksC ad cy B qr s1 w99 → FE ksC [(51, 0, 10)] w0 w99 → lv_has ls 8 [(0, .ref (ad 158)), (1, .int a1), (2, .int 0), (3, .int (-1)), (4, .int v3_4)] → W p l e ({ frames := 1, cells := 0, slots := 0, locals := 12 }) s m (List.toArray [.ref (ad 158), .int a1, .int 0, .int (-1)]) below meth c H locs 0 0 (MQ below (va_Qv (P_X10_layRoads_2 ad cy B qr s1 a1 w0) (fun u : va_W => wpost dC dI cy A u) A) (List.toArray [.ref (ad 158), .int a1, .int 0, .int (-1)]) s 0 0 A) (F0 m 3 ls []) := by
    intro n3
    induction n3 with
    | zero => intro v3_4 H locs ls w99 r100 t101 r102 t103 hm3 hw hT hF hl; omega
    | succ n3 ih3 =>
      intro v3_4 H locs ls w99 r100 t101 r102 t103 hm3 hw hT hF hl
      refine lv_iload hx hb dX10_layRoads_3 (lv_at hl 4 rfl) ?_
      refine lv_bipush (v := 10) hx hb dX10_layRoads_5 (by decide) ?_
      refine lv_icmp_ge (tgt := 24) hx hb dX10_layRoads_7 (by decide) (fun c104 => ?_) (fun c104 => ?_)
      · have c104 : (10 : Int) ≤ v3_4.toInt := wk_le.mp c104
        refine lv_iconst (v := 0) hx hb dX10_layRoads_24 (by decide) ?_
        refine lv_istore (lv' := [(4, .int 0), (0, .ref (ad 158)), (1, .int a1), (2, .int 0), (3, .int (-1))]) hx hb dX10_layRoads_25 hl (by decide) rfl (fun ls hl => ?_)
        exact L27 ((12 - (0 : Int)).toNat + 1) 0 H locs ls w99 (show 0 ≤ a1.toInt by omega) (show a1.toInt ≤ 12 by omega) (by decide) (by decide) (Nat.lt_succ_self _) hw hT hF  (lv_sub hl [1, 2, 3, 4, 0] rfl)
      · have c104 : v3_4.toInt < (10 : Int) := wk_leF c104
        refine lv_aload_n hx hb dX10_layRoads_10 rfl (lv_at hl 0 rfl) ?_
        refine tk_getA hC hK hw hT hinX10 kC_at158 (by decide) rfl 3 (by decide) (List.mem_of_getElem? (i := 1) rfl) rfl rfl dX10_layRoads_11 ?_
        refine lv_iload hx hb dX10_layRoads_14 (lv_at hl 4 rfl) ?_
        refine lv_iconst (v := 0) hx hb dX10_layRoads_16 (by decide) ?_
        refine tk_iast hC hK hw hT kC_at160 (by decide) rfl rfl (show 0 ≤ v3_4.toInt by omega) (show v3_4.toInt < 10 by omega) (by decide) (by decide) dX10_layRoads_17 (fun H locs w105 hw hT k107 c106 => ?_)
        have hF := hF.put kC_at160 (inE_of (a := 0) (b := 10) (by decide) (show 0 ≤ v3_4.toInt.toNat by omega) (show v3_4.toInt.toNat ≤ 10 by omega)) k107
        obtain ⟨x108, ex108⟩ : ∃ y : Int32, y = v3_4 + Int32.ofInt 1 := ⟨_, rfl⟩
        refine lv_iinc (v := x108) (lv' := [(4, .int x108), (0, .ref (ad 158)), (1, .int a1), (2, .int 0), (3, .int (-1))]) hx hb dX10_layRoads_18 hl (k := 4) rfl ex108.symm (by decide) rfl (fun ls hl => ?_)
        have ex108 : x108.toInt = v3_4.toInt + 1 := by rw [ex108]; exact wk_add (y := 1) (show -2147483648 ≤ v3_4.toInt + 1 by omega) (show v3_4.toInt + 1 ≤ 2147483647 by omega)
        refine lv_goto (tgt := 3) hx hb dX10_layRoads_21 (by decide) ?_
        exact ih3 x108 H locs ls w105 (show 0 ≤ a1.toInt by omega) (show a1.toInt ≤ 12 by omega) (show 0 ≤ x108.toInt by omega) (show x108.toInt ≤ 10 by omega) (show (10 - x108.toInt).toNat < n3 by omega) hw hT hF  (lv_sub hl [1, 2, 3, 4, 0] rfl)
  refine lv_iconst (v := 0) hx hb dX10_layRoads_0 (by decide) ?_
  refine lv_istore (lv' := [(4, .int 0), (0, .ref (ad 158)), (1, .int a1), (2, .int 0), (3, .int (-1))]) hx hb dX10_layRoads_1 hl (by decide) rfl (fun ls hl => ?_)
  exact L3 ((10 - (0 : Int)).toNat + 1) 0 s.heap locs ls w0 (show 0 ≤ a1.toInt by omega) (show a1.toInt ≤ 12 by omega) (by decide) (by decide) (Nat.lt_succ_self _) hw hT hF  (lv_sub hl [1, 2, 3, 4, 0] rfl)
abbrev P_X10_findClash_1 (ad : Nat → Nat) (cy : Nat → ClassId) (B : Int) (qr : Nat) (s1 : Int)  (w0 : va_W) : Int32 → va_W → Prop := fun r u => TW ksC ad cy B qr s1 u ∧ FE ksC [(51, 0, 10)] w0 u ∧ ((0 ≤ r.toInt ∧ r.toInt ≤ 400))
set_option maxHeartbeats 4000000 in
set_option maxRecDepth 100000 in
theorem k_X10_findClash_1 (l : Launch) (adK adV : Nat → Nat) (dC : Nat → ClassId) (dI : Nat → Nat → Nat) (cy : Nat → ClassId) (ad : Nat → Nat) (B : Int) (hB0 : 2147483648 ≤ B) (hB1 : B ≤ 1152921504606846976) (qr : Nat) (s1 : Int)   (w0 : va_W) (sz : Nat) (hT : TW ksC ad cy B qr s1 w0)  : Met l yX10_findClash wsX10_findClash ({ frames := 3, cells := 0, slots := 0, locals := 65 }) (va_Pc [.ref (ad 158)] (wpreS adK adV dC dI cy sz w0)) (va_Qi (P_X10_findClash_1 ad cy B qr s1  w0) (fun u : va_W => wpost dC dI cy (va_A w0 sz) u) (va_A w0 sz)) 0 0 (va_A w0 sz) := by
  refine Met.ofW (cc := cX10_findClash) (maxL := 4) (ret := (some .int)) (by decide) rfl ?_
  intro p e s m args below meth c s₁ Bk hml hv
  obtain ⟨rfl, ⟨hsz, hP, hK, hD0⟩, hE, hSR⟩ := hv
  have hx := Bk.exec
  have hb := Bk.bytes
  have hr := Bk.returns
  have hlocks := Bk.notSynchronized
  have hC : CallFix p m c cX10_findClash 4 s _ wsX10_findClash RX10 := ⟨hx, hb, hml, findClass_of_methodNamed Bk.named, atoms_spec (ws := wsX10_findClash) Bk.pre⟩
  subst hsz
  have hD := hD0.self (sz := s.heap.size)
  generalize hAe : va_A w0 s.heap.size = A at hD hE ⊢
  have hA : ∀ q : Nat, s.heap.size ≤ q → A q := fun q h => by rw [← hAe]; exact Or.inr h
  have hw : Wd dC dI A s.heap s.heap [] w0 := ⟨hP, hD, va_S.rf⟩
  have hF : FE ksC [(51, 0, 10)] w0 w0 := FE.rf
  have hl := lv_entry ([.ref (ad 158)]) (n := 4) (Nat.le_of_ble_eq_true rfl)
  rw [lg_entry_eq]
  generalize (lg_sl ([.ref (ad 158)]) ++ List.replicate (4 - (lg_sl ([.ref (ad 158)])).length) Slot.unset).toArray = ls at hl ⊢
  have hl : lv_has ls 4 [(0, .ref (ad 158))] := hl
  generalize hloc : ([] : List Loc) = locs at hw ⊢
  have hinX10 : ∀ w ∈ u_ws RX10 TX10 5, w ∈ wsX10_findClash := fun _ h => List.mem_cons_of_mem _ (List.mem_append_left _ (List.mem_append_left _ (List.mem_append_right _ (h))))
  have hinX5 : ∀ w ∈ u_ws RX5 TX5 14, w ∈ wsX10_findClash := fun _ h => List.mem_cons_of_mem _ (List.mem_append_left _ (List.mem_append_right _ (h)))
  have L45 : ∀ (n45 : Nat) (v45_1 : Int32) (v45_2 : Int32) (f45_158_4 : Int32) (f45_38_10 : Int32) (H : Heap) (locs : List Loc) (ls : Array Slot) (w1 : va_W), 0 ≤ v45_1.toInt → v45_1.toInt ≤ 400 → 0 ≤ v45_2.toInt → v45_2.toInt ≤ 12 → 0 ≤ f45_158_4.toInt → f45_158_4.toInt ≤ 12 → 0 ≤ f45_38_10.toInt → f45_38_10.toInt ≤ 6 → (12 - v45_2.toInt).toNat < n45 → Wd dC dI A s.heap H locs w1 → TW ksC ad cy B qr s1 w1 → FE ksC [(51, 0, 10)] w0 w1 → gi w1 158 4 = f45_158_4 → gi w1 38 10 = f45_38_10 → lv_has ls 4 [(0, .ref (ad 158)), (1, .int v45_1), (2, .int v45_2)] → W p l e ({ frames := 3, cells := 0, slots := 0, locals := 65 }) s m (List.toArray [.ref (ad 158)]) below meth c H locs 0 0 (MQ below (va_Qi (P_X10_findClash_1 ad cy B qr s1  w0) (fun u : va_W => wpost dC dI cy A u) A) (List.toArray [.ref (ad 158)]) s 0 0 A) (F0 m 45 ls []) := by
    intro n45
    induction n45 with
    | zero => intro v45_1 v45_2 f45_158_4 f45_38_10 H locs ls w1 r2 t3 r4 t5 r6 t7 r9 t10 hm45 hw hT hF c8 c11 hl; omega
    | succ n45 ih45 =>
      intro v45_1 v45_2 f45_158_4 f45_38_10 H locs ls w1 r2 t3 r4 t5 r6 t7 r9 t10 hm45 hw hT hF c8 c11 hl
      have J74 : ∀ (v74_1 : Int32) (v74_3 : Int32) (H : Heap) (locs : List Loc) (ls : Array Slot) (w12 : va_W), 0 ≤ v74_1.toInt → v74_1.toInt ≤ 400 → 0 ≤ v45_2.toInt → v45_2.toInt ≤ 11 → 0 ≤ v74_3.toInt → v74_3.toInt ≤ 400 → 1 ≤ f45_158_4.toInt → f45_158_4.toInt ≤ 12 → 0 ≤ f45_38_10.toInt → f45_38_10.toInt ≤ 6 → Wd dC dI A s.heap H locs w12 → TW ksC ad cy B qr s1 w12 → FE ksC [(51, 0, 10)] w0 w12 → gi w12 158 4 = f45_158_4 → gi w12 38 10 = f45_38_10 → lv_has ls 4 [(0, .ref (ad 158)), (1, .int v74_1), (2, .int v45_2), (3, .int v74_3)] → W p l e ({ frames := 3, cells := 0, slots := 0, locals := 65 }) s m (List.toArray [.ref (ad 158)]) below meth c H locs 0 0 (MQ below (va_Qi (P_X10_findClash_1 ad cy B qr s1  w0) (fun u : va_W => wpost dC dI cy A u) A) (List.toArray [.ref (ad 158)]) s 0 0 A) (F0 m 74 ls []) := by
        intro v74_1 v74_3 H locs ls w12 r13 t14 r15 t16 r17 t18 r19 t20 r22 t23 hw hT hF c21 c24 hl
        obtain ⟨x25, ex25⟩ : ∃ y : Int32, y = v45_2 + Int32.ofInt 1 := ⟨_, rfl⟩
        refine lv_iinc (v := x25) (lv' := [(2, .int x25), (0, .ref (ad 158)), (1, .int v74_1), (3, .int v74_3)]) hx hb dX10_findClash_74 hl (k := 2) rfl ex25.symm (by decide) rfl (fun ls hl => ?_)
        have ex25 : x25.toInt = v45_2.toInt + 1 := by rw [ex25]; exact wk_add (y := 1) (show -2147483648 ≤ v45_2.toInt + 1 by omega) (show v45_2.toInt + 1 ≤ 2147483647 by omega)
        refine lv_goto (tgt := 45) hx hb dX10_findClash_77 (by decide) ?_
        exact ih45 v74_1 x25 f45_158_4 f45_38_10 H locs ls w12 (show 0 ≤ v74_1.toInt by omega) (show v74_1.toInt ≤ 400 by omega) (show 0 ≤ x25.toInt by omega) (show x25.toInt ≤ 12 by omega) (show 0 ≤ f45_158_4.toInt by omega) (show f45_158_4.toInt ≤ 12 by omega) (show 0 ≤ f45_38_10.toInt by omega) (show f45_38_10.toInt ≤ 6 by omega) (show (12 - x25.toInt).toNat < n45 by omega) hw hT hF c21 c24 (lv_sub hl [1, 2, 0] rfl)
      have J72 : ∀ (v72_3 : Int32) (H : Heap) (locs : List Loc) (ls : Array Slot) (w26 : va_W), 0 ≤ v45_1.toInt → v45_1.toInt ≤ 400 → 0 ≤ v45_2.toInt → v45_2.toInt ≤ 11 → 1 ≤ v72_3.toInt → v72_3.toInt ≤ 400 → 1 ≤ f45_158_4.toInt → f45_158_4.toInt ≤ 12 → 0 ≤ f45_38_10.toInt → f45_38_10.toInt ≤ 6 → Wd dC dI A s.heap H locs w26 → TW ksC ad cy B qr s1 w26 → FE ksC [(51, 0, 10)] w0 w26 → gi w26 158 4 = f45_158_4 → gi w26 38 10 = f45_38_10 → lv_has ls 4 [(0, .ref (ad 158)), (1, .int v45_1), (2, .int v45_2), (3, .int v72_3)] → W p l e ({ frames := 3, cells := 0, slots := 0, locals := 65 }) s m (List.toArray [.ref (ad 158)]) below meth c H locs 0 0 (MQ below (va_Qi (P_X10_findClash_1 ad cy B qr s1  w0) (fun u : va_W => wpost dC dI cy A u) A) (List.toArray [.ref (ad 158)]) s 0 0 A) (F0 m 72 ls []) := by
        intro v72_3 H locs ls w26 r27 t28 r29 t30 r31 t32 r33 t34 r36 t37 hw hT hF c35 c38 hl
        refine lv_iload_n hx hb dX10_findClash_72 rfl (lv_at hl 3 rfl) ?_
        refine lv_istore_n (lv' := [(1, .int v72_3), (0, .ref (ad 158)), (2, .int v45_2), (3, .int v72_3)]) hx hb dX10_findClash_73 rfl hl (by decide) rfl (fun ls hl => ?_)
        exact J74 v72_3 v72_3 H locs ls w26 (show 0 ≤ v72_3.toInt by omega) (show v72_3.toInt ≤ 400 by omega) (show 0 ≤ v45_2.toInt by omega) (show v45_2.toInt ≤ 11 by omega) (show 0 ≤ v72_3.toInt by omega) (show v72_3.toInt ≤ 400 by omega) (show 1 ≤ f45_158_4.toInt by omega) (show f45_158_4.toInt ≤ 12 by omega) (show 0 ≤ f45_38_10.toInt by omega) (show f45_38_10.toInt ≤ 6 by omega)  hw hT hF c35 c38 (lv_sub hl [1, 0, 2, 3] rfl)
      refine lv_iload_n hx hb dX10_findClash_45 rfl (lv_at hl 2 rfl) ?_
      refine lv_aload_n hx hb dX10_findClash_46 rfl (lv_at hl 0 rfl) ?_
      refine tk_geti hC hK hw hT hinX10 kC_at158 (by decide) rfl 4 (by decide) (List.mem_of_getElem? (i := 1) rfl) rfl rfl dX10_findClash_47 (fun x39 c40 rx39 tx39 => ?_)
      refine wk_top f45_158_4 (c40.symm.trans c8) ?_
      refine lv_icmp_ge (tgt := 80) hx hb dX10_findClash_50 (by decide) (fun c41 => ?_) (fun c41 => ?_)
      · have c41 : f45_158_4.toInt ≤ v45_2.toInt := wk_le.mp c41
        refine lv_iload_n hx hb dX10_findClash_80 rfl (lv_at hl 1 rfl) ?_
        exact tk_iret hC hr hlocks hK ⟨hT, hF, ⟨(show 0 ≤ v45_1.toInt by omega), (show v45_1.toInt ≤ 400 by omega)⟩⟩ hw dX10_findClash_81
      · have c41 : v45_2.toInt < f45_158_4.toInt := wk_leF c41
        refine lv_aload_n hx hb dX10_findClash_53 rfl (lv_at hl 0 rfl) ?_
        refine lv_iload_n hx hb dX10_findClash_54 rfl (lv_at hl 2 rfl) ?_
        refine tk_Vi hC hK hw hT hA hE hSR kC_at158 (by decide) rfl (k_X10_oddsOver_1 l adK adV dC dI cy ad B (by omega) (by omega) qr s1   v45_2 (show 0 ≤ v45_2.toInt by omega) (show v45_2.toInt ≤ 11 by omega) w1 H.size hT ) (cwV 1 hC.2.2.2.2 gX10_findClash_X10_oddsOver rfl rfl rfl (by decide +kernel) ⟨Nat.le_of_ble_eq_true rfl, Nat.le_of_ble_eq_true rfl⟩) rfl hl.1 rfl (Nat.le_of_ble_eq_true rfl) dX10_findClash_55 (fun r42 w44 H locs hp43 hw => ?_)
        obtain ⟨hT, k45, hg48⟩ := hp43
        have hF := hF.tr k45 (by decide)
        have c49 := k45.gi kC_at158 (by decide) c8
        have c50 := k45.gi kC_at38 (by decide) c11
        obtain ⟨g46, g47⟩ := hg48
        refine lv_istore_n (lv' := [(3, .int r42), (0, .ref (ad 158)), (1, .int v45_1), (2, .int v45_2)]) hx hb dX10_findClash_58 rfl hl (by decide) rfl (fun ls hl => ?_)
        refine lv_iload_n hx hb dX10_findClash_59 rfl (lv_at hl 0 rfl) ?_
        refine lv_if_eq (tgt := 74) hx hb dX10_findClash_60 (by decide) (fun c51 => ?_) (fun c51 => ?_)
        · have c51 : r42.toInt = (0 : Int) := wk_eq.mp c51
          exact J74 v45_1 r42 H locs ls w44 (show 0 ≤ v45_1.toInt by omega) (show v45_1.toInt ≤ 400 by omega) (show 0 ≤ v45_2.toInt by omega) (show v45_2.toInt ≤ 11 by omega) (show 0 ≤ r42.toInt by omega) (show r42.toInt ≤ 400 by omega) (show 1 ≤ f45_158_4.toInt by omega) (show f45_158_4.toInt ≤ 12 by omega) (show 0 ≤ f45_38_10.toInt by omega) (show f45_38_10.toInt ≤ 6 by omega)  hw hT hF c49 c50 (lv_sub hl [1, 2, 3, 0] rfl)
        · have c51 : ¬ r42.toInt = (0 : Int) := wk_eqF c51
          refine lv_iload_n hx hb dX10_findClash_63 rfl (lv_at hl 2 rfl) ?_
          refine lv_if_eq (tgt := 72) hx hb dX10_findClash_64 (by decide) (fun c52 => ?_) (fun c52 => ?_)
          · have c52 : v45_1.toInt = (0 : Int) := wk_eq.mp c52
            exact J72 r42 H locs ls w44 (show 0 ≤ v45_1.toInt by omega) (show v45_1.toInt ≤ 400 by omega) (show 0 ≤ v45_2.toInt by omega) (show v45_2.toInt ≤ 11 by omega) (show 1 ≤ r42.toInt by omega) (show r42.toInt ≤ 400 by omega) (show 1 ≤ f45_158_4.toInt by omega) (show f45_158_4.toInt ≤ 12 by omega) (show 0 ≤ f45_38_10.toInt by omega) (show f45_38_10.toInt ≤ 6 by omega)  hw hT hF c49 c50 (lv_sub hl [1, 2, 3, 0] rfl)
          · have c52 : ¬ v45_1.toInt = (0 : Int) := wk_eqF c52
            refine lv_iload_n hx hb dX10_findClash_67 rfl (lv_at hl 0 rfl) ?_
            refine lv_iload_n hx hb dX10_findClash_68 rfl (lv_at hl 2 rfl) ?_
            refine lv_icmp_ge (tgt := 74) hx hb dX10_findClash_69 (by decide) (fun c53 => ?_) (fun c53 => ?_)
            · have c53 : v45_1.toInt ≤ r42.toInt := wk_le.mp c53
              exact J74 v45_1 r42 H locs ls w44 (show 0 ≤ v45_1.toInt by omega) (show v45_1.toInt ≤ 400 by omega) (show 0 ≤ v45_2.toInt by omega) (show v45_2.toInt ≤ 11 by omega) (show 0 ≤ r42.toInt by omega) (show r42.toInt ≤ 400 by omega) (show 1 ≤ f45_158_4.toInt by omega) (show f45_158_4.toInt ≤ 12 by omega) (show 0 ≤ f45_38_10.toInt by omega) (show f45_38_10.toInt ≤ 6 by omega)  hw hT hF c49 c50 (lv_sub hl [1, 2, 3, 0] rfl)
            · have c53 : r42.toInt < v45_1.toInt := wk_leF c53
              exact J72 r42 H locs ls w44 (show 0 ≤ v45_1.toInt by omega) (show v45_1.toInt ≤ 400 by omega) (show 0 ≤ v45_2.toInt by omega) (show v45_2.toInt ≤ 11 by omega) (show 1 ≤ r42.toInt by omega) (show r42.toInt ≤ 400 by omega) (show 1 ≤ f45_158_4.toInt by omega) (show f45_158_4.toInt ≤ 12 by omega) (show 0 ≤ f45_38_10.toInt by omega) (show f45_38_10.toInt ≤ 6 by omega)  hw hT hF c49 c50 (lv_sub hl [1, 2, 3, 0] rfl)
  have L12 : ∀ (n12 : Nat) (v12_1 : Int32) (f12_158_4 : Int32) (H : Heap) (locs : List Loc) (ls : Array Slot) (w54 : va_W), 0 ≤ v12_1.toInt → v12_1.toInt ≤ 6 → 0 ≤ f12_158_4.toInt → f12_158_4.toInt ≤ 12 → (6 - v12_1.toInt).toNat < n12 → Wd dC dI A s.heap H locs w54 → TW ksC ad cy B qr s1 w54 → FE ksC [(51, 0, 10)] w0 w54 → gi w54 158 4 = f12_158_4 → lv_has ls 4 [(0, .ref (ad 158)), (1, .int v12_1)] → W p l e ({ frames := 3, cells := 0, slots := 0, locals := 65 }) s m (List.toArray [.ref (ad 158)]) below meth c H locs 0 0 (MQ below (va_Qi (P_X10_findClash_1 ad cy B qr s1  w0) (fun u : va_W => wpost dC dI cy A u) A) (List.toArray [.ref (ad 158)]) s 0 0 A) (F0 m 12 ls []) := by
    intro n12
    induction n12 with
    | zero => intro v12_1 f12_158_4 H locs ls w54 r55 t56 r57 t58 hm12 hw hT hF c59 hl; omega
    | succ n12 ih12 =>
      intro v12_1 f12_158_4 H locs ls w54 r55 t56 r57 t58 hm12 hw hT hF c59 hl
      refine lv_iload_n hx hb dX10_findClash_12 rfl (lv_at hl 1 rfl) ?_
      refine lv_aload_n hx hb dX10_findClash_13 rfl (lv_at hl 0 rfl) ?_
      refine tk_getA hC hK hw hT hinX10 kC_at158 (by decide) rfl 0 (by decide) (List.mem_of_getElem? (i := 2) rfl) rfl rfl dX10_findClash_14 ?_
      refine tk_geti hC hK hw hT hinX5 kC_at38 (by decide) rfl 10 (by decide) (List.mem_of_getElem? (i := 3) rfl) rfl rfl dX10_findClash_17 (fun x60 c61 rx60 tx60 => ?_)
      refine lv_icmp_ge (tgt := 41) hx hb dX10_findClash_20 (by decide) (fun c62 => ?_) (fun c62 => ?_)
      · have c62 : x60.toInt ≤ v12_1.toInt := wk_le.mp c62
        refine lv_iconst (v := 0) hx hb dX10_findClash_41 (by decide) ?_
        refine lv_istore_n (lv' := [(1, .int 0), (0, .ref (ad 158))]) hx hb dX10_findClash_42 rfl hl (by decide) rfl (fun ls hl => ?_)
        refine lv_iconst (v := 0) hx hb dX10_findClash_43 (by decide) ?_
        refine lv_istore_n (lv' := [(2, .int 0), (1, .int 0), (0, .ref (ad 158))]) hx hb dX10_findClash_44 rfl hl (by decide) rfl (fun ls hl => ?_)
        exact L45 ((12 - (0 : Int)).toNat + 1) 0 0 f12_158_4 x60 H locs ls w54 (by decide) (by decide) (by decide) (by decide) (show 0 ≤ f12_158_4.toInt by omega) (show f12_158_4.toInt ≤ 12 by omega) (show 0 ≤ x60.toInt by omega) (show x60.toInt ≤ 6 by omega) (Nat.lt_succ_self _) hw hT hF c59 c61 (lv_sub hl [2, 1, 0] rfl)
      · have c62 : v12_1.toInt < x60.toInt := wk_leF c62
        refine lv_aload_n hx hb dX10_findClash_23 rfl (lv_at hl 0 rfl) ?_
        refine lv_iload_n hx hb dX10_findClash_24 rfl (lv_at hl 1 rfl) ?_
        refine tk_Vi hC hK hw hT hA hE hSR kC_at158 (by decide) rfl (k_X10_canDo_1 l adK adV dC dI cy ad B (by omega) (by omega) qr s1   v12_1 (show 0 ≤ v12_1.toInt by omega) (show v12_1.toInt ≤ 5 by omega) w54 H.size hT ) (cwV 1 hC.2.2.2.2 gX10_findClash_X10_canDo rfl rfl rfl (by decide +kernel) ⟨Nat.le_of_ble_eq_true rfl, Nat.le_of_ble_eq_true rfl⟩) rfl hl.1 rfl (Nat.le_of_ble_eq_true rfl) dX10_findClash_25 (fun r63 w65 H locs hp64 hw => ?_)
        obtain ⟨hT, k66, hg67⟩ := hp64
        have hF := hF.tr k66 (by decide)
        have c68 := k66.gi kC_at158 (by decide) c59
        have c69 := k66.gi kC_at38 (by decide) c61
        rcases hg67 with rfl | rfl
        · refine lv_if_ne (tgt := 35) hx hb dX10_findClash_28 (by decide) (fun c => absurd (by decide) c) (fun _ => ?_)
          refine lv_iconst (v := 1) hx hb dX10_findClash_31 (by decide) ?_
          refine lv_iload_n hx hb dX10_findClash_32 rfl (lv_at hl 1 rfl) ?_
          refine lv_ishl hx hb dX10_findClash_33 ?_
          refine lv_topi (fun x70 ex70 => ?_)
          have bx70 : 1 ≤ x70.toInt ∧ x70.toInt ≤ 32 := by rw [ex70]; exact wk_shl1 5 (by decide) (by omega) (by omega)
          exact tk_iret hC hr hlocks hK ⟨hT, hF, ⟨(show 0 ≤ x70.toInt by omega), (show x70.toInt ≤ 400 by omega)⟩⟩ hw dX10_findClash_34
        · refine lv_if_ne (tgt := 35) hx hb dX10_findClash_28 (by decide) (fun _ => ?_) (fun c => absurd c (by decide))
          obtain ⟨x71, ex71⟩ : ∃ y : Int32, y = v12_1 + Int32.ofInt 1 := ⟨_, rfl⟩
          refine lv_iinc (v := x71) (lv' := [(1, .int x71), (0, .ref (ad 158))]) hx hb dX10_findClash_35 hl (k := 1) rfl ex71.symm (by decide) rfl (fun ls hl => ?_)
          have ex71 : x71.toInt = v12_1.toInt + 1 := by rw [ex71]; exact wk_add (y := 1) (show -2147483648 ≤ v12_1.toInt + 1 by omega) (show v12_1.toInt + 1 ≤ 2147483647 by omega)
          refine lv_goto (tgt := 12) hx hb dX10_findClash_38 (by decide) ?_
          exact ih12 x71 f12_158_4 H locs ls w65 (show 0 ≤ x71.toInt by omega) (show x71.toInt ≤ 6 by omega) (show 0 ≤ f12_158_4.toInt by omega) (show f12_158_4.toInt ≤ 12 by omega) (show (6 - x71.toInt).toNat < n12 by omega) hw hT hF c68 (lv_sub hl [1, 0] rfl)
  refine lv_aload_n hx hb dX10_findClash_0 rfl (lv_at hl 0 rfl) ?_
  refine lv_aload_n hx hb dX10_findClash_1 rfl (lv_at hl 0 rfl) ?_
  refine tk_geti hC hK hw hT hinX10 kC_at158 (by decide) rfl 4 (by decide) (List.mem_of_getElem? (i := 1) rfl) rfl rfl dX10_findClash_2 (fun x72 c73 rx72 tx72 => ?_)
  refine lv_iconst (v := 0) hx hb dX10_findClash_5 (by decide) ?_
  refine lv_iconst (v := (-1)) hx hb dX10_findClash_6 (by decide) ?_
  refine tk_Vv hC hK hw hT hA hE hSR kC_at158 (by decide) rfl (k_X10_layRoads_2 l adK adV dC dI cy ad B (by omega) (by omega) qr s1   x72 (show 0 ≤ x72.toInt by omega) (show x72.toInt ≤ 12 by omega) w0 s.heap.size hT ) (cwV 3 hC.2.2.2.2 gX10_findClash_X10_layRoads rfl rfl rfl (by decide +kernel) ⟨Nat.le_of_ble_eq_true rfl, Nat.le_of_ble_eq_true rfl⟩) rfl hl.1 rfl (Nat.le_of_ble_eq_true rfl) dX10_findClash_7 (fun w76 H locs hp75 hw => ?_)
  obtain ⟨hT, k77, hg78⟩ := hp75
  have hF := hF.tr k77 (by decide)
  have c79 := k77.gi kC_at158 (by decide) c73
  clear hg78
  refine lv_iconst (v := 0) hx hb dX10_findClash_10 (by decide) ?_
  refine lv_istore_n (lv' := [(1, .int 0), (0, .ref (ad 158))]) hx hb dX10_findClash_11 rfl hl (by decide) rfl (fun ls hl => ?_)
  exact L12 ((6 - (0 : Int)).toNat + 1) 0 x72 H locs ls w76 (by decide) (by decide) (show 0 ≤ x72.toInt by omega) (show x72.toInt ≤ 12 by omega) (Nat.lt_succ_self _) hw hT hF c79 (lv_sub hl [1, 0] rfl)
abbrev P_X10_layRoads_3 (ad : Nat → Nat) (cy : Nat → ClassId) (B : Int) (qr : Nat) (s1 : Int)  (w0 : va_W) : va_W → Prop := fun u => TW ksC ad cy B qr s1 u ∧ FE ksC [(51, 0, 10)] w0 u ∧ ((True))
set_option maxHeartbeats 4000000 in
set_option maxRecDepth 100000 in
theorem k_X10_layRoads_3 (l : Launch) (adK adV : Nat → Nat) (dC : Nat → ClassId) (dI : Nat → Nat → Nat) (cy : Nat → ClassId) (ad : Nat → Nat) (B : Int) (hB0 : 2147483648 ≤ B) (hB1 : B ≤ 1152921504606846976) (qr : Nat) (s1 : Int)   (w0 : va_W) (sz : Nat) (hT : TW ksC ad cy B qr s1 w0)  : Met l yX10_layRoads wsX10_layRoads ({ frames := 1, cells := 0, slots := 0, locals := 12 }) (va_Pc [.ref (ad 158), .int 0, .int 0, .int (-1)] (wpreS adK adV dC dI cy sz w0)) (va_Qv (P_X10_layRoads_3 ad cy B qr s1  w0) (fun u : va_W => wpost dC dI cy (va_A w0 sz) u) (va_A w0 sz)) 0 0 (va_A w0 sz) := by
  refine Met.ofW (cc := cX10_layRoads) (maxL := 8) (ret := none) (by decide) rfl ?_
  intro p e s m args below meth c s₁ Bk hml hv
  obtain ⟨rfl, ⟨hsz, hP, hK, hD0⟩, hE, hSR⟩ := hv
  have hx := Bk.exec
  have hb := Bk.bytes
  have hr := Bk.returns
  have hlocks := Bk.notSynchronized
  have hC : CallFix p m c cX10_layRoads 8 s _ wsX10_layRoads RX10 := ⟨hx, hb, hml, findClass_of_methodNamed Bk.named, atoms_spec (ws := wsX10_layRoads) Bk.pre⟩
  subst hsz
  have hD := hD0.self (sz := s.heap.size)
  generalize hAe : va_A w0 s.heap.size = A at hD hE ⊢
  have hA : ∀ q : Nat, s.heap.size ≤ q → A q := fun q h => by rw [← hAe]; exact Or.inr h
  have hw : Wd dC dI A s.heap s.heap [] w0 := ⟨hP, hD, va_S.rf⟩
  have hF : FE ksC [(51, 0, 10)] w0 w0 := FE.rf
  have hl := lv_entry ([.ref (ad 158), .int 0, .int 0, .int (-1)]) (n := 8) (Nat.le_of_ble_eq_true rfl)
  rw [lg_entry_eq]
  generalize (lg_sl ([.ref (ad 158), .int 0, .int 0, .int (-1)]) ++ List.replicate (8 - (lg_sl ([.ref (ad 158), .int 0, .int 0, .int (-1)])).length) Slot.unset).toArray = ls at hl ⊢
  have hl : lv_has ls 8 [(0, .ref (ad 158)), (1, .int 0), (2, .int 0), (3, .int (-1))] := hl
  generalize hloc : ([] : List Loc) = locs at hw ⊢
  have hinX10 : ∀ w ∈ u_ws RX10 TX10 5, w ∈ wsX10_layRoads := fun _ h => List.mem_cons_of_mem _ (List.mem_append_left _ (List.mem_append_right _ (h)))
  have hinX7 : ∀ w ∈ u_ws RX7 TX7 12, w ∈ wsX10_layRoads := fun _ h => List.mem_cons_of_mem _ (List.mem_append_right _ (h))
  have L27 : ∀ (n27 : Nat) (v27_4 : Int32) (H : Heap) (locs : List Loc) (ls : Array Slot) (w1 : va_W), 0 ≤ v27_4.toInt → v27_4.toInt ≤ 12 → (12 - v27_4.toInt).toNat < n27 → Wd dC dI A s.heap H locs w1 → TW ksC ad cy B qr s1 w1 → FE ksC [(51, 0, 10)] w0 w1 → lv_has ls 8 [(0, .ref (ad 158)), (1, .int 0), (2, .int 0), (3, .int (-1)), (4, .int v27_4)] → W p l e ({ frames := 1, cells := 0, slots := 0, locals := 12 }) s m (List.toArray [.ref (ad 158), .int 0, .int 0, .int (-1)]) below meth c H locs 0 0 (MQ below (va_Qv (P_X10_layRoads_3 ad cy B qr s1  w0) (fun u : va_W => wpost dC dI cy A u) A) (List.toArray [.ref (ad 158), .int 0, .int 0, .int (-1)]) s 0 0 A) (F0 m 27 ls []) := by
    intro n27
    induction n27 with
    | zero => intro v27_4 H locs ls w1 r2 t3 hm27 hw hT hF hl; omega
    | succ n27 ih27 =>
      intro v27_4 H locs ls w1 r2 t3 hm27 hw hT hF hl
      have J144 : ∀ (v144_5 : Int32) (v144_6 : Int32) (v144_7 : Int32) (f144_158_4 : Int32) (H : Heap) (locs : List Loc) (ls : Array Slot) (w4 : va_W), 0 ≤ v27_4.toInt → v27_4.toInt ≤ 11 → 0 ≤ v144_5.toInt → v144_5.toInt ≤ 9 → 0 ≤ v144_6.toInt → v144_6.toInt ≤ 9 → 0 ≤ v144_7.toInt → v144_7.toInt ≤ 1 → 1 ≤ f144_158_4.toInt → f144_158_4.toInt ≤ 12 → Wd dC dI A s.heap H locs w4 → TW ksC ad cy B qr s1 w4 → FE ksC [(51, 0, 10)] w0 w4 → gi w4 158 4 = f144_158_4 → lv_has ls 8 [(0, .ref (ad 158)), (1, .int 0), (2, .int 0), (3, .int (-1)), (4, .int v27_4), (5, .int v144_5), (6, .int v144_6), (7, .int v144_7)] → W p l e ({ frames := 1, cells := 0, slots := 0, locals := 12 }) s m (List.toArray [.ref (ad 158), .int 0, .int 0, .int (-1)]) below meth c H locs 0 0 (MQ below (va_Qv (P_X10_layRoads_3 ad cy B qr s1  w0) (fun u : va_W => wpost dC dI cy A u) A) (List.toArray [.ref (ad 158), .int 0, .int 0, .int (-1)]) s 0 0 A) (F0 m 144 ls []) := by
        intro v144_5 v144_6 v144_7 f144_158_4 H locs ls w4 r5 t6 r7 t8 r9 t10 r11 t12 r13 t14 hw hT hF c15 hl
        obtain ⟨x16, ex16⟩ : ∃ y : Int32, y = v27_4 + Int32.ofInt 1 := ⟨_, rfl⟩
        refine lv_iinc (v := x16) (lv' := [(4, .int x16), (0, .ref (ad 158)), (1, .int 0), (2, .int 0), (3, .int (-1)), (5, .int v144_5), (6, .int v144_6), (7, .int v144_7)]) hx hb dX10_layRoads_144 hl (k := 4) rfl ex16.symm (by decide) rfl (fun ls hl => ?_)
        have ex16 : x16.toInt = v27_4.toInt + 1 := by rw [ex16]; exact wk_add (y := 1) (show -2147483648 ≤ v27_4.toInt + 1 by omega) (show v27_4.toInt + 1 ≤ 2147483647 by omega)
        refine lv_goto (tgt := 27) hx hb dX10_layRoads_147 (by decide) ?_
        exact ih27 x16 H locs ls w4 (show 0 ≤ x16.toInt by omega) (show x16.toInt ≤ 12 by omega) (show (12 - x16.toInt).toNat < n27 by omega) hw hT hF  (lv_sub hl [1, 2, 3, 4, 0] rfl)
      have J130 : ∀ (v130_5 : Int32) (v130_6 : Int32) (f130_158_4 : Int32) (H : Heap) (locs : List Loc) (ls : Array Slot) (w17 : va_W), 0 ≤ v27_4.toInt → v27_4.toInt ≤ 11 → 0 ≤ v130_5.toInt → v130_5.toInt ≤ 9 → 0 ≤ v130_6.toInt → v130_6.toInt ≤ 9 → 1 ≤ f130_158_4.toInt → f130_158_4.toInt ≤ 12 → Wd dC dI A s.heap H locs w17 → TW ksC ad cy B qr s1 w17 → FE ksC [(51, 0, 10)] w0 w17 → gi w17 158 4 = f130_158_4 → lv_has ls 8 [(0, .ref (ad 158)), (1, .int 0), (2, .int 0), (3, .int (-1)), (4, .int v27_4), (5, .int v130_5), (6, .int v130_6), (7, .int 1)] → W p l e ({ frames := 1, cells := 0, slots := 0, locals := 12 }) s m (List.toArray [.ref (ad 158), .int 0, .int 0, .int (-1)]) below meth c H locs 0 0 (MQ below (va_Qv (P_X10_layRoads_3 ad cy B qr s1  w0) (fun u : va_W => wpost dC dI cy A u) A) (List.toArray [.ref (ad 158), .int 0, .int 0, .int (-1)]) s 0 0 A) (F0 m 130 ls []) := by
        intro v130_5 v130_6 f130_158_4 H locs ls w17 r18 t19 r20 t21 r22 t23 r24 t25 hw hT hF c26 hl
        refine lv_aload_n hx hb dX10_layRoads_130 rfl (lv_at hl 0 rfl) ?_
        refine tk_getA hC hK hw hT hinX10 kC_at158 (by decide) rfl 3 (by decide) (List.mem_of_getElem? (i := 1) rfl) rfl rfl dX10_layRoads_131 ?_
        refine lv_iload hx hb dX10_layRoads_134 (lv_at hl 6 rfl) ?_
        refine lv_dup2_11 hx hb dX10_layRoads_136 rfl rfl ?_
        refine tk_iald hC hK hw hT kC_at160 rfl rfl (show 0 ≤ v130_6.toInt by omega) (show v130_6.toInt < 10 by omega) dX10_layRoads_137 (fun x27 c28 rx27 tx27 => ?_)
        refine lv_iconst (v := 1) hx hb dX10_layRoads_138 (by decide) ?_
        refine lv_iload hx hb dX10_layRoads_139 (lv_at hl 5 rfl) ?_
        refine lv_ishl hx hb dX10_layRoads_141 ?_
        refine lv_topi (fun x29 ex29 => ?_)
        have bx29 : 1 ≤ x29.toInt ∧ x29.toInt ≤ 512 := by rw [ex29]; exact wk_shl1 9 (by decide) (by omega) (by omega)
        refine lv_ior hx hb dX10_layRoads_142 ?_
        refine lv_topi (fun x30 ex30 => ?_)
        have bx30 : 0 ≤ x30.toInt ∧ x30.toInt < 1024 := by rw [ex30]; exact wk_or 10 (by decide) (by omega) (by omega) (by omega) (by omega)
        refine tk_iast hC hK hw hT kC_at160 (by decide) rfl rfl (show 0 ≤ v130_6.toInt by omega) (show v130_6.toInt < 10 by omega) (show 0 ≤ x30.toInt by omega) (show x30.toInt ≤ 1023 by omega) dX10_layRoads_143 (fun H locs w31 hw hT k33 c32 => ?_)
        have hF := hF.put kC_at160 (inE_of (a := 0) (b := 10) (by decide) (show 0 ≤ v130_6.toInt.toNat by omega) (show v130_6.toInt.toNat ≤ 10 by omega)) k33
        have c34 := k33.gi (Or.inl (tk_ne kC_at158 kC_at160 (by decide))) c26
        exact J144 v130_5 v130_6 1 f130_158_4 H locs ls w31 (show 0 ≤ v27_4.toInt by omega) (show v27_4.toInt ≤ 11 by omega) (show 0 ≤ v130_5.toInt by omega) (show v130_5.toInt ≤ 9 by omega) (show 0 ≤ v130_6.toInt by omega) (show v130_6.toInt ≤ 9 by omega) (by decide) (by decide) (show 1 ≤ f130_158_4.toInt by omega) (show f130_158_4.toInt ≤ 12 by omega)  hw hT hF c34 (lv_sub hl [0, 1, 2, 3, 4, 5, 6, 7] rfl)
      have J118 : ∀ (v118_5 : Int32) (v118_6 : Int32) (v118_7 : Int32) (f118_158_4 : Int32) (H : Heap) (locs : List Loc) (ls : Array Slot) (w35 : va_W), 0 ≤ v27_4.toInt → v27_4.toInt ≤ 11 → 0 ≤ v118_5.toInt → v118_5.toInt ≤ 9 → 0 ≤ v118_6.toInt → v118_6.toInt ≤ 9 → 0 ≤ v118_7.toInt → v118_7.toInt ≤ 1 → 1 ≤ f118_158_4.toInt → f118_158_4.toInt ≤ 12 → Wd dC dI A s.heap H locs w35 → TW ksC ad cy B qr s1 w35 → FE ksC [(51, 0, 10)] w0 w35 → gi w35 158 4 = f118_158_4 → lv_has ls 8 [(0, .ref (ad 158)), (1, .int 0), (2, .int 0), (3, .int (-1)), (4, .int v27_4), (5, .int v118_5), (6, .int v118_6), (7, .int v118_7)] → W p l e ({ frames := 1, cells := 0, slots := 0, locals := 12 }) s m (List.toArray [.ref (ad 158), .int 0, .int 0, .int (-1)]) below meth c H locs 0 0 (MQ below (va_Qv (P_X10_layRoads_3 ad cy B qr s1  w0) (fun u : va_W => wpost dC dI cy A u) A) (List.toArray [.ref (ad 158), .int 0, .int 0, .int (-1)]) s 0 0 A) (F0 m 118 ls []) := by
        intro v118_5 v118_6 v118_7 f118_158_4 H locs ls w35 r36 t37 r38 t39 r40 t41 r42 t43 r44 t45 hw hT hF c46 hl
        refine lv_iload hx hb dX10_layRoads_118 (lv_at hl 4 rfl) ?_
        refine lv_iload_n hx hb dX10_layRoads_120 rfl (lv_at hl 1 rfl) ?_
        refine lv_icmp_lt (tgt := 130) hx hb dX10_layRoads_121 (by decide) (fun c => absurd c (fun h => absurd (show v27_4.toInt < (0 : Int) from wk_lt.mp h) (by omega))) (fun _ => ?_)
        refine lv_iload hx hb dX10_layRoads_124 (lv_at hl 7 rfl) ?_
        refine lv_iconst (v := 1) hx hb dX10_layRoads_126 (by decide) ?_
        refine lv_icmp_ne (tgt := 144) hx hb dX10_layRoads_127 (by decide) (fun c47 => ?_) (fun c47 => ?_)
        · have c47 : ¬ v118_7.toInt = (1 : Int) := wk_eqF c47
          exact J144 v118_5 v118_6 v118_7 f118_158_4 H locs ls w35 (show 0 ≤ v27_4.toInt by omega) (show v27_4.toInt ≤ 11 by omega) (show 0 ≤ v118_5.toInt by omega) (show v118_5.toInt ≤ 9 by omega) (show 0 ≤ v118_6.toInt by omega) (show v118_6.toInt ≤ 9 by omega) (show 0 ≤ v118_7.toInt by omega) (show v118_7.toInt ≤ 1 by omega) (show 1 ≤ f118_158_4.toInt by omega) (show f118_158_4.toInt ≤ 12 by omega)  hw hT hF c46 (lv_sub hl [0, 1, 2, 3, 4, 5, 6, 7] rfl)
        · have c47 : v118_7.toInt = (1 : Int) := wk_eq.mp c47
          obtain rfl : v118_7 = 1 := wk_eq.mpr (show v118_7.toInt = 1 by omega)
          exact J130 v118_5 v118_6 f118_158_4 H locs ls w35 (show 0 ≤ v27_4.toInt by omega) (show v27_4.toInt ≤ 11 by omega) (show 0 ≤ v118_5.toInt by omega) (show v118_5.toInt ≤ 9 by omega) (show 0 ≤ v118_6.toInt by omega) (show v118_6.toInt ≤ 9 by omega) (show 1 ≤ f118_158_4.toInt by omega) (show f118_158_4.toInt ≤ 12 by omega)  hw hT hF c46 (lv_sub hl [0, 1, 2, 3, 4, 5, 6, 7] rfl)
      have J104 : ∀ (v104_5 : Int32) (v104_6 : Int32) (f104_158_4 : Int32) (H : Heap) (locs : List Loc) (ls : Array Slot) (w48 : va_W), 0 ≤ v27_4.toInt → v27_4.toInt ≤ 11 → 0 ≤ v104_5.toInt → v104_5.toInt ≤ 9 → 0 ≤ v104_6.toInt → v104_6.toInt ≤ 9 → 1 ≤ f104_158_4.toInt → f104_158_4.toInt ≤ 12 → Wd dC dI A s.heap H locs w48 → TW ksC ad cy B qr s1 w48 → FE ksC [(51, 0, 10)] w0 w48 → gi w48 158 4 = f104_158_4 → lv_has ls 8 [(0, .ref (ad 158)), (1, .int 0), (2, .int 0), (3, .int (-1)), (4, .int v27_4), (5, .int v104_5), (6, .int v104_6), (7, .int 0)] → W p l e ({ frames := 1, cells := 0, slots := 0, locals := 12 }) s m (List.toArray [.ref (ad 158), .int 0, .int 0, .int (-1)]) below meth c H locs 0 0 (MQ below (va_Qv (P_X10_layRoads_3 ad cy B qr s1  w0) (fun u : va_W => wpost dC dI cy A u) A) (List.toArray [.ref (ad 158), .int 0, .int 0, .int (-1)]) s 0 0 A) (F0 m 104 ls []) := by
        intro v104_5 v104_6 f104_158_4 H locs ls w48 r49 t50 r51 t52 r53 t54 r55 t56 hw hT hF c57 hl
        refine lv_aload_n hx hb dX10_layRoads_104 rfl (lv_at hl 0 rfl) ?_
        refine tk_getA hC hK hw hT hinX10 kC_at158 (by decide) rfl 3 (by decide) (List.mem_of_getElem? (i := 1) rfl) rfl rfl dX10_layRoads_105 ?_
        refine lv_iload hx hb dX10_layRoads_108 (lv_at hl 5 rfl) ?_
        refine lv_dup2_11 hx hb dX10_layRoads_110 rfl rfl ?_
        refine tk_iald hC hK hw hT kC_at160 rfl rfl (show 0 ≤ v104_5.toInt by omega) (show v104_5.toInt < 10 by omega) dX10_layRoads_111 (fun x58 c59 rx58 tx58 => ?_)
        refine lv_iconst (v := 1) hx hb dX10_layRoads_112 (by decide) ?_
        refine lv_iload hx hb dX10_layRoads_113 (lv_at hl 6 rfl) ?_
        refine lv_ishl hx hb dX10_layRoads_115 ?_
        refine lv_topi (fun x60 ex60 => ?_)
        have bx60 : 1 ≤ x60.toInt ∧ x60.toInt ≤ 512 := by rw [ex60]; exact wk_shl1 9 (by decide) (by omega) (by omega)
        refine lv_ior hx hb dX10_layRoads_116 ?_
        refine lv_topi (fun x61 ex61 => ?_)
        have bx61 : 0 ≤ x61.toInt ∧ x61.toInt < 1024 := by rw [ex61]; exact wk_or 10 (by decide) (by omega) (by omega) (by omega) (by omega)
        refine tk_iast hC hK hw hT kC_at160 (by decide) rfl rfl (show 0 ≤ v104_5.toInt by omega) (show v104_5.toInt < 10 by omega) (show 0 ≤ x61.toInt by omega) (show x61.toInt ≤ 1023 by omega) dX10_layRoads_117 (fun H locs w62 hw hT k64 c63 => ?_)
        have hF := hF.put kC_at160 (inE_of (a := 0) (b := 10) (by decide) (show 0 ≤ v104_5.toInt.toNat by omega) (show v104_5.toInt.toNat ≤ 10 by omega)) k64
        have c65 := k64.gi (Or.inl (tk_ne kC_at158 kC_at160 (by decide))) c57
        exact J118 v104_5 v104_6 0 f104_158_4 H locs ls w62 (show 0 ≤ v27_4.toInt by omega) (show v27_4.toInt ≤ 11 by omega) (show 0 ≤ v104_5.toInt by omega) (show v104_5.toInt ≤ 9 by omega) (show 0 ≤ v104_6.toInt by omega) (show v104_6.toInt ≤ 9 by omega) (by decide) (by decide) (show 1 ≤ f104_158_4.toInt by omega) (show f104_158_4.toInt ≤ 12 by omega)  hw hT hF c65 (lv_sub hl [0, 1, 2, 3, 4, 5, 6, 7] rfl)
      refine lv_iload hx hb dX10_layRoads_27 (lv_at hl 4 rfl) ?_
      refine lv_aload_n hx hb dX10_layRoads_29 rfl (lv_at hl 0 rfl) ?_
      refine tk_geti hC hK hw hT hinX10 kC_at158 (by decide) rfl 4 (by decide) (List.mem_of_getElem? (i := 2) rfl) rfl rfl dX10_layRoads_30 (fun x66 c67 rx66 tx66 => ?_)
      refine lv_icmp_ge (tgt := 150) hx hb dX10_layRoads_33 (by decide) (fun c68 => ?_) (fun c68 => ?_)
      · have c68 : x66.toInt ≤ v27_4.toInt := wk_le.mp c68
        exact tk_vret hC hr hlocks hK ⟨hT, hF, trivial⟩ hw dX10_layRoads_150
      · have c68 : v27_4.toInt < x66.toInt := wk_leF c68
        refine lv_iload hx hb dX10_layRoads_36 (lv_at hl 4 rfl) ?_
        refine lv_iload_n hx hb dX10_layRoads_38 rfl (lv_at hl 3 rfl) ?_
        refine lv_icmp_ne (tgt := 45) hx hb dX10_layRoads_39 (by decide) (fun _ => ?_) (fun c => absurd (show v27_4.toInt = (-1 : Int) from wk_eq.mp c) (by omega))
        refine lv_aload_n hx hb dX10_layRoads_45 rfl (lv_at hl 0 rfl) ?_
        refine tk_getA hC hK hw hT hinX10 kC_at158 (by decide) rfl 1 (by decide) (List.mem_of_getElem? (i := 3) rfl) rfl rfl dX10_layRoads_46 ?_
        refine tk_getO hC hK hw hT hinX7 kC_at39 (by decide) rfl 0 (by decide) (List.mem_of_getElem? (i := 4) rfl) rfl rfl dX10_layRoads_49 ?_
        refine lv_iconst (v := 2) hx hb dX10_layRoads_52 (by decide) ?_
        refine lv_aload_n hx hb dX10_layRoads_53 rfl (lv_at hl 0 rfl) ?_
        refine tk_getA hC hK hw hT hinX10 kC_at158 (by decide) rfl 2 (by decide) (List.mem_of_getElem? (i := 5) rfl) rfl rfl dX10_layRoads_54 ?_
        refine lv_iload hx hb dX10_layRoads_57 (lv_at hl 4 rfl) ?_
        refine tk_iald hC hK hw hT kC_at159 rfl rfl (show 0 ≤ v27_4.toInt by omega) (show v27_4.toInt < 12 by omega) dX10_layRoads_59 (fun x69 c70 rx69 tx69 => ?_)
        refine lv_imul hx hb dX10_layRoads_60 ?_
        refine lv_topi (fun x71 ex71 => ?_)
        have ex71 : x71.toInt = (2 : Int) * x69.toInt := by rw [ex71]; exact wk_mul (show (-2147483648) ≤ (2 : Int) * x69.toInt by omega) (show (2 : Int) * x69.toInt ≤ 2147483647 by omega)
        refine tk_iald hC hK hw hT kC_at40 rfl rfl (show 0 ≤ x71.toInt by omega) (show x71.toInt < 26 by omega) dX10_layRoads_61 (fun x72 c73 rx72 tx72 => ?_)
        refine lv_istore (lv' := [(5, .int x72), (0, .ref (ad 158)), (1, .int 0), (2, .int 0), (3, .int (-1)), (4, .int v27_4)]) hx hb dX10_layRoads_62 hl (by decide) rfl (fun ls hl => ?_)
        refine lv_aload_n hx hb dX10_layRoads_64 rfl (lv_at hl 1 rfl) ?_
        refine tk_getA hC hK hw hT hinX10 kC_at158 (by decide) rfl 1 (by decide) (List.mem_of_getElem? (i := 3) rfl) rfl rfl dX10_layRoads_65 ?_
        refine tk_getO hC hK hw hT hinX7 kC_at39 (by decide) rfl 0 (by decide) (List.mem_of_getElem? (i := 4) rfl) rfl rfl dX10_layRoads_68 ?_
        refine lv_iconst (v := 2) hx hb dX10_layRoads_71 (by decide) ?_
        refine lv_aload_n hx hb dX10_layRoads_72 rfl (lv_at hl 1 rfl) ?_
        refine tk_getA hC hK hw hT hinX10 kC_at158 (by decide) rfl 2 (by decide) (List.mem_of_getElem? (i := 5) rfl) rfl rfl dX10_layRoads_73 ?_
        refine lv_iload hx hb dX10_layRoads_76 (lv_at hl 5 rfl) ?_
        refine tk_iald hC hK hw hT kC_at159 rfl rfl (show 0 ≤ v27_4.toInt by omega) (show v27_4.toInt < 12 by omega) dX10_layRoads_78 (fun x74 c75 rx74 tx74 => ?_)
        refine lv_imul hx hb dX10_layRoads_79 ?_
        refine lv_topi (fun x76 ex76 => ?_)
        have ex76 : x76.toInt = (2 : Int) * x74.toInt := by rw [ex76]; exact wk_mul (show (-2147483648) ≤ (2 : Int) * x74.toInt by omega) (show (2 : Int) * x74.toInt ≤ 2147483647 by omega)
        refine lv_iconst (v := 1) hx hb dX10_layRoads_80 (by decide) ?_
        refine lv_iadd hx hb dX10_layRoads_81 ?_
        refine lv_topi (fun x77 ex77 => ?_)
        have ex77 : x77.toInt = x76.toInt + (1 : Int) := by rw [ex77]; exact wk_add (show (-2147483648) ≤ x76.toInt + (1 : Int) by omega) (show x76.toInt + (1 : Int) ≤ 2147483647 by omega)
        refine tk_iald hC hK hw hT kC_at40 rfl rfl (show 0 ≤ x77.toInt by omega) (show x77.toInt < 26 by omega) dX10_layRoads_82 (fun x78 c79 rx78 tx78 => ?_)
        refine lv_istore (lv' := [(6, .int x78), (5, .int x72), (0, .ref (ad 158)), (1, .int 0), (2, .int 0), (3, .int (-1)), (4, .int v27_4)]) hx hb dX10_layRoads_83 hl (by decide) rfl (fun ls hl => ?_)
        refine lv_iload_n hx hb dX10_layRoads_85 rfl (lv_at hl 4 rfl) ?_
        refine lv_iload hx hb dX10_layRoads_86 (lv_at hl 6 rfl) ?_
        refine lv_ishr hx hb dX10_layRoads_88 ?_
        refine lv_topi (fun x80 ex80 => ?_)
        have bx80 : 0 ≤ x80.toInt ∧ x80.toInt ≤ (0 : Int) := by rw [ex80]; exact wk_shr (by decide)
        refine lv_iconst (v := 1) hx hb dX10_layRoads_89 (by decide) ?_
        refine lv_iand hx hb dX10_layRoads_90 ?_
        refine lv_topi (fun x81 ex81 => ?_)
        have bx81 : 0 ≤ x81.toInt ∧ x81.toInt ≤ (1 : Int) := by rw [ex81]; exact wk_and (by decide)
        refine lv_istore (lv' := [(7, .int x81), (6, .int x78), (5, .int x72), (0, .ref (ad 158)), (1, .int 0), (2, .int 0), (3, .int (-1)), (4, .int v27_4)]) hx hb dX10_layRoads_91 hl (by decide) rfl (fun ls hl => ?_)
        refine lv_iload hx hb dX10_layRoads_93 (lv_at hl 7 rfl) ?_
        refine lv_iload_n hx hb dX10_layRoads_95 rfl (lv_at hl 4 rfl) ?_
        refine lv_icmp_lt (tgt := 104) hx hb dX10_layRoads_96 (by decide) (fun c => absurd c (fun h => absurd (show v27_4.toInt < (0 : Int) from wk_lt.mp h) (by omega))) (fun _ => ?_)
        refine lv_iload hx hb dX10_layRoads_99 (lv_at hl 0 rfl) ?_
        refine lv_if_ne (tgt := 118) hx hb dX10_layRoads_101 (by decide) (fun c82 => ?_) (fun c82 => ?_)
        · have c82 : ¬ x81.toInt = (0 : Int) := wk_eqF c82
          exact J118 x72 x78 x81 x66 H locs ls w1 (show 0 ≤ v27_4.toInt by omega) (show v27_4.toInt ≤ 11 by omega) (show 0 ≤ x72.toInt by omega) (show x72.toInt ≤ 9 by omega) (show 0 ≤ x78.toInt by omega) (show x78.toInt ≤ 9 by omega) (show 0 ≤ x81.toInt by omega) (show x81.toInt ≤ 1 by omega) (show 1 ≤ x66.toInt by omega) (show x66.toInt ≤ 12 by omega)  hw hT hF c67 (lv_sub hl [3, 4, 5, 6, 7, 2, 1, 0] rfl)
        · have c82 : x81.toInt = (0 : Int) := wk_eq.mp c82
          obtain rfl : x81 = 0 := wk_eq.mpr (show x81.toInt = 0 by omega)
          exact J104 x72 x78 x66 H locs ls w1 (show 0 ≤ v27_4.toInt by omega) (show v27_4.toInt ≤ 11 by omega) (show 0 ≤ x72.toInt by omega) (show x72.toInt ≤ 9 by omega) (show 0 ≤ x78.toInt by omega) (show x78.toInt ≤ 9 by omega) (show 1 ≤ x66.toInt by omega) (show x66.toInt ≤ 12 by omega)  hw hT hF c67 (lv_sub hl [3, 4, 5, 6, 7, 2, 1, 0] rfl)
  have L3 : ∀ (n3 : Nat) (v3_4 : Int32) (H : Heap) (locs : List Loc) (ls : Array Slot) (w83 : va_W), 0 ≤ v3_4.toInt → v3_4.toInt ≤ 10 → (10 - v3_4.toInt).toNat < n3 → Wd dC dI A s.heap H locs w83 → TW ksC ad cy B qr s1 w83 → FE ksC [(51, 0, 10)] w0 w83 → lv_has ls 8 [(0, .ref (ad 158)), (1, .int 0), (2, .int 0), (3, .int (-1)), (4, .int v3_4)] → W p l e ({ frames := 1, cells := 0, slots := 0, locals := 12 }) s m (List.toArray [.ref (ad 158), .int 0, .int 0, .int (-1)]) below meth c H locs 0 0 (MQ below (va_Qv (P_X10_layRoads_3 ad cy B qr s1  w0) (fun u : va_W => wpost dC dI cy A u) A) (List.toArray [.ref (ad 158), .int 0, .int 0, .int (-1)]) s 0 0 A) (F0 m 3 ls []) := by
    intro n3
    induction n3 with
    | zero => intro v3_4 H locs ls w83 r84 t85 hm3 hw hT hF hl; omega
    | succ n3 ih3 =>
      intro v3_4 H locs ls w83 r84 t85 hm3 hw hT hF hl
      refine lv_iload hx hb dX10_layRoads_3 (lv_at hl 4 rfl) ?_
      refine lv_bipush (v := 10) hx hb dX10_layRoads_5 (by decide) ?_
      refine lv_icmp_ge (tgt := 24) hx hb dX10_layRoads_7 (by decide) (fun c86 => ?_) (fun c86 => ?_)
      · have c86 : (10 : Int) ≤ v3_4.toInt := wk_le.mp c86
        refine lv_iconst (v := 0) hx hb dX10_layRoads_24 (by decide) ?_
        refine lv_istore (lv' := [(4, .int 0), (0, .ref (ad 158)), (1, .int 0), (2, .int 0), (3, .int (-1))]) hx hb dX10_layRoads_25 hl (by decide) rfl (fun ls hl => ?_)
        exact L27 ((12 - (0 : Int)).toNat + 1) 0 H locs ls w83 (by decide) (by decide) (Nat.lt_succ_self _) hw hT hF  (lv_sub hl [1, 2, 3, 4, 0] rfl)
      · have c86 : v3_4.toInt < (10 : Int) := wk_leF c86
        refine lv_aload_n hx hb dX10_layRoads_10 rfl (lv_at hl 0 rfl) ?_
        refine tk_getA hC hK hw hT hinX10 kC_at158 (by decide) rfl 3 (by decide) (List.mem_of_getElem? (i := 1) rfl) rfl rfl dX10_layRoads_11 ?_
        refine lv_iload hx hb dX10_layRoads_14 (lv_at hl 4 rfl) ?_
        refine lv_iconst (v := 0) hx hb dX10_layRoads_16 (by decide) ?_
        refine tk_iast hC hK hw hT kC_at160 (by decide) rfl rfl (show 0 ≤ v3_4.toInt by omega) (show v3_4.toInt < 10 by omega) (by decide) (by decide) dX10_layRoads_17 (fun H locs w87 hw hT k89 c88 => ?_)
        have hF := hF.put kC_at160 (inE_of (a := 0) (b := 10) (by decide) (show 0 ≤ v3_4.toInt.toNat by omega) (show v3_4.toInt.toNat ≤ 10 by omega)) k89
        obtain ⟨x90, ex90⟩ : ∃ y : Int32, y = v3_4 + Int32.ofInt 1 := ⟨_, rfl⟩
        refine lv_iinc (v := x90) (lv' := [(4, .int x90), (0, .ref (ad 158)), (1, .int 0), (2, .int 0), (3, .int (-1))]) hx hb dX10_layRoads_18 hl (k := 4) rfl ex90.symm (by decide) rfl (fun ls hl => ?_)
        have ex90 : x90.toInt = v3_4.toInt + 1 := by rw [ex90]; exact wk_add (y := 1) (show -2147483648 ≤ v3_4.toInt + 1 by omega) (show v3_4.toInt + 1 ≤ 2147483647 by omega)
        refine lv_goto (tgt := 3) hx hb dX10_layRoads_21 (by decide) ?_
        exact ih3 x90 H locs ls w87 (show 0 ≤ x90.toInt by omega) (show x90.toInt ≤ 10 by omega) (show (10 - x90.toInt).toNat < n3 by omega) hw hT hF  (lv_sub hl [1, 2, 3, 4, 0] rfl)
  refine lv_iconst (v := 0) hx hb dX10_layRoads_0 (by decide) ?_
  refine lv_istore (lv' := [(4, .int 0), (0, .ref (ad 158)), (1, .int 0), (2, .int 0), (3, .int (-1))]) hx hb dX10_layRoads_1 hl (by decide) rfl (fun ls hl => ?_)
  exact L3 ((10 - (0 : Int)).toNat + 1) 0 s.heap locs ls w0 (by decide) (by decide) (Nat.lt_succ_self _) hw hT hF  (lv_sub hl [1, 2, 3, 4, 0] rfl)
abbrev P_X10_leastBelow_13 (ad : Nat → Nat) (cy : Nat → ClassId) (B : Int) (qr : Nat) (s1 : Int)  (w0 : va_W) : Int32 → va_W → Prop := fun r u => TW ksC ad cy B qr s1 u ∧ FE ksC [(51, 0, 10)] w0 u ∧ ((r = 0) ∨ (r = (-1) ∧ (∃ y : Int32, gi u 38 10 = y ∧ 1 ≤ y.toInt ∧ y.toInt ≤ 6)))
set_option maxHeartbeats 4000000 in
set_option maxRecDepth 100000 in
theorem k_X10_leastBelow_13 (l : Launch) (adK adV : Nat → Nat) (dC : Nat → ClassId) (dI : Nat → Nat → Nat) (cy : Nat → ClassId) (ad : Nat → Nat) (B : Int) (hB0 : 2147483648 ≤ B) (hB1 : B ≤ 1152921504606846976) (qr : Nat) (s1 : Int)   (w0 : va_W) (sz : Nat) (hT : TW ksC ad cy B qr s1 w0)  : Met l yX10_leastBelow wsX10_leastBelow ({ frames := 3, cells := 0, slots := 0, locals := 59 }) (va_Pc [.ref (ad 158), .int 0, .int 0] (wpreS adK adV dC dI cy sz w0)) (va_Qi (P_X10_leastBelow_13 ad cy B qr s1  w0) (fun u : va_W => wpost dC dI cy (va_A w0 sz) u) (va_A w0 sz)) 0 0 (va_A w0 sz) := by
  refine Met.ofW (cc := cX10_leastBelow) (maxL := 4) (ret := (some .int)) (by decide) rfl ?_
  intro p e s m args below meth c s₁ Bk hml hv
  obtain ⟨rfl, ⟨hsz, hP, hK, hD0⟩, hE, hSR⟩ := hv
  have hx := Bk.exec
  have hb := Bk.bytes
  have hr := Bk.returns
  have hlocks := Bk.notSynchronized
  have hC : CallFix p m c cX10_leastBelow 4 s _ wsX10_leastBelow RX10 := ⟨hx, hb, hml, findClass_of_methodNamed Bk.named, atoms_spec (ws := wsX10_leastBelow) Bk.pre⟩
  subst hsz
  have hD := hD0.self (sz := s.heap.size)
  generalize hAe : va_A w0 s.heap.size = A at hD hE ⊢
  have hA : ∀ q : Nat, s.heap.size ≤ q → A q := fun q h => by rw [← hAe]; exact Or.inr h
  have hw : Wd dC dI A s.heap s.heap [] w0 := ⟨hP, hD, va_S.rf⟩
  have hF : FE ksC [(51, 0, 10)] w0 w0 := FE.rf
  have hl := lv_entry ([.ref (ad 158), .int 0, .int 0]) (n := 4) (Nat.le_of_ble_eq_true rfl)
  rw [lg_entry_eq]
  generalize (lg_sl ([.ref (ad 158), .int 0, .int 0]) ++ List.replicate (4 - (lg_sl ([.ref (ad 158), .int 0, .int 0])).length) Slot.unset).toArray = ls at hl ⊢
  have hl : lv_has ls 4 [(0, .ref (ad 158)), (1, .int 0), (2, .int 0)] := hl
  generalize hloc : ([] : List Loc) = locs at hw ⊢
  have hinX10 : ∀ w ∈ u_ws RX10 TX10 5, w ∈ wsX10_leastBelow := fun _ h => List.mem_cons_of_mem _ (List.mem_append_left _ (List.mem_append_left _ (List.mem_append_right _ (h))))
  have hinX5 : ∀ w ∈ u_ws RX5 TX5 14, w ∈ wsX10_leastBelow := fun _ h => List.mem_cons_of_mem _ (List.mem_append_left _ (List.mem_append_right _ (h)))
  have L9 : ∀ (n9 : Nat) (v9_3 : Int32) (H : Heap) (locs : List Loc) (ls : Array Slot) (w1 : va_W), 0 ≤ v9_3.toInt → v9_3.toInt ≤ 6 → (6 - v9_3.toInt).toNat < n9 → Wd dC dI A s.heap H locs w1 → TW ksC ad cy B qr s1 w1 → FE ksC [(51, 0, 10)] w0 w1 → lv_has ls 4 [(0, .ref (ad 158)), (1, .int 0), (2, .int 0), (3, .int v9_3)] → W p l e ({ frames := 3, cells := 0, slots := 0, locals := 59 }) s m (List.toArray [.ref (ad 158), .int 0, .int 0]) below meth c H locs 0 0 (MQ below (va_Qi (P_X10_leastBelow_13 ad cy B qr s1  w0) (fun u : va_W => wpost dC dI cy A u) A) (List.toArray [.ref (ad 158), .int 0, .int 0]) s 0 0 A) (F0 m 9 ls []) := by
    intro n9
    induction n9 with
    | zero => intro v9_3 H locs ls w1 r2 t3 hm9 hw hT hF hl; omega
    | succ n9 ih9 =>
      intro v9_3 H locs ls w1 r2 t3 hm9 hw hT hF hl
      refine lv_iload_n hx hb dX10_leastBelow_9 rfl (lv_at hl 3 rfl) ?_
      refine lv_aload_n hx hb dX10_leastBelow_10 rfl (lv_at hl 0 rfl) ?_
      refine tk_getA hC hK hw hT hinX10 kC_at158 (by decide) rfl 0 (by decide) (List.mem_of_getElem? (i := 1) rfl) rfl rfl dX10_leastBelow_11 ?_
      refine tk_geti hC hK hw hT hinX5 kC_at38 (by decide) rfl 10 (by decide) (List.mem_of_getElem? (i := 2) rfl) rfl rfl dX10_leastBelow_14 (fun x4 c5 rx4 tx4 => ?_)
      refine lv_icmp_ge (tgt := 36) hx hb dX10_leastBelow_17 (by decide) (fun c6 => ?_) (fun c6 => ?_)
      · have c6 : x4.toInt ≤ v9_3.toInt := wk_le.mp c6
        refine lv_iload_n hx hb dX10_leastBelow_36 rfl (lv_at hl 1 rfl) ?_
        refine lv_if_gt (tgt := 42) hx hb dX10_leastBelow_37 (by decide) (fun c => absurd c (by decide)) (fun _ => ?_)
        refine lv_iload_n hx hb dX10_leastBelow_40 rfl (lv_at hl 2 rfl) ?_
        exact tk_iret hC hr hlocks hK ⟨hT, hF, (Or.inl rfl)⟩ hw dX10_leastBelow_41
      · have c6 : v9_3.toInt < x4.toInt := wk_leF c6
        refine lv_aload_n hx hb dX10_leastBelow_20 rfl (lv_at hl 0 rfl) ?_
        refine lv_iload_n hx hb dX10_leastBelow_21 rfl (lv_at hl 3 rfl) ?_
        refine tk_Vi hC hK hw hT hA hE hSR kC_at158 (by decide) rfl (k_X10_canDo_1 l adK adV dC dI cy ad B (by omega) (by omega) qr s1   v9_3 (show 0 ≤ v9_3.toInt by omega) (show v9_3.toInt ≤ 5 by omega) w1 H.size hT ) (cwV 1 hC.2.2.2.2 gX10_leastBelow_X10_canDo rfl rfl rfl (by decide +kernel) ⟨Nat.le_of_ble_eq_true rfl, Nat.le_of_ble_eq_true rfl⟩) rfl hl.1 rfl (Nat.le_of_ble_eq_true rfl) dX10_leastBelow_22 (fun r7 w9 H locs hp8 hw => ?_)
        obtain ⟨hT, k10, hg11⟩ := hp8
        have hF := hF.tr k10 (by decide)
        have c12 := k10.gi kC_at38 (by decide) c5
        rcases hg11 with rfl | rfl
        · refine lv_if_ne (tgt := 30) hx hb dX10_leastBelow_25 (by decide) (fun c => absurd (by decide) c) (fun _ => ?_)
          refine lv_iconst (v := (-1)) hx hb dX10_leastBelow_28 (by decide) ?_
          exact tk_iret hC hr hlocks hK ⟨hT, hF, (Or.inr ⟨rfl, ⟨x4, c12, (show 1 ≤ x4.toInt by omega), (show x4.toInt ≤ 6 by omega)⟩⟩)⟩ hw dX10_leastBelow_29
        · refine lv_if_ne (tgt := 30) hx hb dX10_leastBelow_25 (by decide) (fun _ => ?_) (fun c => absurd c (by decide))
          obtain ⟨x13, ex13⟩ : ∃ y : Int32, y = v9_3 + Int32.ofInt 1 := ⟨_, rfl⟩
          refine lv_iinc (v := x13) (lv' := [(3, .int x13), (0, .ref (ad 158)), (1, .int 0), (2, .int 0)]) hx hb dX10_leastBelow_30 hl (k := 3) rfl ex13.symm (by decide) rfl (fun ls hl => ?_)
          have ex13 : x13.toInt = v9_3.toInt + 1 := by rw [ex13]; exact wk_add (y := 1) (show -2147483648 ≤ v9_3.toInt + 1 by omega) (show v9_3.toInt + 1 ≤ 2147483647 by omega)
          refine lv_goto (tgt := 9) hx hb dX10_leastBelow_33 (by decide) ?_
          exact ih9 x13 H locs ls w9 (show 0 ≤ x13.toInt by omega) (show x13.toInt ≤ 6 by omega) (show (6 - x13.toInt).toNat < n9 by omega) hw hT hF  (lv_sub hl [1, 2, 3, 0] rfl)
  refine lv_aload_n hx hb dX10_leastBelow_0 rfl (lv_at hl 0 rfl) ?_
  refine lv_iload_n hx hb dX10_leastBelow_1 rfl (lv_at hl 1 rfl) ?_
  refine lv_iload_n hx hb dX10_leastBelow_2 rfl (lv_at hl 2 rfl) ?_
  refine lv_iconst (v := (-1)) hx hb dX10_leastBelow_3 (by decide) ?_
  refine tk_Vv hC hK hw hT hA hE hSR kC_at158 (by decide) rfl (k_X10_layRoads_3 l adK adV dC dI cy ad B (by omega) (by omega) qr s1    w0 s.heap.size hT ) (cwV 3 hC.2.2.2.2 gX10_leastBelow_X10_layRoads rfl rfl rfl (by decide +kernel) ⟨Nat.le_of_ble_eq_true rfl, Nat.le_of_ble_eq_true rfl⟩) rfl hl.1 rfl (Nat.le_of_ble_eq_true rfl) dX10_leastBelow_4 (fun w16 H locs hp15 hw => ?_)
  obtain ⟨hT, k17, hg18⟩ := hp15
  have hF := hF.tr k17 (by decide)
  clear hg18
  refine lv_iconst (v := 0) hx hb dX10_leastBelow_7 (by decide) ?_
  refine lv_istore_n (lv' := [(3, .int 0), (0, .ref (ad 158)), (1, .int 0), (2, .int 0)]) hx hb dX10_leastBelow_8 rfl hl (by decide) rfl (fun ls hl => ?_)
  exact L9 ((6 - (0 : Int)).toNat + 1) 0 H locs ls w16 (by decide) (by decide) (Nat.lt_succ_self _) hw hT hF  (lv_sub hl [1, 2, 3, 0] rfl)
abbrev P_X10_layRoads_4 (ad : Nat → Nat) (cy : Nat → ClassId) (B : Int) (qr : Nat) (s1 : Int) (a2 : Int32) (w0 : va_W) : va_W → Prop := fun u => TW ksC ad cy B qr s1 u ∧ FE ksC [(51, 0, 10)] w0 u ∧ ((True))
set_option maxHeartbeats 4000000 in
set_option maxRecDepth 100000 in
theorem k_X10_layRoads_4 (l : Launch) (adK adV : Nat → Nat) (dC : Nat → ClassId) (dI : Nat → Nat → Nat) (cy : Nat → ClassId) (ad : Nat → Nat) (B : Int) (hB0 : 2147483648 ≤ B) (hB1 : B ≤ 1152921504606846976) (qr : Nat) (s1 : Int)  (a2 : Int32) (ra2 : 0 ≤ a2.toInt) (ta2 : a2.toInt ≤ 1) (w0 : va_W) (sz : Nat) (hT : TW ksC ad cy B qr s1 w0)  : Met l yX10_layRoads wsX10_layRoads ({ frames := 1, cells := 0, slots := 0, locals := 12 }) (va_Pc [.ref (ad 158), .int 0, .int a2, .int (-1)] (wpreS adK adV dC dI cy sz w0)) (va_Qv (P_X10_layRoads_4 ad cy B qr s1 a2 w0) (fun u : va_W => wpost dC dI cy (va_A w0 sz) u) (va_A w0 sz)) 0 0 (va_A w0 sz) := by
  refine Met.ofW (cc := cX10_layRoads) (maxL := 8) (ret := none) (by decide) rfl ?_
  intro p e s m args below meth c s₁ Bk hml hv
  obtain ⟨rfl, ⟨hsz, hP, hK, hD0⟩, hE, hSR⟩ := hv
  have hx := Bk.exec
  have hb := Bk.bytes
  have hr := Bk.returns
  have hlocks := Bk.notSynchronized
  have hC : CallFix p m c cX10_layRoads 8 s _ wsX10_layRoads RX10 := ⟨hx, hb, hml, findClass_of_methodNamed Bk.named, atoms_spec (ws := wsX10_layRoads) Bk.pre⟩
  subst hsz
  have hD := hD0.self (sz := s.heap.size)
  generalize hAe : va_A w0 s.heap.size = A at hD hE ⊢
  have hA : ∀ q : Nat, s.heap.size ≤ q → A q := fun q h => by rw [← hAe]; exact Or.inr h
  have hw : Wd dC dI A s.heap s.heap [] w0 := ⟨hP, hD, va_S.rf⟩
  have hF : FE ksC [(51, 0, 10)] w0 w0 := FE.rf
  have hl := lv_entry ([.ref (ad 158), .int 0, .int a2, .int (-1)]) (n := 8) (Nat.le_of_ble_eq_true rfl)
  rw [lg_entry_eq]
  generalize (lg_sl ([.ref (ad 158), .int 0, .int a2, .int (-1)]) ++ List.replicate (8 - (lg_sl ([.ref (ad 158), .int 0, .int a2, .int (-1)])).length) Slot.unset).toArray = ls at hl ⊢
  have hl : lv_has ls 8 [(0, .ref (ad 158)), (1, .int 0), (2, .int a2), (3, .int (-1))] := hl
  generalize hloc : ([] : List Loc) = locs at hw ⊢
  have hinX10 : ∀ w ∈ u_ws RX10 TX10 5, w ∈ wsX10_layRoads := fun _ h => List.mem_cons_of_mem _ (List.mem_append_left _ (List.mem_append_right _ (h)))
  have hinX7 : ∀ w ∈ u_ws RX7 TX7 12, w ∈ wsX10_layRoads := fun _ h => List.mem_cons_of_mem _ (List.mem_append_right _ (h))
  have L27 : ∀ (n27 : Nat) (v27_4 : Int32) (H : Heap) (locs : List Loc) (ls : Array Slot) (w1 : va_W), 0 ≤ a2.toInt → a2.toInt ≤ 1 → 0 ≤ v27_4.toInt → v27_4.toInt ≤ 12 → (12 - v27_4.toInt).toNat < n27 → Wd dC dI A s.heap H locs w1 → TW ksC ad cy B qr s1 w1 → FE ksC [(51, 0, 10)] w0 w1 → lv_has ls 8 [(0, .ref (ad 158)), (1, .int 0), (2, .int a2), (3, .int (-1)), (4, .int v27_4)] → W p l e ({ frames := 1, cells := 0, slots := 0, locals := 12 }) s m (List.toArray [.ref (ad 158), .int 0, .int a2, .int (-1)]) below meth c H locs 0 0 (MQ below (va_Qv (P_X10_layRoads_4 ad cy B qr s1 a2 w0) (fun u : va_W => wpost dC dI cy A u) A) (List.toArray [.ref (ad 158), .int 0, .int a2, .int (-1)]) s 0 0 A) (F0 m 27 ls []) := by
    intro n27
    induction n27 with
    | zero => intro v27_4 H locs ls w1 r2 t3 r4 t5 hm27 hw hT hF hl; omega
    | succ n27 ih27 =>
      intro v27_4 H locs ls w1 r2 t3 r4 t5 hm27 hw hT hF hl
      have J144 : ∀ (v144_5 : Int32) (v144_6 : Int32) (v144_7 : Int32) (f144_158_4 : Int32) (H : Heap) (locs : List Loc) (ls : Array Slot) (w6 : va_W), 0 ≤ a2.toInt → a2.toInt ≤ 1 → 0 ≤ v27_4.toInt → v27_4.toInt ≤ 11 → 0 ≤ v144_5.toInt → v144_5.toInt ≤ 9 → 0 ≤ v144_6.toInt → v144_6.toInt ≤ 9 → 0 ≤ v144_7.toInt → v144_7.toInt ≤ 1 → 1 ≤ f144_158_4.toInt → f144_158_4.toInt ≤ 12 → Wd dC dI A s.heap H locs w6 → TW ksC ad cy B qr s1 w6 → FE ksC [(51, 0, 10)] w0 w6 → gi w6 158 4 = f144_158_4 → lv_has ls 8 [(0, .ref (ad 158)), (1, .int 0), (2, .int a2), (3, .int (-1)), (4, .int v27_4), (5, .int v144_5), (6, .int v144_6), (7, .int v144_7)] → W p l e ({ frames := 1, cells := 0, slots := 0, locals := 12 }) s m (List.toArray [.ref (ad 158), .int 0, .int a2, .int (-1)]) below meth c H locs 0 0 (MQ below (va_Qv (P_X10_layRoads_4 ad cy B qr s1 a2 w0) (fun u : va_W => wpost dC dI cy A u) A) (List.toArray [.ref (ad 158), .int 0, .int a2, .int (-1)]) s 0 0 A) (F0 m 144 ls []) := by
        intro v144_5 v144_6 v144_7 f144_158_4 H locs ls w6 r7 t8 r9 t10 r11 t12 r13 t14 r15 t16 r17 t18 hw hT hF c19 hl
        obtain ⟨x20, ex20⟩ : ∃ y : Int32, y = v27_4 + Int32.ofInt 1 := ⟨_, rfl⟩
        refine lv_iinc (v := x20) (lv' := [(4, .int x20), (0, .ref (ad 158)), (1, .int 0), (2, .int a2), (3, .int (-1)), (5, .int v144_5), (6, .int v144_6), (7, .int v144_7)]) hx hb dX10_layRoads_144 hl (k := 4) rfl ex20.symm (by decide) rfl (fun ls hl => ?_)
        have ex20 : x20.toInt = v27_4.toInt + 1 := by rw [ex20]; exact wk_add (y := 1) (show -2147483648 ≤ v27_4.toInt + 1 by omega) (show v27_4.toInt + 1 ≤ 2147483647 by omega)
        refine lv_goto (tgt := 27) hx hb dX10_layRoads_147 (by decide) ?_
        exact ih27 x20 H locs ls w6 (show 0 ≤ a2.toInt by omega) (show a2.toInt ≤ 1 by omega) (show 0 ≤ x20.toInt by omega) (show x20.toInt ≤ 12 by omega) (show (12 - x20.toInt).toNat < n27 by omega) hw hT hF  (lv_sub hl [1, 2, 3, 4, 0] rfl)
      have J130 : ∀ (v130_5 : Int32) (v130_6 : Int32) (f130_158_4 : Int32) (H : Heap) (locs : List Loc) (ls : Array Slot) (w21 : va_W), 0 ≤ a2.toInt → a2.toInt ≤ 1 → 0 ≤ v27_4.toInt → v27_4.toInt ≤ 11 → 0 ≤ v130_5.toInt → v130_5.toInt ≤ 9 → 0 ≤ v130_6.toInt → v130_6.toInt ≤ 9 → 1 ≤ f130_158_4.toInt → f130_158_4.toInt ≤ 12 → Wd dC dI A s.heap H locs w21 → TW ksC ad cy B qr s1 w21 → FE ksC [(51, 0, 10)] w0 w21 → gi w21 158 4 = f130_158_4 → lv_has ls 8 [(0, .ref (ad 158)), (1, .int 0), (2, .int a2), (3, .int (-1)), (4, .int v27_4), (5, .int v130_5), (6, .int v130_6), (7, .int 1)] → W p l e ({ frames := 1, cells := 0, slots := 0, locals := 12 }) s m (List.toArray [.ref (ad 158), .int 0, .int a2, .int (-1)]) below meth c H locs 0 0 (MQ below (va_Qv (P_X10_layRoads_4 ad cy B qr s1 a2 w0) (fun u : va_W => wpost dC dI cy A u) A) (List.toArray [.ref (ad 158), .int 0, .int a2, .int (-1)]) s 0 0 A) (F0 m 130 ls []) := by
        intro v130_5 v130_6 f130_158_4 H locs ls w21 r22 t23 r24 t25 r26 t27 r28 t29 r30 t31 hw hT hF c32 hl
        refine lv_aload_n hx hb dX10_layRoads_130 rfl (lv_at hl 0 rfl) ?_
        refine tk_getA hC hK hw hT hinX10 kC_at158 (by decide) rfl 3 (by decide) (List.mem_of_getElem? (i := 1) rfl) rfl rfl dX10_layRoads_131 ?_
        refine lv_iload hx hb dX10_layRoads_134 (lv_at hl 6 rfl) ?_
        refine lv_dup2_11 hx hb dX10_layRoads_136 rfl rfl ?_
        refine tk_iald hC hK hw hT kC_at160 rfl rfl (show 0 ≤ v130_6.toInt by omega) (show v130_6.toInt < 10 by omega) dX10_layRoads_137 (fun x33 c34 rx33 tx33 => ?_)
        refine lv_iconst (v := 1) hx hb dX10_layRoads_138 (by decide) ?_
        refine lv_iload hx hb dX10_layRoads_139 (lv_at hl 5 rfl) ?_
        refine lv_ishl hx hb dX10_layRoads_141 ?_
        refine lv_topi (fun x35 ex35 => ?_)
        have bx35 : 1 ≤ x35.toInt ∧ x35.toInt ≤ 512 := by rw [ex35]; exact wk_shl1 9 (by decide) (by omega) (by omega)
        refine lv_ior hx hb dX10_layRoads_142 ?_
        refine lv_topi (fun x36 ex36 => ?_)
        have bx36 : 0 ≤ x36.toInt ∧ x36.toInt < 1024 := by rw [ex36]; exact wk_or 10 (by decide) (by omega) (by omega) (by omega) (by omega)
        refine tk_iast hC hK hw hT kC_at160 (by decide) rfl rfl (show 0 ≤ v130_6.toInt by omega) (show v130_6.toInt < 10 by omega) (show 0 ≤ x36.toInt by omega) (show x36.toInt ≤ 1023 by omega) dX10_layRoads_143 (fun H locs w37 hw hT k39 c38 => ?_)
        have hF := hF.put kC_at160 (inE_of (a := 0) (b := 10) (by decide) (show 0 ≤ v130_6.toInt.toNat by omega) (show v130_6.toInt.toNat ≤ 10 by omega)) k39
        have c40 := k39.gi (Or.inl (tk_ne kC_at158 kC_at160 (by decide))) c32
        exact J144 v130_5 v130_6 1 f130_158_4 H locs ls w37 (show 0 ≤ a2.toInt by omega) (show a2.toInt ≤ 1 by omega) (show 0 ≤ v27_4.toInt by omega) (show v27_4.toInt ≤ 11 by omega) (show 0 ≤ v130_5.toInt by omega) (show v130_5.toInt ≤ 9 by omega) (show 0 ≤ v130_6.toInt by omega) (show v130_6.toInt ≤ 9 by omega) (by decide) (by decide) (show 1 ≤ f130_158_4.toInt by omega) (show f130_158_4.toInt ≤ 12 by omega)  hw hT hF c40 (lv_sub hl [0, 1, 2, 3, 4, 5, 6, 7] rfl)
      have J118 : ∀ (v118_5 : Int32) (v118_6 : Int32) (v118_7 : Int32) (f118_158_4 : Int32) (H : Heap) (locs : List Loc) (ls : Array Slot) (w41 : va_W), 0 ≤ a2.toInt → a2.toInt ≤ 1 → 0 ≤ v27_4.toInt → v27_4.toInt ≤ 11 → 0 ≤ v118_5.toInt → v118_5.toInt ≤ 9 → 0 ≤ v118_6.toInt → v118_6.toInt ≤ 9 → 0 ≤ v118_7.toInt → v118_7.toInt ≤ 1 → 1 ≤ f118_158_4.toInt → f118_158_4.toInt ≤ 12 → Wd dC dI A s.heap H locs w41 → TW ksC ad cy B qr s1 w41 → FE ksC [(51, 0, 10)] w0 w41 → gi w41 158 4 = f118_158_4 → lv_has ls 8 [(0, .ref (ad 158)), (1, .int 0), (2, .int a2), (3, .int (-1)), (4, .int v27_4), (5, .int v118_5), (6, .int v118_6), (7, .int v118_7)] → W p l e ({ frames := 1, cells := 0, slots := 0, locals := 12 }) s m (List.toArray [.ref (ad 158), .int 0, .int a2, .int (-1)]) below meth c H locs 0 0 (MQ below (va_Qv (P_X10_layRoads_4 ad cy B qr s1 a2 w0) (fun u : va_W => wpost dC dI cy A u) A) (List.toArray [.ref (ad 158), .int 0, .int a2, .int (-1)]) s 0 0 A) (F0 m 118 ls []) := by
        intro v118_5 v118_6 v118_7 f118_158_4 H locs ls w41 r42 t43 r44 t45 r46 t47 r48 t49 r50 t51 r52 t53 hw hT hF c54 hl
        refine lv_iload hx hb dX10_layRoads_118 (lv_at hl 4 rfl) ?_
        refine lv_iload_n hx hb dX10_layRoads_120 rfl (lv_at hl 1 rfl) ?_
        refine lv_icmp_lt (tgt := 130) hx hb dX10_layRoads_121 (by decide) (fun c => absurd c (fun h => absurd (show v27_4.toInt < (0 : Int) from wk_lt.mp h) (by omega))) (fun _ => ?_)
        refine lv_iload hx hb dX10_layRoads_124 (lv_at hl 7 rfl) ?_
        refine lv_iconst (v := 1) hx hb dX10_layRoads_126 (by decide) ?_
        refine lv_icmp_ne (tgt := 144) hx hb dX10_layRoads_127 (by decide) (fun c55 => ?_) (fun c55 => ?_)
        · have c55 : ¬ v118_7.toInt = (1 : Int) := wk_eqF c55
          exact J144 v118_5 v118_6 v118_7 f118_158_4 H locs ls w41 (show 0 ≤ a2.toInt by omega) (show a2.toInt ≤ 1 by omega) (show 0 ≤ v27_4.toInt by omega) (show v27_4.toInt ≤ 11 by omega) (show 0 ≤ v118_5.toInt by omega) (show v118_5.toInt ≤ 9 by omega) (show 0 ≤ v118_6.toInt by omega) (show v118_6.toInt ≤ 9 by omega) (show 0 ≤ v118_7.toInt by omega) (show v118_7.toInt ≤ 1 by omega) (show 1 ≤ f118_158_4.toInt by omega) (show f118_158_4.toInt ≤ 12 by omega)  hw hT hF c54 (lv_sub hl [0, 1, 2, 3, 4, 5, 6, 7] rfl)
        · have c55 : v118_7.toInt = (1 : Int) := wk_eq.mp c55
          obtain rfl : v118_7 = 1 := wk_eq.mpr (show v118_7.toInt = 1 by omega)
          exact J130 v118_5 v118_6 f118_158_4 H locs ls w41 (show 0 ≤ a2.toInt by omega) (show a2.toInt ≤ 1 by omega) (show 0 ≤ v27_4.toInt by omega) (show v27_4.toInt ≤ 11 by omega) (show 0 ≤ v118_5.toInt by omega) (show v118_5.toInt ≤ 9 by omega) (show 0 ≤ v118_6.toInt by omega) (show v118_6.toInt ≤ 9 by omega) (show 1 ≤ f118_158_4.toInt by omega) (show f118_158_4.toInt ≤ 12 by omega)  hw hT hF c54 (lv_sub hl [0, 1, 2, 3, 4, 5, 6, 7] rfl)
      have J104 : ∀ (v104_5 : Int32) (v104_6 : Int32) (f104_158_4 : Int32) (H : Heap) (locs : List Loc) (ls : Array Slot) (w56 : va_W), 0 ≤ a2.toInt → a2.toInt ≤ 1 → 0 ≤ v27_4.toInt → v27_4.toInt ≤ 11 → 0 ≤ v104_5.toInt → v104_5.toInt ≤ 9 → 0 ≤ v104_6.toInt → v104_6.toInt ≤ 9 → 1 ≤ f104_158_4.toInt → f104_158_4.toInt ≤ 12 → Wd dC dI A s.heap H locs w56 → TW ksC ad cy B qr s1 w56 → FE ksC [(51, 0, 10)] w0 w56 → gi w56 158 4 = f104_158_4 → lv_has ls 8 [(0, .ref (ad 158)), (1, .int 0), (2, .int a2), (3, .int (-1)), (4, .int v27_4), (5, .int v104_5), (6, .int v104_6), (7, .int 0)] → W p l e ({ frames := 1, cells := 0, slots := 0, locals := 12 }) s m (List.toArray [.ref (ad 158), .int 0, .int a2, .int (-1)]) below meth c H locs 0 0 (MQ below (va_Qv (P_X10_layRoads_4 ad cy B qr s1 a2 w0) (fun u : va_W => wpost dC dI cy A u) A) (List.toArray [.ref (ad 158), .int 0, .int a2, .int (-1)]) s 0 0 A) (F0 m 104 ls []) := by
        intro v104_5 v104_6 f104_158_4 H locs ls w56 r57 t58 r59 t60 r61 t62 r63 t64 r65 t66 hw hT hF c67 hl
        refine lv_aload_n hx hb dX10_layRoads_104 rfl (lv_at hl 0 rfl) ?_
        refine tk_getA hC hK hw hT hinX10 kC_at158 (by decide) rfl 3 (by decide) (List.mem_of_getElem? (i := 1) rfl) rfl rfl dX10_layRoads_105 ?_
        refine lv_iload hx hb dX10_layRoads_108 (lv_at hl 5 rfl) ?_
        refine lv_dup2_11 hx hb dX10_layRoads_110 rfl rfl ?_
        refine tk_iald hC hK hw hT kC_at160 rfl rfl (show 0 ≤ v104_5.toInt by omega) (show v104_5.toInt < 10 by omega) dX10_layRoads_111 (fun x68 c69 rx68 tx68 => ?_)
        refine lv_iconst (v := 1) hx hb dX10_layRoads_112 (by decide) ?_
        refine lv_iload hx hb dX10_layRoads_113 (lv_at hl 6 rfl) ?_
        refine lv_ishl hx hb dX10_layRoads_115 ?_
        refine lv_topi (fun x70 ex70 => ?_)
        have bx70 : 1 ≤ x70.toInt ∧ x70.toInt ≤ 512 := by rw [ex70]; exact wk_shl1 9 (by decide) (by omega) (by omega)
        refine lv_ior hx hb dX10_layRoads_116 ?_
        refine lv_topi (fun x71 ex71 => ?_)
        have bx71 : 0 ≤ x71.toInt ∧ x71.toInt < 1024 := by rw [ex71]; exact wk_or 10 (by decide) (by omega) (by omega) (by omega) (by omega)
        refine tk_iast hC hK hw hT kC_at160 (by decide) rfl rfl (show 0 ≤ v104_5.toInt by omega) (show v104_5.toInt < 10 by omega) (show 0 ≤ x71.toInt by omega) (show x71.toInt ≤ 1023 by omega) dX10_layRoads_117 (fun H locs w72 hw hT k74 c73 => ?_)
        have hF := hF.put kC_at160 (inE_of (a := 0) (b := 10) (by decide) (show 0 ≤ v104_5.toInt.toNat by omega) (show v104_5.toInt.toNat ≤ 10 by omega)) k74
        have c75 := k74.gi (Or.inl (tk_ne kC_at158 kC_at160 (by decide))) c67
        exact J118 v104_5 v104_6 0 f104_158_4 H locs ls w72 (show 0 ≤ a2.toInt by omega) (show a2.toInt ≤ 1 by omega) (show 0 ≤ v27_4.toInt by omega) (show v27_4.toInt ≤ 11 by omega) (show 0 ≤ v104_5.toInt by omega) (show v104_5.toInt ≤ 9 by omega) (show 0 ≤ v104_6.toInt by omega) (show v104_6.toInt ≤ 9 by omega) (by decide) (by decide) (show 1 ≤ f104_158_4.toInt by omega) (show f104_158_4.toInt ≤ 12 by omega)  hw hT hF c75 (lv_sub hl [0, 1, 2, 3, 4, 5, 6, 7] rfl)
      refine lv_iload hx hb dX10_layRoads_27 (lv_at hl 4 rfl) ?_
      refine lv_aload_n hx hb dX10_layRoads_29 rfl (lv_at hl 0 rfl) ?_
      refine tk_geti hC hK hw hT hinX10 kC_at158 (by decide) rfl 4 (by decide) (List.mem_of_getElem? (i := 2) rfl) rfl rfl dX10_layRoads_30 (fun x76 c77 rx76 tx76 => ?_)
      refine lv_icmp_ge (tgt := 150) hx hb dX10_layRoads_33 (by decide) (fun c78 => ?_) (fun c78 => ?_)
      · have c78 : x76.toInt ≤ v27_4.toInt := wk_le.mp c78
        exact tk_vret hC hr hlocks hK ⟨hT, hF, trivial⟩ hw dX10_layRoads_150
      · have c78 : v27_4.toInt < x76.toInt := wk_leF c78
        refine lv_iload hx hb dX10_layRoads_36 (lv_at hl 4 rfl) ?_
        refine lv_iload_n hx hb dX10_layRoads_38 rfl (lv_at hl 3 rfl) ?_
        refine lv_icmp_ne (tgt := 45) hx hb dX10_layRoads_39 (by decide) (fun _ => ?_) (fun c => absurd (show v27_4.toInt = (-1 : Int) from wk_eq.mp c) (by omega))
        refine lv_aload_n hx hb dX10_layRoads_45 rfl (lv_at hl 0 rfl) ?_
        refine tk_getA hC hK hw hT hinX10 kC_at158 (by decide) rfl 1 (by decide) (List.mem_of_getElem? (i := 3) rfl) rfl rfl dX10_layRoads_46 ?_
        refine tk_getO hC hK hw hT hinX7 kC_at39 (by decide) rfl 0 (by decide) (List.mem_of_getElem? (i := 4) rfl) rfl rfl dX10_layRoads_49 ?_
        refine lv_iconst (v := 2) hx hb dX10_layRoads_52 (by decide) ?_
        refine lv_aload_n hx hb dX10_layRoads_53 rfl (lv_at hl 0 rfl) ?_
        refine tk_getA hC hK hw hT hinX10 kC_at158 (by decide) rfl 2 (by decide) (List.mem_of_getElem? (i := 5) rfl) rfl rfl dX10_layRoads_54 ?_
        refine lv_iload hx hb dX10_layRoads_57 (lv_at hl 4 rfl) ?_
        refine tk_iald hC hK hw hT kC_at159 rfl rfl (show 0 ≤ v27_4.toInt by omega) (show v27_4.toInt < 12 by omega) dX10_layRoads_59 (fun x79 c80 rx79 tx79 => ?_)
        refine lv_imul hx hb dX10_layRoads_60 ?_
        refine lv_topi (fun x81 ex81 => ?_)
        have ex81 : x81.toInt = (2 : Int) * x79.toInt := by rw [ex81]; exact wk_mul (show (-2147483648) ≤ (2 : Int) * x79.toInt by omega) (show (2 : Int) * x79.toInt ≤ 2147483647 by omega)
        refine tk_iald hC hK hw hT kC_at40 rfl rfl (show 0 ≤ x81.toInt by omega) (show x81.toInt < 26 by omega) dX10_layRoads_61 (fun x82 c83 rx82 tx82 => ?_)
        refine lv_istore (lv' := [(5, .int x82), (0, .ref (ad 158)), (1, .int 0), (2, .int a2), (3, .int (-1)), (4, .int v27_4)]) hx hb dX10_layRoads_62 hl (by decide) rfl (fun ls hl => ?_)
        refine lv_aload_n hx hb dX10_layRoads_64 rfl (lv_at hl 1 rfl) ?_
        refine tk_getA hC hK hw hT hinX10 kC_at158 (by decide) rfl 1 (by decide) (List.mem_of_getElem? (i := 3) rfl) rfl rfl dX10_layRoads_65 ?_
        refine tk_getO hC hK hw hT hinX7 kC_at39 (by decide) rfl 0 (by decide) (List.mem_of_getElem? (i := 4) rfl) rfl rfl dX10_layRoads_68 ?_
        refine lv_iconst (v := 2) hx hb dX10_layRoads_71 (by decide) ?_
        refine lv_aload_n hx hb dX10_layRoads_72 rfl (lv_at hl 1 rfl) ?_
        refine tk_getA hC hK hw hT hinX10 kC_at158 (by decide) rfl 2 (by decide) (List.mem_of_getElem? (i := 5) rfl) rfl rfl dX10_layRoads_73 ?_
        refine lv_iload hx hb dX10_layRoads_76 (lv_at hl 5 rfl) ?_
        refine tk_iald hC hK hw hT kC_at159 rfl rfl (show 0 ≤ v27_4.toInt by omega) (show v27_4.toInt < 12 by omega) dX10_layRoads_78 (fun x84 c85 rx84 tx84 => ?_)
        refine lv_imul hx hb dX10_layRoads_79 ?_
        refine lv_topi (fun x86 ex86 => ?_)
        have ex86 : x86.toInt = (2 : Int) * x84.toInt := by rw [ex86]; exact wk_mul (show (-2147483648) ≤ (2 : Int) * x84.toInt by omega) (show (2 : Int) * x84.toInt ≤ 2147483647 by omega)
        refine lv_iconst (v := 1) hx hb dX10_layRoads_80 (by decide) ?_
        refine lv_iadd hx hb dX10_layRoads_81 ?_
        refine lv_topi (fun x87 ex87 => ?_)
        have ex87 : x87.toInt = x86.toInt + (1 : Int) := by rw [ex87]; exact wk_add (show (-2147483648) ≤ x86.toInt + (1 : Int) by omega) (show x86.toInt + (1 : Int) ≤ 2147483647 by omega)
        refine tk_iald hC hK hw hT kC_at40 rfl rfl (show 0 ≤ x87.toInt by omega) (show x87.toInt < 26 by omega) dX10_layRoads_82 (fun x88 c89 rx88 tx88 => ?_)
        refine lv_istore (lv' := [(6, .int x88), (5, .int x82), (0, .ref (ad 158)), (1, .int 0), (2, .int a2), (3, .int (-1)), (4, .int v27_4)]) hx hb dX10_layRoads_83 hl (by decide) rfl (fun ls hl => ?_)
        refine lv_iload_n hx hb dX10_layRoads_85 rfl (lv_at hl 4 rfl) ?_
        refine lv_iload hx hb dX10_layRoads_86 (lv_at hl 6 rfl) ?_
        refine lv_ishr hx hb dX10_layRoads_88 ?_
        refine lv_topi (fun x90 ex90 => ?_)
        have bx90 : 0 ≤ x90.toInt ∧ x90.toInt ≤ a2.toInt := by rw [ex90]; exact wk_shr (by omega)
        refine lv_iconst (v := 1) hx hb dX10_layRoads_89 (by decide) ?_
        refine lv_iand hx hb dX10_layRoads_90 ?_
        refine lv_topi (fun x91 ex91 => ?_)
        have bx91 : 0 ≤ x91.toInt ∧ x91.toInt ≤ (1 : Int) := by rw [ex91]; exact wk_and (by decide)
        refine lv_istore (lv' := [(7, .int x91), (6, .int x88), (5, .int x82), (0, .ref (ad 158)), (1, .int 0), (2, .int a2), (3, .int (-1)), (4, .int v27_4)]) hx hb dX10_layRoads_91 hl (by decide) rfl (fun ls hl => ?_)
        refine lv_iload hx hb dX10_layRoads_93 (lv_at hl 7 rfl) ?_
        refine lv_iload_n hx hb dX10_layRoads_95 rfl (lv_at hl 4 rfl) ?_
        refine lv_icmp_lt (tgt := 104) hx hb dX10_layRoads_96 (by decide) (fun c => absurd c (fun h => absurd (show v27_4.toInt < (0 : Int) from wk_lt.mp h) (by omega))) (fun _ => ?_)
        refine lv_iload hx hb dX10_layRoads_99 (lv_at hl 0 rfl) ?_
        refine lv_if_ne (tgt := 118) hx hb dX10_layRoads_101 (by decide) (fun c92 => ?_) (fun c92 => ?_)
        · have c92 : ¬ x91.toInt = (0 : Int) := wk_eqF c92
          exact J118 x82 x88 x91 x76 H locs ls w1 (show 0 ≤ a2.toInt by omega) (show a2.toInt ≤ 1 by omega) (show 0 ≤ v27_4.toInt by omega) (show v27_4.toInt ≤ 11 by omega) (show 0 ≤ x82.toInt by omega) (show x82.toInt ≤ 9 by omega) (show 0 ≤ x88.toInt by omega) (show x88.toInt ≤ 9 by omega) (show 0 ≤ x91.toInt by omega) (show x91.toInt ≤ 1 by omega) (show 1 ≤ x76.toInt by omega) (show x76.toInt ≤ 12 by omega)  hw hT hF c77 (lv_sub hl [3, 4, 5, 6, 7, 2, 1, 0] rfl)
        · have c92 : x91.toInt = (0 : Int) := wk_eq.mp c92
          obtain rfl : x91 = 0 := wk_eq.mpr (show x91.toInt = 0 by omega)
          exact J104 x82 x88 x76 H locs ls w1 (show 0 ≤ a2.toInt by omega) (show a2.toInt ≤ 1 by omega) (show 0 ≤ v27_4.toInt by omega) (show v27_4.toInt ≤ 11 by omega) (show 0 ≤ x82.toInt by omega) (show x82.toInt ≤ 9 by omega) (show 0 ≤ x88.toInt by omega) (show x88.toInt ≤ 9 by omega) (show 1 ≤ x76.toInt by omega) (show x76.toInt ≤ 12 by omega)  hw hT hF c77 (lv_sub hl [3, 4, 5, 6, 7, 2, 1, 0] rfl)
  have L3 : ∀ (n3 : Nat) (v3_4 : Int32) (H : Heap) (locs : List Loc) (ls : Array Slot) (w93 : va_W), 0 ≤ a2.toInt → a2.toInt ≤ 1 → 0 ≤ v3_4.toInt → v3_4.toInt ≤ 10 → (10 - v3_4.toInt).toNat < n3 → Wd dC dI A s.heap H locs w93 → TW ksC ad cy B qr s1 w93 → FE ksC [(51, 0, 10)] w0 w93 → lv_has ls 8 [(0, .ref (ad 158)), (1, .int 0), (2, .int a2), (3, .int (-1)), (4, .int v3_4)] → W p l e ({ frames := 1, cells := 0, slots := 0, locals := 12 }) s m (List.toArray [.ref (ad 158), .int 0, .int a2, .int (-1)]) below meth c H locs 0 0 (MQ below (va_Qv (P_X10_layRoads_4 ad cy B qr s1 a2 w0) (fun u : va_W => wpost dC dI cy A u) A) (List.toArray [.ref (ad 158), .int 0, .int a2, .int (-1)]) s 0 0 A) (F0 m 3 ls []) := by
    intro n3
    induction n3 with
    | zero => intro v3_4 H locs ls w93 r94 t95 r96 t97 hm3 hw hT hF hl; omega
    | succ n3 ih3 =>
      intro v3_4 H locs ls w93 r94 t95 r96 t97 hm3 hw hT hF hl
      refine lv_iload hx hb dX10_layRoads_3 (lv_at hl 4 rfl) ?_
      refine lv_bipush (v := 10) hx hb dX10_layRoads_5 (by decide) ?_
      refine lv_icmp_ge (tgt := 24) hx hb dX10_layRoads_7 (by decide) (fun c98 => ?_) (fun c98 => ?_)
      · have c98 : (10 : Int) ≤ v3_4.toInt := wk_le.mp c98
        refine lv_iconst (v := 0) hx hb dX10_layRoads_24 (by decide) ?_
        refine lv_istore (lv' := [(4, .int 0), (0, .ref (ad 158)), (1, .int 0), (2, .int a2), (3, .int (-1))]) hx hb dX10_layRoads_25 hl (by decide) rfl (fun ls hl => ?_)
        exact L27 ((12 - (0 : Int)).toNat + 1) 0 H locs ls w93 (show 0 ≤ a2.toInt by omega) (show a2.toInt ≤ 1 by omega) (by decide) (by decide) (Nat.lt_succ_self _) hw hT hF  (lv_sub hl [1, 2, 3, 4, 0] rfl)
      · have c98 : v3_4.toInt < (10 : Int) := wk_leF c98
        refine lv_aload_n hx hb dX10_layRoads_10 rfl (lv_at hl 0 rfl) ?_
        refine tk_getA hC hK hw hT hinX10 kC_at158 (by decide) rfl 3 (by decide) (List.mem_of_getElem? (i := 1) rfl) rfl rfl dX10_layRoads_11 ?_
        refine lv_iload hx hb dX10_layRoads_14 (lv_at hl 4 rfl) ?_
        refine lv_iconst (v := 0) hx hb dX10_layRoads_16 (by decide) ?_
        refine tk_iast hC hK hw hT kC_at160 (by decide) rfl rfl (show 0 ≤ v3_4.toInt by omega) (show v3_4.toInt < 10 by omega) (by decide) (by decide) dX10_layRoads_17 (fun H locs w99 hw hT k101 c100 => ?_)
        have hF := hF.put kC_at160 (inE_of (a := 0) (b := 10) (by decide) (show 0 ≤ v3_4.toInt.toNat by omega) (show v3_4.toInt.toNat ≤ 10 by omega)) k101
        obtain ⟨x102, ex102⟩ : ∃ y : Int32, y = v3_4 + Int32.ofInt 1 := ⟨_, rfl⟩
        refine lv_iinc (v := x102) (lv' := [(4, .int x102), (0, .ref (ad 158)), (1, .int 0), (2, .int a2), (3, .int (-1))]) hx hb dX10_layRoads_18 hl (k := 4) rfl ex102.symm (by decide) rfl (fun ls hl => ?_)
        have ex102 : x102.toInt = v3_4.toInt + 1 := by rw [ex102]; exact wk_add (y := 1) (show -2147483648 ≤ v3_4.toInt + 1 by omega) (show v3_4.toInt + 1 ≤ 2147483647 by omega)
        refine lv_goto (tgt := 3) hx hb dX10_layRoads_21 (by decide) ?_
        exact ih3 x102 H locs ls w99 (show 0 ≤ a2.toInt by omega) (show a2.toInt ≤ 1 by omega) (show 0 ≤ x102.toInt by omega) (show x102.toInt ≤ 10 by omega) (show (10 - x102.toInt).toNat < n3 by omega) hw hT hF  (lv_sub hl [1, 2, 3, 4, 0] rfl)
  refine lv_iconst (v := 0) hx hb dX10_layRoads_0 (by decide) ?_
  refine lv_istore (lv' := [(4, .int 0), (0, .ref (ad 158)), (1, .int 0), (2, .int a2), (3, .int (-1))]) hx hb dX10_layRoads_1 hl (by decide) rfl (fun ls hl => ?_)
  exact L3 ((10 - (0 : Int)).toNat + 1) 0 s.heap locs ls w0 (show 0 ≤ a2.toInt by omega) (show a2.toInt ≤ 1 by omega) (by decide) (by decide) (Nat.lt_succ_self _) hw hT hF  (lv_sub hl [1, 2, 3, 4, 0] rfl)
abbrev P_X10_leastBelow_14 (ad : Nat → Nat) (cy : Nat → ClassId) (B : Int) (qr : Nat) (s1 : Int) (a2 : Int32) (w0 : va_W) : Int32 → va_W → Prop := fun r u => TW ksC ad cy B qr s1 u ∧ FE ksC [(51, 0, 10)] w0 u ∧ ((0 ≤ r.toInt ∧ r.toInt ≤ 1) ∨ (r = (-1) ∧ (∃ y : Int32, gi u 38 10 = y ∧ 1 ≤ y.toInt ∧ y.toInt ≤ 6)))
set_option maxHeartbeats 4000000 in
set_option maxRecDepth 100000 in
theorem k_X10_leastBelow_14 (l : Launch) (adK adV : Nat → Nat) (dC : Nat → ClassId) (dI : Nat → Nat → Nat) (cy : Nat → ClassId) (ad : Nat → Nat) (B : Int) (hB0 : 2147483648 ≤ B) (hB1 : B ≤ 1152921504606846976) (qr : Nat) (s1 : Int)  (a2 : Int32) (ra2 : 0 ≤ a2.toInt) (ta2 : a2.toInt ≤ 1) (w0 : va_W) (sz : Nat) (hT : TW ksC ad cy B qr s1 w0)  : Met l yX10_leastBelow wsX10_leastBelow ({ frames := 3, cells := 0, slots := 0, locals := 59 }) (va_Pc [.ref (ad 158), .int 0, .int a2] (wpreS adK adV dC dI cy sz w0)) (va_Qi (P_X10_leastBelow_14 ad cy B qr s1 a2 w0) (fun u : va_W => wpost dC dI cy (va_A w0 sz) u) (va_A w0 sz)) 0 0 (va_A w0 sz) := by
  refine Met.ofW (cc := cX10_leastBelow) (maxL := 4) (ret := (some .int)) (by decide) rfl ?_
  intro p e s m args below meth c s₁ Bk hml hv
  obtain ⟨rfl, ⟨hsz, hP, hK, hD0⟩, hE, hSR⟩ := hv
  have hx := Bk.exec
  have hb := Bk.bytes
  have hr := Bk.returns
  have hlocks := Bk.notSynchronized
  have hC : CallFix p m c cX10_leastBelow 4 s _ wsX10_leastBelow RX10 := ⟨hx, hb, hml, findClass_of_methodNamed Bk.named, atoms_spec (ws := wsX10_leastBelow) Bk.pre⟩
  subst hsz
  have hD := hD0.self (sz := s.heap.size)
  generalize hAe : va_A w0 s.heap.size = A at hD hE ⊢
  have hA : ∀ q : Nat, s.heap.size ≤ q → A q := fun q h => by rw [← hAe]; exact Or.inr h
  have hw : Wd dC dI A s.heap s.heap [] w0 := ⟨hP, hD, va_S.rf⟩
  have hF : FE ksC [(51, 0, 10)] w0 w0 := FE.rf
  have hl := lv_entry ([.ref (ad 158), .int 0, .int a2]) (n := 4) (Nat.le_of_ble_eq_true rfl)
  rw [lg_entry_eq]
  generalize (lg_sl ([.ref (ad 158), .int 0, .int a2]) ++ List.replicate (4 - (lg_sl ([.ref (ad 158), .int 0, .int a2])).length) Slot.unset).toArray = ls at hl ⊢
  have hl : lv_has ls 4 [(0, .ref (ad 158)), (1, .int 0), (2, .int a2)] := hl
  generalize hloc : ([] : List Loc) = locs at hw ⊢
  have hinX10 : ∀ w ∈ u_ws RX10 TX10 5, w ∈ wsX10_leastBelow := fun _ h => List.mem_cons_of_mem _ (List.mem_append_left _ (List.mem_append_left _ (List.mem_append_right _ (h))))
  have hinX5 : ∀ w ∈ u_ws RX5 TX5 14, w ∈ wsX10_leastBelow := fun _ h => List.mem_cons_of_mem _ (List.mem_append_left _ (List.mem_append_right _ (h)))
  have L9 : ∀ (n9 : Nat) (v9_3 : Int32) (H : Heap) (locs : List Loc) (ls : Array Slot) (w1 : va_W), 0 ≤ a2.toInt → a2.toInt ≤ 1 → 0 ≤ v9_3.toInt → v9_3.toInt ≤ 6 → (6 - v9_3.toInt).toNat < n9 → Wd dC dI A s.heap H locs w1 → TW ksC ad cy B qr s1 w1 → FE ksC [(51, 0, 10)] w0 w1 → lv_has ls 4 [(0, .ref (ad 158)), (1, .int 0), (2, .int a2), (3, .int v9_3)] → W p l e ({ frames := 3, cells := 0, slots := 0, locals := 59 }) s m (List.toArray [.ref (ad 158), .int 0, .int a2]) below meth c H locs 0 0 (MQ below (va_Qi (P_X10_leastBelow_14 ad cy B qr s1 a2 w0) (fun u : va_W => wpost dC dI cy A u) A) (List.toArray [.ref (ad 158), .int 0, .int a2]) s 0 0 A) (F0 m 9 ls []) := by
    intro n9
    induction n9 with
    | zero => intro v9_3 H locs ls w1 r2 t3 r4 t5 hm9 hw hT hF hl; omega
    | succ n9 ih9 =>
      intro v9_3 H locs ls w1 r2 t3 r4 t5 hm9 hw hT hF hl
      refine lv_iload_n hx hb dX10_leastBelow_9 rfl (lv_at hl 3 rfl) ?_
      refine lv_aload_n hx hb dX10_leastBelow_10 rfl (lv_at hl 0 rfl) ?_
      refine tk_getA hC hK hw hT hinX10 kC_at158 (by decide) rfl 0 (by decide) (List.mem_of_getElem? (i := 1) rfl) rfl rfl dX10_leastBelow_11 ?_
      refine tk_geti hC hK hw hT hinX5 kC_at38 (by decide) rfl 10 (by decide) (List.mem_of_getElem? (i := 2) rfl) rfl rfl dX10_leastBelow_14 (fun x6 c7 rx6 tx6 => ?_)
      refine lv_icmp_ge (tgt := 36) hx hb dX10_leastBelow_17 (by decide) (fun c8 => ?_) (fun c8 => ?_)
      · have c8 : x6.toInt ≤ v9_3.toInt := wk_le.mp c8
        refine lv_iload_n hx hb dX10_leastBelow_36 rfl (lv_at hl 1 rfl) ?_
        refine lv_if_gt (tgt := 42) hx hb dX10_leastBelow_37 (by decide) (fun c => absurd c (by decide)) (fun _ => ?_)
        refine lv_iload_n hx hb dX10_leastBelow_40 rfl (lv_at hl 2 rfl) ?_
        exact tk_iret hC hr hlocks hK ⟨hT, hF, (Or.inl ⟨(show 0 ≤ a2.toInt by omega), (show a2.toInt ≤ 1 by omega)⟩)⟩ hw dX10_leastBelow_41
      · have c8 : v9_3.toInt < x6.toInt := wk_leF c8
        refine lv_aload_n hx hb dX10_leastBelow_20 rfl (lv_at hl 0 rfl) ?_
        refine lv_iload_n hx hb dX10_leastBelow_21 rfl (lv_at hl 3 rfl) ?_
        refine tk_Vi hC hK hw hT hA hE hSR kC_at158 (by decide) rfl (k_X10_canDo_1 l adK adV dC dI cy ad B (by omega) (by omega) qr s1   v9_3 (show 0 ≤ v9_3.toInt by omega) (show v9_3.toInt ≤ 5 by omega) w1 H.size hT ) (cwV 1 hC.2.2.2.2 gX10_leastBelow_X10_canDo rfl rfl rfl (by decide +kernel) ⟨Nat.le_of_ble_eq_true rfl, Nat.le_of_ble_eq_true rfl⟩) rfl hl.1 rfl (Nat.le_of_ble_eq_true rfl) dX10_leastBelow_22 (fun r9 w11 H locs hp10 hw => ?_)
        obtain ⟨hT, k12, hg13⟩ := hp10
        have hF := hF.tr k12 (by decide)
        have c14 := k12.gi kC_at38 (by decide) c7
        rcases hg13 with rfl | rfl
        · refine lv_if_ne (tgt := 30) hx hb dX10_leastBelow_25 (by decide) (fun c => absurd (by decide) c) (fun _ => ?_)
          refine lv_iconst (v := (-1)) hx hb dX10_leastBelow_28 (by decide) ?_
          exact tk_iret hC hr hlocks hK ⟨hT, hF, (Or.inr ⟨rfl, ⟨x6, c14, (show 1 ≤ x6.toInt by omega), (show x6.toInt ≤ 6 by omega)⟩⟩)⟩ hw dX10_leastBelow_29
        · refine lv_if_ne (tgt := 30) hx hb dX10_leastBelow_25 (by decide) (fun _ => ?_) (fun c => absurd c (by decide))
          obtain ⟨x15, ex15⟩ : ∃ y : Int32, y = v9_3 + Int32.ofInt 1 := ⟨_, rfl⟩
          refine lv_iinc (v := x15) (lv' := [(3, .int x15), (0, .ref (ad 158)), (1, .int 0), (2, .int a2)]) hx hb dX10_leastBelow_30 hl (k := 3) rfl ex15.symm (by decide) rfl (fun ls hl => ?_)
          have ex15 : x15.toInt = v9_3.toInt + 1 := by rw [ex15]; exact wk_add (y := 1) (show -2147483648 ≤ v9_3.toInt + 1 by omega) (show v9_3.toInt + 1 ≤ 2147483647 by omega)
          refine lv_goto (tgt := 9) hx hb dX10_leastBelow_33 (by decide) ?_
          exact ih9 x15 H locs ls w11 (show 0 ≤ a2.toInt by omega) (show a2.toInt ≤ 1 by omega) (show 0 ≤ x15.toInt by omega) (show x15.toInt ≤ 6 by omega) (show (6 - x15.toInt).toNat < n9 by omega) hw hT hF  (lv_sub hl [1, 2, 3, 0] rfl)
  refine lv_aload_n hx hb dX10_leastBelow_0 rfl (lv_at hl 0 rfl) ?_
  refine lv_iload_n hx hb dX10_leastBelow_1 rfl (lv_at hl 1 rfl) ?_
  refine lv_iload_n hx hb dX10_leastBelow_2 rfl (lv_at hl 2 rfl) ?_
  refine lv_iconst (v := (-1)) hx hb dX10_leastBelow_3 (by decide) ?_
  refine tk_Vv hC hK hw hT hA hE hSR kC_at158 (by decide) rfl (k_X10_layRoads_4 l adK adV dC dI cy ad B (by omega) (by omega) qr s1   a2 (show 0 ≤ a2.toInt by omega) (show a2.toInt ≤ 1 by omega) w0 s.heap.size hT ) (cwV 3 hC.2.2.2.2 gX10_leastBelow_X10_layRoads rfl rfl rfl (by decide +kernel) ⟨Nat.le_of_ble_eq_true rfl, Nat.le_of_ble_eq_true rfl⟩) rfl hl.1 rfl (Nat.le_of_ble_eq_true rfl) dX10_leastBelow_4 (fun w18 H locs hp17 hw => ?_)
  obtain ⟨hT, k19, hg20⟩ := hp17
  have hF := hF.tr k19 (by decide)
  clear hg20
  refine lv_iconst (v := 0) hx hb dX10_leastBelow_7 (by decide) ?_
  refine lv_istore_n (lv' := [(3, .int 0), (0, .ref (ad 158)), (1, .int 0), (2, .int a2)]) hx hb dX10_leastBelow_8 rfl hl (by decide) rfl (fun ls hl => ?_)
  exact L9 ((6 - (0 : Int)).toNat + 1) 0 H locs ls w18 (show 0 ≤ a2.toInt by omega) (show a2.toInt ≤ 1 by omega) (by decide) (by decide) (Nat.lt_succ_self _) hw hT hF  (lv_sub hl [1, 2, 3, 0] rfl)
abbrev P_X10_layRoads_5 (ad : Nat → Nat) (cy : Nat → ClassId) (B : Int) (qr : Nat) (s1 : Int) (a1 : Int32) (w0 : va_W) : va_W → Prop := fun u => TW ksC ad cy B qr s1 u ∧ FE ksC [(51, 0, 10)] w0 u ∧ ((True))
set_option maxHeartbeats 4000000 in
set_option maxRecDepth 100000 in
theorem k_X10_layRoads_5 (l : Launch) (adK adV : Nat → Nat) (dC : Nat → ClassId) (dI : Nat → Nat → Nat) (cy : Nat → ClassId) (ad : Nat → Nat) (B : Int) (hB0 : 2147483648 ≤ B) (hB1 : B ≤ 1152921504606846976) (qr : Nat) (s1 : Int)  (a1 : Int32) (ra1 : 0 ≤ a1.toInt) (ta1 : a1.toInt ≤ 1) (w0 : va_W) (sz : Nat) (hT : TW ksC ad cy B qr s1 w0)  : Met l yX10_layRoads wsX10_layRoads ({ frames := 1, cells := 0, slots := 0, locals := 12 }) (va_Pc [.ref (ad 158), .int a1, .int 0, .int (-1)] (wpreS adK adV dC dI cy sz w0)) (va_Qv (P_X10_layRoads_5 ad cy B qr s1 a1 w0) (fun u : va_W => wpost dC dI cy (va_A w0 sz) u) (va_A w0 sz)) 0 0 (va_A w0 sz) := by
  refine Met.ofW (cc := cX10_layRoads) (maxL := 8) (ret := none) (by decide) rfl ?_
  intro p e s m args below meth c s₁ Bk hml hv
  obtain ⟨rfl, ⟨hsz, hP, hK, hD0⟩, hE, hSR⟩ := hv
  have hx := Bk.exec
  have hb := Bk.bytes
  have hr := Bk.returns
  have hlocks := Bk.notSynchronized
  have hC : CallFix p m c cX10_layRoads 8 s _ wsX10_layRoads RX10 := ⟨hx, hb, hml, findClass_of_methodNamed Bk.named, atoms_spec (ws := wsX10_layRoads) Bk.pre⟩
  subst hsz
  have hD := hD0.self (sz := s.heap.size)
  generalize hAe : va_A w0 s.heap.size = A at hD hE ⊢
  have hA : ∀ q : Nat, s.heap.size ≤ q → A q := fun q h => by rw [← hAe]; exact Or.inr h
  have hw : Wd dC dI A s.heap s.heap [] w0 := ⟨hP, hD, va_S.rf⟩
  have hF : FE ksC [(51, 0, 10)] w0 w0 := FE.rf
  have hl := lv_entry ([.ref (ad 158), .int a1, .int 0, .int (-1)]) (n := 8) (Nat.le_of_ble_eq_true rfl)
  rw [lg_entry_eq]
  generalize (lg_sl ([.ref (ad 158), .int a1, .int 0, .int (-1)]) ++ List.replicate (8 - (lg_sl ([.ref (ad 158), .int a1, .int 0, .int (-1)])).length) Slot.unset).toArray = ls at hl ⊢
  have hl : lv_has ls 8 [(0, .ref (ad 158)), (1, .int a1), (2, .int 0), (3, .int (-1))] := hl
  generalize hloc : ([] : List Loc) = locs at hw ⊢
  have hinX10 : ∀ w ∈ u_ws RX10 TX10 5, w ∈ wsX10_layRoads := fun _ h => List.mem_cons_of_mem _ (List.mem_append_left _ (List.mem_append_right _ (h)))
  have hinX7 : ∀ w ∈ u_ws RX7 TX7 12, w ∈ wsX10_layRoads := fun _ h => List.mem_cons_of_mem _ (List.mem_append_right _ (h))
  have L27 : ∀ (n27 : Nat) (v27_4 : Int32) (H : Heap) (locs : List Loc) (ls : Array Slot) (w1 : va_W), 0 ≤ a1.toInt → a1.toInt ≤ 1 → 0 ≤ v27_4.toInt → v27_4.toInt ≤ 12 → (12 - v27_4.toInt).toNat < n27 → Wd dC dI A s.heap H locs w1 → TW ksC ad cy B qr s1 w1 → FE ksC [(51, 0, 10)] w0 w1 → lv_has ls 8 [(0, .ref (ad 158)), (1, .int a1), (2, .int 0), (3, .int (-1)), (4, .int v27_4)] → W p l e ({ frames := 1, cells := 0, slots := 0, locals := 12 }) s m (List.toArray [.ref (ad 158), .int a1, .int 0, .int (-1)]) below meth c H locs 0 0 (MQ below (va_Qv (P_X10_layRoads_5 ad cy B qr s1 a1 w0) (fun u : va_W => wpost dC dI cy A u) A) (List.toArray [.ref (ad 158), .int a1, .int 0, .int (-1)]) s 0 0 A) (F0 m 27 ls []) := by
    intro n27
    induction n27 with
    | zero => intro v27_4 H locs ls w1 r2 t3 r4 t5 hm27 hw hT hF hl; omega
    | succ n27 ih27 =>
      intro v27_4 H locs ls w1 r2 t3 r4 t5 hm27 hw hT hF hl
      have J144 : ∀ (v144_5 : Int32) (v144_6 : Int32) (v144_7 : Int32) (f144_158_4 : Int32) (H : Heap) (locs : List Loc) (ls : Array Slot) (w6 : va_W), 0 ≤ a1.toInt → a1.toInt ≤ 1 → 0 ≤ v27_4.toInt → v27_4.toInt ≤ 11 → 0 ≤ v144_5.toInt → v144_5.toInt ≤ 9 → 0 ≤ v144_6.toInt → v144_6.toInt ≤ 9 → 0 ≤ v144_7.toInt → v144_7.toInt ≤ 1 → 1 ≤ f144_158_4.toInt → f144_158_4.toInt ≤ 12 → Wd dC dI A s.heap H locs w6 → TW ksC ad cy B qr s1 w6 → FE ksC [(51, 0, 10)] w0 w6 → gi w6 158 4 = f144_158_4 → lv_has ls 8 [(0, .ref (ad 158)), (1, .int a1), (2, .int 0), (3, .int (-1)), (4, .int v27_4), (5, .int v144_5), (6, .int v144_6), (7, .int v144_7)] → W p l e ({ frames := 1, cells := 0, slots := 0, locals := 12 }) s m (List.toArray [.ref (ad 158), .int a1, .int 0, .int (-1)]) below meth c H locs 0 0 (MQ below (va_Qv (P_X10_layRoads_5 ad cy B qr s1 a1 w0) (fun u : va_W => wpost dC dI cy A u) A) (List.toArray [.ref (ad 158), .int a1, .int 0, .int (-1)]) s 0 0 A) (F0 m 144 ls []) := by
        intro v144_5 v144_6 v144_7 f144_158_4 H locs ls w6 r7 t8 r9 t10 r11 t12 r13 t14 r15 t16 r17 t18 hw hT hF c19 hl
        obtain ⟨x20, ex20⟩ : ∃ y : Int32, y = v27_4 + Int32.ofInt 1 := ⟨_, rfl⟩
        refine lv_iinc (v := x20) (lv' := [(4, .int x20), (0, .ref (ad 158)), (1, .int a1), (2, .int 0), (3, .int (-1)), (5, .int v144_5), (6, .int v144_6), (7, .int v144_7)]) hx hb dX10_layRoads_144 hl (k := 4) rfl ex20.symm (by decide) rfl (fun ls hl => ?_)
        have ex20 : x20.toInt = v27_4.toInt + 1 := by rw [ex20]; exact wk_add (y := 1) (show -2147483648 ≤ v27_4.toInt + 1 by omega) (show v27_4.toInt + 1 ≤ 2147483647 by omega)
        refine lv_goto (tgt := 27) hx hb dX10_layRoads_147 (by decide) ?_
        exact ih27 x20 H locs ls w6 (show 0 ≤ a1.toInt by omega) (show a1.toInt ≤ 1 by omega) (show 0 ≤ x20.toInt by omega) (show x20.toInt ≤ 12 by omega) (show (12 - x20.toInt).toNat < n27 by omega) hw hT hF  (lv_sub hl [1, 2, 3, 4, 0] rfl)
      have J130 : ∀ (v130_5 : Int32) (v130_6 : Int32) (v130_7 : Int32) (f130_158_4 : Int32) (H : Heap) (locs : List Loc) (ls : Array Slot) (w21 : va_W), 0 ≤ a1.toInt → a1.toInt ≤ 1 → 0 ≤ v27_4.toInt → v27_4.toInt ≤ 11 → 0 ≤ v130_5.toInt → v130_5.toInt ≤ 9 → 0 ≤ v130_6.toInt → v130_6.toInt ≤ 9 → 0 ≤ v130_7.toInt → v130_7.toInt ≤ 1 → 1 ≤ f130_158_4.toInt → f130_158_4.toInt ≤ 12 → Wd dC dI A s.heap H locs w21 → TW ksC ad cy B qr s1 w21 → FE ksC [(51, 0, 10)] w0 w21 → gi w21 158 4 = f130_158_4 → lv_has ls 8 [(0, .ref (ad 158)), (1, .int a1), (2, .int 0), (3, .int (-1)), (4, .int v27_4), (5, .int v130_5), (6, .int v130_6), (7, .int v130_7)] → W p l e ({ frames := 1, cells := 0, slots := 0, locals := 12 }) s m (List.toArray [.ref (ad 158), .int a1, .int 0, .int (-1)]) below meth c H locs 0 0 (MQ below (va_Qv (P_X10_layRoads_5 ad cy B qr s1 a1 w0) (fun u : va_W => wpost dC dI cy A u) A) (List.toArray [.ref (ad 158), .int a1, .int 0, .int (-1)]) s 0 0 A) (F0 m 130 ls []) := by
        intro v130_5 v130_6 v130_7 f130_158_4 H locs ls w21 r22 t23 r24 t25 r26 t27 r28 t29 r30 t31 r32 t33 hw hT hF c34 hl
        refine lv_aload_n hx hb dX10_layRoads_130 rfl (lv_at hl 0 rfl) ?_
        refine tk_getA hC hK hw hT hinX10 kC_at158 (by decide) rfl 3 (by decide) (List.mem_of_getElem? (i := 1) rfl) rfl rfl dX10_layRoads_131 ?_
        refine lv_iload hx hb dX10_layRoads_134 (lv_at hl 6 rfl) ?_
        refine lv_dup2_11 hx hb dX10_layRoads_136 rfl rfl ?_
        refine tk_iald hC hK hw hT kC_at160 rfl rfl (show 0 ≤ v130_6.toInt by omega) (show v130_6.toInt < 10 by omega) dX10_layRoads_137 (fun x35 c36 rx35 tx35 => ?_)
        refine lv_iconst (v := 1) hx hb dX10_layRoads_138 (by decide) ?_
        refine lv_iload hx hb dX10_layRoads_139 (lv_at hl 5 rfl) ?_
        refine lv_ishl hx hb dX10_layRoads_141 ?_
        refine lv_topi (fun x37 ex37 => ?_)
        have bx37 : 1 ≤ x37.toInt ∧ x37.toInt ≤ 512 := by rw [ex37]; exact wk_shl1 9 (by decide) (by omega) (by omega)
        refine lv_ior hx hb dX10_layRoads_142 ?_
        refine lv_topi (fun x38 ex38 => ?_)
        have bx38 : 0 ≤ x38.toInt ∧ x38.toInt < 1024 := by rw [ex38]; exact wk_or 10 (by decide) (by omega) (by omega) (by omega) (by omega)
        refine tk_iast hC hK hw hT kC_at160 (by decide) rfl rfl (show 0 ≤ v130_6.toInt by omega) (show v130_6.toInt < 10 by omega) (show 0 ≤ x38.toInt by omega) (show x38.toInt ≤ 1023 by omega) dX10_layRoads_143 (fun H locs w39 hw hT k41 c40 => ?_)
        have hF := hF.put kC_at160 (inE_of (a := 0) (b := 10) (by decide) (show 0 ≤ v130_6.toInt.toNat by omega) (show v130_6.toInt.toNat ≤ 10 by omega)) k41
        have c42 := k41.gi (Or.inl (tk_ne kC_at158 kC_at160 (by decide))) c34
        exact J144 v130_5 v130_6 v130_7 f130_158_4 H locs ls w39 (show 0 ≤ a1.toInt by omega) (show a1.toInt ≤ 1 by omega) (show 0 ≤ v27_4.toInt by omega) (show v27_4.toInt ≤ 11 by omega) (show 0 ≤ v130_5.toInt by omega) (show v130_5.toInt ≤ 9 by omega) (show 0 ≤ v130_6.toInt by omega) (show v130_6.toInt ≤ 9 by omega) (show 0 ≤ v130_7.toInt by omega) (show v130_7.toInt ≤ 1 by omega) (show 1 ≤ f130_158_4.toInt by omega) (show f130_158_4.toInt ≤ 12 by omega)  hw hT hF c42 (lv_sub hl [0, 1, 2, 3, 4, 5, 6, 7] rfl)
      have J118 : ∀ (v118_5 : Int32) (v118_6 : Int32) (v118_7 : Int32) (f118_158_4 : Int32) (H : Heap) (locs : List Loc) (ls : Array Slot) (w43 : va_W), 0 ≤ a1.toInt → a1.toInt ≤ 1 → 0 ≤ v27_4.toInt → v27_4.toInt ≤ 11 → 0 ≤ v118_5.toInt → v118_5.toInt ≤ 9 → 0 ≤ v118_6.toInt → v118_6.toInt ≤ 9 → 0 ≤ v118_7.toInt → v118_7.toInt ≤ 1 → 1 ≤ f118_158_4.toInt → f118_158_4.toInt ≤ 12 → Wd dC dI A s.heap H locs w43 → TW ksC ad cy B qr s1 w43 → FE ksC [(51, 0, 10)] w0 w43 → gi w43 158 4 = f118_158_4 → lv_has ls 8 [(0, .ref (ad 158)), (1, .int a1), (2, .int 0), (3, .int (-1)), (4, .int v27_4), (5, .int v118_5), (6, .int v118_6), (7, .int v118_7)] → W p l e ({ frames := 1, cells := 0, slots := 0, locals := 12 }) s m (List.toArray [.ref (ad 158), .int a1, .int 0, .int (-1)]) below meth c H locs 0 0 (MQ below (va_Qv (P_X10_layRoads_5 ad cy B qr s1 a1 w0) (fun u : va_W => wpost dC dI cy A u) A) (List.toArray [.ref (ad 158), .int a1, .int 0, .int (-1)]) s 0 0 A) (F0 m 118 ls []) := by
        intro v118_5 v118_6 v118_7 f118_158_4 H locs ls w43 r44 t45 r46 t47 r48 t49 r50 t51 r52 t53 r54 t55 hw hT hF c56 hl
        refine lv_iload hx hb dX10_layRoads_118 (lv_at hl 4 rfl) ?_
        refine lv_iload_n hx hb dX10_layRoads_120 rfl (lv_at hl 1 rfl) ?_
        refine lv_icmp_lt (tgt := 130) hx hb dX10_layRoads_121 (by decide) (fun c57 => ?_) (fun c57 => ?_)
        · have c57 : v27_4.toInt < a1.toInt := wk_lt.mp c57
          exact J130 v118_5 v118_6 v118_7 f118_158_4 H locs ls w43 (show 0 ≤ a1.toInt by omega) (show a1.toInt ≤ 1 by omega) (show 0 ≤ v27_4.toInt by omega) (show v27_4.toInt ≤ 11 by omega) (show 0 ≤ v118_5.toInt by omega) (show v118_5.toInt ≤ 9 by omega) (show 0 ≤ v118_6.toInt by omega) (show v118_6.toInt ≤ 9 by omega) (show 0 ≤ v118_7.toInt by omega) (show v118_7.toInt ≤ 1 by omega) (show 1 ≤ f118_158_4.toInt by omega) (show f118_158_4.toInt ≤ 12 by omega)  hw hT hF c56 (lv_sub hl [0, 1, 2, 3, 4, 5, 6, 7] rfl)
        · have c57 : a1.toInt ≤ v27_4.toInt := wk_ltF c57
          refine lv_iload hx hb dX10_layRoads_124 (lv_at hl 7 rfl) ?_
          refine lv_iconst (v := 1) hx hb dX10_layRoads_126 (by decide) ?_
          refine lv_icmp_ne (tgt := 144) hx hb dX10_layRoads_127 (by decide) (fun c58 => ?_) (fun c58 => ?_)
          · have c58 : ¬ v118_7.toInt = (1 : Int) := wk_eqF c58
            exact J144 v118_5 v118_6 v118_7 f118_158_4 H locs ls w43 (show 0 ≤ a1.toInt by omega) (show a1.toInt ≤ 1 by omega) (show 0 ≤ v27_4.toInt by omega) (show v27_4.toInt ≤ 11 by omega) (show 0 ≤ v118_5.toInt by omega) (show v118_5.toInt ≤ 9 by omega) (show 0 ≤ v118_6.toInt by omega) (show v118_6.toInt ≤ 9 by omega) (show 0 ≤ v118_7.toInt by omega) (show v118_7.toInt ≤ 1 by omega) (show 1 ≤ f118_158_4.toInt by omega) (show f118_158_4.toInt ≤ 12 by omega)  hw hT hF c56 (lv_sub hl [0, 1, 2, 3, 4, 5, 6, 7] rfl)
          · have c58 : v118_7.toInt = (1 : Int) := wk_eq.mp c58
            exact J130 v118_5 v118_6 v118_7 f118_158_4 H locs ls w43 (show 0 ≤ a1.toInt by omega) (show a1.toInt ≤ 1 by omega) (show 0 ≤ v27_4.toInt by omega) (show v27_4.toInt ≤ 11 by omega) (show 0 ≤ v118_5.toInt by omega) (show v118_5.toInt ≤ 9 by omega) (show 0 ≤ v118_6.toInt by omega) (show v118_6.toInt ≤ 9 by omega) (show 0 ≤ v118_7.toInt by omega) (show v118_7.toInt ≤ 1 by omega) (show 1 ≤ f118_158_4.toInt by omega) (show f118_158_4.toInt ≤ 12 by omega)  hw hT hF c56 (lv_sub hl [0, 1, 2, 3, 4, 5, 6, 7] rfl)
      have J104 : ∀ (v104_5 : Int32) (v104_6 : Int32) (v104_7 : Int32) (f104_158_4 : Int32) (H : Heap) (locs : List Loc) (ls : Array Slot) (w59 : va_W), 0 ≤ a1.toInt → a1.toInt ≤ 1 → 0 ≤ v27_4.toInt → v27_4.toInt ≤ 11 → 0 ≤ v104_5.toInt → v104_5.toInt ≤ 9 → 0 ≤ v104_6.toInt → v104_6.toInt ≤ 9 → 0 ≤ v104_7.toInt → v104_7.toInt ≤ 1 → 1 ≤ f104_158_4.toInt → f104_158_4.toInt ≤ 12 → Wd dC dI A s.heap H locs w59 → TW ksC ad cy B qr s1 w59 → FE ksC [(51, 0, 10)] w0 w59 → gi w59 158 4 = f104_158_4 → lv_has ls 8 [(0, .ref (ad 158)), (1, .int a1), (2, .int 0), (3, .int (-1)), (4, .int v27_4), (5, .int v104_5), (6, .int v104_6), (7, .int v104_7)] → W p l e ({ frames := 1, cells := 0, slots := 0, locals := 12 }) s m (List.toArray [.ref (ad 158), .int a1, .int 0, .int (-1)]) below meth c H locs 0 0 (MQ below (va_Qv (P_X10_layRoads_5 ad cy B qr s1 a1 w0) (fun u : va_W => wpost dC dI cy A u) A) (List.toArray [.ref (ad 158), .int a1, .int 0, .int (-1)]) s 0 0 A) (F0 m 104 ls []) := by
        intro v104_5 v104_6 v104_7 f104_158_4 H locs ls w59 r60 t61 r62 t63 r64 t65 r66 t67 r68 t69 r70 t71 hw hT hF c72 hl
        refine lv_aload_n hx hb dX10_layRoads_104 rfl (lv_at hl 0 rfl) ?_
        refine tk_getA hC hK hw hT hinX10 kC_at158 (by decide) rfl 3 (by decide) (List.mem_of_getElem? (i := 1) rfl) rfl rfl dX10_layRoads_105 ?_
        refine lv_iload hx hb dX10_layRoads_108 (lv_at hl 5 rfl) ?_
        refine lv_dup2_11 hx hb dX10_layRoads_110 rfl rfl ?_
        refine tk_iald hC hK hw hT kC_at160 rfl rfl (show 0 ≤ v104_5.toInt by omega) (show v104_5.toInt < 10 by omega) dX10_layRoads_111 (fun x73 c74 rx73 tx73 => ?_)
        refine lv_iconst (v := 1) hx hb dX10_layRoads_112 (by decide) ?_
        refine lv_iload hx hb dX10_layRoads_113 (lv_at hl 6 rfl) ?_
        refine lv_ishl hx hb dX10_layRoads_115 ?_
        refine lv_topi (fun x75 ex75 => ?_)
        have bx75 : 1 ≤ x75.toInt ∧ x75.toInt ≤ 512 := by rw [ex75]; exact wk_shl1 9 (by decide) (by omega) (by omega)
        refine lv_ior hx hb dX10_layRoads_116 ?_
        refine lv_topi (fun x76 ex76 => ?_)
        have bx76 : 0 ≤ x76.toInt ∧ x76.toInt < 1024 := by rw [ex76]; exact wk_or 10 (by decide) (by omega) (by omega) (by omega) (by omega)
        refine tk_iast hC hK hw hT kC_at160 (by decide) rfl rfl (show 0 ≤ v104_5.toInt by omega) (show v104_5.toInt < 10 by omega) (show 0 ≤ x76.toInt by omega) (show x76.toInt ≤ 1023 by omega) dX10_layRoads_117 (fun H locs w77 hw hT k79 c78 => ?_)
        have hF := hF.put kC_at160 (inE_of (a := 0) (b := 10) (by decide) (show 0 ≤ v104_5.toInt.toNat by omega) (show v104_5.toInt.toNat ≤ 10 by omega)) k79
        have c80 := k79.gi (Or.inl (tk_ne kC_at158 kC_at160 (by decide))) c72
        exact J118 v104_5 v104_6 v104_7 f104_158_4 H locs ls w77 (show 0 ≤ a1.toInt by omega) (show a1.toInt ≤ 1 by omega) (show 0 ≤ v27_4.toInt by omega) (show v27_4.toInt ≤ 11 by omega) (show 0 ≤ v104_5.toInt by omega) (show v104_5.toInt ≤ 9 by omega) (show 0 ≤ v104_6.toInt by omega) (show v104_6.toInt ≤ 9 by omega) (show 0 ≤ v104_7.toInt by omega) (show v104_7.toInt ≤ 1 by omega) (show 1 ≤ f104_158_4.toInt by omega) (show f104_158_4.toInt ≤ 12 by omega)  hw hT hF c80 (lv_sub hl [0, 1, 2, 3, 4, 5, 6, 7] rfl)
      refine lv_iload hx hb dX10_layRoads_27 (lv_at hl 4 rfl) ?_
      refine lv_aload_n hx hb dX10_layRoads_29 rfl (lv_at hl 0 rfl) ?_
      refine tk_geti hC hK hw hT hinX10 kC_at158 (by decide) rfl 4 (by decide) (List.mem_of_getElem? (i := 2) rfl) rfl rfl dX10_layRoads_30 (fun x81 c82 rx81 tx81 => ?_)
      refine lv_icmp_ge (tgt := 150) hx hb dX10_layRoads_33 (by decide) (fun c83 => ?_) (fun c83 => ?_)
      · have c83 : x81.toInt ≤ v27_4.toInt := wk_le.mp c83
        exact tk_vret hC hr hlocks hK ⟨hT, hF, trivial⟩ hw dX10_layRoads_150
      · have c83 : v27_4.toInt < x81.toInt := wk_leF c83
        refine lv_iload hx hb dX10_layRoads_36 (lv_at hl 4 rfl) ?_
        refine lv_iload_n hx hb dX10_layRoads_38 rfl (lv_at hl 3 rfl) ?_
        refine lv_icmp_ne (tgt := 45) hx hb dX10_layRoads_39 (by decide) (fun _ => ?_) (fun c => absurd (show v27_4.toInt = (-1 : Int) from wk_eq.mp c) (by omega))
        refine lv_aload_n hx hb dX10_layRoads_45 rfl (lv_at hl 0 rfl) ?_
        refine tk_getA hC hK hw hT hinX10 kC_at158 (by decide) rfl 1 (by decide) (List.mem_of_getElem? (i := 3) rfl) rfl rfl dX10_layRoads_46 ?_
        refine tk_getO hC hK hw hT hinX7 kC_at39 (by decide) rfl 0 (by decide) (List.mem_of_getElem? (i := 4) rfl) rfl rfl dX10_layRoads_49 ?_
        refine lv_iconst (v := 2) hx hb dX10_layRoads_52 (by decide) ?_
        refine lv_aload_n hx hb dX10_layRoads_53 rfl (lv_at hl 0 rfl) ?_
        refine tk_getA hC hK hw hT hinX10 kC_at158 (by decide) rfl 2 (by decide) (List.mem_of_getElem? (i := 5) rfl) rfl rfl dX10_layRoads_54 ?_
        refine lv_iload hx hb dX10_layRoads_57 (lv_at hl 4 rfl) ?_
        refine tk_iald hC hK hw hT kC_at159 rfl rfl (show 0 ≤ v27_4.toInt by omega) (show v27_4.toInt < 12 by omega) dX10_layRoads_59 (fun x84 c85 rx84 tx84 => ?_)
        refine lv_imul hx hb dX10_layRoads_60 ?_
        refine lv_topi (fun x86 ex86 => ?_)
        have ex86 : x86.toInt = (2 : Int) * x84.toInt := by rw [ex86]; exact wk_mul (show (-2147483648) ≤ (2 : Int) * x84.toInt by omega) (show (2 : Int) * x84.toInt ≤ 2147483647 by omega)
        refine tk_iald hC hK hw hT kC_at40 rfl rfl (show 0 ≤ x86.toInt by omega) (show x86.toInt < 26 by omega) dX10_layRoads_61 (fun x87 c88 rx87 tx87 => ?_)
        refine lv_istore (lv' := [(5, .int x87), (0, .ref (ad 158)), (1, .int a1), (2, .int 0), (3, .int (-1)), (4, .int v27_4)]) hx hb dX10_layRoads_62 hl (by decide) rfl (fun ls hl => ?_)
        refine lv_aload_n hx hb dX10_layRoads_64 rfl (lv_at hl 1 rfl) ?_
        refine tk_getA hC hK hw hT hinX10 kC_at158 (by decide) rfl 1 (by decide) (List.mem_of_getElem? (i := 3) rfl) rfl rfl dX10_layRoads_65 ?_
        refine tk_getO hC hK hw hT hinX7 kC_at39 (by decide) rfl 0 (by decide) (List.mem_of_getElem? (i := 4) rfl) rfl rfl dX10_layRoads_68 ?_
        refine lv_iconst (v := 2) hx hb dX10_layRoads_71 (by decide) ?_
        refine lv_aload_n hx hb dX10_layRoads_72 rfl (lv_at hl 1 rfl) ?_
        refine tk_getA hC hK hw hT hinX10 kC_at158 (by decide) rfl 2 (by decide) (List.mem_of_getElem? (i := 5) rfl) rfl rfl dX10_layRoads_73 ?_
        refine lv_iload hx hb dX10_layRoads_76 (lv_at hl 5 rfl) ?_
        refine tk_iald hC hK hw hT kC_at159 rfl rfl (show 0 ≤ v27_4.toInt by omega) (show v27_4.toInt < 12 by omega) dX10_layRoads_78 (fun x89 c90 rx89 tx89 => ?_)
        refine lv_imul hx hb dX10_layRoads_79 ?_
        refine lv_topi (fun x91 ex91 => ?_)
        have ex91 : x91.toInt = (2 : Int) * x89.toInt := by rw [ex91]; exact wk_mul (show (-2147483648) ≤ (2 : Int) * x89.toInt by omega) (show (2 : Int) * x89.toInt ≤ 2147483647 by omega)
        refine lv_iconst (v := 1) hx hb dX10_layRoads_80 (by decide) ?_
        refine lv_iadd hx hb dX10_layRoads_81 ?_
        refine lv_topi (fun x92 ex92 => ?_)
        have ex92 : x92.toInt = x91.toInt + (1 : Int) := by rw [ex92]; exact wk_add (show (-2147483648) ≤ x91.toInt + (1 : Int) by omega) (show x91.toInt + (1 : Int) ≤ 2147483647 by omega)
        refine tk_iald hC hK hw hT kC_at40 rfl rfl (show 0 ≤ x92.toInt by omega) (show x92.toInt < 26 by omega) dX10_layRoads_82 (fun x93 c94 rx93 tx93 => ?_)
        refine lv_istore (lv' := [(6, .int x93), (5, .int x87), (0, .ref (ad 158)), (1, .int a1), (2, .int 0), (3, .int (-1)), (4, .int v27_4)]) hx hb dX10_layRoads_83 hl (by decide) rfl (fun ls hl => ?_)
        refine lv_iload_n hx hb dX10_layRoads_85 rfl (lv_at hl 4 rfl) ?_
        refine lv_iload hx hb dX10_layRoads_86 (lv_at hl 6 rfl) ?_
        refine lv_ishr hx hb dX10_layRoads_88 ?_
        refine lv_topi (fun x95 ex95 => ?_)
        have bx95 : 0 ≤ x95.toInt ∧ x95.toInt ≤ (0 : Int) := by rw [ex95]; exact wk_shr (by decide)
        refine lv_iconst (v := 1) hx hb dX10_layRoads_89 (by decide) ?_
        refine lv_iand hx hb dX10_layRoads_90 ?_
        refine lv_topi (fun x96 ex96 => ?_)
        have bx96 : 0 ≤ x96.toInt ∧ x96.toInt ≤ (1 : Int) := by rw [ex96]; exact wk_and (by decide)
        refine lv_istore (lv' := [(7, .int x96), (6, .int x93), (5, .int x87), (0, .ref (ad 158)), (1, .int a1), (2, .int 0), (3, .int (-1)), (4, .int v27_4)]) hx hb dX10_layRoads_91 hl (by decide) rfl (fun ls hl => ?_)
        refine lv_iload hx hb dX10_layRoads_93 (lv_at hl 7 rfl) ?_
        refine lv_iload_n hx hb dX10_layRoads_95 rfl (lv_at hl 4 rfl) ?_
        refine lv_icmp_lt (tgt := 104) hx hb dX10_layRoads_96 (by decide) (fun c97 => ?_) (fun c97 => ?_)
        · have c97 : v27_4.toInt < a1.toInt := wk_lt.mp c97
          exact J104 x87 x93 x96 x81 H locs ls w1 (show 0 ≤ a1.toInt by omega) (show a1.toInt ≤ 1 by omega) (show 0 ≤ v27_4.toInt by omega) (show v27_4.toInt ≤ 11 by omega) (show 0 ≤ x87.toInt by omega) (show x87.toInt ≤ 9 by omega) (show 0 ≤ x93.toInt by omega) (show x93.toInt ≤ 9 by omega) (show 0 ≤ x96.toInt by omega) (show x96.toInt ≤ 1 by omega) (show 1 ≤ x81.toInt by omega) (show x81.toInt ≤ 12 by omega)  hw hT hF c82 (lv_sub hl [3, 4, 5, 6, 7, 2, 1, 0] rfl)
        · have c97 : a1.toInt ≤ v27_4.toInt := wk_ltF c97
          refine lv_iload hx hb dX10_layRoads_99 (lv_at hl 0 rfl) ?_
          refine lv_if_ne (tgt := 118) hx hb dX10_layRoads_101 (by decide) (fun c98 => ?_) (fun c98 => ?_)
          · have c98 : ¬ x96.toInt = (0 : Int) := wk_eqF c98
            exact J118 x87 x93 x96 x81 H locs ls w1 (show 0 ≤ a1.toInt by omega) (show a1.toInt ≤ 1 by omega) (show 0 ≤ v27_4.toInt by omega) (show v27_4.toInt ≤ 11 by omega) (show 0 ≤ x87.toInt by omega) (show x87.toInt ≤ 9 by omega) (show 0 ≤ x93.toInt by omega) (show x93.toInt ≤ 9 by omega) (show 0 ≤ x96.toInt by omega) (show x96.toInt ≤ 1 by omega) (show 1 ≤ x81.toInt by omega) (show x81.toInt ≤ 12 by omega)  hw hT hF c82 (lv_sub hl [3, 4, 5, 6, 7, 2, 1, 0] rfl)
          · have c98 : x96.toInt = (0 : Int) := wk_eq.mp c98
            exact J104 x87 x93 x96 x81 H locs ls w1 (show 0 ≤ a1.toInt by omega) (show a1.toInt ≤ 1 by omega) (show 0 ≤ v27_4.toInt by omega) (show v27_4.toInt ≤ 11 by omega) (show 0 ≤ x87.toInt by omega) (show x87.toInt ≤ 9 by omega) (show 0 ≤ x93.toInt by omega) (show x93.toInt ≤ 9 by omega) (show 0 ≤ x96.toInt by omega) (show x96.toInt ≤ 1 by omega) (show 1 ≤ x81.toInt by omega) (show x81.toInt ≤ 12 by omega)  hw hT hF c82 (lv_sub hl [3, 4, 5, 6, 7, 2, 1, 0] rfl)
  have L3 : ∀ (n3 : Nat) (v3_4 : Int32) (H : Heap) (locs : List Loc) (ls : Array Slot) (w99 : va_W), 0 ≤ a1.toInt → a1.toInt ≤ 1 → 0 ≤ v3_4.toInt → v3_4.toInt ≤ 10 → (10 - v3_4.toInt).toNat < n3 → Wd dC dI A s.heap H locs w99 → TW ksC ad cy B qr s1 w99 → FE ksC [(51, 0, 10)] w0 w99 → lv_has ls 8 [(0, .ref (ad 158)), (1, .int a1), (2, .int 0), (3, .int (-1)), (4, .int v3_4)] → W p l e ({ frames := 1, cells := 0, slots := 0, locals := 12 }) s m (List.toArray [.ref (ad 158), .int a1, .int 0, .int (-1)]) below meth c H locs 0 0 (MQ below (va_Qv (P_X10_layRoads_5 ad cy B qr s1 a1 w0) (fun u : va_W => wpost dC dI cy A u) A) (List.toArray [.ref (ad 158), .int a1, .int 0, .int (-1)]) s 0 0 A) (F0 m 3 ls []) := by
    intro n3
    induction n3 with
    | zero => intro v3_4 H locs ls w99 r100 t101 r102 t103 hm3 hw hT hF hl; omega
    | succ n3 ih3 =>
      intro v3_4 H locs ls w99 r100 t101 r102 t103 hm3 hw hT hF hl
      refine lv_iload hx hb dX10_layRoads_3 (lv_at hl 4 rfl) ?_
      refine lv_bipush (v := 10) hx hb dX10_layRoads_5 (by decide) ?_
      refine lv_icmp_ge (tgt := 24) hx hb dX10_layRoads_7 (by decide) (fun c104 => ?_) (fun c104 => ?_)
      · have c104 : (10 : Int) ≤ v3_4.toInt := wk_le.mp c104
        refine lv_iconst (v := 0) hx hb dX10_layRoads_24 (by decide) ?_
        refine lv_istore (lv' := [(4, .int 0), (0, .ref (ad 158)), (1, .int a1), (2, .int 0), (3, .int (-1))]) hx hb dX10_layRoads_25 hl (by decide) rfl (fun ls hl => ?_)
        exact L27 ((12 - (0 : Int)).toNat + 1) 0 H locs ls w99 (show 0 ≤ a1.toInt by omega) (show a1.toInt ≤ 1 by omega) (by decide) (by decide) (Nat.lt_succ_self _) hw hT hF  (lv_sub hl [1, 2, 3, 4, 0] rfl)
      · have c104 : v3_4.toInt < (10 : Int) := wk_leF c104
        refine lv_aload_n hx hb dX10_layRoads_10 rfl (lv_at hl 0 rfl) ?_
        refine tk_getA hC hK hw hT hinX10 kC_at158 (by decide) rfl 3 (by decide) (List.mem_of_getElem? (i := 1) rfl) rfl rfl dX10_layRoads_11 ?_
        refine lv_iload hx hb dX10_layRoads_14 (lv_at hl 4 rfl) ?_
        refine lv_iconst (v := 0) hx hb dX10_layRoads_16 (by decide) ?_
        refine tk_iast hC hK hw hT kC_at160 (by decide) rfl rfl (show 0 ≤ v3_4.toInt by omega) (show v3_4.toInt < 10 by omega) (by decide) (by decide) dX10_layRoads_17 (fun H locs w105 hw hT k107 c106 => ?_)
        have hF := hF.put kC_at160 (inE_of (a := 0) (b := 10) (by decide) (show 0 ≤ v3_4.toInt.toNat by omega) (show v3_4.toInt.toNat ≤ 10 by omega)) k107
        obtain ⟨x108, ex108⟩ : ∃ y : Int32, y = v3_4 + Int32.ofInt 1 := ⟨_, rfl⟩
        refine lv_iinc (v := x108) (lv' := [(4, .int x108), (0, .ref (ad 158)), (1, .int a1), (2, .int 0), (3, .int (-1))]) hx hb dX10_layRoads_18 hl (k := 4) rfl ex108.symm (by decide) rfl (fun ls hl => ?_)
        have ex108 : x108.toInt = v3_4.toInt + 1 := by rw [ex108]; exact wk_add (y := 1) (show -2147483648 ≤ v3_4.toInt + 1 by omega) (show v3_4.toInt + 1 ≤ 2147483647 by omega)
        refine lv_goto (tgt := 3) hx hb dX10_layRoads_21 (by decide) ?_
        exact ih3 x108 H locs ls w105 (show 0 ≤ a1.toInt by omega) (show a1.toInt ≤ 1 by omega) (show 0 ≤ x108.toInt by omega) (show x108.toInt ≤ 10 by omega) (show (10 - x108.toInt).toNat < n3 by omega) hw hT hF  (lv_sub hl [1, 2, 3, 4, 0] rfl)
  refine lv_iconst (v := 0) hx hb dX10_layRoads_0 (by decide) ?_
  refine lv_istore (lv' := [(4, .int 0), (0, .ref (ad 158)), (1, .int a1), (2, .int 0), (3, .int (-1))]) hx hb dX10_layRoads_1 hl (by decide) rfl (fun ls hl => ?_)
  exact L3 ((10 - (0 : Int)).toNat + 1) 0 s.heap locs ls w0 (show 0 ≤ a1.toInt by omega) (show a1.toInt ≤ 1 by omega) (by decide) (by decide) (Nat.lt_succ_self _) hw hT hF  (lv_sub hl [1, 2, 3, 4, 0] rfl)
abbrev P_X10_leastBelow_12 (ad : Nat → Nat) (cy : Nat → ClassId) (B : Int) (qr : Nat) (s1 : Int) (a1 : Int32) (w0 : va_W) : Int32 → va_W → Prop := fun r u => TW ksC ad cy B qr s1 u ∧ FE ksC [(51, 0, 10)] w0 u ∧ ((0 ≤ r.toInt ∧ r.toInt ≤ 1) ∨ (r = (-1) ∧ (∃ y : Int32, gi u 38 10 = y ∧ 1 ≤ y.toInt ∧ y.toInt ≤ 6)))
set_option maxHeartbeats 4000000 in
set_option maxRecDepth 100000 in
theorem k_X10_leastBelow_12 (l : Launch) (adK adV : Nat → Nat) (dC : Nat → ClassId) (dI : Nat → Nat → Nat) (cy : Nat → ClassId) (ad : Nat → Nat) (B : Int) (hB0 : 2147483648 ≤ B) (hB1 : B ≤ 1152921504606846976) (qr : Nat) (s1 : Int)  (a1 : Int32) (ra1 : 0 ≤ a1.toInt) (ta1 : a1.toInt ≤ 1) (w0 : va_W) (sz : Nat) (hT : TW ksC ad cy B qr s1 w0)  : Met l yX10_leastBelow wsX10_leastBelow ({ frames := 4, cells := 0, slots := 0, locals := 82 }) (va_Pc [.ref (ad 158), .int a1, .int 0] (wpreS adK adV dC dI cy sz w0)) (va_Qi (P_X10_leastBelow_12 ad cy B qr s1 a1 w0) (fun u : va_W => wpost dC dI cy (va_A w0 sz) u) (va_A w0 sz)) 0 0 (va_A w0 sz) := by
  refine Met.ofW (cc := cX10_leastBelow) (maxL := 4) (ret := (some .int)) (by decide) rfl ?_
  intro p e s m args below meth c s₁ Bk hml hv
  obtain ⟨rfl, ⟨hsz, hP, hK, hD0⟩, hE, hSR⟩ := hv
  have hx := Bk.exec
  have hb := Bk.bytes
  have hr := Bk.returns
  have hlocks := Bk.notSynchronized
  have hC : CallFix p m c cX10_leastBelow 4 s _ wsX10_leastBelow RX10 := ⟨hx, hb, hml, findClass_of_methodNamed Bk.named, atoms_spec (ws := wsX10_leastBelow) Bk.pre⟩
  subst hsz
  have hD := hD0.self (sz := s.heap.size)
  generalize hAe : va_A w0 s.heap.size = A at hD hE ⊢
  have hA : ∀ q : Nat, s.heap.size ≤ q → A q := fun q h => by rw [← hAe]; exact Or.inr h
  have hw : Wd dC dI A s.heap s.heap [] w0 := ⟨hP, hD, va_S.rf⟩
  have hF : FE ksC [(51, 0, 10)] w0 w0 := FE.rf
  have hl := lv_entry ([.ref (ad 158), .int a1, .int 0]) (n := 4) (Nat.le_of_ble_eq_true rfl)
  rw [lg_entry_eq]
  generalize (lg_sl ([.ref (ad 158), .int a1, .int 0]) ++ List.replicate (4 - (lg_sl ([.ref (ad 158), .int a1, .int 0])).length) Slot.unset).toArray = ls at hl ⊢
  have hl : lv_has ls 4 [(0, .ref (ad 158)), (1, .int a1), (2, .int 0)] := hl
  generalize hloc : ([] : List Loc) = locs at hw ⊢
  have hinX10 : ∀ w ∈ u_ws RX10 TX10 5, w ∈ wsX10_leastBelow := fun _ h => List.mem_cons_of_mem _ (List.mem_append_left _ (List.mem_append_left _ (List.mem_append_right _ (h))))
  have hinX5 : ∀ w ∈ u_ws RX5 TX5 14, w ∈ wsX10_leastBelow := fun _ h => List.mem_cons_of_mem _ (List.mem_append_left _ (List.mem_append_right _ (h)))
  have L9 : ∀ (n9 : Nat) (v9_3 : Int32) (H : Heap) (locs : List Loc) (ls : Array Slot) (w1 : va_W), 0 ≤ a1.toInt → a1.toInt ≤ 1 → 0 ≤ v9_3.toInt → v9_3.toInt ≤ 6 → (6 - v9_3.toInt).toNat < n9 → Wd dC dI A s.heap H locs w1 → TW ksC ad cy B qr s1 w1 → FE ksC [(51, 0, 10)] w0 w1 → lv_has ls 4 [(0, .ref (ad 158)), (1, .int a1), (2, .int 0), (3, .int v9_3)] → W p l e ({ frames := 4, cells := 0, slots := 0, locals := 82 }) s m (List.toArray [.ref (ad 158), .int a1, .int 0]) below meth c H locs 0 0 (MQ below (va_Qi (P_X10_leastBelow_12 ad cy B qr s1 a1 w0) (fun u : va_W => wpost dC dI cy A u) A) (List.toArray [.ref (ad 158), .int a1, .int 0]) s 0 0 A) (F0 m 9 ls []) := by
    intro n9
    induction n9 with
    | zero => intro v9_3 H locs ls w1 r2 t3 r4 t5 hm9 hw hT hF hl; omega
    | succ n9 ih9 =>
      intro v9_3 H locs ls w1 r2 t3 r4 t5 hm9 hw hT hF hl
      refine lv_iload_n hx hb dX10_leastBelow_9 rfl (lv_at hl 3 rfl) ?_
      refine lv_aload_n hx hb dX10_leastBelow_10 rfl (lv_at hl 0 rfl) ?_
      refine tk_getA hC hK hw hT hinX10 kC_at158 (by decide) rfl 0 (by decide) (List.mem_of_getElem? (i := 1) rfl) rfl rfl dX10_leastBelow_11 ?_
      refine tk_geti hC hK hw hT hinX5 kC_at38 (by decide) rfl 10 (by decide) (List.mem_of_getElem? (i := 2) rfl) rfl rfl dX10_leastBelow_14 (fun x6 c7 rx6 tx6 => ?_)
      refine lv_icmp_ge (tgt := 36) hx hb dX10_leastBelow_17 (by decide) (fun c8 => ?_) (fun c8 => ?_)
      · have c8 : x6.toInt ≤ v9_3.toInt := wk_le.mp c8
        refine lv_iload_n hx hb dX10_leastBelow_36 rfl (lv_at hl 1 rfl) ?_
        refine lv_if_gt (tgt := 42) hx hb dX10_leastBelow_37 (by decide) (fun c9 => ?_) (fun c9 => ?_)
        · have c9 : (0 : Int) < a1.toInt := wk_lt.mp c9
          refine lv_aload_n hx hb dX10_leastBelow_42 rfl (lv_at hl 0 rfl) ?_
          refine lv_iload_n hx hb dX10_leastBelow_43 rfl (lv_at hl 1 rfl) ?_
          refine lv_iconst (v := 1) hx hb dX10_leastBelow_44 (by decide) ?_
          refine lv_isub hx hb dX10_leastBelow_45 ?_
          refine lv_topi (fun x10 ex10 => ?_)
          have ex10 : x10.toInt = a1.toInt - (1 : Int) := by rw [ex10]; exact wk_sub (show (-2147483648) ≤ a1.toInt - (1 : Int) by omega) (show a1.toInt - (1 : Int) ≤ 2147483647 by omega)
          refine lv_iload_n hx hb dX10_leastBelow_46 rfl (lv_at hl 2 rfl) ?_
          refine tk_Vi hC hK hw hT hA hE hSR kC_at158 (by decide) rfl (k_X10_leastBelow_13 l adK adV dC dI cy ad B (by omega) (by omega) qr s1    w1 H.size hT ) (cwV 2 hC.2.2.2.2 gX10_leastBelow_X10_leastBelow rfl rfl rfl (by decide +kernel) ⟨Nat.le_of_ble_eq_true rfl, Nat.le_of_ble_eq_true rfl⟩) rfl hl.1 rfl (Nat.le_of_ble_eq_true rfl) dX10_leastBelow_47 (fun r11 w13 H locs hp12 hw => ?_)
          obtain ⟨hT, k14, hg17⟩ := hp12
          have hF := hF.tr k14 (by decide)
          have c18 := k14.gi kC_at38 (by decide) c7
          rcases hg17 with rfl | ⟨rfl, ⟨x15, c16, rx15, tx15⟩⟩
          · refine lv_istore_n (lv' := [(3, .int 0), (0, .ref (ad 158)), (1, .int a1), (2, .int 0)]) hx hb dX10_leastBelow_50 rfl hl (by decide) rfl (fun ls hl => ?_)
            refine lv_iload_n hx hb dX10_leastBelow_51 rfl (lv_at hl 0 rfl) ?_
            refine lv_iconst (v := (-1)) hx hb dX10_leastBelow_52 (by decide) ?_
            refine lv_icmp_eq (tgt := 60) hx hb dX10_leastBelow_53 (by decide) (fun c => absurd c (by decide)) (fun _ => ?_)
            refine lv_iload_n hx hb dX10_leastBelow_56 rfl (lv_at hl 0 rfl) ?_
            refine lv_goto (tgt := 74) hx hb dX10_leastBelow_57 (by decide) ?_
            exact tk_iret hC hr hlocks hK ⟨hT, hF, (Or.inl ⟨(by decide), (by decide)⟩)⟩ hw dX10_leastBelow_74
          · have ex15 : x15.toInt = x6.toInt := by rw [← c18.symm.trans c16]
            refine lv_istore_n (lv' := [(3, .int (-1)), (0, .ref (ad 158)), (1, .int a1), (2, .int 0)]) hx hb dX10_leastBelow_50 rfl hl (by decide) rfl (fun ls hl => ?_)
            refine lv_iload_n hx hb dX10_leastBelow_51 rfl (lv_at hl 0 rfl) ?_
            refine lv_iconst (v := (-1)) hx hb dX10_leastBelow_52 (by decide) ?_
            refine lv_icmp_eq (tgt := 60) hx hb dX10_leastBelow_53 (by decide) (fun _ => ?_) (fun c => absurd (by decide) c)
            refine lv_aload_n hx hb dX10_leastBelow_60 rfl (lv_at hl 1 rfl) ?_
            refine lv_iload_n hx hb dX10_leastBelow_61 rfl (lv_at hl 2 rfl) ?_
            refine lv_iconst (v := 1) hx hb dX10_leastBelow_62 (by decide) ?_
            refine lv_isub hx hb dX10_leastBelow_63 ?_
            refine lv_topi (fun x19 ex19 => ?_)
            have ex19 : x19.toInt = a1.toInt - (1 : Int) := by rw [ex19]; exact wk_sub (show (-2147483648) ≤ a1.toInt - (1 : Int) by omega) (show a1.toInt - (1 : Int) ≤ 2147483647 by omega)
            refine lv_iload_n hx hb dX10_leastBelow_64 rfl (lv_at hl 3 rfl) ?_
            refine lv_iconst (v := 1) hx hb dX10_leastBelow_65 (by decide) ?_
            refine lv_iload_n hx hb dX10_leastBelow_66 rfl (lv_at hl 2 rfl) ?_
            refine lv_iconst (v := 1) hx hb dX10_leastBelow_67 (by decide) ?_
            refine lv_isub hx hb dX10_leastBelow_68 ?_
            refine lv_topi (fun x20 ex20 => ?_)
            have ex20 : x20.toInt = a1.toInt - (1 : Int) := by rw [ex20]; exact wk_sub (show (-2147483648) ≤ a1.toInt - (1 : Int) by omega) (show a1.toInt - (1 : Int) ≤ 2147483647 by omega)
            refine lv_ishl hx hb dX10_leastBelow_69 ?_
            refine lv_topi (fun x21 ex21 => ?_)
            have bx21 : 1 ≤ x21.toInt ∧ x21.toInt ≤ 1 := by rw [ex21]; exact wk_shl1 0 (by decide) (by omega) (by omega)
            refine lv_ior hx hb dX10_leastBelow_70 ?_
            refine lv_topi (fun x22 ex22 => ?_)
            have bx22 : 0 ≤ x22.toInt ∧ x22.toInt < 2 := by rw [ex22]; exact wk_or 1 (by decide) (by decide) (by decide) (by omega) (by omega)
            refine tk_Vi hC hK hw hT hA hE hSR kC_at158 (by decide) rfl (k_X10_leastBelow_14 l adK adV dC dI cy ad B (by omega) (by omega) qr s1   x22 (show 0 ≤ x22.toInt by omega) (show x22.toInt ≤ 1 by omega) w13 H.size hT ) (cwV 2 hC.2.2.2.2 gX10_leastBelow_X10_leastBelow rfl rfl rfl (by decide +kernel) ⟨Nat.le_of_ble_eq_true rfl, Nat.le_of_ble_eq_true rfl⟩) rfl hl.1 rfl (Nat.le_of_ble_eq_true rfl) dX10_leastBelow_71 (fun r23 w25 H locs hp24 hw => ?_)
            obtain ⟨hT, k26, hg31⟩ := hp24
            have hF := hF.tr k26 (by decide)
            have c32 := k26.gi kC_at38 (by decide) c18
            rcases hg31 with ⟨g27, g28⟩ | ⟨rfl, ⟨x29, c30, rx29, tx29⟩⟩
            · exact tk_iret hC hr hlocks hK ⟨hT, hF, (Or.inl ⟨(show 0 ≤ r23.toInt by omega), (show r23.toInt ≤ 1 by omega)⟩)⟩ hw dX10_leastBelow_74
            · have ex29 : x29.toInt = x6.toInt := by rw [← c32.symm.trans c30]
              exact tk_iret hC hr hlocks hK ⟨hT, hF, (Or.inr ⟨rfl, ⟨x6, c32, (show 1 ≤ x6.toInt by omega), (show x6.toInt ≤ 6 by omega)⟩⟩)⟩ hw dX10_leastBelow_74
        · have c9 : a1.toInt ≤ (0 : Int) := wk_ltF c9
          refine lv_iload_n hx hb dX10_leastBelow_40 rfl (lv_at hl 2 rfl) ?_
          exact tk_iret hC hr hlocks hK ⟨hT, hF, (Or.inl ⟨(by decide), (by decide)⟩)⟩ hw dX10_leastBelow_41
      · have c8 : v9_3.toInt < x6.toInt := wk_leF c8
        refine lv_aload_n hx hb dX10_leastBelow_20 rfl (lv_at hl 0 rfl) ?_
        refine lv_iload_n hx hb dX10_leastBelow_21 rfl (lv_at hl 3 rfl) ?_
        refine tk_Vi hC hK hw hT hA hE hSR kC_at158 (by decide) rfl (k_X10_canDo_1 l adK adV dC dI cy ad B (by omega) (by omega) qr s1   v9_3 (show 0 ≤ v9_3.toInt by omega) (show v9_3.toInt ≤ 5 by omega) w1 H.size hT ) (cwV 1 hC.2.2.2.2 gX10_leastBelow_X10_canDo rfl rfl rfl (by decide +kernel) ⟨Nat.le_of_ble_eq_true rfl, Nat.le_of_ble_eq_true rfl⟩) rfl hl.1 rfl (Nat.le_of_ble_eq_true rfl) dX10_leastBelow_22 (fun r33 w35 H locs hp34 hw => ?_)
        obtain ⟨hT, k36, hg37⟩ := hp34
        have hF := hF.tr k36 (by decide)
        have c38 := k36.gi kC_at38 (by decide) c7
        rcases hg37 with rfl | rfl
        · refine lv_if_ne (tgt := 30) hx hb dX10_leastBelow_25 (by decide) (fun c => absurd (by decide) c) (fun _ => ?_)
          refine lv_iconst (v := (-1)) hx hb dX10_leastBelow_28 (by decide) ?_
          exact tk_iret hC hr hlocks hK ⟨hT, hF, (Or.inr ⟨rfl, ⟨x6, c38, (show 1 ≤ x6.toInt by omega), (show x6.toInt ≤ 6 by omega)⟩⟩)⟩ hw dX10_leastBelow_29
        · refine lv_if_ne (tgt := 30) hx hb dX10_leastBelow_25 (by decide) (fun _ => ?_) (fun c => absurd c (by decide))
          obtain ⟨x39, ex39⟩ : ∃ y : Int32, y = v9_3 + Int32.ofInt 1 := ⟨_, rfl⟩
          refine lv_iinc (v := x39) (lv' := [(3, .int x39), (0, .ref (ad 158)), (1, .int a1), (2, .int 0)]) hx hb dX10_leastBelow_30 hl (k := 3) rfl ex39.symm (by decide) rfl (fun ls hl => ?_)
          have ex39 : x39.toInt = v9_3.toInt + 1 := by rw [ex39]; exact wk_add (y := 1) (show -2147483648 ≤ v9_3.toInt + 1 by omega) (show v9_3.toInt + 1 ≤ 2147483647 by omega)
          refine lv_goto (tgt := 9) hx hb dX10_leastBelow_33 (by decide) ?_
          exact ih9 x39 H locs ls w35 (show 0 ≤ a1.toInt by omega) (show a1.toInt ≤ 1 by omega) (show 0 ≤ x39.toInt by omega) (show x39.toInt ≤ 6 by omega) (show (6 - x39.toInt).toNat < n9 by omega) hw hT hF  (lv_sub hl [1, 2, 3, 0] rfl)
  refine lv_aload_n hx hb dX10_leastBelow_0 rfl (lv_at hl 0 rfl) ?_
  refine lv_iload_n hx hb dX10_leastBelow_1 rfl (lv_at hl 1 rfl) ?_
  refine lv_iload_n hx hb dX10_leastBelow_2 rfl (lv_at hl 2 rfl) ?_
  refine lv_iconst (v := (-1)) hx hb dX10_leastBelow_3 (by decide) ?_
  refine tk_Vv hC hK hw hT hA hE hSR kC_at158 (by decide) rfl (k_X10_layRoads_5 l adK adV dC dI cy ad B (by omega) (by omega) qr s1   a1 (show 0 ≤ a1.toInt by omega) (show a1.toInt ≤ 1 by omega) w0 s.heap.size hT ) (cwV 3 hC.2.2.2.2 gX10_leastBelow_X10_layRoads rfl rfl rfl (by decide +kernel) ⟨Nat.le_of_ble_eq_true rfl, Nat.le_of_ble_eq_true rfl⟩) rfl hl.1 rfl (Nat.le_of_ble_eq_true rfl) dX10_leastBelow_4 (fun w42 H locs hp41 hw => ?_)
  obtain ⟨hT, k43, hg44⟩ := hp41
  have hF := hF.tr k43 (by decide)
  clear hg44
  refine lv_iconst (v := 0) hx hb dX10_leastBelow_7 (by decide) ?_
  refine lv_istore_n (lv' := [(3, .int 0), (0, .ref (ad 158)), (1, .int a1), (2, .int 0)]) hx hb dX10_leastBelow_8 rfl hl (by decide) rfl (fun ls hl => ?_)
  exact L9 ((6 - (0 : Int)).toNat + 1) 0 H locs ls w42 (show 0 ≤ a1.toInt by omega) (show a1.toInt ≤ 1 by omega) (by decide) (by decide) (Nat.lt_succ_self _) hw hT hF  (lv_sub hl [1, 2, 3, 0] rfl)
abbrev P_X10_layRoads_6 (ad : Nat → Nat) (cy : Nat → ClassId) (B : Int) (qr : Nat) (s1 : Int) (a2 : Int32) (w0 : va_W) : va_W → Prop := fun u => TW ksC ad cy B qr s1 u ∧ FE ksC [(51, 0, 10)] w0 u ∧ ((True))
set_option maxHeartbeats 4000000 in
set_option maxRecDepth 100000 in
theorem k_X10_layRoads_6 (l : Launch) (adK adV : Nat → Nat) (dC : Nat → ClassId) (dI : Nat → Nat → Nat) (cy : Nat → ClassId) (ad : Nat → Nat) (B : Int) (hB0 : 2147483648 ≤ B) (hB1 : B ≤ 1152921504606846976) (qr : Nat) (s1 : Int)  (a2 : Int32) (ra2 : 0 ≤ a2.toInt) (ta2 : a2.toInt ≤ 3) (w0 : va_W) (sz : Nat) (hT : TW ksC ad cy B qr s1 w0)  : Met l yX10_layRoads wsX10_layRoads ({ frames := 1, cells := 0, slots := 0, locals := 12 }) (va_Pc [.ref (ad 158), .int 0, .int a2, .int (-1)] (wpreS adK adV dC dI cy sz w0)) (va_Qv (P_X10_layRoads_6 ad cy B qr s1 a2 w0) (fun u : va_W => wpost dC dI cy (va_A w0 sz) u) (va_A w0 sz)) 0 0 (va_A w0 sz) := by
  refine Met.ofW (cc := cX10_layRoads) (maxL := 8) (ret := none) (by decide) rfl ?_
  intro p e s m args below meth c s₁ Bk hml hv
  obtain ⟨rfl, ⟨hsz, hP, hK, hD0⟩, hE, hSR⟩ := hv
  have hx := Bk.exec
  have hb := Bk.bytes
  have hr := Bk.returns
  have hlocks := Bk.notSynchronized
  have hC : CallFix p m c cX10_layRoads 8 s _ wsX10_layRoads RX10 := ⟨hx, hb, hml, findClass_of_methodNamed Bk.named, atoms_spec (ws := wsX10_layRoads) Bk.pre⟩
  subst hsz
  have hD := hD0.self (sz := s.heap.size)
  generalize hAe : va_A w0 s.heap.size = A at hD hE ⊢
  have hA : ∀ q : Nat, s.heap.size ≤ q → A q := fun q h => by rw [← hAe]; exact Or.inr h
  have hw : Wd dC dI A s.heap s.heap [] w0 := ⟨hP, hD, va_S.rf⟩
  have hF : FE ksC [(51, 0, 10)] w0 w0 := FE.rf
  have hl := lv_entry ([.ref (ad 158), .int 0, .int a2, .int (-1)]) (n := 8) (Nat.le_of_ble_eq_true rfl)
  rw [lg_entry_eq]
  generalize (lg_sl ([.ref (ad 158), .int 0, .int a2, .int (-1)]) ++ List.replicate (8 - (lg_sl ([.ref (ad 158), .int 0, .int a2, .int (-1)])).length) Slot.unset).toArray = ls at hl ⊢
  have hl : lv_has ls 8 [(0, .ref (ad 158)), (1, .int 0), (2, .int a2), (3, .int (-1))] := hl
  generalize hloc : ([] : List Loc) = locs at hw ⊢
  have hinX10 : ∀ w ∈ u_ws RX10 TX10 5, w ∈ wsX10_layRoads := fun _ h => List.mem_cons_of_mem _ (List.mem_append_left _ (List.mem_append_right _ (h)))
  have hinX7 : ∀ w ∈ u_ws RX7 TX7 12, w ∈ wsX10_layRoads := fun _ h => List.mem_cons_of_mem _ (List.mem_append_right _ (h))
  have L27 : ∀ (n27 : Nat) (v27_4 : Int32) (H : Heap) (locs : List Loc) (ls : Array Slot) (w1 : va_W), 0 ≤ a2.toInt → a2.toInt ≤ 3 → 0 ≤ v27_4.toInt → v27_4.toInt ≤ 12 → (12 - v27_4.toInt).toNat < n27 → Wd dC dI A s.heap H locs w1 → TW ksC ad cy B qr s1 w1 → FE ksC [(51, 0, 10)] w0 w1 → lv_has ls 8 [(0, .ref (ad 158)), (1, .int 0), (2, .int a2), (3, .int (-1)), (4, .int v27_4)] → W p l e ({ frames := 1, cells := 0, slots := 0, locals := 12 }) s m (List.toArray [.ref (ad 158), .int 0, .int a2, .int (-1)]) below meth c H locs 0 0 (MQ below (va_Qv (P_X10_layRoads_6 ad cy B qr s1 a2 w0) (fun u : va_W => wpost dC dI cy A u) A) (List.toArray [.ref (ad 158), .int 0, .int a2, .int (-1)]) s 0 0 A) (F0 m 27 ls []) := by
    intro n27
    induction n27 with
    | zero => intro v27_4 H locs ls w1 r2 t3 r4 t5 hm27 hw hT hF hl; omega
    | succ n27 ih27 =>
      intro v27_4 H locs ls w1 r2 t3 r4 t5 hm27 hw hT hF hl
      have J144 : ∀ (v144_5 : Int32) (v144_6 : Int32) (v144_7 : Int32) (f144_158_4 : Int32) (H : Heap) (locs : List Loc) (ls : Array Slot) (w6 : va_W), 0 ≤ a2.toInt → a2.toInt ≤ 3 → 0 ≤ v27_4.toInt → v27_4.toInt ≤ 11 → 0 ≤ v144_5.toInt → v144_5.toInt ≤ 9 → 0 ≤ v144_6.toInt → v144_6.toInt ≤ 9 → 0 ≤ v144_7.toInt → v144_7.toInt ≤ 1 → 1 ≤ f144_158_4.toInt → f144_158_4.toInt ≤ 12 → Wd dC dI A s.heap H locs w6 → TW ksC ad cy B qr s1 w6 → FE ksC [(51, 0, 10)] w0 w6 → gi w6 158 4 = f144_158_4 → lv_has ls 8 [(0, .ref (ad 158)), (1, .int 0), (2, .int a2), (3, .int (-1)), (4, .int v27_4), (5, .int v144_5), (6, .int v144_6), (7, .int v144_7)] → W p l e ({ frames := 1, cells := 0, slots := 0, locals := 12 }) s m (List.toArray [.ref (ad 158), .int 0, .int a2, .int (-1)]) below meth c H locs 0 0 (MQ below (va_Qv (P_X10_layRoads_6 ad cy B qr s1 a2 w0) (fun u : va_W => wpost dC dI cy A u) A) (List.toArray [.ref (ad 158), .int 0, .int a2, .int (-1)]) s 0 0 A) (F0 m 144 ls []) := by
        intro v144_5 v144_6 v144_7 f144_158_4 H locs ls w6 r7 t8 r9 t10 r11 t12 r13 t14 r15 t16 r17 t18 hw hT hF c19 hl
        obtain ⟨x20, ex20⟩ : ∃ y : Int32, y = v27_4 + Int32.ofInt 1 := ⟨_, rfl⟩
        refine lv_iinc (v := x20) (lv' := [(4, .int x20), (0, .ref (ad 158)), (1, .int 0), (2, .int a2), (3, .int (-1)), (5, .int v144_5), (6, .int v144_6), (7, .int v144_7)]) hx hb dX10_layRoads_144 hl (k := 4) rfl ex20.symm (by decide) rfl (fun ls hl => ?_)
        have ex20 : x20.toInt = v27_4.toInt + 1 := by rw [ex20]; exact wk_add (y := 1) (show -2147483648 ≤ v27_4.toInt + 1 by omega) (show v27_4.toInt + 1 ≤ 2147483647 by omega)
        refine lv_goto (tgt := 27) hx hb dX10_layRoads_147 (by decide) ?_
        exact ih27 x20 H locs ls w6 (show 0 ≤ a2.toInt by omega) (show a2.toInt ≤ 3 by omega) (show 0 ≤ x20.toInt by omega) (show x20.toInt ≤ 12 by omega) (show (12 - x20.toInt).toNat < n27 by omega) hw hT hF  (lv_sub hl [1, 2, 3, 4, 0] rfl)
      have J130 : ∀ (v130_5 : Int32) (v130_6 : Int32) (f130_158_4 : Int32) (H : Heap) (locs : List Loc) (ls : Array Slot) (w21 : va_W), 0 ≤ a2.toInt → a2.toInt ≤ 3 → 0 ≤ v27_4.toInt → v27_4.toInt ≤ 11 → 0 ≤ v130_5.toInt → v130_5.toInt ≤ 9 → 0 ≤ v130_6.toInt → v130_6.toInt ≤ 9 → 1 ≤ f130_158_4.toInt → f130_158_4.toInt ≤ 12 → Wd dC dI A s.heap H locs w21 → TW ksC ad cy B qr s1 w21 → FE ksC [(51, 0, 10)] w0 w21 → gi w21 158 4 = f130_158_4 → lv_has ls 8 [(0, .ref (ad 158)), (1, .int 0), (2, .int a2), (3, .int (-1)), (4, .int v27_4), (5, .int v130_5), (6, .int v130_6), (7, .int 1)] → W p l e ({ frames := 1, cells := 0, slots := 0, locals := 12 }) s m (List.toArray [.ref (ad 158), .int 0, .int a2, .int (-1)]) below meth c H locs 0 0 (MQ below (va_Qv (P_X10_layRoads_6 ad cy B qr s1 a2 w0) (fun u : va_W => wpost dC dI cy A u) A) (List.toArray [.ref (ad 158), .int 0, .int a2, .int (-1)]) s 0 0 A) (F0 m 130 ls []) := by
        intro v130_5 v130_6 f130_158_4 H locs ls w21 r22 t23 r24 t25 r26 t27 r28 t29 r30 t31 hw hT hF c32 hl
        refine lv_aload_n hx hb dX10_layRoads_130 rfl (lv_at hl 0 rfl) ?_
        refine tk_getA hC hK hw hT hinX10 kC_at158 (by decide) rfl 3 (by decide) (List.mem_of_getElem? (i := 1) rfl) rfl rfl dX10_layRoads_131 ?_
        refine lv_iload hx hb dX10_layRoads_134 (lv_at hl 6 rfl) ?_
        refine lv_dup2_11 hx hb dX10_layRoads_136 rfl rfl ?_
        refine tk_iald hC hK hw hT kC_at160 rfl rfl (show 0 ≤ v130_6.toInt by omega) (show v130_6.toInt < 10 by omega) dX10_layRoads_137 (fun x33 c34 rx33 tx33 => ?_)
        refine lv_iconst (v := 1) hx hb dX10_layRoads_138 (by decide) ?_
        refine lv_iload hx hb dX10_layRoads_139 (lv_at hl 5 rfl) ?_
        refine lv_ishl hx hb dX10_layRoads_141 ?_
        refine lv_topi (fun x35 ex35 => ?_)
        have bx35 : 1 ≤ x35.toInt ∧ x35.toInt ≤ 512 := by rw [ex35]; exact wk_shl1 9 (by decide) (by omega) (by omega)
        refine lv_ior hx hb dX10_layRoads_142 ?_
        refine lv_topi (fun x36 ex36 => ?_)
        have bx36 : 0 ≤ x36.toInt ∧ x36.toInt < 1024 := by rw [ex36]; exact wk_or 10 (by decide) (by omega) (by omega) (by omega) (by omega)
        refine tk_iast hC hK hw hT kC_at160 (by decide) rfl rfl (show 0 ≤ v130_6.toInt by omega) (show v130_6.toInt < 10 by omega) (show 0 ≤ x36.toInt by omega) (show x36.toInt ≤ 1023 by omega) dX10_layRoads_143 (fun H locs w37 hw hT k39 c38 => ?_)
        have hF := hF.put kC_at160 (inE_of (a := 0) (b := 10) (by decide) (show 0 ≤ v130_6.toInt.toNat by omega) (show v130_6.toInt.toNat ≤ 10 by omega)) k39
        have c40 := k39.gi (Or.inl (tk_ne kC_at158 kC_at160 (by decide))) c32
        exact J144 v130_5 v130_6 1 f130_158_4 H locs ls w37 (show 0 ≤ a2.toInt by omega) (show a2.toInt ≤ 3 by omega) (show 0 ≤ v27_4.toInt by omega) (show v27_4.toInt ≤ 11 by omega) (show 0 ≤ v130_5.toInt by omega) (show v130_5.toInt ≤ 9 by omega) (show 0 ≤ v130_6.toInt by omega) (show v130_6.toInt ≤ 9 by omega) (by decide) (by decide) (show 1 ≤ f130_158_4.toInt by omega) (show f130_158_4.toInt ≤ 12 by omega)  hw hT hF c40 (lv_sub hl [0, 1, 2, 3, 4, 5, 6, 7] rfl)
      have J118 : ∀ (v118_5 : Int32) (v118_6 : Int32) (v118_7 : Int32) (f118_158_4 : Int32) (H : Heap) (locs : List Loc) (ls : Array Slot) (w41 : va_W), 0 ≤ a2.toInt → a2.toInt ≤ 3 → 0 ≤ v27_4.toInt → v27_4.toInt ≤ 11 → 0 ≤ v118_5.toInt → v118_5.toInt ≤ 9 → 0 ≤ v118_6.toInt → v118_6.toInt ≤ 9 → 0 ≤ v118_7.toInt → v118_7.toInt ≤ 1 → 1 ≤ f118_158_4.toInt → f118_158_4.toInt ≤ 12 → Wd dC dI A s.heap H locs w41 → TW ksC ad cy B qr s1 w41 → FE ksC [(51, 0, 10)] w0 w41 → gi w41 158 4 = f118_158_4 → lv_has ls 8 [(0, .ref (ad 158)), (1, .int 0), (2, .int a2), (3, .int (-1)), (4, .int v27_4), (5, .int v118_5), (6, .int v118_6), (7, .int v118_7)] → W p l e ({ frames := 1, cells := 0, slots := 0, locals := 12 }) s m (List.toArray [.ref (ad 158), .int 0, .int a2, .int (-1)]) below meth c H locs 0 0 (MQ below (va_Qv (P_X10_layRoads_6 ad cy B qr s1 a2 w0) (fun u : va_W => wpost dC dI cy A u) A) (List.toArray [.ref (ad 158), .int 0, .int a2, .int (-1)]) s 0 0 A) (F0 m 118 ls []) := by
        intro v118_5 v118_6 v118_7 f118_158_4 H locs ls w41 r42 t43 r44 t45 r46 t47 r48 t49 r50 t51 r52 t53 hw hT hF c54 hl
        refine lv_iload hx hb dX10_layRoads_118 (lv_at hl 4 rfl) ?_
        refine lv_iload_n hx hb dX10_layRoads_120 rfl (lv_at hl 1 rfl) ?_
        refine lv_icmp_lt (tgt := 130) hx hb dX10_layRoads_121 (by decide) (fun c => absurd c (fun h => absurd (show v27_4.toInt < (0 : Int) from wk_lt.mp h) (by omega))) (fun _ => ?_)
        refine lv_iload hx hb dX10_layRoads_124 (lv_at hl 7 rfl) ?_
        refine lv_iconst (v := 1) hx hb dX10_layRoads_126 (by decide) ?_
        refine lv_icmp_ne (tgt := 144) hx hb dX10_layRoads_127 (by decide) (fun c55 => ?_) (fun c55 => ?_)
        · have c55 : ¬ v118_7.toInt = (1 : Int) := wk_eqF c55
          exact J144 v118_5 v118_6 v118_7 f118_158_4 H locs ls w41 (show 0 ≤ a2.toInt by omega) (show a2.toInt ≤ 3 by omega) (show 0 ≤ v27_4.toInt by omega) (show v27_4.toInt ≤ 11 by omega) (show 0 ≤ v118_5.toInt by omega) (show v118_5.toInt ≤ 9 by omega) (show 0 ≤ v118_6.toInt by omega) (show v118_6.toInt ≤ 9 by omega) (show 0 ≤ v118_7.toInt by omega) (show v118_7.toInt ≤ 1 by omega) (show 1 ≤ f118_158_4.toInt by omega) (show f118_158_4.toInt ≤ 12 by omega)  hw hT hF c54 (lv_sub hl [0, 1, 2, 3, 4, 5, 6, 7] rfl)
        · have c55 : v118_7.toInt = (1 : Int) := wk_eq.mp c55
          obtain rfl : v118_7 = 1 := wk_eq.mpr (show v118_7.toInt = 1 by omega)
          exact J130 v118_5 v118_6 f118_158_4 H locs ls w41 (show 0 ≤ a2.toInt by omega) (show a2.toInt ≤ 3 by omega) (show 0 ≤ v27_4.toInt by omega) (show v27_4.toInt ≤ 11 by omega) (show 0 ≤ v118_5.toInt by omega) (show v118_5.toInt ≤ 9 by omega) (show 0 ≤ v118_6.toInt by omega) (show v118_6.toInt ≤ 9 by omega) (show 1 ≤ f118_158_4.toInt by omega) (show f118_158_4.toInt ≤ 12 by omega)  hw hT hF c54 (lv_sub hl [0, 1, 2, 3, 4, 5, 6, 7] rfl)
      have J104 : ∀ (v104_5 : Int32) (v104_6 : Int32) (f104_158_4 : Int32) (H : Heap) (locs : List Loc) (ls : Array Slot) (w56 : va_W), 0 ≤ a2.toInt → a2.toInt ≤ 3 → 0 ≤ v27_4.toInt → v27_4.toInt ≤ 11 → 0 ≤ v104_5.toInt → v104_5.toInt ≤ 9 → 0 ≤ v104_6.toInt → v104_6.toInt ≤ 9 → 1 ≤ f104_158_4.toInt → f104_158_4.toInt ≤ 12 → Wd dC dI A s.heap H locs w56 → TW ksC ad cy B qr s1 w56 → FE ksC [(51, 0, 10)] w0 w56 → gi w56 158 4 = f104_158_4 → lv_has ls 8 [(0, .ref (ad 158)), (1, .int 0), (2, .int a2), (3, .int (-1)), (4, .int v27_4), (5, .int v104_5), (6, .int v104_6), (7, .int 0)] → W p l e ({ frames := 1, cells := 0, slots := 0, locals := 12 }) s m (List.toArray [.ref (ad 158), .int 0, .int a2, .int (-1)]) below meth c H locs 0 0 (MQ below (va_Qv (P_X10_layRoads_6 ad cy B qr s1 a2 w0) (fun u : va_W => wpost dC dI cy A u) A) (List.toArray [.ref (ad 158), .int 0, .int a2, .int (-1)]) s 0 0 A) (F0 m 104 ls []) := by
        intro v104_5 v104_6 f104_158_4 H locs ls w56 r57 t58 r59 t60 r61 t62 r63 t64 r65 t66 hw hT hF c67 hl
        refine lv_aload_n hx hb dX10_layRoads_104 rfl (lv_at hl 0 rfl) ?_
        refine tk_getA hC hK hw hT hinX10 kC_at158 (by decide) rfl 3 (by decide) (List.mem_of_getElem? (i := 1) rfl) rfl rfl dX10_layRoads_105 ?_
        refine lv_iload hx hb dX10_layRoads_108 (lv_at hl 5 rfl) ?_
        refine lv_dup2_11 hx hb dX10_layRoads_110 rfl rfl ?_
        refine tk_iald hC hK hw hT kC_at160 rfl rfl (show 0 ≤ v104_5.toInt by omega) (show v104_5.toInt < 10 by omega) dX10_layRoads_111 (fun x68 c69 rx68 tx68 => ?_)
        refine lv_iconst (v := 1) hx hb dX10_layRoads_112 (by decide) ?_
        refine lv_iload hx hb dX10_layRoads_113 (lv_at hl 6 rfl) ?_
        refine lv_ishl hx hb dX10_layRoads_115 ?_
        refine lv_topi (fun x70 ex70 => ?_)
        have bx70 : 1 ≤ x70.toInt ∧ x70.toInt ≤ 512 := by rw [ex70]; exact wk_shl1 9 (by decide) (by omega) (by omega)
        refine lv_ior hx hb dX10_layRoads_116 ?_
        refine lv_topi (fun x71 ex71 => ?_)
        have bx71 : 0 ≤ x71.toInt ∧ x71.toInt < 1024 := by rw [ex71]; exact wk_or 10 (by decide) (by omega) (by omega) (by omega) (by omega)
        refine tk_iast hC hK hw hT kC_at160 (by decide) rfl rfl (show 0 ≤ v104_5.toInt by omega) (show v104_5.toInt < 10 by omega) (show 0 ≤ x71.toInt by omega) (show x71.toInt ≤ 1023 by omega) dX10_layRoads_117 (fun H locs w72 hw hT k74 c73 => ?_)
        have hF := hF.put kC_at160 (inE_of (a := 0) (b := 10) (by decide) (show 0 ≤ v104_5.toInt.toNat by omega) (show v104_5.toInt.toNat ≤ 10 by omega)) k74
        have c75 := k74.gi (Or.inl (tk_ne kC_at158 kC_at160 (by decide))) c67
        exact J118 v104_5 v104_6 0 f104_158_4 H locs ls w72 (show 0 ≤ a2.toInt by omega) (show a2.toInt ≤ 3 by omega) (show 0 ≤ v27_4.toInt by omega) (show v27_4.toInt ≤ 11 by omega) (show 0 ≤ v104_5.toInt by omega) (show v104_5.toInt ≤ 9 by omega) (show 0 ≤ v104_6.toInt by omega) (show v104_6.toInt ≤ 9 by omega) (by decide) (by decide) (show 1 ≤ f104_158_4.toInt by omega) (show f104_158_4.toInt ≤ 12 by omega)  hw hT hF c75 (lv_sub hl [0, 1, 2, 3, 4, 5, 6, 7] rfl)
      refine lv_iload hx hb dX10_layRoads_27 (lv_at hl 4 rfl) ?_
      refine lv_aload_n hx hb dX10_layRoads_29 rfl (lv_at hl 0 rfl) ?_
      refine tk_geti hC hK hw hT hinX10 kC_at158 (by decide) rfl 4 (by decide) (List.mem_of_getElem? (i := 2) rfl) rfl rfl dX10_layRoads_30 (fun x76 c77 rx76 tx76 => ?_)
      refine lv_icmp_ge (tgt := 150) hx hb dX10_layRoads_33 (by decide) (fun c78 => ?_) (fun c78 => ?_)
      · have c78 : x76.toInt ≤ v27_4.toInt := wk_le.mp c78
        exact tk_vret hC hr hlocks hK ⟨hT, hF, trivial⟩ hw dX10_layRoads_150
      · have c78 : v27_4.toInt < x76.toInt := wk_leF c78
        refine lv_iload hx hb dX10_layRoads_36 (lv_at hl 4 rfl) ?_
        refine lv_iload_n hx hb dX10_layRoads_38 rfl (lv_at hl 3 rfl) ?_
        refine lv_icmp_ne (tgt := 45) hx hb dX10_layRoads_39 (by decide) (fun _ => ?_) (fun c => absurd (show v27_4.toInt = (-1 : Int) from wk_eq.mp c) (by omega))
        refine lv_aload_n hx hb dX10_layRoads_45 rfl (lv_at hl 0 rfl) ?_
        refine tk_getA hC hK hw hT hinX10 kC_at158 (by decide) rfl 1 (by decide) (List.mem_of_getElem? (i := 3) rfl) rfl rfl dX10_layRoads_46 ?_
        refine tk_getO hC hK hw hT hinX7 kC_at39 (by decide) rfl 0 (by decide) (List.mem_of_getElem? (i := 4) rfl) rfl rfl dX10_layRoads_49 ?_
        refine lv_iconst (v := 2) hx hb dX10_layRoads_52 (by decide) ?_
        refine lv_aload_n hx hb dX10_layRoads_53 rfl (lv_at hl 0 rfl) ?_
        refine tk_getA hC hK hw hT hinX10 kC_at158 (by decide) rfl 2 (by decide) (List.mem_of_getElem? (i := 5) rfl) rfl rfl dX10_layRoads_54 ?_
        refine lv_iload hx hb dX10_layRoads_57 (lv_at hl 4 rfl) ?_
        refine tk_iald hC hK hw hT kC_at159 rfl rfl (show 0 ≤ v27_4.toInt by omega) (show v27_4.toInt < 12 by omega) dX10_layRoads_59 (fun x79 c80 rx79 tx79 => ?_)
        refine lv_imul hx hb dX10_layRoads_60 ?_
        refine lv_topi (fun x81 ex81 => ?_)
        have ex81 : x81.toInt = (2 : Int) * x79.toInt := by rw [ex81]; exact wk_mul (show (-2147483648) ≤ (2 : Int) * x79.toInt by omega) (show (2 : Int) * x79.toInt ≤ 2147483647 by omega)
        refine tk_iald hC hK hw hT kC_at40 rfl rfl (show 0 ≤ x81.toInt by omega) (show x81.toInt < 26 by omega) dX10_layRoads_61 (fun x82 c83 rx82 tx82 => ?_)
        refine lv_istore (lv' := [(5, .int x82), (0, .ref (ad 158)), (1, .int 0), (2, .int a2), (3, .int (-1)), (4, .int v27_4)]) hx hb dX10_layRoads_62 hl (by decide) rfl (fun ls hl => ?_)
        refine lv_aload_n hx hb dX10_layRoads_64 rfl (lv_at hl 1 rfl) ?_
        refine tk_getA hC hK hw hT hinX10 kC_at158 (by decide) rfl 1 (by decide) (List.mem_of_getElem? (i := 3) rfl) rfl rfl dX10_layRoads_65 ?_
        refine tk_getO hC hK hw hT hinX7 kC_at39 (by decide) rfl 0 (by decide) (List.mem_of_getElem? (i := 4) rfl) rfl rfl dX10_layRoads_68 ?_
        refine lv_iconst (v := 2) hx hb dX10_layRoads_71 (by decide) ?_
        refine lv_aload_n hx hb dX10_layRoads_72 rfl (lv_at hl 1 rfl) ?_
        refine tk_getA hC hK hw hT hinX10 kC_at158 (by decide) rfl 2 (by decide) (List.mem_of_getElem? (i := 5) rfl) rfl rfl dX10_layRoads_73 ?_
        refine lv_iload hx hb dX10_layRoads_76 (lv_at hl 5 rfl) ?_
        refine tk_iald hC hK hw hT kC_at159 rfl rfl (show 0 ≤ v27_4.toInt by omega) (show v27_4.toInt < 12 by omega) dX10_layRoads_78 (fun x84 c85 rx84 tx84 => ?_)
        refine lv_imul hx hb dX10_layRoads_79 ?_
        refine lv_topi (fun x86 ex86 => ?_)
        have ex86 : x86.toInt = (2 : Int) * x84.toInt := by rw [ex86]; exact wk_mul (show (-2147483648) ≤ (2 : Int) * x84.toInt by omega) (show (2 : Int) * x84.toInt ≤ 2147483647 by omega)
        refine lv_iconst (v := 1) hx hb dX10_layRoads_80 (by decide) ?_
        refine lv_iadd hx hb dX10_layRoads_81 ?_
        refine lv_topi (fun x87 ex87 => ?_)
        have ex87 : x87.toInt = x86.toInt + (1 : Int) := by rw [ex87]; exact wk_add (show (-2147483648) ≤ x86.toInt + (1 : Int) by omega) (show x86.toInt + (1 : Int) ≤ 2147483647 by omega)
        refine tk_iald hC hK hw hT kC_at40 rfl rfl (show 0 ≤ x87.toInt by omega) (show x87.toInt < 26 by omega) dX10_layRoads_82 (fun x88 c89 rx88 tx88 => ?_)
        refine lv_istore (lv' := [(6, .int x88), (5, .int x82), (0, .ref (ad 158)), (1, .int 0), (2, .int a2), (3, .int (-1)), (4, .int v27_4)]) hx hb dX10_layRoads_83 hl (by decide) rfl (fun ls hl => ?_)
        refine lv_iload_n hx hb dX10_layRoads_85 rfl (lv_at hl 4 rfl) ?_
        refine lv_iload hx hb dX10_layRoads_86 (lv_at hl 6 rfl) ?_
        refine lv_ishr hx hb dX10_layRoads_88 ?_
        refine lv_topi (fun x90 ex90 => ?_)
        have bx90 : 0 ≤ x90.toInt ∧ x90.toInt ≤ a2.toInt := by rw [ex90]; exact wk_shr (by omega)
        refine lv_iconst (v := 1) hx hb dX10_layRoads_89 (by decide) ?_
        refine lv_iand hx hb dX10_layRoads_90 ?_
        refine lv_topi (fun x91 ex91 => ?_)
        have bx91 : 0 ≤ x91.toInt ∧ x91.toInt ≤ (1 : Int) := by rw [ex91]; exact wk_and (by decide)
        refine lv_istore (lv' := [(7, .int x91), (6, .int x88), (5, .int x82), (0, .ref (ad 158)), (1, .int 0), (2, .int a2), (3, .int (-1)), (4, .int v27_4)]) hx hb dX10_layRoads_91 hl (by decide) rfl (fun ls hl => ?_)
        refine lv_iload hx hb dX10_layRoads_93 (lv_at hl 7 rfl) ?_
        refine lv_iload_n hx hb dX10_layRoads_95 rfl (lv_at hl 4 rfl) ?_
        refine lv_icmp_lt (tgt := 104) hx hb dX10_layRoads_96 (by decide) (fun c => absurd c (fun h => absurd (show v27_4.toInt < (0 : Int) from wk_lt.mp h) (by omega))) (fun _ => ?_)
        refine lv_iload hx hb dX10_layRoads_99 (lv_at hl 0 rfl) ?_
        refine lv_if_ne (tgt := 118) hx hb dX10_layRoads_101 (by decide) (fun c92 => ?_) (fun c92 => ?_)
        · have c92 : ¬ x91.toInt = (0 : Int) := wk_eqF c92
          exact J118 x82 x88 x91 x76 H locs ls w1 (show 0 ≤ a2.toInt by omega) (show a2.toInt ≤ 3 by omega) (show 0 ≤ v27_4.toInt by omega) (show v27_4.toInt ≤ 11 by omega) (show 0 ≤ x82.toInt by omega) (show x82.toInt ≤ 9 by omega) (show 0 ≤ x88.toInt by omega) (show x88.toInt ≤ 9 by omega) (show 0 ≤ x91.toInt by omega) (show x91.toInt ≤ 1 by omega) (show 1 ≤ x76.toInt by omega) (show x76.toInt ≤ 12 by omega)  hw hT hF c77 (lv_sub hl [3, 4, 5, 6, 7, 2, 1, 0] rfl)
        · have c92 : x91.toInt = (0 : Int) := wk_eq.mp c92
          obtain rfl : x91 = 0 := wk_eq.mpr (show x91.toInt = 0 by omega)
          exact J104 x82 x88 x76 H locs ls w1 (show 0 ≤ a2.toInt by omega) (show a2.toInt ≤ 3 by omega) (show 0 ≤ v27_4.toInt by omega) (show v27_4.toInt ≤ 11 by omega) (show 0 ≤ x82.toInt by omega) (show x82.toInt ≤ 9 by omega) (show 0 ≤ x88.toInt by omega) (show x88.toInt ≤ 9 by omega) (show 1 ≤ x76.toInt by omega) (show x76.toInt ≤ 12 by omega)  hw hT hF c77 (lv_sub hl [3, 4, 5, 6, 7, 2, 1, 0] rfl)
  have L3 : ∀ (n3 : Nat) (v3_4 : Int32) (H : Heap) (locs : List Loc) (ls : Array Slot) (w93 : va_W), 0 ≤ a2.toInt → a2.toInt ≤ 3 → 0 ≤ v3_4.toInt → v3_4.toInt ≤ 10 → (10 - v3_4.toInt).toNat < n3 → Wd dC dI A s.heap H locs w93 → TW ksC ad cy B qr s1 w93 → FE ksC [(51, 0, 10)] w0 w93 → lv_has ls 8 [(0, .ref (ad 158)), (1, .int 0), (2, .int a2), (3, .int (-1)), (4, .int v3_4)] → W p l e ({ frames := 1, cells := 0, slots := 0, locals := 12 }) s m (List.toArray [.ref (ad 158), .int 0, .int a2, .int (-1)]) below meth c H locs 0 0 (MQ below (va_Qv (P_X10_layRoads_6 ad cy B qr s1 a2 w0) (fun u : va_W => wpost dC dI cy A u) A) (List.toArray [.ref (ad 158), .int 0, .int a2, .int (-1)]) s 0 0 A) (F0 m 3 ls []) := by
    intro n3
    induction n3 with
    | zero => intro v3_4 H locs ls w93 r94 t95 r96 t97 hm3 hw hT hF hl; omega
    | succ n3 ih3 =>
      intro v3_4 H locs ls w93 r94 t95 r96 t97 hm3 hw hT hF hl
      refine lv_iload hx hb dX10_layRoads_3 (lv_at hl 4 rfl) ?_
      refine lv_bipush (v := 10) hx hb dX10_layRoads_5 (by decide) ?_
      refine lv_icmp_ge (tgt := 24) hx hb dX10_layRoads_7 (by decide) (fun c98 => ?_) (fun c98 => ?_)
      · have c98 : (10 : Int) ≤ v3_4.toInt := wk_le.mp c98
        refine lv_iconst (v := 0) hx hb dX10_layRoads_24 (by decide) ?_
        refine lv_istore (lv' := [(4, .int 0), (0, .ref (ad 158)), (1, .int 0), (2, .int a2), (3, .int (-1))]) hx hb dX10_layRoads_25 hl (by decide) rfl (fun ls hl => ?_)
        exact L27 ((12 - (0 : Int)).toNat + 1) 0 H locs ls w93 (show 0 ≤ a2.toInt by omega) (show a2.toInt ≤ 3 by omega) (by decide) (by decide) (Nat.lt_succ_self _) hw hT hF  (lv_sub hl [1, 2, 3, 4, 0] rfl)
      · have c98 : v3_4.toInt < (10 : Int) := wk_leF c98
        refine lv_aload_n hx hb dX10_layRoads_10 rfl (lv_at hl 0 rfl) ?_
        refine tk_getA hC hK hw hT hinX10 kC_at158 (by decide) rfl 3 (by decide) (List.mem_of_getElem? (i := 1) rfl) rfl rfl dX10_layRoads_11 ?_
        refine lv_iload hx hb dX10_layRoads_14 (lv_at hl 4 rfl) ?_
        refine lv_iconst (v := 0) hx hb dX10_layRoads_16 (by decide) ?_
        refine tk_iast hC hK hw hT kC_at160 (by decide) rfl rfl (show 0 ≤ v3_4.toInt by omega) (show v3_4.toInt < 10 by omega) (by decide) (by decide) dX10_layRoads_17 (fun H locs w99 hw hT k101 c100 => ?_)
        have hF := hF.put kC_at160 (inE_of (a := 0) (b := 10) (by decide) (show 0 ≤ v3_4.toInt.toNat by omega) (show v3_4.toInt.toNat ≤ 10 by omega)) k101
        obtain ⟨x102, ex102⟩ : ∃ y : Int32, y = v3_4 + Int32.ofInt 1 := ⟨_, rfl⟩
        refine lv_iinc (v := x102) (lv' := [(4, .int x102), (0, .ref (ad 158)), (1, .int 0), (2, .int a2), (3, .int (-1))]) hx hb dX10_layRoads_18 hl (k := 4) rfl ex102.symm (by decide) rfl (fun ls hl => ?_)
        have ex102 : x102.toInt = v3_4.toInt + 1 := by rw [ex102]; exact wk_add (y := 1) (show -2147483648 ≤ v3_4.toInt + 1 by omega) (show v3_4.toInt + 1 ≤ 2147483647 by omega)
        refine lv_goto (tgt := 3) hx hb dX10_layRoads_21 (by decide) ?_
        exact ih3 x102 H locs ls w99 (show 0 ≤ a2.toInt by omega) (show a2.toInt ≤ 3 by omega) (show 0 ≤ x102.toInt by omega) (show x102.toInt ≤ 10 by omega) (show (10 - x102.toInt).toNat < n3 by omega) hw hT hF  (lv_sub hl [1, 2, 3, 4, 0] rfl)
  refine lv_iconst (v := 0) hx hb dX10_layRoads_0 (by decide) ?_
  refine lv_istore (lv' := [(4, .int 0), (0, .ref (ad 158)), (1, .int 0), (2, .int a2), (3, .int (-1))]) hx hb dX10_layRoads_1 hl (by decide) rfl (fun ls hl => ?_)
  exact L3 ((10 - (0 : Int)).toNat + 1) 0 s.heap locs ls w0 (show 0 ≤ a2.toInt by omega) (show a2.toInt ≤ 3 by omega) (by decide) (by decide) (Nat.lt_succ_self _) hw hT hF  (lv_sub hl [1, 2, 3, 4, 0] rfl)
abbrev P_X10_leastBelow_16 (ad : Nat → Nat) (cy : Nat → ClassId) (B : Int) (qr : Nat) (s1 : Int) (a2 : Int32) (w0 : va_W) : Int32 → va_W → Prop := fun r u => TW ksC ad cy B qr s1 u ∧ FE ksC [(51, 0, 10)] w0 u ∧ ((0 ≤ r.toInt ∧ r.toInt ≤ 3) ∨ (r = (-1) ∧ (∃ y : Int32, gi u 38 10 = y ∧ 1 ≤ y.toInt ∧ y.toInt ≤ 6)))
set_option maxHeartbeats 4000000 in
set_option maxRecDepth 100000 in
theorem k_X10_leastBelow_16 (l : Launch) (adK adV : Nat → Nat) (dC : Nat → ClassId) (dI : Nat → Nat → Nat) (cy : Nat → ClassId) (ad : Nat → Nat) (B : Int) (hB0 : 2147483648 ≤ B) (hB1 : B ≤ 1152921504606846976) (qr : Nat) (s1 : Int)  (a2 : Int32) (ra2 : 0 ≤ a2.toInt) (ta2 : a2.toInt ≤ 3) (w0 : va_W) (sz : Nat) (hT : TW ksC ad cy B qr s1 w0)  : Met l yX10_leastBelow wsX10_leastBelow ({ frames := 3, cells := 0, slots := 0, locals := 59 }) (va_Pc [.ref (ad 158), .int 0, .int a2] (wpreS adK adV dC dI cy sz w0)) (va_Qi (P_X10_leastBelow_16 ad cy B qr s1 a2 w0) (fun u : va_W => wpost dC dI cy (va_A w0 sz) u) (va_A w0 sz)) 0 0 (va_A w0 sz) := by
  refine Met.ofW (cc := cX10_leastBelow) (maxL := 4) (ret := (some .int)) (by decide) rfl ?_
  intro p e s m args below meth c s₁ Bk hml hv
  obtain ⟨rfl, ⟨hsz, hP, hK, hD0⟩, hE, hSR⟩ := hv
  have hx := Bk.exec
  have hb := Bk.bytes
  have hr := Bk.returns
  have hlocks := Bk.notSynchronized
  have hC : CallFix p m c cX10_leastBelow 4 s _ wsX10_leastBelow RX10 := ⟨hx, hb, hml, findClass_of_methodNamed Bk.named, atoms_spec (ws := wsX10_leastBelow) Bk.pre⟩
  subst hsz
  have hD := hD0.self (sz := s.heap.size)
  generalize hAe : va_A w0 s.heap.size = A at hD hE ⊢
  have hA : ∀ q : Nat, s.heap.size ≤ q → A q := fun q h => by rw [← hAe]; exact Or.inr h
  have hw : Wd dC dI A s.heap s.heap [] w0 := ⟨hP, hD, va_S.rf⟩
  have hF : FE ksC [(51, 0, 10)] w0 w0 := FE.rf
  have hl := lv_entry ([.ref (ad 158), .int 0, .int a2]) (n := 4) (Nat.le_of_ble_eq_true rfl)
  rw [lg_entry_eq]
  generalize (lg_sl ([.ref (ad 158), .int 0, .int a2]) ++ List.replicate (4 - (lg_sl ([.ref (ad 158), .int 0, .int a2])).length) Slot.unset).toArray = ls at hl ⊢
  have hl : lv_has ls 4 [(0, .ref (ad 158)), (1, .int 0), (2, .int a2)] := hl
  generalize hloc : ([] : List Loc) = locs at hw ⊢
  have hinX10 : ∀ w ∈ u_ws RX10 TX10 5, w ∈ wsX10_leastBelow := fun _ h => List.mem_cons_of_mem _ (List.mem_append_left _ (List.mem_append_left _ (List.mem_append_right _ (h))))
  have hinX5 : ∀ w ∈ u_ws RX5 TX5 14, w ∈ wsX10_leastBelow := fun _ h => List.mem_cons_of_mem _ (List.mem_append_left _ (List.mem_append_right _ (h)))
  have L9 : ∀ (n9 : Nat) (v9_3 : Int32) (H : Heap) (locs : List Loc) (ls : Array Slot) (w1 : va_W), 0 ≤ a2.toInt → a2.toInt ≤ 3 → 0 ≤ v9_3.toInt → v9_3.toInt ≤ 6 → (6 - v9_3.toInt).toNat < n9 → Wd dC dI A s.heap H locs w1 → TW ksC ad cy B qr s1 w1 → FE ksC [(51, 0, 10)] w0 w1 → lv_has ls 4 [(0, .ref (ad 158)), (1, .int 0), (2, .int a2), (3, .int v9_3)] → W p l e ({ frames := 3, cells := 0, slots := 0, locals := 59 }) s m (List.toArray [.ref (ad 158), .int 0, .int a2]) below meth c H locs 0 0 (MQ below (va_Qi (P_X10_leastBelow_16 ad cy B qr s1 a2 w0) (fun u : va_W => wpost dC dI cy A u) A) (List.toArray [.ref (ad 158), .int 0, .int a2]) s 0 0 A) (F0 m 9 ls []) := by
    intro n9
    induction n9 with
    | zero => intro v9_3 H locs ls w1 r2 t3 r4 t5 hm9 hw hT hF hl; omega
    | succ n9 ih9 =>
      intro v9_3 H locs ls w1 r2 t3 r4 t5 hm9 hw hT hF hl
      refine lv_iload_n hx hb dX10_leastBelow_9 rfl (lv_at hl 3 rfl) ?_
      refine lv_aload_n hx hb dX10_leastBelow_10 rfl (lv_at hl 0 rfl) ?_
      refine tk_getA hC hK hw hT hinX10 kC_at158 (by decide) rfl 0 (by decide) (List.mem_of_getElem? (i := 1) rfl) rfl rfl dX10_leastBelow_11 ?_
      refine tk_geti hC hK hw hT hinX5 kC_at38 (by decide) rfl 10 (by decide) (List.mem_of_getElem? (i := 2) rfl) rfl rfl dX10_leastBelow_14 (fun x6 c7 rx6 tx6 => ?_)
      refine lv_icmp_ge (tgt := 36) hx hb dX10_leastBelow_17 (by decide) (fun c8 => ?_) (fun c8 => ?_)
      · have c8 : x6.toInt ≤ v9_3.toInt := wk_le.mp c8
        refine lv_iload_n hx hb dX10_leastBelow_36 rfl (lv_at hl 1 rfl) ?_
        refine lv_if_gt (tgt := 42) hx hb dX10_leastBelow_37 (by decide) (fun c => absurd c (by decide)) (fun _ => ?_)
        refine lv_iload_n hx hb dX10_leastBelow_40 rfl (lv_at hl 2 rfl) ?_
        exact tk_iret hC hr hlocks hK ⟨hT, hF, (Or.inl ⟨(show 0 ≤ a2.toInt by omega), (show a2.toInt ≤ 3 by omega)⟩)⟩ hw dX10_leastBelow_41
      · have c8 : v9_3.toInt < x6.toInt := wk_leF c8
        refine lv_aload_n hx hb dX10_leastBelow_20 rfl (lv_at hl 0 rfl) ?_
        refine lv_iload_n hx hb dX10_leastBelow_21 rfl (lv_at hl 3 rfl) ?_
        refine tk_Vi hC hK hw hT hA hE hSR kC_at158 (by decide) rfl (k_X10_canDo_1 l adK adV dC dI cy ad B (by omega) (by omega) qr s1   v9_3 (show 0 ≤ v9_3.toInt by omega) (show v9_3.toInt ≤ 5 by omega) w1 H.size hT ) (cwV 1 hC.2.2.2.2 gX10_leastBelow_X10_canDo rfl rfl rfl (by decide +kernel) ⟨Nat.le_of_ble_eq_true rfl, Nat.le_of_ble_eq_true rfl⟩) rfl hl.1 rfl (Nat.le_of_ble_eq_true rfl) dX10_leastBelow_22 (fun r9 w11 H locs hp10 hw => ?_)
        obtain ⟨hT, k12, hg13⟩ := hp10
        have hF := hF.tr k12 (by decide)
        have c14 := k12.gi kC_at38 (by decide) c7
        rcases hg13 with rfl | rfl
        · refine lv_if_ne (tgt := 30) hx hb dX10_leastBelow_25 (by decide) (fun c => absurd (by decide) c) (fun _ => ?_)
          refine lv_iconst (v := (-1)) hx hb dX10_leastBelow_28 (by decide) ?_
          exact tk_iret hC hr hlocks hK ⟨hT, hF, (Or.inr ⟨rfl, ⟨x6, c14, (show 1 ≤ x6.toInt by omega), (show x6.toInt ≤ 6 by omega)⟩⟩)⟩ hw dX10_leastBelow_29
        · refine lv_if_ne (tgt := 30) hx hb dX10_leastBelow_25 (by decide) (fun _ => ?_) (fun c => absurd c (by decide))
          obtain ⟨x15, ex15⟩ : ∃ y : Int32, y = v9_3 + Int32.ofInt 1 := ⟨_, rfl⟩
          refine lv_iinc (v := x15) (lv' := [(3, .int x15), (0, .ref (ad 158)), (1, .int 0), (2, .int a2)]) hx hb dX10_leastBelow_30 hl (k := 3) rfl ex15.symm (by decide) rfl (fun ls hl => ?_)
          have ex15 : x15.toInt = v9_3.toInt + 1 := by rw [ex15]; exact wk_add (y := 1) (show -2147483648 ≤ v9_3.toInt + 1 by omega) (show v9_3.toInt + 1 ≤ 2147483647 by omega)
          refine lv_goto (tgt := 9) hx hb dX10_leastBelow_33 (by decide) ?_
          exact ih9 x15 H locs ls w11 (show 0 ≤ a2.toInt by omega) (show a2.toInt ≤ 3 by omega) (show 0 ≤ x15.toInt by omega) (show x15.toInt ≤ 6 by omega) (show (6 - x15.toInt).toNat < n9 by omega) hw hT hF  (lv_sub hl [1, 2, 3, 0] rfl)
  refine lv_aload_n hx hb dX10_leastBelow_0 rfl (lv_at hl 0 rfl) ?_
  refine lv_iload_n hx hb dX10_leastBelow_1 rfl (lv_at hl 1 rfl) ?_
  refine lv_iload_n hx hb dX10_leastBelow_2 rfl (lv_at hl 2 rfl) ?_
  refine lv_iconst (v := (-1)) hx hb dX10_leastBelow_3 (by decide) ?_
  refine tk_Vv hC hK hw hT hA hE hSR kC_at158 (by decide) rfl (k_X10_layRoads_6 l adK adV dC dI cy ad B (by omega) (by omega) qr s1   a2 (show 0 ≤ a2.toInt by omega) (show a2.toInt ≤ 3 by omega) w0 s.heap.size hT ) (cwV 3 hC.2.2.2.2 gX10_leastBelow_X10_layRoads rfl rfl rfl (by decide +kernel) ⟨Nat.le_of_ble_eq_true rfl, Nat.le_of_ble_eq_true rfl⟩) rfl hl.1 rfl (Nat.le_of_ble_eq_true rfl) dX10_leastBelow_4 (fun w18 H locs hp17 hw => ?_)
  obtain ⟨hT, k19, hg20⟩ := hp17
  have hF := hF.tr k19 (by decide)
  clear hg20
  refine lv_iconst (v := 0) hx hb dX10_leastBelow_7 (by decide) ?_
  refine lv_istore_n (lv' := [(3, .int 0), (0, .ref (ad 158)), (1, .int 0), (2, .int a2)]) hx hb dX10_leastBelow_8 rfl hl (by decide) rfl (fun ls hl => ?_)
  exact L9 ((6 - (0 : Int)).toNat + 1) 0 H locs ls w18 (show 0 ≤ a2.toInt by omega) (show a2.toInt ≤ 3 by omega) (by decide) (by decide) (Nat.lt_succ_self _) hw hT hF  (lv_sub hl [1, 2, 3, 0] rfl)
abbrev P_X10_layRoads_7 (ad : Nat → Nat) (cy : Nat → ClassId) (B : Int) (qr : Nat) (s1 : Int) (a1 : Int32) (a2 : Int32) (w0 : va_W) : va_W → Prop := fun u => TW ksC ad cy B qr s1 u ∧ FE ksC [(51, 0, 10)] w0 u ∧ ((True))
set_option maxHeartbeats 4000000 in
set_option maxRecDepth 100000 in
theorem k_X10_layRoads_7 (l : Launch) (adK adV : Nat → Nat) (dC : Nat → ClassId) (dI : Nat → Nat → Nat) (cy : Nat → ClassId) (ad : Nat → Nat) (B : Int) (hB0 : 2147483648 ≤ B) (hB1 : B ≤ 1152921504606846976) (qr : Nat) (s1 : Int)  (a1 : Int32) (ra1 : 0 ≤ a1.toInt) (ta1 : a1.toInt ≤ 1) (a2 : Int32) (ra2 : 0 ≤ a2.toInt) (ta2 : a2.toInt ≤ 3) (w0 : va_W) (sz : Nat) (hT : TW ksC ad cy B qr s1 w0)  : Met l yX10_layRoads wsX10_layRoads ({ frames := 1, cells := 0, slots := 0, locals := 12 }) (va_Pc [.ref (ad 158), .int a1, .int a2, .int (-1)] (wpreS adK adV dC dI cy sz w0)) (va_Qv (P_X10_layRoads_7 ad cy B qr s1 a1 a2 w0) (fun u : va_W => wpost dC dI cy (va_A w0 sz) u) (va_A w0 sz)) 0 0 (va_A w0 sz) := by
  refine Met.ofW (cc := cX10_layRoads) (maxL := 8) (ret := none) (by decide) rfl ?_
  intro p e s m args below meth c s₁ Bk hml hv
  obtain ⟨rfl, ⟨hsz, hP, hK, hD0⟩, hE, hSR⟩ := hv
  have hx := Bk.exec
  have hb := Bk.bytes
  have hr := Bk.returns
  have hlocks := Bk.notSynchronized
  have hC : CallFix p m c cX10_layRoads 8 s _ wsX10_layRoads RX10 := ⟨hx, hb, hml, findClass_of_methodNamed Bk.named, atoms_spec (ws := wsX10_layRoads) Bk.pre⟩
  subst hsz
  have hD := hD0.self (sz := s.heap.size)
  generalize hAe : va_A w0 s.heap.size = A at hD hE ⊢
  have hA : ∀ q : Nat, s.heap.size ≤ q → A q := fun q h => by rw [← hAe]; exact Or.inr h
  have hw : Wd dC dI A s.heap s.heap [] w0 := ⟨hP, hD, va_S.rf⟩
  have hF : FE ksC [(51, 0, 10)] w0 w0 := FE.rf
  have hl := lv_entry ([.ref (ad 158), .int a1, .int a2, .int (-1)]) (n := 8) (Nat.le_of_ble_eq_true rfl)
  rw [lg_entry_eq]
  generalize (lg_sl ([.ref (ad 158), .int a1, .int a2, .int (-1)]) ++ List.replicate (8 - (lg_sl ([.ref (ad 158), .int a1, .int a2, .int (-1)])).length) Slot.unset).toArray = ls at hl ⊢
  have hl : lv_has ls 8 [(0, .ref (ad 158)), (1, .int a1), (2, .int a2), (3, .int (-1))] := hl
  generalize hloc : ([] : List Loc) = locs at hw ⊢
  have hinX10 : ∀ w ∈ u_ws RX10 TX10 5, w ∈ wsX10_layRoads := fun _ h => List.mem_cons_of_mem _ (List.mem_append_left _ (List.mem_append_right _ (h)))
  have hinX7 : ∀ w ∈ u_ws RX7 TX7 12, w ∈ wsX10_layRoads := fun _ h => List.mem_cons_of_mem _ (List.mem_append_right _ (h))
  have L27 : ∀ (n27 : Nat) (v27_4 : Int32) (H : Heap) (locs : List Loc) (ls : Array Slot) (w1 : va_W), 0 ≤ a1.toInt → a1.toInt ≤ 1 → 0 ≤ a2.toInt → a2.toInt ≤ 3 → 0 ≤ v27_4.toInt → v27_4.toInt ≤ 12 → (12 - v27_4.toInt).toNat < n27 → Wd dC dI A s.heap H locs w1 → TW ksC ad cy B qr s1 w1 → FE ksC [(51, 0, 10)] w0 w1 → lv_has ls 8 [(0, .ref (ad 158)), (1, .int a1), (2, .int a2), (3, .int (-1)), (4, .int v27_4)] → W p l e ({ frames := 1, cells := 0, slots := 0, locals := 12 }) s m (List.toArray [.ref (ad 158), .int a1, .int a2, .int (-1)]) below meth c H locs 0 0 (MQ below (va_Qv (P_X10_layRoads_7 ad cy B qr s1 a1 a2 w0) (fun u : va_W => wpost dC dI cy A u) A) (List.toArray [.ref (ad 158), .int a1, .int a2, .int (-1)]) s 0 0 A) (F0 m 27 ls []) := by
    intro n27
    induction n27 with
    | zero => intro v27_4 H locs ls w1 r2 t3 r4 t5 r6 t7 hm27 hw hT hF hl; omega
    | succ n27 ih27 =>
      intro v27_4 H locs ls w1 r2 t3 r4 t5 r6 t7 hm27 hw hT hF hl
      have J144 : ∀ (v144_5 : Int32) (v144_6 : Int32) (v144_7 : Int32) (f144_158_4 : Int32) (H : Heap) (locs : List Loc) (ls : Array Slot) (w8 : va_W), 0 ≤ a1.toInt → a1.toInt ≤ 1 → 0 ≤ a2.toInt → a2.toInt ≤ 3 → 0 ≤ v27_4.toInt → v27_4.toInt ≤ 11 → 0 ≤ v144_5.toInt → v144_5.toInt ≤ 9 → 0 ≤ v144_6.toInt → v144_6.toInt ≤ 9 → 0 ≤ v144_7.toInt → v144_7.toInt ≤ 1 → 1 ≤ f144_158_4.toInt → f144_158_4.toInt ≤ 12 → Wd dC dI A s.heap H locs w8 → TW ksC ad cy B qr s1 w8 → FE ksC [(51, 0, 10)] w0 w8 → gi w8 158 4 = f144_158_4 → lv_has ls 8 [(0, .ref (ad 158)), (1, .int a1), (2, .int a2), (3, .int (-1)), (4, .int v27_4), (5, .int v144_5), (6, .int v144_6), (7, .int v144_7)] → W p l e ({ frames := 1, cells := 0, slots := 0, locals := 12 }) s m (List.toArray [.ref (ad 158), .int a1, .int a2, .int (-1)]) below meth c H locs 0 0 (MQ below (va_Qv (P_X10_layRoads_7 ad cy B qr s1 a1 a2 w0) (fun u : va_W => wpost dC dI cy A u) A) (List.toArray [.ref (ad 158), .int a1, .int a2, .int (-1)]) s 0 0 A) (F0 m 144 ls []) := by
        intro v144_5 v144_6 v144_7 f144_158_4 H locs ls w8 r9 t10 r11 t12 r13 t14 r15 t16 r17 t18 r19 t20 r21 t22 hw hT hF c23 hl
        obtain ⟨x24, ex24⟩ : ∃ y : Int32, y = v27_4 + Int32.ofInt 1 := ⟨_, rfl⟩
        refine lv_iinc (v := x24) (lv' := [(4, .int x24), (0, .ref (ad 158)), (1, .int a1), (2, .int a2), (3, .int (-1)), (5, .int v144_5), (6, .int v144_6), (7, .int v144_7)]) hx hb dX10_layRoads_144 hl (k := 4) rfl ex24.symm (by decide) rfl (fun ls hl => ?_)
        have ex24 : x24.toInt = v27_4.toInt + 1 := by rw [ex24]; exact wk_add (y := 1) (show -2147483648 ≤ v27_4.toInt + 1 by omega) (show v27_4.toInt + 1 ≤ 2147483647 by omega)
        refine lv_goto (tgt := 27) hx hb dX10_layRoads_147 (by decide) ?_
        exact ih27 x24 H locs ls w8 (show 0 ≤ a1.toInt by omega) (show a1.toInt ≤ 1 by omega) (show 0 ≤ a2.toInt by omega) (show a2.toInt ≤ 3 by omega) (show 0 ≤ x24.toInt by omega) (show x24.toInt ≤ 12 by omega) (show (12 - x24.toInt).toNat < n27 by omega) hw hT hF  (lv_sub hl [1, 2, 3, 4, 0] rfl)
      have J130 : ∀ (v130_5 : Int32) (v130_6 : Int32) (v130_7 : Int32) (f130_158_4 : Int32) (H : Heap) (locs : List Loc) (ls : Array Slot) (w25 : va_W), 0 ≤ a1.toInt → a1.toInt ≤ 1 → 0 ≤ a2.toInt → a2.toInt ≤ 3 → 0 ≤ v27_4.toInt → v27_4.toInt ≤ 11 → 0 ≤ v130_5.toInt → v130_5.toInt ≤ 9 → 0 ≤ v130_6.toInt → v130_6.toInt ≤ 9 → 0 ≤ v130_7.toInt → v130_7.toInt ≤ 1 → 1 ≤ f130_158_4.toInt → f130_158_4.toInt ≤ 12 → Wd dC dI A s.heap H locs w25 → TW ksC ad cy B qr s1 w25 → FE ksC [(51, 0, 10)] w0 w25 → gi w25 158 4 = f130_158_4 → lv_has ls 8 [(0, .ref (ad 158)), (1, .int a1), (2, .int a2), (3, .int (-1)), (4, .int v27_4), (5, .int v130_5), (6, .int v130_6), (7, .int v130_7)] → W p l e ({ frames := 1, cells := 0, slots := 0, locals := 12 }) s m (List.toArray [.ref (ad 158), .int a1, .int a2, .int (-1)]) below meth c H locs 0 0 (MQ below (va_Qv (P_X10_layRoads_7 ad cy B qr s1 a1 a2 w0) (fun u : va_W => wpost dC dI cy A u) A) (List.toArray [.ref (ad 158), .int a1, .int a2, .int (-1)]) s 0 0 A) (F0 m 130 ls []) := by
        intro v130_5 v130_6 v130_7 f130_158_4 H locs ls w25 r26 t27 r28 t29 r30 t31 r32 t33 r34 t35 r36 t37 r38 t39 hw hT hF c40 hl
        refine lv_aload_n hx hb dX10_layRoads_130 rfl (lv_at hl 0 rfl) ?_
        refine tk_getA hC hK hw hT hinX10 kC_at158 (by decide) rfl 3 (by decide) (List.mem_of_getElem? (i := 1) rfl) rfl rfl dX10_layRoads_131 ?_
        refine lv_iload hx hb dX10_layRoads_134 (lv_at hl 6 rfl) ?_
        refine lv_dup2_11 hx hb dX10_layRoads_136 rfl rfl ?_
        refine tk_iald hC hK hw hT kC_at160 rfl rfl (show 0 ≤ v130_6.toInt by omega) (show v130_6.toInt < 10 by omega) dX10_layRoads_137 (fun x41 c42 rx41 tx41 => ?_)
        refine lv_iconst (v := 1) hx hb dX10_layRoads_138 (by decide) ?_
        refine lv_iload hx hb dX10_layRoads_139 (lv_at hl 5 rfl) ?_
        refine lv_ishl hx hb dX10_layRoads_141 ?_
        refine lv_topi (fun x43 ex43 => ?_)
        have bx43 : 1 ≤ x43.toInt ∧ x43.toInt ≤ 512 := by rw [ex43]; exact wk_shl1 9 (by decide) (by omega) (by omega)
        refine lv_ior hx hb dX10_layRoads_142 ?_
        refine lv_topi (fun x44 ex44 => ?_)
        have bx44 : 0 ≤ x44.toInt ∧ x44.toInt < 1024 := by rw [ex44]; exact wk_or 10 (by decide) (by omega) (by omega) (by omega) (by omega)
        refine tk_iast hC hK hw hT kC_at160 (by decide) rfl rfl (show 0 ≤ v130_6.toInt by omega) (show v130_6.toInt < 10 by omega) (show 0 ≤ x44.toInt by omega) (show x44.toInt ≤ 1023 by omega) dX10_layRoads_143 (fun H locs w45 hw hT k47 c46 => ?_)
        have hF := hF.put kC_at160 (inE_of (a := 0) (b := 10) (by decide) (show 0 ≤ v130_6.toInt.toNat by omega) (show v130_6.toInt.toNat ≤ 10 by omega)) k47
        have c48 := k47.gi (Or.inl (tk_ne kC_at158 kC_at160 (by decide))) c40
        exact J144 v130_5 v130_6 v130_7 f130_158_4 H locs ls w45 (show 0 ≤ a1.toInt by omega) (show a1.toInt ≤ 1 by omega) (show 0 ≤ a2.toInt by omega) (show a2.toInt ≤ 3 by omega) (show 0 ≤ v27_4.toInt by omega) (show v27_4.toInt ≤ 11 by omega) (show 0 ≤ v130_5.toInt by omega) (show v130_5.toInt ≤ 9 by omega) (show 0 ≤ v130_6.toInt by omega) (show v130_6.toInt ≤ 9 by omega) (show 0 ≤ v130_7.toInt by omega) (show v130_7.toInt ≤ 1 by omega) (show 1 ≤ f130_158_4.toInt by omega) (show f130_158_4.toInt ≤ 12 by omega)  hw hT hF c48 (lv_sub hl [0, 1, 2, 3, 4, 5, 6, 7] rfl)
      have J118 : ∀ (v118_5 : Int32) (v118_6 : Int32) (v118_7 : Int32) (f118_158_4 : Int32) (H : Heap) (locs : List Loc) (ls : Array Slot) (w49 : va_W), 0 ≤ a1.toInt → a1.toInt ≤ 1 → 0 ≤ a2.toInt → a2.toInt ≤ 3 → 0 ≤ v27_4.toInt → v27_4.toInt ≤ 11 → 0 ≤ v118_5.toInt → v118_5.toInt ≤ 9 → 0 ≤ v118_6.toInt → v118_6.toInt ≤ 9 → 0 ≤ v118_7.toInt → v118_7.toInt ≤ 1 → 1 ≤ f118_158_4.toInt → f118_158_4.toInt ≤ 12 → Wd dC dI A s.heap H locs w49 → TW ksC ad cy B qr s1 w49 → FE ksC [(51, 0, 10)] w0 w49 → gi w49 158 4 = f118_158_4 → lv_has ls 8 [(0, .ref (ad 158)), (1, .int a1), (2, .int a2), (3, .int (-1)), (4, .int v27_4), (5, .int v118_5), (6, .int v118_6), (7, .int v118_7)] → W p l e ({ frames := 1, cells := 0, slots := 0, locals := 12 }) s m (List.toArray [.ref (ad 158), .int a1, .int a2, .int (-1)]) below meth c H locs 0 0 (MQ below (va_Qv (P_X10_layRoads_7 ad cy B qr s1 a1 a2 w0) (fun u : va_W => wpost dC dI cy A u) A) (List.toArray [.ref (ad 158), .int a1, .int a2, .int (-1)]) s 0 0 A) (F0 m 118 ls []) := by
        intro v118_5 v118_6 v118_7 f118_158_4 H locs ls w49 r50 t51 r52 t53 r54 t55 r56 t57 r58 t59 r60 t61 r62 t63 hw hT hF c64 hl
        refine lv_iload hx hb dX10_layRoads_118 (lv_at hl 4 rfl) ?_
        refine lv_iload_n hx hb dX10_layRoads_120 rfl (lv_at hl 1 rfl) ?_
        refine lv_icmp_lt (tgt := 130) hx hb dX10_layRoads_121 (by decide) (fun c65 => ?_) (fun c65 => ?_)
        · have c65 : v27_4.toInt < a1.toInt := wk_lt.mp c65
          exact J130 v118_5 v118_6 v118_7 f118_158_4 H locs ls w49 (show 0 ≤ a1.toInt by omega) (show a1.toInt ≤ 1 by omega) (show 0 ≤ a2.toInt by omega) (show a2.toInt ≤ 3 by omega) (show 0 ≤ v27_4.toInt by omega) (show v27_4.toInt ≤ 11 by omega) (show 0 ≤ v118_5.toInt by omega) (show v118_5.toInt ≤ 9 by omega) (show 0 ≤ v118_6.toInt by omega) (show v118_6.toInt ≤ 9 by omega) (show 0 ≤ v118_7.toInt by omega) (show v118_7.toInt ≤ 1 by omega) (show 1 ≤ f118_158_4.toInt by omega) (show f118_158_4.toInt ≤ 12 by omega)  hw hT hF c64 (lv_sub hl [0, 1, 2, 3, 4, 5, 6, 7] rfl)
        · have c65 : a1.toInt ≤ v27_4.toInt := wk_ltF c65
          refine lv_iload hx hb dX10_layRoads_124 (lv_at hl 7 rfl) ?_
          refine lv_iconst (v := 1) hx hb dX10_layRoads_126 (by decide) ?_
          refine lv_icmp_ne (tgt := 144) hx hb dX10_layRoads_127 (by decide) (fun c66 => ?_) (fun c66 => ?_)
          · have c66 : ¬ v118_7.toInt = (1 : Int) := wk_eqF c66
            exact J144 v118_5 v118_6 v118_7 f118_158_4 H locs ls w49 (show 0 ≤ a1.toInt by omega) (show a1.toInt ≤ 1 by omega) (show 0 ≤ a2.toInt by omega) (show a2.toInt ≤ 3 by omega) (show 0 ≤ v27_4.toInt by omega) (show v27_4.toInt ≤ 11 by omega) (show 0 ≤ v118_5.toInt by omega) (show v118_5.toInt ≤ 9 by omega) (show 0 ≤ v118_6.toInt by omega) (show v118_6.toInt ≤ 9 by omega) (show 0 ≤ v118_7.toInt by omega) (show v118_7.toInt ≤ 1 by omega) (show 1 ≤ f118_158_4.toInt by omega) (show f118_158_4.toInt ≤ 12 by omega)  hw hT hF c64 (lv_sub hl [0, 1, 2, 3, 4, 5, 6, 7] rfl)
          · have c66 : v118_7.toInt = (1 : Int) := wk_eq.mp c66
            exact J130 v118_5 v118_6 v118_7 f118_158_4 H locs ls w49 (show 0 ≤ a1.toInt by omega) (show a1.toInt ≤ 1 by omega) (show 0 ≤ a2.toInt by omega) (show a2.toInt ≤ 3 by omega) (show 0 ≤ v27_4.toInt by omega) (show v27_4.toInt ≤ 11 by omega) (show 0 ≤ v118_5.toInt by omega) (show v118_5.toInt ≤ 9 by omega) (show 0 ≤ v118_6.toInt by omega) (show v118_6.toInt ≤ 9 by omega) (show 0 ≤ v118_7.toInt by omega) (show v118_7.toInt ≤ 1 by omega) (show 1 ≤ f118_158_4.toInt by omega) (show f118_158_4.toInt ≤ 12 by omega)  hw hT hF c64 (lv_sub hl [0, 1, 2, 3, 4, 5, 6, 7] rfl)
      have J104 : ∀ (v104_5 : Int32) (v104_6 : Int32) (v104_7 : Int32) (f104_158_4 : Int32) (H : Heap) (locs : List Loc) (ls : Array Slot) (w67 : va_W), 0 ≤ a1.toInt → a1.toInt ≤ 1 → 0 ≤ a2.toInt → a2.toInt ≤ 3 → 0 ≤ v27_4.toInt → v27_4.toInt ≤ 11 → 0 ≤ v104_5.toInt → v104_5.toInt ≤ 9 → 0 ≤ v104_6.toInt → v104_6.toInt ≤ 9 → 0 ≤ v104_7.toInt → v104_7.toInt ≤ 1 → 1 ≤ f104_158_4.toInt → f104_158_4.toInt ≤ 12 → Wd dC dI A s.heap H locs w67 → TW ksC ad cy B qr s1 w67 → FE ksC [(51, 0, 10)] w0 w67 → gi w67 158 4 = f104_158_4 → lv_has ls 8 [(0, .ref (ad 158)), (1, .int a1), (2, .int a2), (3, .int (-1)), (4, .int v27_4), (5, .int v104_5), (6, .int v104_6), (7, .int v104_7)] → W p l e ({ frames := 1, cells := 0, slots := 0, locals := 12 }) s m (List.toArray [.ref (ad 158), .int a1, .int a2, .int (-1)]) below meth c H locs 0 0 (MQ below (va_Qv (P_X10_layRoads_7 ad cy B qr s1 a1 a2 w0) (fun u : va_W => wpost dC dI cy A u) A) (List.toArray [.ref (ad 158), .int a1, .int a2, .int (-1)]) s 0 0 A) (F0 m 104 ls []) := by
        intro v104_5 v104_6 v104_7 f104_158_4 H locs ls w67 r68 t69 r70 t71 r72 t73 r74 t75 r76 t77 r78 t79 r80 t81 hw hT hF c82 hl
        refine lv_aload_n hx hb dX10_layRoads_104 rfl (lv_at hl 0 rfl) ?_
        refine tk_getA hC hK hw hT hinX10 kC_at158 (by decide) rfl 3 (by decide) (List.mem_of_getElem? (i := 1) rfl) rfl rfl dX10_layRoads_105 ?_
        refine lv_iload hx hb dX10_layRoads_108 (lv_at hl 5 rfl) ?_
        refine lv_dup2_11 hx hb dX10_layRoads_110 rfl rfl ?_
        refine tk_iald hC hK hw hT kC_at160 rfl rfl (show 0 ≤ v104_5.toInt by omega) (show v104_5.toInt < 10 by omega) dX10_layRoads_111 (fun x83 c84 rx83 tx83 => ?_)
        refine lv_iconst (v := 1) hx hb dX10_layRoads_112 (by decide) ?_
        refine lv_iload hx hb dX10_layRoads_113 (lv_at hl 6 rfl) ?_
        refine lv_ishl hx hb dX10_layRoads_115 ?_
        refine lv_topi (fun x85 ex85 => ?_)
        have bx85 : 1 ≤ x85.toInt ∧ x85.toInt ≤ 512 := by rw [ex85]; exact wk_shl1 9 (by decide) (by omega) (by omega)
        refine lv_ior hx hb dX10_layRoads_116 ?_
        refine lv_topi (fun x86 ex86 => ?_)
        have bx86 : 0 ≤ x86.toInt ∧ x86.toInt < 1024 := by rw [ex86]; exact wk_or 10 (by decide) (by omega) (by omega) (by omega) (by omega)
        refine tk_iast hC hK hw hT kC_at160 (by decide) rfl rfl (show 0 ≤ v104_5.toInt by omega) (show v104_5.toInt < 10 by omega) (show 0 ≤ x86.toInt by omega) (show x86.toInt ≤ 1023 by omega) dX10_layRoads_117 (fun H locs w87 hw hT k89 c88 => ?_)
        have hF := hF.put kC_at160 (inE_of (a := 0) (b := 10) (by decide) (show 0 ≤ v104_5.toInt.toNat by omega) (show v104_5.toInt.toNat ≤ 10 by omega)) k89
        have c90 := k89.gi (Or.inl (tk_ne kC_at158 kC_at160 (by decide))) c82
        exact J118 v104_5 v104_6 v104_7 f104_158_4 H locs ls w87 (show 0 ≤ a1.toInt by omega) (show a1.toInt ≤ 1 by omega) (show 0 ≤ a2.toInt by omega) (show a2.toInt ≤ 3 by omega) (show 0 ≤ v27_4.toInt by omega) (show v27_4.toInt ≤ 11 by omega) (show 0 ≤ v104_5.toInt by omega) (show v104_5.toInt ≤ 9 by omega) (show 0 ≤ v104_6.toInt by omega) (show v104_6.toInt ≤ 9 by omega) (show 0 ≤ v104_7.toInt by omega) (show v104_7.toInt ≤ 1 by omega) (show 1 ≤ f104_158_4.toInt by omega) (show f104_158_4.toInt ≤ 12 by omega)  hw hT hF c90 (lv_sub hl [0, 1, 2, 3, 4, 5, 6, 7] rfl)
      refine lv_iload hx hb dX10_layRoads_27 (lv_at hl 4 rfl) ?_
      refine lv_aload_n hx hb dX10_layRoads_29 rfl (lv_at hl 0 rfl) ?_
      refine tk_geti hC hK hw hT hinX10 kC_at158 (by decide) rfl 4 (by decide) (List.mem_of_getElem? (i := 2) rfl) rfl rfl dX10_layRoads_30 (fun x91 c92 rx91 tx91 => ?_)
      refine lv_icmp_ge (tgt := 150) hx hb dX10_layRoads_33 (by decide) (fun c93 => ?_) (fun c93 => ?_)
      · have c93 : x91.toInt ≤ v27_4.toInt := wk_le.mp c93
        exact tk_vret hC hr hlocks hK ⟨hT, hF, trivial⟩ hw dX10_layRoads_150
      · have c93 : v27_4.toInt < x91.toInt := wk_leF c93
        refine lv_iload hx hb dX10_layRoads_36 (lv_at hl 4 rfl) ?_
        refine lv_iload_n hx hb dX10_layRoads_38 rfl (lv_at hl 3 rfl) ?_
        refine lv_icmp_ne (tgt := 45) hx hb dX10_layRoads_39 (by decide) (fun _ => ?_) (fun c => absurd (show v27_4.toInt = (-1 : Int) from wk_eq.mp c) (by omega))
        refine lv_aload_n hx hb dX10_layRoads_45 rfl (lv_at hl 0 rfl) ?_
        refine tk_getA hC hK hw hT hinX10 kC_at158 (by decide) rfl 1 (by decide) (List.mem_of_getElem? (i := 3) rfl) rfl rfl dX10_layRoads_46 ?_
        refine tk_getO hC hK hw hT hinX7 kC_at39 (by decide) rfl 0 (by decide) (List.mem_of_getElem? (i := 4) rfl) rfl rfl dX10_layRoads_49 ?_
        refine lv_iconst (v := 2) hx hb dX10_layRoads_52 (by decide) ?_
        refine lv_aload_n hx hb dX10_layRoads_53 rfl (lv_at hl 0 rfl) ?_
        refine tk_getA hC hK hw hT hinX10 kC_at158 (by decide) rfl 2 (by decide) (List.mem_of_getElem? (i := 5) rfl) rfl rfl dX10_layRoads_54 ?_
        refine lv_iload hx hb dX10_layRoads_57 (lv_at hl 4 rfl) ?_
        refine tk_iald hC hK hw hT kC_at159 rfl rfl (show 0 ≤ v27_4.toInt by omega) (show v27_4.toInt < 12 by omega) dX10_layRoads_59 (fun x94 c95 rx94 tx94 => ?_)
        refine lv_imul hx hb dX10_layRoads_60 ?_
        refine lv_topi (fun x96 ex96 => ?_)
        have ex96 : x96.toInt = (2 : Int) * x94.toInt := by rw [ex96]; exact wk_mul (show (-2147483648) ≤ (2 : Int) * x94.toInt by omega) (show (2 : Int) * x94.toInt ≤ 2147483647 by omega)
        refine tk_iald hC hK hw hT kC_at40 rfl rfl (show 0 ≤ x96.toInt by omega) (show x96.toInt < 26 by omega) dX10_layRoads_61 (fun x97 c98 rx97 tx97 => ?_)
        refine lv_istore (lv' := [(5, .int x97), (0, .ref (ad 158)), (1, .int a1), (2, .int a2), (3, .int (-1)), (4, .int v27_4)]) hx hb dX10_layRoads_62 hl (by decide) rfl (fun ls hl => ?_)
        refine lv_aload_n hx hb dX10_layRoads_64 rfl (lv_at hl 1 rfl) ?_
        refine tk_getA hC hK hw hT hinX10 kC_at158 (by decide) rfl 1 (by decide) (List.mem_of_getElem? (i := 3) rfl) rfl rfl dX10_layRoads_65 ?_
        refine tk_getO hC hK hw hT hinX7 kC_at39 (by decide) rfl 0 (by decide) (List.mem_of_getElem? (i := 4) rfl) rfl rfl dX10_layRoads_68 ?_
        refine lv_iconst (v := 2) hx hb dX10_layRoads_71 (by decide) ?_
        refine lv_aload_n hx hb dX10_layRoads_72 rfl (lv_at hl 1 rfl) ?_
        refine tk_getA hC hK hw hT hinX10 kC_at158 (by decide) rfl 2 (by decide) (List.mem_of_getElem? (i := 5) rfl) rfl rfl dX10_layRoads_73 ?_
        refine lv_iload hx hb dX10_layRoads_76 (lv_at hl 5 rfl) ?_
        refine tk_iald hC hK hw hT kC_at159 rfl rfl (show 0 ≤ v27_4.toInt by omega) (show v27_4.toInt < 12 by omega) dX10_layRoads_78 (fun x99 c100 rx99 tx99 => ?_)
        refine lv_imul hx hb dX10_layRoads_79 ?_
        refine lv_topi (fun x101 ex101 => ?_)
        have ex101 : x101.toInt = (2 : Int) * x99.toInt := by rw [ex101]; exact wk_mul (show (-2147483648) ≤ (2 : Int) * x99.toInt by omega) (show (2 : Int) * x99.toInt ≤ 2147483647 by omega)
        refine lv_iconst (v := 1) hx hb dX10_layRoads_80 (by decide) ?_
        refine lv_iadd hx hb dX10_layRoads_81 ?_
        refine lv_topi (fun x102 ex102 => ?_)
        have ex102 : x102.toInt = x101.toInt + (1 : Int) := by rw [ex102]; exact wk_add (show (-2147483648) ≤ x101.toInt + (1 : Int) by omega) (show x101.toInt + (1 : Int) ≤ 2147483647 by omega)
        refine tk_iald hC hK hw hT kC_at40 rfl rfl (show 0 ≤ x102.toInt by omega) (show x102.toInt < 26 by omega) dX10_layRoads_82 (fun x103 c104 rx103 tx103 => ?_)
        refine lv_istore (lv' := [(6, .int x103), (5, .int x97), (0, .ref (ad 158)), (1, .int a1), (2, .int a2), (3, .int (-1)), (4, .int v27_4)]) hx hb dX10_layRoads_83 hl (by decide) rfl (fun ls hl => ?_)
        refine lv_iload_n hx hb dX10_layRoads_85 rfl (lv_at hl 4 rfl) ?_
        refine lv_iload hx hb dX10_layRoads_86 (lv_at hl 6 rfl) ?_
        refine lv_ishr hx hb dX10_layRoads_88 ?_
        refine lv_topi (fun x105 ex105 => ?_)
        have bx105 : 0 ≤ x105.toInt ∧ x105.toInt ≤ a2.toInt := by rw [ex105]; exact wk_shr (by omega)
        refine lv_iconst (v := 1) hx hb dX10_layRoads_89 (by decide) ?_
        refine lv_iand hx hb dX10_layRoads_90 ?_
        refine lv_topi (fun x106 ex106 => ?_)
        have bx106 : 0 ≤ x106.toInt ∧ x106.toInt ≤ (1 : Int) := by rw [ex106]; exact wk_and (by decide)
        refine lv_istore (lv' := [(7, .int x106), (6, .int x103), (5, .int x97), (0, .ref (ad 158)), (1, .int a1), (2, .int a2), (3, .int (-1)), (4, .int v27_4)]) hx hb dX10_layRoads_91 hl (by decide) rfl (fun ls hl => ?_)
        refine lv_iload hx hb dX10_layRoads_93 (lv_at hl 7 rfl) ?_
        refine lv_iload_n hx hb dX10_layRoads_95 rfl (lv_at hl 4 rfl) ?_
        refine lv_icmp_lt (tgt := 104) hx hb dX10_layRoads_96 (by decide) (fun c107 => ?_) (fun c107 => ?_)
        · have c107 : v27_4.toInt < a1.toInt := wk_lt.mp c107
          exact J104 x97 x103 x106 x91 H locs ls w1 (show 0 ≤ a1.toInt by omega) (show a1.toInt ≤ 1 by omega) (show 0 ≤ a2.toInt by omega) (show a2.toInt ≤ 3 by omega) (show 0 ≤ v27_4.toInt by omega) (show v27_4.toInt ≤ 11 by omega) (show 0 ≤ x97.toInt by omega) (show x97.toInt ≤ 9 by omega) (show 0 ≤ x103.toInt by omega) (show x103.toInt ≤ 9 by omega) (show 0 ≤ x106.toInt by omega) (show x106.toInt ≤ 1 by omega) (show 1 ≤ x91.toInt by omega) (show x91.toInt ≤ 12 by omega)  hw hT hF c92 (lv_sub hl [3, 4, 5, 6, 7, 2, 1, 0] rfl)
        · have c107 : a1.toInt ≤ v27_4.toInt := wk_ltF c107
          refine lv_iload hx hb dX10_layRoads_99 (lv_at hl 0 rfl) ?_
          refine lv_if_ne (tgt := 118) hx hb dX10_layRoads_101 (by decide) (fun c108 => ?_) (fun c108 => ?_)
          · have c108 : ¬ x106.toInt = (0 : Int) := wk_eqF c108
            exact J118 x97 x103 x106 x91 H locs ls w1 (show 0 ≤ a1.toInt by omega) (show a1.toInt ≤ 1 by omega) (show 0 ≤ a2.toInt by omega) (show a2.toInt ≤ 3 by omega) (show 0 ≤ v27_4.toInt by omega) (show v27_4.toInt ≤ 11 by omega) (show 0 ≤ x97.toInt by omega) (show x97.toInt ≤ 9 by omega) (show 0 ≤ x103.toInt by omega) (show x103.toInt ≤ 9 by omega) (show 0 ≤ x106.toInt by omega) (show x106.toInt ≤ 1 by omega) (show 1 ≤ x91.toInt by omega) (show x91.toInt ≤ 12 by omega)  hw hT hF c92 (lv_sub hl [3, 4, 5, 6, 7, 2, 1, 0] rfl)
          · have c108 : x106.toInt = (0 : Int) := wk_eq.mp c108
            exact J104 x97 x103 x106 x91 H locs ls w1 (show 0 ≤ a1.toInt by omega) (show a1.toInt ≤ 1 by omega) (show 0 ≤ a2.toInt by omega) (show a2.toInt ≤ 3 by omega) (show 0 ≤ v27_4.toInt by omega) (show v27_4.toInt ≤ 11 by omega) (show 0 ≤ x97.toInt by omega) (show x97.toInt ≤ 9 by omega) (show 0 ≤ x103.toInt by omega) (show x103.toInt ≤ 9 by omega) (show 0 ≤ x106.toInt by omega) (show x106.toInt ≤ 1 by omega) (show 1 ≤ x91.toInt by omega) (show x91.toInt ≤ 12 by omega)  hw hT hF c92 (lv_sub hl [3, 4, 5, 6, 7, 2, 1, 0] rfl)
  have L3 : ∀ (n3 : Nat) (v3_4 : Int32) (H : Heap) (locs : List Loc) (ls : Array Slot) (w109 : va_W), 0 ≤ a1.toInt → a1.toInt ≤ 1 → 0 ≤ a2.toInt → a2.toInt ≤ 3 → 0 ≤ v3_4.toInt → v3_4.toInt ≤ 10 → (10 - v3_4.toInt).toNat < n3 → Wd dC dI A s.heap H locs w109 → TW ksC ad cy B qr s1 w109 → FE ksC [(51, 0, 10)] w0 w109 → lv_has ls 8 [(0, .ref (ad 158)), (1, .int a1), (2, .int a2), (3, .int (-1)), (4, .int v3_4)] → W p l e ({ frames := 1, cells := 0, slots := 0, locals := 12 }) s m (List.toArray [.ref (ad 158), .int a1, .int a2, .int (-1)]) below meth c H locs 0 0 (MQ below (va_Qv (P_X10_layRoads_7 ad cy B qr s1 a1 a2 w0) (fun u : va_W => wpost dC dI cy A u) A) (List.toArray [.ref (ad 158), .int a1, .int a2, .int (-1)]) s 0 0 A) (F0 m 3 ls []) := by
    intro n3
    induction n3 with
    | zero => intro v3_4 H locs ls w109 r110 t111 r112 t113 r114 t115 hm3 hw hT hF hl; omega
    | succ n3 ih3 =>
      intro v3_4 H locs ls w109 r110 t111 r112 t113 r114 t115 hm3 hw hT hF hl
      refine lv_iload hx hb dX10_layRoads_3 (lv_at hl 4 rfl) ?_
      refine lv_bipush (v := 10) hx hb dX10_layRoads_5 (by decide) ?_
      refine lv_icmp_ge (tgt := 24) hx hb dX10_layRoads_7 (by decide) (fun c116 => ?_) (fun c116 => ?_)
      · have c116 : (10 : Int) ≤ v3_4.toInt := wk_le.mp c116
        refine lv_iconst (v := 0) hx hb dX10_layRoads_24 (by decide) ?_
        refine lv_istore (lv' := [(4, .int 0), (0, .ref (ad 158)), (1, .int a1), (2, .int a2), (3, .int (-1))]) hx hb dX10_layRoads_25 hl (by decide) rfl (fun ls hl => ?_)
        exact L27 ((12 - (0 : Int)).toNat + 1) 0 H locs ls w109 (show 0 ≤ a1.toInt by omega) (show a1.toInt ≤ 1 by omega) (show 0 ≤ a2.toInt by omega) (show a2.toInt ≤ 3 by omega) (by decide) (by decide) (Nat.lt_succ_self _) hw hT hF  (lv_sub hl [1, 2, 3, 4, 0] rfl)
      · have c116 : v3_4.toInt < (10 : Int) := wk_leF c116
        refine lv_aload_n hx hb dX10_layRoads_10 rfl (lv_at hl 0 rfl) ?_
        refine tk_getA hC hK hw hT hinX10 kC_at158 (by decide) rfl 3 (by decide) (List.mem_of_getElem? (i := 1) rfl) rfl rfl dX10_layRoads_11 ?_
        refine lv_iload hx hb dX10_layRoads_14 (lv_at hl 4 rfl) ?_
        refine lv_iconst (v := 0) hx hb dX10_layRoads_16 (by decide) ?_
        refine tk_iast hC hK hw hT kC_at160 (by decide) rfl rfl (show 0 ≤ v3_4.toInt by omega) (show v3_4.toInt < 10 by omega) (by decide) (by decide) dX10_layRoads_17 (fun H locs w117 hw hT k119 c118 => ?_)
        have hF := hF.put kC_at160 (inE_of (a := 0) (b := 10) (by decide) (show 0 ≤ v3_4.toInt.toNat by omega) (show v3_4.toInt.toNat ≤ 10 by omega)) k119
        obtain ⟨x120, ex120⟩ : ∃ y : Int32, y = v3_4 + Int32.ofInt 1 := ⟨_, rfl⟩
        refine lv_iinc (v := x120) (lv' := [(4, .int x120), (0, .ref (ad 158)), (1, .int a1), (2, .int a2), (3, .int (-1))]) hx hb dX10_layRoads_18 hl (k := 4) rfl ex120.symm (by decide) rfl (fun ls hl => ?_)
        have ex120 : x120.toInt = v3_4.toInt + 1 := by rw [ex120]; exact wk_add (y := 1) (show -2147483648 ≤ v3_4.toInt + 1 by omega) (show v3_4.toInt + 1 ≤ 2147483647 by omega)
        refine lv_goto (tgt := 3) hx hb dX10_layRoads_21 (by decide) ?_
        exact ih3 x120 H locs ls w117 (show 0 ≤ a1.toInt by omega) (show a1.toInt ≤ 1 by omega) (show 0 ≤ a2.toInt by omega) (show a2.toInt ≤ 3 by omega) (show 0 ≤ x120.toInt by omega) (show x120.toInt ≤ 10 by omega) (show (10 - x120.toInt).toNat < n3 by omega) hw hT hF  (lv_sub hl [1, 2, 3, 4, 0] rfl)
  refine lv_iconst (v := 0) hx hb dX10_layRoads_0 (by decide) ?_
  refine lv_istore (lv' := [(4, .int 0), (0, .ref (ad 158)), (1, .int a1), (2, .int a2), (3, .int (-1))]) hx hb dX10_layRoads_1 hl (by decide) rfl (fun ls hl => ?_)
  exact L3 ((10 - (0 : Int)).toNat + 1) 0 s.heap locs ls w0 (show 0 ≤ a1.toInt by omega) (show a1.toInt ≤ 1 by omega) (show 0 ≤ a2.toInt by omega) (show a2.toInt ≤ 3 by omega) (by decide) (by decide) (Nat.lt_succ_self _) hw hT hF  (lv_sub hl [1, 2, 3, 4, 0] rfl)
abbrev P_X10_leastBelow_15 (ad : Nat → Nat) (cy : Nat → ClassId) (B : Int) (qr : Nat) (s1 : Int) (a1 : Int32) (a2 : Int32) (w0 : va_W) : Int32 → va_W → Prop := fun r u => TW ksC ad cy B qr s1 u ∧ FE ksC [(51, 0, 10)] w0 u ∧ ((0 ≤ r.toInt ∧ r.toInt ≤ 3) ∨ (r = (-1) ∧ (∃ y : Int32, gi u 38 10 = y ∧ 1 ≤ y.toInt ∧ y.toInt ≤ 6)))
set_option maxHeartbeats 4000000 in
set_option maxRecDepth 100000 in
theorem k_X10_leastBelow_15 (l : Launch) (adK adV : Nat → Nat) (dC : Nat → ClassId) (dI : Nat → Nat → Nat) (cy : Nat → ClassId) (ad : Nat → Nat) (B : Int) (hB0 : 2147483648 ≤ B) (hB1 : B ≤ 1152921504606846976) (qr : Nat) (s1 : Int)  (a1 : Int32) (ra1 : 0 ≤ a1.toInt) (ta1 : a1.toInt ≤ 1) (a2 : Int32) (ra2 : 0 ≤ a2.toInt) (ta2 : a2.toInt ≤ 3) (w0 : va_W) (sz : Nat) (hT : TW ksC ad cy B qr s1 w0)  : Met l yX10_leastBelow wsX10_leastBelow ({ frames := 4, cells := 0, slots := 0, locals := 82 }) (va_Pc [.ref (ad 158), .int a1, .int a2] (wpreS adK adV dC dI cy sz w0)) (va_Qi (P_X10_leastBelow_15 ad cy B qr s1 a1 a2 w0) (fun u : va_W => wpost dC dI cy (va_A w0 sz) u) (va_A w0 sz)) 0 0 (va_A w0 sz) := by
  refine Met.ofW (cc := cX10_leastBelow) (maxL := 4) (ret := (some .int)) (by decide) rfl ?_
  intro p e s m args below meth c s₁ Bk hml hv
  obtain ⟨rfl, ⟨hsz, hP, hK, hD0⟩, hE, hSR⟩ := hv
  have hx := Bk.exec
  have hb := Bk.bytes
  have hr := Bk.returns
  have hlocks := Bk.notSynchronized
  have hC : CallFix p m c cX10_leastBelow 4 s _ wsX10_leastBelow RX10 := ⟨hx, hb, hml, findClass_of_methodNamed Bk.named, atoms_spec (ws := wsX10_leastBelow) Bk.pre⟩
  subst hsz
  have hD := hD0.self (sz := s.heap.size)
  generalize hAe : va_A w0 s.heap.size = A at hD hE ⊢
  have hA : ∀ q : Nat, s.heap.size ≤ q → A q := fun q h => by rw [← hAe]; exact Or.inr h
  have hw : Wd dC dI A s.heap s.heap [] w0 := ⟨hP, hD, va_S.rf⟩
  have hF : FE ksC [(51, 0, 10)] w0 w0 := FE.rf
  have hl := lv_entry ([.ref (ad 158), .int a1, .int a2]) (n := 4) (Nat.le_of_ble_eq_true rfl)
  rw [lg_entry_eq]
  generalize (lg_sl ([.ref (ad 158), .int a1, .int a2]) ++ List.replicate (4 - (lg_sl ([.ref (ad 158), .int a1, .int a2])).length) Slot.unset).toArray = ls at hl ⊢
  have hl : lv_has ls 4 [(0, .ref (ad 158)), (1, .int a1), (2, .int a2)] := hl
  generalize hloc : ([] : List Loc) = locs at hw ⊢
  have hinX10 : ∀ w ∈ u_ws RX10 TX10 5, w ∈ wsX10_leastBelow := fun _ h => List.mem_cons_of_mem _ (List.mem_append_left _ (List.mem_append_left _ (List.mem_append_right _ (h))))
  have hinX5 : ∀ w ∈ u_ws RX5 TX5 14, w ∈ wsX10_leastBelow := fun _ h => List.mem_cons_of_mem _ (List.mem_append_left _ (List.mem_append_right _ (h)))
  have L9 : ∀ (n9 : Nat) (v9_3 : Int32) (H : Heap) (locs : List Loc) (ls : Array Slot) (w1 : va_W), 0 ≤ a1.toInt → a1.toInt ≤ 1 → 0 ≤ a2.toInt → a2.toInt ≤ 3 → 0 ≤ v9_3.toInt → v9_3.toInt ≤ 6 → (6 - v9_3.toInt).toNat < n9 → Wd dC dI A s.heap H locs w1 → TW ksC ad cy B qr s1 w1 → FE ksC [(51, 0, 10)] w0 w1 → lv_has ls 4 [(0, .ref (ad 158)), (1, .int a1), (2, .int a2), (3, .int v9_3)] → W p l e ({ frames := 4, cells := 0, slots := 0, locals := 82 }) s m (List.toArray [.ref (ad 158), .int a1, .int a2]) below meth c H locs 0 0 (MQ below (va_Qi (P_X10_leastBelow_15 ad cy B qr s1 a1 a2 w0) (fun u : va_W => wpost dC dI cy A u) A) (List.toArray [.ref (ad 158), .int a1, .int a2]) s 0 0 A) (F0 m 9 ls []) := by
    intro n9
    induction n9 with
    | zero => intro v9_3 H locs ls w1 r2 t3 r4 t5 r6 t7 hm9 hw hT hF hl; omega
    | succ n9 ih9 =>
      intro v9_3 H locs ls w1 r2 t3 r4 t5 r6 t7 hm9 hw hT hF hl
      refine lv_iload_n hx hb dX10_leastBelow_9 rfl (lv_at hl 3 rfl) ?_
      refine lv_aload_n hx hb dX10_leastBelow_10 rfl (lv_at hl 0 rfl) ?_
      refine tk_getA hC hK hw hT hinX10 kC_at158 (by decide) rfl 0 (by decide) (List.mem_of_getElem? (i := 1) rfl) rfl rfl dX10_leastBelow_11 ?_
      refine tk_geti hC hK hw hT hinX5 kC_at38 (by decide) rfl 10 (by decide) (List.mem_of_getElem? (i := 2) rfl) rfl rfl dX10_leastBelow_14 (fun x8 c9 rx8 tx8 => ?_)
      refine lv_icmp_ge (tgt := 36) hx hb dX10_leastBelow_17 (by decide) (fun c10 => ?_) (fun c10 => ?_)
      · have c10 : x8.toInt ≤ v9_3.toInt := wk_le.mp c10
        refine lv_iload_n hx hb dX10_leastBelow_36 rfl (lv_at hl 1 rfl) ?_
        refine lv_if_gt (tgt := 42) hx hb dX10_leastBelow_37 (by decide) (fun c11 => ?_) (fun c11 => ?_)
        · have c11 : (0 : Int) < a1.toInt := wk_lt.mp c11
          refine lv_aload_n hx hb dX10_leastBelow_42 rfl (lv_at hl 0 rfl) ?_
          refine lv_iload_n hx hb dX10_leastBelow_43 rfl (lv_at hl 1 rfl) ?_
          refine lv_iconst (v := 1) hx hb dX10_leastBelow_44 (by decide) ?_
          refine lv_isub hx hb dX10_leastBelow_45 ?_
          refine lv_topi (fun x12 ex12 => ?_)
          have ex12 : x12.toInt = a1.toInt - (1 : Int) := by rw [ex12]; exact wk_sub (show (-2147483648) ≤ a1.toInt - (1 : Int) by omega) (show a1.toInt - (1 : Int) ≤ 2147483647 by omega)
          refine lv_iload_n hx hb dX10_leastBelow_46 rfl (lv_at hl 2 rfl) ?_
          refine tk_Vi hC hK hw hT hA hE hSR kC_at158 (by decide) rfl (k_X10_leastBelow_16 l adK adV dC dI cy ad B (by omega) (by omega) qr s1   a2 (show 0 ≤ a2.toInt by omega) (show a2.toInt ≤ 3 by omega) w1 H.size hT ) (cwV 2 hC.2.2.2.2 gX10_leastBelow_X10_leastBelow rfl rfl rfl (by decide +kernel) ⟨Nat.le_of_ble_eq_true rfl, Nat.le_of_ble_eq_true rfl⟩) rfl hl.1 rfl (Nat.le_of_ble_eq_true rfl) dX10_leastBelow_47 (fun r13 w15 H locs hp14 hw => ?_)
          obtain ⟨hT, k16, hg21⟩ := hp14
          have hF := hF.tr k16 (by decide)
          have c22 := k16.gi kC_at38 (by decide) c9
          rcases hg21 with ⟨g17, g18⟩ | ⟨rfl, ⟨x19, c20, rx19, tx19⟩⟩
          · refine lv_istore_n (lv' := [(3, .int r13), (0, .ref (ad 158)), (1, .int a1), (2, .int a2)]) hx hb dX10_leastBelow_50 rfl hl (by decide) rfl (fun ls hl => ?_)
            refine lv_iload_n hx hb dX10_leastBelow_51 rfl (lv_at hl 0 rfl) ?_
            refine lv_iconst (v := (-1)) hx hb dX10_leastBelow_52 (by decide) ?_
            refine lv_icmp_eq (tgt := 60) hx hb dX10_leastBelow_53 (by decide) (fun c => absurd c (fun h => absurd (show r13.toInt = (-1 : Int) from wk_eq.mp h) (by omega))) (fun _ => ?_)
            refine lv_iload_n hx hb dX10_leastBelow_56 rfl (lv_at hl 0 rfl) ?_
            refine lv_goto (tgt := 74) hx hb dX10_leastBelow_57 (by decide) ?_
            exact tk_iret hC hr hlocks hK ⟨hT, hF, (Or.inl ⟨(show 0 ≤ r13.toInt by omega), (show r13.toInt ≤ 3 by omega)⟩)⟩ hw dX10_leastBelow_74
          · have ex19 : x19.toInt = x8.toInt := by rw [← c22.symm.trans c20]
            refine lv_istore_n (lv' := [(3, .int (-1)), (0, .ref (ad 158)), (1, .int a1), (2, .int a2)]) hx hb dX10_leastBelow_50 rfl hl (by decide) rfl (fun ls hl => ?_)
            refine lv_iload_n hx hb dX10_leastBelow_51 rfl (lv_at hl 0 rfl) ?_
            refine lv_iconst (v := (-1)) hx hb dX10_leastBelow_52 (by decide) ?_
            refine lv_icmp_eq (tgt := 60) hx hb dX10_leastBelow_53 (by decide) (fun _ => ?_) (fun c => absurd (by decide) c)
            refine lv_aload_n hx hb dX10_leastBelow_60 rfl (lv_at hl 1 rfl) ?_
            refine lv_iload_n hx hb dX10_leastBelow_61 rfl (lv_at hl 2 rfl) ?_
            refine lv_iconst (v := 1) hx hb dX10_leastBelow_62 (by decide) ?_
            refine lv_isub hx hb dX10_leastBelow_63 ?_
            refine lv_topi (fun x23 ex23 => ?_)
            have ex23 : x23.toInt = a1.toInt - (1 : Int) := by rw [ex23]; exact wk_sub (show (-2147483648) ≤ a1.toInt - (1 : Int) by omega) (show a1.toInt - (1 : Int) ≤ 2147483647 by omega)
            refine lv_iload_n hx hb dX10_leastBelow_64 rfl (lv_at hl 3 rfl) ?_
            refine lv_iconst (v := 1) hx hb dX10_leastBelow_65 (by decide) ?_
            refine lv_iload_n hx hb dX10_leastBelow_66 rfl (lv_at hl 2 rfl) ?_
            refine lv_iconst (v := 1) hx hb dX10_leastBelow_67 (by decide) ?_
            refine lv_isub hx hb dX10_leastBelow_68 ?_
            refine lv_topi (fun x24 ex24 => ?_)
            have ex24 : x24.toInt = a1.toInt - (1 : Int) := by rw [ex24]; exact wk_sub (show (-2147483648) ≤ a1.toInt - (1 : Int) by omega) (show a1.toInt - (1 : Int) ≤ 2147483647 by omega)
            refine lv_ishl hx hb dX10_leastBelow_69 ?_
            refine lv_topi (fun x25 ex25 => ?_)
            have bx25 : 1 ≤ x25.toInt ∧ x25.toInt ≤ 1 := by rw [ex25]; exact wk_shl1 0 (by decide) (by omega) (by omega)
            refine lv_ior hx hb dX10_leastBelow_70 ?_
            refine lv_topi (fun x26 ex26 => ?_)
            have bx26 : 0 ≤ x26.toInt ∧ x26.toInt < 4 := by rw [ex26]; exact wk_or 2 (by decide) (by omega) (by omega) (by omega) (by omega)
            refine tk_Vi hC hK hw hT hA hE hSR kC_at158 (by decide) rfl (k_X10_leastBelow_16 l adK adV dC dI cy ad B (by omega) (by omega) qr s1   x26 (show 0 ≤ x26.toInt by omega) (show x26.toInt ≤ 3 by omega) w15 H.size hT ) (cwV 2 hC.2.2.2.2 gX10_leastBelow_X10_leastBelow rfl rfl rfl (by decide +kernel) ⟨Nat.le_of_ble_eq_true rfl, Nat.le_of_ble_eq_true rfl⟩) rfl hl.1 rfl (Nat.le_of_ble_eq_true rfl) dX10_leastBelow_71 (fun r27 w29 H locs hp28 hw => ?_)
            obtain ⟨hT, k30, hg35⟩ := hp28
            have hF := hF.tr k30 (by decide)
            have c36 := k30.gi kC_at38 (by decide) c22
            rcases hg35 with ⟨g31, g32⟩ | ⟨rfl, ⟨x33, c34, rx33, tx33⟩⟩
            · exact tk_iret hC hr hlocks hK ⟨hT, hF, (Or.inl ⟨(show 0 ≤ r27.toInt by omega), (show r27.toInt ≤ 3 by omega)⟩)⟩ hw dX10_leastBelow_74
            · have ex33 : x33.toInt = x8.toInt := by rw [← c36.symm.trans c34]
              exact tk_iret hC hr hlocks hK ⟨hT, hF, (Or.inr ⟨rfl, ⟨x8, c36, (show 1 ≤ x8.toInt by omega), (show x8.toInt ≤ 6 by omega)⟩⟩)⟩ hw dX10_leastBelow_74
        · have c11 : a1.toInt ≤ (0 : Int) := wk_ltF c11
          refine lv_iload_n hx hb dX10_leastBelow_40 rfl (lv_at hl 2 rfl) ?_
          exact tk_iret hC hr hlocks hK ⟨hT, hF, (Or.inl ⟨(show 0 ≤ a2.toInt by omega), (show a2.toInt ≤ 3 by omega)⟩)⟩ hw dX10_leastBelow_41
      · have c10 : v9_3.toInt < x8.toInt := wk_leF c10
        refine lv_aload_n hx hb dX10_leastBelow_20 rfl (lv_at hl 0 rfl) ?_
        refine lv_iload_n hx hb dX10_leastBelow_21 rfl (lv_at hl 3 rfl) ?_
        refine tk_Vi hC hK hw hT hA hE hSR kC_at158 (by decide) rfl (k_X10_canDo_1 l adK adV dC dI cy ad B (by omega) (by omega) qr s1   v9_3 (show 0 ≤ v9_3.toInt by omega) (show v9_3.toInt ≤ 5 by omega) w1 H.size hT ) (cwV 1 hC.2.2.2.2 gX10_leastBelow_X10_canDo rfl rfl rfl (by decide +kernel) ⟨Nat.le_of_ble_eq_true rfl, Nat.le_of_ble_eq_true rfl⟩) rfl hl.1 rfl (Nat.le_of_ble_eq_true rfl) dX10_leastBelow_22 (fun r37 w39 H locs hp38 hw => ?_)
        obtain ⟨hT, k40, hg41⟩ := hp38
        have hF := hF.tr k40 (by decide)
        have c42 := k40.gi kC_at38 (by decide) c9
        rcases hg41 with rfl | rfl
        · refine lv_if_ne (tgt := 30) hx hb dX10_leastBelow_25 (by decide) (fun c => absurd (by decide) c) (fun _ => ?_)
          refine lv_iconst (v := (-1)) hx hb dX10_leastBelow_28 (by decide) ?_
          exact tk_iret hC hr hlocks hK ⟨hT, hF, (Or.inr ⟨rfl, ⟨x8, c42, (show 1 ≤ x8.toInt by omega), (show x8.toInt ≤ 6 by omega)⟩⟩)⟩ hw dX10_leastBelow_29
        · refine lv_if_ne (tgt := 30) hx hb dX10_leastBelow_25 (by decide) (fun _ => ?_) (fun c => absurd c (by decide))
          obtain ⟨x43, ex43⟩ : ∃ y : Int32, y = v9_3 + Int32.ofInt 1 := ⟨_, rfl⟩
          refine lv_iinc (v := x43) (lv' := [(3, .int x43), (0, .ref (ad 158)), (1, .int a1), (2, .int a2)]) hx hb dX10_leastBelow_30 hl (k := 3) rfl ex43.symm (by decide) rfl (fun ls hl => ?_)
          have ex43 : x43.toInt = v9_3.toInt + 1 := by rw [ex43]; exact wk_add (y := 1) (show -2147483648 ≤ v9_3.toInt + 1 by omega) (show v9_3.toInt + 1 ≤ 2147483647 by omega)
          refine lv_goto (tgt := 9) hx hb dX10_leastBelow_33 (by decide) ?_
          exact ih9 x43 H locs ls w39 (show 0 ≤ a1.toInt by omega) (show a1.toInt ≤ 1 by omega) (show 0 ≤ a2.toInt by omega) (show a2.toInt ≤ 3 by omega) (show 0 ≤ x43.toInt by omega) (show x43.toInt ≤ 6 by omega) (show (6 - x43.toInt).toNat < n9 by omega) hw hT hF  (lv_sub hl [1, 2, 3, 0] rfl)
  refine lv_aload_n hx hb dX10_leastBelow_0 rfl (lv_at hl 0 rfl) ?_
  refine lv_iload_n hx hb dX10_leastBelow_1 rfl (lv_at hl 1 rfl) ?_
  refine lv_iload_n hx hb dX10_leastBelow_2 rfl (lv_at hl 2 rfl) ?_
  refine lv_iconst (v := (-1)) hx hb dX10_leastBelow_3 (by decide) ?_
  refine tk_Vv hC hK hw hT hA hE hSR kC_at158 (by decide) rfl (k_X10_layRoads_7 l adK adV dC dI cy ad B (by omega) (by omega) qr s1   a1 (show 0 ≤ a1.toInt by omega) (show a1.toInt ≤ 1 by omega) a2 (show 0 ≤ a2.toInt by omega) (show a2.toInt ≤ 3 by omega) w0 s.heap.size hT ) (cwV 3 hC.2.2.2.2 gX10_leastBelow_X10_layRoads rfl rfl rfl (by decide +kernel) ⟨Nat.le_of_ble_eq_true rfl, Nat.le_of_ble_eq_true rfl⟩) rfl hl.1 rfl (Nat.le_of_ble_eq_true rfl) dX10_leastBelow_4 (fun w46 H locs hp45 hw => ?_)
  obtain ⟨hT, k47, hg48⟩ := hp45
  have hF := hF.tr k47 (by decide)
  clear hg48
  refine lv_iconst (v := 0) hx hb dX10_leastBelow_7 (by decide) ?_
  refine lv_istore_n (lv' := [(3, .int 0), (0, .ref (ad 158)), (1, .int a1), (2, .int a2)]) hx hb dX10_leastBelow_8 rfl hl (by decide) rfl (fun ls hl => ?_)
  exact L9 ((6 - (0 : Int)).toNat + 1) 0 H locs ls w46 (show 0 ≤ a1.toInt by omega) (show a1.toInt ≤ 1 by omega) (show 0 ≤ a2.toInt by omega) (show a2.toInt ≤ 3 by omega) (by decide) (by decide) (Nat.lt_succ_self _) hw hT hF  (lv_sub hl [1, 2, 3, 0] rfl)
abbrev P_X10_layRoads_8 (ad : Nat → Nat) (cy : Nat → ClassId) (B : Int) (qr : Nat) (s1 : Int) (a1 : Int32) (w0 : va_W) : va_W → Prop := fun u => TW ksC ad cy B qr s1 u ∧ FE ksC [(51, 0, 10)] w0 u ∧ ((True))
set_option maxHeartbeats 4000000 in
set_option maxRecDepth 100000 in
theorem k_X10_layRoads_8 (l : Launch) (adK adV : Nat → Nat) (dC : Nat → ClassId) (dI : Nat → Nat → Nat) (cy : Nat → ClassId) (ad : Nat → Nat) (B : Int) (hB0 : 2147483648 ≤ B) (hB1 : B ≤ 1152921504606846976) (qr : Nat) (s1 : Int)  (a1 : Int32) (ra1 : 0 ≤ a1.toInt) (ta1 : a1.toInt ≤ 2) (w0 : va_W) (sz : Nat) (hT : TW ksC ad cy B qr s1 w0)  : Met l yX10_layRoads wsX10_layRoads ({ frames := 1, cells := 0, slots := 0, locals := 12 }) (va_Pc [.ref (ad 158), .int a1, .int 0, .int (-1)] (wpreS adK adV dC dI cy sz w0)) (va_Qv (P_X10_layRoads_8 ad cy B qr s1 a1 w0) (fun u : va_W => wpost dC dI cy (va_A w0 sz) u) (va_A w0 sz)) 0 0 (va_A w0 sz) := by
  refine Met.ofW (cc := cX10_layRoads) (maxL := 8) (ret := none) (by decide) rfl ?_
  intro p e s m args below meth c s₁ Bk hml hv
  obtain ⟨rfl, ⟨hsz, hP, hK, hD0⟩, hE, hSR⟩ := hv
  have hx := Bk.exec
  have hb := Bk.bytes
  have hr := Bk.returns
  have hlocks := Bk.notSynchronized
  have hC : CallFix p m c cX10_layRoads 8 s _ wsX10_layRoads RX10 := ⟨hx, hb, hml, findClass_of_methodNamed Bk.named, atoms_spec (ws := wsX10_layRoads) Bk.pre⟩
  subst hsz
  have hD := hD0.self (sz := s.heap.size)
  generalize hAe : va_A w0 s.heap.size = A at hD hE ⊢
  have hA : ∀ q : Nat, s.heap.size ≤ q → A q := fun q h => by rw [← hAe]; exact Or.inr h
  have hw : Wd dC dI A s.heap s.heap [] w0 := ⟨hP, hD, va_S.rf⟩
  have hF : FE ksC [(51, 0, 10)] w0 w0 := FE.rf
  have hl := lv_entry ([.ref (ad 158), .int a1, .int 0, .int (-1)]) (n := 8) (Nat.le_of_ble_eq_true rfl)
  rw [lg_entry_eq]
  generalize (lg_sl ([.ref (ad 158), .int a1, .int 0, .int (-1)]) ++ List.replicate (8 - (lg_sl ([.ref (ad 158), .int a1, .int 0, .int (-1)])).length) Slot.unset).toArray = ls at hl ⊢
  have hl : lv_has ls 8 [(0, .ref (ad 158)), (1, .int a1), (2, .int 0), (3, .int (-1))] := hl
  generalize hloc : ([] : List Loc) = locs at hw ⊢
  have hinX10 : ∀ w ∈ u_ws RX10 TX10 5, w ∈ wsX10_layRoads := fun _ h => List.mem_cons_of_mem _ (List.mem_append_left _ (List.mem_append_right _ (h)))
  have hinX7 : ∀ w ∈ u_ws RX7 TX7 12, w ∈ wsX10_layRoads := fun _ h => List.mem_cons_of_mem _ (List.mem_append_right _ (h))
  have L27 : ∀ (n27 : Nat) (v27_4 : Int32) (H : Heap) (locs : List Loc) (ls : Array Slot) (w1 : va_W), 0 ≤ a1.toInt → a1.toInt ≤ 2 → 0 ≤ v27_4.toInt → v27_4.toInt ≤ 12 → (12 - v27_4.toInt).toNat < n27 → Wd dC dI A s.heap H locs w1 → TW ksC ad cy B qr s1 w1 → FE ksC [(51, 0, 10)] w0 w1 → lv_has ls 8 [(0, .ref (ad 158)), (1, .int a1), (2, .int 0), (3, .int (-1)), (4, .int v27_4)] → W p l e ({ frames := 1, cells := 0, slots := 0, locals := 12 }) s m (List.toArray [.ref (ad 158), .int a1, .int 0, .int (-1)]) below meth c H locs 0 0 (MQ below (va_Qv (P_X10_layRoads_8 ad cy B qr s1 a1 w0) (fun u : va_W => wpost dC dI cy A u) A) (List.toArray [.ref (ad 158), .int a1, .int 0, .int (-1)]) s 0 0 A) (F0 m 27 ls []) := by
    intro n27
    induction n27 with
    | zero => intro v27_4 H locs ls w1 r2 t3 r4 t5 hm27 hw hT hF hl; omega
    | succ n27 ih27 =>
      intro v27_4 H locs ls w1 r2 t3 r4 t5 hm27 hw hT hF hl
      have J144 : ∀ (v144_5 : Int32) (v144_6 : Int32) (v144_7 : Int32) (f144_158_4 : Int32) (H : Heap) (locs : List Loc) (ls : Array Slot) (w6 : va_W), 0 ≤ a1.toInt → a1.toInt ≤ 2 → 0 ≤ v27_4.toInt → v27_4.toInt ≤ 11 → 0 ≤ v144_5.toInt → v144_5.toInt ≤ 9 → 0 ≤ v144_6.toInt → v144_6.toInt ≤ 9 → 0 ≤ v144_7.toInt → v144_7.toInt ≤ 1 → 1 ≤ f144_158_4.toInt → f144_158_4.toInt ≤ 12 → Wd dC dI A s.heap H locs w6 → TW ksC ad cy B qr s1 w6 → FE ksC [(51, 0, 10)] w0 w6 → gi w6 158 4 = f144_158_4 → lv_has ls 8 [(0, .ref (ad 158)), (1, .int a1), (2, .int 0), (3, .int (-1)), (4, .int v27_4), (5, .int v144_5), (6, .int v144_6), (7, .int v144_7)] → W p l e ({ frames := 1, cells := 0, slots := 0, locals := 12 }) s m (List.toArray [.ref (ad 158), .int a1, .int 0, .int (-1)]) below meth c H locs 0 0 (MQ below (va_Qv (P_X10_layRoads_8 ad cy B qr s1 a1 w0) (fun u : va_W => wpost dC dI cy A u) A) (List.toArray [.ref (ad 158), .int a1, .int 0, .int (-1)]) s 0 0 A) (F0 m 144 ls []) := by
        intro v144_5 v144_6 v144_7 f144_158_4 H locs ls w6 r7 t8 r9 t10 r11 t12 r13 t14 r15 t16 r17 t18 hw hT hF c19 hl
        obtain ⟨x20, ex20⟩ : ∃ y : Int32, y = v27_4 + Int32.ofInt 1 := ⟨_, rfl⟩
        refine lv_iinc (v := x20) (lv' := [(4, .int x20), (0, .ref (ad 158)), (1, .int a1), (2, .int 0), (3, .int (-1)), (5, .int v144_5), (6, .int v144_6), (7, .int v144_7)]) hx hb dX10_layRoads_144 hl (k := 4) rfl ex20.symm (by decide) rfl (fun ls hl => ?_)
        have ex20 : x20.toInt = v27_4.toInt + 1 := by rw [ex20]; exact wk_add (y := 1) (show -2147483648 ≤ v27_4.toInt + 1 by omega) (show v27_4.toInt + 1 ≤ 2147483647 by omega)
        refine lv_goto (tgt := 27) hx hb dX10_layRoads_147 (by decide) ?_
        exact ih27 x20 H locs ls w6 (show 0 ≤ a1.toInt by omega) (show a1.toInt ≤ 2 by omega) (show 0 ≤ x20.toInt by omega) (show x20.toInt ≤ 12 by omega) (show (12 - x20.toInt).toNat < n27 by omega) hw hT hF  (lv_sub hl [1, 2, 3, 4, 0] rfl)
      have J130 : ∀ (v130_5 : Int32) (v130_6 : Int32) (v130_7 : Int32) (f130_158_4 : Int32) (H : Heap) (locs : List Loc) (ls : Array Slot) (w21 : va_W), 0 ≤ a1.toInt → a1.toInt ≤ 2 → 0 ≤ v27_4.toInt → v27_4.toInt ≤ 11 → 0 ≤ v130_5.toInt → v130_5.toInt ≤ 9 → 0 ≤ v130_6.toInt → v130_6.toInt ≤ 9 → 0 ≤ v130_7.toInt → v130_7.toInt ≤ 1 → 1 ≤ f130_158_4.toInt → f130_158_4.toInt ≤ 12 → Wd dC dI A s.heap H locs w21 → TW ksC ad cy B qr s1 w21 → FE ksC [(51, 0, 10)] w0 w21 → gi w21 158 4 = f130_158_4 → lv_has ls 8 [(0, .ref (ad 158)), (1, .int a1), (2, .int 0), (3, .int (-1)), (4, .int v27_4), (5, .int v130_5), (6, .int v130_6), (7, .int v130_7)] → W p l e ({ frames := 1, cells := 0, slots := 0, locals := 12 }) s m (List.toArray [.ref (ad 158), .int a1, .int 0, .int (-1)]) below meth c H locs 0 0 (MQ below (va_Qv (P_X10_layRoads_8 ad cy B qr s1 a1 w0) (fun u : va_W => wpost dC dI cy A u) A) (List.toArray [.ref (ad 158), .int a1, .int 0, .int (-1)]) s 0 0 A) (F0 m 130 ls []) := by
        intro v130_5 v130_6 v130_7 f130_158_4 H locs ls w21 r22 t23 r24 t25 r26 t27 r28 t29 r30 t31 r32 t33 hw hT hF c34 hl
        refine lv_aload_n hx hb dX10_layRoads_130 rfl (lv_at hl 0 rfl) ?_
        refine tk_getA hC hK hw hT hinX10 kC_at158 (by decide) rfl 3 (by decide) (List.mem_of_getElem? (i := 1) rfl) rfl rfl dX10_layRoads_131 ?_
        refine lv_iload hx hb dX10_layRoads_134 (lv_at hl 6 rfl) ?_
        refine lv_dup2_11 hx hb dX10_layRoads_136 rfl rfl ?_
        refine tk_iald hC hK hw hT kC_at160 rfl rfl (show 0 ≤ v130_6.toInt by omega) (show v130_6.toInt < 10 by omega) dX10_layRoads_137 (fun x35 c36 rx35 tx35 => ?_)
        refine lv_iconst (v := 1) hx hb dX10_layRoads_138 (by decide) ?_
        refine lv_iload hx hb dX10_layRoads_139 (lv_at hl 5 rfl) ?_
        refine lv_ishl hx hb dX10_layRoads_141 ?_
        refine lv_topi (fun x37 ex37 => ?_)
        have bx37 : 1 ≤ x37.toInt ∧ x37.toInt ≤ 512 := by rw [ex37]; exact wk_shl1 9 (by decide) (by omega) (by omega)
        refine lv_ior hx hb dX10_layRoads_142 ?_
        refine lv_topi (fun x38 ex38 => ?_)
        have bx38 : 0 ≤ x38.toInt ∧ x38.toInt < 1024 := by rw [ex38]; exact wk_or 10 (by decide) (by omega) (by omega) (by omega) (by omega)
        refine tk_iast hC hK hw hT kC_at160 (by decide) rfl rfl (show 0 ≤ v130_6.toInt by omega) (show v130_6.toInt < 10 by omega) (show 0 ≤ x38.toInt by omega) (show x38.toInt ≤ 1023 by omega) dX10_layRoads_143 (fun H locs w39 hw hT k41 c40 => ?_)
        have hF := hF.put kC_at160 (inE_of (a := 0) (b := 10) (by decide) (show 0 ≤ v130_6.toInt.toNat by omega) (show v130_6.toInt.toNat ≤ 10 by omega)) k41
        have c42 := k41.gi (Or.inl (tk_ne kC_at158 kC_at160 (by decide))) c34
        exact J144 v130_5 v130_6 v130_7 f130_158_4 H locs ls w39 (show 0 ≤ a1.toInt by omega) (show a1.toInt ≤ 2 by omega) (show 0 ≤ v27_4.toInt by omega) (show v27_4.toInt ≤ 11 by omega) (show 0 ≤ v130_5.toInt by omega) (show v130_5.toInt ≤ 9 by omega) (show 0 ≤ v130_6.toInt by omega) (show v130_6.toInt ≤ 9 by omega) (show 0 ≤ v130_7.toInt by omega) (show v130_7.toInt ≤ 1 by omega) (show 1 ≤ f130_158_4.toInt by omega) (show f130_158_4.toInt ≤ 12 by omega)  hw hT hF c42 (lv_sub hl [0, 1, 2, 3, 4, 5, 6, 7] rfl)
      have J118 : ∀ (v118_5 : Int32) (v118_6 : Int32) (v118_7 : Int32) (f118_158_4 : Int32) (H : Heap) (locs : List Loc) (ls : Array Slot) (w43 : va_W), 0 ≤ a1.toInt → a1.toInt ≤ 2 → 0 ≤ v27_4.toInt → v27_4.toInt ≤ 11 → 0 ≤ v118_5.toInt → v118_5.toInt ≤ 9 → 0 ≤ v118_6.toInt → v118_6.toInt ≤ 9 → 0 ≤ v118_7.toInt → v118_7.toInt ≤ 1 → 1 ≤ f118_158_4.toInt → f118_158_4.toInt ≤ 12 → Wd dC dI A s.heap H locs w43 → TW ksC ad cy B qr s1 w43 → FE ksC [(51, 0, 10)] w0 w43 → gi w43 158 4 = f118_158_4 → lv_has ls 8 [(0, .ref (ad 158)), (1, .int a1), (2, .int 0), (3, .int (-1)), (4, .int v27_4), (5, .int v118_5), (6, .int v118_6), (7, .int v118_7)] → W p l e ({ frames := 1, cells := 0, slots := 0, locals := 12 }) s m (List.toArray [.ref (ad 158), .int a1, .int 0, .int (-1)]) below meth c H locs 0 0 (MQ below (va_Qv (P_X10_layRoads_8 ad cy B qr s1 a1 w0) (fun u : va_W => wpost dC dI cy A u) A) (List.toArray [.ref (ad 158), .int a1, .int 0, .int (-1)]) s 0 0 A) (F0 m 118 ls []) := by
        intro v118_5 v118_6 v118_7 f118_158_4 H locs ls w43 r44 t45 r46 t47 r48 t49 r50 t51 r52 t53 r54 t55 hw hT hF c56 hl
        refine lv_iload hx hb dX10_layRoads_118 (lv_at hl 4 rfl) ?_
        refine lv_iload_n hx hb dX10_layRoads_120 rfl (lv_at hl 1 rfl) ?_
        refine lv_icmp_lt (tgt := 130) hx hb dX10_layRoads_121 (by decide) (fun c57 => ?_) (fun c57 => ?_)
        · have c57 : v27_4.toInt < a1.toInt := wk_lt.mp c57
          exact J130 v118_5 v118_6 v118_7 f118_158_4 H locs ls w43 (show 0 ≤ a1.toInt by omega) (show a1.toInt ≤ 2 by omega) (show 0 ≤ v27_4.toInt by omega) (show v27_4.toInt ≤ 11 by omega) (show 0 ≤ v118_5.toInt by omega) (show v118_5.toInt ≤ 9 by omega) (show 0 ≤ v118_6.toInt by omega) (show v118_6.toInt ≤ 9 by omega) (show 0 ≤ v118_7.toInt by omega) (show v118_7.toInt ≤ 1 by omega) (show 1 ≤ f118_158_4.toInt by omega) (show f118_158_4.toInt ≤ 12 by omega)  hw hT hF c56 (lv_sub hl [0, 1, 2, 3, 4, 5, 6, 7] rfl)
        · have c57 : a1.toInt ≤ v27_4.toInt := wk_ltF c57
          refine lv_iload hx hb dX10_layRoads_124 (lv_at hl 7 rfl) ?_
          refine lv_iconst (v := 1) hx hb dX10_layRoads_126 (by decide) ?_
          refine lv_icmp_ne (tgt := 144) hx hb dX10_layRoads_127 (by decide) (fun c58 => ?_) (fun c58 => ?_)
          · have c58 : ¬ v118_7.toInt = (1 : Int) := wk_eqF c58
            exact J144 v118_5 v118_6 v118_7 f118_158_4 H locs ls w43 (show 0 ≤ a1.toInt by omega) (show a1.toInt ≤ 2 by omega) (show 0 ≤ v27_4.toInt by omega) (show v27_4.toInt ≤ 11 by omega) (show 0 ≤ v118_5.toInt by omega) (show v118_5.toInt ≤ 9 by omega) (show 0 ≤ v118_6.toInt by omega) (show v118_6.toInt ≤ 9 by omega) (show 0 ≤ v118_7.toInt by omega) (show v118_7.toInt ≤ 1 by omega) (show 1 ≤ f118_158_4.toInt by omega) (show f118_158_4.toInt ≤ 12 by omega)  hw hT hF c56 (lv_sub hl [0, 1, 2, 3, 4, 5, 6, 7] rfl)
          · have c58 : v118_7.toInt = (1 : Int) := wk_eq.mp c58
            exact J130 v118_5 v118_6 v118_7 f118_158_4 H locs ls w43 (show 0 ≤ a1.toInt by omega) (show a1.toInt ≤ 2 by omega) (show 0 ≤ v27_4.toInt by omega) (show v27_4.toInt ≤ 11 by omega) (show 0 ≤ v118_5.toInt by omega) (show v118_5.toInt ≤ 9 by omega) (show 0 ≤ v118_6.toInt by omega) (show v118_6.toInt ≤ 9 by omega) (show 0 ≤ v118_7.toInt by omega) (show v118_7.toInt ≤ 1 by omega) (show 1 ≤ f118_158_4.toInt by omega) (show f118_158_4.toInt ≤ 12 by omega)  hw hT hF c56 (lv_sub hl [0, 1, 2, 3, 4, 5, 6, 7] rfl)
      have J104 : ∀ (v104_5 : Int32) (v104_6 : Int32) (v104_7 : Int32) (f104_158_4 : Int32) (H : Heap) (locs : List Loc) (ls : Array Slot) (w59 : va_W), 0 ≤ a1.toInt → a1.toInt ≤ 2 → 0 ≤ v27_4.toInt → v27_4.toInt ≤ 11 → 0 ≤ v104_5.toInt → v104_5.toInt ≤ 9 → 0 ≤ v104_6.toInt → v104_6.toInt ≤ 9 → 0 ≤ v104_7.toInt → v104_7.toInt ≤ 1 → 1 ≤ f104_158_4.toInt → f104_158_4.toInt ≤ 12 → Wd dC dI A s.heap H locs w59 → TW ksC ad cy B qr s1 w59 → FE ksC [(51, 0, 10)] w0 w59 → gi w59 158 4 = f104_158_4 → lv_has ls 8 [(0, .ref (ad 158)), (1, .int a1), (2, .int 0), (3, .int (-1)), (4, .int v27_4), (5, .int v104_5), (6, .int v104_6), (7, .int v104_7)] → W p l e ({ frames := 1, cells := 0, slots := 0, locals := 12 }) s m (List.toArray [.ref (ad 158), .int a1, .int 0, .int (-1)]) below meth c H locs 0 0 (MQ below (va_Qv (P_X10_layRoads_8 ad cy B qr s1 a1 w0) (fun u : va_W => wpost dC dI cy A u) A) (List.toArray [.ref (ad 158), .int a1, .int 0, .int (-1)]) s 0 0 A) (F0 m 104 ls []) := by
        intro v104_5 v104_6 v104_7 f104_158_4 H locs ls w59 r60 t61 r62 t63 r64 t65 r66 t67 r68 t69 r70 t71 hw hT hF c72 hl
        refine lv_aload_n hx hb dX10_layRoads_104 rfl (lv_at hl 0 rfl) ?_
        refine tk_getA hC hK hw hT hinX10 kC_at158 (by decide) rfl 3 (by decide) (List.mem_of_getElem? (i := 1) rfl) rfl rfl dX10_layRoads_105 ?_
        refine lv_iload hx hb dX10_layRoads_108 (lv_at hl 5 rfl) ?_
        refine lv_dup2_11 hx hb dX10_layRoads_110 rfl rfl ?_
        refine tk_iald hC hK hw hT kC_at160 rfl rfl (show 0 ≤ v104_5.toInt by omega) (show v104_5.toInt < 10 by omega) dX10_layRoads_111 (fun x73 c74 rx73 tx73 => ?_)
        refine lv_iconst (v := 1) hx hb dX10_layRoads_112 (by decide) ?_
        refine lv_iload hx hb dX10_layRoads_113 (lv_at hl 6 rfl) ?_
        refine lv_ishl hx hb dX10_layRoads_115 ?_
        refine lv_topi (fun x75 ex75 => ?_)
        have bx75 : 1 ≤ x75.toInt ∧ x75.toInt ≤ 512 := by rw [ex75]; exact wk_shl1 9 (by decide) (by omega) (by omega)
        refine lv_ior hx hb dX10_layRoads_116 ?_
        refine lv_topi (fun x76 ex76 => ?_)
        have bx76 : 0 ≤ x76.toInt ∧ x76.toInt < 1024 := by rw [ex76]; exact wk_or 10 (by decide) (by omega) (by omega) (by omega) (by omega)
        refine tk_iast hC hK hw hT kC_at160 (by decide) rfl rfl (show 0 ≤ v104_5.toInt by omega) (show v104_5.toInt < 10 by omega) (show 0 ≤ x76.toInt by omega) (show x76.toInt ≤ 1023 by omega) dX10_layRoads_117 (fun H locs w77 hw hT k79 c78 => ?_)
        have hF := hF.put kC_at160 (inE_of (a := 0) (b := 10) (by decide) (show 0 ≤ v104_5.toInt.toNat by omega) (show v104_5.toInt.toNat ≤ 10 by omega)) k79
        have c80 := k79.gi (Or.inl (tk_ne kC_at158 kC_at160 (by decide))) c72
        exact J118 v104_5 v104_6 v104_7 f104_158_4 H locs ls w77 (show 0 ≤ a1.toInt by omega) (show a1.toInt ≤ 2 by omega) (show 0 ≤ v27_4.toInt by omega) (show v27_4.toInt ≤ 11 by omega) (show 0 ≤ v104_5.toInt by omega) (show v104_5.toInt ≤ 9 by omega) (show 0 ≤ v104_6.toInt by omega) (show v104_6.toInt ≤ 9 by omega) (show 0 ≤ v104_7.toInt by omega) (show v104_7.toInt ≤ 1 by omega) (show 1 ≤ f104_158_4.toInt by omega) (show f104_158_4.toInt ≤ 12 by omega)  hw hT hF c80 (lv_sub hl [0, 1, 2, 3, 4, 5, 6, 7] rfl)
      refine lv_iload hx hb dX10_layRoads_27 (lv_at hl 4 rfl) ?_
      refine lv_aload_n hx hb dX10_layRoads_29 rfl (lv_at hl 0 rfl) ?_
      refine tk_geti hC hK hw hT hinX10 kC_at158 (by decide) rfl 4 (by decide) (List.mem_of_getElem? (i := 2) rfl) rfl rfl dX10_layRoads_30 (fun x81 c82 rx81 tx81 => ?_)
      refine lv_icmp_ge (tgt := 150) hx hb dX10_layRoads_33 (by decide) (fun c83 => ?_) (fun c83 => ?_)
      · have c83 : x81.toInt ≤ v27_4.toInt := wk_le.mp c83
        exact tk_vret hC hr hlocks hK ⟨hT, hF, trivial⟩ hw dX10_layRoads_150
      · have c83 : v27_4.toInt < x81.toInt := wk_leF c83
        refine lv_iload hx hb dX10_layRoads_36 (lv_at hl 4 rfl) ?_
        refine lv_iload_n hx hb dX10_layRoads_38 rfl (lv_at hl 3 rfl) ?_
        refine lv_icmp_ne (tgt := 45) hx hb dX10_layRoads_39 (by decide) (fun _ => ?_) (fun c => absurd (show v27_4.toInt = (-1 : Int) from wk_eq.mp c) (by omega))
        refine lv_aload_n hx hb dX10_layRoads_45 rfl (lv_at hl 0 rfl) ?_
        refine tk_getA hC hK hw hT hinX10 kC_at158 (by decide) rfl 1 (by decide) (List.mem_of_getElem? (i := 3) rfl) rfl rfl dX10_layRoads_46 ?_
        refine tk_getO hC hK hw hT hinX7 kC_at39 (by decide) rfl 0 (by decide) (List.mem_of_getElem? (i := 4) rfl) rfl rfl dX10_layRoads_49 ?_
        refine lv_iconst (v := 2) hx hb dX10_layRoads_52 (by decide) ?_
        refine lv_aload_n hx hb dX10_layRoads_53 rfl (lv_at hl 0 rfl) ?_
        refine tk_getA hC hK hw hT hinX10 kC_at158 (by decide) rfl 2 (by decide) (List.mem_of_getElem? (i := 5) rfl) rfl rfl dX10_layRoads_54 ?_
        refine lv_iload hx hb dX10_layRoads_57 (lv_at hl 4 rfl) ?_
        refine tk_iald hC hK hw hT kC_at159 rfl rfl (show 0 ≤ v27_4.toInt by omega) (show v27_4.toInt < 12 by omega) dX10_layRoads_59 (fun x84 c85 rx84 tx84 => ?_)
        refine lv_imul hx hb dX10_layRoads_60 ?_
        refine lv_topi (fun x86 ex86 => ?_)
        have ex86 : x86.toInt = (2 : Int) * x84.toInt := by rw [ex86]; exact wk_mul (show (-2147483648) ≤ (2 : Int) * x84.toInt by omega) (show (2 : Int) * x84.toInt ≤ 2147483647 by omega)
        refine tk_iald hC hK hw hT kC_at40 rfl rfl (show 0 ≤ x86.toInt by omega) (show x86.toInt < 26 by omega) dX10_layRoads_61 (fun x87 c88 rx87 tx87 => ?_)
        refine lv_istore (lv' := [(5, .int x87), (0, .ref (ad 158)), (1, .int a1), (2, .int 0), (3, .int (-1)), (4, .int v27_4)]) hx hb dX10_layRoads_62 hl (by decide) rfl (fun ls hl => ?_)
        refine lv_aload_n hx hb dX10_layRoads_64 rfl (lv_at hl 1 rfl) ?_
        refine tk_getA hC hK hw hT hinX10 kC_at158 (by decide) rfl 1 (by decide) (List.mem_of_getElem? (i := 3) rfl) rfl rfl dX10_layRoads_65 ?_
        refine tk_getO hC hK hw hT hinX7 kC_at39 (by decide) rfl 0 (by decide) (List.mem_of_getElem? (i := 4) rfl) rfl rfl dX10_layRoads_68 ?_
        refine lv_iconst (v := 2) hx hb dX10_layRoads_71 (by decide) ?_
        refine lv_aload_n hx hb dX10_layRoads_72 rfl (lv_at hl 1 rfl) ?_
        refine tk_getA hC hK hw hT hinX10 kC_at158 (by decide) rfl 2 (by decide) (List.mem_of_getElem? (i := 5) rfl) rfl rfl dX10_layRoads_73 ?_
        refine lv_iload hx hb dX10_layRoads_76 (lv_at hl 5 rfl) ?_
        refine tk_iald hC hK hw hT kC_at159 rfl rfl (show 0 ≤ v27_4.toInt by omega) (show v27_4.toInt < 12 by omega) dX10_layRoads_78 (fun x89 c90 rx89 tx89 => ?_)
        refine lv_imul hx hb dX10_layRoads_79 ?_
        refine lv_topi (fun x91 ex91 => ?_)
        have ex91 : x91.toInt = (2 : Int) * x89.toInt := by rw [ex91]; exact wk_mul (show (-2147483648) ≤ (2 : Int) * x89.toInt by omega) (show (2 : Int) * x89.toInt ≤ 2147483647 by omega)
        refine lv_iconst (v := 1) hx hb dX10_layRoads_80 (by decide) ?_
        refine lv_iadd hx hb dX10_layRoads_81 ?_
        refine lv_topi (fun x92 ex92 => ?_)
        have ex92 : x92.toInt = x91.toInt + (1 : Int) := by rw [ex92]; exact wk_add (show (-2147483648) ≤ x91.toInt + (1 : Int) by omega) (show x91.toInt + (1 : Int) ≤ 2147483647 by omega)
        refine tk_iald hC hK hw hT kC_at40 rfl rfl (show 0 ≤ x92.toInt by omega) (show x92.toInt < 26 by omega) dX10_layRoads_82 (fun x93 c94 rx93 tx93 => ?_)
        refine lv_istore (lv' := [(6, .int x93), (5, .int x87), (0, .ref (ad 158)), (1, .int a1), (2, .int 0), (3, .int (-1)), (4, .int v27_4)]) hx hb dX10_layRoads_83 hl (by decide) rfl (fun ls hl => ?_)
        refine lv_iload_n hx hb dX10_layRoads_85 rfl (lv_at hl 4 rfl) ?_
        refine lv_iload hx hb dX10_layRoads_86 (lv_at hl 6 rfl) ?_
        refine lv_ishr hx hb dX10_layRoads_88 ?_
        refine lv_topi (fun x95 ex95 => ?_)
        have bx95 : 0 ≤ x95.toInt ∧ x95.toInt ≤ (0 : Int) := by rw [ex95]; exact wk_shr (by decide)
        refine lv_iconst (v := 1) hx hb dX10_layRoads_89 (by decide) ?_
        refine lv_iand hx hb dX10_layRoads_90 ?_
        refine lv_topi (fun x96 ex96 => ?_)
        have bx96 : 0 ≤ x96.toInt ∧ x96.toInt ≤ (1 : Int) := by rw [ex96]; exact wk_and (by decide)
        refine lv_istore (lv' := [(7, .int x96), (6, .int x93), (5, .int x87), (0, .ref (ad 158)), (1, .int a1), (2, .int 0), (3, .int (-1)), (4, .int v27_4)]) hx hb dX10_layRoads_91 hl (by decide) rfl (fun ls hl => ?_)
        refine lv_iload hx hb dX10_layRoads_93 (lv_at hl 7 rfl) ?_
        refine lv_iload_n hx hb dX10_layRoads_95 rfl (lv_at hl 4 rfl) ?_
        refine lv_icmp_lt (tgt := 104) hx hb dX10_layRoads_96 (by decide) (fun c97 => ?_) (fun c97 => ?_)
        · have c97 : v27_4.toInt < a1.toInt := wk_lt.mp c97
          exact J104 x87 x93 x96 x81 H locs ls w1 (show 0 ≤ a1.toInt by omega) (show a1.toInt ≤ 2 by omega) (show 0 ≤ v27_4.toInt by omega) (show v27_4.toInt ≤ 11 by omega) (show 0 ≤ x87.toInt by omega) (show x87.toInt ≤ 9 by omega) (show 0 ≤ x93.toInt by omega) (show x93.toInt ≤ 9 by omega) (show 0 ≤ x96.toInt by omega) (show x96.toInt ≤ 1 by omega) (show 1 ≤ x81.toInt by omega) (show x81.toInt ≤ 12 by omega)  hw hT hF c82 (lv_sub hl [3, 4, 5, 6, 7, 2, 1, 0] rfl)
        · have c97 : a1.toInt ≤ v27_4.toInt := wk_ltF c97
          refine lv_iload hx hb dX10_layRoads_99 (lv_at hl 0 rfl) ?_
          refine lv_if_ne (tgt := 118) hx hb dX10_layRoads_101 (by decide) (fun c98 => ?_) (fun c98 => ?_)
          · have c98 : ¬ x96.toInt = (0 : Int) := wk_eqF c98
            exact J118 x87 x93 x96 x81 H locs ls w1 (show 0 ≤ a1.toInt by omega) (show a1.toInt ≤ 2 by omega) (show 0 ≤ v27_4.toInt by omega) (show v27_4.toInt ≤ 11 by omega) (show 0 ≤ x87.toInt by omega) (show x87.toInt ≤ 9 by omega) (show 0 ≤ x93.toInt by omega) (show x93.toInt ≤ 9 by omega) (show 0 ≤ x96.toInt by omega) (show x96.toInt ≤ 1 by omega) (show 1 ≤ x81.toInt by omega) (show x81.toInt ≤ 12 by omega)  hw hT hF c82 (lv_sub hl [3, 4, 5, 6, 7, 2, 1, 0] rfl)
          · have c98 : x96.toInt = (0 : Int) := wk_eq.mp c98
            exact J104 x87 x93 x96 x81 H locs ls w1 (show 0 ≤ a1.toInt by omega) (show a1.toInt ≤ 2 by omega) (show 0 ≤ v27_4.toInt by omega) (show v27_4.toInt ≤ 11 by omega) (show 0 ≤ x87.toInt by omega) (show x87.toInt ≤ 9 by omega) (show 0 ≤ x93.toInt by omega) (show x93.toInt ≤ 9 by omega) (show 0 ≤ x96.toInt by omega) (show x96.toInt ≤ 1 by omega) (show 1 ≤ x81.toInt by omega) (show x81.toInt ≤ 12 by omega)  hw hT hF c82 (lv_sub hl [3, 4, 5, 6, 7, 2, 1, 0] rfl)
  have L3 : ∀ (n3 : Nat) (v3_4 : Int32) (H : Heap) (locs : List Loc) (ls : Array Slot) (w99 : va_W), 0 ≤ a1.toInt → a1.toInt ≤ 2 → 0 ≤ v3_4.toInt → v3_4.toInt ≤ 10 → (10 - v3_4.toInt).toNat < n3 → Wd dC dI A s.heap H locs w99 → TW ksC ad cy B qr s1 w99 → FE ksC [(51, 0, 10)] w0 w99 → lv_has ls 8 [(0, .ref (ad 158)), (1, .int a1), (2, .int 0), (3, .int (-1)), (4, .int v3_4)] → W p l e ({ frames := 1, cells := 0, slots := 0, locals := 12 }) s m (List.toArray [.ref (ad 158), .int a1, .int 0, .int (-1)]) below meth c H locs 0 0 (MQ below (va_Qv (P_X10_layRoads_8 ad cy B qr s1 a1 w0) (fun u : va_W => wpost dC dI cy A u) A) (List.toArray [.ref (ad 158), .int a1, .int 0, .int (-1)]) s 0 0 A) (F0 m 3 ls []) := by
    intro n3
    induction n3 with
    | zero => intro v3_4 H locs ls w99 r100 t101 r102 t103 hm3 hw hT hF hl; omega
    | succ n3 ih3 =>
      intro v3_4 H locs ls w99 r100 t101 r102 t103 hm3 hw hT hF hl
      refine lv_iload hx hb dX10_layRoads_3 (lv_at hl 4 rfl) ?_
      refine lv_bipush (v := 10) hx hb dX10_layRoads_5 (by decide) ?_
      refine lv_icmp_ge (tgt := 24) hx hb dX10_layRoads_7 (by decide) (fun c104 => ?_) (fun c104 => ?_)
      · have c104 : (10 : Int) ≤ v3_4.toInt := wk_le.mp c104
        refine lv_iconst (v := 0) hx hb dX10_layRoads_24 (by decide) ?_
        refine lv_istore (lv' := [(4, .int 0), (0, .ref (ad 158)), (1, .int a1), (2, .int 0), (3, .int (-1))]) hx hb dX10_layRoads_25 hl (by decide) rfl (fun ls hl => ?_)
        exact L27 ((12 - (0 : Int)).toNat + 1) 0 H locs ls w99 (show 0 ≤ a1.toInt by omega) (show a1.toInt ≤ 2 by omega) (by decide) (by decide) (Nat.lt_succ_self _) hw hT hF  (lv_sub hl [1, 2, 3, 4, 0] rfl)
      · have c104 : v3_4.toInt < (10 : Int) := wk_leF c104
        refine lv_aload_n hx hb dX10_layRoads_10 rfl (lv_at hl 0 rfl) ?_
        refine tk_getA hC hK hw hT hinX10 kC_at158 (by decide) rfl 3 (by decide) (List.mem_of_getElem? (i := 1) rfl) rfl rfl dX10_layRoads_11 ?_
        refine lv_iload hx hb dX10_layRoads_14 (lv_at hl 4 rfl) ?_
        refine lv_iconst (v := 0) hx hb dX10_layRoads_16 (by decide) ?_
        refine tk_iast hC hK hw hT kC_at160 (by decide) rfl rfl (show 0 ≤ v3_4.toInt by omega) (show v3_4.toInt < 10 by omega) (by decide) (by decide) dX10_layRoads_17 (fun H locs w105 hw hT k107 c106 => ?_)
        have hF := hF.put kC_at160 (inE_of (a := 0) (b := 10) (by decide) (show 0 ≤ v3_4.toInt.toNat by omega) (show v3_4.toInt.toNat ≤ 10 by omega)) k107
        obtain ⟨x108, ex108⟩ : ∃ y : Int32, y = v3_4 + Int32.ofInt 1 := ⟨_, rfl⟩
        refine lv_iinc (v := x108) (lv' := [(4, .int x108), (0, .ref (ad 158)), (1, .int a1), (2, .int 0), (3, .int (-1))]) hx hb dX10_layRoads_18 hl (k := 4) rfl ex108.symm (by decide) rfl (fun ls hl => ?_)
        have ex108 : x108.toInt = v3_4.toInt + 1 := by rw [ex108]; exact wk_add (y := 1) (show -2147483648 ≤ v3_4.toInt + 1 by omega) (show v3_4.toInt + 1 ≤ 2147483647 by omega)
        refine lv_goto (tgt := 3) hx hb dX10_layRoads_21 (by decide) ?_
        exact ih3 x108 H locs ls w105 (show 0 ≤ a1.toInt by omega) (show a1.toInt ≤ 2 by omega) (show 0 ≤ x108.toInt by omega) (show x108.toInt ≤ 10 by omega) (show (10 - x108.toInt).toNat < n3 by omega) hw hT hF  (lv_sub hl [1, 2, 3, 4, 0] rfl)
  refine lv_iconst (v := 0) hx hb dX10_layRoads_0 (by decide) ?_
  refine lv_istore (lv' := [(4, .int 0), (0, .ref (ad 158)), (1, .int a1), (2, .int 0), (3, .int (-1))]) hx hb dX10_layRoads_1 hl (by decide) rfl (fun ls hl => ?_)
  exact L3 ((10 - (0 : Int)).toNat + 1) 0 s.heap locs ls w0 (show 0 ≤ a1.toInt by omega) (show a1.toInt ≤ 2 by omega) (by decide) (by decide) (Nat.lt_succ_self _) hw hT hF  (lv_sub hl [1, 2, 3, 4, 0] rfl)
abbrev P_X10_leastBelow_11 (ad : Nat → Nat) (cy : Nat → ClassId) (B : Int) (qr : Nat) (s1 : Int) (a1 : Int32) (w0 : va_W) : Int32 → va_W → Prop := fun r u => TW ksC ad cy B qr s1 u ∧ FE ksC [(51, 0, 10)] w0 u ∧ ((0 ≤ r.toInt ∧ r.toInt ≤ 3) ∨ (r = (-1) ∧ (∃ y : Int32, gi u 38 10 = y ∧ 1 ≤ y.toInt ∧ y.toInt ≤ 6)))
set_option maxHeartbeats 4000000 in
set_option maxRecDepth 100000 in
theorem k_X10_leastBelow_11 (l : Launch) (adK adV : Nat → Nat) (dC : Nat → ClassId) (dI : Nat → Nat → Nat) (cy : Nat → ClassId) (ad : Nat → Nat) (B : Int) (hB0 : 2147483648 ≤ B) (hB1 : B ≤ 1152921504606846976) (qr : Nat) (s1 : Int)  (a1 : Int32) (ra1 : 0 ≤ a1.toInt) (ta1 : a1.toInt ≤ 2) (w0 : va_W) (sz : Nat) (hT : TW ksC ad cy B qr s1 w0)  : Met l yX10_leastBelow wsX10_leastBelow ({ frames := 5, cells := 0, slots := 0, locals := 105 }) (va_Pc [.ref (ad 158), .int a1, .int 0] (wpreS adK adV dC dI cy sz w0)) (va_Qi (P_X10_leastBelow_11 ad cy B qr s1 a1 w0) (fun u : va_W => wpost dC dI cy (va_A w0 sz) u) (va_A w0 sz)) 0 0 (va_A w0 sz) := by
  refine Met.ofW (cc := cX10_leastBelow) (maxL := 4) (ret := (some .int)) (by decide) rfl ?_
  intro p e s m args below meth c s₁ Bk hml hv
  obtain ⟨rfl, ⟨hsz, hP, hK, hD0⟩, hE, hSR⟩ := hv
  have hx := Bk.exec
  have hb := Bk.bytes
  have hr := Bk.returns
  have hlocks := Bk.notSynchronized
  have hC : CallFix p m c cX10_leastBelow 4 s _ wsX10_leastBelow RX10 := ⟨hx, hb, hml, findClass_of_methodNamed Bk.named, atoms_spec (ws := wsX10_leastBelow) Bk.pre⟩
  subst hsz
  have hD := hD0.self (sz := s.heap.size)
  generalize hAe : va_A w0 s.heap.size = A at hD hE ⊢
  have hA : ∀ q : Nat, s.heap.size ≤ q → A q := fun q h => by rw [← hAe]; exact Or.inr h
  have hw : Wd dC dI A s.heap s.heap [] w0 := ⟨hP, hD, va_S.rf⟩
  have hF : FE ksC [(51, 0, 10)] w0 w0 := FE.rf
  have hl := lv_entry ([.ref (ad 158), .int a1, .int 0]) (n := 4) (Nat.le_of_ble_eq_true rfl)
  rw [lg_entry_eq]
  generalize (lg_sl ([.ref (ad 158), .int a1, .int 0]) ++ List.replicate (4 - (lg_sl ([.ref (ad 158), .int a1, .int 0])).length) Slot.unset).toArray = ls at hl ⊢
  have hl : lv_has ls 4 [(0, .ref (ad 158)), (1, .int a1), (2, .int 0)] := hl
  generalize hloc : ([] : List Loc) = locs at hw ⊢
  have hinX10 : ∀ w ∈ u_ws RX10 TX10 5, w ∈ wsX10_leastBelow := fun _ h => List.mem_cons_of_mem _ (List.mem_append_left _ (List.mem_append_left _ (List.mem_append_right _ (h))))
  have hinX5 : ∀ w ∈ u_ws RX5 TX5 14, w ∈ wsX10_leastBelow := fun _ h => List.mem_cons_of_mem _ (List.mem_append_left _ (List.mem_append_right _ (h)))
  have L9 : ∀ (n9 : Nat) (v9_3 : Int32) (H : Heap) (locs : List Loc) (ls : Array Slot) (w1 : va_W), 0 ≤ a1.toInt → a1.toInt ≤ 2 → 0 ≤ v9_3.toInt → v9_3.toInt ≤ 6 → (6 - v9_3.toInt).toNat < n9 → Wd dC dI A s.heap H locs w1 → TW ksC ad cy B qr s1 w1 → FE ksC [(51, 0, 10)] w0 w1 → lv_has ls 4 [(0, .ref (ad 158)), (1, .int a1), (2, .int 0), (3, .int v9_3)] → W p l e ({ frames := 5, cells := 0, slots := 0, locals := 105 }) s m (List.toArray [.ref (ad 158), .int a1, .int 0]) below meth c H locs 0 0 (MQ below (va_Qi (P_X10_leastBelow_11 ad cy B qr s1 a1 w0) (fun u : va_W => wpost dC dI cy A u) A) (List.toArray [.ref (ad 158), .int a1, .int 0]) s 0 0 A) (F0 m 9 ls []) := by
    intro n9
    induction n9 with
    | zero => intro v9_3 H locs ls w1 r2 t3 r4 t5 hm9 hw hT hF hl; omega
    | succ n9 ih9 =>
      intro v9_3 H locs ls w1 r2 t3 r4 t5 hm9 hw hT hF hl
      refine lv_iload_n hx hb dX10_leastBelow_9 rfl (lv_at hl 3 rfl) ?_
      refine lv_aload_n hx hb dX10_leastBelow_10 rfl (lv_at hl 0 rfl) ?_
      refine tk_getA hC hK hw hT hinX10 kC_at158 (by decide) rfl 0 (by decide) (List.mem_of_getElem? (i := 1) rfl) rfl rfl dX10_leastBelow_11 ?_
      refine tk_geti hC hK hw hT hinX5 kC_at38 (by decide) rfl 10 (by decide) (List.mem_of_getElem? (i := 2) rfl) rfl rfl dX10_leastBelow_14 (fun x6 c7 rx6 tx6 => ?_)
      refine lv_icmp_ge (tgt := 36) hx hb dX10_leastBelow_17 (by decide) (fun c8 => ?_) (fun c8 => ?_)
      · have c8 : x6.toInt ≤ v9_3.toInt := wk_le.mp c8
        refine lv_iload_n hx hb dX10_leastBelow_36 rfl (lv_at hl 1 rfl) ?_
        refine lv_if_gt (tgt := 42) hx hb dX10_leastBelow_37 (by decide) (fun c9 => ?_) (fun c9 => ?_)
        · have c9 : (0 : Int) < a1.toInt := wk_lt.mp c9
          refine lv_aload_n hx hb dX10_leastBelow_42 rfl (lv_at hl 0 rfl) ?_
          refine lv_iload_n hx hb dX10_leastBelow_43 rfl (lv_at hl 1 rfl) ?_
          refine lv_iconst (v := 1) hx hb dX10_leastBelow_44 (by decide) ?_
          refine lv_isub hx hb dX10_leastBelow_45 ?_
          refine lv_topi (fun x10 ex10 => ?_)
          have ex10 : x10.toInt = a1.toInt - (1 : Int) := by rw [ex10]; exact wk_sub (show (-2147483648) ≤ a1.toInt - (1 : Int) by omega) (show a1.toInt - (1 : Int) ≤ 2147483647 by omega)
          refine lv_iload_n hx hb dX10_leastBelow_46 rfl (lv_at hl 2 rfl) ?_
          refine tk_Vi hC hK hw hT hA hE hSR kC_at158 (by decide) rfl (k_X10_leastBelow_12 l adK adV dC dI cy ad B (by omega) (by omega) qr s1   x10 (show 0 ≤ x10.toInt by omega) (show x10.toInt ≤ 1 by omega) w1 H.size hT ) (cwV 2 hC.2.2.2.2 gX10_leastBelow_X10_leastBelow rfl rfl rfl (by decide +kernel) ⟨Nat.le_of_ble_eq_true rfl, Nat.le_of_ble_eq_true rfl⟩) rfl hl.1 rfl (Nat.le_of_ble_eq_true rfl) dX10_leastBelow_47 (fun r11 w13 H locs hp12 hw => ?_)
          obtain ⟨hT, k14, hg19⟩ := hp12
          have hF := hF.tr k14 (by decide)
          have c20 := k14.gi kC_at38 (by decide) c7
          rcases hg19 with ⟨g15, g16⟩ | ⟨rfl, ⟨x17, c18, rx17, tx17⟩⟩
          · refine lv_istore_n (lv' := [(3, .int r11), (0, .ref (ad 158)), (1, .int a1), (2, .int 0)]) hx hb dX10_leastBelow_50 rfl hl (by decide) rfl (fun ls hl => ?_)
            refine lv_iload_n hx hb dX10_leastBelow_51 rfl (lv_at hl 0 rfl) ?_
            refine lv_iconst (v := (-1)) hx hb dX10_leastBelow_52 (by decide) ?_
            refine lv_icmp_eq (tgt := 60) hx hb dX10_leastBelow_53 (by decide) (fun c => absurd c (fun h => absurd (show r11.toInt = (-1 : Int) from wk_eq.mp h) (by omega))) (fun _ => ?_)
            refine lv_iload_n hx hb dX10_leastBelow_56 rfl (lv_at hl 0 rfl) ?_
            refine lv_goto (tgt := 74) hx hb dX10_leastBelow_57 (by decide) ?_
            exact tk_iret hC hr hlocks hK ⟨hT, hF, (Or.inl ⟨(show 0 ≤ r11.toInt by omega), (show r11.toInt ≤ 3 by omega)⟩)⟩ hw dX10_leastBelow_74
          · have ex17 : x17.toInt = x6.toInt := by rw [← c20.symm.trans c18]
            refine lv_istore_n (lv' := [(3, .int (-1)), (0, .ref (ad 158)), (1, .int a1), (2, .int 0)]) hx hb dX10_leastBelow_50 rfl hl (by decide) rfl (fun ls hl => ?_)
            refine lv_iload_n hx hb dX10_leastBelow_51 rfl (lv_at hl 0 rfl) ?_
            refine lv_iconst (v := (-1)) hx hb dX10_leastBelow_52 (by decide) ?_
            refine lv_icmp_eq (tgt := 60) hx hb dX10_leastBelow_53 (by decide) (fun _ => ?_) (fun c => absurd (by decide) c)
            refine lv_aload_n hx hb dX10_leastBelow_60 rfl (lv_at hl 1 rfl) ?_
            refine lv_iload_n hx hb dX10_leastBelow_61 rfl (lv_at hl 2 rfl) ?_
            refine lv_iconst (v := 1) hx hb dX10_leastBelow_62 (by decide) ?_
            refine lv_isub hx hb dX10_leastBelow_63 ?_
            refine lv_topi (fun x21 ex21 => ?_)
            have ex21 : x21.toInt = a1.toInt - (1 : Int) := by rw [ex21]; exact wk_sub (show (-2147483648) ≤ a1.toInt - (1 : Int) by omega) (show a1.toInt - (1 : Int) ≤ 2147483647 by omega)
            refine lv_iload_n hx hb dX10_leastBelow_64 rfl (lv_at hl 3 rfl) ?_
            refine lv_iconst (v := 1) hx hb dX10_leastBelow_65 (by decide) ?_
            refine lv_iload_n hx hb dX10_leastBelow_66 rfl (lv_at hl 2 rfl) ?_
            refine lv_iconst (v := 1) hx hb dX10_leastBelow_67 (by decide) ?_
            refine lv_isub hx hb dX10_leastBelow_68 ?_
            refine lv_topi (fun x22 ex22 => ?_)
            have ex22 : x22.toInt = a1.toInt - (1 : Int) := by rw [ex22]; exact wk_sub (show (-2147483648) ≤ a1.toInt - (1 : Int) by omega) (show a1.toInt - (1 : Int) ≤ 2147483647 by omega)
            refine lv_ishl hx hb dX10_leastBelow_69 ?_
            refine lv_topi (fun x23 ex23 => ?_)
            have bx23 : 1 ≤ x23.toInt ∧ x23.toInt ≤ 2 := by rw [ex23]; exact wk_shl1 1 (by decide) (by omega) (by omega)
            refine lv_ior hx hb dX10_leastBelow_70 ?_
            refine lv_topi (fun x24 ex24 => ?_)
            have bx24 : 0 ≤ x24.toInt ∧ x24.toInt < 4 := by rw [ex24]; exact wk_or 2 (by decide) (by decide) (by decide) (by omega) (by omega)
            refine tk_Vi hC hK hw hT hA hE hSR kC_at158 (by decide) rfl (k_X10_leastBelow_15 l adK adV dC dI cy ad B (by omega) (by omega) qr s1   x21 (show 0 ≤ x21.toInt by omega) (show x21.toInt ≤ 1 by omega) x24 (show 0 ≤ x24.toInt by omega) (show x24.toInt ≤ 3 by omega) w13 H.size hT ) (cwV 2 hC.2.2.2.2 gX10_leastBelow_X10_leastBelow rfl rfl rfl (by decide +kernel) ⟨Nat.le_of_ble_eq_true rfl, Nat.le_of_ble_eq_true rfl⟩) rfl hl.1 rfl (Nat.le_of_ble_eq_true rfl) dX10_leastBelow_71 (fun r25 w27 H locs hp26 hw => ?_)
            obtain ⟨hT, k28, hg33⟩ := hp26
            have hF := hF.tr k28 (by decide)
            have c34 := k28.gi kC_at38 (by decide) c20
            rcases hg33 with ⟨g29, g30⟩ | ⟨rfl, ⟨x31, c32, rx31, tx31⟩⟩
            · exact tk_iret hC hr hlocks hK ⟨hT, hF, (Or.inl ⟨(show 0 ≤ r25.toInt by omega), (show r25.toInt ≤ 3 by omega)⟩)⟩ hw dX10_leastBelow_74
            · have ex31 : x31.toInt = x6.toInt := by rw [← c34.symm.trans c32]
              exact tk_iret hC hr hlocks hK ⟨hT, hF, (Or.inr ⟨rfl, ⟨x6, c34, (show 1 ≤ x6.toInt by omega), (show x6.toInt ≤ 6 by omega)⟩⟩)⟩ hw dX10_leastBelow_74
        · have c9 : a1.toInt ≤ (0 : Int) := wk_ltF c9
          refine lv_iload_n hx hb dX10_leastBelow_40 rfl (lv_at hl 2 rfl) ?_
          exact tk_iret hC hr hlocks hK ⟨hT, hF, (Or.inl ⟨(by decide), (by decide)⟩)⟩ hw dX10_leastBelow_41
      · have c8 : v9_3.toInt < x6.toInt := wk_leF c8
        refine lv_aload_n hx hb dX10_leastBelow_20 rfl (lv_at hl 0 rfl) ?_
        refine lv_iload_n hx hb dX10_leastBelow_21 rfl (lv_at hl 3 rfl) ?_
        refine tk_Vi hC hK hw hT hA hE hSR kC_at158 (by decide) rfl (k_X10_canDo_1 l adK adV dC dI cy ad B (by omega) (by omega) qr s1   v9_3 (show 0 ≤ v9_3.toInt by omega) (show v9_3.toInt ≤ 5 by omega) w1 H.size hT ) (cwV 1 hC.2.2.2.2 gX10_leastBelow_X10_canDo rfl rfl rfl (by decide +kernel) ⟨Nat.le_of_ble_eq_true rfl, Nat.le_of_ble_eq_true rfl⟩) rfl hl.1 rfl (Nat.le_of_ble_eq_true rfl) dX10_leastBelow_22 (fun r35 w37 H locs hp36 hw => ?_)
        obtain ⟨hT, k38, hg39⟩ := hp36
        have hF := hF.tr k38 (by decide)
        have c40 := k38.gi kC_at38 (by decide) c7
        rcases hg39 with rfl | rfl
        · refine lv_if_ne (tgt := 30) hx hb dX10_leastBelow_25 (by decide) (fun c => absurd (by decide) c) (fun _ => ?_)
          refine lv_iconst (v := (-1)) hx hb dX10_leastBelow_28 (by decide) ?_
          exact tk_iret hC hr hlocks hK ⟨hT, hF, (Or.inr ⟨rfl, ⟨x6, c40, (show 1 ≤ x6.toInt by omega), (show x6.toInt ≤ 6 by omega)⟩⟩)⟩ hw dX10_leastBelow_29
        · refine lv_if_ne (tgt := 30) hx hb dX10_leastBelow_25 (by decide) (fun _ => ?_) (fun c => absurd c (by decide))
          obtain ⟨x41, ex41⟩ : ∃ y : Int32, y = v9_3 + Int32.ofInt 1 := ⟨_, rfl⟩
          refine lv_iinc (v := x41) (lv' := [(3, .int x41), (0, .ref (ad 158)), (1, .int a1), (2, .int 0)]) hx hb dX10_leastBelow_30 hl (k := 3) rfl ex41.symm (by decide) rfl (fun ls hl => ?_)
          have ex41 : x41.toInt = v9_3.toInt + 1 := by rw [ex41]; exact wk_add (y := 1) (show -2147483648 ≤ v9_3.toInt + 1 by omega) (show v9_3.toInt + 1 ≤ 2147483647 by omega)
          refine lv_goto (tgt := 9) hx hb dX10_leastBelow_33 (by decide) ?_
          exact ih9 x41 H locs ls w37 (show 0 ≤ a1.toInt by omega) (show a1.toInt ≤ 2 by omega) (show 0 ≤ x41.toInt by omega) (show x41.toInt ≤ 6 by omega) (show (6 - x41.toInt).toNat < n9 by omega) hw hT hF  (lv_sub hl [1, 2, 3, 0] rfl)
  refine lv_aload_n hx hb dX10_leastBelow_0 rfl (lv_at hl 0 rfl) ?_
  refine lv_iload_n hx hb dX10_leastBelow_1 rfl (lv_at hl 1 rfl) ?_
  refine lv_iload_n hx hb dX10_leastBelow_2 rfl (lv_at hl 2 rfl) ?_
  refine lv_iconst (v := (-1)) hx hb dX10_leastBelow_3 (by decide) ?_
  refine tk_Vv hC hK hw hT hA hE hSR kC_at158 (by decide) rfl (k_X10_layRoads_8 l adK adV dC dI cy ad B (by omega) (by omega) qr s1   a1 (show 0 ≤ a1.toInt by omega) (show a1.toInt ≤ 2 by omega) w0 s.heap.size hT ) (cwV 3 hC.2.2.2.2 gX10_leastBelow_X10_layRoads rfl rfl rfl (by decide +kernel) ⟨Nat.le_of_ble_eq_true rfl, Nat.le_of_ble_eq_true rfl⟩) rfl hl.1 rfl (Nat.le_of_ble_eq_true rfl) dX10_leastBelow_4 (fun w44 H locs hp43 hw => ?_)
  obtain ⟨hT, k45, hg46⟩ := hp43
  have hF := hF.tr k45 (by decide)
  clear hg46
  refine lv_iconst (v := 0) hx hb dX10_leastBelow_7 (by decide) ?_
  refine lv_istore_n (lv' := [(3, .int 0), (0, .ref (ad 158)), (1, .int a1), (2, .int 0)]) hx hb dX10_leastBelow_8 rfl hl (by decide) rfl (fun ls hl => ?_)
  exact L9 ((6 - (0 : Int)).toNat + 1) 0 H locs ls w44 (show 0 ≤ a1.toInt by omega) (show a1.toInt ≤ 2 by omega) (by decide) (by decide) (Nat.lt_succ_self _) hw hT hF  (lv_sub hl [1, 2, 3, 0] rfl)
abbrev P_X10_layRoads_9 (ad : Nat → Nat) (cy : Nat → ClassId) (B : Int) (qr : Nat) (s1 : Int) (a2 : Int32) (w0 : va_W) : va_W → Prop := fun u => TW ksC ad cy B qr s1 u ∧ FE ksC [(51, 0, 10)] w0 u ∧ ((True))
set_option maxHeartbeats 4000000 in
set_option maxRecDepth 100000 in
theorem k_X10_layRoads_9 (l : Launch) (adK adV : Nat → Nat) (dC : Nat → ClassId) (dI : Nat → Nat → Nat) (cy : Nat → ClassId) (ad : Nat → Nat) (B : Int) (hB0 : 2147483648 ≤ B) (hB1 : B ≤ 1152921504606846976) (qr : Nat) (s1 : Int)  (a2 : Int32) (ra2 : 0 ≤ a2.toInt) (ta2 : a2.toInt ≤ 7) (w0 : va_W) (sz : Nat) (hT : TW ksC ad cy B qr s1 w0)  : Met l yX10_layRoads wsX10_layRoads ({ frames := 1, cells := 0, slots := 0, locals := 12 }) (va_Pc [.ref (ad 158), .int 0, .int a2, .int (-1)] (wpreS adK adV dC dI cy sz w0)) (va_Qv (P_X10_layRoads_9 ad cy B qr s1 a2 w0) (fun u : va_W => wpost dC dI cy (va_A w0 sz) u) (va_A w0 sz)) 0 0 (va_A w0 sz) := by
  refine Met.ofW (cc := cX10_layRoads) (maxL := 8) (ret := none) (by decide) rfl ?_
  intro p e s m args below meth c s₁ Bk hml hv
  obtain ⟨rfl, ⟨hsz, hP, hK, hD0⟩, hE, hSR⟩ := hv
  have hx := Bk.exec
  have hb := Bk.bytes
  have hr := Bk.returns
  have hlocks := Bk.notSynchronized
  have hC : CallFix p m c cX10_layRoads 8 s _ wsX10_layRoads RX10 := ⟨hx, hb, hml, findClass_of_methodNamed Bk.named, atoms_spec (ws := wsX10_layRoads) Bk.pre⟩
  subst hsz
  have hD := hD0.self (sz := s.heap.size)
  generalize hAe : va_A w0 s.heap.size = A at hD hE ⊢
  have hA : ∀ q : Nat, s.heap.size ≤ q → A q := fun q h => by rw [← hAe]; exact Or.inr h
  have hw : Wd dC dI A s.heap s.heap [] w0 := ⟨hP, hD, va_S.rf⟩
  have hF : FE ksC [(51, 0, 10)] w0 w0 := FE.rf
  have hl := lv_entry ([.ref (ad 158), .int 0, .int a2, .int (-1)]) (n := 8) (Nat.le_of_ble_eq_true rfl)
  rw [lg_entry_eq]
  generalize (lg_sl ([.ref (ad 158), .int 0, .int a2, .int (-1)]) ++ List.replicate (8 - (lg_sl ([.ref (ad 158), .int 0, .int a2, .int (-1)])).length) Slot.unset).toArray = ls at hl ⊢
  have hl : lv_has ls 8 [(0, .ref (ad 158)), (1, .int 0), (2, .int a2), (3, .int (-1))] := hl
  generalize hloc : ([] : List Loc) = locs at hw ⊢
  have hinX10 : ∀ w ∈ u_ws RX10 TX10 5, w ∈ wsX10_layRoads := fun _ h => List.mem_cons_of_mem _ (List.mem_append_left _ (List.mem_append_right _ (h)))
  have hinX7 : ∀ w ∈ u_ws RX7 TX7 12, w ∈ wsX10_layRoads := fun _ h => List.mem_cons_of_mem _ (List.mem_append_right _ (h))
  have L27 : ∀ (n27 : Nat) (v27_4 : Int32) (H : Heap) (locs : List Loc) (ls : Array Slot) (w1 : va_W), 0 ≤ a2.toInt → a2.toInt ≤ 7 → 0 ≤ v27_4.toInt → v27_4.toInt ≤ 12 → (12 - v27_4.toInt).toNat < n27 → Wd dC dI A s.heap H locs w1 → TW ksC ad cy B qr s1 w1 → FE ksC [(51, 0, 10)] w0 w1 → lv_has ls 8 [(0, .ref (ad 158)), (1, .int 0), (2, .int a2), (3, .int (-1)), (4, .int v27_4)] → W p l e ({ frames := 1, cells := 0, slots := 0, locals := 12 }) s m (List.toArray [.ref (ad 158), .int 0, .int a2, .int (-1)]) below meth c H locs 0 0 (MQ below (va_Qv (P_X10_layRoads_9 ad cy B qr s1 a2 w0) (fun u : va_W => wpost dC dI cy A u) A) (List.toArray [.ref (ad 158), .int 0, .int a2, .int (-1)]) s 0 0 A) (F0 m 27 ls []) := by
    intro n27
    induction n27 with
    | zero => intro v27_4 H locs ls w1 r2 t3 r4 t5 hm27 hw hT hF hl; omega
    | succ n27 ih27 =>
      intro v27_4 H locs ls w1 r2 t3 r4 t5 hm27 hw hT hF hl
      have J144 : ∀ (v144_5 : Int32) (v144_6 : Int32) (v144_7 : Int32) (f144_158_4 : Int32) (H : Heap) (locs : List Loc) (ls : Array Slot) (w6 : va_W), 0 ≤ a2.toInt → a2.toInt ≤ 7 → 0 ≤ v27_4.toInt → v27_4.toInt ≤ 11 → 0 ≤ v144_5.toInt → v144_5.toInt ≤ 9 → 0 ≤ v144_6.toInt → v144_6.toInt ≤ 9 → 0 ≤ v144_7.toInt → v144_7.toInt ≤ 1 → 1 ≤ f144_158_4.toInt → f144_158_4.toInt ≤ 12 → Wd dC dI A s.heap H locs w6 → TW ksC ad cy B qr s1 w6 → FE ksC [(51, 0, 10)] w0 w6 → gi w6 158 4 = f144_158_4 → lv_has ls 8 [(0, .ref (ad 158)), (1, .int 0), (2, .int a2), (3, .int (-1)), (4, .int v27_4), (5, .int v144_5), (6, .int v144_6), (7, .int v144_7)] → W p l e ({ frames := 1, cells := 0, slots := 0, locals := 12 }) s m (List.toArray [.ref (ad 158), .int 0, .int a2, .int (-1)]) below meth c H locs 0 0 (MQ below (va_Qv (P_X10_layRoads_9 ad cy B qr s1 a2 w0) (fun u : va_W => wpost dC dI cy A u) A) (List.toArray [.ref (ad 158), .int 0, .int a2, .int (-1)]) s 0 0 A) (F0 m 144 ls []) := by
        intro v144_5 v144_6 v144_7 f144_158_4 H locs ls w6 r7 t8 r9 t10 r11 t12 r13 t14 r15 t16 r17 t18 hw hT hF c19 hl
        obtain ⟨x20, ex20⟩ : ∃ y : Int32, y = v27_4 + Int32.ofInt 1 := ⟨_, rfl⟩
        refine lv_iinc (v := x20) (lv' := [(4, .int x20), (0, .ref (ad 158)), (1, .int 0), (2, .int a2), (3, .int (-1)), (5, .int v144_5), (6, .int v144_6), (7, .int v144_7)]) hx hb dX10_layRoads_144 hl (k := 4) rfl ex20.symm (by decide) rfl (fun ls hl => ?_)
        have ex20 : x20.toInt = v27_4.toInt + 1 := by rw [ex20]; exact wk_add (y := 1) (show -2147483648 ≤ v27_4.toInt + 1 by omega) (show v27_4.toInt + 1 ≤ 2147483647 by omega)
        refine lv_goto (tgt := 27) hx hb dX10_layRoads_147 (by decide) ?_
        exact ih27 x20 H locs ls w6 (show 0 ≤ a2.toInt by omega) (show a2.toInt ≤ 7 by omega) (show 0 ≤ x20.toInt by omega) (show x20.toInt ≤ 12 by omega) (show (12 - x20.toInt).toNat < n27 by omega) hw hT hF  (lv_sub hl [1, 2, 3, 4, 0] rfl)
      have J130 : ∀ (v130_5 : Int32) (v130_6 : Int32) (f130_158_4 : Int32) (H : Heap) (locs : List Loc) (ls : Array Slot) (w21 : va_W), 0 ≤ a2.toInt → a2.toInt ≤ 7 → 0 ≤ v27_4.toInt → v27_4.toInt ≤ 11 → 0 ≤ v130_5.toInt → v130_5.toInt ≤ 9 → 0 ≤ v130_6.toInt → v130_6.toInt ≤ 9 → 1 ≤ f130_158_4.toInt → f130_158_4.toInt ≤ 12 → Wd dC dI A s.heap H locs w21 → TW ksC ad cy B qr s1 w21 → FE ksC [(51, 0, 10)] w0 w21 → gi w21 158 4 = f130_158_4 → lv_has ls 8 [(0, .ref (ad 158)), (1, .int 0), (2, .int a2), (3, .int (-1)), (4, .int v27_4), (5, .int v130_5), (6, .int v130_6), (7, .int 1)] → W p l e ({ frames := 1, cells := 0, slots := 0, locals := 12 }) s m (List.toArray [.ref (ad 158), .int 0, .int a2, .int (-1)]) below meth c H locs 0 0 (MQ below (va_Qv (P_X10_layRoads_9 ad cy B qr s1 a2 w0) (fun u : va_W => wpost dC dI cy A u) A) (List.toArray [.ref (ad 158), .int 0, .int a2, .int (-1)]) s 0 0 A) (F0 m 130 ls []) := by
        intro v130_5 v130_6 f130_158_4 H locs ls w21 r22 t23 r24 t25 r26 t27 r28 t29 r30 t31 hw hT hF c32 hl
        refine lv_aload_n hx hb dX10_layRoads_130 rfl (lv_at hl 0 rfl) ?_
        refine tk_getA hC hK hw hT hinX10 kC_at158 (by decide) rfl 3 (by decide) (List.mem_of_getElem? (i := 1) rfl) rfl rfl dX10_layRoads_131 ?_
        refine lv_iload hx hb dX10_layRoads_134 (lv_at hl 6 rfl) ?_
        refine lv_dup2_11 hx hb dX10_layRoads_136 rfl rfl ?_
        refine tk_iald hC hK hw hT kC_at160 rfl rfl (show 0 ≤ v130_6.toInt by omega) (show v130_6.toInt < 10 by omega) dX10_layRoads_137 (fun x33 c34 rx33 tx33 => ?_)
        refine lv_iconst (v := 1) hx hb dX10_layRoads_138 (by decide) ?_
        refine lv_iload hx hb dX10_layRoads_139 (lv_at hl 5 rfl) ?_
        refine lv_ishl hx hb dX10_layRoads_141 ?_
        refine lv_topi (fun x35 ex35 => ?_)
        have bx35 : 1 ≤ x35.toInt ∧ x35.toInt ≤ 512 := by rw [ex35]; exact wk_shl1 9 (by decide) (by omega) (by omega)
        refine lv_ior hx hb dX10_layRoads_142 ?_
        refine lv_topi (fun x36 ex36 => ?_)
        have bx36 : 0 ≤ x36.toInt ∧ x36.toInt < 1024 := by rw [ex36]; exact wk_or 10 (by decide) (by omega) (by omega) (by omega) (by omega)
        refine tk_iast hC hK hw hT kC_at160 (by decide) rfl rfl (show 0 ≤ v130_6.toInt by omega) (show v130_6.toInt < 10 by omega) (show 0 ≤ x36.toInt by omega) (show x36.toInt ≤ 1023 by omega) dX10_layRoads_143 (fun H locs w37 hw hT k39 c38 => ?_)
        have hF := hF.put kC_at160 (inE_of (a := 0) (b := 10) (by decide) (show 0 ≤ v130_6.toInt.toNat by omega) (show v130_6.toInt.toNat ≤ 10 by omega)) k39
        have c40 := k39.gi (Or.inl (tk_ne kC_at158 kC_at160 (by decide))) c32
        exact J144 v130_5 v130_6 1 f130_158_4 H locs ls w37 (show 0 ≤ a2.toInt by omega) (show a2.toInt ≤ 7 by omega) (show 0 ≤ v27_4.toInt by omega) (show v27_4.toInt ≤ 11 by omega) (show 0 ≤ v130_5.toInt by omega) (show v130_5.toInt ≤ 9 by omega) (show 0 ≤ v130_6.toInt by omega) (show v130_6.toInt ≤ 9 by omega) (by decide) (by decide) (show 1 ≤ f130_158_4.toInt by omega) (show f130_158_4.toInt ≤ 12 by omega)  hw hT hF c40 (lv_sub hl [0, 1, 2, 3, 4, 5, 6, 7] rfl)
      have J118 : ∀ (v118_5 : Int32) (v118_6 : Int32) (v118_7 : Int32) (f118_158_4 : Int32) (H : Heap) (locs : List Loc) (ls : Array Slot) (w41 : va_W), 0 ≤ a2.toInt → a2.toInt ≤ 7 → 0 ≤ v27_4.toInt → v27_4.toInt ≤ 11 → 0 ≤ v118_5.toInt → v118_5.toInt ≤ 9 → 0 ≤ v118_6.toInt → v118_6.toInt ≤ 9 → 0 ≤ v118_7.toInt → v118_7.toInt ≤ 1 → 1 ≤ f118_158_4.toInt → f118_158_4.toInt ≤ 12 → Wd dC dI A s.heap H locs w41 → TW ksC ad cy B qr s1 w41 → FE ksC [(51, 0, 10)] w0 w41 → gi w41 158 4 = f118_158_4 → lv_has ls 8 [(0, .ref (ad 158)), (1, .int 0), (2, .int a2), (3, .int (-1)), (4, .int v27_4), (5, .int v118_5), (6, .int v118_6), (7, .int v118_7)] → W p l e ({ frames := 1, cells := 0, slots := 0, locals := 12 }) s m (List.toArray [.ref (ad 158), .int 0, .int a2, .int (-1)]) below meth c H locs 0 0 (MQ below (va_Qv (P_X10_layRoads_9 ad cy B qr s1 a2 w0) (fun u : va_W => wpost dC dI cy A u) A) (List.toArray [.ref (ad 158), .int 0, .int a2, .int (-1)]) s 0 0 A) (F0 m 118 ls []) := by
        intro v118_5 v118_6 v118_7 f118_158_4 H locs ls w41 r42 t43 r44 t45 r46 t47 r48 t49 r50 t51 r52 t53 hw hT hF c54 hl
        refine lv_iload hx hb dX10_layRoads_118 (lv_at hl 4 rfl) ?_
        refine lv_iload_n hx hb dX10_layRoads_120 rfl (lv_at hl 1 rfl) ?_
        refine lv_icmp_lt (tgt := 130) hx hb dX10_layRoads_121 (by decide) (fun c => absurd c (fun h => absurd (show v27_4.toInt < (0 : Int) from wk_lt.mp h) (by omega))) (fun _ => ?_)
        refine lv_iload hx hb dX10_layRoads_124 (lv_at hl 7 rfl) ?_
        refine lv_iconst (v := 1) hx hb dX10_layRoads_126 (by decide) ?_
        refine lv_icmp_ne (tgt := 144) hx hb dX10_layRoads_127 (by decide) (fun c55 => ?_) (fun c55 => ?_)
        · have c55 : ¬ v118_7.toInt = (1 : Int) := wk_eqF c55
          exact J144 v118_5 v118_6 v118_7 f118_158_4 H locs ls w41 (show 0 ≤ a2.toInt by omega) (show a2.toInt ≤ 7 by omega) (show 0 ≤ v27_4.toInt by omega) (show v27_4.toInt ≤ 11 by omega) (show 0 ≤ v118_5.toInt by omega) (show v118_5.toInt ≤ 9 by omega) (show 0 ≤ v118_6.toInt by omega) (show v118_6.toInt ≤ 9 by omega) (show 0 ≤ v118_7.toInt by omega) (show v118_7.toInt ≤ 1 by omega) (show 1 ≤ f118_158_4.toInt by omega) (show f118_158_4.toInt ≤ 12 by omega)  hw hT hF c54 (lv_sub hl [0, 1, 2, 3, 4, 5, 6, 7] rfl)
        · have c55 : v118_7.toInt = (1 : Int) := wk_eq.mp c55
          obtain rfl : v118_7 = 1 := wk_eq.mpr (show v118_7.toInt = 1 by omega)
          exact J130 v118_5 v118_6 f118_158_4 H locs ls w41 (show 0 ≤ a2.toInt by omega) (show a2.toInt ≤ 7 by omega) (show 0 ≤ v27_4.toInt by omega) (show v27_4.toInt ≤ 11 by omega) (show 0 ≤ v118_5.toInt by omega) (show v118_5.toInt ≤ 9 by omega) (show 0 ≤ v118_6.toInt by omega) (show v118_6.toInt ≤ 9 by omega) (show 1 ≤ f118_158_4.toInt by omega) (show f118_158_4.toInt ≤ 12 by omega)  hw hT hF c54 (lv_sub hl [0, 1, 2, 3, 4, 5, 6, 7] rfl)
      have J104 : ∀ (v104_5 : Int32) (v104_6 : Int32) (f104_158_4 : Int32) (H : Heap) (locs : List Loc) (ls : Array Slot) (w56 : va_W), 0 ≤ a2.toInt → a2.toInt ≤ 7 → 0 ≤ v27_4.toInt → v27_4.toInt ≤ 11 → 0 ≤ v104_5.toInt → v104_5.toInt ≤ 9 → 0 ≤ v104_6.toInt → v104_6.toInt ≤ 9 → 1 ≤ f104_158_4.toInt → f104_158_4.toInt ≤ 12 → Wd dC dI A s.heap H locs w56 → TW ksC ad cy B qr s1 w56 → FE ksC [(51, 0, 10)] w0 w56 → gi w56 158 4 = f104_158_4 → lv_has ls 8 [(0, .ref (ad 158)), (1, .int 0), (2, .int a2), (3, .int (-1)), (4, .int v27_4), (5, .int v104_5), (6, .int v104_6), (7, .int 0)] → W p l e ({ frames := 1, cells := 0, slots := 0, locals := 12 }) s m (List.toArray [.ref (ad 158), .int 0, .int a2, .int (-1)]) below meth c H locs 0 0 (MQ below (va_Qv (P_X10_layRoads_9 ad cy B qr s1 a2 w0) (fun u : va_W => wpost dC dI cy A u) A) (List.toArray [.ref (ad 158), .int 0, .int a2, .int (-1)]) s 0 0 A) (F0 m 104 ls []) := by
        intro v104_5 v104_6 f104_158_4 H locs ls w56 r57 t58 r59 t60 r61 t62 r63 t64 r65 t66 hw hT hF c67 hl
        refine lv_aload_n hx hb dX10_layRoads_104 rfl (lv_at hl 0 rfl) ?_
        refine tk_getA hC hK hw hT hinX10 kC_at158 (by decide) rfl 3 (by decide) (List.mem_of_getElem? (i := 1) rfl) rfl rfl dX10_layRoads_105 ?_
        refine lv_iload hx hb dX10_layRoads_108 (lv_at hl 5 rfl) ?_
        refine lv_dup2_11 hx hb dX10_layRoads_110 rfl rfl ?_
        refine tk_iald hC hK hw hT kC_at160 rfl rfl (show 0 ≤ v104_5.toInt by omega) (show v104_5.toInt < 10 by omega) dX10_layRoads_111 (fun x68 c69 rx68 tx68 => ?_)
        refine lv_iconst (v := 1) hx hb dX10_layRoads_112 (by decide) ?_
        refine lv_iload hx hb dX10_layRoads_113 (lv_at hl 6 rfl) ?_
        refine lv_ishl hx hb dX10_layRoads_115 ?_
        refine lv_topi (fun x70 ex70 => ?_)
        have bx70 : 1 ≤ x70.toInt ∧ x70.toInt ≤ 512 := by rw [ex70]; exact wk_shl1 9 (by decide) (by omega) (by omega)
        refine lv_ior hx hb dX10_layRoads_116 ?_
        refine lv_topi (fun x71 ex71 => ?_)
        have bx71 : 0 ≤ x71.toInt ∧ x71.toInt < 1024 := by rw [ex71]; exact wk_or 10 (by decide) (by omega) (by omega) (by omega) (by omega)
        refine tk_iast hC hK hw hT kC_at160 (by decide) rfl rfl (show 0 ≤ v104_5.toInt by omega) (show v104_5.toInt < 10 by omega) (show 0 ≤ x71.toInt by omega) (show x71.toInt ≤ 1023 by omega) dX10_layRoads_117 (fun H locs w72 hw hT k74 c73 => ?_)
        have hF := hF.put kC_at160 (inE_of (a := 0) (b := 10) (by decide) (show 0 ≤ v104_5.toInt.toNat by omega) (show v104_5.toInt.toNat ≤ 10 by omega)) k74
        have c75 := k74.gi (Or.inl (tk_ne kC_at158 kC_at160 (by decide))) c67
        exact J118 v104_5 v104_6 0 f104_158_4 H locs ls w72 (show 0 ≤ a2.toInt by omega) (show a2.toInt ≤ 7 by omega) (show 0 ≤ v27_4.toInt by omega) (show v27_4.toInt ≤ 11 by omega) (show 0 ≤ v104_5.toInt by omega) (show v104_5.toInt ≤ 9 by omega) (show 0 ≤ v104_6.toInt by omega) (show v104_6.toInt ≤ 9 by omega) (by decide) (by decide) (show 1 ≤ f104_158_4.toInt by omega) (show f104_158_4.toInt ≤ 12 by omega)  hw hT hF c75 (lv_sub hl [0, 1, 2, 3, 4, 5, 6, 7] rfl)
      refine lv_iload hx hb dX10_layRoads_27 (lv_at hl 4 rfl) ?_
      refine lv_aload_n hx hb dX10_layRoads_29 rfl (lv_at hl 0 rfl) ?_
      refine tk_geti hC hK hw hT hinX10 kC_at158 (by decide) rfl 4 (by decide) (List.mem_of_getElem? (i := 2) rfl) rfl rfl dX10_layRoads_30 (fun x76 c77 rx76 tx76 => ?_)
      refine lv_icmp_ge (tgt := 150) hx hb dX10_layRoads_33 (by decide) (fun c78 => ?_) (fun c78 => ?_)
      · have c78 : x76.toInt ≤ v27_4.toInt := wk_le.mp c78
        exact tk_vret hC hr hlocks hK ⟨hT, hF, trivial⟩ hw dX10_layRoads_150
      · have c78 : v27_4.toInt < x76.toInt := wk_leF c78
        refine lv_iload hx hb dX10_layRoads_36 (lv_at hl 4 rfl) ?_
        refine lv_iload_n hx hb dX10_layRoads_38 rfl (lv_at hl 3 rfl) ?_
        refine lv_icmp_ne (tgt := 45) hx hb dX10_layRoads_39 (by decide) (fun _ => ?_) (fun c => absurd (show v27_4.toInt = (-1 : Int) from wk_eq.mp c) (by omega))
        refine lv_aload_n hx hb dX10_layRoads_45 rfl (lv_at hl 0 rfl) ?_
        refine tk_getA hC hK hw hT hinX10 kC_at158 (by decide) rfl 1 (by decide) (List.mem_of_getElem? (i := 3) rfl) rfl rfl dX10_layRoads_46 ?_
        refine tk_getO hC hK hw hT hinX7 kC_at39 (by decide) rfl 0 (by decide) (List.mem_of_getElem? (i := 4) rfl) rfl rfl dX10_layRoads_49 ?_
        refine lv_iconst (v := 2) hx hb dX10_layRoads_52 (by decide) ?_
        refine lv_aload_n hx hb dX10_layRoads_53 rfl (lv_at hl 0 rfl) ?_
        refine tk_getA hC hK hw hT hinX10 kC_at158 (by decide) rfl 2 (by decide) (List.mem_of_getElem? (i := 5) rfl) rfl rfl dX10_layRoads_54 ?_
        refine lv_iload hx hb dX10_layRoads_57 (lv_at hl 4 rfl) ?_
        refine tk_iald hC hK hw hT kC_at159 rfl rfl (show 0 ≤ v27_4.toInt by omega) (show v27_4.toInt < 12 by omega) dX10_layRoads_59 (fun x79 c80 rx79 tx79 => ?_)
        refine lv_imul hx hb dX10_layRoads_60 ?_
        refine lv_topi (fun x81 ex81 => ?_)
        have ex81 : x81.toInt = (2 : Int) * x79.toInt := by rw [ex81]; exact wk_mul (show (-2147483648) ≤ (2 : Int) * x79.toInt by omega) (show (2 : Int) * x79.toInt ≤ 2147483647 by omega)
        refine tk_iald hC hK hw hT kC_at40 rfl rfl (show 0 ≤ x81.toInt by omega) (show x81.toInt < 26 by omega) dX10_layRoads_61 (fun x82 c83 rx82 tx82 => ?_)
        refine lv_istore (lv' := [(5, .int x82), (0, .ref (ad 158)), (1, .int 0), (2, .int a2), (3, .int (-1)), (4, .int v27_4)]) hx hb dX10_layRoads_62 hl (by decide) rfl (fun ls hl => ?_)
        refine lv_aload_n hx hb dX10_layRoads_64 rfl (lv_at hl 1 rfl) ?_
        refine tk_getA hC hK hw hT hinX10 kC_at158 (by decide) rfl 1 (by decide) (List.mem_of_getElem? (i := 3) rfl) rfl rfl dX10_layRoads_65 ?_
        refine tk_getO hC hK hw hT hinX7 kC_at39 (by decide) rfl 0 (by decide) (List.mem_of_getElem? (i := 4) rfl) rfl rfl dX10_layRoads_68 ?_
        refine lv_iconst (v := 2) hx hb dX10_layRoads_71 (by decide) ?_
        refine lv_aload_n hx hb dX10_layRoads_72 rfl (lv_at hl 1 rfl) ?_
        refine tk_getA hC hK hw hT hinX10 kC_at158 (by decide) rfl 2 (by decide) (List.mem_of_getElem? (i := 5) rfl) rfl rfl dX10_layRoads_73 ?_
        refine lv_iload hx hb dX10_layRoads_76 (lv_at hl 5 rfl) ?_
        refine tk_iald hC hK hw hT kC_at159 rfl rfl (show 0 ≤ v27_4.toInt by omega) (show v27_4.toInt < 12 by omega) dX10_layRoads_78 (fun x84 c85 rx84 tx84 => ?_)
        refine lv_imul hx hb dX10_layRoads_79 ?_
        refine lv_topi (fun x86 ex86 => ?_)
        have ex86 : x86.toInt = (2 : Int) * x84.toInt := by rw [ex86]; exact wk_mul (show (-2147483648) ≤ (2 : Int) * x84.toInt by omega) (show (2 : Int) * x84.toInt ≤ 2147483647 by omega)
        refine lv_iconst (v := 1) hx hb dX10_layRoads_80 (by decide) ?_
        refine lv_iadd hx hb dX10_layRoads_81 ?_
        refine lv_topi (fun x87 ex87 => ?_)
        have ex87 : x87.toInt = x86.toInt + (1 : Int) := by rw [ex87]; exact wk_add (show (-2147483648) ≤ x86.toInt + (1 : Int) by omega) (show x86.toInt + (1 : Int) ≤ 2147483647 by omega)
        refine tk_iald hC hK hw hT kC_at40 rfl rfl (show 0 ≤ x87.toInt by omega) (show x87.toInt < 26 by omega) dX10_layRoads_82 (fun x88 c89 rx88 tx88 => ?_)
        refine lv_istore (lv' := [(6, .int x88), (5, .int x82), (0, .ref (ad 158)), (1, .int 0), (2, .int a2), (3, .int (-1)), (4, .int v27_4)]) hx hb dX10_layRoads_83 hl (by decide) rfl (fun ls hl => ?_)
        refine lv_iload_n hx hb dX10_layRoads_85 rfl (lv_at hl 4 rfl) ?_
        refine lv_iload hx hb dX10_layRoads_86 (lv_at hl 6 rfl) ?_
        refine lv_ishr hx hb dX10_layRoads_88 ?_
        refine lv_topi (fun x90 ex90 => ?_)
        have bx90 : 0 ≤ x90.toInt ∧ x90.toInt ≤ a2.toInt := by rw [ex90]; exact wk_shr (by omega)
        refine lv_iconst (v := 1) hx hb dX10_layRoads_89 (by decide) ?_
        refine lv_iand hx hb dX10_layRoads_90 ?_
        refine lv_topi (fun x91 ex91 => ?_)
        have bx91 : 0 ≤ x91.toInt ∧ x91.toInt ≤ (1 : Int) := by rw [ex91]; exact wk_and (by decide)
        refine lv_istore (lv' := [(7, .int x91), (6, .int x88), (5, .int x82), (0, .ref (ad 158)), (1, .int 0), (2, .int a2), (3, .int (-1)), (4, .int v27_4)]) hx hb dX10_layRoads_91 hl (by decide) rfl (fun ls hl => ?_)
        refine lv_iload hx hb dX10_layRoads_93 (lv_at hl 7 rfl) ?_
        refine lv_iload_n hx hb dX10_layRoads_95 rfl (lv_at hl 4 rfl) ?_
        refine lv_icmp_lt (tgt := 104) hx hb dX10_layRoads_96 (by decide) (fun c => absurd c (fun h => absurd (show v27_4.toInt < (0 : Int) from wk_lt.mp h) (by omega))) (fun _ => ?_)
        refine lv_iload hx hb dX10_layRoads_99 (lv_at hl 0 rfl) ?_
        refine lv_if_ne (tgt := 118) hx hb dX10_layRoads_101 (by decide) (fun c92 => ?_) (fun c92 => ?_)
        · have c92 : ¬ x91.toInt = (0 : Int) := wk_eqF c92
          exact J118 x82 x88 x91 x76 H locs ls w1 (show 0 ≤ a2.toInt by omega) (show a2.toInt ≤ 7 by omega) (show 0 ≤ v27_4.toInt by omega) (show v27_4.toInt ≤ 11 by omega) (show 0 ≤ x82.toInt by omega) (show x82.toInt ≤ 9 by omega) (show 0 ≤ x88.toInt by omega) (show x88.toInt ≤ 9 by omega) (show 0 ≤ x91.toInt by omega) (show x91.toInt ≤ 1 by omega) (show 1 ≤ x76.toInt by omega) (show x76.toInt ≤ 12 by omega)  hw hT hF c77 (lv_sub hl [3, 4, 5, 6, 7, 2, 1, 0] rfl)
        · have c92 : x91.toInt = (0 : Int) := wk_eq.mp c92
          obtain rfl : x91 = 0 := wk_eq.mpr (show x91.toInt = 0 by omega)
          exact J104 x82 x88 x76 H locs ls w1 (show 0 ≤ a2.toInt by omega) (show a2.toInt ≤ 7 by omega) (show 0 ≤ v27_4.toInt by omega) (show v27_4.toInt ≤ 11 by omega) (show 0 ≤ x82.toInt by omega) (show x82.toInt ≤ 9 by omega) (show 0 ≤ x88.toInt by omega) (show x88.toInt ≤ 9 by omega) (show 1 ≤ x76.toInt by omega) (show x76.toInt ≤ 12 by omega)  hw hT hF c77 (lv_sub hl [3, 4, 5, 6, 7, 2, 1, 0] rfl)
  have L3 : ∀ (n3 : Nat) (v3_4 : Int32) (H : Heap) (locs : List Loc) (ls : Array Slot) (w93 : va_W), 0 ≤ a2.toInt → a2.toInt ≤ 7 → 0 ≤ v3_4.toInt → v3_4.toInt ≤ 10 → (10 - v3_4.toInt).toNat < n3 → Wd dC dI A s.heap H locs w93 → TW ksC ad cy B qr s1 w93 → FE ksC [(51, 0, 10)] w0 w93 → lv_has ls 8 [(0, .ref (ad 158)), (1, .int 0), (2, .int a2), (3, .int (-1)), (4, .int v3_4)] → W p l e ({ frames := 1, cells := 0, slots := 0, locals := 12 }) s m (List.toArray [.ref (ad 158), .int 0, .int a2, .int (-1)]) below meth c H locs 0 0 (MQ below (va_Qv (P_X10_layRoads_9 ad cy B qr s1 a2 w0) (fun u : va_W => wpost dC dI cy A u) A) (List.toArray [.ref (ad 158), .int 0, .int a2, .int (-1)]) s 0 0 A) (F0 m 3 ls []) := by
    intro n3
    induction n3 with
    | zero => intro v3_4 H locs ls w93 r94 t95 r96 t97 hm3 hw hT hF hl; omega
    | succ n3 ih3 =>
      intro v3_4 H locs ls w93 r94 t95 r96 t97 hm3 hw hT hF hl
      refine lv_iload hx hb dX10_layRoads_3 (lv_at hl 4 rfl) ?_
      refine lv_bipush (v := 10) hx hb dX10_layRoads_5 (by decide) ?_
      refine lv_icmp_ge (tgt := 24) hx hb dX10_layRoads_7 (by decide) (fun c98 => ?_) (fun c98 => ?_)
      · have c98 : (10 : Int) ≤ v3_4.toInt := wk_le.mp c98
        refine lv_iconst (v := 0) hx hb dX10_layRoads_24 (by decide) ?_
        refine lv_istore (lv' := [(4, .int 0), (0, .ref (ad 158)), (1, .int 0), (2, .int a2), (3, .int (-1))]) hx hb dX10_layRoads_25 hl (by decide) rfl (fun ls hl => ?_)
        exact L27 ((12 - (0 : Int)).toNat + 1) 0 H locs ls w93 (show 0 ≤ a2.toInt by omega) (show a2.toInt ≤ 7 by omega) (by decide) (by decide) (Nat.lt_succ_self _) hw hT hF  (lv_sub hl [1, 2, 3, 4, 0] rfl)
      · have c98 : v3_4.toInt < (10 : Int) := wk_leF c98
        refine lv_aload_n hx hb dX10_layRoads_10 rfl (lv_at hl 0 rfl) ?_
        refine tk_getA hC hK hw hT hinX10 kC_at158 (by decide) rfl 3 (by decide) (List.mem_of_getElem? (i := 1) rfl) rfl rfl dX10_layRoads_11 ?_
        refine lv_iload hx hb dX10_layRoads_14 (lv_at hl 4 rfl) ?_
        refine lv_iconst (v := 0) hx hb dX10_layRoads_16 (by decide) ?_
        refine tk_iast hC hK hw hT kC_at160 (by decide) rfl rfl (show 0 ≤ v3_4.toInt by omega) (show v3_4.toInt < 10 by omega) (by decide) (by decide) dX10_layRoads_17 (fun H locs w99 hw hT k101 c100 => ?_)
        have hF := hF.put kC_at160 (inE_of (a := 0) (b := 10) (by decide) (show 0 ≤ v3_4.toInt.toNat by omega) (show v3_4.toInt.toNat ≤ 10 by omega)) k101
        obtain ⟨x102, ex102⟩ : ∃ y : Int32, y = v3_4 + Int32.ofInt 1 := ⟨_, rfl⟩
        refine lv_iinc (v := x102) (lv' := [(4, .int x102), (0, .ref (ad 158)), (1, .int 0), (2, .int a2), (3, .int (-1))]) hx hb dX10_layRoads_18 hl (k := 4) rfl ex102.symm (by decide) rfl (fun ls hl => ?_)
        have ex102 : x102.toInt = v3_4.toInt + 1 := by rw [ex102]; exact wk_add (y := 1) (show -2147483648 ≤ v3_4.toInt + 1 by omega) (show v3_4.toInt + 1 ≤ 2147483647 by omega)
        refine lv_goto (tgt := 3) hx hb dX10_layRoads_21 (by decide) ?_
        exact ih3 x102 H locs ls w99 (show 0 ≤ a2.toInt by omega) (show a2.toInt ≤ 7 by omega) (show 0 ≤ x102.toInt by omega) (show x102.toInt ≤ 10 by omega) (show (10 - x102.toInt).toNat < n3 by omega) hw hT hF  (lv_sub hl [1, 2, 3, 4, 0] rfl)
  refine lv_iconst (v := 0) hx hb dX10_layRoads_0 (by decide) ?_
  refine lv_istore (lv' := [(4, .int 0), (0, .ref (ad 158)), (1, .int 0), (2, .int a2), (3, .int (-1))]) hx hb dX10_layRoads_1 hl (by decide) rfl (fun ls hl => ?_)
  exact L3 ((10 - (0 : Int)).toNat + 1) 0 s.heap locs ls w0 (show 0 ≤ a2.toInt by omega) (show a2.toInt ≤ 7 by omega) (by decide) (by decide) (Nat.lt_succ_self _) hw hT hF  (lv_sub hl [1, 2, 3, 4, 0] rfl)
