abbrev Pz_X7_commonSign_1 (ad : Nat → Nat) (cy : Nat → ClassId) (B : Int) (qr : Nat) (s1 : Int) (a1 : Int32) (w0 : va_W) : Int32 → va_W → Prop := fun r u => TW ksC ad cy B qr s1 u ∧ FE ksC ([] : List (Nat × Nat × Nat)) w0 u ∧ Ev (fun n => m_X7_commonSign n 39 a1.toInt (sI w0)) (r.toInt, sI u) ∧ ((0 ≤ r.toInt ∧ r.toInt ≤ 3))
set_option maxHeartbeats 4000000 in
set_option maxRecDepth 100000 in
theorem kz_X7_commonSign_1 (l : Launch) (adK adV : Nat → Nat) (dC : Nat → ClassId) (dI : Nat → Nat → Nat) (cy : Nat → ClassId) (ad : Nat → Nat) (B : Int) (hB0 : 2147483648 ≤ B) (hB1 : B ≤ 1152921504606846976) (qr : Nat) (s1 : Int)  (a1 : Int32) (ra1 : 0 ≤ a1.toInt) (ta1 : a1.toInt ≤ 11) (w0 : va_W) (sz : Nat) (hT : TW ksC ad cy B qr s1 w0)  : Met l yX7_commonSign (wu yX7_commonSign cX7_commonSign 4 (some .int)) ({ frames := 3, cells := 0, slots := 0, locals := 58 }) (va_Pc [.ref (ad 39), .int a1] (wpreS adK adV dC dI cy sz w0)) (va_Qi (Pz_X7_commonSign_1 ad cy B qr s1 a1 w0) (fun u : va_W => wpost dC dI cy (va_A w0 sz) u) (va_A w0 sz)) 0 0 (va_A w0 sz) := by
  refine Met.ofW (cc := cX7_commonSign) (maxL := 4) (ret := (some .int)) (by decide) rfl ?_
  intro p e s m args below meth c s₁ Bk hml hv
  obtain ⟨rfl, ⟨hsz, hP, hK, hD0⟩, hE, hSR⟩ := hv
  have hx := Bk.exec
  have hb := Bk.bytes
  have hr := Bk.returns
  have hlocks := Bk.notSynchronized
  have hC : CallFix p m c cX7_commonSign 4 s _ (wu yX7_commonSign cX7_commonSign 4 (some .int)) RX7 := ⟨hx, hb, hml, findClass_of_methodNamed Bk.named, atoms_spec (ws := (wu yX7_commonSign cX7_commonSign 4 (some .int))) Bk.pre⟩
  subst hsz
  have hD := hD0.self (sz := s.heap.size)
  generalize hAe : va_A w0 s.heap.size = A at hD hE ⊢
  have hA : ∀ q : Nat, s.heap.size ≤ q → A q := fun q h => by rw [← hAe]; exact Or.inr h
  have hw : Wd dC dI A s.heap s.heap [] w0 := ⟨hP, hD, va_S.rf⟩
  have hF : FE ksC ([] : List (Nat × Nat × Nat)) w0 w0 := FE.rf
  have hl := lv_entry ([.ref (ad 39), .int a1]) (n := 4) (Nat.le_of_ble_eq_true rfl)
  rw [lg_entry_eq]
  generalize (lg_sl ([.ref (ad 39), .int a1]) ++ List.replicate (4 - (lg_sl ([.ref (ad 39), .int a1])).length) Slot.unset).toArray = ls at hl ⊢
  have hl : lv_has ls 4 [(0, .ref (ad 39)), (1, .int a1)] := hl
  generalize hloc : ([] : List Loc) = locs at hw ⊢
  have L4 : ∀ (n4 : Nat) (v4_2 : Int32) (v4_3 : Int32) (H : Heap) (locs : List Loc) (ls : Array Slot) (w1 : va_W), 0 ≤ a1.toInt → a1.toInt ≤ 11 → 0 ≤ v4_2.toInt → v4_2.toInt ≤ 3 → 1 ≤ v4_3.toInt → v4_3.toInt ≤ 4 → (4 - v4_3.toInt).toNat < n4 → Wd dC dI A s.heap H locs w1 → TW ksC ad cy B qr s1 w1 → FE ksC ([] : List (Nat × Nat × Nat)) w0 w1 → TT (fun n => m_X7_commonSign n 39 a1.toInt (sI w0)) (fun n => j_X7_commonSign 39 n 4 [a1.toInt, v4_2.toInt, v4_3.toInt] (sI w1)) → lv_has ls 4 [(0, .ref (ad 39)), (1, .int a1), (2, .int v4_2), (3, .int v4_3)] → W p l e ({ frames := 3, cells := 0, slots := 0, locals := 58 }) s m (List.toArray [.ref (ad 39), .int a1]) below meth c H locs 0 0 (MQ below (va_Qi (Pz_X7_commonSign_1 ad cy B qr s1 a1 w0) (fun u : va_W => wpost dC dI cy A u) A) (List.toArray [.ref (ad 39), .int a1]) s 0 0 A) (F0 m 4 ls []) := by
    intro n4
    induction n4 with
    | zero => intro v4_2 v4_3 H locs ls w1 r2 t3 r4 t5 r6 t7 hm4 hw hT hF hM hl; omega
    | succ n4 ih4 =>
      intro v4_2 v4_3 H locs ls w1 r2 t3 r4 t5 r6 t7 hm4 hw hT hF hM hl
      have J26 : ∀ (v26_2 : Int32) (H : Heap) (locs : List Loc) (ls : Array Slot) (w8 : va_W), 0 ≤ a1.toInt → a1.toInt ≤ 11 → 0 ≤ v26_2.toInt → v26_2.toInt ≤ 3 → 1 ≤ v4_3.toInt → v4_3.toInt ≤ 3 → Wd dC dI A s.heap H locs w8 → TW ksC ad cy B qr s1 w8 → FE ksC ([] : List (Nat × Nat × Nat)) w0 w8 → TT (fun n => m_X7_commonSign n 39 a1.toInt (sI w0)) (fun n => b_X7_commonSign_26 (j_X7_commonSign 39 n) n 39 (a1.toInt) (v26_2.toInt) (v4_3.toInt) (sI w8)) → lv_has ls 4 [(0, .ref (ad 39)), (1, .int a1), (2, .int v26_2), (3, .int v4_3)] → W p l e ({ frames := 3, cells := 0, slots := 0, locals := 58 }) s m (List.toArray [.ref (ad 39), .int a1]) below meth c H locs 0 0 (MQ below (va_Qi (Pz_X7_commonSign_1 ad cy B qr s1 a1 w0) (fun u : va_W => wpost dC dI cy A u) A) (List.toArray [.ref (ad 39), .int a1]) s 0 0 A) (F0 m 26 ls []) := by
        intro v26_2 H locs ls w8 r9 t10 r11 t12 r13 t14 hw hT hF hM hl
        obtain ⟨x15, ex15⟩ : ∃ y : Int32, y = v4_3 + Int32.ofInt 1 := ⟨_, rfl⟩
        have erx15 := ex15
        refine lv_iinc (v := x15) (lv' := [(3, .int x15), (0, .ref (ad 39)), (1, .int a1), (2, .int v26_2)]) hx hb dX7_commonSign_26 hl (k := 3) rfl ex15.symm (by decide) rfl (fun ls hl => ?_)
        have ex15 : x15.toInt = v4_3.toInt + 1 := by rw [ex15]; exact wk_add (y := 1) (show -2147483648 ≤ v4_3.toInt + 1 by omega) (show v4_3.toInt + 1 ≤ 2147483647 by omega)
        replace hM := hM.lt ex15.symm
        refine lv_goto (tgt := 4) hx hb dX7_commonSign_29 (by decide) ?_
        exact ih4 v26_2 x15 H locs ls w8 (show 0 ≤ a1.toInt from r9) (show a1.toInt ≤ 11 from t10) (show 0 ≤ v26_2.toInt from r11) (show v26_2.toInt ≤ 3 from t12) (show 1 ≤ x15.toInt by first | with_reducible assumption | omega) (show x15.toInt ≤ 4 by first | with_reducible assumption | omega) (show (4 - x15.toInt).toNat < n4 by first | exact tn_lt hm4 (by omega) (by omega) | omega) hw hT hF hM (lv_sub hl [1, 2, 3, 0] rfl)
      replace hM := hM.suc (fun _ => e_X7_commonSign_4)
      refine lv_iload_n hx hb dX7_commonSign_4 rfl (lv_at hl 3 rfl) ?_
      refine lv_iconst (v := 3) hx hb dX7_commonSign_5 (by decide) ?_
      refine lv_icmp_gt (tgt := 32) hx hb dX7_commonSign_6 (by decide) (fun c16 => ?_) (fun c16 => ?_)
      · have c16 : (3 : Int) < v4_3.toInt := wk_lt.mp c16
        replace hM := hM.pos c16
        refine lv_iload_n hx hb dX7_commonSign_32 rfl (lv_at hl 2 rfl) ?_
        exact tk_iret hC hr hlocks hK ⟨hT, hF, hM.ret rfl, ⟨(show 0 ≤ v4_2.toInt from r4), (show v4_2.toInt ≤ 3 from t5)⟩⟩ hw dX7_commonSign_33
      · have c16 : v4_3.toInt ≤ (3 : Int) := wk_ltF c16
        replace hM := hM.neg (Int.not_lt.mpr c16)
        refine lv_aload_n hx hb dX7_commonSign_9 rfl (lv_at hl 0 rfl) ?_
        refine lv_iload_n hx hb dX7_commonSign_10 rfl (lv_at hl 1 rfl) ?_
        refine lv_iload_n hx hb dX7_commonSign_11 rfl (lv_at hl 3 rfl) ?_
        refine tk_Vi hC hK hw hT hA hE hSR kC_at39 (by decide) rfl (kz_X7_daysWith_1 l adK adV dC dI cy ad B hB0 (Int.le_trans hB1 (by decide)) qr s1   a1 (show 0 ≤ a1.toInt from r2) (show a1.toInt ≤ 11 from t3) v4_3 (show 1 ≤ v4_3.toInt from r6) (show v4_3.toInt ≤ 3 by first | with_reducible assumption | omega) w1 H.size hT ) (cwV 2 hC.2.2.2.2 uV_RX7_158 rfl rfl rfl (by decide +kernel) ⟨Nat.le_of_ble_eq_true rfl, Nat.le_of_ble_eq_true rfl⟩) rfl hl.1 rfl (Nat.le_of_ble_eq_true rfl) dX7_commonSign_12 (fun r17 w19 H locs hp18 hw => ?_)
        obtain ⟨hT, k20, hv22, hg21⟩ := hp18
        have hF := hF.tr k20 (by decide)
        clear hg21
        replace hM := hM.call hv22 rfl
        refine lv_aload_n hx hb dX7_commonSign_15 rfl (lv_at hl 0 rfl) ?_
        refine lv_iload_n hx hb dX7_commonSign_16 rfl (lv_at hl 1 rfl) ?_
        refine lv_iload_n hx hb dX7_commonSign_17 rfl (lv_at hl 2 rfl) ?_
        refine tk_Vi hC hK hw hT hA hE hSR kC_at39 (by decide) rfl (kz_X7_daysWith_2 l adK adV dC dI cy ad B hB0 (Int.le_trans hB1 (by decide)) qr s1   a1 (show 0 ≤ a1.toInt from r2) (show a1.toInt ≤ 11 from t3) v4_2 (show 0 ≤ v4_2.toInt from r4) (show v4_2.toInt ≤ 3 from t5) w19 H.size hT ) (cwV 2 hC.2.2.2.2 uV_RX7_158 rfl rfl rfl (by decide +kernel) ⟨Nat.le_of_ble_eq_true rfl, Nat.le_of_ble_eq_true rfl⟩) rfl hl.1 rfl (Nat.le_of_ble_eq_true rfl) dX7_commonSign_18 (fun r23 w25 H locs hp24 hw => ?_)
        obtain ⟨hT, k26, hv28, hg27⟩ := hp24
        have hF := hF.tr k26 (by decide)
        clear hg27
        replace hM := hM.call hv28 rfl
        refine lv_icmp_le (tgt := 26) hx hb dX7_commonSign_21 (by decide) (fun c29 => ?_) (fun c29 => ?_)
        · have c29 : r17.toInt ≤ r23.toInt := wk_le.mp c29
          replace hM := hM.pos c29
          exact J26 v4_2 H locs ls w25 (show 0 ≤ a1.toInt from r2) (show a1.toInt ≤ 11 from t3) (show 0 ≤ v4_2.toInt from r4) (show v4_2.toInt ≤ 3 from t5) (show 1 ≤ v4_3.toInt from r6) (show v4_3.toInt ≤ 3 by first | with_reducible assumption | omega)  hw hT hF hM (lv_sub hl [0, 1, 2, 3] rfl)
        · have c29 : r23.toInt < r17.toInt := wk_leF c29
          replace hM := hM.neg (Int.not_le.mpr c29)
          refine lv_iload_n hx hb dX7_commonSign_24 rfl (lv_at hl 3 rfl) ?_
          refine lv_istore_n (lv' := [(2, .int v4_3), (0, .ref (ad 39)), (1, .int a1), (3, .int v4_3)]) hx hb dX7_commonSign_25 rfl hl (by decide) rfl (fun ls hl => ?_)
          exact J26 v4_3 H locs ls w25 (show 0 ≤ a1.toInt from r2) (show a1.toInt ≤ 11 from t3) (show 0 ≤ v4_3.toInt from Int.le_trans (by decide) r6) (show v4_3.toInt ≤ 3 by first | with_reducible assumption | omega) (show 1 ≤ v4_3.toInt from r6) (show v4_3.toInt ≤ 3 by first | with_reducible assumption | omega)  hw hT hF hM (lv_sub hl [1, 2, 0, 3] rfl)
  have hM : TT (fun n => m_X7_commonSign n 39 a1.toInt (sI w0)) (fun n => m_X7_commonSign n 39 a1.toInt (sI w0)) := TT.rf
  refine lv_iconst (v := 0) hx hb dX7_commonSign_0 (by decide) ?_
  refine lv_istore_n (lv' := [(2, .int 0), (0, .ref (ad 39)), (1, .int a1)]) hx hb dX7_commonSign_1 rfl hl (by decide) rfl (fun ls hl => ?_)
  refine lv_iconst (v := 1) hx hb dX7_commonSign_2 (by decide) ?_
  refine lv_istore_n (lv' := [(3, .int 1), (2, .int 0), (0, .ref (ad 39)), (1, .int a1)]) hx hb dX7_commonSign_3 rfl hl (by decide) rfl (fun ls hl => ?_)
  exact L4 ((4 - (1 : Int)).toNat + 1) 0 1 s.heap locs ls w0 (show 0 ≤ a1.toInt from ra1) (show a1.toInt ≤ 11 from ta1) (by decide) (by decide) (by decide) (by decide) (Nat.lt_succ_self _) hw hT hF hM (lv_sub hl [2, 3, 1, 0] rfl)
abbrev Pz_X11_cheap_1 (ad : Nat → Nat) (cy : Nat → ClassId) (B : Int) (qr : Nat) (s1 : Int) (a1 : Int32) (w0 : va_W) : Int32 → va_W → Prop := fun r u => TW ksC ad cy B qr s1 u ∧ FE ksC ([] : List (Nat × Nat × Nat)) w0 u ∧ Ev (fun n => m_X11_cheap n 0 a1.toInt (sI w0)) (r.toInt, sI u) ∧ ((0 ≤ r.toInt ∧ r.toInt ≤ 3 ∧ 0 ≤ a1.toInt ∧ a1.toInt ≤ 11 ∧ (∃ y : Int32, gi u 39 9 = y ∧ 1 ≤ y.toInt ∧ y.toInt ≤ 12)) ∨ (r = (-1)))
set_option maxHeartbeats 4000000 in
set_option maxRecDepth 100000 in
theorem kz_X11_cheap_1 (l : Launch) (adK adV : Nat → Nat) (dC : Nat → ClassId) (dI : Nat → Nat → Nat) (cy : Nat → ClassId) (ad : Nat → Nat) (B : Int) (hB0 : 2147483648 ≤ B) (hB1 : B ≤ 1152921504606846976) (qr : Nat) (s1 : Int)  (a1 : Int32) (w0 : va_W) (sz : Nat) (hT : TW ksC ad cy B qr s1 w0)  : Met l yX11_cheap (wu yX11_cheap cX11_cheap 2 (some .int)) ({ frames := 4, cells := 0, slots := 0, locals := 81 }) (va_Pc [.ref (ad 0), .int a1] (wpreS adK adV dC dI cy sz w0)) (va_Qi (Pz_X11_cheap_1 ad cy B qr s1 a1 w0) (fun u : va_W => wpost dC dI cy (va_A w0 sz) u) (va_A w0 sz)) 0 0 (va_A w0 sz) := by
  refine Met.ofW (cc := cX11_cheap) (maxL := 2) (ret := (some .int)) (by decide) rfl ?_
  intro p e s m args below meth c s₁ Bk hml hv
  obtain ⟨rfl, ⟨hsz, hP, hK, hD0⟩, hE, hSR⟩ := hv
  have hx := Bk.exec
  have hb := Bk.bytes
  have hr := Bk.returns
  have hlocks := Bk.notSynchronized
  have hC : CallFix p m c cX11_cheap 2 s _ (wu yX11_cheap cX11_cheap 2 (some .int)) RX11 := ⟨hx, hb, hml, findClass_of_methodNamed Bk.named, atoms_spec (ws := (wu yX11_cheap cX11_cheap 2 (some .int))) Bk.pre⟩
  subst hsz
  have hD := hD0.self (sz := s.heap.size)
  generalize hAe : va_A w0 s.heap.size = A at hD hE ⊢
  have hA : ∀ q : Nat, s.heap.size ≤ q → A q := fun q h => by rw [← hAe]; exact Or.inr h
  have hw : Wd dC dI A s.heap s.heap [] w0 := ⟨hP, hD, va_S.rf⟩
  have hF : FE ksC ([] : List (Nat × Nat × Nat)) w0 w0 := FE.rf
  have hl := lv_entry ([.ref (ad 0), .int a1]) (n := 2) (Nat.le_of_ble_eq_true rfl)
  rw [lg_entry_eq]
  generalize (lg_sl ([.ref (ad 0), .int a1]) ++ List.replicate (2 - (lg_sl ([.ref (ad 0), .int a1])).length) Slot.unset).toArray = ls at hl ⊢
  have hl : lv_has ls 2 [(0, .ref (ad 0)), (1, .int a1)] := hl
  generalize hloc : ([] : List Loc) = locs at hw ⊢
  have hinX11 : ∀ w ∈ u_ws RX11 TX11 13, w ∈ (wu yX11_cheap cX11_cheap 2 (some .int)) := fun _ h => List.mem_cons_of_mem _ (up_70 h)
  have hinX5 : ∀ w ∈ u_ws RX5 TX5 14, w ∈ (wu yX11_cheap cX11_cheap 2 (some .int)) := fun _ h => List.mem_cons_of_mem _ (up_76 h)
  have hM : TT (fun n => m_X11_cheap n 0 a1.toInt (sI w0)) (fun n => m_X11_cheap n 0 a1.toInt (sI w0)) := TT.rf
  refine lv_aload_n hx hb dX11_cheap_0 rfl (lv_at hl 0 rfl) ?_
  refine tk_getA hC hK hw hT hinX11 kC_at0 (by decide) rfl 4 (by decide) (List.mem_cons_of_mem _ uw_1_7) rfl rfl dX11_cheap_1 ?_
  refine tk_getO hC hK hw hT hinX5 kC_at38 (by decide) rfl 0 (by decide) (List.mem_cons_of_mem _ uw_9_1) rfl rfl dX11_cheap_4 ?_
  refine lv_iload_n hx hb dX11_cheap_7 rfl (lv_at hl 1 rfl) ?_
  refine tk_Vi hC hK hw hT hA hE hSR kC_at39 (by decide) rfl (kz_X7_hasStreet_1 l adK adV dC dI cy ad B hB0 (Int.le_trans hB1 (by decide)) qr s1   a1 w0 s.heap.size hT ) (cwV 1 hC.2.2.2.2 uV_RX11_133 rfl rfl rfl (by decide +kernel) ⟨Nat.le_of_ble_eq_true rfl, Nat.le_of_ble_eq_true rfl⟩) rfl hl.1 rfl (Nat.le_of_ble_eq_true rfl) dX11_cheap_8 (fun r1 w3 H locs hp2 hw => ?_)
  obtain ⟨hT, k4, hv10, hg9⟩ := hp2
  have hF := hF.tr k4 (by decide)
  rcases hg9 with rfl | ⟨rfl, g5, g6, ⟨x7, c8, rx7, tx7⟩⟩
  · replace hM := hM.call (r' := 0) hv10 (by decide)
    refine lv_if_eq (tgt := 28) hx hb dX11_cheap_11 (by decide) (fun _ => ?_) (fun c => absurd (by decide) c)
    replace hM := hM.pos (by decide)
    refine lv_iconst (v := (-1)) hx hb dX11_cheap_28 (by decide) ?_
    exact tk_iret hC hr hlocks hK ⟨hT, hF, hM.ret (by decide), (Or.inr rfl)⟩ hw dX11_cheap_29
  · replace hM := hM.call (r' := 1) hv10 (by decide)
    refine lv_if_eq (tgt := 28) hx hb dX11_cheap_11 (by decide) (fun c => absurd c (by decide)) (fun _ => ?_)
    replace hM := hM.neg (by decide)
    refine lv_aload_n hx hb dX11_cheap_14 rfl (lv_at hl 0 rfl) ?_
    refine tk_getA hC hK hw hT hinX11 kC_at0 (by decide) rfl 4 (by decide) (List.mem_cons_of_mem _ uw_1_7) rfl rfl dX11_cheap_15 ?_
    refine tk_getO hC hK hw hT hinX5 kC_at38 (by decide) rfl 0 (by decide) (List.mem_cons_of_mem _ uw_9_1) rfl rfl dX11_cheap_18 ?_
    refine lv_iload_n hx hb dX11_cheap_21 rfl (lv_at hl 1 rfl) ?_
    refine tk_Vi hC hK hw hT hA hE hSR kC_at39 (by decide) rfl (kz_X7_commonSign_1 l adK adV dC dI cy ad B hB0 (Int.le_trans hB1 (by decide)) qr s1   a1 (show 0 ≤ a1.toInt by first | with_reducible assumption | omega) (show a1.toInt ≤ 11 by first | with_reducible assumption | omega) w3 H.size hT ) (cwV 1 hC.2.2.2.2 uV_RX11_242 rfl rfl rfl (by decide +kernel) ⟨Nat.le_of_ble_eq_true rfl, Nat.le_of_ble_eq_true rfl⟩) rfl hl.1 rfl (Nat.le_of_ble_eq_true rfl) dX11_cheap_22 (fun r11 w13 H locs hp12 hw => ?_)
    obtain ⟨hT, k14, hv18, hg17⟩ := hp12
    have hF := hF.tr k14 (by decide)
    have c19 := k14.gi kC_at39 (by decide) c8
    obtain ⟨g15, g16⟩ := hg17
    replace hM := hM.call hv18 rfl
    refine lv_goto (tgt := 29) hx hb dX11_cheap_25 (by decide) ?_
    exact tk_iret hC hr hlocks hK ⟨hT, hF, hM.ret rfl, (Or.inl ⟨(show 0 ≤ r11.toInt by first | with_reducible assumption | omega), (show r11.toInt ≤ 3 by first | with_reducible assumption | omega), (show 0 ≤ a1.toInt by first | with_reducible assumption | omega), (show a1.toInt ≤ 11 by first | with_reducible assumption | omega), ⟨x7, c19, (show 1 ≤ x7.toInt by first | with_reducible assumption | omega), (show x7.toInt ≤ 12 by first | with_reducible assumption | omega)⟩⟩)⟩ hw dX11_cheap_29
abbrev Pz_X7_commonSignWrong_1 (ad : Nat → Nat) (cy : Nat → ClassId) (B : Int) (qr : Nat) (s1 : Int) (a1 : Int32) (a2 : Int32) (w0 : va_W) : Int32 → va_W → Prop := fun r u => TW ksC ad cy B qr s1 u ∧ FE ksC ([] : List (Nat × Nat × Nat)) w0 u ∧ Ev (fun n => m_X7_commonSignWrong n 39 a1.toInt a2.toInt (sI w0)) (r.toInt, sI u) ∧ ((7 ≤ a2.toInt) ∨ (0 ≤ r.toInt ∧ r.toInt ≤ 1 ∧ a2.toInt ≤ 6))
set_option maxHeartbeats 4000000 in
set_option maxRecDepth 100000 in
theorem kz_X7_commonSignWrong_1 (l : Launch) (adK adV : Nat → Nat) (dC : Nat → ClassId) (dI : Nat → Nat → Nat) (cy : Nat → ClassId) (ad : Nat → Nat) (B : Int) (hB0 : 2147483648 ≤ B) (hB1 : B ≤ 1152921504606846976) (qr : Nat) (s1 : Int)  (a1 : Int32) (ra1 : 0 ≤ a1.toInt) (ta1 : a1.toInt ≤ 11) (a2 : Int32) (ra2 : 0 ≤ a2.toInt) (ta2 : a2.toInt ≤ 7) (w0 : va_W) (sz : Nat) (hT : TW ksC ad cy B qr s1 w0)  : Met l yX7_commonSignWrong (wu yX7_commonSignWrong cX7_commonSignWrong 4 (some .int)) ({ frames := 4, cells := 0, slots := 0, locals := 81 }) (va_Pc [.ref (ad 39), .int a1, .int a2] (wpreS adK adV dC dI cy sz w0)) (va_Qi (Pz_X7_commonSignWrong_1 ad cy B qr s1 a1 a2 w0) (fun u : va_W => wpost dC dI cy (va_A w0 sz) u) (va_A w0 sz)) 0 0 (va_A w0 sz) := by
  refine Met.ofW (cc := cX7_commonSignWrong) (maxL := 4) (ret := (some .int)) (by decide) rfl ?_
  intro p e s m args below meth c s₁ Bk hml hv
  obtain ⟨rfl, ⟨hsz, hP, hK, hD0⟩, hE, hSR⟩ := hv
  have hx := Bk.exec
  have hb := Bk.bytes
  have hr := Bk.returns
  have hlocks := Bk.notSynchronized
  have hC : CallFix p m c cX7_commonSignWrong 4 s _ (wu yX7_commonSignWrong cX7_commonSignWrong 4 (some .int)) RX7 := ⟨hx, hb, hml, findClass_of_methodNamed Bk.named, atoms_spec (ws := (wu yX7_commonSignWrong cX7_commonSignWrong 4 (some .int))) Bk.pre⟩
  subst hsz
  have hD := hD0.self (sz := s.heap.size)
  generalize hAe : va_A w0 s.heap.size = A at hD hE ⊢
  have hA : ∀ q : Nat, s.heap.size ≤ q → A q := fun q h => by rw [← hAe]; exact Or.inr h
  have hw : Wd dC dI A s.heap s.heap [] w0 := ⟨hP, hD, va_S.rf⟩
  have hF : FE ksC ([] : List (Nat × Nat × Nat)) w0 w0 := FE.rf
  have hl := lv_entry ([.ref (ad 39), .int a1, .int a2]) (n := 4) (Nat.le_of_ble_eq_true rfl)
  rw [lg_entry_eq]
  generalize (lg_sl ([.ref (ad 39), .int a1, .int a2]) ++ List.replicate (4 - (lg_sl ([.ref (ad 39), .int a1, .int a2])).length) Slot.unset).toArray = ls at hl ⊢
  have hl : lv_has ls 4 [(0, .ref (ad 39)), (1, .int a1), (2, .int a2)] := hl
  generalize hloc : ([] : List Loc) = locs at hw ⊢
  have hM : TT (fun n => m_X7_commonSignWrong n 39 a1.toInt a2.toInt (sI w0)) (fun n => m_X7_commonSignWrong n 39 a1.toInt a2.toInt (sI w0)) := TT.rf
  refine lv_aload_n hx hb dX7_commonSignWrong_0 rfl (lv_at hl 0 rfl) ?_
  refine lv_iload_n hx hb dX7_commonSignWrong_1 rfl (lv_at hl 1 rfl) ?_
  refine tk_Vi hC hK hw hT hA hE hSR kC_at39 (by decide) rfl (kz_X7_commonSign_1 l adK adV dC dI cy ad B hB0 (Int.le_trans hB1 (by decide)) qr s1   a1 (show 0 ≤ a1.toInt from ra1) (show a1.toInt ≤ 11 from ta1) w0 s.heap.size hT ) (cwV 1 hC.2.2.2.2 uV_RX7_161 rfl rfl rfl (by decide +kernel) ⟨Nat.le_of_ble_eq_true rfl, Nat.le_of_ble_eq_true rfl⟩) rfl hl.1 rfl (Nat.le_of_ble_eq_true rfl) dX7_commonSignWrong_2 (fun r1 w3 H locs hp2 hw => ?_)
  obtain ⟨hT, k4, hv8, hg7⟩ := hp2
  have hF := hF.tr k4 (by decide)
  obtain ⟨g5, g6⟩ := hg7
  replace hM := hM.call hv8 rfl
  refine lv_istore_n (lv' := [(3, .int r1), (0, .ref (ad 39)), (1, .int a1), (2, .int a2)]) hx hb dX7_commonSignWrong_5 rfl hl (by decide) rfl (fun ls hl => ?_)
  refine lv_iload_n hx hb dX7_commonSignWrong_6 rfl (lv_at hl 3 rfl) ?_
  refine lv_bipush (v := 7) hx hb dX7_commonSignWrong_7 (by decide) ?_
  refine lv_icmp_ne (tgt := 22) hx hb dX7_commonSignWrong_9 (by decide) (fun c9 => ?_) (fun c9 => ?_)
  · have c9 : ¬ a2.toInt = (7 : Int) := wk_eqF c9
    replace hM := hM.pos c9
    refine lv_aload_n hx hb dX7_commonSignWrong_22 rfl (lv_at hl 1 rfl) ?_
    refine lv_iload_n hx hb dX7_commonSignWrong_23 rfl (lv_at hl 2 rfl) ?_
    refine lv_iload_n hx hb dX7_commonSignWrong_24 rfl (lv_at hl 3 rfl) ?_
    refine tk_Vi hC hK hw hT hA hE hSR kC_at39 (by decide) rfl (kz_X7_signOn_1 l adK adV dC dI cy ad B hB0 (Int.le_trans hB1 (by decide)) qr s1   a1 (show 0 ≤ a1.toInt from ra1) (show a1.toInt ≤ 11 from ta1) a2 (show 0 ≤ a2.toInt from ra2) (show a2.toInt ≤ 6 by first | with_reducible assumption | omega) w3 H.size hT ) (cwV 2 hC.2.2.2.2 uV_RX7_155 rfl rfl rfl (by decide +kernel) ⟨Nat.le_of_ble_eq_true rfl, Nat.le_of_ble_eq_true rfl⟩) rfl hl.1 rfl (Nat.le_of_ble_eq_true rfl) dX7_commonSignWrong_25 (fun r10 w12 H locs hp11 hw => ?_)
    obtain ⟨hT, k13, hv17, hg16⟩ := hp11
    have hF := hF.tr k13 (by decide)
    obtain ⟨g14, g15⟩ := hg16
    replace hM := hM.call hv17 rfl
    refine lv_iload_n hx hb dX7_commonSignWrong_28 rfl (lv_at hl 0 rfl) ?_
    refine lv_icmp_ne (tgt := 36) hx hb dX7_commonSignWrong_29 (by decide) (fun c18 => ?_) (fun c18 => ?_)
    · have c18 : ¬ r10.toInt = r1.toInt := wk_eqF c18
      replace hM := hM.pos c18
      refine lv_iconst (v := 1) hx hb dX7_commonSignWrong_36 (by decide) ?_
      exact tk_iret hC hr hlocks hK ⟨hT, hF, hM.ret (by decide), (Or.inr ⟨(by decide), (by decide), (show a2.toInt ≤ 6 by first | with_reducible assumption | omega)⟩)⟩ hw dX7_commonSignWrong_37
    · have c18 : r10.toInt = r1.toInt := wk_eq.mp c18
      replace hM := hM.neg (fun q => q c18)
      refine lv_iconst (v := 0) hx hb dX7_commonSignWrong_32 (by decide) ?_
      refine lv_goto (tgt := 37) hx hb dX7_commonSignWrong_33 (by decide) ?_
      exact tk_iret hC hr hlocks hK ⟨hT, hF, hM.ret (by decide), (Or.inr ⟨(by decide), (by decide), (show a2.toInt ≤ 6 by first | with_reducible assumption | omega)⟩)⟩ hw dX7_commonSignWrong_37
  · have c9 : a2.toInt = (7 : Int) := wk_eq.mp c9
    replace hM := hM.neg (fun q => q c9)
    refine lv_bipush (v := 7) hx hb dX7_commonSignWrong_12 (by decide) ?_
    refine lv_aload_n hx hb dX7_commonSignWrong_14 rfl (lv_at hl 1 rfl) ?_
    refine lv_iload_n hx hb dX7_commonSignWrong_15 rfl (lv_at hl 2 rfl) ?_
    refine lv_iload_n hx hb dX7_commonSignWrong_16 rfl (lv_at hl 0 rfl) ?_
    refine tk_Vi hC hK hw hT hA hE hSR kC_at39 (by decide) rfl (kz_X7_daysWith_2 l adK adV dC dI cy ad B hB0 (Int.le_trans hB1 (by decide)) qr s1   a1 (show 0 ≤ a1.toInt from ra1) (show a1.toInt ≤ 11 from ta1) r1 (show 0 ≤ r1.toInt by first | with_reducible assumption | omega) (show r1.toInt ≤ 3 by first | with_reducible assumption | omega) w3 H.size hT ) (cwV 2 hC.2.2.2.2 uV_RX7_158 rfl rfl rfl (by decide +kernel) ⟨Nat.le_of_ble_eq_true rfl, Nat.le_of_ble_eq_true rfl⟩) rfl hl.1 rfl (Nat.le_of_ble_eq_true rfl) dX7_commonSignWrong_17 (fun r19 w21 H locs hp20 hw => ?_)
    obtain ⟨hT, k22, hv24, hg23⟩ := hp20
    have hF := hF.tr k22 (by decide)
    clear hg23
    replace hM := hM.call hv24 rfl
    refine lv_isub hx hb dX7_commonSignWrong_20 ?_
    have nx25 := wk_i32 r19
    refine lv_topi (fun x26 ex26 => ?_)
    have ezx26 := ex26
    replace hM := hM.lt (o32_e (f := fun x y => x - y) ezx26 (by decide) rfl)
    exact tk_iret hC hr hlocks hK ⟨hT, hF, hM.ret rfl, (Or.inl (show 7 ≤ a2.toInt by first | with_reducible assumption | omega))⟩ hw dX7_commonSignWrong_21
abbrev Pz_X11_wrong_1 (ad : Nat → Nat) (cy : Nat → ClassId) (B : Int) (qr : Nat) (s1 : Int) (a1 : Int32) (w0 : va_W) : Int32 → va_W → Prop := fun r u => TW ksC ad cy B qr s1 u ∧ FE ksC ([] : List (Nat × Nat × Nat)) w0 u ∧ Ev (fun n => m_X11_wrong n 0 a1.toInt (sI w0)) (r.toInt, sI u) ∧ ((0 ≤ a1.toInt ∧ a1.toInt ≤ 7 ∧ (∃ y : Int32, gi u 39 8 = y ∧ 1 ≤ y.toInt ∧ y.toInt ≤ 10)) ∨ (r = (-1)))
set_option maxHeartbeats 4000000 in
set_option maxRecDepth 100000 in
theorem kz_X11_wrong_1 (l : Launch) (adK adV : Nat → Nat) (dC : Nat → ClassId) (dI : Nat → Nat → Nat) (cy : Nat → ClassId) (ad : Nat → Nat) (B : Int) (hB0 : 2147483648 ≤ B) (hB1 : B ≤ 1152921504606846976) (qr : Nat) (s1 : Int)  (a1 : Int32) (w0 : va_W) (sz : Nat) (hT : TW ksC ad cy B qr s1 w0)  : Met l yX11_wrong (wu yX11_wrong cX11_wrong 4 (some .int)) ({ frames := 5, cells := 0, slots := 0, locals := 104 }) (va_Pc [.ref (ad 0), .int a1] (wpreS adK adV dC dI cy sz w0)) (va_Qi (Pz_X11_wrong_1 ad cy B qr s1 a1 w0) (fun u : va_W => wpost dC dI cy (va_A w0 sz) u) (va_A w0 sz)) 0 0 (va_A w0 sz) := by
  refine Met.ofW (cc := cX11_wrong) (maxL := 4) (ret := (some .int)) (by decide) rfl ?_
  intro p e s m args below meth c s₁ Bk hml hv
  obtain ⟨rfl, ⟨hsz, hP, hK, hD0⟩, hE, hSR⟩ := hv
  have hx := Bk.exec
  have hb := Bk.bytes
  have hr := Bk.returns
  have hlocks := Bk.notSynchronized
  have hC : CallFix p m c cX11_wrong 4 s _ (wu yX11_wrong cX11_wrong 4 (some .int)) RX11 := ⟨hx, hb, hml, findClass_of_methodNamed Bk.named, atoms_spec (ws := (wu yX11_wrong cX11_wrong 4 (some .int))) Bk.pre⟩
  subst hsz
  have hD := hD0.self (sz := s.heap.size)
  generalize hAe : va_A w0 s.heap.size = A at hD hE ⊢
  have hA : ∀ q : Nat, s.heap.size ≤ q → A q := fun q h => by rw [← hAe]; exact Or.inr h
  have hw : Wd dC dI A s.heap s.heap [] w0 := ⟨hP, hD, va_S.rf⟩
  have hF : FE ksC ([] : List (Nat × Nat × Nat)) w0 w0 := FE.rf
  have hl := lv_entry ([.ref (ad 0), .int a1]) (n := 4) (Nat.le_of_ble_eq_true rfl)
  rw [lg_entry_eq]
  generalize (lg_sl ([.ref (ad 0), .int a1]) ++ List.replicate (4 - (lg_sl ([.ref (ad 0), .int a1])).length) Slot.unset).toArray = ls at hl ⊢
  have hl : lv_has ls 4 [(0, .ref (ad 0)), (1, .int a1)] := hl
  generalize hloc : ([] : List Loc) = locs at hw ⊢
  have hinX11 : ∀ w ∈ u_ws RX11 TX11 13, w ∈ (wu yX11_wrong cX11_wrong 4 (some .int)) := fun _ h => List.mem_cons_of_mem _ (up_70 h)
  have hinX5 : ∀ w ∈ u_ws RX5 TX5 14, w ∈ (wu yX11_wrong cX11_wrong 4 (some .int)) := fun _ h => List.mem_cons_of_mem _ (up_76 h)
  have hinX7 : ∀ w ∈ u_ws RX7 TX7 12, w ∈ (wu yX11_wrong cX11_wrong 4 (some .int)) := fun _ h => List.mem_cons_of_mem _ (up_73 h)
  have J20 : ∀ (f20_39_8 : Int32) (H : Heap) (locs : List Loc) (ls : Array Slot) (w1 : va_W), (-1) ≤ f20_39_8.toInt → f20_39_8.toInt ≤ 10 → Wd dC dI A s.heap H locs w1 → TW ksC ad cy B qr s1 w1 → FE ksC ([] : List (Nat × Nat × Nat)) w0 w1 → gi w1 39 8 = f20_39_8 → TT (fun n => m_X11_wrong n 0 a1.toInt (sI w0)) (fun n => b_X11_wrong_20 (j_X11_wrong 0 n) n 0 (sI w1)) → lv_has ls 4 [(0, .ref (ad 0)), (1, .int a1)] → W p l e ({ frames := 5, cells := 0, slots := 0, locals := 104 }) s m (List.toArray [.ref (ad 0), .int a1]) below meth c H locs 0 0 (MQ below (va_Qi (Pz_X11_wrong_1 ad cy B qr s1 a1 w0) (fun u : va_W => wpost dC dI cy A u) A) (List.toArray [.ref (ad 0), .int a1]) s 0 0 A) (F0 m 20 ls []) := by
    intro f20_39_8 H locs ls w1 r2 t3 hw hT hF c4 hM hl
    refine lv_iconst (v := (-1)) hx hb dX11_wrong_20 (by decide) ?_
    exact tk_iret hC hr hlocks hK ⟨hT, hF, hM.ret (by decide), (Or.inr rfl)⟩ hw dX11_wrong_21
  have L26 : ∀ (n26 : Nat) (v26_2 : Int32) (v26_3 : Int32) (f26_39_8 : Int32) (H : Heap) (locs : List Loc) (ls : Array Slot) (w5 : va_W), 0 ≤ a1.toInt → a1.toInt ≤ 7 → 0 ≤ v26_3.toInt → v26_3.toInt ≤ 12 → 1 ≤ f26_39_8.toInt → f26_39_8.toInt ≤ 10 → (12 - v26_3.toInt).toNat < n26 → Wd dC dI A s.heap H locs w5 → TW ksC ad cy B qr s1 w5 → FE ksC ([] : List (Nat × Nat × Nat)) w0 w5 → gi w5 39 8 = f26_39_8 → TT (fun n => m_X11_wrong n 0 a1.toInt (sI w0)) (fun n => j_X11_wrong 0 n 26 [a1.toInt, v26_2.toInt, v26_3.toInt] (sI w5)) → lv_has ls 4 [(0, .ref (ad 0)), (1, .int a1), (2, .int v26_2), (3, .int v26_3)] → W p l e ({ frames := 5, cells := 0, slots := 0, locals := 104 }) s m (List.toArray [.ref (ad 0), .int a1]) below meth c H locs 0 0 (MQ below (va_Qi (Pz_X11_wrong_1 ad cy B qr s1 a1 w0) (fun u : va_W => wpost dC dI cy A u) A) (List.toArray [.ref (ad 0), .int a1]) s 0 0 A) (F0 m 26 ls []) := by
    intro n26
    induction n26 with
    | zero => intro v26_2 v26_3 f26_39_8 H locs ls w5 r6 t7 r8 t9 r10 t11 hm26 hw hT hF c12 hM hl; omega
    | succ n26 ih26 =>
      intro v26_2 v26_3 f26_39_8 H locs ls w5 r6 t7 r8 t9 r10 t11 hm26 hw hT hF c12 hM hl
      replace hM := hM.suc (fun _ => e_X11_wrong_26)
      refine lv_iload_n hx hb dX11_wrong_26 rfl (lv_at hl 3 rfl) ?_
      refine lv_aload_n hx hb dX11_wrong_27 rfl (lv_at hl 0 rfl) ?_
      refine tk_getA hC hK hw hT hinX11 kC_at0 (by decide) rfl 4 (by decide) (List.mem_cons_of_mem _ uw_1_7) rfl rfl dX11_wrong_28 ?_
      refine tk_getO hC hK hw hT hinX5 kC_at38 (by decide) rfl 0 (by decide) (List.mem_cons_of_mem _ uw_9_1) rfl rfl dX11_wrong_31 ?_
      refine tk_geti hC hK hw hT hinX7 kC_at39 (by decide) rfl 9 (by decide) (List.mem_cons_of_mem _ uw_9_2) rfl rfl dX11_wrong_34 (fun x13 c14 rx13 tx13 => ?_)
      replace hM := hM.rd (sI_at c14)
      refine lv_icmp_ge (tgt := 61) hx hb dX11_wrong_37 (by decide) (fun c15 => ?_) (fun c15 => ?_)
      · have c15 : x13.toInt ≤ v26_3.toInt := wk_le.mp c15
        replace hM := hM.pos c15
        refine lv_iload_n hx hb dX11_wrong_61 rfl (lv_at hl 2 rfl) ?_
        exact tk_iret hC hr hlocks hK ⟨hT, hF, hM.ret rfl, (Or.inl ⟨(show 0 ≤ a1.toInt from r6), (show a1.toInt ≤ 7 from t7), ⟨f26_39_8, c12, (show 1 ≤ f26_39_8.toInt from r10), (show f26_39_8.toInt ≤ 10 from t11)⟩⟩)⟩ hw dX11_wrong_62
      · have c15 : v26_3.toInt < x13.toInt := wk_leF c15
        replace hM := hM.neg (Int.not_le.mpr c15)
        refine lv_iload_n hx hb dX11_wrong_40 rfl (lv_at hl 2 rfl) ?_
        refine lv_aload_n hx hb dX11_wrong_41 rfl (lv_at hl 0 rfl) ?_
        refine tk_getA hC hK hw hT hinX11 kC_at0 (by decide) rfl 4 (by decide) (List.mem_cons_of_mem _ uw_1_7) rfl rfl dX11_wrong_42 ?_
        refine tk_getO hC hK hw hT hinX5 kC_at38 (by decide) rfl 0 (by decide) (List.mem_cons_of_mem _ uw_9_1) rfl rfl dX11_wrong_45 ?_
        refine lv_iload_n hx hb dX11_wrong_48 rfl (lv_at hl 3 rfl) ?_
        refine lv_iload_n hx hb dX11_wrong_49 rfl (lv_at hl 1 rfl) ?_
        refine tk_Vi hC hK hw hT hA hE hSR kC_at39 (by decide) rfl (kz_X7_commonSignWrong_1 l adK adV dC dI cy ad B hB0 (Int.le_trans hB1 (by decide)) qr s1   v26_3 (show 0 ≤ v26_3.toInt from r8) (show v26_3.toInt ≤ 11 by first | with_reducible assumption | omega) a1 (show 0 ≤ a1.toInt from r6) (show a1.toInt ≤ 7 from t7) w5 H.size hT ) (cwV 2 hC.2.2.2.2 uV_RX11_245 rfl rfl rfl (by decide +kernel) ⟨Nat.le_of_ble_eq_true rfl, Nat.le_of_ble_eq_true rfl⟩) rfl hl.1 rfl (Nat.le_of_ble_eq_true rfl) dX11_wrong_50 (fun r16 w18 H locs hp17 hw => ?_)
        obtain ⟨hT, k19, hv25, hg24⟩ := hp17
        have hF := hF.tr k19 (by decide)
        have c26 := k19.gi kC_at39 (by decide) c12
        have c27 := k19.gi kC_at39 (by decide) c14
        rcases hg24 with g20 | ⟨g21, g22, g23⟩
        · replace hM := hM.call hv25 rfl
          refine lv_iadd hx hb dX11_wrong_53 ?_
          have nx28 := wk_i32 v26_2
          have nx29 := wk_i32 r16
          refine lv_topi (fun x30 ex30 => ?_)
          have ezx30 := ex30
          replace hM := hM.lt (o32_e (f := fun x y => x + y) ezx30 rfl rfl)
          refine lv_istore_n (lv' := [(2, .int x30), (0, .ref (ad 0)), (1, .int a1), (3, .int v26_3)]) hx hb dX11_wrong_54 rfl hl (by decide) rfl (fun ls hl => ?_)
          obtain ⟨x31, ex31⟩ : ∃ y : Int32, y = v26_3 + Int32.ofInt 1 := ⟨_, rfl⟩
          have erx31 := ex31
          refine lv_iinc (v := x31) (lv' := [(3, .int x31), (2, .int x30), (0, .ref (ad 0)), (1, .int a1)]) hx hb dX11_wrong_55 hl (k := 3) rfl ex31.symm (by decide) rfl (fun ls hl => ?_)
          have ex31 : x31.toInt = v26_3.toInt + 1 := by rw [ex31]; exact wk_add (y := 1) (show -2147483648 ≤ v26_3.toInt + 1 by omega) (show v26_3.toInt + 1 ≤ 2147483647 by omega)
          replace hM := hM.lt ex31.symm
          refine lv_goto (tgt := 26) hx hb dX11_wrong_58 (by decide) ?_
          exact ih26 x30 x31 f26_39_8 H locs ls w18 (show 0 ≤ a1.toInt from r6) (show a1.toInt ≤ 7 from t7) (show 0 ≤ x31.toInt by first | with_reducible assumption | omega) (show x31.toInt ≤ 12 by first | with_reducible assumption | omega) (show 1 ≤ f26_39_8.toInt from r10) (show f26_39_8.toInt ≤ 10 from t11) (show (12 - x31.toInt).toNat < n26 by first | exact tn_lt hm26 (by omega) (by omega) | omega) hw hT hF c26 hM (lv_sub hl [2, 3, 1, 0] rfl)
        · replace hM := hM.call hv25 rfl
          refine lv_iadd hx hb dX11_wrong_53 ?_
          have nx32 := wk_i32 v26_2
          refine lv_topi (fun x33 ex33 => ?_)
          have ezx33 := ex33
          replace hM := hM.lt (o32_e (f := fun x y => x + y) ezx33 rfl rfl)
          refine lv_istore_n (lv' := [(2, .int x33), (0, .ref (ad 0)), (1, .int a1), (3, .int v26_3)]) hx hb dX11_wrong_54 rfl hl (by decide) rfl (fun ls hl => ?_)
          obtain ⟨x34, ex34⟩ : ∃ y : Int32, y = v26_3 + Int32.ofInt 1 := ⟨_, rfl⟩
          have erx34 := ex34
          refine lv_iinc (v := x34) (lv' := [(3, .int x34), (2, .int x33), (0, .ref (ad 0)), (1, .int a1)]) hx hb dX11_wrong_55 hl (k := 3) rfl ex34.symm (by decide) rfl (fun ls hl => ?_)
          have ex34 : x34.toInt = v26_3.toInt + 1 := by rw [ex34]; exact wk_add (y := 1) (show -2147483648 ≤ v26_3.toInt + 1 by omega) (show v26_3.toInt + 1 ≤ 2147483647 by omega)
          replace hM := hM.lt ex34.symm
          refine lv_goto (tgt := 26) hx hb dX11_wrong_58 (by decide) ?_
          exact ih26 x33 x34 f26_39_8 H locs ls w18 (show 0 ≤ a1.toInt from r6) (show a1.toInt ≤ 7 from t7) (show 0 ≤ x34.toInt by first | with_reducible assumption | omega) (show x34.toInt ≤ 12 by first | with_reducible assumption | omega) (show 1 ≤ f26_39_8.toInt from r10) (show f26_39_8.toInt ≤ 10 from t11) (show (12 - x34.toInt).toNat < n26 by first | exact tn_lt hm26 (by omega) (by omega) | omega) hw hT hF c26 hM (lv_sub hl [2, 3, 1, 0] rfl)
  have hM : TT (fun n => m_X11_wrong n 0 a1.toInt (sI w0)) (fun n => m_X11_wrong n 0 a1.toInt (sI w0)) := TT.rf
  refine lv_aload_n hx hb dX11_wrong_0 rfl (lv_at hl 0 rfl) ?_
  refine tk_getA hC hK hw hT hinX11 kC_at0 (by decide) rfl 4 (by decide) (List.mem_cons_of_mem _ uw_1_7) rfl rfl dX11_wrong_1 ?_
  refine tk_Vi hC hK hw hT hA hE hSR kC_at38 (by decide) rfl (kz_X5_hasTown_1 l adK adV dC dI cy ad B hB0 (Int.le_trans hB1 (by decide)) qr s1    w0 s.heap.size hT ) (cwV 0 hC.2.2.2.2 uV_RX11_158 rfl rfl rfl (by decide +kernel) ⟨Nat.le_of_ble_eq_true rfl, Nat.le_of_ble_eq_true rfl⟩) rfl hl.1 rfl (Nat.le_of_ble_eq_true rfl) dX11_wrong_4 (fun r35 w37 H locs hp36 hw => ?_)
  obtain ⟨hT, k38, hv44, hg43⟩ := hp36
  have hF := hF.tr k38 (by decide)
  rcases hg43 with ⟨rfl, ⟨x39, c40, rx39, tx39⟩⟩ | ⟨rfl, ⟨x41, c42, rx41, tx41⟩⟩
  · replace hM := hM.call (r' := 0) hv44 (by decide)
    refine lv_if_eq (tgt := 20) hx hb dX11_wrong_7 (by decide) (fun _ => ?_) (fun c => absurd (by decide) c)
    replace hM := hM.pos (by decide)
    exact J20 x39 H locs ls w37 (show (-1) ≤ x39.toInt by first | with_reducible assumption | omega) (show x39.toInt ≤ 10 by first | with_reducible assumption | omega)  hw hT hF c40 hM (lv_sub hl [0, 1] rfl)
  · replace hM := hM.call (r' := 1) hv44 (by decide)
    refine lv_if_eq (tgt := 20) hx hb dX11_wrong_7 (by decide) (fun c => absurd c (by decide)) (fun _ => ?_)
    replace hM := hM.neg (by decide)
    refine lv_iload_n hx hb dX11_wrong_10 rfl (lv_at hl 1 rfl) ?_
    refine lv_if_lt (tgt := 20) hx hb dX11_wrong_11 (by decide) (fun c45 => ?_) (fun c45 => ?_)
    · have c45 : a1.toInt < (0 : Int) := wk_lt.mp c45
      replace hM := hM.pos c45
      exact J20 x41 H locs ls w37 (show (-1) ≤ x41.toInt by first | with_reducible assumption | omega) (show x41.toInt ≤ 10 by first | with_reducible assumption | omega)  hw hT hF c42 hM (lv_sub hl [0, 1] rfl)
    · have c45 : (0 : Int) ≤ a1.toInt := wk_ltF c45
      replace hM := hM.neg (Int.not_lt.mpr c45)
      refine lv_iload_n hx hb dX11_wrong_14 rfl (lv_at hl 1 rfl) ?_
      refine lv_bipush (v := 7) hx hb dX11_wrong_15 (by decide) ?_
      refine lv_icmp_le (tgt := 22) hx hb dX11_wrong_17 (by decide) (fun c46 => ?_) (fun c46 => ?_)
      · have c46 : a1.toInt ≤ (7 : Int) := wk_le.mp c46
        replace hM := hM.pos c46
        refine lv_iconst (v := 0) hx hb dX11_wrong_22 (by decide) ?_
        refine lv_istore_n (lv' := [(2, .int 0), (0, .ref (ad 0)), (1, .int a1)]) hx hb dX11_wrong_23 rfl hl (by decide) rfl (fun ls hl => ?_)
        refine lv_iconst (v := 0) hx hb dX11_wrong_24 (by decide) ?_
        refine lv_istore_n (lv' := [(3, .int 0), (2, .int 0), (0, .ref (ad 0)), (1, .int a1)]) hx hb dX11_wrong_25 rfl hl (by decide) rfl (fun ls hl => ?_)
        exact L26 ((12 - (0 : Int)).toNat + 1) 0 0 x41 H locs ls w37 (show 0 ≤ a1.toInt by first | with_reducible assumption | omega) (show a1.toInt ≤ 7 by first | with_reducible assumption | omega) (by decide) (by decide) (show 1 ≤ x41.toInt by first | with_reducible assumption | omega) (show x41.toInt ≤ 10 by first | with_reducible assumption | omega) (Nat.lt_succ_self _) hw hT hF c42 hM (lv_sub hl [2, 3, 1, 0] rfl)
      · have c46 : (7 : Int) < a1.toInt := wk_leF c46
        replace hM := hM.neg (Int.not_le.mpr c46)
        exact J20 x41 H locs ls w37 (show (-1) ≤ x41.toInt by first | with_reducible assumption | omega) (show x41.toInt ≤ 10 by first | with_reducible assumption | omega)  hw hT hF c42 hM (lv_sub hl [0, 1] rfl)
abbrev Pz_X11_isAskedHour_1 (ad : Nat → Nat) (cy : Nat → ClassId) (B : Int) (qr : Nat) (s1 : Int) (a0 : Int32) (w0 : va_W) : Int32 → va_W → Prop := fun r u => TW ksC ad cy B qr s1 u ∧ FE ksC ([] : List (Nat × Nat × Nat)) w0 u ∧ Ev (fun n => m_X11_isAskedHour n a0.toInt (sI w0)) (r.toInt, sI u) ∧ ((r = 0) ∨ (r = 1 ∧ 0 ≤ a0.toInt ∧ a0.toInt ≤ 99999))
set_option maxHeartbeats 4000000 in
set_option maxRecDepth 100000 in
theorem kz_X11_isAskedHour_1 (l : Launch) (adK adV : Nat → Nat) (dC : Nat → ClassId) (dI : Nat → Nat → Nat) (cy : Nat → ClassId) (ad : Nat → Nat) (B : Int) (hB0 : 2147483648 ≤ B) (hB1 : B ≤ 1152921504606846976) (qr : Nat) (s1 : Int)  (a0 : Int32) (w0 : va_W) (sz : Nat) (hT : TW ksC ad cy B qr s1 w0)  : Met l yX11_isAskedHour (wu yX11_isAskedHour cX11_isAskedHour 1 (some .boolean)) ({ frames := 1, cells := 0, slots := 0, locals := 12 }) (va_Pc [.int a0] (wpreS adK adV dC dI cy sz w0)) (va_Qi (Pz_X11_isAskedHour_1 ad cy B qr s1 a0 w0) (fun u : va_W => wpost dC dI cy (va_A w0 sz) u) (va_A w0 sz)) 0 0 (va_A w0 sz) := by
  refine Met.ofW (cc := cX11_isAskedHour) (maxL := 1) (ret := (some .boolean)) (by decide) rfl ?_
  intro p e s m args below meth c s₁ Bk hml hv
  obtain ⟨rfl, ⟨hsz, hP, hK, hD0⟩, hE, hSR⟩ := hv
  have hx := Bk.exec
  have hb := Bk.bytes
  have hr := Bk.returns
  have hlocks := Bk.notSynchronized
  have hC : CallFix p m c cX11_isAskedHour 1 s _ (wu yX11_isAskedHour cX11_isAskedHour 1 (some .boolean)) RX11 := ⟨hx, hb, hml, findClass_of_methodNamed Bk.named, atoms_spec (ws := (wu yX11_isAskedHour cX11_isAskedHour 1 (some .boolean))) Bk.pre⟩
  subst hsz
  have hD := hD0.self (sz := s.heap.size)
  generalize hAe : va_A w0 s.heap.size = A at hD hE ⊢
  have hA : ∀ q : Nat, s.heap.size ≤ q → A q := fun q h => by rw [← hAe]; exact Or.inr h
  have hw : Wd dC dI A s.heap s.heap [] w0 := ⟨hP, hD, va_S.rf⟩
  have hF : FE ksC ([] : List (Nat × Nat × Nat)) w0 w0 := FE.rf
  have hl := lv_entry ([.int a0]) (n := 1) (Nat.le_of_ble_eq_true rfl)
  rw [lg_entry_eq]
  generalize (lg_sl ([.int a0]) ++ List.replicate (1 - (lg_sl ([.int a0])).length) Slot.unset).toArray = ls at hl ⊢
  have hl : lv_has ls 1 [(0, .int a0)] := hl
  generalize hloc : ([] : List Loc) = locs at hw ⊢
  have J15 : ∀ (H : Heap) (locs : List Loc) (ls : Array Slot) (w1 : va_W), Wd dC dI A s.heap H locs w1 → TW ksC ad cy B qr s1 w1 → FE ksC ([] : List (Nat × Nat × Nat)) w0 w1 → TT (fun n => m_X11_isAskedHour n a0.toInt (sI w0)) (fun n => b_X11_isAskedHour_15 n (sI w1)) → lv_has ls 1 [(0, .int a0)] → W p l e ({ frames := 1, cells := 0, slots := 0, locals := 12 }) s m (List.toArray [.int a0]) below meth c H locs 0 0 (MQ below (va_Qi (Pz_X11_isAskedHour_1 ad cy B qr s1 a0 w0) (fun u : va_W => wpost dC dI cy A u) A) (List.toArray [.int a0]) s 0 0 A) (F0 m 15 ls []) := by
    intro H locs ls w1 hw hT hF hM hl
    refine lv_iconst (v := 0) hx hb dX11_isAskedHour_15 (by decide) ?_
    exact tk_zret hC hr rfl hlocks hK ⟨hT, hF, hM.ret (by decide), (Or.inl rfl)⟩ hw dX11_isAskedHour_16
  have hM : TT (fun n => m_X11_isAskedHour n a0.toInt (sI w0)) (fun n => m_X11_isAskedHour n a0.toInt (sI w0)) := TT.rf
  refine lv_iload_n hx hb dX11_isAskedHour_0 rfl (lv_at hl 0 rfl) ?_
  refine lv_if_lt (tgt := 15) hx hb dX11_isAskedHour_1 (by decide) (fun c2 => ?_) (fun c2 => ?_)
  · have c2 : a0.toInt < (0 : Int) := wk_lt.mp c2
    replace hM := hM.pos c2
    exact J15  s.heap locs ls w0   hw hT hF hM (lv_sub hl [0] rfl)
  · have c2 : (0 : Int) ≤ a0.toInt := wk_ltF c2
    replace hM := hM.neg (Int.not_lt.mpr c2)
    refine lv_iload_n hx hb dX11_isAskedHour_4 rfl (lv_at hl 0 rfl) ?_
    refine lv_ldcw (v := 99999) hx hb hC.2.2.2.1 (hC.2.2.2.2 _ (List.mem_cons_of_mem _ uw_49_13)) dX11_isAskedHour_5 ?_
    refine lv_icmp_gt (tgt := 15) hx hb dX11_isAskedHour_8 (by decide) (fun c3 => ?_) (fun c3 => ?_)
    · have c3 : (99999 : Int) < a0.toInt := wk_lt.mp c3
      replace hM := hM.pos c3
      exact J15  s.heap locs ls w0   hw hT hF hM (lv_sub hl [0] rfl)
    · have c3 : a0.toInt ≤ (99999 : Int) := wk_ltF c3
      replace hM := hM.neg (Int.not_lt.mpr c3)
      refine lv_iconst (v := 1) hx hb dX11_isAskedHour_11 (by decide) ?_
      refine lv_goto (tgt := 16) hx hb dX11_isAskedHour_12 (by decide) ?_
      exact tk_zret hC hr rfl hlocks hK ⟨hT, hF, hM.ret (by decide), (Or.inr ⟨rfl, (show 0 ≤ a0.toInt by first | with_reducible assumption | omega), (show a0.toInt ≤ 99999 by first | with_reducible assumption | omega)⟩)⟩ hw dX11_isAskedHour_16
abbrev Pz_X7_sideOf_2 (ad : Nat → Nat) (cy : Nat → ClassId) (B : Int) (qr : Nat) (s1 : Int) (a1 : Int32) (a2 : Int32) (w0 : va_W) : Int32 → va_W → Prop := fun r u => TW ksC ad cy B qr s1 u ∧ FE ksC ([] : List (Nat × Nat × Nat)) w0 u ∧ Ev (fun n => m_X7_sideOf n 39 a1.toInt a2.toInt (sI w0)) (r.toInt, sI u) ∧ ((r = (-1)) ∨ (r = 0 ∧ 0 ≤ a2.toInt ∧ a2.toInt ≤ 9 ∧ gi u 40 (2 * a1.toInt + 0).toNat = a2) ∨ (r = 1 ∧ 0 ≤ a2.toInt ∧ a2.toInt ≤ 9 ∧ gi u 40 (2 * a1.toInt + 1).toNat = a2))
set_option maxHeartbeats 4000000 in
set_option maxRecDepth 100000 in
theorem kz_X7_sideOf_2 (l : Launch) (adK adV : Nat → Nat) (dC : Nat → ClassId) (dI : Nat → Nat → Nat) (cy : Nat → ClassId) (ad : Nat → Nat) (B : Int) (hB0 : 2147483648 ≤ B) (hB1 : B ≤ 1152921504606846976) (qr : Nat) (s1 : Int)  (a1 : Int32) (ra1 : 0 ≤ a1.toInt) (ta1 : a1.toInt ≤ 12) (a2 : Int32) (w0 : va_W) (sz : Nat) (hT : TW ksC ad cy B qr s1 w0)  : Met l yX7_sideOf (wu yX7_sideOf cX7_sideOf 3 (some .int)) ({ frames := 1, cells := 0, slots := 0, locals := 12 }) (va_Pc [.ref (ad 39), .int a1, .int a2] (wpreS adK adV dC dI cy sz w0)) (va_Qi (Pz_X7_sideOf_2 ad cy B qr s1 a1 a2 w0) (fun u : va_W => wpost dC dI cy (va_A w0 sz) u) (va_A w0 sz)) 0 0 (va_A w0 sz) := by
  refine Met.ofW (cc := cX7_sideOf) (maxL := 3) (ret := (some .int)) (by decide) rfl ?_
  intro p e s m args below meth c s₁ Bk hml hv
  obtain ⟨rfl, ⟨hsz, hP, hK, hD0⟩, hE, hSR⟩ := hv
  have hx := Bk.exec
  have hb := Bk.bytes
  have hr := Bk.returns
  have hlocks := Bk.notSynchronized
  have hC : CallFix p m c cX7_sideOf 3 s _ (wu yX7_sideOf cX7_sideOf 3 (some .int)) RX7 := ⟨hx, hb, hml, findClass_of_methodNamed Bk.named, atoms_spec (ws := (wu yX7_sideOf cX7_sideOf 3 (some .int))) Bk.pre⟩
  subst hsz
  have hD := hD0.self (sz := s.heap.size)
  generalize hAe : va_A w0 s.heap.size = A at hD hE ⊢
  have hA : ∀ q : Nat, s.heap.size ≤ q → A q := fun q h => by rw [← hAe]; exact Or.inr h
  have hw : Wd dC dI A s.heap s.heap [] w0 := ⟨hP, hD, va_S.rf⟩
  have hF : FE ksC ([] : List (Nat × Nat × Nat)) w0 w0 := FE.rf
  have hl := lv_entry ([.ref (ad 39), .int a1, .int a2]) (n := 3) (Nat.le_of_ble_eq_true rfl)
  rw [lg_entry_eq]
  generalize (lg_sl ([.ref (ad 39), .int a1, .int a2]) ++ List.replicate (3 - (lg_sl ([.ref (ad 39), .int a1, .int a2])).length) Slot.unset).toArray = ls at hl ⊢
  have hl : lv_has ls 3 [(0, .ref (ad 39)), (1, .int a1), (2, .int a2)] := hl
  generalize hloc : ([] : List Loc) = locs at hw ⊢
  have hinX7 : ∀ w ∈ u_ws RX7 TX7 12, w ∈ (wu yX7_sideOf cX7_sideOf 3 (some .int)) := fun _ h => List.mem_cons_of_mem _ (up_73 h)
  have hM : TT (fun n => m_X7_sideOf n 39 a1.toInt a2.toInt (sI w0)) (fun n => m_X7_sideOf n 39 a1.toInt a2.toInt (sI w0)) := TT.rf
  refine lv_aload_n hx hb dX7_sideOf_0 rfl (lv_at hl 0 rfl) ?_
  refine tk_getO hC hK hw hT hinX7 kC_at39 (by decide) rfl 0 (by decide) (List.mem_cons_of_mem _ uw_2_17) rfl rfl dX7_sideOf_1 ?_
  refine lv_iconst (v := 2) hx hb dX7_sideOf_4 (by decide) ?_
  refine lv_iload_n hx hb dX7_sideOf_5 rfl (lv_at hl 1 rfl) ?_
  refine lv_imul hx hb dX7_sideOf_6 ?_
  refine lv_topi (fun x1 ex1 => ?_)
  have ezx1 := ex1
  have ex1 : x1.toInt = (2 : Int) * a1.toInt := by rw [ex1]; exact wk_mul (show (-2147483648) ≤ (2 : Int) * a1.toInt by omega) (show (2 : Int) * a1.toInt ≤ 2147483647 by omega)
  replace hM := hM.lt ex1.symm
  refine tk_iald hC hK hw hT kC_at40 rfl rfl (show 0 ≤ x1.toInt by first | with_reducible assumption | omega) (show x1.toInt < 26 by first | with_reducible assumption | omega) dX7_sideOf_7 (fun x2 c3 rx2 tx2 => ?_)
  have hox2 := c3
  replace hM := hM.rd (sI_at hox2)
  have c3 : gi w0 40 (2 * a1.toInt + 0).toNat = x2 := (congrArg (gi w0 40) (congrArg Int.toNat (show 2 * a1.toInt + 0 = x1.toInt by first | exact Int.le_antisymm (by omega) (by omega) | omega))).trans c3
  refine lv_iload_n hx hb dX7_sideOf_8 rfl (lv_at hl 2 rfl) ?_
  refine lv_icmp_ne (tgt := 14) hx hb dX7_sideOf_9 (by decide) (fun c4 => ?_) (fun c4 => ?_)
  · have c4 : ¬ x2.toInt = a2.toInt := wk_eqF c4
    replace hM := hM.pos c4
    refine lv_aload_n hx hb dX7_sideOf_14 rfl (lv_at hl 0 rfl) ?_
    refine tk_getO hC hK hw hT hinX7 kC_at39 (by decide) rfl 0 (by decide) (List.mem_cons_of_mem _ uw_2_17) rfl rfl dX7_sideOf_15 ?_
    refine lv_iconst (v := 2) hx hb dX7_sideOf_18 (by decide) ?_
    refine lv_iload_n hx hb dX7_sideOf_19 rfl (lv_at hl 1 rfl) ?_
    refine lv_imul hx hb dX7_sideOf_20 ?_
    refine lv_topi (fun x5 ex5 => ?_)
    have ezx5 := ex5
    have ex5 : x5.toInt = (2 : Int) * a1.toInt := by rw [ex5]; exact wk_mul (show (-2147483648) ≤ (2 : Int) * a1.toInt by omega) (show (2 : Int) * a1.toInt ≤ 2147483647 by omega)
    replace hM := hM.lt ex5.symm
    refine lv_iconst (v := 1) hx hb dX7_sideOf_21 (by decide) ?_
    refine lv_iadd hx hb dX7_sideOf_22 ?_
    refine lv_topi (fun x6 ex6 => ?_)
    have ezx6 := ex6
    have ex6 : x6.toInt = x5.toInt + (1 : Int) := by rw [ex6]; exact wk_add (show (-2147483648) ≤ x5.toInt + (1 : Int) by omega) (show x5.toInt + (1 : Int) ≤ 2147483647 by omega)
    replace hM := hM.lt ex6.symm
    refine tk_iald hC hK hw hT kC_at40 rfl rfl (show 0 ≤ x6.toInt by first | with_reducible assumption | omega) (show x6.toInt < 26 by first | with_reducible assumption | omega) dX7_sideOf_23 (fun x7 c8 rx7 tx7 => ?_)
    have hox7 := c8
    replace hM := hM.rd (sI_at hox7)
    have c8 : gi w0 40 (2 * a1.toInt + 1).toNat = x7 := (congrArg (gi w0 40) (congrArg Int.toNat (show 2 * a1.toInt + 1 = x6.toInt by first | exact Int.le_antisymm (by omega) (by omega) | omega))).trans c8
    refine lv_iload_n hx hb dX7_sideOf_24 rfl (lv_at hl 2 rfl) ?_
    refine lv_icmp_ne (tgt := 32) hx hb dX7_sideOf_25 (by decide) (fun c9 => ?_) (fun c9 => ?_)
    · have c9 : ¬ x7.toInt = a2.toInt := wk_eqF c9
      replace hM := hM.pos c9
      refine lv_iconst (v := (-1)) hx hb dX7_sideOf_32 (by decide) ?_
      exact tk_iret hC hr hlocks hK ⟨hT, hF, hM.ret (by decide), (Or.inl rfl)⟩ hw dX7_sideOf_33
    · have c9 : x7.toInt = a2.toInt := wk_eq.mp c9
      replace hM := hM.neg (fun q => q c9)
      refine lv_iconst (v := 1) hx hb dX7_sideOf_28 (by decide) ?_
      refine lv_goto (tgt := 33) hx hb dX7_sideOf_29 (by decide) ?_
      exact tk_iret hC hr hlocks hK ⟨hT, hF, hM.ret (by decide), (Or.inr (Or.inr ⟨rfl, (show 0 ≤ a2.toInt by first | with_reducible assumption | omega), (show a2.toInt ≤ 9 by first | with_reducible assumption | omega), (c8.trans (wk_eq.mpr (show x7.toInt = a2.toInt by first | exact Int.le_antisymm (by omega) (by omega) | omega)))⟩))⟩ hw dX7_sideOf_33
  · have c4 : x2.toInt = a2.toInt := wk_eq.mp c4
    replace hM := hM.neg (fun q => q c4)
    refine lv_iconst (v := 0) hx hb dX7_sideOf_12 (by decide) ?_
    exact tk_iret hC hr hlocks hK ⟨hT, hF, hM.ret (by decide), (Or.inr (Or.inl ⟨rfl, (show 0 ≤ a2.toInt by first | with_reducible assumption | omega), (show a2.toInt ≤ 9 by first | with_reducible assumption | omega), (c3.trans (wk_eq.mpr (show x2.toInt = a2.toInt by first | exact Int.le_antisymm (by omega) (by omega) | omega)))⟩))⟩ hw dX7_sideOf_13
abbrev Pz_X7_findSaints_2 (ad : Nat → Nat) (cy : Nat → ClassId) (B : Int) (qr : Nat) (s1 : Int) (a1 : Int32) (w0 : va_W) : va_W → Prop := fun u => TW ksC ad cy B qr s1 u ∧ FE ksC [(31, 0, 13)] w0 u ∧ Ev (fun n => m_X7_findSaints n 39 a1.toInt (sI w0)) (0, sI u) ∧ ((True))
set_option maxHeartbeats 4000000 in
set_option maxRecDepth 100000 in
theorem kz_X7_findSaints_2 (l : Launch) (adK adV : Nat → Nat) (dC : Nat → ClassId) (dI : Nat → Nat → Nat) (cy : Nat → ClassId) (ad : Nat → Nat) (B : Int) (hB0 : 2147483648 ≤ B) (hB1 : B ≤ 1152921504606846976) (qr : Nat) (s1 : Int)  (a1 : Int32) (ra1 : 0 ≤ a1.toInt) (ta1 : a1.toInt ≤ 12) (w0 : va_W) (sz : Nat) (hT : TW ksC ad cy B qr s1 w0)  : Met l yX7_findSaints (wu yX7_findSaints cX7_findSaints 3 none) ({ frames := 2, cells := 0, slots := 0, locals := 34 }) (va_Pc [.ref (ad 39), .int a1] (wpreS adK adV dC dI cy sz w0)) (va_Qv (Pz_X7_findSaints_2 ad cy B qr s1 a1 w0) (fun u : va_W => wpost dC dI cy (va_A w0 sz) u) (va_A w0 sz)) 0 0 (va_A w0 sz) := by
  refine Met.ofW (cc := cX7_findSaints) (maxL := 3) (ret := none) (by decide) rfl ?_
  intro p e s m args below meth c s₁ Bk hml hv
  obtain ⟨rfl, ⟨hsz, hP, hK, hD0⟩, hE, hSR⟩ := hv
  have hx := Bk.exec
  have hb := Bk.bytes
  have hr := Bk.returns
  have hlocks := Bk.notSynchronized
  have hC : CallFix p m c cX7_findSaints 3 s _ (wu yX7_findSaints cX7_findSaints 3 none) RX7 := ⟨hx, hb, hml, findClass_of_methodNamed Bk.named, atoms_spec (ws := (wu yX7_findSaints cX7_findSaints 3 none)) Bk.pre⟩
  subst hsz
  have hD := hD0.self (sz := s.heap.size)
  generalize hAe : va_A w0 s.heap.size = A at hD hE ⊢
  have hA : ∀ q : Nat, s.heap.size ≤ q → A q := fun q h => by rw [← hAe]; exact Or.inr h
  have hw : Wd dC dI A s.heap s.heap [] w0 := ⟨hP, hD, va_S.rf⟩
  have hF : FE ksC [(31, 0, 13)] w0 w0 := FE.rf
  have hl := lv_entry ([.ref (ad 39), .int a1]) (n := 3) (Nat.le_of_ble_eq_true rfl)
  rw [lg_entry_eq]
  generalize (lg_sl ([.ref (ad 39), .int a1]) ++ List.replicate (3 - (lg_sl ([.ref (ad 39), .int a1])).length) Slot.unset).toArray = ls at hl ⊢
  have hl : lv_has ls 3 [(0, .ref (ad 39)), (1, .int a1)] := hl
  generalize hloc : ([] : List Loc) = locs at hw ⊢
  have hinX7 : ∀ w ∈ u_ws RX7 TX7 12, w ∈ (wu yX7_findSaints cX7_findSaints 3 none) := fun _ h => List.mem_cons_of_mem _ (up_73 h)
  have L9 : ∀ (n9 : Nat) (v9_2 : Int32) (H : Heap) (locs : List Loc) (ls : Array Slot) (w1 : va_W), 0 ≤ a1.toInt → a1.toInt ≤ 12 → 0 ≤ v9_2.toInt → v9_2.toInt ≤ 8 → (8 - v9_2.toInt).toNat < n9 → Wd dC dI A s.heap H locs w1 → TW ksC ad cy B qr s1 w1 → FE ksC [(31, 0, 13)] w0 w1 → TT (fun n => m_X7_findSaints n 39 a1.toInt (sI w0)) (fun n => j_X7_findSaints 39 n 9 [a1.toInt, v9_2.toInt] (sI w1)) → lv_has ls 3 [(0, .ref (ad 39)), (1, .int a1), (2, .int v9_2)] → W p l e ({ frames := 2, cells := 0, slots := 0, locals := 34 }) s m (List.toArray [.ref (ad 39), .int a1]) below meth c H locs 0 0 (MQ below (va_Qv (Pz_X7_findSaints_2 ad cy B qr s1 a1 w0) (fun u : va_W => wpost dC dI cy A u) A) (List.toArray [.ref (ad 39), .int a1]) s 0 0 A) (F0 m 9 ls []) := by
    intro n9
    induction n9 with
    | zero => intro v9_2 H locs ls w1 r2 t3 r4 t5 hm9 hw hT hF hM hl; omega
    | succ n9 ih9 =>
      intro v9_2 H locs ls w1 r2 t3 r4 t5 hm9 hw hT hF hM hl
      have J44 : ∀ (f44_39_10 : Int32) (H : Heap) (locs : List Loc) (ls : Array Slot) (w6 : va_W), 0 ≤ a1.toInt → a1.toInt ≤ 12 → 0 ≤ v9_2.toInt → v9_2.toInt ≤ 7 → 1 ≤ f44_39_10.toInt → f44_39_10.toInt ≤ 8 → Wd dC dI A s.heap H locs w6 → TW ksC ad cy B qr s1 w6 → FE ksC [(31, 0, 13)] w0 w6 → gi w6 39 10 = f44_39_10 → TT (fun n => m_X7_findSaints n 39 a1.toInt (sI w0)) (fun n => b_X7_findSaints_44 (j_X7_findSaints 39 n) n 39 (a1.toInt) (v9_2.toInt) (sI w6)) → lv_has ls 3 [(0, .ref (ad 39)), (1, .int a1), (2, .int v9_2)] → W p l e ({ frames := 2, cells := 0, slots := 0, locals := 34 }) s m (List.toArray [.ref (ad 39), .int a1]) below meth c H locs 0 0 (MQ below (va_Qv (Pz_X7_findSaints_2 ad cy B qr s1 a1 w0) (fun u : va_W => wpost dC dI cy A u) A) (List.toArray [.ref (ad 39), .int a1]) s 0 0 A) (F0 m 44 ls []) := by
        intro f44_39_10 H locs ls w6 r7 t8 r9 t10 r11 t12 hw hT hF c13 hM hl
        obtain ⟨x14, ex14⟩ : ∃ y : Int32, y = v9_2 + Int32.ofInt 1 := ⟨_, rfl⟩
        have erx14 := ex14
        refine lv_iinc (v := x14) (lv' := [(2, .int x14), (0, .ref (ad 39)), (1, .int a1)]) hx hb dX7_findSaints_44 hl (k := 2) rfl ex14.symm (by decide) rfl (fun ls hl => ?_)
        have ex14 : x14.toInt = v9_2.toInt + 1 := by rw [ex14]; exact wk_add (y := 1) (show -2147483648 ≤ v9_2.toInt + 1 by omega) (show v9_2.toInt + 1 ≤ 2147483647 by omega)
        replace hM := hM.lt ex14.symm
        refine lv_goto (tgt := 9) hx hb dX7_findSaints_47 (by decide) ?_
        exact ih9 x14 H locs ls w6 (show 0 ≤ a1.toInt from r7) (show a1.toInt ≤ 12 from t8) (show 0 ≤ x14.toInt by first | with_reducible assumption | omega) (show x14.toInt ≤ 8 by first | with_reducible assumption | omega) (show (8 - x14.toInt).toNat < n9 by first | exact tn_lt hm9 (by omega) (by omega) | omega) hw hT hF hM (lv_sub hl [1, 2, 0] rfl)
      replace hM := hM.suc (fun _ => e_X7_findSaints_9)
      refine lv_iload_n hx hb dX7_findSaints_9 rfl (lv_at hl 2 rfl) ?_
      refine lv_aload_n hx hb dX7_findSaints_10 rfl (lv_at hl 0 rfl) ?_
      refine tk_geti hC hK hw hT hinX7 kC_at39 (by decide) rfl 10 (by decide) (List.mem_cons_of_mem _ uw_9_9) rfl rfl dX7_findSaints_11 (fun x15 c16 rx15 tx15 => ?_)
      replace hM := hM.rd (sI_at c16)
      refine lv_icmp_ge (tgt := 50) hx hb dX7_findSaints_14 (by decide) (fun c17 => ?_) (fun c17 => ?_)
      · have c17 : x15.toInt ≤ v9_2.toInt := wk_le.mp c17
        replace hM := hM.pos c17
        exact tk_vret hC hr hlocks hK ⟨hT, hF, hM.ret rfl, trivial⟩ hw dX7_findSaints_50
      · have c17 : v9_2.toInt < x15.toInt := wk_leF c17
        replace hM := hM.neg (Int.not_le.mpr c17)
        refine lv_aload_n hx hb dX7_findSaints_17 rfl (lv_at hl 0 rfl) ?_
        refine lv_iload_n hx hb dX7_findSaints_18 rfl (lv_at hl 1 rfl) ?_
        refine lv_aload_n hx hb dX7_findSaints_19 rfl (lv_at hl 0 rfl) ?_
        refine tk_getO hC hK hw hT hinX7 kC_at39 (by decide) rfl 5 (by decide) (List.mem_cons_of_mem _ uw_2_22) rfl rfl dX7_findSaints_20 ?_
        refine lv_iload_n hx hb dX7_findSaints_23 rfl (lv_at hl 2 rfl) ?_
        refine tk_iald hC hK hw hT kC_at45 rfl rfl (show 0 ≤ v9_2.toInt from r4) (show v9_2.toInt < 8 by first | with_reducible assumption | omega) dX7_findSaints_24 (fun x18 c19 rx18 tx18 => ?_)
        have hox18 := c19
        replace hM := hM.rd (sI_at hox18)
        refine tk_Vi hC hK hw hT hA hE hSR kC_at39 (by decide) rfl (kz_X7_sideOf_2 l adK adV dC dI cy ad B hB0 (Int.le_trans hB1 (by decide)) qr s1   a1 (show 0 ≤ a1.toInt from r2) (show a1.toInt ≤ 12 from t3) x18 w1 H.size hT ) (cwV 2 hC.2.2.2.2 uV_RX7_138 rfl rfl rfl (by decide +kernel) ⟨Nat.le_of_ble_eq_true rfl, Nat.le_of_ble_eq_true rfl⟩) rfl hl.1 rfl (Nat.le_of_ble_eq_true rfl) dX7_findSaints_25 (fun r20 w22 H locs hp21 hw => ?_)
        obtain ⟨hT, k23, hv31, hg30⟩ := hp21
        have hF := hF.tr k23 (by decide)
        have c32 := k23.gi kC_at39 (by decide) c16
        rcases hg30 with rfl | ⟨rfl, g24, g25, c26⟩ | ⟨rfl, g27, g28, c29⟩
        · replace hM := hM.call (r' := (-1)) hv31 (by decide)
          refine lv_iconst (v := (-1)) hx hb dX7_findSaints_28 (by decide) ?_
          refine lv_icmp_eq (tgt := 44) hx hb dX7_findSaints_29 (by decide) (fun _ => ?_) (fun c => absurd (by decide) c)
          replace hM := hM.pos (by decide)
          exact J44 x15 H locs ls w22 (show 0 ≤ a1.toInt from r2) (show a1.toInt ≤ 12 from t3) (show 0 ≤ v9_2.toInt from r4) (show v9_2.toInt ≤ 7 by first | with_reducible assumption | omega) (show 1 ≤ x15.toInt by first | with_reducible assumption | omega) (show x15.toInt ≤ 8 from tx15)  hw hT hF c32 hM (lv_sub hl [0, 1, 2] rfl)
        · replace hM := hM.call (r' := 0) hv31 (by decide)
          refine lv_iconst (v := (-1)) hx hb dX7_findSaints_28 (by decide) ?_
          refine lv_icmp_eq (tgt := 44) hx hb dX7_findSaints_29 (by decide) (fun c => absurd c (by decide)) (fun _ => ?_)
          replace hM := hM.neg (by decide)
          refine lv_aload_n hx hb dX7_findSaints_32 rfl (lv_at hl 0 rfl) ?_
          refine tk_getO hC hK hw hT hinX7 kC_at39 (by decide) rfl 7 (by decide) (List.mem_cons_of_mem _ uw_3_0) rfl rfl dX7_findSaints_33 ?_
          refine lv_iload_n hx hb dX7_findSaints_36 rfl (lv_at hl 1 rfl) ?_
          refine lv_dup2_11 hx hb dX7_findSaints_37 rfl rfl ?_
          refine tk_iald hC hK hw hT kC_at47 rfl rfl (show 0 ≤ a1.toInt from r2) (show a1.toInt < 13 from Int.lt_of_le_of_lt t3 (by decide)) dX7_findSaints_38 (fun x33 c34 rx33 tx33 => ?_)
          have hox33 := c34
          replace hM := hM.rd (sI_at hox33)
          refine lv_iconst (v := 1) hx hb dX7_findSaints_39 (by decide) ?_
          refine lv_iload_n hx hb dX7_findSaints_40 rfl (lv_at hl 2 rfl) ?_
          refine lv_ishl hx hb dX7_findSaints_41 ?_
          refine lv_topi (fun x35 ex35 => ?_)
          have ezx35 := ex35
          have bx35 : 1 ≤ x35.toInt ∧ x35.toInt ≤ 128 := by rw [ex35]; exact wk_shl1 7 (by decide) (by omega) (by omega)
          replace hM := hM.lt (o32_e (f := fun x y => x <<< (y &&& 31)) ezx35 (by decide) rfl)
          refine lv_ior hx hb dX7_findSaints_42 ?_
          refine lv_topi (fun x36 ex36 => ?_)
          have ezx36 := ex36
          replace hM := hM.lt (o32_e (f := fun x y => x ||| y) ezx36 rfl rfl)
          refine tk_iast hC hK hw hT kC_at47 (by decide) rfl rfl (show 0 ≤ a1.toInt from r2) (show a1.toInt < 13 from Int.lt_of_le_of_lt t3 (by decide)) (wk_i32 x36).1 (wk_i32 x36).2 dX7_findSaints_43 (fun H locs w37 hw hT k39 c38 => ?_)
          replace hM := hM.wr (sI_up k39 c38)
          have hF := hF.put kC_at47 (inE_of (a := 0) (b := 13) (by decide) (show 0 ≤ a1.toInt.toNat by omega) (show a1.toInt.toNat ≤ 13 by omega)) k39
          have c40 := k39.gi (Or.inl (tk_ne kC_at39 kC_at47 (by decide))) c32
          have c41 := k39.gi (Or.inl (tk_ne kC_at40 kC_at47 (by decide))) c26
          exact J44 x15 H locs ls w37 (show 0 ≤ a1.toInt from r2) (show a1.toInt ≤ 12 from t3) (show 0 ≤ v9_2.toInt from r4) (show v9_2.toInt ≤ 7 by first | with_reducible assumption | omega) (show 1 ≤ x15.toInt by first | with_reducible assumption | omega) (show x15.toInt ≤ 8 from tx15)  hw hT hF c40 hM (lv_sub hl [0, 1, 2] rfl)
        · replace hM := hM.call (r' := 1) hv31 (by decide)
          refine lv_iconst (v := (-1)) hx hb dX7_findSaints_28 (by decide) ?_
          refine lv_icmp_eq (tgt := 44) hx hb dX7_findSaints_29 (by decide) (fun c => absurd c (by decide)) (fun _ => ?_)
          replace hM := hM.neg (by decide)
          refine lv_aload_n hx hb dX7_findSaints_32 rfl (lv_at hl 0 rfl) ?_
          refine tk_getO hC hK hw hT hinX7 kC_at39 (by decide) rfl 7 (by decide) (List.mem_cons_of_mem _ uw_3_0) rfl rfl dX7_findSaints_33 ?_
          refine lv_iload_n hx hb dX7_findSaints_36 rfl (lv_at hl 1 rfl) ?_
          refine lv_dup2_11 hx hb dX7_findSaints_37 rfl rfl ?_
          refine tk_iald hC hK hw hT kC_at47 rfl rfl (show 0 ≤ a1.toInt from r2) (show a1.toInt < 13 from Int.lt_of_le_of_lt t3 (by decide)) dX7_findSaints_38 (fun x42 c43 rx42 tx42 => ?_)
          have hox42 := c43
          replace hM := hM.rd (sI_at hox42)
          refine lv_iconst (v := 1) hx hb dX7_findSaints_39 (by decide) ?_
          refine lv_iload_n hx hb dX7_findSaints_40 rfl (lv_at hl 2 rfl) ?_
          refine lv_ishl hx hb dX7_findSaints_41 ?_
          refine lv_topi (fun x44 ex44 => ?_)
          have ezx44 := ex44
          have bx44 : 1 ≤ x44.toInt ∧ x44.toInt ≤ 128 := by rw [ex44]; exact wk_shl1 7 (by decide) (by omega) (by omega)
          replace hM := hM.lt (o32_e (f := fun x y => x <<< (y &&& 31)) ezx44 (by decide) rfl)
          refine lv_ior hx hb dX7_findSaints_42 ?_
          refine lv_topi (fun x45 ex45 => ?_)
          have ezx45 := ex45
          replace hM := hM.lt (o32_e (f := fun x y => x ||| y) ezx45 rfl rfl)
          refine tk_iast hC hK hw hT kC_at47 (by decide) rfl rfl (show 0 ≤ a1.toInt from r2) (show a1.toInt < 13 from Int.lt_of_le_of_lt t3 (by decide)) (wk_i32 x45).1 (wk_i32 x45).2 dX7_findSaints_43 (fun H locs w46 hw hT k48 c47 => ?_)
          replace hM := hM.wr (sI_up k48 c47)
          have hF := hF.put kC_at47 (inE_of (a := 0) (b := 13) (by decide) (show 0 ≤ a1.toInt.toNat by omega) (show a1.toInt.toNat ≤ 13 by omega)) k48
          have c49 := k48.gi (Or.inl (tk_ne kC_at39 kC_at47 (by decide))) c32
          have c50 := k48.gi (Or.inl (tk_ne kC_at40 kC_at47 (by decide))) c29
          exact J44 x15 H locs ls w46 (show 0 ≤ a1.toInt from r2) (show a1.toInt ≤ 12 from t3) (show 0 ≤ v9_2.toInt from r4) (show v9_2.toInt ≤ 7 by first | with_reducible assumption | omega) (show 1 ≤ x15.toInt by first | with_reducible assumption | omega) (show x15.toInt ≤ 8 from tx15)  hw hT hF c49 hM (lv_sub hl [0, 1, 2] rfl)
  have hM : TT (fun n => m_X7_findSaints n 39 a1.toInt (sI w0)) (fun n => m_X7_findSaints n 39 a1.toInt (sI w0)) := TT.rf
  refine lv_aload_n hx hb dX7_findSaints_0 rfl (lv_at hl 0 rfl) ?_
  refine tk_getO hC hK hw hT hinX7 kC_at39 (by decide) rfl 7 (by decide) (List.mem_cons_of_mem _ uw_3_0) rfl rfl dX7_findSaints_1 ?_
  refine lv_iload_n hx hb dX7_findSaints_4 rfl (lv_at hl 1 rfl) ?_
  refine lv_iconst (v := 0) hx hb dX7_findSaints_5 (by decide) ?_
  refine tk_iast hC hK hw hT kC_at47 (by decide) rfl rfl (show 0 ≤ a1.toInt from ra1) (show a1.toInt < 13 from Int.lt_of_le_of_lt ta1 (by decide)) (by decide) (by decide) dX7_findSaints_6 (fun H locs w51 hw hT k53 c52 => ?_)
  replace hM := hM.wr (sI_upc k53 c52 (by decide))
  have hF := hF.put kC_at47 (inE_of (a := 0) (b := 13) (by decide) (show 0 ≤ a1.toInt.toNat by omega) (show a1.toInt.toNat ≤ 13 by omega)) k53
  refine lv_iconst (v := 0) hx hb dX7_findSaints_7 (by decide) ?_
  refine lv_istore_n (lv' := [(2, .int 0), (0, .ref (ad 39)), (1, .int a1)]) hx hb dX7_findSaints_8 rfl hl (by decide) rfl (fun ls hl => ?_)
  exact L9 ((8 - (0 : Int)).toNat + 1) 0 H locs ls w51 (show 0 ≤ a1.toInt from ra1) (show a1.toInt ≤ 12 from ta1) (by decide) (by decide) (Nat.lt_succ_self _) hw hT hF hM (lv_sub hl [1, 2, 0] rfl)
abbrev Pz_X7_placeSign_2 (ad : Nat → Nat) (cy : Nat → ClassId) (B : Int) (qr : Nat) (s1 : Int) (a1 : Int32) (a2 : Int32) (w0 : va_W) : va_W → Prop := fun u => TW ksC ad cy B qr s1 u ∧ FE ksC [(26, 0, 91), (28, 0, 26)] w0 u ∧ Ev (fun n => m_X7_placeSign n 39 a1.toInt a2.toInt 3 (sI w0)) (0, sI u) ∧ ((True))
set_option maxHeartbeats 4000000 in
set_option maxRecDepth 100000 in
theorem kz_X7_placeSign_2 (l : Launch) (adK adV : Nat → Nat) (dC : Nat → ClassId) (dI : Nat → Nat → Nat) (cy : Nat → ClassId) (ad : Nat → Nat) (B : Int) (hB0 : 2147483648 ≤ B) (hB1 : B ≤ 1152921504606846976) (qr : Nat) (s1 : Int)  (a1 : Int32) (ra1 : 0 ≤ a1.toInt) (ta1 : a1.toInt ≤ 12) (a2 : Int32) (ra2 : 0 ≤ a2.toInt) (ta2 : a2.toInt ≤ 6) (w0 : va_W) (sz : Nat) (hT : TW ksC ad cy B qr s1 w0)  : Met l yX7_placeSign (wu yX7_placeSign cX7_placeSign 4 none) ({ frames := 1, cells := 0, slots := 0, locals := 12 }) (va_Pc [.ref (ad 39), .int a1, .int a2, .int 3] (wpreS adK adV dC dI cy sz w0)) (va_Qv (Pz_X7_placeSign_2 ad cy B qr s1 a1 a2 w0) (fun u : va_W => wpost dC dI cy (va_A w0 sz) u) (va_A w0 sz)) 0 0 (va_A w0 sz) := by
  refine Met.ofW (cc := cX7_placeSign) (maxL := 4) (ret := none) (by decide) rfl ?_
  intro p e s m args below meth c s₁ Bk hml hv
  obtain ⟨rfl, ⟨hsz, hP, hK, hD0⟩, hE, hSR⟩ := hv
  have hx := Bk.exec
  have hb := Bk.bytes
  have hr := Bk.returns
  have hlocks := Bk.notSynchronized
  have hC : CallFix p m c cX7_placeSign 4 s _ (wu yX7_placeSign cX7_placeSign 4 none) RX7 := ⟨hx, hb, hml, findClass_of_methodNamed Bk.named, atoms_spec (ws := (wu yX7_placeSign cX7_placeSign 4 none)) Bk.pre⟩
  subst hsz
  have hD := hD0.self (sz := s.heap.size)
  generalize hAe : va_A w0 s.heap.size = A at hD hE ⊢
  have hA : ∀ q : Nat, s.heap.size ≤ q → A q := fun q h => by rw [← hAe]; exact Or.inr h
  have hw : Wd dC dI A s.heap s.heap [] w0 := ⟨hP, hD, va_S.rf⟩
  have hF : FE ksC [(26, 0, 91), (28, 0, 26)] w0 w0 := FE.rf
  have hl := lv_entry ([.ref (ad 39), .int a1, .int a2, .int 3]) (n := 4) (Nat.le_of_ble_eq_true rfl)
  rw [lg_entry_eq]
  generalize (lg_sl ([.ref (ad 39), .int a1, .int a2, .int 3]) ++ List.replicate (4 - (lg_sl ([.ref (ad 39), .int a1, .int a2, .int 3])).length) Slot.unset).toArray = ls at hl ⊢
  have hl : lv_has ls 4 [(0, .ref (ad 39)), (1, .int a1), (2, .int a2), (3, .int 3)] := hl
  generalize hloc : ([] : List Loc) = locs at hw ⊢
  have hinX7 : ∀ w ∈ u_ws RX7 TX7 12, w ∈ (wu yX7_placeSign cX7_placeSign 4 none) := fun _ h => List.mem_cons_of_mem _ (up_73 h)
  have hM : TT (fun n => m_X7_placeSign n 39 a1.toInt a2.toInt 3 (sI w0)) (fun n => m_X7_placeSign n 39 a1.toInt a2.toInt 3 (sI w0)) := TT.rf
  refine lv_aload_n hx hb dX7_placeSign_0 rfl (lv_at hl 0 rfl) ?_
  refine tk_getO hC hK hw hT hinX7 kC_at39 (by decide) rfl 2 (by decide) (List.mem_cons_of_mem _ uw_2_19) rfl rfl dX7_placeSign_1 ?_
  refine lv_bipush (v := 7) hx hb dX7_placeSign_4 (by decide) ?_
  refine lv_iload_n hx hb dX7_placeSign_6 rfl (lv_at hl 1 rfl) ?_
  refine lv_imul hx hb dX7_placeSign_7 ?_
  refine lv_topi (fun x1 ex1 => ?_)
  have ezx1 := ex1
  have ex1 : x1.toInt = (7 : Int) * a1.toInt := by rw [ex1]; exact wk_mul (show (-2147483648) ≤ (7 : Int) * a1.toInt by omega) (show (7 : Int) * a1.toInt ≤ 2147483647 by omega)
  replace hM := hM.lt ex1.symm
  refine lv_iload_n hx hb dX7_placeSign_8 rfl (lv_at hl 2 rfl) ?_
  refine lv_iadd hx hb dX7_placeSign_9 ?_
  refine lv_topi (fun x2 ex2 => ?_)
  have ezx2 := ex2
  have ex2 : x2.toInt = x1.toInt + a2.toInt := by rw [ex2]; exact wk_add (show (-2147483648) ≤ x1.toInt + a2.toInt by omega) (show x1.toInt + a2.toInt ≤ 2147483647 by omega)
  replace hM := hM.lt ex2.symm
  refine lv_iload_n hx hb dX7_placeSign_10 rfl (lv_at hl 3 rfl) ?_
  refine tk_iast hC hK hw hT kC_at42 (by decide) rfl rfl (show 0 ≤ x2.toInt by first | with_reducible assumption | omega) (show x2.toInt < 91 by first | with_reducible assumption | omega) (by decide) (by decide) dX7_placeSign_11 (fun H locs w3 hw hT k5 c4 => ?_)
  replace hM := hM.wr (sI_upc k5 c4 (by decide))
  have hF := hF.put kC_at42 (inE_of (a := 0) (b := 91) (by decide) (show 0 ≤ x2.toInt.toNat by omega) (show x2.toInt.toNat ≤ 91 by omega)) k5
  refine lv_aload_n hx hb dX7_placeSign_12 rfl (lv_at hl 0 rfl) ?_
  refine tk_getO hC hK hw hT hinX7 kC_at39 (by decide) rfl 4 (by decide) (List.mem_cons_of_mem _ uw_2_21) rfl rfl dX7_placeSign_13 ?_
  refine lv_iconst (v := 2) hx hb dX7_placeSign_16 (by decide) ?_
  refine lv_iload_n hx hb dX7_placeSign_17 rfl (lv_at hl 1 rfl) ?_
  refine lv_imul hx hb dX7_placeSign_18 ?_
  refine lv_topi (fun x6 ex6 => ?_)
  have ezx6 := ex6
  have ex6 : x6.toInt = (2 : Int) * a1.toInt := by rw [ex6]; exact wk_mul (show (-2147483648) ≤ (2 : Int) * a1.toInt by omega) (show (2 : Int) * a1.toInt ≤ 2147483647 by omega)
  replace hM := hM.lt ex6.symm
  refine lv_dup2_11 hx hb dX7_placeSign_19 rfl rfl ?_
  refine tk_iald hC hK hw hT kC_at44 rfl rfl (show 0 ≤ x6.toInt by first | with_reducible assumption | omega) (show x6.toInt < 26 by first | with_reducible assumption | omega) dX7_placeSign_20 (fun x7 c8 rx7 tx7 => ?_)
  have hox7 := c8
  replace hM := hM.rd (sI_at hox7)
  refine lv_iload_n hx hb dX7_placeSign_21 rfl (lv_at hl 3 rfl) ?_
  refine lv_iconst (v := 1) hx hb dX7_placeSign_22 (by decide) ?_
  refine lv_iand hx hb dX7_placeSign_23 ?_
  refine wk_top 1 (by decide) ?_
  replace hM := hM.lt (v := 1) (by decide)
  refine lv_iload_n hx hb dX7_placeSign_24 rfl (lv_at hl 2 rfl) ?_
  refine lv_ishl hx hb dX7_placeSign_25 ?_
  refine lv_topi (fun x9 ex9 => ?_)
  have ezx9 := ex9
  have bx9 : 1 ≤ x9.toInt ∧ x9.toInt ≤ 64 := by rw [ex9]; exact wk_shl1 6 (by decide) (by omega) (by omega)
  replace hM := hM.lt (o32_e (f := fun x y => x <<< (y &&& 31)) ezx9 (by decide) rfl)
  refine lv_ior hx hb dX7_placeSign_26 ?_
  refine lv_topi (fun x10 ex10 => ?_)
  have ezx10 := ex10
  replace hM := hM.lt (o32_e (f := fun x y => x ||| y) ezx10 rfl rfl)
  refine tk_iast hC hK hw hT kC_at44 (by decide) rfl rfl (show 0 ≤ x6.toInt by first | with_reducible assumption | omega) (show x6.toInt < 26 by first | with_reducible assumption | omega) (wk_i32 x10).1 (wk_i32 x10).2 dX7_placeSign_27 (fun H locs w11 hw hT k13 c12 => ?_)
  replace hM := hM.wr (sI_up k13 c12)
  have hF := hF.put kC_at44 (inE_of (a := 0) (b := 26) (by decide) (show 0 ≤ x6.toInt.toNat by omega) (show x6.toInt.toNat ≤ 26 by omega)) k13
  refine lv_aload_n hx hb dX7_placeSign_28 rfl (lv_at hl 0 rfl) ?_
  refine tk_getO hC hK hw hT hinX7 kC_at39 (by decide) rfl 4 (by decide) (List.mem_cons_of_mem _ uw_2_21) rfl rfl dX7_placeSign_29 ?_
  refine lv_iconst (v := 2) hx hb dX7_placeSign_32 (by decide) ?_
  refine lv_iload_n hx hb dX7_placeSign_33 rfl (lv_at hl 1 rfl) ?_
  refine lv_imul hx hb dX7_placeSign_34 ?_
  refine lv_topi (fun x14 ex14 => ?_)
  have ezx14 := ex14
  have ex14 : x14.toInt = (2 : Int) * a1.toInt := by rw [ex14]; exact wk_mul (show (-2147483648) ≤ (2 : Int) * a1.toInt by omega) (show (2 : Int) * a1.toInt ≤ 2147483647 by omega)
  replace hM := hM.lt ex14.symm
  refine lv_iconst (v := 1) hx hb dX7_placeSign_35 (by decide) ?_
  refine lv_iadd hx hb dX7_placeSign_36 ?_
  refine lv_topi (fun x15 ex15 => ?_)
  have ezx15 := ex15
  have ex15 : x15.toInt = x14.toInt + (1 : Int) := by rw [ex15]; exact wk_add (show (-2147483648) ≤ x14.toInt + (1 : Int) by omega) (show x14.toInt + (1 : Int) ≤ 2147483647 by omega)
  replace hM := hM.lt ex15.symm
  refine lv_dup2_11 hx hb dX7_placeSign_37 rfl rfl ?_
  refine tk_iald hC hK hw hT kC_at44 rfl rfl (show 0 ≤ x15.toInt by first | with_reducible assumption | omega) (show x15.toInt < 26 by first | with_reducible assumption | omega) dX7_placeSign_38 (fun x16 c17 rx16 tx16 => ?_)
  have hox16 := c17
  replace hM := hM.rd (sI_at hox16)
  refine lv_iload_n hx hb dX7_placeSign_39 rfl (lv_at hl 3 rfl) ?_
  refine lv_iconst (v := 1) hx hb dX7_placeSign_40 (by decide) ?_
  refine lv_ishr hx hb dX7_placeSign_41 ?_
  refine wk_top 1 (by decide) ?_
  replace hM := hM.lt (v := 1) (by decide)
  refine lv_iload_n hx hb dX7_placeSign_42 rfl (lv_at hl 2 rfl) ?_
  refine lv_ishl hx hb dX7_placeSign_43 ?_
  refine lv_topi (fun x18 ex18 => ?_)
  have ezx18 := ex18
  have bx18 : 1 ≤ x18.toInt ∧ x18.toInt ≤ 64 := by rw [ex18]; exact wk_shl1 6 (by decide) (by omega) (by omega)
  replace hM := hM.lt (o32_e (f := fun x y => x <<< (y &&& 31)) ezx18 (by decide) rfl)
  refine lv_ior hx hb dX7_placeSign_44 ?_
  refine lv_topi (fun x19 ex19 => ?_)
  have ezx19 := ex19
  replace hM := hM.lt (o32_e (f := fun x y => x ||| y) ezx19 rfl rfl)
  refine tk_iast hC hK hw hT kC_at44 (by decide) rfl rfl (show 0 ≤ x15.toInt by first | with_reducible assumption | omega) (show x15.toInt < 26 by first | with_reducible assumption | omega) (wk_i32 x19).1 (wk_i32 x19).2 dX7_placeSign_45 (fun H locs w20 hw hT k22 c21 => ?_)
  replace hM := hM.wr (sI_up k22 c21)
  have hF := hF.put kC_at44 (inE_of (a := 0) (b := 26) (by decide) (show 0 ≤ x15.toInt.toNat by omega) (show x15.toInt.toNat ≤ 26 by omega)) k22
  exact tk_vret hC hr hlocks hK ⟨hT, hF, hM.ret rfl, trivial⟩ hw dX7_placeSign_46
abbrev Pz_X7_placeStreet_2 (ad : Nat → Nat) (cy : Nat → ClassId) (B : Int) (qr : Nat) (s1 : Int) (a1 : Int32) (a2 : Int32) (a3 : Int32) (a4 : Int32) (w0 : va_W) : va_W → Prop := fun u => TW ksC ad cy B qr s1 u ∧ FE ksC [(24, 0, 26), (25, 0, 13), (27, 0, 13), (28, 0, 26)] w0 u ∧ Ev (fun n => m_X7_placeStreet n 39 a1.toInt a2.toInt a3.toInt a4.toInt (sI w0)) (0, sI u) ∧ ((True))
set_option maxHeartbeats 4000000 in
set_option maxRecDepth 100000 in
theorem kz_X7_placeStreet_2 (l : Launch) (adK adV : Nat → Nat) (dC : Nat → ClassId) (dI : Nat → Nat → Nat) (cy : Nat → ClassId) (ad : Nat → Nat) (B : Int) (hB0 : 2147483648 ≤ B) (hB1 : B ≤ 1152921504606846976) (qr : Nat) (s1 : Int)  (a1 : Int32) (ra1 : 0 ≤ a1.toInt) (ta1 : a1.toInt ≤ 12) (a2 : Int32) (ra2 : 0 ≤ a2.toInt) (ta2 : a2.toInt ≤ 9) (a3 : Int32) (ra3 : 1 ≤ a3.toInt) (ta3 : a3.toInt ≤ 9) (a4 : Int32) (ra4 : 1 ≤ a4.toInt) (ta4 : a4.toInt ≤ 9) (w0 : va_W) (sz : Nat) (hT : TW ksC ad cy B qr s1 w0)  : Met l yX7_placeStreet (wu yX7_placeStreet cX7_placeStreet 5 none) ({ frames := 1, cells := 0, slots := 0, locals := 12 }) (va_Pc [.ref (ad 39), .int a1, .int a2, .int a3, .int a4] (wpreS adK adV dC dI cy sz w0)) (va_Qv (Pz_X7_placeStreet_2 ad cy B qr s1 a1 a2 a3 a4 w0) (fun u : va_W => wpost dC dI cy (va_A w0 sz) u) (va_A w0 sz)) 0 0 (va_A w0 sz) := by
  refine Met.ofW (cc := cX7_placeStreet) (maxL := 5) (ret := none) (by decide) rfl ?_
  intro p e s m args below meth c s₁ Bk hml hv
  obtain ⟨rfl, ⟨hsz, hP, hK, hD0⟩, hE, hSR⟩ := hv
  have hx := Bk.exec
  have hb := Bk.bytes
  have hr := Bk.returns
  have hlocks := Bk.notSynchronized
  have hC : CallFix p m c cX7_placeStreet 5 s _ (wu yX7_placeStreet cX7_placeStreet 5 none) RX7 := ⟨hx, hb, hml, findClass_of_methodNamed Bk.named, atoms_spec (ws := (wu yX7_placeStreet cX7_placeStreet 5 none)) Bk.pre⟩
  subst hsz
  have hD := hD0.self (sz := s.heap.size)
  generalize hAe : va_A w0 s.heap.size = A at hD hE ⊢
  have hA : ∀ q : Nat, s.heap.size ≤ q → A q := fun q h => by rw [← hAe]; exact Or.inr h
  have hw : Wd dC dI A s.heap s.heap [] w0 := ⟨hP, hD, va_S.rf⟩
  have hF : FE ksC [(24, 0, 26), (25, 0, 13), (27, 0, 13), (28, 0, 26)] w0 w0 := FE.rf
  have hl := lv_entry ([.ref (ad 39), .int a1, .int a2, .int a3, .int a4]) (n := 5) (Nat.le_of_ble_eq_true rfl)
  rw [lg_entry_eq]
  generalize (lg_sl ([.ref (ad 39), .int a1, .int a2, .int a3, .int a4]) ++ List.replicate (5 - (lg_sl ([.ref (ad 39), .int a1, .int a2, .int a3, .int a4])).length) Slot.unset).toArray = ls at hl ⊢
  have hl : lv_has ls 5 [(0, .ref (ad 39)), (1, .int a1), (2, .int a2), (3, .int a3), (4, .int a4)] := hl
  generalize hloc : ([] : List Loc) = locs at hw ⊢
  have hinX7 : ∀ w ∈ u_ws RX7 TX7 12, w ∈ (wu yX7_placeStreet cX7_placeStreet 5 none) := fun _ h => List.mem_cons_of_mem _ (up_73 h)
  have hM : TT (fun n => m_X7_placeStreet n 39 a1.toInt a2.toInt a3.toInt a4.toInt (sI w0)) (fun n => m_X7_placeStreet n 39 a1.toInt a2.toInt a3.toInt a4.toInt (sI w0)) := TT.rf
  refine lv_aload_n hx hb dX7_placeStreet_0 rfl (lv_at hl 0 rfl) ?_
  refine tk_getO hC hK hw hT hinX7 kC_at39 (by decide) rfl 0 (by decide) (List.mem_cons_of_mem _ uw_2_17) rfl rfl dX7_placeStreet_1 ?_
  refine lv_iconst (v := 2) hx hb dX7_placeStreet_4 (by decide) ?_
  refine lv_iload_n hx hb dX7_placeStreet_5 rfl (lv_at hl 1 rfl) ?_
  refine lv_imul hx hb dX7_placeStreet_6 ?_
  refine lv_topi (fun x1 ex1 => ?_)
  have ezx1 := ex1
  have ex1 : x1.toInt = (2 : Int) * a1.toInt := by rw [ex1]; exact wk_mul (show (-2147483648) ≤ (2 : Int) * a1.toInt by omega) (show (2 : Int) * a1.toInt ≤ 2147483647 by omega)
  replace hM := hM.lt ex1.symm
  refine lv_iload_n hx hb dX7_placeStreet_7 rfl (lv_at hl 2 rfl) ?_
  refine tk_iast hC hK hw hT kC_at40 (by decide) rfl rfl (show 0 ≤ x1.toInt by first | with_reducible assumption | omega) (show x1.toInt < 26 by first | with_reducible assumption | omega) (show 0 ≤ a2.toInt from ra2) (show a2.toInt ≤ 9 from ta2) dX7_placeStreet_8 (fun H locs w2 hw hT k4 c3 => ?_)
  replace hM := hM.wr (sI_up k4 c3)
  have hF := hF.put kC_at40 (inE_of (a := 0) (b := 26) (by decide) (show 0 ≤ x1.toInt.toNat by omega) (show x1.toInt.toNat ≤ 26 by omega)) k4
  refine lv_aload_n hx hb dX7_placeStreet_9 rfl (lv_at hl 0 rfl) ?_
  refine tk_getO hC hK hw hT hinX7 kC_at39 (by decide) rfl 0 (by decide) (List.mem_cons_of_mem _ uw_2_17) rfl rfl dX7_placeStreet_10 ?_
  refine lv_iconst (v := 2) hx hb dX7_placeStreet_13 (by decide) ?_
  refine lv_iload_n hx hb dX7_placeStreet_14 rfl (lv_at hl 1 rfl) ?_
  refine lv_imul hx hb dX7_placeStreet_15 ?_
  refine lv_topi (fun x5 ex5 => ?_)
  have ezx5 := ex5
  have ex5 : x5.toInt = (2 : Int) * a1.toInt := by rw [ex5]; exact wk_mul (show (-2147483648) ≤ (2 : Int) * a1.toInt by omega) (show (2 : Int) * a1.toInt ≤ 2147483647 by omega)
  replace hM := hM.lt ex5.symm
  refine lv_iconst (v := 1) hx hb dX7_placeStreet_16 (by decide) ?_
  refine lv_iadd hx hb dX7_placeStreet_17 ?_
  refine lv_topi (fun x6 ex6 => ?_)
  have ezx6 := ex6
  have ex6 : x6.toInt = x5.toInt + (1 : Int) := by rw [ex6]; exact wk_add (show (-2147483648) ≤ x5.toInt + (1 : Int) by omega) (show x5.toInt + (1 : Int) ≤ 2147483647 by omega)
  replace hM := hM.lt ex6.symm
  refine lv_iload_n hx hb dX7_placeStreet_18 rfl (lv_at hl 3 rfl) ?_
  refine tk_iast hC hK hw hT kC_at40 (by decide) rfl rfl (show 0 ≤ x6.toInt by first | with_reducible assumption | omega) (show x6.toInt < 26 by first | with_reducible assumption | omega) (show 0 ≤ a3.toInt from Int.le_trans (by decide) ra3) (show a3.toInt ≤ 9 from ta3) dX7_placeStreet_19 (fun H locs w7 hw hT k9 c8 => ?_)
  replace hM := hM.wr (sI_up k9 c8)
  have hF := hF.put kC_at40 (inE_of (a := 0) (b := 26) (by decide) (show 0 ≤ x6.toInt.toNat by omega) (show x6.toInt.toNat ≤ 26 by omega)) k9
  refine lv_aload_n hx hb dX7_placeStreet_20 rfl (lv_at hl 0 rfl) ?_
  refine tk_getO hC hK hw hT hinX7 kC_at39 (by decide) rfl 1 (by decide) (List.mem_cons_of_mem _ uw_2_18) rfl rfl dX7_placeStreet_21 ?_
  refine lv_iload_n hx hb dX7_placeStreet_24 rfl (lv_at hl 1 rfl) ?_
  refine lv_iload hx hb dX7_placeStreet_25 (lv_at hl 4 rfl) ?_
  refine tk_iast hC hK hw hT kC_at41 (by decide) rfl rfl (show 0 ≤ a1.toInt from ra1) (show a1.toInt < 13 from Int.lt_of_le_of_lt ta1 (by decide)) (show 0 ≤ a4.toInt from Int.le_trans (by decide) ra4) (show a4.toInt ≤ 9 from ta4) dX7_placeStreet_27 (fun H locs w10 hw hT k12 c11 => ?_)
  replace hM := hM.wr (sI_up k12 c11)
  have hF := hF.put kC_at41 (inE_of (a := 0) (b := 13) (by decide) (show 0 ≤ a1.toInt.toNat by omega) (show a1.toInt.toNat ≤ 13 by omega)) k12
  refine lv_aload_n hx hb dX7_placeStreet_28 rfl (lv_at hl 0 rfl) ?_
  refine tk_getO hC hK hw hT hinX7 kC_at39 (by decide) rfl 3 (by decide) (List.mem_cons_of_mem _ uw_2_20) rfl rfl dX7_placeStreet_29 ?_
  refine lv_iload_n hx hb dX7_placeStreet_32 rfl (lv_at hl 1 rfl) ?_
  refine lv_iconst (v := 0) hx hb dX7_placeStreet_33 (by decide) ?_
  refine tk_iast hC hK hw hT kC_at43 (by decide) rfl rfl (show 0 ≤ a1.toInt from ra1) (show a1.toInt < 13 from Int.lt_of_le_of_lt ta1 (by decide)) (by decide) (by decide) dX7_placeStreet_34 (fun H locs w13 hw hT k15 c14 => ?_)
  replace hM := hM.wr (sI_upc k15 c14 (by decide))
  have hF := hF.put kC_at43 (inE_of (a := 0) (b := 13) (by decide) (show 0 ≤ a1.toInt.toNat by omega) (show a1.toInt.toNat ≤ 13 by omega)) k15
  refine lv_aload_n hx hb dX7_placeStreet_35 rfl (lv_at hl 0 rfl) ?_
  refine tk_getO hC hK hw hT hinX7 kC_at39 (by decide) rfl 4 (by decide) (List.mem_cons_of_mem _ uw_2_21) rfl rfl dX7_placeStreet_36 ?_
  refine lv_iconst (v := 2) hx hb dX7_placeStreet_39 (by decide) ?_
  refine lv_iload_n hx hb dX7_placeStreet_40 rfl (lv_at hl 1 rfl) ?_
  refine lv_imul hx hb dX7_placeStreet_41 ?_
  refine lv_topi (fun x16 ex16 => ?_)
  have ezx16 := ex16
  have ex16 : x16.toInt = (2 : Int) * a1.toInt := by rw [ex16]; exact wk_mul (show (-2147483648) ≤ (2 : Int) * a1.toInt by omega) (show (2 : Int) * a1.toInt ≤ 2147483647 by omega)
  replace hM := hM.lt ex16.symm
  refine lv_iconst (v := 0) hx hb dX7_placeStreet_42 (by decide) ?_
  refine tk_iast hC hK hw hT kC_at44 (by decide) rfl rfl (show 0 ≤ x16.toInt by first | with_reducible assumption | omega) (show x16.toInt < 26 by first | with_reducible assumption | omega) (by decide) (by decide) dX7_placeStreet_43 (fun H locs w17 hw hT k19 c18 => ?_)
  replace hM := hM.wr (sI_upc k19 c18 (by decide))
  have hF := hF.put kC_at44 (inE_of (a := 0) (b := 26) (by decide) (show 0 ≤ x16.toInt.toNat by omega) (show x16.toInt.toNat ≤ 26 by omega)) k19
  refine lv_aload_n hx hb dX7_placeStreet_44 rfl (lv_at hl 0 rfl) ?_
  refine tk_getO hC hK hw hT hinX7 kC_at39 (by decide) rfl 4 (by decide) (List.mem_cons_of_mem _ uw_2_21) rfl rfl dX7_placeStreet_45 ?_
  refine lv_iconst (v := 2) hx hb dX7_placeStreet_48 (by decide) ?_
  refine lv_iload_n hx hb dX7_placeStreet_49 rfl (lv_at hl 1 rfl) ?_
  refine lv_imul hx hb dX7_placeStreet_50 ?_
  refine lv_topi (fun x20 ex20 => ?_)
  have ezx20 := ex20
  have ex20 : x20.toInt = (2 : Int) * a1.toInt := by rw [ex20]; exact wk_mul (show (-2147483648) ≤ (2 : Int) * a1.toInt by omega) (show (2 : Int) * a1.toInt ≤ 2147483647 by omega)
  replace hM := hM.lt ex20.symm
  refine lv_iconst (v := 1) hx hb dX7_placeStreet_51 (by decide) ?_
  refine lv_iadd hx hb dX7_placeStreet_52 ?_
  refine lv_topi (fun x21 ex21 => ?_)
  have ezx21 := ex21
  have ex21 : x21.toInt = x20.toInt + (1 : Int) := by rw [ex21]; exact wk_add (show (-2147483648) ≤ x20.toInt + (1 : Int) by omega) (show x20.toInt + (1 : Int) ≤ 2147483647 by omega)
  replace hM := hM.lt ex21.symm
  refine lv_iconst (v := 0) hx hb dX7_placeStreet_53 (by decide) ?_
  refine tk_iast hC hK hw hT kC_at44 (by decide) rfl rfl (show 0 ≤ x21.toInt by first | with_reducible assumption | omega) (show x21.toInt < 26 by first | with_reducible assumption | omega) (by decide) (by decide) dX7_placeStreet_54 (fun H locs w22 hw hT k24 c23 => ?_)
  replace hM := hM.wr (sI_upc k24 c23 (by decide))
  have hF := hF.put kC_at44 (inE_of (a := 0) (b := 26) (by decide) (show 0 ≤ x21.toInt.toNat by omega) (show x21.toInt.toNat ≤ 26 by omega)) k24
  exact tk_vret hC hr hlocks hK ⟨hT, hF, hM.ret rfl, trivial⟩ hw dX7_placeStreet_55
abbrev Pz_X7_tryStreet_1 (ad : Nat → Nat) (cy : Nat → ClassId) (B : Int) (qr : Nat) (s1 : Int) (a1 : Int32) (a2 : Int32) (a3 : Int32) (w0 : va_W) : va_W → Prop := fun u => TW ksC ad cy B qr s1 u ∧ FE ksC [(24, 0, 26), (25, 0, 13), (26, 0, 91), (27, 0, 13), (28, 0, 26), (31, 0, 13)] w0 u ∧ Ev (fun n => m_X7_tryStreet n 39 a1.toInt a2.toInt a3.toInt (sI w0)) (0, sI u) ∧ ((True))
set_option maxHeartbeats 4000000 in
set_option maxRecDepth 100000 in
theorem kz_X7_tryStreet_1 (l : Launch) (adK adV : Nat → Nat) (dC : Nat → ClassId) (dI : Nat → Nat → Nat) (cy : Nat → ClassId) (ad : Nat → Nat) (B : Int) (hB0 : 2147483648 ≤ B) (hB1 : B ≤ 1152921504606846976) (qr : Nat) (s1 : Int)  (a1 : Int32) (ra1 : 0 ≤ a1.toInt) (ta1 : a1.toInt ≤ 9) (a2 : Int32) (ra2 : 1 ≤ a2.toInt) (ta2 : a2.toInt ≤ 9) (a3 : Int32) (ra3 : 1 ≤ a3.toInt) (ta3 : a3.toInt ≤ 9) (w0 : va_W) (sz : Nat) (hT : TW ksC ad cy B qr s1 w0)  : Met l yX7_tryStreet (wu yX7_tryStreet cX7_tryStreet 5 none) ({ frames := 3, cells := 0, slots := 0, locals := 56 }) (va_Pc [.ref (ad 39), .int a1, .int a2, .int a3] (wpreS adK adV dC dI cy sz w0)) (va_Qv (Pz_X7_tryStreet_1 ad cy B qr s1 a1 a2 a3 w0) (fun u : va_W => wpost dC dI cy (va_A w0 sz) u) (va_A w0 sz)) 0 0 (va_A w0 sz) := by
  refine Met.ofW (cc := cX7_tryStreet) (maxL := 5) (ret := none) (by decide) rfl ?_
  intro p e s m args below meth c s₁ Bk hml hv
  obtain ⟨rfl, ⟨hsz, hP, hK, hD0⟩, hE, hSR⟩ := hv
  have hx := Bk.exec
  have hb := Bk.bytes
  have hr := Bk.returns
  have hlocks := Bk.notSynchronized
  have hC : CallFix p m c cX7_tryStreet 5 s _ (wu yX7_tryStreet cX7_tryStreet 5 none) RX7 := ⟨hx, hb, hml, findClass_of_methodNamed Bk.named, atoms_spec (ws := (wu yX7_tryStreet cX7_tryStreet 5 none)) Bk.pre⟩
  subst hsz
  have hD := hD0.self (sz := s.heap.size)
  generalize hAe : va_A w0 s.heap.size = A at hD hE ⊢
  have hA : ∀ q : Nat, s.heap.size ≤ q → A q := fun q h => by rw [← hAe]; exact Or.inr h
  have hw : Wd dC dI A s.heap s.heap [] w0 := ⟨hP, hD, va_S.rf⟩
  have hF : FE ksC [(24, 0, 26), (25, 0, 13), (26, 0, 91), (27, 0, 13), (28, 0, 26), (31, 0, 13)] w0 w0 := FE.rf
  have hl := lv_entry ([.ref (ad 39), .int a1, .int a2, .int a3]) (n := 5) (Nat.le_of_ble_eq_true rfl)
  rw [lg_entry_eq]
  generalize (lg_sl ([.ref (ad 39), .int a1, .int a2, .int a3]) ++ List.replicate (5 - (lg_sl ([.ref (ad 39), .int a1, .int a2, .int a3])).length) Slot.unset).toArray = ls at hl ⊢
  have hl : lv_has ls 5 [(0, .ref (ad 39)), (1, .int a1), (2, .int a2), (3, .int a3)] := hl
  generalize hloc : ([] : List Loc) = locs at hw ⊢
  have hinX7 : ∀ w ∈ u_ws RX7 TX7 12, w ∈ (wu yX7_tryStreet cX7_tryStreet 5 none) := fun _ h => List.mem_cons_of_mem _ (up_73 h)
  have L14 : ∀ (n14 : Nat) (v14_4 : Int32) (f14_39_9 : Int32) (H : Heap) (locs : List Loc) (ls : Array Slot) (w1 : va_W), 0 ≤ a1.toInt → a1.toInt ≤ 9 → 1 ≤ a2.toInt → a2.toInt ≤ 9 → 1 ≤ a3.toInt → a3.toInt ≤ 9 → 0 ≤ v14_4.toInt → v14_4.toInt ≤ 7 → 0 ≤ f14_39_9.toInt → f14_39_9.toInt ≤ 12 → (7 - v14_4.toInt).toNat < n14 → Wd dC dI A s.heap H locs w1 → TW ksC ad cy B qr s1 w1 → FE ksC [(24, 0, 26), (25, 0, 13), (26, 0, 91), (27, 0, 13), (28, 0, 26), (31, 0, 13)] w0 w1 → gi w1 39 9 = f14_39_9 → TT (fun n => m_X7_tryStreet n 39 a1.toInt a2.toInt a3.toInt (sI w0)) (fun n => j_X7_tryStreet 39 n 14 [v14_4.toInt] (sI w1)) → lv_has ls 5 [(0, .ref (ad 39)), (1, .int a1), (2, .int a2), (3, .int a3), (4, .int v14_4)] → W p l e ({ frames := 3, cells := 0, slots := 0, locals := 56 }) s m (List.toArray [.ref (ad 39), .int a1, .int a2, .int a3]) below meth c H locs 0 0 (MQ below (va_Qv (Pz_X7_tryStreet_1 ad cy B qr s1 a1 a2 a3 w0) (fun u : va_W => wpost dC dI cy A u) A) (List.toArray [.ref (ad 39), .int a1, .int a2, .int a3]) s 0 0 A) (F0 m 14 ls []) := by
    intro n14
    induction n14 with
    | zero => intro v14_4 f14_39_9 H locs ls w1 r2 t3 r4 t5 r6 t7 r8 t9 r10 t11 hm14 hw hT hF c12 hM hl; omega
    | succ n14 ih14 =>
      intro v14_4 f14_39_9 H locs ls w1 r2 t3 r4 t5 r6 t7 r8 t9 r10 t11 hm14 hw hT hF c12 hM hl
      replace hM := hM.suc (fun _ => e_X7_tryStreet_14)
      refine lv_iload hx hb dX7_tryStreet_14 (lv_at hl 4 rfl) ?_
      refine lv_bipush (v := 7) hx hb dX7_tryStreet_16 (by decide) ?_
      refine lv_icmp_ge (tgt := 38) hx hb dX7_tryStreet_18 (by decide) (fun c13 => ?_) (fun c13 => ?_)
      · have c13 : (7 : Int) ≤ v14_4.toInt := wk_le.mp c13
        replace hM := hM.pos c13
        refine lv_aload_n hx hb dX7_tryStreet_38 rfl (lv_at hl 0 rfl) ?_
        refine lv_aload_n hx hb dX7_tryStreet_39 rfl (lv_at hl 0 rfl) ?_
        refine tk_geti hC hK hw hT hinX7 kC_at39 (by decide) rfl 9 (by decide) (List.mem_cons_of_mem _ uw_9_8) rfl rfl dX7_tryStreet_40 (fun x14 c15 rx14 tx14 => ?_)
        refine wk_top f14_39_9 (c15.symm.trans c12) ?_
        replace hM := hM.rd (sI_at c12)
        refine tk_Vv hC hK hw hT hA hE hSR kC_at39 (by decide) rfl (kz_X7_findSaints_2 l adK adV dC dI cy ad B hB0 (Int.le_trans hB1 (by decide)) qr s1   f14_39_9 (show 0 ≤ f14_39_9.toInt from r10) (show f14_39_9.toInt ≤ 12 from t11) w1 H.size hT ) (cwV 1 hC.2.2.2.2 uV_RX7_85 rfl rfl rfl (by decide +kernel) ⟨Nat.le_of_ble_eq_true rfl, Nat.le_of_ble_eq_true rfl⟩) rfl hl.1 rfl (Nat.le_of_ble_eq_true rfl) dX7_tryStreet_43 (fun w18 H locs hp17 hw => ?_)
        obtain ⟨hT, k19, hv21, hg20⟩ := hp17
        have hF := hF.tr k19 (by decide)
        have c22 := k19.gi kC_at39 (by decide) c12
        clear hg20
        replace hM := hM.call hv21 rfl
        exact tk_vret hC hr hlocks hK ⟨hT, hF, hM.ret rfl, trivial⟩ hw dX7_tryStreet_46
      · have c13 : v14_4.toInt < (7 : Int) := wk_leF c13
        replace hM := hM.neg (Int.not_le.mpr c13)
        refine lv_aload_n hx hb dX7_tryStreet_21 rfl (lv_at hl 0 rfl) ?_
        refine lv_aload_n hx hb dX7_tryStreet_22 rfl (lv_at hl 0 rfl) ?_
        refine tk_geti hC hK hw hT hinX7 kC_at39 (by decide) rfl 9 (by decide) (List.mem_cons_of_mem _ uw_9_8) rfl rfl dX7_tryStreet_23 (fun x23 c24 rx23 tx23 => ?_)
        refine wk_top f14_39_9 (c24.symm.trans c12) ?_
        replace hM := hM.rd (sI_at c12)
        refine lv_iload hx hb dX7_tryStreet_26 (lv_at hl 4 rfl) ?_
        refine lv_iconst (v := 3) hx hb dX7_tryStreet_28 (by decide) ?_
        refine tk_Vv hC hK hw hT hA hE hSR kC_at39 (by decide) rfl (kz_X7_placeSign_2 l adK adV dC dI cy ad B hB0 (Int.le_trans hB1 (by decide)) qr s1   f14_39_9 (show 0 ≤ f14_39_9.toInt from r10) (show f14_39_9.toInt ≤ 12 from t11) v14_4 (show 0 ≤ v14_4.toInt from r8) (show v14_4.toInt ≤ 6 by first | with_reducible assumption | omega) w1 H.size hT ) (cwV 3 hC.2.2.2.2 uV_RX7_134 rfl rfl rfl (by decide +kernel) ⟨Nat.le_of_ble_eq_true rfl, Nat.le_of_ble_eq_true rfl⟩) rfl hl.1 rfl (Nat.le_of_ble_eq_true rfl) dX7_tryStreet_29 (fun w27 H locs hp26 hw => ?_)
        obtain ⟨hT, k28, hv30, hg29⟩ := hp26
        have hF := hF.tr k28 (by decide)
        have c31 := k28.gi kC_at39 (by decide) c12
        clear hg29
        replace hM := hM.call hv30 rfl
        obtain ⟨x32, ex32⟩ : ∃ y : Int32, y = v14_4 + Int32.ofInt 1 := ⟨_, rfl⟩
        have erx32 := ex32
        refine lv_iinc (v := x32) (lv' := [(4, .int x32), (0, .ref (ad 39)), (1, .int a1), (2, .int a2), (3, .int a3)]) hx hb dX7_tryStreet_32 hl (k := 4) rfl ex32.symm (by decide) rfl (fun ls hl => ?_)
        have ex32 : x32.toInt = v14_4.toInt + 1 := by rw [ex32]; exact wk_add (y := 1) (show -2147483648 ≤ v14_4.toInt + 1 by omega) (show v14_4.toInt + 1 ≤ 2147483647 by omega)
        replace hM := hM.lt ex32.symm
        refine lv_goto (tgt := 14) hx hb dX7_tryStreet_35 (by decide) ?_
        exact ih14 x32 f14_39_9 H locs ls w27 (show 0 ≤ a1.toInt from r2) (show a1.toInt ≤ 9 from t3) (show 1 ≤ a2.toInt from r4) (show a2.toInt ≤ 9 from t5) (show 1 ≤ a3.toInt from r6) (show a3.toInt ≤ 9 from t7) (show 0 ≤ x32.toInt by first | with_reducible assumption | omega) (show x32.toInt ≤ 7 by first | with_reducible assumption | omega) (show 0 ≤ f14_39_9.toInt from r10) (show f14_39_9.toInt ≤ 12 from t11) (show (7 - x32.toInt).toNat < n14 by first | exact tn_lt hm14 (by omega) (by omega) | omega) hw hT hF c31 hM (lv_sub hl [1, 2, 3, 4, 0] rfl)
  have hM : TT (fun n => m_X7_tryStreet n 39 a1.toInt a2.toInt a3.toInt (sI w0)) (fun n => m_X7_tryStreet n 39 a1.toInt a2.toInt a3.toInt (sI w0)) := TT.rf
  refine lv_aload_n hx hb dX7_tryStreet_0 rfl (lv_at hl 0 rfl) ?_
  refine lv_aload_n hx hb dX7_tryStreet_1 rfl (lv_at hl 0 rfl) ?_
  refine tk_geti hC hK hw hT hinX7 kC_at39 (by decide) rfl 9 (by decide) (List.mem_cons_of_mem _ uw_9_8) rfl rfl dX7_tryStreet_2 (fun x33 c34 rx33 tx33 => ?_)
  replace hM := hM.rd (sI_at c34)
  refine lv_iload_n hx hb dX7_tryStreet_5 rfl (lv_at hl 1 rfl) ?_
  refine lv_iload_n hx hb dX7_tryStreet_6 rfl (lv_at hl 2 rfl) ?_
  refine lv_iload_n hx hb dX7_tryStreet_7 rfl (lv_at hl 3 rfl) ?_
  refine tk_Vv hC hK hw hT hA hE hSR kC_at39 (by decide) rfl (kz_X7_placeStreet_2 l adK adV dC dI cy ad B hB0 (Int.le_trans hB1 (by decide)) qr s1   x33 (show 0 ≤ x33.toInt from rx33) (show x33.toInt ≤ 12 from tx33) a1 (show 0 ≤ a1.toInt from ra1) (show a1.toInt ≤ 9 from ta1) a2 (show 1 ≤ a2.toInt from ra2) (show a2.toInt ≤ 9 from ta2) a3 (show 1 ≤ a3.toInt from ra3) (show a3.toInt ≤ 9 from ta3) w0 s.heap.size hT ) (cwV 4 hC.2.2.2.2 uV_RX7_106 rfl rfl rfl (by decide +kernel) ⟨Nat.le_of_ble_eq_true rfl, Nat.le_of_ble_eq_true rfl⟩) rfl hl.1 rfl (Nat.le_of_ble_eq_true rfl) dX7_tryStreet_8 (fun w37 H locs hp36 hw => ?_)
  obtain ⟨hT, k38, hv40, hg39⟩ := hp36
  have hF := hF.tr k38 (by decide)
  have c41 := k38.gi kC_at39 (by decide) c34
  clear hg39
  replace hM := hM.call hv40 rfl
  refine lv_iconst (v := 0) hx hb dX7_tryStreet_11 (by decide) ?_
  refine lv_istore (lv' := [(4, .int 0), (0, .ref (ad 39)), (1, .int a1), (2, .int a2), (3, .int a3)]) hx hb dX7_tryStreet_12 hl (by decide) rfl (fun ls hl => ?_)
  exact L14 ((7 - (0 : Int)).toNat + 1) 0 x33 H locs ls w37 (show 0 ≤ a1.toInt from ra1) (show a1.toInt ≤ 9 from ta1) (show 1 ≤ a2.toInt from ra2) (show a2.toInt ≤ 9 from ta2) (show 1 ≤ a3.toInt from ra3) (show a3.toInt ≤ 9 from ta3) (by decide) (by decide) (show 0 ≤ x33.toInt from rx33) (show x33.toInt ≤ 12 from tx33) (Nat.lt_succ_self _) hw hT hF c41 hM (lv_sub hl [1, 2, 3, 4, 0] rfl)
abbrev Pz_X7_sideOf_3 (ad : Nat → Nat) (cy : Nat → ClassId) (B : Int) (qr : Nat) (s1 : Int) (a1 : Int32) (a2 : Int32) (w0 : va_W) : Int32 → va_W → Prop := fun r u => TW ksC ad cy B qr s1 u ∧ FE ksC ([] : List (Nat × Nat × Nat)) w0 u ∧ Ev (fun n => m_X7_sideOf n 39 a1.toInt a2.toInt (sI w0)) (r.toInt, sI u) ∧ ((r = (-1)) ∨ (r = 0 ∧ gi u 40 (2 * a1.toInt + 0).toNat = a2) ∨ (r = 1 ∧ gi u 40 (2 * a1.toInt + 1).toNat = a2))
set_option maxHeartbeats 4000000 in
set_option maxRecDepth 100000 in
theorem kz_X7_sideOf_3 (l : Launch) (adK adV : Nat → Nat) (dC : Nat → ClassId) (dI : Nat → Nat → Nat) (cy : Nat → ClassId) (ad : Nat → Nat) (B : Int) (hB0 : 2147483648 ≤ B) (hB1 : B ≤ 1152921504606846976) (qr : Nat) (s1 : Int)  (a1 : Int32) (ra1 : 0 ≤ a1.toInt) (ta1 : a1.toInt ≤ 12) (a2 : Int32) (ra2 : 0 ≤ a2.toInt) (ta2 : a2.toInt ≤ 9) (w0 : va_W) (sz : Nat) (hT : TW ksC ad cy B qr s1 w0)  : Met l yX7_sideOf (wu yX7_sideOf cX7_sideOf 3 (some .int)) ({ frames := 1, cells := 0, slots := 0, locals := 12 }) (va_Pc [.ref (ad 39), .int a1, .int a2] (wpreS adK adV dC dI cy sz w0)) (va_Qi (Pz_X7_sideOf_3 ad cy B qr s1 a1 a2 w0) (fun u : va_W => wpost dC dI cy (va_A w0 sz) u) (va_A w0 sz)) 0 0 (va_A w0 sz) := by
  refine Met.ofW (cc := cX7_sideOf) (maxL := 3) (ret := (some .int)) (by decide) rfl ?_
  intro p e s m args below meth c s₁ Bk hml hv
  obtain ⟨rfl, ⟨hsz, hP, hK, hD0⟩, hE, hSR⟩ := hv
  have hx := Bk.exec
  have hb := Bk.bytes
  have hr := Bk.returns
  have hlocks := Bk.notSynchronized
  have hC : CallFix p m c cX7_sideOf 3 s _ (wu yX7_sideOf cX7_sideOf 3 (some .int)) RX7 := ⟨hx, hb, hml, findClass_of_methodNamed Bk.named, atoms_spec (ws := (wu yX7_sideOf cX7_sideOf 3 (some .int))) Bk.pre⟩
  subst hsz
  have hD := hD0.self (sz := s.heap.size)
  generalize hAe : va_A w0 s.heap.size = A at hD hE ⊢
  have hA : ∀ q : Nat, s.heap.size ≤ q → A q := fun q h => by rw [← hAe]; exact Or.inr h
  have hw : Wd dC dI A s.heap s.heap [] w0 := ⟨hP, hD, va_S.rf⟩
  have hF : FE ksC ([] : List (Nat × Nat × Nat)) w0 w0 := FE.rf
  have hl := lv_entry ([.ref (ad 39), .int a1, .int a2]) (n := 3) (Nat.le_of_ble_eq_true rfl)
  rw [lg_entry_eq]
  generalize (lg_sl ([.ref (ad 39), .int a1, .int a2]) ++ List.replicate (3 - (lg_sl ([.ref (ad 39), .int a1, .int a2])).length) Slot.unset).toArray = ls at hl ⊢
  have hl : lv_has ls 3 [(0, .ref (ad 39)), (1, .int a1), (2, .int a2)] := hl
  generalize hloc : ([] : List Loc) = locs at hw ⊢
  have hinX7 : ∀ w ∈ u_ws RX7 TX7 12, w ∈ (wu yX7_sideOf cX7_sideOf 3 (some .int)) := fun _ h => List.mem_cons_of_mem _ (up_73 h)
  have hM : TT (fun n => m_X7_sideOf n 39 a1.toInt a2.toInt (sI w0)) (fun n => m_X7_sideOf n 39 a1.toInt a2.toInt (sI w0)) := TT.rf
  refine lv_aload_n hx hb dX7_sideOf_0 rfl (lv_at hl 0 rfl) ?_
  refine tk_getO hC hK hw hT hinX7 kC_at39 (by decide) rfl 0 (by decide) (List.mem_cons_of_mem _ uw_2_17) rfl rfl dX7_sideOf_1 ?_
  refine lv_iconst (v := 2) hx hb dX7_sideOf_4 (by decide) ?_
  refine lv_iload_n hx hb dX7_sideOf_5 rfl (lv_at hl 1 rfl) ?_
  refine lv_imul hx hb dX7_sideOf_6 ?_
  refine lv_topi (fun x1 ex1 => ?_)
  have ezx1 := ex1
  have ex1 : x1.toInt = (2 : Int) * a1.toInt := by rw [ex1]; exact wk_mul (show (-2147483648) ≤ (2 : Int) * a1.toInt by omega) (show (2 : Int) * a1.toInt ≤ 2147483647 by omega)
  replace hM := hM.lt ex1.symm
  refine tk_iald hC hK hw hT kC_at40 rfl rfl (show 0 ≤ x1.toInt by first | with_reducible assumption | omega) (show x1.toInt < 26 by first | with_reducible assumption | omega) dX7_sideOf_7 (fun x2 c3 rx2 tx2 => ?_)
  have hox2 := c3
  replace hM := hM.rd (sI_at hox2)
  have c3 : gi w0 40 (2 * a1.toInt + 0).toNat = x2 := (congrArg (gi w0 40) (congrArg Int.toNat (show 2 * a1.toInt + 0 = x1.toInt by first | exact Int.le_antisymm (by omega) (by omega) | omega))).trans c3
  refine lv_iload_n hx hb dX7_sideOf_8 rfl (lv_at hl 2 rfl) ?_
  refine lv_icmp_ne (tgt := 14) hx hb dX7_sideOf_9 (by decide) (fun c4 => ?_) (fun c4 => ?_)
  · have c4 : ¬ x2.toInt = a2.toInt := wk_eqF c4
    replace hM := hM.pos c4
    refine lv_aload_n hx hb dX7_sideOf_14 rfl (lv_at hl 0 rfl) ?_
    refine tk_getO hC hK hw hT hinX7 kC_at39 (by decide) rfl 0 (by decide) (List.mem_cons_of_mem _ uw_2_17) rfl rfl dX7_sideOf_15 ?_
    refine lv_iconst (v := 2) hx hb dX7_sideOf_18 (by decide) ?_
    refine lv_iload_n hx hb dX7_sideOf_19 rfl (lv_at hl 1 rfl) ?_
    refine lv_imul hx hb dX7_sideOf_20 ?_
    refine lv_topi (fun x5 ex5 => ?_)
    have ezx5 := ex5
    have ex5 : x5.toInt = (2 : Int) * a1.toInt := by rw [ex5]; exact wk_mul (show (-2147483648) ≤ (2 : Int) * a1.toInt by omega) (show (2 : Int) * a1.toInt ≤ 2147483647 by omega)
    replace hM := hM.lt ex5.symm
    refine lv_iconst (v := 1) hx hb dX7_sideOf_21 (by decide) ?_
    refine lv_iadd hx hb dX7_sideOf_22 ?_
    refine lv_topi (fun x6 ex6 => ?_)
    have ezx6 := ex6
    have ex6 : x6.toInt = x5.toInt + (1 : Int) := by rw [ex6]; exact wk_add (show (-2147483648) ≤ x5.toInt + (1 : Int) by omega) (show x5.toInt + (1 : Int) ≤ 2147483647 by omega)
    replace hM := hM.lt ex6.symm
    refine tk_iald hC hK hw hT kC_at40 rfl rfl (show 0 ≤ x6.toInt by first | with_reducible assumption | omega) (show x6.toInt < 26 by first | with_reducible assumption | omega) dX7_sideOf_23 (fun x7 c8 rx7 tx7 => ?_)
    have hox7 := c8
    replace hM := hM.rd (sI_at hox7)
    have c8 : gi w0 40 (2 * a1.toInt + 1).toNat = x7 := (congrArg (gi w0 40) (congrArg Int.toNat (show 2 * a1.toInt + 1 = x6.toInt by first | exact Int.le_antisymm (by omega) (by omega) | omega))).trans c8
    refine lv_iload_n hx hb dX7_sideOf_24 rfl (lv_at hl 2 rfl) ?_
    refine lv_icmp_ne (tgt := 32) hx hb dX7_sideOf_25 (by decide) (fun c9 => ?_) (fun c9 => ?_)
    · have c9 : ¬ x7.toInt = a2.toInt := wk_eqF c9
      replace hM := hM.pos c9
      refine lv_iconst (v := (-1)) hx hb dX7_sideOf_32 (by decide) ?_
      exact tk_iret hC hr hlocks hK ⟨hT, hF, hM.ret (by decide), (Or.inl rfl)⟩ hw dX7_sideOf_33
    · have c9 : x7.toInt = a2.toInt := wk_eq.mp c9
      replace hM := hM.neg (fun q => q c9)
      refine lv_iconst (v := 1) hx hb dX7_sideOf_28 (by decide) ?_
      refine lv_goto (tgt := 33) hx hb dX7_sideOf_29 (by decide) ?_
      exact tk_iret hC hr hlocks hK ⟨hT, hF, hM.ret (by decide), (Or.inr (Or.inr ⟨rfl, (c8.trans (wk_eq.mpr (show x7.toInt = a2.toInt by first | exact Int.le_antisymm (by omega) (by omega) | omega)))⟩))⟩ hw dX7_sideOf_33
  · have c4 : x2.toInt = a2.toInt := wk_eq.mp c4
    replace hM := hM.neg (fun q => q c4)
    refine lv_iconst (v := 0) hx hb dX7_sideOf_12 (by decide) ?_
    exact tk_iret hC hr hlocks hK ⟨hT, hF, hM.ret (by decide), (Or.inr (Or.inl ⟨rfl, (c3.trans (wk_eq.mpr (show x2.toInt = a2.toInt by first | exact Int.le_antisymm (by omega) (by omega) | omega)))⟩))⟩ hw dX7_sideOf_13
abbrev Pz_X7_cornerAcross_1 (ad : Nat → Nat) (cy : Nat → ClassId) (B : Int) (qr : Nat) (s1 : Int) (a1 : Int32) (w0 : va_W) : Int32 → va_W → Prop := fun r u => TW ksC ad cy B qr s1 u ∧ FE ksC ([] : List (Nat × Nat × Nat)) w0 u ∧ Ev (fun n => m_X7_cornerAcross n 39 a1.toInt 0 (sI w0)) (r.toInt, sI u) ∧ ((0 ≤ r.toInt ∧ r.toInt ≤ 9))
set_option maxHeartbeats 4000000 in
set_option maxRecDepth 100000 in
theorem kz_X7_cornerAcross_1 (l : Launch) (adK adV : Nat → Nat) (dC : Nat → ClassId) (dI : Nat → Nat → Nat) (cy : Nat → ClassId) (ad : Nat → Nat) (B : Int) (hB0 : 2147483648 ≤ B) (hB1 : B ≤ 1152921504606846976) (qr : Nat) (s1 : Int)  (a1 : Int32) (ra1 : 0 ≤ a1.toInt) (ta1 : a1.toInt ≤ 12) (w0 : va_W) (sz : Nat) (hT : TW ksC ad cy B qr s1 w0)  : Met l yX7_cornerAcross (wu yX7_cornerAcross cX7_cornerAcross 3 (some .int)) ({ frames := 1, cells := 0, slots := 0, locals := 12 }) (va_Pc [.ref (ad 39), .int a1, .int 0] (wpreS adK adV dC dI cy sz w0)) (va_Qi (Pz_X7_cornerAcross_1 ad cy B qr s1 a1 w0) (fun u : va_W => wpost dC dI cy (va_A w0 sz) u) (va_A w0 sz)) 0 0 (va_A w0 sz) := by
  refine Met.ofW (cc := cX7_cornerAcross) (maxL := 3) (ret := (some .int)) (by decide) rfl ?_
  intro p e s m args below meth c s₁ Bk hml hv
  obtain ⟨rfl, ⟨hsz, hP, hK, hD0⟩, hE, hSR⟩ := hv
  have hx := Bk.exec
  have hb := Bk.bytes
  have hr := Bk.returns
  have hlocks := Bk.notSynchronized
  have hC : CallFix p m c cX7_cornerAcross 3 s _ (wu yX7_cornerAcross cX7_cornerAcross 3 (some .int)) RX7 := ⟨hx, hb, hml, findClass_of_methodNamed Bk.named, atoms_spec (ws := (wu yX7_cornerAcross cX7_cornerAcross 3 (some .int))) Bk.pre⟩
  subst hsz
  have hD := hD0.self (sz := s.heap.size)
  generalize hAe : va_A w0 s.heap.size = A at hD hE ⊢
  have hA : ∀ q : Nat, s.heap.size ≤ q → A q := fun q h => by rw [← hAe]; exact Or.inr h
  have hw : Wd dC dI A s.heap s.heap [] w0 := ⟨hP, hD, va_S.rf⟩
  have hF : FE ksC ([] : List (Nat × Nat × Nat)) w0 w0 := FE.rf
  have hl := lv_entry ([.ref (ad 39), .int a1, .int 0]) (n := 3) (Nat.le_of_ble_eq_true rfl)
  rw [lg_entry_eq]
  generalize (lg_sl ([.ref (ad 39), .int a1, .int 0]) ++ List.replicate (3 - (lg_sl ([.ref (ad 39), .int a1, .int 0])).length) Slot.unset).toArray = ls at hl ⊢
  have hl : lv_has ls 3 [(0, .ref (ad 39)), (1, .int a1), (2, .int 0)] := hl
  generalize hloc : ([] : List Loc) = locs at hw ⊢
  have hinX7 : ∀ w ∈ u_ws RX7 TX7 12, w ∈ (wu yX7_cornerAcross cX7_cornerAcross 3 (some .int)) := fun _ h => List.mem_cons_of_mem _ (up_73 h)
  have hM : TT (fun n => m_X7_cornerAcross n 39 a1.toInt 0 (sI w0)) (fun n => m_X7_cornerAcross n 39 a1.toInt 0 (sI w0)) := TT.rf
  refine lv_aload_n hx hb dX7_cornerAcross_0 rfl (lv_at hl 0 rfl) ?_
  refine tk_getO hC hK hw hT hinX7 kC_at39 (by decide) rfl 0 (by decide) (List.mem_cons_of_mem _ uw_2_17) rfl rfl dX7_cornerAcross_1 ?_
  refine lv_iconst (v := 2) hx hb dX7_cornerAcross_4 (by decide) ?_
  refine lv_iload_n hx hb dX7_cornerAcross_5 rfl (lv_at hl 1 rfl) ?_
  refine lv_imul hx hb dX7_cornerAcross_6 ?_
  refine lv_topi (fun x1 ex1 => ?_)
  have ezx1 := ex1
  have ex1 : x1.toInt = (2 : Int) * a1.toInt := by rw [ex1]; exact wk_mul (show (-2147483648) ≤ (2 : Int) * a1.toInt by omega) (show (2 : Int) * a1.toInt ≤ 2147483647 by omega)
  replace hM := hM.lt ex1.symm
  refine lv_iconst (v := 1) hx hb dX7_cornerAcross_7 (by decide) ?_
  refine lv_iadd hx hb dX7_cornerAcross_8 ?_
  refine lv_topi (fun x2 ex2 => ?_)
  have ezx2 := ex2
  have ex2 : x2.toInt = x1.toInt + (1 : Int) := by rw [ex2]; exact wk_add (show (-2147483648) ≤ x1.toInt + (1 : Int) by omega) (show x1.toInt + (1 : Int) ≤ 2147483647 by omega)
  replace hM := hM.lt ex2.symm
  refine lv_iload_n hx hb dX7_cornerAcross_9 rfl (lv_at hl 2 rfl) ?_
  refine lv_isub hx hb dX7_cornerAcross_10 ?_
  refine lv_topi (fun x3 ex3 => ?_)
  have ezx3 := ex3
  have ex3 : x3.toInt = x2.toInt - (0 : Int) := by rw [ex3]; exact wk_sub (show (-2147483648) ≤ x2.toInt - (0 : Int) by omega) (show x2.toInt - (0 : Int) ≤ 2147483647 by omega)
  replace hM := hM.lt ex3.symm
  refine tk_iald hC hK hw hT kC_at40 rfl rfl (show 0 ≤ x3.toInt by first | with_reducible assumption | omega) (show x3.toInt < 26 by first | with_reducible assumption | omega) dX7_cornerAcross_11 (fun x4 c5 rx4 tx4 => ?_)
  have hox4 := c5
  replace hM := hM.rd (sI_at hox4)
  have c5 : gi w0 40 (2 * a1.toInt + 1).toNat = x4 := (congrArg (gi w0 40) (congrArg Int.toNat (show 2 * a1.toInt + 1 = x3.toInt by first | exact Int.le_antisymm (by omega) (by omega) | omega))).trans c5
  exact tk_iret hC hr hlocks hK ⟨hT, hF, hM.ret rfl, ⟨(show 0 ≤ x4.toInt from rx4), (show x4.toInt ≤ 9 from tx4)⟩⟩ hw dX7_cornerAcross_12
abbrev Pz_X7_openHours_1 (ad : Nat → Nat) (cy : Nat → ClassId) (B : Int) (qr : Nat) (s1 : Int) (a1 : Int32) (a3 : Int64) (w0 : va_W) : Int32 → va_W → Prop := fun r u => TW ksC ad cy B qr s1 u ∧ FE ksC ([] : List (Nat × Nat × Nat)) w0 u ∧ Ev (fun n => m_X7_openHours n 39 a1.toInt 0 a3.toInt 1 (sI w0)) (r.toInt, sI u) ∧ ((0 ≤ r.toInt ∧ r.toInt ≤ 16777215))
set_option maxHeartbeats 4000000 in
set_option maxRecDepth 100000 in
theorem kz_X7_openHours_1 (l : Launch) (adK adV : Nat → Nat) (dC : Nat → ClassId) (dI : Nat → Nat → Nat) (cy : Nat → ClassId) (ad : Nat → Nat) (B : Int) (hB0 : 2147483648 ≤ B) (hB1 : B ≤ 1152921504606846976) (qr : Nat) (s1 : Int)  (a1 : Int32) (ra1 : 0 ≤ a1.toInt) (ta1 : a1.toInt ≤ 12) (a3 : Int64) (ra3 : 0 ≤ a3.toInt) (ta3 : a3.toInt ≤ 4249) (w0 : va_W) (sz : Nat) (hT : TW ksC ad cy B qr s1 w0)  : Met l yX7_openHours (wu yX7_openHours cX7_openHours 8 (some .int)) ({ frames := 1, cells := 0, slots := 0, locals := 12 }) (va_Pc [.ref (ad 39), .int a1, .int 0, .long a3, .int 1] (wpreS adK adV dC dI cy sz w0)) (va_Qi (Pz_X7_openHours_1 ad cy B qr s1 a1 a3 w0) (fun u : va_W => wpost dC dI cy (va_A w0 sz) u) (va_A w0 sz)) 0 0 (va_A w0 sz) := by
  refine Met.ofW (cc := cX7_openHours) (maxL := 8) (ret := (some .int)) (by decide) rfl ?_
  intro p e s m args below meth c s₁ Bk hml hv
  obtain ⟨rfl, ⟨hsz, hP, hK, hD0⟩, hE, hSR⟩ := hv
  have hx := Bk.exec
  have hb := Bk.bytes
  have hr := Bk.returns
  have hlocks := Bk.notSynchronized
  have hC : CallFix p m c cX7_openHours 8 s _ (wu yX7_openHours cX7_openHours 8 (some .int)) RX7 := ⟨hx, hb, hml, findClass_of_methodNamed Bk.named, atoms_spec (ws := (wu yX7_openHours cX7_openHours 8 (some .int))) Bk.pre⟩
  subst hsz
  have hD := hD0.self (sz := s.heap.size)
  generalize hAe : va_A w0 s.heap.size = A at hD hE ⊢
  have hA : ∀ q : Nat, s.heap.size ≤ q → A q := fun q h => by rw [← hAe]; exact Or.inr h
  have hw : Wd dC dI A s.heap s.heap [] w0 := ⟨hP, hD, va_S.rf⟩
  have hF : FE ksC ([] : List (Nat × Nat × Nat)) w0 w0 := FE.rf
  have hl := lv_entry ([.ref (ad 39), .int a1, .int 0, .long a3, .int 1]) (n := 8) (Nat.le_of_ble_eq_true rfl)
  rw [lg_entry_eq]
  generalize (lg_sl ([.ref (ad 39), .int a1, .int 0, .long a3, .int 1]) ++ List.replicate (8 - (lg_sl ([.ref (ad 39), .int a1, .int 0, .long a3, .int 1])).length) Slot.unset).toArray = ls at hl ⊢
  have hl : lv_has ls 8 [(0, .ref (ad 39)), (1, .int a1), (2, .int 0), (3, .long a3), (5, .int 1)] := hl
  generalize hloc : ([] : List Loc) = locs at hw ⊢
  have hinX7 : ∀ w ∈ u_ws RX7 TX7 12, w ∈ (wu yX7_openHours cX7_openHours 8 (some .int)) := fun _ h => List.mem_cons_of_mem _ (up_73 h)
  have J93 : ∀ (v93_6 : Int32) (v93_7 : Int32) (H : Heap) (locs : List Loc) (ls : Array Slot) (w1 : va_W), 0 ≤ a1.toInt → a1.toInt ≤ 12 → 0 ≤ a3.toInt → a3.toInt ≤ 4249 → 0 ≤ v93_7.toInt → v93_7.toInt ≤ 8 → Wd dC dI A s.heap H locs w1 → TW ksC ad cy B qr s1 w1 → FE ksC ([] : List (Nat × Nat × Nat)) w0 w1 → TT (fun n => m_X7_openHours n 39 a1.toInt 0 a3.toInt 1 (sI w0)) (fun n => b_X7_openHours_93 (j_X7_openHours 39 n) n 39 (a1.toInt) (sI w1)) → lv_has ls 8 [(0, .ref (ad 39)), (1, .int a1), (2, .int 0), (3, .long a3), (5, .int 1), (6, .int v93_6), (7, .int v93_7)] → W p l e ({ frames := 1, cells := 0, slots := 0, locals := 12 }) s m (List.toArray [.ref (ad 39), .int a1, .int 0, .long a3, .int 1]) below meth c H locs 0 0 (MQ below (va_Qi (Pz_X7_openHours_1 ad cy B qr s1 a1 a3 w0) (fun u : va_W => wpost dC dI cy A u) A) (List.toArray [.ref (ad 39), .int a1, .int 0, .long a3, .int 1]) s 0 0 A) (F0 m 93 ls []) := by
    intro v93_6 v93_7 H locs ls w1 r2 t3 r4 t5 r6 t7 hw hT hF hM hl
    refine lv_ldc (v := 16777215) hx hb hC.2.2.2.1 (hC.2.2.2.2 _ (List.mem_cons_of_mem _ uw_31_17)) dX7_openHours_93 ?_
    refine lv_aload_n hx hb dX7_openHours_95 rfl (lv_at hl 0 rfl) ?_
    refine tk_getO hC hK hw hT hinX7 kC_at39 (by decide) rfl 3 (by decide) (List.mem_cons_of_mem _ uw_2_20) rfl rfl dX7_openHours_96 ?_
    refine lv_iload_n hx hb dX7_openHours_99 rfl (lv_at hl 1 rfl) ?_
    refine tk_iald hC hK hw hT kC_at43 rfl rfl (show 0 ≤ a1.toInt from r2) (show a1.toInt < 13 from Int.lt_of_le_of_lt t3 (by decide)) dX7_openHours_100 (fun x8 c9 rx8 tx8 => ?_)
    have hox8 := c9
    replace hM := hM.rd (sI_at hox8)
    refine lv_iconst (v := (-1)) hx hb dX7_openHours_101 (by decide) ?_
    refine lv_ixor hx hb dX7_openHours_102 ?_
    refine lv_topi (fun x10 ex10 => ?_)
    have ezx10 := ex10
    replace hM := hM.lt (o32_e (f := fun x y => x ^^^ y) ezx10 rfl (by decide))
    refine lv_iand hx hb dX7_openHours_103 ?_
    refine lv_topi (fun x11 ex11 => ?_)
    have ezx11 := ex11
    have bx11 : 0 ≤ x11.toInt ∧ x11.toInt ≤ (16777215 : Int) := by rw [ex11]; exact wk_andC (by decide)
    replace hM := hM.lt (o32_e (f := fun x y => x &&& y) ezx11 (by decide) rfl)
    exact tk_iret hC hr hlocks hK ⟨hT, hF, hM.ret rfl, ⟨(show 0 ≤ x11.toInt by first | with_reducible assumption | omega), (show x11.toInt ≤ 16777215 by first | with_reducible assumption | omega)⟩⟩ hw dX7_openHours_104
  have L44 : ∀ (n44 : Nat) (v44_6 : Int32) (v44_7 : Int32) (H : Heap) (locs : List Loc) (ls : Array Slot) (w12 : va_W), 0 ≤ a1.toInt → a1.toInt ≤ 12 → 0 ≤ a3.toInt → a3.toInt ≤ 4249 → 0 ≤ v44_7.toInt → v44_7.toInt ≤ 8 → (8 - v44_7.toInt).toNat < n44 → Wd dC dI A s.heap H locs w12 → TW ksC ad cy B qr s1 w12 → FE ksC ([] : List (Nat × Nat × Nat)) w0 w12 → TT (fun n => m_X7_openHours n 39 a1.toInt 0 a3.toInt 1 (sI w0)) (fun n => j_X7_openHours 39 n 44 [a1.toInt, a3.toInt, v44_6.toInt, v44_7.toInt] (sI w12)) → lv_has ls 8 [(0, .ref (ad 39)), (1, .int a1), (2, .int 0), (3, .long a3), (5, .int 1), (6, .int v44_6), (7, .int v44_7)] → W p l e ({ frames := 1, cells := 0, slots := 0, locals := 12 }) s m (List.toArray [.ref (ad 39), .int a1, .int 0, .long a3, .int 1]) below meth c H locs 0 0 (MQ below (va_Qi (Pz_X7_openHours_1 ad cy B qr s1 a1 a3 w0) (fun u : va_W => wpost dC dI cy A u) A) (List.toArray [.ref (ad 39), .int a1, .int 0, .long a3, .int 1]) s 0 0 A) (F0 m 44 ls []) := by
    intro n44
    induction n44 with
    | zero => intro v44_6 v44_7 H locs ls w12 r13 t14 r15 t16 r17 t18 hm44 hw hT hF hM hl; omega
    | succ n44 ih44 =>
      intro v44_6 v44_7 H locs ls w12 r13 t14 r15 t16 r17 t18 hm44 hw hT hF hM hl
      have J81 : ∀ (H : Heap) (locs : List Loc) (ls : Array Slot) (w19 : va_W), 0 ≤ a1.toInt → a1.toInt ≤ 12 → 0 ≤ a3.toInt → a3.toInt ≤ 4249 → 0 ≤ v44_7.toInt → v44_7.toInt ≤ 7 → Wd dC dI A s.heap H locs w19 → TW ksC ad cy B qr s1 w19 → FE ksC ([] : List (Nat × Nat × Nat)) w0 w19 → TT (fun n => m_X7_openHours n 39 a1.toInt 0 a3.toInt 1 (sI w0)) (fun n => b_X7_openHours_81 (j_X7_openHours 39 n) n 39 (a1.toInt) (a3.toInt) (v44_6.toInt) (v44_7.toInt) (sI w19)) → lv_has ls 8 [(0, .ref (ad 39)), (1, .int a1), (2, .int 0), (3, .long a3), (5, .int 1), (6, .int v44_6), (7, .int v44_7)] → W p l e ({ frames := 1, cells := 0, slots := 0, locals := 12 }) s m (List.toArray [.ref (ad 39), .int a1, .int 0, .long a3, .int 1]) below meth c H locs 0 0 (MQ below (va_Qi (Pz_X7_openHours_1 ad cy B qr s1 a1 a3 w0) (fun u : va_W => wpost dC dI cy A u) A) (List.toArray [.ref (ad 39), .int a1, .int 0, .long a3, .int 1]) s 0 0 A) (F0 m 81 ls []) := by
        intro H locs ls w19 r20 t21 r22 t23 r24 t25 hw hT hF hM hl
        refine lv_iload hx hb dX7_openHours_81 (lv_at hl 5 rfl) ?_
        refine lv_iconst (v := 1) hx hb dX7_openHours_83 (by decide) ?_
        refine lv_ishr hx hb dX7_openHours_84 ?_
        refine lv_topi (fun x26 ex26 => ?_)
        have ezx26 := ex26
        replace hM := hM.lt (o32_e (f := fun x y => x >>> (y &&& 31)) ezx26 rfl (by decide))
        refine lv_istore (lv' := [(6, .int x26), (0, .ref (ad 39)), (1, .int a1), (2, .int 0), (3, .long a3), (5, .int 1), (7, .int v44_7)]) hx hb dX7_openHours_85 hl (by decide) rfl (fun ls hl => ?_)
        obtain ⟨x27, ex27⟩ : ∃ y : Int32, y = v44_7 + Int32.ofInt 1 := ⟨_, rfl⟩
        have erx27 := ex27
        refine lv_iinc (v := x27) (lv' := [(7, .int x27), (6, .int x26), (0, .ref (ad 39)), (1, .int a1), (2, .int 0), (3, .long a3), (5, .int 1)]) hx hb dX7_openHours_87 hl (k := 6) rfl ex27.symm (by decide) rfl (fun ls hl => ?_)
        have ex27 : x27.toInt = v44_7.toInt + 1 := by rw [ex27]; exact wk_add (y := 1) (show -2147483648 ≤ v44_7.toInt + 1 by omega) (show v44_7.toInt + 1 ≤ 2147483647 by omega)
        replace hM := hM.lt ex27.symm
        refine lv_goto (tgt := 44) hx hb dX7_openHours_90 (by decide) ?_
        exact ih44 x26 x27 H locs ls w19 (show 0 ≤ a1.toInt from r20) (show a1.toInt ≤ 12 from t21) (show 0 ≤ a3.toInt from r22) (show a3.toInt ≤ 4249 from t23) (show 0 ≤ x27.toInt by first | with_reducible assumption | omega) (show x27.toInt ≤ 8 by first | with_reducible assumption | omega) (show (8 - x27.toInt).toNat < n44 by first | exact tn_lt hm44 (by omega) (by omega) | omega) hw hT hF hM (lv_sub hl [2, 3, 4, 5, 6, 1, 0] rfl)
      replace hM := hM.suc (fun _ => e_X7_openHours_44)
      refine lv_iload hx hb dX7_openHours_44 (lv_at hl 5 rfl) ?_
      refine lv_if_eq (tgt := 93) hx hb dX7_openHours_46 (by decide) (fun c28 => ?_) (fun c28 => ?_)
      · have c28 : v44_6.toInt = (0 : Int) := wk_eq.mp c28
        replace hM := hM.pos c28
        exact J93 v44_6 v44_7 H locs ls w12 (show 0 ≤ a1.toInt from r13) (show a1.toInt ≤ 12 from t14) (show 0 ≤ a3.toInt from r15) (show a3.toInt ≤ 4249 from t16) (show 0 ≤ v44_7.toInt from r17) (show v44_7.toInt ≤ 8 from t18)  hw hT hF hM (lv_sub hl [0, 1, 2, 3, 4, 5, 6] rfl)
      · have c28 : ¬ v44_6.toInt = (0 : Int) := wk_eqF c28
        replace hM := hM.neg c28
        refine lv_iload hx hb dX7_openHours_49 (lv_at hl 6 rfl) ?_
        refine lv_bipush (v := 8) hx hb dX7_openHours_51 (by decide) ?_
        refine lv_icmp_ge (tgt := 93) hx hb dX7_openHours_53 (by decide) (fun c29 => ?_) (fun c29 => ?_)
        · have c29 : (8 : Int) ≤ v44_7.toInt := wk_le.mp c29
          replace hM := hM.pos c29
          exact J93 v44_6 v44_7 H locs ls w12 (show 0 ≤ a1.toInt from r13) (show a1.toInt ≤ 12 from t14) (show 0 ≤ a3.toInt from r15) (show a3.toInt ≤ 4249 from t16) (show 0 ≤ v44_7.toInt from r17) (show v44_7.toInt ≤ 8 from t18)  hw hT hF hM (lv_sub hl [0, 1, 2, 3, 4, 5, 6] rfl)
        · have c29 : v44_7.toInt < (8 : Int) := wk_leF c29
          replace hM := hM.neg (Int.not_le.mpr c29)
          refine lv_iload hx hb dX7_openHours_56 (lv_at hl 5 rfl) ?_
          refine lv_iconst (v := 1) hx hb dX7_openHours_58 (by decide) ?_
          refine lv_iand hx hb dX7_openHours_59 ?_
          refine lv_topi (fun x30 ex30 => ?_)
          have ezx30 := ex30
          have bx30 : 0 ≤ x30.toInt ∧ x30.toInt ≤ (1 : Int) := by rw [ex30]; exact wk_and (by decide)
          replace hM := hM.lt (o32_e (f := fun x y => x &&& y) ezx30 rfl (by decide))
          refine lv_if_eq (tgt := 81) hx hb dX7_openHours_60 (by decide) (fun c31 => ?_) (fun c31 => ?_)
          · have c31 : x30.toInt = (0 : Int) := wk_eq.mp c31
            replace hM := hM.pos c31
            exact J81  H locs ls w12 (show 0 ≤ a1.toInt from r13) (show a1.toInt ≤ 12 from t14) (show 0 ≤ a3.toInt from r15) (show a3.toInt ≤ 4249 from t16) (show 0 ≤ v44_7.toInt from r17) (show v44_7.toInt ≤ 7 by first | with_reducible assumption | omega)  hw hT hF hM (lv_sub hl [0, 1, 2, 3, 4, 5, 6] rfl)
          · have c31 : ¬ x30.toInt = (0 : Int) := wk_eqF c31
            replace hM := hM.neg c31
            refine lv_aload_n hx hb dX7_openHours_63 rfl (lv_at hl 0 rfl) ?_
            refine tk_getO hC hK hw hT hinX7 kC_at39 (by decide) rfl 6 (by decide) (List.mem_cons_of_mem _ uw_2_23) rfl rfl dX7_openHours_64 ?_
            refine lv_iload hx hb dX7_openHours_67 (lv_at hl 6 rfl) ?_
            refine tk_iald hC hK hw hT kC_at46 rfl rfl (show 0 ≤ v44_7.toInt from r17) (show v44_7.toInt < 8 by first | with_reducible assumption | omega) dX7_openHours_69 (fun x32 c33 rx32 tx32 => ?_)
            have hox32 := c33
            replace hM := hM.rd (sI_at hox32)
            refine lv_lload_n hx hb dX7_openHours_70 rfl (lv_at hl 3 rfl) ?_
            refine lv_ldc2 (v := 360) hx hb hC.2.2.2.1 (hC.2.2.2.2 _ (List.mem_cons_of_mem _ uw_31_16)) dX7_openHours_71 ?_
            refine lv_lrem hx hb dX7_openHours_74 (by decide) ?_
            refine lv_topl (fun x34 ex34 => ?_)
            have ezx34 := ex34
            have ex34 : x34.toInt = a3.toInt % (360 : Int) := by rw [ex34]; exact wk_reml (show 0 ≤ a3.toInt from r15) (show 0 < (360 : Int) by decide)
            replace hM := hM.lt ex34.symm
            refine lv_l2i hx hb dX7_openHours_75 rfl ?_
            refine lv_topi (fun x35 ex35 => ?_)
            have ex35 : x35.toInt = x34.toInt := by rw [ex35]; exact wk_l2i (by omega) (by omega)
            replace hM := hM.lt ex35.symm
            refine lv_icmp_ne (tgt := 81) hx hb dX7_openHours_76 (by decide) (fun c36 => ?_) (fun c36 => ?_)
            · have c36 : ¬ x32.toInt = x35.toInt := wk_eqF c36
              replace hM := hM.pos c36
              exact J81  H locs ls w12 (show 0 ≤ a1.toInt from r13) (show a1.toInt ≤ 12 from t14) (show 0 ≤ a3.toInt from r15) (show a3.toInt ≤ 4249 from t16) (show 0 ≤ v44_7.toInt from r17) (show v44_7.toInt ≤ 7 by first | with_reducible assumption | omega)  hw hT hF hM (lv_sub hl [0, 1, 2, 3, 4, 5, 6] rfl)
            · have c36 : x32.toInt = x35.toInt := wk_eq.mp c36
              replace hM := hM.neg (fun q => q c36)
              refine lv_iconst (v := 0) hx hb dX7_openHours_79 (by decide) ?_
              exact tk_iret hC hr hlocks hK ⟨hT, hF, hM.ret (by decide), ⟨(by decide), (by decide)⟩⟩ hw dX7_openHours_80
  have hM : TT (fun n => m_X7_openHours n 39 a1.toInt 0 a3.toInt 1 (sI w0)) (fun n => m_X7_openHours n 39 a1.toInt 0 a3.toInt 1 (sI w0)) := TT.rf
  refine lv_aload_n hx hb dX7_openHours_0 rfl (lv_at hl 0 rfl) ?_
  refine tk_getO hC hK hw hT hinX7 kC_at39 (by decide) rfl 4 (by decide) (List.mem_cons_of_mem _ uw_2_21) rfl rfl dX7_openHours_1 ?_
  refine lv_iconst (v := 2) hx hb dX7_openHours_4 (by decide) ?_
  refine lv_iload_n hx hb dX7_openHours_5 rfl (lv_at hl 1 rfl) ?_
  refine lv_imul hx hb dX7_openHours_6 ?_
  refine lv_topi (fun x37 ex37 => ?_)
  have ezx37 := ex37
  have ex37 : x37.toInt = (2 : Int) * a1.toInt := by rw [ex37]; exact wk_mul (show (-2147483648) ≤ (2 : Int) * a1.toInt by omega) (show (2 : Int) * a1.toInt ≤ 2147483647 by omega)
  replace hM := hM.lt ex37.symm
  refine lv_iload_n hx hb dX7_openHours_7 rfl (lv_at hl 2 rfl) ?_
  refine lv_iadd hx hb dX7_openHours_8 ?_
  refine lv_topi (fun x38 ex38 => ?_)
  have ezx38 := ex38
  have ex38 : x38.toInt = x37.toInt + (0 : Int) := by rw [ex38]; exact wk_add (show (-2147483648) ≤ x37.toInt + (0 : Int) by omega) (show x37.toInt + (0 : Int) ≤ 2147483647 by omega)
  replace hM := hM.lt ex38.symm
  refine tk_iald hC hK hw hT kC_at44 rfl rfl (show 0 ≤ x38.toInt by first | with_reducible assumption | omega) (show x38.toInt < 26 by first | with_reducible assumption | omega) dX7_openHours_9 (fun x39 c40 rx39 tx39 => ?_)
  have hox39 := c40
  replace hM := hM.rd (sI_at hox39)
  refine lv_lload_n hx hb dX7_openHours_10 rfl (lv_at hl 3 rfl) ?_
  refine lv_ldc2 (v := 7) hx hb hC.2.2.2.1 (hC.2.2.2.2 _ (List.mem_cons_of_mem _ uw_31_15)) dX7_openHours_11 ?_
  refine lv_lrem hx hb dX7_openHours_14 (by decide) ?_
  refine lv_topl (fun x41 ex41 => ?_)
  have ezx41 := ex41
  have ex41 : x41.toInt = a3.toInt % (7 : Int) := by rw [ex41]; exact wk_reml (show 0 ≤ a3.toInt from ra3) (show 0 < (7 : Int) by decide)
  replace hM := hM.lt ex41.symm
  refine lv_l2i hx hb dX7_openHours_15 rfl ?_
  refine lv_topi (fun x42 ex42 => ?_)
  have ex42 : x42.toInt = x41.toInt := by rw [ex42]; exact wk_l2i (by omega) (by omega)
  replace hM := hM.lt ex42.symm
  refine lv_ishr hx hb dX7_openHours_16 ?_
  refine lv_topi (fun x43 ex43 => ?_)
  have ezx43 := ex43
  replace hM := hM.lt (o32_e (f := fun x y => x >>> (y &&& 31)) ezx43 rfl rfl)
  refine lv_iconst (v := 1) hx hb dX7_openHours_17 (by decide) ?_
  refine lv_iand hx hb dX7_openHours_18 ?_
  refine lv_topi (fun x44 ex44 => ?_)
  have ezx44 := ex44
  have bx44 : 0 ≤ x44.toInt ∧ x44.toInt ≤ (1 : Int) := by rw [ex44]; exact wk_and (by decide)
  replace hM := hM.lt (o32_e (f := fun x y => x &&& y) ezx44 rfl (by decide))
  refine lv_if_ne (tgt := 24) hx hb dX7_openHours_19 (by decide) (fun c45 => ?_) (fun c45 => ?_)
  · have c45 : ¬ x44.toInt = (0 : Int) := wk_eqF c45
    replace hM := hM.pos c45
    refine lv_iload hx hb dX7_openHours_24 (lv_at hl 4 rfl) ?_
    refine lv_if_eq (tgt := 38) hx hb dX7_openHours_26 (by decide) (fun c => absurd c (by decide)) (fun _ => ?_)
    replace hM := hM.neg (by decide)
    refine lv_aload_n hx hb dX7_openHours_29 rfl (lv_at hl 0 rfl) ?_
    refine tk_getO hC hK hw hT hinX7 kC_at39 (by decide) rfl 7 (by decide) (List.mem_cons_of_mem _ uw_3_0) rfl rfl dX7_openHours_30 ?_
    refine lv_iload_n hx hb dX7_openHours_33 rfl (lv_at hl 1 rfl) ?_
    refine tk_iald hC hK hw hT kC_at47 rfl rfl (show 0 ≤ a1.toInt from ra1) (show a1.toInt < 13 from Int.lt_of_le_of_lt ta1 (by decide)) dX7_openHours_34 (fun x46 c47 rx46 tx46 => ?_)
    have hox46 := c47
    replace hM := hM.rd (sI_at hox46)
    refine lv_goto (tgt := 39) hx hb dX7_openHours_35 (by decide) ?_
    refine lv_istore (lv' := [(6, .int x46), (0, .ref (ad 39)), (1, .int a1), (2, .int 0), (3, .long a3), (5, .int 1)]) hx hb dX7_openHours_39 hl (by decide) rfl (fun ls hl => ?_)
    refine lv_iconst (v := 0) hx hb dX7_openHours_41 (by decide) ?_
    refine lv_istore (lv' := [(7, .int 0), (6, .int x46), (0, .ref (ad 39)), (1, .int a1), (2, .int 0), (3, .long a3), (5, .int 1)]) hx hb dX7_openHours_42 hl (by decide) rfl (fun ls hl => ?_)
    exact L44 ((8 - (0 : Int)).toNat + 1) x46 0 s.heap locs ls w0 (show 0 ≤ a1.toInt from ra1) (show a1.toInt ≤ 12 from ta1) (show 0 ≤ a3.toInt from ra3) (show a3.toInt ≤ 4249 from ta3) (by decide) (by decide) (Nat.lt_succ_self _) hw hT hF hM (lv_sub hl [2, 3, 4, 5, 6, 1, 0] rfl)
  · have c45 : x44.toInt = (0 : Int) := wk_eq.mp c45
    replace hM := hM.neg (fun q => q c45)
    refine lv_iconst (v := 0) hx hb dX7_openHours_22 (by decide) ?_
    exact tk_iret hC hr hlocks hK ⟨hT, hF, hM.ret (by decide), ⟨(by decide), (by decide)⟩⟩ hw dX7_openHours_23
abbrev Pz_X7_isNeverOpen_1 (ad : Nat → Nat) (cy : Nat → ClassId) (B : Int) (qr : Nat) (s1 : Int) (a1 : Int32) (w0 : va_W) : Int32 → va_W → Prop := fun r u => TW ksC ad cy B qr s1 u ∧ FE ksC ([] : List (Nat × Nat × Nat)) w0 u ∧ Ev (fun n => m_X7_isNeverOpen n 39 a1.toInt 0 (sI w0)) (r.toInt, sI u) ∧ ((r = 0) ∨ (r = 1))
set_option maxHeartbeats 4000000 in
set_option maxRecDepth 100000 in
theorem kz_X7_isNeverOpen_1 (l : Launch) (adK adV : Nat → Nat) (dC : Nat → ClassId) (dI : Nat → Nat → Nat) (cy : Nat → ClassId) (ad : Nat → Nat) (B : Int) (hB0 : 2147483648 ≤ B) (hB1 : B ≤ 1152921504606846976) (qr : Nat) (s1 : Int)  (a1 : Int32) (ra1 : 0 ≤ a1.toInt) (ta1 : a1.toInt ≤ 12) (w0 : va_W) (sz : Nat) (hT : TW ksC ad cy B qr s1 w0)  : Met l yX7_isNeverOpen (wu yX7_isNeverOpen cX7_isNeverOpen 3 (some .boolean)) ({ frames := 1, cells := 0, slots := 0, locals := 12 }) (va_Pc [.ref (ad 39), .int a1, .int 0] (wpreS adK adV dC dI cy sz w0)) (va_Qi (Pz_X7_isNeverOpen_1 ad cy B qr s1 a1 w0) (fun u : va_W => wpost dC dI cy (va_A w0 sz) u) (va_A w0 sz)) 0 0 (va_A w0 sz) := by
  refine Met.ofW (cc := cX7_isNeverOpen) (maxL := 3) (ret := (some .boolean)) (by decide) rfl ?_
  intro p e s m args below meth c s₁ Bk hml hv
  obtain ⟨rfl, ⟨hsz, hP, hK, hD0⟩, hE, hSR⟩ := hv
  have hx := Bk.exec
  have hb := Bk.bytes
  have hr := Bk.returns
  have hlocks := Bk.notSynchronized
  have hC : CallFix p m c cX7_isNeverOpen 3 s _ (wu yX7_isNeverOpen cX7_isNeverOpen 3 (some .boolean)) RX7 := ⟨hx, hb, hml, findClass_of_methodNamed Bk.named, atoms_spec (ws := (wu yX7_isNeverOpen cX7_isNeverOpen 3 (some .boolean))) Bk.pre⟩
  subst hsz
  have hD := hD0.self (sz := s.heap.size)
  generalize hAe : va_A w0 s.heap.size = A at hD hE ⊢
  have hA : ∀ q : Nat, s.heap.size ≤ q → A q := fun q h => by rw [← hAe]; exact Or.inr h
  have hw : Wd dC dI A s.heap s.heap [] w0 := ⟨hP, hD, va_S.rf⟩
  have hF : FE ksC ([] : List (Nat × Nat × Nat)) w0 w0 := FE.rf
  have hl := lv_entry ([.ref (ad 39), .int a1, .int 0]) (n := 3) (Nat.le_of_ble_eq_true rfl)
  rw [lg_entry_eq]
  generalize (lg_sl ([.ref (ad 39), .int a1, .int 0]) ++ List.replicate (3 - (lg_sl ([.ref (ad 39), .int a1, .int 0])).length) Slot.unset).toArray = ls at hl ⊢
  have hl : lv_has ls 3 [(0, .ref (ad 39)), (1, .int a1), (2, .int 0)] := hl
  generalize hloc : ([] : List Loc) = locs at hw ⊢
  have hinX7 : ∀ w ∈ u_ws RX7 TX7 12, w ∈ (wu yX7_isNeverOpen cX7_isNeverOpen 3 (some .boolean)) := fun _ h => List.mem_cons_of_mem _ (up_73 h)
  have J24 : ∀ (H : Heap) (locs : List Loc) (ls : Array Slot) (w1 : va_W), 0 ≤ a1.toInt → a1.toInt ≤ 12 → Wd dC dI A s.heap H locs w1 → TW ksC ad cy B qr s1 w1 → FE ksC ([] : List (Nat × Nat × Nat)) w0 w1 → TT (fun n => m_X7_isNeverOpen n 39 a1.toInt 0 (sI w0)) (fun n => b_X7_isNeverOpen_24 n 39 (sI w1)) → lv_has ls 3 [(0, .ref (ad 39)), (1, .int a1), (2, .int 0)] → W p l e ({ frames := 1, cells := 0, slots := 0, locals := 12 }) s m (List.toArray [.ref (ad 39), .int a1, .int 0]) below meth c H locs 0 0 (MQ below (va_Qi (Pz_X7_isNeverOpen_1 ad cy B qr s1 a1 w0) (fun u : va_W => wpost dC dI cy A u) A) (List.toArray [.ref (ad 39), .int a1, .int 0]) s 0 0 A) (F0 m 24 ls []) := by
    intro H locs ls w1 r2 t3 hw hT hF hM hl
    refine lv_iconst (v := 1) hx hb dX7_isNeverOpen_24 (by decide) ?_
    refine lv_goto (tgt := 29) hx hb dX7_isNeverOpen_25 (by decide) ?_
    exact tk_zret hC hr rfl hlocks hK ⟨hT, hF, hM.ret (by decide), (Or.inr rfl)⟩ hw dX7_isNeverOpen_29
  have hM : TT (fun n => m_X7_isNeverOpen n 39 a1.toInt 0 (sI w0)) (fun n => m_X7_isNeverOpen n 39 a1.toInt 0 (sI w0)) := TT.rf
  refine lv_aload_n hx hb dX7_isNeverOpen_0 rfl (lv_at hl 0 rfl) ?_
  refine tk_getO hC hK hw hT hinX7 kC_at39 (by decide) rfl 4 (by decide) (List.mem_cons_of_mem _ uw_2_21) rfl rfl dX7_isNeverOpen_1 ?_
  refine lv_iconst (v := 2) hx hb dX7_isNeverOpen_4 (by decide) ?_
  refine lv_iload_n hx hb dX7_isNeverOpen_5 rfl (lv_at hl 1 rfl) ?_
  refine lv_imul hx hb dX7_isNeverOpen_6 ?_
  refine lv_topi (fun x4 ex4 => ?_)
  have ezx4 := ex4
  have ex4 : x4.toInt = (2 : Int) * a1.toInt := by rw [ex4]; exact wk_mul (show (-2147483648) ≤ (2 : Int) * a1.toInt by omega) (show (2 : Int) * a1.toInt ≤ 2147483647 by omega)
  replace hM := hM.lt ex4.symm
  refine lv_iload_n hx hb dX7_isNeverOpen_7 rfl (lv_at hl 2 rfl) ?_
  refine lv_iadd hx hb dX7_isNeverOpen_8 ?_
  refine lv_topi (fun x5 ex5 => ?_)
  have ezx5 := ex5
  have ex5 : x5.toInt = x4.toInt + (0 : Int) := by rw [ex5]; exact wk_add (show (-2147483648) ≤ x4.toInt + (0 : Int) by omega) (show x4.toInt + (0 : Int) ≤ 2147483647 by omega)
  replace hM := hM.lt ex5.symm
  refine tk_iald hC hK hw hT kC_at44 rfl rfl (show 0 ≤ x5.toInt by first | with_reducible assumption | omega) (show x5.toInt < 26 by first | with_reducible assumption | omega) dX7_isNeverOpen_9 (fun x6 c7 rx6 tx6 => ?_)
  have hox6 := c7
  replace hM := hM.rd (sI_at hox6)
  refine lv_if_eq (tgt := 24) hx hb dX7_isNeverOpen_10 (by decide) (fun c8 => ?_) (fun c8 => ?_)
  · have c8 : x6.toInt = (0 : Int) := wk_eq.mp c8
    replace hM := hM.pos c8
    exact J24  s.heap locs ls w0 (show 0 ≤ a1.toInt from ra1) (show a1.toInt ≤ 12 from ta1)  hw hT hF hM (lv_sub hl [0, 1, 2] rfl)
  · have c8 : ¬ x6.toInt = (0 : Int) := wk_eqF c8
    replace hM := hM.neg c8
    refine lv_aload_n hx hb dX7_isNeverOpen_13 rfl (lv_at hl 0 rfl) ?_
    refine tk_getO hC hK hw hT hinX7 kC_at39 (by decide) rfl 3 (by decide) (List.mem_cons_of_mem _ uw_2_20) rfl rfl dX7_isNeverOpen_14 ?_
    refine lv_iload_n hx hb dX7_isNeverOpen_17 rfl (lv_at hl 1 rfl) ?_
    refine tk_iald hC hK hw hT kC_at43 rfl rfl (show 0 ≤ a1.toInt from ra1) (show a1.toInt < 13 from Int.lt_of_le_of_lt ta1 (by decide)) dX7_isNeverOpen_18 (fun x9 c10 rx9 tx9 => ?_)
    have hox9 := c10
    replace hM := hM.rd (sI_at hox9)
    refine lv_ldc (v := 16777215) hx hb hC.2.2.2.1 (hC.2.2.2.2 _ (List.mem_cons_of_mem _ uw_31_17)) dX7_isNeverOpen_19 ?_
    refine lv_icmp_ne (tgt := 28) hx hb dX7_isNeverOpen_21 (by decide) (fun c11 => ?_) (fun c11 => ?_)
    · have c11 : ¬ x9.toInt = (16777215 : Int) := wk_eqF c11
      replace hM := hM.pos c11
      refine lv_iconst (v := 0) hx hb dX7_isNeverOpen_28 (by decide) ?_
      exact tk_zret hC hr rfl hlocks hK ⟨hT, hF, hM.ret (by decide), (Or.inl rfl)⟩ hw dX7_isNeverOpen_29
    · have c11 : x9.toInt = (16777215 : Int) := wk_eq.mp c11
      replace hM := hM.neg (fun q => q c11)
      exact J24  s.heap locs ls w0 (show 0 ≤ a1.toInt from ra1) (show a1.toInt ≤ 12 from ta1)  hw hT hF hM (lv_sub hl [0, 1, 2] rfl)
abbrev Pz_X7_firstOpen_1 (ad : Nat → Nat) (cy : Nat → ClassId) (B : Int) (qr : Nat) (s1 : Int) (a1 : Int32) (a3 : Int32) (a4 : Int32) (w0 : va_W) : Int32 → va_W → Prop := fun r u => TW ksC ad cy B qr s1 u ∧ FE ksC ([] : List (Nat × Nat × Nat)) w0 u ∧ Ev (fun n => m_X7_firstOpen n 39 a1.toInt 0 a3.toInt a4.toInt (sI w0)) (r.toInt, sI u) ∧ ((0 ≤ r.toInt ∧ r.toInt ≤ 101999) ∨ (r = (-1)))
set_option maxHeartbeats 4000000 in
set_option maxRecDepth 100000 in
theorem kz_X7_firstOpen_1 (l : Launch) (adK adV : Nat → Nat) (dC : Nat → ClassId) (dI : Nat → Nat → Nat) (cy : Nat → ClassId) (ad : Nat → Nat) (B : Int) (hB0 : 2147483648 ≤ B) (hB1 : B ≤ 1152921504606846976) (qr : Nat) (s1 : Int)  (a1 : Int32) (ra1 : 0 ≤ a1.toInt) (ta1 : a1.toInt ≤ 12) (a3 : Int32) (ra3 : (-1) ≤ a3.toInt) (ta3 : a3.toInt ≤ 102119) (a4 : Int32) (ra4 : 1991 ≤ a4.toInt) (ta4 : a4.toInt ≤ 101999) (w0 : va_W) (sz : Nat) (hT : TW ksC ad cy B qr s1 w0)  : Met l yX7_firstOpen (wu yX7_firstOpen cX7_firstOpen 10 (some .int)) ({ frames := 2, cells := 0, slots := 0, locals := 39 }) (va_Pc [.ref (ad 39), .int a1, .int 0, .int a3, .int a4] (wpreS adK adV dC dI cy sz w0)) (va_Qi (Pz_X7_firstOpen_1 ad cy B qr s1 a1 a3 a4 w0) (fun u : va_W => wpost dC dI cy (va_A w0 sz) u) (va_A w0 sz)) 0 0 (va_A w0 sz) := by
  refine Met.ofW (cc := cX7_firstOpen) (maxL := 10) (ret := (some .int)) (by decide) rfl ?_
  intro p e s m args below meth c s₁ Bk hml hv
  obtain ⟨rfl, ⟨hsz, hP, hK, hD0⟩, hE, hSR⟩ := hv
  have hx := Bk.exec
  have hb := Bk.bytes
  have hr := Bk.returns
  have hlocks := Bk.notSynchronized
  have hC : CallFix p m c cX7_firstOpen 10 s _ (wu yX7_firstOpen cX7_firstOpen 10 (some .int)) RX7 := ⟨hx, hb, hml, findClass_of_methodNamed Bk.named, atoms_spec (ws := (wu yX7_firstOpen cX7_firstOpen 10 (some .int))) Bk.pre⟩
  subst hsz
  have hD := hD0.self (sz := s.heap.size)
  generalize hAe : va_A w0 s.heap.size = A at hD hE ⊢
  have hA : ∀ q : Nat, s.heap.size ≤ q → A q := fun q h => by rw [← hAe]; exact Or.inr h
  have hw : Wd dC dI A s.heap s.heap [] w0 := ⟨hP, hD, va_S.rf⟩
  have hF : FE ksC ([] : List (Nat × Nat × Nat)) w0 w0 := FE.rf
  have hl := lv_entry ([.ref (ad 39), .int a1, .int 0, .int a3, .int a4]) (n := 10) (Nat.le_of_ble_eq_true rfl)
  rw [lg_entry_eq]
  generalize (lg_sl ([.ref (ad 39), .int a1, .int 0, .int a3, .int a4]) ++ List.replicate (10 - (lg_sl ([.ref (ad 39), .int a1, .int 0, .int a3, .int a4])).length) Slot.unset).toArray = ls at hl ⊢
  have hl : lv_has ls 10 [(0, .ref (ad 39)), (1, .int a1), (2, .int 0), (3, .int a3), (4, .int a4)] := hl
  generalize hloc : ([] : List Loc) = locs at hw ⊢
  have L25 : ∀ (n25 : Nat) (v25_5 : Int32) (v25_6 : Int32) (H : Heap) (locs : List Loc) (ls : Array Slot) (w1 : va_W), 0 ≤ a1.toInt → a1.toInt ≤ 12 → (-1) ≤ a3.toInt → a3.toInt ≤ 102119 → 1991 ≤ a4.toInt → a4.toInt ≤ 101999 → 0 ≤ v25_6.toInt → v25_6.toInt ≤ 4254 → (4254 - v25_6.toInt).toNat < n25 → Wd dC dI A s.heap H locs w1 → TW ksC ad cy B qr s1 w1 → FE ksC ([] : List (Nat × Nat × Nat)) w0 w1 → TT (fun n => m_X7_firstOpen n 39 a1.toInt 0 a3.toInt a4.toInt (sI w0)) (fun n => j_X7_firstOpen 39 n 25 [a1.toInt, (0 : Int), a4.toInt, v25_5.toInt, v25_6.toInt] (sI w1)) → lv_has ls 10 [(0, .ref (ad 39)), (1, .int a1), (2, .int 0), (3, .int a3), (4, .int a4), (5, .int v25_5), (6, .int v25_6)] → W p l e ({ frames := 2, cells := 0, slots := 0, locals := 39 }) s m (List.toArray [.ref (ad 39), .int a1, .int 0, .int a3, .int a4]) below meth c H locs 0 0 (MQ below (va_Qi (Pz_X7_firstOpen_1 ad cy B qr s1 a1 a3 a4 w0) (fun u : va_W => wpost dC dI cy A u) A) (List.toArray [.ref (ad 39), .int a1, .int 0, .int a3, .int a4]) s 0 0 A) (F0 m 25 ls []) := by
    intro n25
    induction n25 with
    | zero => intro v25_5 v25_6 H locs ls w1 r2 t3 r4 t5 r6 t7 r8 t9 hm25 hw hT hF hM hl; omega
    | succ n25 ih25 =>
      intro v25_5 v25_6 H locs ls w1 r2 t3 r4 t5 r6 t7 r8 t9 hm25 hw hT hF hM hl
      have J108 : ∀ (v108_7 : Int32) (v108_8 : Int32) (H : Heap) (locs : List Loc) (ls : Array Slot) (w10 : va_W), 0 ≤ a1.toInt → a1.toInt ≤ 12 → (-1) ≤ a3.toInt → a3.toInt ≤ 102119 → 1991 ≤ a4.toInt → a4.toInt ≤ 101999 → 0 ≤ v25_6.toInt → v25_6.toInt ≤ 4249 → 0 ≤ v108_7.toInt → v108_7.toInt ≤ 16777215 → 0 ≤ v108_8.toInt → v108_8.toInt ≤ 24 → Wd dC dI A s.heap H locs w10 → TW ksC ad cy B qr s1 w10 → FE ksC ([] : List (Nat × Nat × Nat)) w0 w10 → TT (fun n => m_X7_firstOpen n 39 a1.toInt 0 a3.toInt a4.toInt (sI w0)) (fun n => b_X7_firstOpen_108 (j_X7_firstOpen 39 n) n 39 (a1.toInt) (0 : Int) (a4.toInt) (-1 : Int) (v25_6.toInt) (sI w10)) → lv_has ls 10 [(0, .ref (ad 39)), (1, .int a1), (2, .int 0), (3, .int a3), (4, .int a4), (5, .int (-1)), (6, .int v25_6), (7, .int v108_7), (8, .int v108_8)] → W p l e ({ frames := 2, cells := 0, slots := 0, locals := 39 }) s m (List.toArray [.ref (ad 39), .int a1, .int 0, .int a3, .int a4]) below meth c H locs 0 0 (MQ below (va_Qi (Pz_X7_firstOpen_1 ad cy B qr s1 a1 a3 a4 w0) (fun u : va_W => wpost dC dI cy A u) A) (List.toArray [.ref (ad 39), .int a1, .int 0, .int a3, .int a4]) s 0 0 A) (F0 m 108 ls []) := by
        intro v108_7 v108_8 H locs ls w10 r11 t12 r13 t14 r15 t16 r17 t18 r19 t20 r21 t22 hw hT hF hM hl
        obtain ⟨x23, ex23⟩ : ∃ y : Int32, y = v25_6 + Int32.ofInt 1 := ⟨_, rfl⟩
        have erx23 := ex23
        refine lv_iinc (v := x23) (lv' := [(6, .int x23), (0, .ref (ad 39)), (1, .int a1), (2, .int 0), (3, .int a3), (4, .int a4), (5, .int (-1)), (7, .int v108_7), (8, .int v108_8)]) hx hb dX7_firstOpen_108 hl (k := 6) rfl ex23.symm (by decide) rfl (fun ls hl => ?_)
        have ex23 : x23.toInt = v25_6.toInt + 1 := by rw [ex23]; exact wk_add (y := 1) (show -2147483648 ≤ v25_6.toInt + 1 by omega) (show v25_6.toInt + 1 ≤ 2147483647 by omega)
        replace hM := hM.lt ex23.symm
        refine lv_goto (tgt := 25) hx hb dX7_firstOpen_111 (by decide) ?_
        exact ih25 (-1) x23 H locs ls w10 (show 0 ≤ a1.toInt from r11) (show a1.toInt ≤ 12 from t12) (show (-1) ≤ a3.toInt from r13) (show a3.toInt ≤ 102119 from t14) (show 1991 ≤ a4.toInt from r15) (show a4.toInt ≤ 101999 from t16) (show 0 ≤ x23.toInt by first | with_reducible assumption | omega) (show x23.toInt ≤ 4254 by first | with_reducible assumption | omega) (show (4254 - x23.toInt).toNat < n25 by first | exact tn_lt hm25 (by omega) (by omega) | omega) hw hT hF hM (lv_sub hl [1, 2, 3, 4, 5, 6, 0] rfl)
      have L56 : ∀ (n56 : Nat) (v56_7 : Int32) (v56_8 : Int32) (H : Heap) (locs : List Loc) (ls : Array Slot) (w24 : va_W), 0 ≤ a1.toInt → a1.toInt ≤ 12 → (-1) ≤ a3.toInt → a3.toInt ≤ 102119 → 1991 ≤ a4.toInt → a4.toInt ≤ 101999 → 0 ≤ v25_6.toInt → v25_6.toInt ≤ 4249 → 0 ≤ v56_7.toInt → v56_7.toInt ≤ 16777215 → 0 ≤ v56_8.toInt → v56_8.toInt ≤ 24 → (24 - v56_8.toInt).toNat < n56 → Wd dC dI A s.heap H locs w24 → TW ksC ad cy B qr s1 w24 → FE ksC ([] : List (Nat × Nat × Nat)) w0 w24 → TT (fun n => m_X7_firstOpen n 39 a1.toInt 0 a3.toInt a4.toInt (sI w0)) (fun n => j_X7_firstOpen 39 n 56 [a1.toInt, (0 : Int), a4.toInt, (-1 : Int), v25_6.toInt, v56_7.toInt, v56_8.toInt] (sI w24)) → lv_has ls 10 [(0, .ref (ad 39)), (1, .int a1), (2, .int 0), (3, .int a3), (4, .int a4), (5, .int (-1)), (6, .int v25_6), (7, .int v56_7), (8, .int v56_8)] → W p l e ({ frames := 2, cells := 0, slots := 0, locals := 39 }) s m (List.toArray [.ref (ad 39), .int a1, .int 0, .int a3, .int a4]) below meth c H locs 0 0 (MQ below (va_Qi (Pz_X7_firstOpen_1 ad cy B qr s1 a1 a3 a4 w0) (fun u : va_W => wpost dC dI cy A u) A) (List.toArray [.ref (ad 39), .int a1, .int 0, .int a3, .int a4]) s 0 0 A) (F0 m 56 ls []) := by
        intro n56
        induction n56 with
        | zero => intro v56_7 v56_8 H locs ls w24 r25 t26 r27 t28 r29 t30 r31 t32 r33 t34 r35 t36 hm56 hw hT hF hM hl; omega
        | succ n56 ih56 =>
          intro v56_7 v56_8 H locs ls w24 r25 t26 r27 t28 r29 t30 r31 t32 r33 t34 r35 t36 hm56 hw hT hF hM hl
          replace hM := hM.suc (fun _ => e_X7_firstOpen_56)
          refine lv_iload hx hb dX7_firstOpen_56 (lv_at hl 7 rfl) ?_
          refine lv_if_eq (tgt := 108) hx hb dX7_firstOpen_58 (by decide) (fun c37 => ?_) (fun c37 => ?_)
          · have c37 : v56_7.toInt = (0 : Int) := wk_eq.mp c37
            replace hM := hM.pos c37
            exact J108 v56_7 v56_8 H locs ls w24 (show 0 ≤ a1.toInt from r25) (show a1.toInt ≤ 12 from t26) (show (-1) ≤ a3.toInt from r27) (show a3.toInt ≤ 102119 from t28) (show 1991 ≤ a4.toInt from r29) (show a4.toInt ≤ 101999 from t30) (show 0 ≤ v25_6.toInt from r31) (show v25_6.toInt ≤ 4249 from t32) (show 0 ≤ v56_7.toInt from r33) (show v56_7.toInt ≤ 16777215 from t34) (show 0 ≤ v56_8.toInt from r35) (show v56_8.toInt ≤ 24 from t36)  hw hT hF hM (lv_sub hl [0, 1, 2, 3, 4, 5, 6, 7, 8] rfl)
          · have c37 : ¬ v56_7.toInt = (0 : Int) := wk_eqF c37
            replace hM := hM.neg c37
            refine lv_iload hx hb dX7_firstOpen_61 (lv_at hl 8 rfl) ?_
            refine lv_bipush (v := 24) hx hb dX7_firstOpen_63 (by decide) ?_
            refine lv_icmp_ge (tgt := 108) hx hb dX7_firstOpen_65 (by decide) (fun c38 => ?_) (fun c38 => ?_)
            · have c38 : (24 : Int) ≤ v56_8.toInt := wk_le.mp c38
              replace hM := hM.pos c38
              exact J108 v56_7 v56_8 H locs ls w24 (show 0 ≤ a1.toInt from r25) (show a1.toInt ≤ 12 from t26) (show (-1) ≤ a3.toInt from r27) (show a3.toInt ≤ 102119 from t28) (show 1991 ≤ a4.toInt from r29) (show a4.toInt ≤ 101999 from t30) (show 0 ≤ v25_6.toInt from r31) (show v25_6.toInt ≤ 4249 from t32) (show 0 ≤ v56_7.toInt from r33) (show v56_7.toInt ≤ 16777215 from t34) (show 0 ≤ v56_8.toInt from r35) (show v56_8.toInt ≤ 24 from t36)  hw hT hF hM (lv_sub hl [0, 1, 2, 3, 4, 5, 6, 7, 8] rfl)
            · have c38 : v56_8.toInt < (24 : Int) := wk_leF c38
              replace hM := hM.neg (Int.not_le.mpr c38)
              refine lv_iload hx hb dX7_firstOpen_68 (lv_at hl 7 rfl) ?_
              refine lv_iload hx hb dX7_firstOpen_70 (lv_at hl 8 rfl) ?_
              refine lv_ishr hx hb dX7_firstOpen_72 ?_
              refine lv_topi (fun x39 ex39 => ?_)
              have ezx39 := ex39
              have bx39 : 0 ≤ x39.toInt ∧ x39.toInt ≤ v56_7.toInt := by rw [ex39]; exact wk_shr (by omega)
              replace hM := hM.lt (o32_e (f := fun x y => x >>> (y &&& 31)) ezx39 rfl rfl)
              refine lv_iconst (v := 1) hx hb dX7_firstOpen_73 (by decide) ?_
              refine lv_iand hx hb dX7_firstOpen_74 ?_
              refine lv_topi (fun x40 ex40 => ?_)
              have ezx40 := ex40
              have bx40 : 0 ≤ x40.toInt ∧ x40.toInt ≤ (1 : Int) := by rw [ex40]; exact wk_and (by decide)
              replace hM := hM.lt (o32_e (f := fun x y => x &&& y) ezx40 rfl (by decide))
              refine lv_if_eq (tgt := 102) hx hb dX7_firstOpen_75 (by decide) (fun c41 => ?_) (fun c41 => ?_)
              · have c41 : x40.toInt = (0 : Int) := wk_eq.mp c41
                replace hM := hM.pos c41
                obtain ⟨x42, ex42⟩ : ∃ y : Int32, y = v56_8 + Int32.ofInt 1 := ⟨_, rfl⟩
                have erx42 := ex42
                refine lv_iinc (v := x42) (lv' := [(8, .int x42), (0, .ref (ad 39)), (1, .int a1), (2, .int 0), (3, .int a3), (4, .int a4), (5, .int (-1)), (6, .int v25_6), (7, .int v56_7)]) hx hb dX7_firstOpen_102 hl (k := 8) rfl ex42.symm (by decide) rfl (fun ls hl => ?_)
                have ex42 : x42.toInt = v56_8.toInt + 1 := by rw [ex42]; exact wk_add (y := 1) (show -2147483648 ≤ v56_8.toInt + 1 by omega) (show v56_8.toInt + 1 ≤ 2147483647 by omega)
                replace hM := hM.lt ex42.symm
                refine lv_goto (tgt := 56) hx hb dX7_firstOpen_105 (by decide) ?_
                exact ih56 v56_7 x42 H locs ls w24 (show 0 ≤ a1.toInt from r25) (show a1.toInt ≤ 12 from t26) (show (-1) ≤ a3.toInt from r27) (show a3.toInt ≤ 102119 from t28) (show 1991 ≤ a4.toInt from r29) (show a4.toInt ≤ 101999 from t30) (show 0 ≤ v25_6.toInt from r31) (show v25_6.toInt ≤ 4249 from t32) (show 0 ≤ v56_7.toInt from r33) (show v56_7.toInt ≤ 16777215 from t34) (show 0 ≤ x42.toInt by first | with_reducible assumption | omega) (show x42.toInt ≤ 24 by first | with_reducible assumption | omega) (show (24 - x42.toInt).toNat < n56 by first | exact tn_lt hm56 (by omega) (by omega) | omega) hw hT hF hM (lv_sub hl [1, 2, 3, 4, 5, 6, 7, 8, 0] rfl)
              · have c41 : ¬ x40.toInt = (0 : Int) := wk_eqF c41
                replace hM := hM.neg c41
                refine lv_iload hx hb dX7_firstOpen_78 (lv_at hl 6 rfl) ?_
                refine lv_bipush (v := 24) hx hb dX7_firstOpen_80 (by decide) ?_
                refine lv_imul hx hb dX7_firstOpen_82 ?_
                refine lv_topi (fun x43 ex43 => ?_)
                have ezx43 := ex43
                have ex43 : x43.toInt = v25_6.toInt * (24 : Int) := by rw [ex43]; exact wk_mul (show (-2147483648) ≤ v25_6.toInt * (24 : Int) by omega) (show v25_6.toInt * (24 : Int) ≤ 2147483647 by omega)
                replace hM := hM.lt ex43.symm
                refine lv_iload hx hb dX7_firstOpen_83 (lv_at hl 8 rfl) ?_
                refine lv_iadd hx hb dX7_firstOpen_85 ?_
                refine lv_topi (fun x44 ex44 => ?_)
                have ezx44 := ex44
                have ex44 : x44.toInt = x43.toInt + v56_8.toInt := by rw [ex44]; exact wk_add (show (-2147483648) ≤ x43.toInt + v56_8.toInt by omega) (show x43.toInt + v56_8.toInt ≤ 2147483647 by omega)
                replace hM := hM.lt ex44.symm
                refine lv_istore (lv' := [(9, .int x44), (0, .ref (ad 39)), (1, .int a1), (2, .int 0), (3, .int a3), (4, .int a4), (5, .int (-1)), (6, .int v25_6), (7, .int v56_7), (8, .int v56_8)]) hx hb dX7_firstOpen_86 hl (by decide) rfl (fun ls hl => ?_)
                refine lv_iload hx hb dX7_firstOpen_88 (lv_at hl 0 rfl) ?_
                refine lv_iload hx hb dX7_firstOpen_90 (lv_at hl 5 rfl) ?_
                refine lv_icmp_gt (tgt := 100) hx hb dX7_firstOpen_92 (by decide) (fun c45 => ?_) (fun c45 => ?_)
                · have c45 : a4.toInt < x44.toInt := wk_lt.mp c45
                  replace hM := hM.pos c45
                  refine lv_iconst (v := (-1)) hx hb dX7_firstOpen_100 (by decide) ?_
                  exact tk_iret hC hr hlocks hK ⟨hT, hF, hM.ret (by decide), (Or.inr rfl)⟩ hw dX7_firstOpen_101
                · have c45 : x44.toInt ≤ a4.toInt := wk_ltF c45
                  replace hM := hM.neg (Int.not_lt.mpr c45)
                  refine lv_iload hx hb dX7_firstOpen_95 (lv_at hl 0 rfl) ?_
                  refine lv_goto (tgt := 101) hx hb dX7_firstOpen_97 (by decide) ?_
                  exact tk_iret hC hr hlocks hK ⟨hT, hF, hM.ret rfl, (Or.inl ⟨(show 0 ≤ x44.toInt by first | with_reducible assumption | omega), (show x44.toInt ≤ 101999 by first | with_reducible assumption | omega)⟩)⟩ hw dX7_firstOpen_101
      replace hM := hM.suc (fun _ => e_X7_firstOpen_25)
      refine lv_iload hx hb dX7_firstOpen_25 (lv_at hl 6 rfl) ?_
      refine lv_bipush (v := 24) hx hb dX7_firstOpen_27 (by decide) ?_
      refine lv_imul hx hb dX7_firstOpen_29 ?_
      refine lv_topi (fun x46 ex46 => ?_)
      have ezx46 := ex46
      have ex46 : x46.toInt = v25_6.toInt * (24 : Int) := by rw [ex46]; exact wk_mul (show (-2147483648) ≤ v25_6.toInt * (24 : Int) by omega) (show v25_6.toInt * (24 : Int) ≤ 2147483647 by omega)
      replace hM := hM.lt ex46.symm
      refine lv_iload hx hb dX7_firstOpen_30 (lv_at hl 4 rfl) ?_
      refine lv_icmp_gt (tgt := 114) hx hb dX7_firstOpen_32 (by decide) (fun c47 => ?_) (fun c47 => ?_)
      · have c47 : a4.toInt < x46.toInt := wk_lt.mp c47
        replace hM := hM.pos c47
        refine lv_iconst (v := (-1)) hx hb dX7_firstOpen_114 (by decide) ?_
        exact tk_iret hC hr hlocks hK ⟨hT, hF, hM.ret (by decide), (Or.inr rfl)⟩ hw dX7_firstOpen_115
      · have c47 : x46.toInt ≤ a4.toInt := wk_ltF c47
        replace hM := hM.neg (Int.not_lt.mpr c47)
        refine lv_aload_n hx hb dX7_firstOpen_35 rfl (lv_at hl 0 rfl) ?_
        refine lv_iload_n hx hb dX7_firstOpen_36 rfl (lv_at hl 1 rfl) ?_
        refine lv_iload_n hx hb dX7_firstOpen_37 rfl (lv_at hl 2 rfl) ?_
        refine lv_iload hx hb dX7_firstOpen_38 (lv_at hl 6 rfl) ?_
        refine lv_i2l hx hb dX7_firstOpen_40 rfl ?_
        refine lv_topl (fun x48 ex48 => ?_)
        have ex48 : x48.toInt = v25_6.toInt := by rw [ex48]; exact wk_i2l _
        have bx48 := wk_i32 v25_6
        replace hM := hM.lt ex48.symm
        refine lv_iconst (v := 1) hx hb dX7_firstOpen_41 (by decide) ?_
        refine tk_Vi hC hK hw hT hA hE hSR kC_at39 (by decide) rfl (kz_X7_openHours_1 l adK adV dC dI cy ad B hB0 (Int.le_trans hB1 (by decide)) qr s1   a1 (show 0 ≤ a1.toInt from r2) (show a1.toInt ≤ 12 from t3) x48 (show 0 ≤ x48.toInt by first | with_reducible assumption | omega) (show x48.toInt ≤ 4249 by first | with_reducible assumption | omega) w1 H.size hT ) (cwV 4 hC.2.2.2.2 uV_RX7_148 rfl rfl rfl (by decide +kernel) ⟨Nat.le_of_ble_eq_true rfl, Nat.le_of_ble_eq_true rfl⟩) rfl hl.1 rfl (Nat.le_of_ble_eq_true rfl) dX7_firstOpen_42 (fun r49 w51 H locs hp50 hw => ?_)
        obtain ⟨hT, k52, hv56, hg55⟩ := hp50
        have hF := hF.tr k52 (by decide)
        obtain ⟨g53, g54⟩ := hg55
        replace hM := hM.call hv56 rfl
        refine lv_iload hx hb dX7_firstOpen_45 (lv_at hl 5 rfl) ?_
        refine lv_iand hx hb dX7_firstOpen_47 ?_
        refine lv_topi (fun x57 ex57 => ?_)
        have ezx57 := ex57
        have bx57 : 0 ≤ x57.toInt ∧ x57.toInt ≤ r49.toInt := by rw [ex57]; exact wk_andC (by omega)
        replace hM := hM.lt (o32_e (f := fun x y => x &&& y) ezx57 rfl rfl)
        refine lv_istore (lv' := [(7, .int x57), (0, .ref (ad 39)), (1, .int a1), (2, .int 0), (3, .int a3), (4, .int a4), (5, .int v25_5), (6, .int v25_6)]) hx hb dX7_firstOpen_48 hl (by decide) rfl (fun ls hl => ?_)
        refine lv_iconst (v := (-1)) hx hb dX7_firstOpen_50 (by decide) ?_
        refine lv_istore (lv' := [(5, .int (-1)), (7, .int x57), (0, .ref (ad 39)), (1, .int a1), (2, .int 0), (3, .int a3), (4, .int a4), (6, .int v25_6)]) hx hb dX7_firstOpen_51 hl (by decide) rfl (fun ls hl => ?_)
        refine lv_iconst (v := 0) hx hb dX7_firstOpen_53 (by decide) ?_
        refine lv_istore (lv' := [(8, .int 0), (5, .int (-1)), (7, .int x57), (0, .ref (ad 39)), (1, .int a1), (2, .int 0), (3, .int a3), (4, .int a4), (6, .int v25_6)]) hx hb dX7_firstOpen_54 hl (by decide) rfl (fun ls hl => ?_)
        exact L56 ((24 - (0 : Int)).toNat + 1) x57 0 H locs ls w51 (show 0 ≤ a1.toInt from r2) (show a1.toInt ≤ 12 from t3) (show (-1) ≤ a3.toInt from r4) (show a3.toInt ≤ 102119 from t5) (show 1991 ≤ a4.toInt from r6) (show a4.toInt ≤ 101999 from t7) (show 0 ≤ v25_6.toInt from r8) (show v25_6.toInt ≤ 4249 by first | with_reducible assumption | omega) (show 0 ≤ x57.toInt by first | with_reducible assumption | omega) (show x57.toInt ≤ 16777215 by first | with_reducible assumption | omega) (by decide) (by decide) (Nat.lt_succ_self _) hw hT hF hM (lv_sub hl [3, 4, 5, 6, 7, 1, 8, 2, 0] rfl)
  have hM : TT (fun n => m_X7_firstOpen n 39 a1.toInt 0 a3.toInt a4.toInt (sI w0)) (fun n => m_X7_firstOpen n 39 a1.toInt 0 a3.toInt a4.toInt (sI w0)) := TT.rf
  refine lv_aload_n hx hb dX7_firstOpen_0 rfl (lv_at hl 0 rfl) ?_
  refine lv_iload_n hx hb dX7_firstOpen_1 rfl (lv_at hl 1 rfl) ?_
  refine lv_iload_n hx hb dX7_firstOpen_2 rfl (lv_at hl 2 rfl) ?_
  refine tk_Vi hC hK hw hT hA hE hSR kC_at39 (by decide) rfl (kz_X7_isNeverOpen_1 l adK adV dC dI cy ad B hB0 (Int.le_trans hB1 (by decide)) qr s1   a1 (show 0 ≤ a1.toInt from ra1) (show a1.toInt ≤ 12 from ta1) w0 s.heap.size hT ) (cwV 2 hC.2.2.2.2 uV_RX7_152 rfl rfl rfl (by decide +kernel) ⟨Nat.le_of_ble_eq_true rfl, Nat.le_of_ble_eq_true rfl⟩) rfl hl.1 rfl (Nat.le_of_ble_eq_true rfl) dX7_firstOpen_3 (fun r58 w60 H locs hp59 hw => ?_)
  obtain ⟨hT, k61, hv63, hg62⟩ := hp59
  have hF := hF.tr k61 (by decide)
  rcases hg62 with rfl | rfl
  · replace hM := hM.call (r' := 0) hv63 (by decide)
    refine lv_if_eq (tgt := 11) hx hb dX7_firstOpen_6 (by decide) (fun _ => ?_) (fun c => absurd (by decide) c)
    replace hM := hM.pos (by decide)
    refine lv_iconst (v := (-1)) hx hb dX7_firstOpen_11 (by decide) ?_
    refine lv_iload_n hx hb dX7_firstOpen_12 rfl (lv_at hl 3 rfl) ?_
    refine lv_bipush (v := 24) hx hb dX7_firstOpen_13 (by decide) ?_
    refine lv_irem hx hb dX7_firstOpen_15 (by decide) ?_
    refine lv_topi (fun x64 ex64 => ?_)
    have ezx64 := ex64
    replace hM := hM.lt (o32_e (f := fun x y => x - x / y * y) ezx64 rfl (by decide))
    refine lv_ishl hx hb dX7_firstOpen_16 ?_
    refine lv_topi (fun x65 ex65 => ?_)
    have ezx65 := ex65
    replace hM := hM.lt (o32_e (f := fun x y => x <<< (y &&& 31)) ezx65 (by decide) rfl)
    refine lv_istore (lv' := [(5, .int x65), (0, .ref (ad 39)), (1, .int a1), (2, .int 0), (3, .int a3), (4, .int a4)]) hx hb dX7_firstOpen_17 hl (by decide) rfl (fun ls hl => ?_)
    refine lv_iload_n hx hb dX7_firstOpen_19 rfl (lv_at hl 4 rfl) ?_
    refine lv_bipush (v := 24) hx hb dX7_firstOpen_20 (by decide) ?_
    refine lv_idiv hx hb dX7_firstOpen_22 (by decide) ?_
    refine lv_topi (fun x66 ex66 => ?_)
    have ezx66 := ex66
    have bx66 : -(1 / (24 : Int)) ≤ x66.toInt ∧ x66.toInt ≤ 102119 / (24 : Int) := by rw [ex66]; exact wk_divB (m := 1) (n := 102119) (show 0 < (24 : Int) by decide) (by decide) (by decide) (by omega) (by omega)
    replace hM := hM.lt (o32_e (f := fun x y => x / y) ezx66 rfl (by decide))
    refine lv_istore (lv' := [(6, .int x66), (5, .int x65), (0, .ref (ad 39)), (1, .int a1), (2, .int 0), (3, .int a3), (4, .int a4)]) hx hb dX7_firstOpen_23 hl (by decide) rfl (fun ls hl => ?_)
    exact L25 ((4254 - x66.toInt).toNat + 1) x65 x66 H locs ls w60 (show 0 ≤ a1.toInt from ra1) (show a1.toInt ≤ 12 from ta1) (show (-1) ≤ a3.toInt from ra3) (show a3.toInt ≤ 102119 from ta3) (show 1991 ≤ a4.toInt from ra4) (show a4.toInt ≤ 101999 from ta4) (show 0 ≤ x66.toInt by first | with_reducible assumption | omega) (show x66.toInt ≤ 4254 by first | with_reducible assumption | omega) (Nat.lt_succ_self _) hw hT hF hM (lv_sub hl [2, 3, 4, 5, 6, 1, 0] rfl)
  · replace hM := hM.call (r' := 1) hv63 (by decide)
    refine lv_if_eq (tgt := 11) hx hb dX7_firstOpen_6 (by decide) (fun c => absurd c (by decide)) (fun _ => ?_)
    replace hM := hM.neg (by decide)
    refine lv_iconst (v := (-1)) hx hb dX7_firstOpen_9 (by decide) ?_
    exact tk_iret hC hr hlocks hK ⟨hT, hF, hM.ret (by decide), (Or.inr rfl)⟩ hw dX7_firstOpen_10
