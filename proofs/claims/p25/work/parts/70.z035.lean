abbrev Pz_X12_weekdays_1 (ad : Nat → Nat) (cy : Nat → ClassId) (B : Int) (qr : Nat) (s1 : Int) (a1 : Int32) (w0 : va_W) : Int32 → va_W → Prop := fun r u => w0 = u ∧ Ev (fun n => m_X12_weekdays n 0 a1.toInt (sI w0)) (r.toInt, sI w0) ∧ ((r = (-2) ∧ (∃ y : Int32, gi u 12 0 = y ∧ 1 ≤ y.toInt ∧ y.toInt ≤ 10)) ∨ (0 ≤ r.toInt ∧ r.toInt ≤ 127 ∧ (∃ y : Int32, gi u 12 0 = y ∧ 1 ≤ y.toInt ∧ y.toInt ≤ 10)) ∨ (r = (-1)))
set_option maxHeartbeats 4000000 in
set_option maxRecDepth 100000 in
theorem kz_X12_weekdays_1 (l : Launch) (adK adV : Nat → Nat) (dC : Nat → ClassId) (dI : Nat → Nat → Nat) (cy : Nat → ClassId) (ad : Nat → Nat) (B : Int) (hB0 : 100000 ≤ B) (hB1 : B ≤ 1073741824) (qr : Nat) (s1 : Int)  (a1 : Int32) (w0 : va_W) (sz : Nat) (hT : TW ksM ad cy B qr 12 w0)  : Met l yX12_weekdays (wu yX12_weekdays cX12_weekdays 5 (some .int)) ({ frames := 3, cells := 0, slots := 0, locals := 60 }) (va_Pc [.ref (ad 0), .int a1] (wpreS adK adV dC dI cy sz w0)) (va_Qi (Pz_X12_weekdays_1 ad cy B qr s1 a1 w0) (fun u : va_W => wpost dC dI cy (va_A w0 sz) u) (va_A w0 sz)) 0 0 (va_A w0 sz) := by
  refine Met.ofW (cc := cX12_weekdays) (maxL := 5) (ret := (some .int)) (by decide) rfl ?_
  intro p e s m args below meth c s₁ Bk hml hv
  obtain ⟨rfl, ⟨hsz, hP, hK, hD0⟩, hE, hSR⟩ := hv
  have hx := Bk.exec
  have hb := Bk.bytes
  have hr := Bk.returns
  have hlocks := Bk.notSynchronized
  have hC : CallFix p m c cX12_weekdays 5 s _ (wu yX12_weekdays cX12_weekdays 5 (some .int)) RX12 := ⟨hx, hb, hml, findClass_of_methodNamed Bk.named, atoms_spec (ws := (wu yX12_weekdays cX12_weekdays 5 (some .int))) Bk.pre⟩
  subst hsz
  have hD := hD0.self (sz := s.heap.size)
  generalize hAe : va_A w0 s.heap.size = A at hD hE ⊢
  have hA : ∀ q : Nat, s.heap.size ≤ q → A q := fun q h => by rw [← hAe]; exact Or.inr h
  have hw : Wd dC dI A s.heap s.heap [] w0 := ⟨hP, hD, va_S.rf⟩
  have hF : FE ksM ([] : List (Nat × Nat × Nat)) w0 w0 := FE.rf
  have hl := lv_entry ([.ref (ad 0), .int a1]) (n := 5) (Nat.le_of_ble_eq_true rfl)
  rw [lg_entry_eq]
  generalize (lg_sl ([.ref (ad 0), .int a1]) ++ List.replicate (5 - (lg_sl ([.ref (ad 0), .int a1])).length) Slot.unset).toArray = ls at hl ⊢
  have hl : lv_has ls 5 [(0, .ref (ad 0)), (1, .int a1)] := hl
  generalize hloc : ([] : List Loc) = locs at hw ⊢
  have hinX12 : ∀ w ∈ u_ws RX12 TX12 42, w ∈ (wu yX12_weekdays cX12_weekdays 5 (some .int)) := fun _ h => List.mem_cons_of_mem _ (up_71 h)
  have J17 : ∀ (f17_12_0 : Int32) (H : Heap) (locs : List Loc) (ls : Array Slot), 0 ≤ f17_12_0.toInt → f17_12_0.toInt ≤ 10 → Wd dC dI A s.heap H locs w0 → gi w0 12 0 = f17_12_0 → TT (fun n => m_X12_weekdays n 0 a1.toInt (sI w0)) (fun n => b_X12_weekdays_17 (j_X12_weekdays 0 n) n 0 (sI w0)) → lv_has ls 5 [(0, .ref (ad 0)), (1, .int a1)] → W p l e ({ frames := 3, cells := 0, slots := 0, locals := 60 }) s m (List.toArray [.ref (ad 0), .int a1]) below meth c H locs 0 0 (MQ below (va_Qi (Pz_X12_weekdays_1 ad cy B qr s1 a1 w0) (fun u : va_W => wpost dC dI cy A u) A) (List.toArray [.ref (ad 0), .int a1]) s 0 0 A) (F0 m 17 ls []) := by
    intro f17_12_0 H locs ls r1 t2 hw c3 hM hl
    refine lv_iconst (v := (-1)) hx hb dX12_weekdays_17 (by decide) ?_
    exact tk_iret hC hr hlocks hK ⟨rfl, hM.ret (by decide), (Or.inr (Or.inr rfl))⟩ hw dX12_weekdays_18
  have J43 : ∀ (v43_2 : Int32) (f43_12_0 : Int32) (H : Heap) (locs : List Loc) (ls : Array Slot), 0 ≤ v43_2.toInt → v43_2.toInt ≤ 127 → 1 ≤ f43_12_0.toInt → f43_12_0.toInt ≤ 10 → Wd dC dI A s.heap H locs w0 → gi w0 12 0 = f43_12_0 → TT (fun n => m_X12_weekdays n 0 a1.toInt (sI w0)) (fun n => b_X12_weekdays_43 (j_X12_weekdays 0 n) n 0 (sI w0)) → lv_has ls 5 [(0, .ref (ad 0)), (1, .int 1), (2, .int v43_2)] → W p l e ({ frames := 3, cells := 0, slots := 0, locals := 60 }) s m (List.toArray [.ref (ad 0), .int a1]) below meth c H locs 0 0 (MQ below (va_Qi (Pz_X12_weekdays_1 ad cy B qr s1 a1 w0) (fun u : va_W => wpost dC dI cy A u) A) (List.toArray [.ref (ad 0), .int a1]) s 0 0 A) (F0 m 43 ls []) := by
    intro v43_2 f43_12_0 H locs ls r4 t5 r6 t7 hw c8 hM hl
    refine lv_bipush (v := (-2)) hx hb dX12_weekdays_43 (by decide) ?_
    exact tk_iret hC hr hlocks hK ⟨rfl, hM.ret (by decide), (Or.inl ⟨rfl, ⟨f43_12_0, c8, (show 1 ≤ f43_12_0.toInt from r6), (show f43_12_0.toInt ≤ 10 from t7)⟩⟩)⟩ hw dX12_weekdays_45
  have L51 : ∀ (n51 : Nat) (v51_2 : Int32) (v51_3 : Int32) (v51_4 : Int32) (f51_12_0 : Int32) (f51_12_1 : Int32) (H : Heap) (locs : List Loc) (ls : Array Slot), 1 ≤ v51_2.toInt → v51_2.toInt ≤ 127 → 0 ≤ v51_3.toInt → v51_3.toInt ≤ 11 → 1 ≤ v51_4.toInt → v51_4.toInt ≤ 12 → 1 ≤ f51_12_0.toInt → f51_12_0.toInt ≤ 10 → 1 ≤ f51_12_1.toInt → f51_12_1.toInt ≤ 12 → (12 - v51_4.toInt).toNat < n51 → Wd dC dI A s.heap H locs w0 → gi w0 12 0 = f51_12_0 → gi w0 12 1 = f51_12_1 → TT (fun n => m_X12_weekdays n 0 a1.toInt (sI w0)) (fun n => j_X12_weekdays 0 n 51 [v51_2.toInt, v51_3.toInt, v51_4.toInt] (sI w0)) → lv_has ls 5 [(0, .ref (ad 0)), (1, .int 1), (2, .int v51_2), (3, .int v51_3), (4, .int v51_4)] → W p l e ({ frames := 3, cells := 0, slots := 0, locals := 60 }) s m (List.toArray [.ref (ad 0), .int a1]) below meth c H locs 0 0 (MQ below (va_Qi (Pz_X12_weekdays_1 ad cy B qr s1 a1 w0) (fun u : va_W => wpost dC dI cy A u) A) (List.toArray [.ref (ad 0), .int a1]) s 0 0 A) (F0 m 51 ls []) := by
    intro n51
    induction n51 with
    | zero => intro v51_2 v51_3 v51_4 f51_12_0 f51_12_1 H locs ls r9 t10 r11 t12 r13 t14 r15 t16 r18 t19 hm51 hw c17 c20 hM hl; omega
    | succ n51 ih51 =>
      intro v51_2 v51_3 v51_4 f51_12_0 f51_12_1 H locs ls r9 t10 r11 t12 r13 t14 r15 t16 r18 t19 hm51 hw c17 c20 hM hl
      replace hM := hM.suc (fun _ => e_X12_weekdays_51)
      refine lv_iload hx hb dX12_weekdays_51 (lv_at hl 4 rfl) ?_
      refine lv_aload_n hx hb dX12_weekdays_53 rfl (lv_at hl 0 rfl) ?_
      refine tk_getA hC hK hw hT hinX12 kM_at0 (by decide) rfl 26 (by decide) (List.mem_cons_of_mem _ uw_7_1) rfl rfl dX12_weekdays_54 ?_
      refine lv_iconst (v := 1) hx hb dX12_weekdays_57 (by decide) ?_
      refine tk_ialdR hC hK hw hT kM_at12 rfl (by decide) (by decide) dX12_weekdays_58 (fun x21 c22 Ex21 => ?_)
      have hox21 := c22
      refine wk_top f51_12_1 (c22.symm.trans c20) ?_
      replace hM := hM.rd ((sI_at hox21).trans (congrArg Int32.toInt (c22.symm.trans c20)))
      refine lv_icmp_ge (tgt := 91) hx hb dX12_weekdays_59 (by decide) (fun c23 => ?_) (fun c23 => ?_)
      · have c23 : f51_12_1.toInt ≤ v51_4.toInt := wk_le.mp c23
        replace hM := hM.pos c23
        refine lv_iload_n hx hb dX12_weekdays_91 rfl (lv_at hl 3 rfl) ?_
        exact tk_iret hC hr hlocks hK ⟨rfl, hM.ret rfl, (Or.inr (Or.inl ⟨(show 0 ≤ v51_3.toInt from r11), (show v51_3.toInt ≤ 127 from Int.le_trans t12 (by decide)), ⟨f51_12_0, c17, (show 1 ≤ f51_12_0.toInt from r15), (show f51_12_0.toInt ≤ 10 from t16)⟩⟩))⟩ hw dX12_weekdays_92
      · have c23 : v51_4.toInt < f51_12_1.toInt := wk_leF c23
        replace hM := hM.neg (Int.not_le.mpr c23)
        refine lv_aload_n hx hb dX12_weekdays_62 rfl (lv_at hl 0 rfl) ?_
        refine lv_iload hx hb dX12_weekdays_63 (lv_at hl 4 rfl) ?_
        refine lv_iload_n hx hb dX12_weekdays_65 rfl (lv_at hl 2 rfl) ?_
        refine tk_Vi hC hK hw hT hA hE hSR kM_at0 (by decide) rfl (kz_X12_mostAlike_1 l adK adV dC dI cy ad B hB0 (Int.le_trans hB1 (by decide)) qr s1   v51_4 (show 1 ≤ v51_4.toInt from r13) (show v51_4.toInt ≤ 11 by first | with_reducible assumption | omega) v51_2 (show 1 ≤ v51_2.toInt from r9) (show v51_2.toInt ≤ 127 from t10) w0 H.size hT ) (cwV 2 hC.2.2.2.2 uV_RX12_484 rfl rfl rfl (by decide +kernel) ⟨Nat.le_of_ble_eq_true rfl, Nat.le_of_ble_eq_true rfl⟩) rfl hl.1 rfl (Nat.le_of_ble_eq_true rfl) dX12_weekdays_66 (fun r24 w26 H locs hp25 hw => ?_)
        obtain ⟨rfl, hv30, hg29⟩ := hp25
        obtain g28 := hg29
        replace hM := hM.call hv30 rfl
        refine lv_aload_n hx hb dX12_weekdays_69 rfl (lv_at hl 0 rfl) ?_
        refine lv_iload_n hx hb dX12_weekdays_70 rfl (lv_at hl 3 rfl) ?_
        refine lv_iload_n hx hb dX12_weekdays_71 rfl (lv_at hl 2 rfl) ?_
        refine tk_Vi hC hK hw hT hA hE hSR kM_at0 (by decide) rfl (kz_X12_mostAlike_2 l adK adV dC dI cy ad B hB0 (Int.le_trans hB1 (by decide)) qr s1   v51_3 (show 0 ≤ v51_3.toInt from r11) (show v51_3.toInt ≤ 11 from t12) v51_2 (show 1 ≤ v51_2.toInt from r9) (show v51_2.toInt ≤ 127 from t10) w0 H.size hT ) (cwV 2 hC.2.2.2.2 uV_RX12_484 rfl rfl rfl (by decide +kernel) ⟨Nat.le_of_ble_eq_true rfl, Nat.le_of_ble_eq_true rfl⟩) rfl hl.1 rfl (Nat.le_of_ble_eq_true rfl) dX12_weekdays_72 (fun r31 w33 H locs hp32 hw => ?_)
        obtain ⟨rfl, hv37, hg36⟩ := hp32
        obtain g35 := hg36
        replace hM := hM.call hv37 rfl
        refine lv_icmp_ge (tgt := 83) hx hb dX12_weekdays_75 (by decide) (fun c38 => ?_) (fun c38 => ?_)
        · have c38 : r31.toInt ≤ r24.toInt := wk_le.mp c38
          replace hM := hM.pos c38
          refine lv_iload_n hx hb dX12_weekdays_83 rfl (lv_at hl 3 rfl) ?_
          refine lv_istore_n (lv' := [(3, .int v51_3), (0, .ref (ad 0)), (1, .int 1), (2, .int v51_2), (4, .int v51_4)]) hx hb dX12_weekdays_84 rfl hl (by decide) rfl (fun ls hl => ?_)
          obtain ⟨x39, ex39⟩ : ∃ y : Int32, y = v51_4 + Int32.ofInt 1 := ⟨_, rfl⟩
          have erx39 := ex39
          refine lv_iinc (v := x39) (lv' := [(4, .int x39), (3, .int v51_3), (0, .ref (ad 0)), (1, .int 1), (2, .int v51_2)]) hx hb dX12_weekdays_85 hl (k := 4) rfl ex39.symm (by decide) rfl (fun ls hl => ?_)
          have ex39 : x39.toInt = v51_4.toInt + 1 := by rw [ex39]; exact wk_add (y := 1) (show -2147483648 ≤ v51_4.toInt + 1 by omega) (show v51_4.toInt + 1 ≤ 2147483647 by omega)
          replace hM := hM.lt ex39.symm
          refine lv_goto (tgt := 51) hx hb dX12_weekdays_88 (by decide) ?_
          exact ih51 v51_2 v51_3 x39 f51_12_0 f51_12_1 H locs ls  (show 1 ≤ v51_2.toInt from r9) (show v51_2.toInt ≤ 127 from t10) (show 0 ≤ v51_3.toInt from r11) (show v51_3.toInt ≤ 11 from t12) (show 1 ≤ x39.toInt by first | with_reducible assumption | omega) (show x39.toInt ≤ 12 by first | with_reducible assumption | omega) (show 1 ≤ f51_12_0.toInt from r15) (show f51_12_0.toInt ≤ 10 from t16) (show 1 ≤ f51_12_1.toInt from r18) (show f51_12_1.toInt ≤ 12 from t19) (show (12 - x39.toInt).toNat < n51 by omega) hw  c17 c20 hM (lv_sub hl [2, 3, 4, 1, 0] rfl)
        · have c38 : r24.toInt < r31.toInt := wk_leF c38
          replace hM := hM.neg (Int.not_le.mpr c38)
          refine lv_iload hx hb dX12_weekdays_78 (lv_at hl 4 rfl) ?_
          refine lv_goto (tgt := 84) hx hb dX12_weekdays_80 (by decide) ?_
          refine lv_istore_n (lv' := [(3, .int v51_4), (0, .ref (ad 0)), (1, .int 1), (2, .int v51_2), (4, .int v51_4)]) hx hb dX12_weekdays_84 rfl hl (by decide) rfl (fun ls hl => ?_)
          obtain ⟨x40, ex40⟩ : ∃ y : Int32, y = v51_4 + Int32.ofInt 1 := ⟨_, rfl⟩
          have erx40 := ex40
          refine lv_iinc (v := x40) (lv' := [(4, .int x40), (3, .int v51_4), (0, .ref (ad 0)), (1, .int 1), (2, .int v51_2)]) hx hb dX12_weekdays_85 hl (k := 4) rfl ex40.symm (by decide) rfl (fun ls hl => ?_)
          have ex40 : x40.toInt = v51_4.toInt + 1 := by rw [ex40]; exact wk_add (y := 1) (show -2147483648 ≤ v51_4.toInt + 1 by omega) (show v51_4.toInt + 1 ≤ 2147483647 by omega)
          replace hM := hM.lt ex40.symm
          refine lv_goto (tgt := 51) hx hb dX12_weekdays_88 (by decide) ?_
          exact ih51 v51_2 v51_4 x40 f51_12_0 f51_12_1 H locs ls  (show 1 ≤ v51_2.toInt from r9) (show v51_2.toInt ≤ 127 from t10) (show 0 ≤ v51_4.toInt from Int.le_trans (by decide) r13) (show v51_4.toInt ≤ 11 by first | with_reducible assumption | omega) (show 1 ≤ x40.toInt by first | with_reducible assumption | omega) (show x40.toInt ≤ 12 by first | with_reducible assumption | omega) (show 1 ≤ f51_12_0.toInt from r15) (show f51_12_0.toInt ≤ 10 from t16) (show 1 ≤ f51_12_1.toInt from r18) (show f51_12_1.toInt ≤ 12 from t19) (show (12 - x40.toInt).toNat < n51 by omega) hw  c17 c20 hM (lv_sub hl [2, 3, 4, 1, 0] rfl)
  have hM : TT (fun n => m_X12_weekdays n 0 a1.toInt (sI w0)) (fun n => m_X12_weekdays n 0 a1.toInt (sI w0)) := TT.rf
  refine lv_aload_n hx hb dX12_weekdays_0 rfl (lv_at hl 0 rfl) ?_
  refine tk_Vi hC hK hw hT hA hE hSR kM_at0 (by decide) rfl (kz_X12_isTown_1 l adK adV dC dI cy ad B hB0 (Int.le_trans hB1 (by decide)) qr s1    w0 s.heap.size hT ) (cwV 0 hC.2.2.2.2 uV_RX12_337 rfl rfl rfl (by decide +kernel) ⟨Nat.le_of_ble_eq_true rfl, Nat.le_of_ble_eq_true rfl⟩) rfl hl.1 rfl (Nat.le_of_ble_eq_true rfl) dX12_weekdays_1 (fun r41 w43 H locs hp42 hw => ?_)
  obtain ⟨rfl, hv50, hg49⟩ := hp42
  rcases hg49 with ⟨rfl, ⟨x45, c46, rx45, tx45⟩⟩ | ⟨rfl, ⟨x47, c48, rx47, tx47⟩⟩
  · replace hM := hM.call (r' := 0) hv50 (by decide)
    refine lv_if_eq (tgt := 17) hx hb dX12_weekdays_4 (by decide) (fun _ => ?_) (fun c => absurd (by decide) c)
    replace hM := hM.pos (by decide)
    exact J17 x45 H locs ls  (show 0 ≤ x45.toInt by first | with_reducible assumption | omega) (show x45.toInt ≤ 10 by first | with_reducible assumption | omega)  hw  c46 hM (lv_sub hl [0, 1] rfl)
  · replace hM := hM.call (r' := 1) hv50 (by decide)
    refine lv_if_eq (tgt := 17) hx hb dX12_weekdays_4 (by decide) (fun c => absurd c (by decide)) (fun _ => ?_)
    replace hM := hM.neg (by decide)
    refine lv_iload_n hx hb dX12_weekdays_7 rfl (lv_at hl 1 rfl) ?_
    refine lv_i2l hx hb dX12_weekdays_8 rfl ?_
    refine lv_topl (fun x51 ex51 => ?_)
    have ex51 : x51.toInt = a1.toInt := by rw [ex51]; exact wk_i2l _
    have bx51 := wk_i32 a1
    replace hM := hM.lt ex51.symm
    refine lv_lconst (v := 0) hx hb dX12_weekdays_9 (by decide) ?_
    refine lv_lconst (v := 1) hx hb dX12_weekdays_10 (by decide) ?_
    refine tk_Si hC hK hw hT hA hE hSR (kz_X12_in_15 l adK adV dC dI cy ad B hB0 (Int.le_trans hB1 (by decide)) qr s1   x51 (show (-2147483648) ≤ x51.toInt by first | with_reducible assumption | omega) (show x51.toInt ≤ 2147483647 by first | with_reducible assumption | omega) w0 H.size hT ) (va_cwS 3 hC.2.2.2.2 uS_RX12_122 rfl rfl rfl (by decide +kernel) ⟨Nat.le_of_ble_eq_true rfl, Nat.le_of_ble_eq_true rfl⟩) rfl hl.1 rfl (Nat.le_of_ble_eq_true rfl) dX12_weekdays_11 (fun r52 w54 H locs hp53 hw => ?_)
    obtain ⟨rfl, hv59, hg58⟩ := hp53
    rcases hg58 with rfl | ⟨rfl, g56, g57⟩
    · replace hM := hM.call (r' := 0) hv59 (by decide)
      refine lv_if_ne (tgt := 19) hx hb dX12_weekdays_14 (by decide) (fun c => absurd (by decide) c) (fun _ => ?_)
      replace hM := hM.neg (by decide)
      exact J17 x47 H locs ls  (show 0 ≤ x47.toInt by first | with_reducible assumption | omega) (show x47.toInt ≤ 10 by first | with_reducible assumption | omega)  hw  c48 hM (lv_sub hl [0, 1] rfl)
    · replace hM := hM.call (r' := 1) hv59 (by decide)
      refine lv_if_ne (tgt := 19) hx hb dX12_weekdays_14 (by decide) (fun _ => ?_) (fun c => absurd c (by decide))
      replace hM := hM.pos (by decide)
      refine lv_aload_n hx hb dX12_weekdays_19 rfl (lv_at hl 0 rfl) ?_
      refine tk_Vi hC hK hw hT hA hE hSR kM_at0 (by decide) rfl (kz_X12_fitting_1 l adK adV dC dI cy ad B hB0 (Int.le_trans hB1 (by decide)) qr s1    w0 H.size hT ) (cwV 0 hC.2.2.2.2 uV_RX12_481 rfl rfl rfl (by decide +kernel) ⟨Nat.le_of_ble_eq_true rfl, Nat.le_of_ble_eq_true rfl⟩) rfl hl.1 rfl (Nat.le_of_ble_eq_true rfl) dX12_weekdays_20 (fun r60 w62 H locs hp61 hw => ?_)
      obtain ⟨rfl, hv67, hg66⟩ := hp61
      obtain ⟨g64, g65⟩ := hg66
      replace hM := hM.call hv67 rfl
      refine lv_istore_n (lv' := [(2, .int r60), (0, .ref (ad 0)), (1, .int a1)]) hx hb dX12_weekdays_23 rfl hl (by decide) rfl (fun ls hl => ?_)
      refine lv_iload_n hx hb dX12_weekdays_24 rfl (lv_at hl 2 rfl) ?_
      refine lv_if_ne (tgt := 30) hx hb dX12_weekdays_25 (by decide) (fun c68 => ?_) (fun c68 => ?_)
      · have c68 : ¬ a1.toInt = (0 : Int) := wk_eqF c68
        replace hM := hM.pos c68
        refine lv_iload_n hx hb dX12_weekdays_30 rfl (lv_at hl 0 rfl) ?_
        refine lv_if_eq (tgt := 43) hx hb dX12_weekdays_31 (by decide) (fun c69 => ?_) (fun c69 => ?_)
        · have c69 : r60.toInt = (0 : Int) := wk_eq.mp c69
          replace hM := hM.pos c69
          obtain rfl : a1 = 1 := wk_eq.mpr (show a1.toInt = 1 by omega)
          try simp only [show (1 : Int32).toInt = 1 by decide] at hM
          exact J43 r60 x47 H locs ls  (show 0 ≤ r60.toInt by first | with_reducible assumption | omega) (show r60.toInt ≤ 127 by first | with_reducible assumption | omega) (show 1 ≤ x47.toInt by first | with_reducible assumption | omega) (show x47.toInt ≤ 10 by first | with_reducible assumption | omega)  hw  c48 hM (lv_sub hl [1, 2, 0] rfl)
        · have c69 : ¬ r60.toInt = (0 : Int) := wk_eqF c69
          replace hM := hM.neg c69
          refine lv_aload_n hx hb dX12_weekdays_34 rfl (lv_at hl 1 rfl) ?_
          refine tk_getA hC hK hw hT hinX12 kM_at0 (by decide) rfl 26 (by decide) (List.mem_cons_of_mem _ uw_7_1) rfl rfl dX12_weekdays_35 ?_
          refine lv_iconst (v := 1) hx hb dX12_weekdays_38 (by decide) ?_
          refine tk_ialdR hC hK hw hT kM_at12 rfl (by decide) (by decide) dX12_weekdays_39 (fun x70 c71 Ex70 => ?_)
          have hox70 := c71
          replace hM := hM.rd (sI_at hox70)
          have bx70 : 0 ≤ x70.toInt ∧ x70.toInt ≤ 12 := (tk_rg1 rfl).mp Ex70
          have c71 : gi w0 12 1 = x70 := c71
          refine lv_if_ne (tgt := 46) hx hb dX12_weekdays_40 (by decide) (fun c72 => ?_) (fun c72 => ?_)
          · have c72 : ¬ x70.toInt = (0 : Int) := wk_eqF c72
            replace hM := hM.pos c72
            refine lv_iconst (v := 0) hx hb dX12_weekdays_46 (by decide) ?_
            refine lv_istore_n (lv' := [(3, .int 0), (2, .int r60), (0, .ref (ad 0)), (1, .int a1)]) hx hb dX12_weekdays_47 rfl hl (by decide) rfl (fun ls hl => ?_)
            refine lv_iconst (v := 1) hx hb dX12_weekdays_48 (by decide) ?_
            refine lv_istore (lv' := [(4, .int 1), (3, .int 0), (2, .int r60), (0, .ref (ad 0)), (1, .int a1)]) hx hb dX12_weekdays_49 hl (by decide) rfl (fun ls hl => ?_)
            obtain rfl : a1 = 1 := wk_eq.mpr (show a1.toInt = 1 by omega)
            try simp only [show (1 : Int32).toInt = 1 by decide] at hM
            exact L51 ((12 - (1 : Int)).toNat + 1) r60 0 1 x47 x70 H locs ls  (show 1 ≤ r60.toInt by first | with_reducible assumption | omega) (show r60.toInt ≤ 127 by first | with_reducible assumption | omega) (by decide) (by decide) (by decide) (by decide) (show 1 ≤ x47.toInt by first | with_reducible assumption | omega) (show x47.toInt ≤ 10 by first | with_reducible assumption | omega) (show 1 ≤ x70.toInt by first | with_reducible assumption | omega) (show x70.toInt ≤ 12 by first | with_reducible assumption | omega) (Nat.lt_succ_self _) hw  c48 c71 hM (lv_sub hl [3, 4, 2, 1, 0] rfl)
          · have c72 : x70.toInt = (0 : Int) := wk_eq.mp c72
            replace hM := hM.neg (fun q => q c72)
            obtain rfl : a1 = 1 := wk_eq.mpr (show a1.toInt = 1 by omega)
            try simp only [show (1 : Int32).toInt = 1 by decide] at hM
            exact J43 r60 x47 H locs ls  (show 0 ≤ r60.toInt by first | with_reducible assumption | omega) (show r60.toInt ≤ 127 by first | with_reducible assumption | omega) (show 1 ≤ x47.toInt by first | with_reducible assumption | omega) (show x47.toInt ≤ 10 by first | with_reducible assumption | omega)  hw  c48 hM (lv_sub hl [1, 2, 0] rfl)
      · have c68 : a1.toInt = (0 : Int) := wk_eq.mp c68
        replace hM := hM.neg (fun q => q c68)
        refine lv_iload_n hx hb dX12_weekdays_28 rfl (lv_at hl 0 rfl) ?_
        exact tk_iret hC hr hlocks hK ⟨rfl, hM.ret rfl, (Or.inr (Or.inl ⟨(show 0 ≤ r60.toInt by first | with_reducible assumption | omega), (show r60.toInt ≤ 127 by first | with_reducible assumption | omega), ⟨x47, c48, (show 1 ≤ x47.toInt by first | with_reducible assumption | omega), (show x47.toInt ≤ 10 by first | with_reducible assumption | omega)⟩⟩))⟩ hw dX12_weekdays_29
