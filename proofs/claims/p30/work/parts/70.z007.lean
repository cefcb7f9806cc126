abbrev Pz_X3_readSum_3 (ad : Nat → Nat) (cy : Nat → ClassId) (B : Int) (qr : Nat) (s1 : Int)  (w0 : va_W) : va_W → Prop := fun u => TW ksC ad cy B qr s1 u ∧ FE ksC [(2, 3, 3), (3, 2, 2), (6, 1, 1), (6, 3, 3), (6, 4, 4), (22, 0, 13), (23, 0, 400)] w0 u ∧ Ev (fun n => m_X3_readSum n qr 3 (sI w0)) (0, sI u) ∧ ((True))
set_option maxHeartbeats 4000000 in
set_option maxRecDepth 100000 in
theorem kz_X3_readSum_3 (l : Launch) (adK adV : Nat → Nat) (dC : Nat → ClassId) (dI : Nat → Nat → Nat) (cy : Nat → ClassId) (ad : Nat → Nat) (B : Int) (hB0 : 2147483648 ≤ B) (hB1 : B ≤ 1152921504606846976) (qr : Nat) (s1 : Int) (hqr : ksC[qr]? = some 2)  (w0 : va_W) (sz : Nat) (hT : TW ksC ad cy B qr s1 w0)  : Met l yX3_readSum (wu yX3_readSum cX3_readSum 4 none) ({ frames := 7, cells := 0, slots := 0, locals := 188 }) (va_Pc [.ref (ad 3)] (wpreS adK adV dC dI cy sz w0)) (va_Qv (Pz_X3_readSum_3 ad cy B qr s1  w0) (fun u : va_W => wpost dC dI cy (va_A w0 sz) u) (va_A w0 sz)) 0 0 (va_A w0 sz) := by
  refine Met.ofW (cc := cX3_readSum) (maxL := 4) (ret := none) (by decide) rfl ?_
  intro p e s m args below meth c s₁ Bk hml hv
  obtain ⟨rfl, ⟨hsz, hP, hK, hD0⟩, hE, hSR⟩ := hv
  have hx := Bk.exec
  have hb := Bk.bytes
  have hr := Bk.returns
  have hlocks := Bk.notSynchronized
  have hC : CallFix p m c cX3_readSum 4 s _ (wu yX3_readSum cX3_readSum 4 none) RX3 := ⟨hx, hb, hml, findClass_of_methodNamed Bk.named, atoms_spec (ws := (wu yX3_readSum cX3_readSum 4 none)) Bk.pre⟩
  subst hsz
  have hD := hD0.self (sz := s.heap.size)
  generalize hAe : va_A w0 s.heap.size = A at hD hE ⊢
  have hA : ∀ q : Nat, s.heap.size ≤ q → A q := fun q h => by rw [← hAe]; exact Or.inr h
  have hw : Wd dC dI A s.heap s.heap [] w0 := ⟨hP, hD, va_S.rf⟩
  have hF : FE ksC [(2, 3, 3), (3, 2, 2), (6, 1, 1), (6, 3, 3), (6, 4, 4), (22, 0, 13), (23, 0, 400)] w0 w0 := FE.rf
  have hl := lv_entry ([.ref (ad 3)]) (n := 4) (Nat.le_of_ble_eq_true rfl)
  rw [lg_entry_eq]
  generalize (lg_sl ([.ref (ad 3)]) ++ List.replicate (4 - (lg_sl ([.ref (ad 3)])).length) Slot.unset).toArray = ls at hl ⊢
  have hl : lv_has ls 4 [(0, .ref (ad 3))] := hl
  generalize hloc : ([] : List Loc) = locs at hw ⊢
  have hinX3 : ∀ w ∈ u_ws RX3 TX3 3, w ∈ (wu yX3_readSum cX3_readSum 4 none) := fun _ h => List.mem_cons_of_mem _ (up_75 h)
  have J82 : ∀ (v82_1 : Int32) (v82_2 : Int32) (H : Heap) (locs : List Loc) (ls : Array Slot) (w1 : va_W), (-1) ≤ v82_1.toInt → v82_1.toInt ≤ 12 → 0 ≤ v82_2.toInt → v82_2.toInt ≤ 400 → Wd dC dI A s.heap H locs w1 → TW ksC ad cy B qr s1 w1 → FE ksC [(2, 3, 3), (3, 2, 2), (6, 1, 1), (6, 3, 3), (6, 4, 4), (22, 0, 13), (23, 0, 400)] w0 w1 → TT (fun n => m_X3_readSum n qr 3 (sI w0)) (fun n => b_X3_readSum_82 (j_X3_readSum qr 3 n) n qr 3 (v82_1.toInt) (sI w1)) → lv_has ls 4 [(0, .ref (ad 3)), (1, .int v82_1), (2, .int v82_2)] → W p l e ({ frames := 7, cells := 0, slots := 0, locals := 188 }) s m (List.toArray [.ref (ad 3)]) below meth c H locs 0 0 (MQ below (va_Qv (Pz_X3_readSum_3 ad cy B qr s1  w0) (fun u : va_W => wpost dC dI cy A u) A) (List.toArray [.ref (ad 3)]) s 0 0 A) (F0 m 82 ls []) := by
    intro v82_1 v82_2 H locs ls w1 r2 t3 r4 t5 hw hT hF hM hl
    refine lv_aload_n hx hb dX3_readSum_82 rfl (lv_at hl 0 rfl) ?_
    refine lv_iload_n hx hb dX3_readSum_83 rfl (lv_at hl 1 rfl) ?_
    refine tk_Vv hC hK hw hT hA hE hSR kC_at3 (by decide) rfl (kz_X3_addWaiting_1 l adK adV dC dI cy ad B hB0 (Int.le_trans hB1 (by decide)) qr s1 hqr  v82_1 w1 H.size hT ) (cwV 1 hC.2.2.2.2 uV_RX3_79 rfl rfl rfl (by decide +kernel) ⟨Nat.le_of_ble_eq_true rfl, Nat.le_of_ble_eq_true rfl⟩) rfl hl.1 rfl (Nat.le_of_ble_eq_true rfl) dX3_readSum_84 (fun w8 H locs hp7 hw => ?_)
    obtain ⟨hT, k9, hv11, hg10⟩ := hp7
    have hF := hF.tr k9 (by decide)
    clear hg10
    replace hM := hM.call hv11 rfl
    exact tk_vret hC hr hlocks hK ⟨hT, hF, hM.ret rfl, trivial⟩ hw dX3_readSum_87
  have L8 : ∀ (n8 : Nat) (v8_1 : Int32) (v8_2 : Int32) (H : Heap) (locs : List Loc) (ls : Array Slot) (w12 : va_W), (-1) ≤ v8_1.toInt → v8_1.toInt ≤ 12 → 0 ≤ v8_2.toInt → v8_2.toInt ≤ 400 → (400 - v8_2.toInt).toNat < n8 → Wd dC dI A s.heap H locs w12 → TW ksC ad cy B qr s1 w12 → FE ksC [(2, 3, 3), (3, 2, 2), (6, 1, 1), (6, 3, 3), (6, 4, 4), (22, 0, 13), (23, 0, 400)] w0 w12 → TT (fun n => m_X3_readSum n qr 3 (sI w0)) (fun n => j_X3_readSum qr 3 n 8 [v8_1.toInt, v8_2.toInt] (sI w12)) → lv_has ls 4 [(0, .ref (ad 3)), (1, .int v8_1), (2, .int v8_2)] → W p l e ({ frames := 7, cells := 0, slots := 0, locals := 188 }) s m (List.toArray [.ref (ad 3)]) below meth c H locs 0 0 (MQ below (va_Qv (Pz_X3_readSum_3 ad cy B qr s1  w0) (fun u : va_W => wpost dC dI cy A u) A) (List.toArray [.ref (ad 3)]) s 0 0 A) (F0 m 8 ls []) := by
    intro n8
    induction n8 with
    | zero => intro v8_1 v8_2 H locs ls w12 r13 t14 r15 t16 hm8 hw hT hF hM hl; omega
    | succ n8 ih8 =>
      intro v8_1 v8_2 H locs ls w12 r13 t14 r15 t16 hm8 hw hT hF hM hl
      have J76 : ∀ (v76_1 : Int32) (v76_3 : Int32) (f76_1_2 : Int32) (H : Heap) (locs : List Loc) (ls : Array Slot) (w17 : va_W), (-1) ≤ v76_1.toInt → v76_1.toInt ≤ 12 → 0 ≤ v8_2.toInt → v8_2.toInt ≤ 399 → 10 ≤ v76_3.toInt → v76_3.toInt ≤ 13 → 1 ≤ f76_1_2.toInt → f76_1_2.toInt ≤ 400 → Wd dC dI A s.heap H locs w17 → TW ksC ad cy B qr s1 w17 → FE ksC [(2, 3, 3), (3, 2, 2), (6, 1, 1), (6, 3, 3), (6, 4, 4), (22, 0, 13), (23, 0, 400)] w0 w17 → gi w17 1 2 = f76_1_2 → TT (fun n => m_X3_readSum n qr 3 (sI w0)) (fun n => b_X3_readSum_76 (j_X3_readSum qr 3 n) n qr 3 (v76_1.toInt) (v8_2.toInt) (sI w17)) → lv_has ls 4 [(0, .ref (ad 3)), (1, .int v76_1), (2, .int v8_2), (3, .int v76_3)] → W p l e ({ frames := 7, cells := 0, slots := 0, locals := 188 }) s m (List.toArray [.ref (ad 3)]) below meth c H locs 0 0 (MQ below (va_Qv (Pz_X3_readSum_3 ad cy B qr s1  w0) (fun u : va_W => wpost dC dI cy A u) A) (List.toArray [.ref (ad 3)]) s 0 0 A) (F0 m 76 ls []) := by
        intro v76_1 v76_3 f76_1_2 H locs ls w17 r18 t19 r20 t21 r22 t23 r24 t25 hw hT hF c26 hM hl
        obtain ⟨x27, ex27⟩ : ∃ y : Int32, y = v8_2 + Int32.ofInt 1 := ⟨_, rfl⟩
        have erx27 := ex27
        refine lv_iinc (v := x27) (lv' := [(2, .int x27), (0, .ref (ad 3)), (1, .int v76_1), (3, .int v76_3)]) hx hb dX3_readSum_76 hl (k := 2) rfl ex27.symm (by decide) rfl (fun ls hl => ?_)
        have ex27 : x27.toInt = v8_2.toInt + 1 := by rw [ex27]; exact wk_add (y := 1) (show -2147483648 ≤ v8_2.toInt + 1 by omega) (show v8_2.toInt + 1 ≤ 2147483647 by omega)
        replace hM := hM.lt ex27.symm
        refine lv_goto (tgt := 8) hx hb dX3_readSum_79 (by decide) ?_
        exact ih8 v76_1 x27 H locs ls w17 (show (-1) ≤ v76_1.toInt from r18) (show v76_1.toInt ≤ 12 from t19) (show 0 ≤ x27.toInt by first | with_reducible assumption | omega) (show x27.toInt ≤ 400 by first | with_reducible assumption | omega) (show (400 - x27.toInt).toNat < n8 by first | exact tn_lt hm8 (by omega) (by omega) | omega) hw hT hF hM (lv_sub hl [1, 2, 0] rfl)
      have J50 : ∀ (v50_3 : Int32) (f50_1_2 : Int32) (f50_1_3 : Int32) (H : Heap) (locs : List Loc) (ls : Array Slot) (w28 : va_W), (-1) ≤ v8_1.toInt → v8_1.toInt ≤ 12 → 0 ≤ v8_2.toInt → v8_2.toInt ≤ 399 → 12 ≤ v50_3.toInt → v50_3.toInt ≤ 13 → 1 ≤ f50_1_2.toInt → f50_1_2.toInt ≤ 400 → 0 ≤ f50_1_3.toInt → f50_1_3.toInt ≤ 399 → Wd dC dI A s.heap H locs w28 → TW ksC ad cy B qr s1 w28 → FE ksC [(2, 3, 3), (3, 2, 2), (6, 1, 1), (6, 3, 3), (6, 4, 4), (22, 0, 13), (23, 0, 400)] w0 w28 → gi w28 1 2 = f50_1_2 → gi w28 1 3 = f50_1_3 → gi w28 1 4 = 0 → TT (fun n => m_X3_readSum n qr 3 (sI w0)) (fun n => b_X3_readSum_50 (j_X3_readSum qr 3 n) n qr 3 (v8_1.toInt) (v8_2.toInt) (v50_3.toInt) (sI w28)) → lv_has ls 4 [(0, .ref (ad 3)), (1, .int v8_1), (2, .int v8_2), (3, .int v50_3)] → W p l e ({ frames := 7, cells := 0, slots := 0, locals := 188 }) s m (List.toArray [.ref (ad 3)]) below meth c H locs 0 0 (MQ below (va_Qv (Pz_X3_readSum_3 ad cy B qr s1  w0) (fun u : va_W => wpost dC dI cy A u) A) (List.toArray [.ref (ad 3)]) s 0 0 A) (F0 m 50 ls []) := by
        intro v50_3 f50_1_2 f50_1_3 H locs ls w28 r29 t30 r31 t32 r33 t34 r35 t36 r38 t39 hw hT hF c37 c40 c41 hM hl
        refine lv_aload_n hx hb dX3_readSum_50 rfl (lv_at hl 0 rfl) ?_
        refine tk_Vv hC hK hw hT hA hE hSR kC_at3 (by decide) rfl (kz_X3_readValue_1 l adK adV dC dI cy ad B hB0 (Int.le_trans hB1 (by decide)) qr s1 hqr   w28 H.size hT c41) (cwV 0 hC.2.2.2.2 uV_RX3_110 rfl rfl rfl (by decide +kernel) ⟨Nat.le_of_ble_eq_true rfl, Nat.le_of_ble_eq_true rfl⟩) rfl hl.1 rfl (Nat.le_of_ble_eq_true rfl) dX3_readSum_51 (fun w44 H locs hp43 hw => ?_)
        obtain ⟨hT, k45, hv47, hg46⟩ := hp43
        have hF := hF.tr k45 (by decide)
        have c48 := k45.gi kC_at1 (by decide) c37
        clear hg46
        replace hM := hM.call hv47 rfl
        refine lv_aload_n hx hb dX3_readSum_54 rfl (lv_at hl 0 rfl) ?_
        refine tk_getQ hC hK hw hT hqr (by decide) hinX3 kC_at3 (by decide) rfl 1 (by decide) (List.mem_cons_of_mem _ uw_26_17) rfl rfl dX3_readSum_55 ?_
        refine lv_iload_n hx hb dX3_readSum_58 rfl (lv_at hl 3 rfl) ?_
        refine tk_Vv hC hK hw hT hA hE hSR hqr (by decide) rfl (kz_X2_addToken_1 l adK adV dC dI cy ad B hB0 (Int.le_trans hB1 (by decide)) qr s1   qr hqr v50_3 w44 H.size hT ) (cwV 1 hC.2.2.2.2 uV_RX3_74 rfl rfl rfl (by decide +kernel) ⟨Nat.le_of_ble_eq_true rfl, Nat.le_of_ble_eq_true rfl⟩) rfl hl.1 rfl (Nat.le_of_ble_eq_true rfl) dX3_readSum_59 (fun w51 H locs hp50 hw => ?_)
        obtain ⟨hT, k52, hv56, hg55⟩ := hp50
        have hF := hF.tr k52 (by decide)
        have c57 := k52.gi kC_at1 (by decide) c48
        obtain ⟨x53, c54, rx53, tx53⟩ := hg55
        replace hM := hM.call hv56 rfl
        refine lv_goto (tgt := 76) hx hb dX3_readSum_62 (by decide) ?_
        exact J76 v8_1 v50_3 f50_1_2 H locs ls w51 (show (-1) ≤ v8_1.toInt from r29) (show v8_1.toInt ≤ 12 from t30) (show 0 ≤ v8_2.toInt from r31) (show v8_2.toInt ≤ 399 from t32) (show 10 ≤ v50_3.toInt from Int.le_trans (by decide) r33) (show v50_3.toInt ≤ 13 from t34) (show 1 ≤ f50_1_2.toInt from r35) (show f50_1_2.toInt ≤ 400 from t36)  hw hT hF c57 hM (lv_sub hl [0, 1, 2, 3] rfl)
      replace hM := hM.suc (fun _ => e_X3_readSum_8)
      refine lv_iload_n hx hb dX3_readSum_8 rfl (lv_at hl 2 rfl) ?_
      refine lv_sipush (v := 400) hx hb dX3_readSum_9 (by decide) ?_
      refine lv_icmp_ge (tgt := 82) hx hb dX3_readSum_12 (by decide) (fun c58 => ?_) (fun c58 => ?_)
      · have c58 : (400 : Int) ≤ v8_2.toInt := wk_le.mp c58
        replace hM := hM.pos c58
        exact J82 v8_1 v8_2 H locs ls w12 (show (-1) ≤ v8_1.toInt from r13) (show v8_1.toInt ≤ 12 from t14) (show 0 ≤ v8_2.toInt from r15) (show v8_2.toInt ≤ 400 from t16)  hw hT hF hM (lv_sub hl [0, 1, 2] rfl)
      · have c58 : v8_2.toInt < (400 : Int) := wk_leF c58
        replace hM := hM.neg (Int.not_le.mpr c58)
        refine lv_aload_n hx hb dX3_readSum_15 rfl (lv_at hl 0 rfl) ?_
        refine tk_getA hC hK hw hT hinX3 kC_at3 (by decide) rfl 0 (by decide) (List.mem_cons_of_mem _ uw_3_12) rfl rfl dX3_readSum_16 ?_
        refine tk_Vi hC hK hw hT hA hE hSR kC_at1 (by decide) rfl (kz_X6_isFaulty_1 l adK adV dC dI cy ad B hB0 (Int.le_trans hB1 (by decide)) qr s1    w12 H.size hT ) (cwV 0 hC.2.2.2.2 uV_RX3_54 rfl rfl rfl (by decide +kernel) ⟨Nat.le_of_ble_eq_true rfl, Nat.le_of_ble_eq_true rfl⟩) rfl hl.1 rfl (Nat.le_of_ble_eq_true rfl) dX3_readSum_19 (fun r59 w61 H locs hp60 hw => ?_)
        obtain ⟨hT, k62, hv68, hg67⟩ := hp60
        have hF := hF.tr k62 (by decide)
        rcases hg67 with ⟨rfl, ⟨x63, c64, rx63, tx63⟩⟩ | ⟨rfl, ⟨x65, c66, rx65, tx65⟩⟩
        · replace hM := hM.call (r' := 0) hv68 (by decide)
          refine lv_if_ne (tgt := 82) hx hb dX3_readSum_22 (by decide) (fun c => absurd (by decide) c) (fun _ => ?_)
          replace hM := hM.neg (by decide)
          refine lv_aload_n hx hb dX3_readSum_25 rfl (lv_at hl 0 rfl) ?_
          refine tk_Vi hC hK hw hT hA hE hSR kC_at3 (by decide) rfl (kz_X3_takeOperator_1 l adK adV dC dI cy ad B hB0 (Int.le_trans hB1 (by decide)) qr s1    w61 H.size hT ) (cwV 0 hC.2.2.2.2 uV_RX3_113 rfl rfl rfl (by decide +kernel) ⟨Nat.le_of_ble_eq_true rfl, Nat.le_of_ble_eq_true rfl⟩) rfl hl.1 rfl (Nat.le_of_ble_eq_true rfl) dX3_readSum_26 (fun r69 w71 H locs hp70 hw => ?_)
          obtain ⟨hT, k72, hv80, hg79⟩ := hp70
          have hF := hF.tr k72 (by decide)
          have c81 := k72.gi kC_at1 (by decide) c64
          rcases hg79 with ⟨g73, g74, ⟨x75, c76, rx75, tx75⟩, ⟨x77, c78, rx77, tx77⟩⟩ | rfl
          · replace hM := hM.call hv80 rfl
            refine lv_istore_n (lv' := [(3, .int r69), (0, .ref (ad 3)), (1, .int v8_1), (2, .int v8_2)]) hx hb dX3_readSum_29 rfl hl (by decide) rfl (fun ls hl => ?_)
            refine lv_iload_n hx hb dX3_readSum_30 rfl (lv_at hl 0 rfl) ?_
            refine lv_iconst (v := (-1)) hx hb dX3_readSum_31 (by decide) ?_
            refine lv_icmp_ne (tgt := 38) hx hb dX3_readSum_32 (by decide) (fun _ => ?_) (fun c => absurd (show r69.toInt = (-1 : Int) from wk_eq.mp c) (by omega))
            replace hM := hM.pos (by omega)
            refine lv_iload_n hx hb dX3_readSum_38 rfl (lv_at hl 0 rfl) ?_
            refine lv_bipush (v := 12) hx hb dX3_readSum_39 (by decide) ?_
            refine lv_icmp_eq (tgt := 50) hx hb dX3_readSum_41 (by decide) (fun c82 => ?_) (fun c82 => ?_)
            · have c82 : r69.toInt = (12 : Int) := wk_eq.mp c82
              replace hM := hM.pos c82
              obtain rfl : x63 = 0 := wk_eq.mpr (show x63.toInt = 0 by first | exact Int.le_antisymm (by omega) (by omega) | omega)
              try simp only [show (0 : Int32).toInt = 0 by decide] at hM
              exact J50 r69 x75 x77 H locs ls w71 (show (-1) ≤ v8_1.toInt from r13) (show v8_1.toInt ≤ 12 from t14) (show 0 ≤ v8_2.toInt from r15) (show v8_2.toInt ≤ 399 by first | with_reducible assumption | omega) (show 12 ≤ r69.toInt by first | with_reducible assumption | omega) (show r69.toInt ≤ 13 by first | with_reducible assumption | omega) (show 1 ≤ x75.toInt by first | with_reducible assumption | omega) (show x75.toInt ≤ 400 by first | with_reducible assumption | omega) (show 0 ≤ x77.toInt by first | with_reducible assumption | omega) (show x77.toInt ≤ 399 by first | with_reducible assumption | omega)  hw hT hF c76 c78 c81 hM (lv_sub hl [1, 2, 3, 0] rfl)
            · have c82 : ¬ r69.toInt = (12 : Int) := wk_eqF c82
              replace hM := hM.neg c82
              refine lv_iload_n hx hb dX3_readSum_44 rfl (lv_at hl 0 rfl) ?_
              refine lv_bipush (v := 13) hx hb dX3_readSum_45 (by decide) ?_
              refine lv_icmp_ne (tgt := 65) hx hb dX3_readSum_47 (by decide) (fun c83 => ?_) (fun c83 => ?_)
              · have c83 : ¬ r69.toInt = (13 : Int) := wk_eqF c83
                replace hM := hM.pos c83
                refine lv_aload_n hx hb dX3_readSum_65 rfl (lv_at hl 1 rfl) ?_
                refine lv_iload_n hx hb dX3_readSum_66 rfl (lv_at hl 2 rfl) ?_
                refine tk_Vv hC hK hw hT hA hE hSR kC_at3 (by decide) rfl (kz_X3_addWaiting_1 l adK adV dC dI cy ad B hB0 (Int.le_trans hB1 (by decide)) qr s1 hqr  v8_1 w71 H.size hT ) (cwV 1 hC.2.2.2.2 uV_RX3_79 rfl rfl rfl (by decide +kernel) ⟨Nat.le_of_ble_eq_true rfl, Nat.le_of_ble_eq_true rfl⟩) rfl hl.1 rfl (Nat.le_of_ble_eq_true rfl) dX3_readSum_67 (fun w86 H locs hp85 hw => ?_)
                obtain ⟨hT, k87, hv89, hg88⟩ := hp85
                have hF := hF.tr k87 (by decide)
                have c90 := k87.gi kC_at1 (by decide) c81
                have c91 := k87.gi kC_at1 (by decide) c76
                have c92 := k87.gi kC_at1 (by decide) c78
                clear hg88
                replace hM := hM.call hv89 rfl
                refine lv_iload_n hx hb dX3_readSum_70 rfl (lv_at hl 0 rfl) ?_
                refine lv_istore_n (lv' := [(1, .int r69), (3, .int r69), (0, .ref (ad 3)), (2, .int v8_2)]) hx hb dX3_readSum_71 rfl hl (by decide) rfl (fun ls hl => ?_)
                refine lv_aload_n hx hb dX3_readSum_72 rfl (lv_at hl 2 rfl) ?_
                refine tk_Vv hC hK hw hT hA hE hSR kC_at3 (by decide) rfl (kz_X3_readValue_1 l adK adV dC dI cy ad B hB0 (Int.le_trans hB1 (by decide)) qr s1 hqr   w86 H.size hT (c90.trans (wk_eq.mpr (show x63.toInt = 0 by first | exact Int.le_antisymm (by omega) (by omega) | omega)))) (cwV 0 hC.2.2.2.2 uV_RX3_110 rfl rfl rfl (by decide +kernel) ⟨Nat.le_of_ble_eq_true rfl, Nat.le_of_ble_eq_true rfl⟩) rfl hl.1 rfl (Nat.le_of_ble_eq_true rfl) dX3_readSum_73 (fun w95 H locs hp94 hw => ?_)
                obtain ⟨hT, k96, hv98, hg97⟩ := hp94
                have hF := hF.tr k96 (by decide)
                have c99 := k96.gi kC_at1 (by decide) c91
                clear hg97
                replace hM := hM.call hv98 rfl
                exact J76 r69 r69 x75 H locs ls w95 (show (-1) ≤ r69.toInt by first | with_reducible assumption | omega) (show r69.toInt ≤ 12 by first | with_reducible assumption | omega) (show 0 ≤ v8_2.toInt from r15) (show v8_2.toInt ≤ 399 by first | with_reducible assumption | omega) (show 10 ≤ r69.toInt by first | with_reducible assumption | omega) (show r69.toInt ≤ 13 by first | with_reducible assumption | omega) (show 1 ≤ x75.toInt by first | with_reducible assumption | omega) (show x75.toInt ≤ 400 by first | with_reducible assumption | omega)  hw hT hF c99 hM (lv_sub hl [2, 0, 3, 1] rfl)
              · have c83 : r69.toInt = (13 : Int) := wk_eq.mp c83
                replace hM := hM.neg (fun q => q c83)
                obtain rfl : x63 = 0 := wk_eq.mpr (show x63.toInt = 0 by first | exact Int.le_antisymm (by omega) (by omega) | omega)
                try simp only [show (0 : Int32).toInt = 0 by decide] at hM
                exact J50 r69 x75 x77 H locs ls w71 (show (-1) ≤ v8_1.toInt from r13) (show v8_1.toInt ≤ 12 from t14) (show 0 ≤ v8_2.toInt from r15) (show v8_2.toInt ≤ 399 by first | with_reducible assumption | omega) (show 12 ≤ r69.toInt by first | with_reducible assumption | omega) (show r69.toInt ≤ 13 by first | with_reducible assumption | omega) (show 1 ≤ x75.toInt by first | with_reducible assumption | omega) (show x75.toInt ≤ 400 by first | with_reducible assumption | omega) (show 0 ≤ x77.toInt by first | with_reducible assumption | omega) (show x77.toInt ≤ 399 by first | with_reducible assumption | omega)  hw hT hF c76 c78 c81 hM (lv_sub hl [1, 2, 3, 0] rfl)
          · replace hM := hM.call (r' := (-1)) hv80 (by decide)
            refine lv_istore_n (lv' := [(3, .int (-1)), (0, .ref (ad 3)), (1, .int v8_1), (2, .int v8_2)]) hx hb dX3_readSum_29 rfl hl (by decide) rfl (fun ls hl => ?_)
            refine lv_iload_n hx hb dX3_readSum_30 rfl (lv_at hl 0 rfl) ?_
            refine lv_iconst (v := (-1)) hx hb dX3_readSum_31 (by decide) ?_
            refine lv_icmp_ne (tgt := 38) hx hb dX3_readSum_32 (by decide) (fun c => absurd (by decide) c) (fun _ => ?_)
            replace hM := hM.neg (by decide)
            refine lv_goto (tgt := 82) hx hb dX3_readSum_35 (by decide) ?_
            exact J82 v8_1 v8_2 H locs ls w71 (show (-1) ≤ v8_1.toInt from r13) (show v8_1.toInt ≤ 12 from t14) (show 0 ≤ v8_2.toInt from r15) (show v8_2.toInt ≤ 400 from t16)  hw hT hF hM (lv_sub hl [1, 2, 3] rfl)
        · replace hM := hM.call (r' := 1) hv68 (by decide)
          refine lv_if_ne (tgt := 82) hx hb dX3_readSum_22 (by decide) (fun _ => ?_) (fun c => absurd c (by decide))
          replace hM := hM.pos (by decide)
          exact J82 v8_1 v8_2 H locs ls w61 (show (-1) ≤ v8_1.toInt from r13) (show v8_1.toInt ≤ 12 from t14) (show 0 ≤ v8_2.toInt from r15) (show v8_2.toInt ≤ 400 from t16)  hw hT hF hM (lv_sub hl [0, 1, 2] rfl)
  have hM : TT (fun n => m_X3_readSum n qr 3 (sI w0)) (fun n => m_X3_readSum n qr 3 (sI w0)) := TT.rf
  refine lv_aload_n hx hb dX3_readSum_0 rfl (lv_at hl 0 rfl) ?_
  refine tk_Vv hC hK hw hT hA hE hSR kC_at3 (by decide) rfl (kz_X3_readValue_3 l adK adV dC dI cy ad B hB0 (Int.le_trans hB1 (by decide)) qr s1 hqr   w0 s.heap.size hT ) (cwV 0 hC.2.2.2.2 uV_RX3_110 rfl rfl rfl (by decide +kernel) ⟨Nat.le_of_ble_eq_true rfl, Nat.le_of_ble_eq_true rfl⟩) rfl hl.1 rfl (Nat.le_of_ble_eq_true rfl) dX3_readSum_1 (fun w102 H locs hp101 hw => ?_)
  obtain ⟨hT, k103, hv107, hg106⟩ := hp101
  have hF := hF.tr k103 (by decide)
  rcases hg106 with - | ⟨x104, c105, rx104, tx104⟩
  · replace hM := hM.call hv107 rfl
    refine lv_iconst (v := (-1)) hx hb dX3_readSum_4 (by decide) ?_
    refine lv_istore_n (lv' := [(1, .int (-1)), (0, .ref (ad 3))]) hx hb dX3_readSum_5 rfl hl (by decide) rfl (fun ls hl => ?_)
    refine lv_iconst (v := 0) hx hb dX3_readSum_6 (by decide) ?_
    refine lv_istore_n (lv' := [(2, .int 0), (1, .int (-1)), (0, .ref (ad 3))]) hx hb dX3_readSum_7 rfl hl (by decide) rfl (fun ls hl => ?_)
    exact L8 ((400 - (0 : Int)).toNat + 1) (-1) 0 H locs ls w102 (by decide) (by decide) (by decide) (by decide) (Nat.lt_succ_self _) hw hT hF hM (lv_sub hl [2, 1, 0] rfl)
  · replace hM := hM.call hv107 rfl
    refine lv_iconst (v := (-1)) hx hb dX3_readSum_4 (by decide) ?_
    refine lv_istore_n (lv' := [(1, .int (-1)), (0, .ref (ad 3))]) hx hb dX3_readSum_5 rfl hl (by decide) rfl (fun ls hl => ?_)
    refine lv_iconst (v := 0) hx hb dX3_readSum_6 (by decide) ?_
    refine lv_istore_n (lv' := [(2, .int 0), (1, .int (-1)), (0, .ref (ad 3))]) hx hb dX3_readSum_7 rfl hl (by decide) rfl (fun ls hl => ?_)
    exact L8 ((400 - (0 : Int)).toNat + 1) (-1) 0 H locs ls w102 (by decide) (by decide) (by decide) (by decide) (Nat.lt_succ_self _) hw hT hF hM (lv_sub hl [2, 1, 0] rfl)
abbrev Pz_X6_takeWord_4 (ad : Nat → Nat) (cy : Nat → ClassId) (B : Int) (qr : Nat) (s1 : Int)  (w0 : va_W) : Int32 → va_W → Prop := fun r u => TW ksC ad cy B qr s1 u ∧ FE ksC [(6, 1, 1), (6, 3, 3)] w0 u ∧ Ev (fun n => m_X6_takeWord n 1 4 (sI w0)) (r.toInt, sI u) ∧ ((r = 0) ∨ (r = 1 ∧ (∃ y : Int32, gi u 1 1 = y ∧ 3 ≤ y.toInt ∧ y.toInt ≤ 400)))
set_option maxHeartbeats 4000000 in
set_option maxRecDepth 100000 in
theorem kz_X6_takeWord_4 (l : Launch) (adK adV : Nat → Nat) (dC : Nat → ClassId) (dI : Nat → Nat → Nat) (cy : Nat → ClassId) (ad : Nat → Nat) (B : Int) (hB0 : 2147483648 ≤ B) (hB1 : B ≤ 1152921504606846976) (qr : Nat) (s1 : Int)   (w0 : va_W) (sz : Nat) (hT : TW ksC ad cy B qr s1 w0)  : Met l yX6_takeWord (wu yX6_takeWord cX6_takeWord 4 (some .boolean)) ({ frames := 5, cells := 0, slots := 0, locals := 141 }) (va_Pc [.ref (ad 1), .ref (adK 4)] (wpreS adK adV dC dI cy sz w0)) (va_Qi (Pz_X6_takeWord_4 ad cy B qr s1  w0) (fun u : va_W => wpost dC dI cy (va_A w0 sz) u) (va_A w0 sz)) 0 0 (va_A w0 sz) := by
  refine Met.ofW (cc := cX6_takeWord) (maxL := 4) (ret := (some .boolean)) (by decide) rfl ?_
  intro p e s m args below meth c s₁ Bk hml hv
  obtain ⟨rfl, ⟨hsz, hP, hK, hD0⟩, hE, hSR⟩ := hv
  have hx := Bk.exec
  have hb := Bk.bytes
  have hr := Bk.returns
  have hlocks := Bk.notSynchronized
  have hC : CallFix p m c cX6_takeWord 4 s _ (wu yX6_takeWord cX6_takeWord 4 (some .boolean)) RX6 := ⟨hx, hb, hml, findClass_of_methodNamed Bk.named, atoms_spec (ws := (wu yX6_takeWord cX6_takeWord 4 (some .boolean))) Bk.pre⟩
  subst hsz
  have hD := hD0.self (sz := s.heap.size)
  generalize hAe : va_A w0 s.heap.size = A at hD hE ⊢
  have hA : ∀ q : Nat, s.heap.size ≤ q → A q := fun q h => by rw [← hAe]; exact Or.inr h
  have hw : Wd dC dI A s.heap s.heap [] w0 := ⟨hP, hD, va_S.rf⟩
  have hF : FE ksC [(6, 1, 1), (6, 3, 3)] w0 w0 := FE.rf
  have hl := lv_entry ([.ref (ad 1), .ref (adK 4)]) (n := 4) (Nat.le_of_ble_eq_true rfl)
  rw [lg_entry_eq]
  generalize (lg_sl ([.ref (ad 1), .ref (adK 4)]) ++ List.replicate (4 - (lg_sl ([.ref (ad 1), .ref (adK 4)])).length) Slot.unset).toArray = ls at hl ⊢
  have hl : lv_has ls 4 [(0, .ref (ad 1)), (1, .ref (adK 4))] := hl
  generalize hloc : ([] : List Loc) = locs at hw ⊢
  have hinX6 : ∀ w ∈ u_ws RX6 TX6 5, w ∈ (wu yX6_takeWord cX6_takeWord 4 (some .boolean)) := fun _ h => List.mem_cons_of_mem _ (up_72 h)
  have L27 : ∀ (n27 : Nat) (v27_2 : Int32) (v27_3 : Int32) (f27_1_1 : Int32) (H : Heap) (locs : List Loc) (ls : Array Slot) (w1 : va_W), 3 ≤ v27_2.toInt → v27_2.toInt ≤ 400 → 0 ≤ v27_3.toInt → v27_3.toInt ≤ 3 → 0 ≤ f27_1_1.toInt → f27_1_1.toInt ≤ 397 → (3 - v27_3.toInt).toNat < n27 → Wd dC dI A s.heap H locs w1 → TW ksC ad cy B qr s1 w1 → FE ksC [(6, 1, 1), (6, 3, 3)] w0 w1 → gi w1 1 1 = f27_1_1 → TT (fun n => m_X6_takeWord n 1 4 (sI w0)) (fun n => j_X6_takeWord 1 4 n 27 [v27_2.toInt, v27_3.toInt] (sI w1)) → lv_has ls 4 [(0, .ref (ad 1)), (1, .ref (adK 4)), (2, .int v27_2), (3, .int v27_3)] → W p l e ({ frames := 5, cells := 0, slots := 0, locals := 141 }) s m (List.toArray [.ref (ad 1), .ref (adK 4)]) below meth c H locs 0 0 (MQ below (va_Qi (Pz_X6_takeWord_4 ad cy B qr s1  w0) (fun u : va_W => wpost dC dI cy A u) A) (List.toArray [.ref (ad 1), .ref (adK 4)]) s 0 0 A) (F0 m 27 ls []) := by
    intro n27
    induction n27 with
    | zero => intro v27_2 v27_3 f27_1_1 H locs ls w1 r2 t3 r4 t5 r6 t7 hm27 hw hT hF c8 hM hl; omega
    | succ n27 ih27 =>
      intro v27_2 v27_3 f27_1_1 H locs ls w1 r2 t3 r4 t5 r6 t7 hm27 hw hT hF c8 hM hl
      replace hM := hM.suc (fun _ => e_X6_takeWord_27)
      refine lv_iload_n hx hb dX6_takeWord_27 rfl (lv_at hl 3 rfl) ?_
      refine lv_aload_n hx hb dX6_takeWord_28 rfl (lv_at hl 1 rfl) ?_
      refine tk_ViT hC hK hw hA hE hSR (s_length l adK adV dC dI cy 4 (by decide) H.size) (cwV 0 hC.2.2.2.2 uV_RX6_56 rfl rfl rfl (by decide +kernel) ⟨Nat.le_of_ble_eq_true rfl, Nat.le_of_ble_eq_true rfl⟩) 4 (by decide) rfl rfl rfl hl.1 rfl (Nat.le_of_ble_eq_true rfl) dX6_takeWord_29 (fun r9 H locs hp10 hw => ?_)
      obtain ⟨-, hp10⟩ := hp10
      obtain rfl : r9 = 3 := hp10
      replace hM := hM.lt (v := 3) (by decide)
      refine lv_icmp_ge (tgt := 62) hx hb dX6_takeWord_32 (by decide) (fun c11 => ?_) (fun c11 => ?_)
      · have c11 : (3 : Int) ≤ v27_3.toInt := wk_le.mp c11
        replace hM := hM.pos c11
        refine lv_aload_n hx hb dX6_takeWord_62 rfl (lv_at hl 0 rfl) ?_
        refine lv_iload_n hx hb dX6_takeWord_63 rfl (lv_at hl 2 rfl) ?_
        refine tk_puti hC hK hw hT hinX6 tyX6_ok nmX6 kC_at1 (by decide) rfl rfl 1 (by decide) (List.mem_cons_of_mem _ uw_9_16) rfl rfl rfl rfl (show 0 ≤ v27_2.toInt from Int.le_trans (by decide) r2) (show v27_2.toInt ≤ 400 from t3) dX6_takeWord_64 (fun H locs w12 hw hT k14 c13 => ?_)
        replace hM := hM.wr (sI_up k14 c13)
        have hF := hF.put kC_at1 (k := 1) (by decide) k14
        refine lv_iconst (v := 1) hx hb dX6_takeWord_67 (by decide) ?_
        exact tk_zret hC hr rfl hlocks hK ⟨hT, hF, hM.ret (by decide), (Or.inr ⟨rfl, ⟨v27_2, c13, (show 3 ≤ v27_2.toInt from r2), (show v27_2.toInt ≤ 400 from t3)⟩⟩)⟩ hw dX6_takeWord_68
      · have c11 : v27_3.toInt < (3 : Int) := wk_leF c11
        replace hM := hM.neg (Int.not_le.mpr c11)
        refine lv_aload_n hx hb dX6_takeWord_35 rfl (lv_at hl 0 rfl) ?_
        refine tk_getA hC hK hw hT hinX6 kC_at1 (by decide) rfl 0 (by decide) (List.mem_cons_of_mem _ uw_2_12) rfl rfl dX6_takeWord_36 ?_
        refine lv_aload_n hx hb dX6_takeWord_39 rfl (lv_at hl 0 rfl) ?_
        refine tk_geti hC hK hw hT hinX6 kC_at1 (by decide) rfl 1 (by decide) (List.mem_cons_of_mem _ uw_9_16) rfl rfl dX6_takeWord_40 (fun x15 c16 rx15 tx15 => ?_)
        refine wk_top f27_1_1 (c16.symm.trans c8) ?_
        replace hM := hM.rd (sI_at c8)
        refine lv_iload_n hx hb dX6_takeWord_43 rfl (lv_at hl 3 rfl) ?_
        refine lv_iadd hx hb dX6_takeWord_44 ?_
        refine lv_topi (fun x17 ex17 => ?_)
        have ezx17 := ex17
        have ex17 : x17.toInt = f27_1_1.toInt + v27_3.toInt := by rw [ex17]; exact wk_add (show (-2147483648) ≤ f27_1_1.toInt + v27_3.toInt by omega) (show f27_1_1.toInt + v27_3.toInt ≤ 2147483647 by omega)
        replace hM := hM.lt ex17.symm
        refine tk_iald hC hK hw hT kC_at2 rfl rfl (show 0 ≤ x17.toInt by first | with_reducible assumption | omega) (show x17.toInt < 400 by first | with_reducible assumption | omega) dX6_takeWord_45 (fun x18 c19 rx18 tx18 => ?_)
        have hox18 := c19
        replace hM := hM.rd (sI_at hox18)
        refine lv_aload_n hx hb dX6_takeWord_46 rfl (lv_at hl 1 rfl) ?_
        refine lv_iload_n hx hb dX6_takeWord_47 rfl (lv_at hl 3 rfl) ?_
        refine tk_ViT hC hK hw hA hE hSR (s_charAt l adK adV dC dI cy 4 (by decide) v27_3 (show 0 ≤ v27_3.toInt from r4) (show v27_3.toInt < 3 by first | with_reducible assumption | omega) H.size) (cwV 1 hC.2.2.2.2 uV_RX6_60 rfl rfl rfl (by decide +kernel) ⟨Nat.le_of_ble_eq_true rfl, Nat.le_of_ble_eq_true rfl⟩) 4 (by decide) rfl rfl rfl hl.1 rfl (Nat.le_of_ble_eq_true rfl) dX6_takeWord_48 (fun r20 H locs hp21 hw => ?_)
        obtain ⟨-, hp21⟩ := hp21
        replace hM := hM.lt (chS_e hp21 rfl)
        refine lv_icmp_eq (tgt := 56) hx hb dX6_takeWord_51 (by decide) (fun c22 => ?_) (fun c22 => ?_)
        · have c22 : x18.toInt = r20.toInt := wk_eq.mp c22
          replace hM := hM.pos c22
          obtain ⟨x23, ex23⟩ : ∃ y : Int32, y = v27_3 + Int32.ofInt 1 := ⟨_, rfl⟩
          have erx23 := ex23
          refine lv_iinc (v := x23) (lv' := [(3, .int x23), (0, .ref (ad 1)), (1, .ref (adK 4)), (2, .int v27_2)]) hx hb dX6_takeWord_56 hl (k := 3) rfl ex23.symm (by decide) rfl (fun ls hl => ?_)
          have ex23 : x23.toInt = v27_3.toInt + 1 := by rw [ex23]; exact wk_add (y := 1) (show -2147483648 ≤ v27_3.toInt + 1 by omega) (show v27_3.toInt + 1 ≤ 2147483647 by omega)
          replace hM := hM.lt ex23.symm
          refine lv_goto (tgt := 27) hx hb dX6_takeWord_59 (by decide) ?_
          exact ih27 v27_2 x23 f27_1_1 H locs ls w1 (show 3 ≤ v27_2.toInt from r2) (show v27_2.toInt ≤ 400 from t3) (show 0 ≤ x23.toInt by first | with_reducible assumption | omega) (show x23.toInt ≤ 3 by first | with_reducible assumption | omega) (show 0 ≤ f27_1_1.toInt from r6) (show f27_1_1.toInt ≤ 397 from t7) (show (3 - x23.toInt).toNat < n27 by first | exact tn_lt hm27 (by omega) (by omega) | omega) hw hT hF c8 hM (lv_sub hl [1, 2, 3, 0] rfl)
        · have c22 : ¬ x18.toInt = r20.toInt := wk_eqF c22
          replace hM := hM.neg c22
          refine lv_iconst (v := 0) hx hb dX6_takeWord_54 (by decide) ?_
          exact tk_zret hC hr rfl hlocks hK ⟨hT, hF, hM.ret (by decide), (Or.inl rfl)⟩ hw dX6_takeWord_55
  have hM : TT (fun n => m_X6_takeWord n 1 4 (sI w0)) (fun n => m_X6_takeWord n 1 4 (sI w0)) := TT.rf
  refine lv_aload_n hx hb dX6_takeWord_0 rfl (lv_at hl 0 rfl) ?_
  refine tk_Vi hC hK hw hT hA hE hSR kC_at1 (by decide) rfl (kz_X6_lookBehindBlanks_1 l adK adV dC dI cy ad B hB0 (Int.le_trans hB1 (by decide)) qr s1    w0 s.heap.size hT ) (cwV 0 hC.2.2.2.2 uV_RX6_28 rfl rfl rfl (by decide +kernel) ⟨Nat.le_of_ble_eq_true rfl, Nat.le_of_ble_eq_true rfl⟩) rfl hl.1 rfl (Nat.le_of_ble_eq_true rfl) dX6_takeWord_1 (fun r24 w26 H locs hp25 hw => ?_)
  obtain ⟨hT, k27, hv37, hg36⟩ := hp25
  have hF := hF.tr k27 (by decide)
  rcases hg36 with ⟨g28, g29, ⟨x30, c31, rx30, tx30⟩, ⟨x32, c33, rx32, tx32⟩, ⟨x34, c35, rx34, tx34⟩⟩ | rfl
  · replace hM := hM.call hv37 rfl
    refine lv_pop hx hb dX6_takeWord_4 rfl ?_
    refine lv_aload_n hx hb dX6_takeWord_5 rfl (lv_at hl 0 rfl) ?_
    refine tk_Vi hC hK hw hT hA hE hSR kC_at1 (by decide) rfl (kz_X6_endOfWord_1 l adK adV dC dI cy ad B hB0 (Int.le_trans hB1 (by decide)) qr s1    w26 H.size hT ) (cwV 0 hC.2.2.2.2 uV_RX6_53 rfl rfl rfl (by decide +kernel) ⟨Nat.le_of_ble_eq_true rfl, Nat.le_of_ble_eq_true rfl⟩) rfl hl.1 rfl (Nat.le_of_ble_eq_true rfl) dX6_takeWord_6 (fun r38 w40 H locs hp39 hw => ?_)
    obtain ⟨hT, k41, hv45, hg44⟩ := hp39
    have hF := hF.tr k41 (by decide)
    have c46 := k41.gi kC_at1 (by decide) c31
    have c47 := k41.gi kC_at1 (by decide) c33
    have c48 := k41.gi kC_at1 (by decide) c35
    obtain ⟨g42, g43⟩ := hg44
    replace hM := hM.call hv45 rfl
    refine lv_istore_n (lv' := [(2, .int r38), (0, .ref (ad 1)), (1, .ref (adK 4))]) hx hb dX6_takeWord_9 rfl hl (by decide) rfl (fun ls hl => ?_)
    refine lv_iload_n hx hb dX6_takeWord_10 rfl (lv_at hl 0 rfl) ?_
    refine lv_aload_n hx hb dX6_takeWord_11 rfl (lv_at hl 1 rfl) ?_
    refine tk_geti hC hK hw hT hinX6 kC_at1 (by decide) rfl 1 (by decide) (List.mem_cons_of_mem _ uw_9_16) rfl rfl dX6_takeWord_12 (fun x49 c50 rx49 tx49 => ?_)
    refine wk_top x30 (c50.symm.trans c46) ?_
    replace hM := hM.rd (sI_at c46)
    refine lv_isub hx hb dX6_takeWord_15 ?_
    refine lv_topi (fun x51 ex51 => ?_)
    have ezx51 := ex51
    have ex51 : x51.toInt = r38.toInt - x30.toInt := by rw [ex51]; exact wk_sub (show (-2147483648) ≤ r38.toInt - x30.toInt by omega) (show r38.toInt - x30.toInt ≤ 2147483647 by omega)
    replace hM := hM.lt ex51.symm
    refine lv_aload_n hx hb dX6_takeWord_16 rfl (lv_at hl 2 rfl) ?_
    refine tk_ViT hC hK hw hA hE hSR (s_length l adK adV dC dI cy 4 (by decide) H.size) (cwV 0 hC.2.2.2.2 uV_RX6_56 rfl rfl rfl (by decide +kernel) ⟨Nat.le_of_ble_eq_true rfl, Nat.le_of_ble_eq_true rfl⟩) 4 (by decide) rfl rfl rfl hl.1 rfl (Nat.le_of_ble_eq_true rfl) dX6_takeWord_17 (fun r52 H locs hp53 hw => ?_)
    obtain ⟨-, hp53⟩ := hp53
    obtain rfl : r52 = 3 := hp53
    replace hM := hM.lt (v := 3) (by decide)
    refine lv_icmp_eq (tgt := 25) hx hb dX6_takeWord_20 (by decide) (fun c54 => ?_) (fun c54 => ?_)
    · have c54 : x51.toInt = (3 : Int) := wk_eq.mp c54
      replace hM := hM.pos c54
      refine lv_iconst (v := 0) hx hb dX6_takeWord_25 (by decide) ?_
      refine lv_istore_n (lv' := [(3, .int 0), (2, .int r38), (0, .ref (ad 1)), (1, .ref (adK 4))]) hx hb dX6_takeWord_26 rfl hl (by decide) rfl (fun ls hl => ?_)
      exact L27 ((3 - (0 : Int)).toNat + 1) r38 0 x30 H locs ls w40 (show 3 ≤ r38.toInt by first | with_reducible assumption | omega) (show r38.toInt ≤ 400 by first | with_reducible assumption | omega) (by decide) (by decide) (show 0 ≤ x30.toInt by first | with_reducible assumption | omega) (show x30.toInt ≤ 397 by first | with_reducible assumption | omega) (Nat.lt_succ_self _) hw hT hF c46 hM (lv_sub hl [2, 3, 1, 0] rfl)
    · have c54 : ¬ x51.toInt = (3 : Int) := wk_eqF c54
      replace hM := hM.neg c54
      refine lv_iconst (v := 0) hx hb dX6_takeWord_23 (by decide) ?_
      exact tk_zret hC hr rfl hlocks hK ⟨hT, hF, hM.ret (by decide), (Or.inl rfl)⟩ hw dX6_takeWord_24
  · replace hM := hM.call (r' := (-1)) hv37 (by decide)
    refine lv_pop hx hb dX6_takeWord_4 rfl ?_
    refine lv_aload_n hx hb dX6_takeWord_5 rfl (lv_at hl 0 rfl) ?_
    refine tk_Vi hC hK hw hT hA hE hSR kC_at1 (by decide) rfl (kz_X6_endOfWord_1 l adK adV dC dI cy ad B hB0 (Int.le_trans hB1 (by decide)) qr s1    w26 H.size hT ) (cwV 0 hC.2.2.2.2 uV_RX6_53 rfl rfl rfl (by decide +kernel) ⟨Nat.le_of_ble_eq_true rfl, Nat.le_of_ble_eq_true rfl⟩) rfl hl.1 rfl (Nat.le_of_ble_eq_true rfl) dX6_takeWord_6 (fun r55 w57 H locs hp56 hw => ?_)
    obtain ⟨hT, k58, hv62, hg61⟩ := hp56
    have hF := hF.tr k58 (by decide)
    obtain ⟨g59, g60⟩ := hg61
    replace hM := hM.call hv62 rfl
    refine lv_istore_n (lv' := [(2, .int r55), (0, .ref (ad 1)), (1, .ref (adK 4))]) hx hb dX6_takeWord_9 rfl hl (by decide) rfl (fun ls hl => ?_)
    refine lv_iload_n hx hb dX6_takeWord_10 rfl (lv_at hl 0 rfl) ?_
    refine lv_aload_n hx hb dX6_takeWord_11 rfl (lv_at hl 1 rfl) ?_
    refine tk_geti hC hK hw hT hinX6 kC_at1 (by decide) rfl 1 (by decide) (List.mem_cons_of_mem _ uw_9_16) rfl rfl dX6_takeWord_12 (fun x63 c64 rx63 tx63 => ?_)
    replace hM := hM.rd (sI_at c64)
    refine lv_isub hx hb dX6_takeWord_15 ?_
    refine lv_topi (fun x65 ex65 => ?_)
    have ezx65 := ex65
    have ex65 : x65.toInt = r55.toInt - x63.toInt := by rw [ex65]; exact wk_sub (show (-2147483648) ≤ r55.toInt - x63.toInt by omega) (show r55.toInt - x63.toInt ≤ 2147483647 by omega)
    replace hM := hM.lt ex65.symm
    refine lv_aload_n hx hb dX6_takeWord_16 rfl (lv_at hl 2 rfl) ?_
    refine tk_ViT hC hK hw hA hE hSR (s_length l adK adV dC dI cy 4 (by decide) H.size) (cwV 0 hC.2.2.2.2 uV_RX6_56 rfl rfl rfl (by decide +kernel) ⟨Nat.le_of_ble_eq_true rfl, Nat.le_of_ble_eq_true rfl⟩) 4 (by decide) rfl rfl rfl hl.1 rfl (Nat.le_of_ble_eq_true rfl) dX6_takeWord_17 (fun r66 H locs hp67 hw => ?_)
    obtain ⟨-, hp67⟩ := hp67
    obtain rfl : r66 = 3 := hp67
    replace hM := hM.lt (v := 3) (by decide)
    refine lv_icmp_eq (tgt := 25) hx hb dX6_takeWord_20 (by decide) (fun c68 => ?_) (fun c68 => ?_)
    · have c68 : x65.toInt = (3 : Int) := wk_eq.mp c68
      replace hM := hM.pos c68
      refine lv_iconst (v := 0) hx hb dX6_takeWord_25 (by decide) ?_
      refine lv_istore_n (lv' := [(3, .int 0), (2, .int r55), (0, .ref (ad 1)), (1, .ref (adK 4))]) hx hb dX6_takeWord_26 rfl hl (by decide) rfl (fun ls hl => ?_)
      exact L27 ((3 - (0 : Int)).toNat + 1) r55 0 x63 H locs ls w57 (show 3 ≤ r55.toInt by first | with_reducible assumption | omega) (show r55.toInt ≤ 400 by first | with_reducible assumption | omega) (by decide) (by decide) (show 0 ≤ x63.toInt from rx63) (show x63.toInt ≤ 397 by first | with_reducible assumption | omega) (Nat.lt_succ_self _) hw hT hF c64 hM (lv_sub hl [2, 3, 1, 0] rfl)
    · have c68 : ¬ x65.toInt = (3 : Int) := wk_eqF c68
      replace hM := hM.neg c68
      refine lv_iconst (v := 0) hx hb dX6_takeWord_23 (by decide) ?_
      exact tk_zret hC hr rfl hlocks hK ⟨hT, hF, hM.ret (by decide), (Or.inl rfl)⟩ hw dX6_takeWord_24
abbrev Pz_X6_takeByte_2 (ad : Nat → Nat) (cy : Nat → ClassId) (B : Int) (qr : Nat) (s1 : Int)  (w0 : va_W) : Int32 → va_W → Prop := fun r u => TW ksC ad cy B qr s1 u ∧ FE ksC [(6, 1, 1), (6, 3, 3)] w0 u ∧ Ev (fun n => m_X6_takeByte n 1 91 (sI w0)) (r.toInt, sI u) ∧ ((r = 0) ∨ (r = 1 ∧ (∃ y : Int32, gi u 1 2 = y ∧ 1 ≤ y.toInt ∧ y.toInt ≤ 400) ∧ (∃ y : Int32, gi u 1 3 = y ∧ 0 ≤ y.toInt ∧ y.toInt ≤ 399)))
set_option maxHeartbeats 4000000 in
set_option maxRecDepth 100000 in
theorem kz_X6_takeByte_2 (l : Launch) (adK adV : Nat → Nat) (dC : Nat → ClassId) (dI : Nat → Nat → Nat) (cy : Nat → ClassId) (ad : Nat → Nat) (B : Int) (hB0 : 2147483648 ≤ B) (hB1 : B ≤ 1152921504606846976) (qr : Nat) (s1 : Int)   (w0 : va_W) (sz : Nat) (hT : TW ksC ad cy B qr s1 w0)  : Met l yX6_takeByte (wu yX6_takeByte cX6_takeByte 2 (some .boolean)) ({ frames := 2, cells := 0, slots := 0, locals := 32 }) (va_Pc [.ref (ad 1), .int 91] (wpreS adK adV dC dI cy sz w0)) (va_Qi (Pz_X6_takeByte_2 ad cy B qr s1  w0) (fun u : va_W => wpost dC dI cy (va_A w0 sz) u) (va_A w0 sz)) 0 0 (va_A w0 sz) := by
  refine Met.ofW (cc := cX6_takeByte) (maxL := 2) (ret := (some .boolean)) (by decide) rfl ?_
  intro p e s m args below meth c s₁ Bk hml hv
  obtain ⟨rfl, ⟨hsz, hP, hK, hD0⟩, hE, hSR⟩ := hv
  have hx := Bk.exec
  have hb := Bk.bytes
  have hr := Bk.returns
  have hlocks := Bk.notSynchronized
  have hC : CallFix p m c cX6_takeByte 2 s _ (wu yX6_takeByte cX6_takeByte 2 (some .boolean)) RX6 := ⟨hx, hb, hml, findClass_of_methodNamed Bk.named, atoms_spec (ws := (wu yX6_takeByte cX6_takeByte 2 (some .boolean))) Bk.pre⟩
  subst hsz
  have hD := hD0.self (sz := s.heap.size)
  generalize hAe : va_A w0 s.heap.size = A at hD hE ⊢
  have hA : ∀ q : Nat, s.heap.size ≤ q → A q := fun q h => by rw [← hAe]; exact Or.inr h
  have hw : Wd dC dI A s.heap s.heap [] w0 := ⟨hP, hD, va_S.rf⟩
  have hF : FE ksC [(6, 1, 1), (6, 3, 3)] w0 w0 := FE.rf
  have hl := lv_entry ([.ref (ad 1), .int 91]) (n := 2) (Nat.le_of_ble_eq_true rfl)
  rw [lg_entry_eq]
  generalize (lg_sl ([.ref (ad 1), .int 91]) ++ List.replicate (2 - (lg_sl ([.ref (ad 1), .int 91])).length) Slot.unset).toArray = ls at hl ⊢
  have hl : lv_has ls 2 [(0, .ref (ad 1)), (1, .int 91)] := hl
  generalize hloc : ([] : List Loc) = locs at hw ⊢
  have hM : TT (fun n => m_X6_takeByte n 1 91 (sI w0)) (fun n => m_X6_takeByte n 1 91 (sI w0)) := TT.rf
  refine lv_aload_n hx hb dX6_takeByte_0 rfl (lv_at hl 0 rfl) ?_
  refine tk_Vi hC hK hw hT hA hE hSR kC_at1 (by decide) rfl (kz_X6_lookBehindBlanks_1 l adK adV dC dI cy ad B hB0 (Int.le_trans hB1 (by decide)) qr s1    w0 s.heap.size hT ) (cwV 0 hC.2.2.2.2 uV_RX6_28 rfl rfl rfl (by decide +kernel) ⟨Nat.le_of_ble_eq_true rfl, Nat.le_of_ble_eq_true rfl⟩) rfl hl.1 rfl (Nat.le_of_ble_eq_true rfl) dX6_takeByte_1 (fun r1 w3 H locs hp2 hw => ?_)
  obtain ⟨hT, k4, hv14, hg13⟩ := hp2
  have hF := hF.tr k4 (by decide)
  rcases hg13 with ⟨g5, g6, ⟨x7, c8, rx7, tx7⟩, ⟨x9, c10, rx9, tx9⟩, ⟨x11, c12, rx11, tx11⟩⟩ | rfl
  · replace hM := hM.call hv14 rfl
    refine lv_iload_n hx hb dX6_takeByte_4 rfl (lv_at hl 1 rfl) ?_
    refine lv_icmp_eq (tgt := 10) hx hb dX6_takeByte_5 (by decide) (fun c15 => ?_) (fun c15 => ?_)
    · have c15 : r1.toInt = (91 : Int) := wk_eq.mp c15
      replace hM := hM.pos c15
      refine lv_aload_n hx hb dX6_takeByte_10 rfl (lv_at hl 0 rfl) ?_
      refine tk_Vv hC hK hw hT hA hE hSR kC_at1 (by decide) rfl (kz_X6_pass_1 l adK adV dC dI cy ad B hB0 (Int.le_trans hB1 (by decide)) qr s1    w3 H.size hT ) (cwV 0 hC.2.2.2.2 uV_RX6_32 rfl rfl rfl (by decide +kernel) ⟨Nat.le_of_ble_eq_true rfl, Nat.le_of_ble_eq_true rfl⟩) rfl hl.1 rfl (Nat.le_of_ble_eq_true rfl) dX6_takeByte_11 (fun w18 H locs hp17 hw => ?_)
      obtain ⟨hT, k19, hv21, hg20⟩ := hp17
      have hF := hF.tr k19 (by decide)
      have c22 := k19.gi kC_at1 (by decide) c10
      have c23 := k19.gi kC_at1 (by decide) c12
      clear hg20
      replace hM := hM.call hv21 rfl
      refine lv_iconst (v := 1) hx hb dX6_takeByte_14 (by decide) ?_
      exact tk_zret hC hr rfl hlocks hK ⟨hT, hF, hM.ret (by decide), (Or.inr ⟨rfl, ⟨x9, c22, (show 1 ≤ x9.toInt by first | with_reducible assumption | omega), (show x9.toInt ≤ 400 by first | with_reducible assumption | omega)⟩, ⟨x11, c23, (show 0 ≤ x11.toInt by first | with_reducible assumption | omega), (show x11.toInt ≤ 399 by first | with_reducible assumption | omega)⟩⟩)⟩ hw dX6_takeByte_15
    · have c15 : ¬ r1.toInt = (91 : Int) := wk_eqF c15
      replace hM := hM.neg c15
      refine lv_iconst (v := 0) hx hb dX6_takeByte_8 (by decide) ?_
      exact tk_zret hC hr rfl hlocks hK ⟨hT, hF, hM.ret (by decide), (Or.inl rfl)⟩ hw dX6_takeByte_9
  · replace hM := hM.call (r' := (-1)) hv14 (by decide)
    refine lv_iload_n hx hb dX6_takeByte_4 rfl (lv_at hl 1 rfl) ?_
    refine lv_icmp_eq (tgt := 10) hx hb dX6_takeByte_5 (by decide) (fun c => absurd c (by decide)) (fun _ => ?_)
    replace hM := hM.neg (by decide)
    refine lv_iconst (v := 0) hx hb dX6_takeByte_8 (by decide) ?_
    exact tk_zret hC hr rfl hlocks hK ⟨hT, hF, hM.ret (by decide), (Or.inl rfl)⟩ hw dX6_takeByte_9
abbrev Pz_X3_readFact_11 (ad : Nat → Nat) (cy : Nat → ClassId) (B : Int) (qr : Nat) (s1 : Int)  (w0 : va_W) : va_W → Prop := fun u => TW ksC ad cy B qr s1 u ∧ FE ksC [(2, 3, 3), (3, 2, 2), (6, 1, 1), (6, 3, 3), (6, 4, 4), (22, 0, 13), (23, 0, 400)] w0 u ∧ Ev (fun n => m_X3_readFact n qr 3 10 (sI w0)) (0, sI u) ∧ ((True))
set_option maxHeartbeats 4000000 in
set_option maxRecDepth 100000 in
theorem kz_X3_readFact_11 (l : Launch) (adK adV : Nat → Nat) (dC : Nat → ClassId) (dI : Nat → Nat → Nat) (cy : Nat → ClassId) (ad : Nat → Nat) (B : Int) (hB0 : 2147483648 ≤ B) (hB1 : B ≤ 1152921504606846976) (qr : Nat) (s1 : Int) (hqr : ksC[qr]? = some 2)  (w0 : va_W) (sz : Nat) (hT : TW ksC ad cy B qr s1 w0) (cf0_ : gi w0 1 4 = 0) : Met l yX3_readFact (wu yX3_readFact cX3_readFact 5 none) ({ frames := 8, cells := 0, slots := 0, locals := 211 }) (va_Pc [.ref (ad 3), .int 10] (wpreS adK adV dC dI cy sz w0)) (va_Qv (Pz_X3_readFact_11 ad cy B qr s1  w0) (fun u : va_W => wpost dC dI cy (va_A w0 sz) u) (va_A w0 sz)) 0 0 (va_A w0 sz) := by
  refine Met.ofW (cc := cX3_readFact) (maxL := 5) (ret := none) (by decide) rfl ?_
  intro p e s m args below meth c s₁ Bk hml hv
  obtain ⟨rfl, ⟨hsz, hP, hK, hD0⟩, hE, hSR⟩ := hv
  have hx := Bk.exec
  have hb := Bk.bytes
  have hr := Bk.returns
  have hlocks := Bk.notSynchronized
  have hC : CallFix p m c cX3_readFact 5 s _ (wu yX3_readFact cX3_readFact 5 none) RX3 := ⟨hx, hb, hml, findClass_of_methodNamed Bk.named, atoms_spec (ws := (wu yX3_readFact cX3_readFact 5 none)) Bk.pre⟩
  subst hsz
  have hD := hD0.self (sz := s.heap.size)
  generalize hAe : va_A w0 s.heap.size = A at hD hE ⊢
  have hA : ∀ q : Nat, s.heap.size ≤ q → A q := fun q h => by rw [← hAe]; exact Or.inr h
  have hw : Wd dC dI A s.heap s.heap [] w0 := ⟨hP, hD, va_S.rf⟩
  have hF : FE ksC [(2, 3, 3), (3, 2, 2), (6, 1, 1), (6, 3, 3), (6, 4, 4), (22, 0, 13), (23, 0, 400)] w0 w0 := FE.rf
  have hl := lv_entry ([.ref (ad 3), .int 10]) (n := 5) (Nat.le_of_ble_eq_true rfl)
  rw [lg_entry_eq]
  generalize (lg_sl ([.ref (ad 3), .int 10]) ++ List.replicate (5 - (lg_sl ([.ref (ad 3), .int 10])).length) Slot.unset).toArray = ls at hl ⊢
  have hl : lv_has ls 5 [(0, .ref (ad 3)), (1, .int 10)] := hl
  generalize hloc : ([] : List Loc) = locs at hw ⊢
  have hinX3 : ∀ w ∈ u_ws RX3 TX3 3, w ∈ (wu yX3_readFact cX3_readFact 5 none) := fun _ h => List.mem_cons_of_mem _ (up_75 h)
  have hinX6 : ∀ w ∈ u_ws RX6 TX6 5, w ∈ (wu yX3_readFact cX3_readFact 5 none) := fun _ h => List.mem_cons_of_mem _ (up_72 h)
  have J160 : ∀ (v160_2 : Int32) (v160_3 : Int32) (H : Heap) (locs : List Loc) (ls : Array Slot) (w1 : va_W), 0 ≤ v160_2.toInt → v160_2.toInt ≤ 1 → 0 ≤ v160_3.toInt → v160_3.toInt ≤ 1 → Wd dC dI A s.heap H locs w1 → TW ksC ad cy B qr s1 w1 → FE ksC [(2, 3, 3), (3, 2, 2), (6, 1, 1), (6, 3, 3), (6, 4, 4), (22, 0, 13), (23, 0, 400)] w0 w1 → TT (fun n => m_X3_readFact n qr 3 10 (sI w0)) (fun n => b_X3_readFact_160 (j_X3_readFact_X3_readTest qr 3 n) n qr 3 (sI w1)) → lv_has ls 5 [(0, .ref (ad 3)), (1, .int 10), (2, .int v160_2), (3, .int v160_3)] → W p l e ({ frames := 8, cells := 0, slots := 0, locals := 211 }) s m (List.toArray [.ref (ad 3), .int 10]) below meth c H locs 0 0 (MQ below (va_Qv (Pz_X3_readFact_11 ad cy B qr s1  w0) (fun u : va_W => wpost dC dI cy A u) A) (List.toArray [.ref (ad 3), .int 10]) s 0 0 A) (F0 m 160 ls []) := by
    intro v160_2 v160_3 H locs ls w1 r2 t3 r4 t5 hw hT hF hM hl
    exact tk_vret hC hr hlocks hK ⟨hT, hF, hM.ret rfl, trivial⟩ hw dX3_readFact_160
  have J77 : ∀ (v77_2 : Int32) (v77_3 : Int32) (H : Heap) (locs : List Loc) (ls : Array Slot) (w6 : va_W), 0 ≤ v77_2.toInt → v77_2.toInt ≤ 1 → 0 ≤ v77_3.toInt → v77_3.toInt ≤ 1 → Wd dC dI A s.heap H locs w6 → TW ksC ad cy B qr s1 w6 → FE ksC [(2, 3, 3), (3, 2, 2), (6, 1, 1), (6, 3, 3), (6, 4, 4), (22, 0, 13), (23, 0, 400)] w0 w6 → gi w6 1 4 = 0 → TT (fun n => m_X3_readFact n qr 3 10 (sI w0)) (fun n => b_X3_readFact_77 (j_X3_readFact_X3_readTest qr 3 n) n qr 3 (10 : Int) (v77_2.toInt) (sI w6)) → lv_has ls 5 [(0, .ref (ad 3)), (1, .int 10), (2, .int v77_2), (3, .int v77_3)] → W p l e ({ frames := 8, cells := 0, slots := 0, locals := 211 }) s m (List.toArray [.ref (ad 3), .int 10]) below meth c H locs 0 0 (MQ below (va_Qv (Pz_X3_readFact_11 ad cy B qr s1  w0) (fun u : va_W => wpost dC dI cy A u) A) (List.toArray [.ref (ad 3), .int 10]) s 0 0 A) (F0 m 77 ls []) := by
    intro v77_2 v77_3 H locs ls w6 r7 t8 r9 t10 hw hT hF c11 hM hl
    refine lv_iload_n hx hb dX3_readFact_77 rfl (lv_at hl 1 rfl) ?_
    refine lv_bipush (v := 10) hx hb dX3_readFact_78 (by decide) ?_
    refine lv_icmp_lt (tgt := 101) hx hb dX3_readFact_80 (by decide) (fun c => absurd c (by decide)) (fun _ => ?_)
    replace hM := hM.neg (by decide)
    refine lv_aload_n hx hb dX3_readFact_83 rfl (lv_at hl 0 rfl) ?_
    refine tk_getA hC hK hw hT hinX3 kC_at3 (by decide) rfl 0 (by decide) (List.mem_cons_of_mem _ uw_3_12) rfl rfl dX3_readFact_84 ?_
    refine lv_aload_n hx hb dX3_readFact_87 rfl (lv_at hl 0 rfl) ?_
    refine tk_getA hC hK hw hT hinX3 kC_at3 (by decide) rfl 0 (by decide) (List.mem_cons_of_mem _ uw_3_12) rfl rfl dX3_readFact_88 ?_
    refine tk_geti hC hK hw hT hinX6 kC_at1 (by decide) rfl 3 (by decide) (List.mem_cons_of_mem _ uw_26_19) rfl rfl dX3_readFact_91 (fun x12 c13 rx12 tx12 => ?_)
    replace hM := hM.rd (sI_at c13)
    refine lv_iconst (v := 2) hx hb dX3_readFact_94 (by decide) ?_
    refine tk_Vv hC hK hw hT hA hE hSR kC_at1 (by decide) rfl (kz_X6_blame_2 l adK adV dC dI cy ad B hB0 (Int.le_trans hB1 (by decide)) qr s1   x12 (show 0 ≤ x12.toInt from rx12) (show x12.toInt ≤ 400 from tx12) 2 (by decide) (by decide) w6 H.size hT c11) (cwV 2 hC.2.2.2.2 uV_RX3_46 rfl rfl rfl (by decide +kernel) ⟨Nat.le_of_ble_eq_true rfl, Nat.le_of_ble_eq_true rfl⟩) rfl hl.1 rfl (Nat.le_of_ble_eq_true rfl) dX3_readFact_95 (fun w16 H locs hp15 hw => ?_)
    obtain ⟨hT, k17, hv21, hg20⟩ := hp15
    try simp only [show (2 : Int32).toInt = 2 by decide] at hv21
    have hF := hF.tr k17 (by decide)
    have c22 := k17.gi kC_at1 (by decide) c13
    obtain ⟨x18, c19, rx18, tx18⟩ := hg20
    replace hM := hM.call hv21 rfl
    refine lv_goto (tgt := 160) hx hb dX3_readFact_98 (by decide) ?_
    exact J160 v77_2 v77_3 H locs ls w16 (show 0 ≤ v77_2.toInt from r7) (show v77_2.toInt ≤ 1 from t8) (show 0 ≤ v77_3.toInt from r9) (show v77_3.toInt ≤ 1 from t10)  hw hT hF hM (lv_sub hl [0, 1, 2, 3] rfl)
  have J41 : ∀ (v41_2 : Int32) (H : Heap) (locs : List Loc) (ls : Array Slot) (w23 : va_W), 0 ≤ v41_2.toInt → v41_2.toInt ≤ 1 → Wd dC dI A s.heap H locs w23 → TW ksC ad cy B qr s1 w23 → FE ksC [(2, 3, 3), (3, 2, 2), (6, 1, 1), (6, 3, 3), (6, 4, 4), (22, 0, 13), (23, 0, 400)] w0 w23 → gi w23 1 4 = 0 → TT (fun n => m_X3_readFact n qr 3 10 (sI w0)) (fun n => b_X3_readFact_41 (j_X3_readFact_X3_readTest qr 3 n) n qr 3 (10 : Int) (v41_2.toInt) (sI w23)) → lv_has ls 5 [(0, .ref (ad 3)), (1, .int 10), (2, .int v41_2)] → W p l e ({ frames := 8, cells := 0, slots := 0, locals := 211 }) s m (List.toArray [.ref (ad 3), .int 10]) below meth c H locs 0 0 (MQ below (va_Qv (Pz_X3_readFact_11 ad cy B qr s1  w0) (fun u : va_W => wpost dC dI cy A u) A) (List.toArray [.ref (ad 3), .int 10]) s 0 0 A) (F0 m 41 ls []) := by
    intro v41_2 H locs ls w23 r24 t25 hw hT hF c26 hM hl
    refine lv_iconst (v := 0) hx hb dX3_readFact_41 (by decide) ?_
    refine lv_istore_n (lv' := [(3, .int 0), (0, .ref (ad 3)), (1, .int 10), (2, .int v41_2)]) hx hb dX3_readFact_42 rfl hl (by decide) rfl (fun ls hl => ?_)
    refine lv_iload_n hx hb dX3_readFact_43 rfl (lv_at hl 3 rfl) ?_
    refine lv_if_ne (tgt := 77) hx hb dX3_readFact_44 (by decide) (fun c27 => ?_) (fun c27 => ?_)
    · have c27 : ¬ v41_2.toInt = (0 : Int) := wk_eqF c27
      replace hM := hM.pos c27
      exact J77 v41_2 0 H locs ls w23 (show 0 ≤ v41_2.toInt from r24) (show v41_2.toInt ≤ 1 from t25) (by decide) (by decide)  hw hT hF c26 hM (lv_sub hl [1, 2, 3, 0] rfl)
    · have c27 : v41_2.toInt = (0 : Int) := wk_eq.mp c27
      replace hM := hM.neg (fun q => q c27)
      refine lv_iload_n hx hb dX3_readFact_47 rfl (lv_at hl 0 rfl) ?_
      refine lv_if_ne (tgt := 77) hx hb dX3_readFact_48 (by decide) (fun c => absurd (by decide) c) (fun _ => ?_)
      replace hM := hM.neg (by decide)
      refine lv_aload_n hx hb dX3_readFact_51 rfl (lv_at hl 1 rfl) ?_
      refine tk_Vv hC hK hw hT hA hE hSR kC_at3 (by decide) rfl (kz_X3_readSum_1 l adK adV dC dI cy ad B hB0 (Int.le_trans hB1 (by decide)) qr s1 hqr   w23 H.size hT c26) (cwV 0 hC.2.2.2.2 uV_RX3_88 rfl rfl rfl (by decide +kernel) ⟨Nat.le_of_ble_eq_true rfl, Nat.le_of_ble_eq_true rfl⟩) rfl hl.1 rfl (Nat.le_of_ble_eq_true rfl) dX3_readFact_52 (fun w30 H locs hp29 hw => ?_)
      obtain ⟨hT, k31, hv33, hg32⟩ := hp29
      have hF := hF.tr k31 (by decide)
      clear hg32
      replace hM := hM.call hv33 rfl
      refine lv_aload_n hx hb dX3_readFact_55 rfl (lv_at hl 1 rfl) ?_
      refine tk_Vi hC hK hw hT hA hE hSR kC_at3 (by decide) rfl (kz_X3_readSign_1 l adK adV dC dI cy ad B hB0 (Int.le_trans hB1 (by decide)) qr s1    w30 H.size hT ) (cwV 0 hC.2.2.2.2 uV_RX3_91 rfl rfl rfl (by decide +kernel) ⟨Nat.le_of_ble_eq_true rfl, Nat.le_of_ble_eq_true rfl⟩) rfl hl.1 rfl (Nat.le_of_ble_eq_true rfl) dX3_readFact_56 (fun r34 w36 H locs hp35 hw => ?_)
      obtain ⟨hT, k37, hv49, hg48⟩ := hp35
      have hF := hF.tr k37 (by decide)
      rcases hg48 with ⟨rfl, ⟨x38, c39, rx38, tx38⟩⟩ | ⟨g40, g41, ⟨x42, c43, rx42, tx42⟩, ⟨x44, c45, rx44, tx44⟩, ⟨x46, c47, rx46, tx46⟩⟩
      · replace hM := hM.call (r' := 16) hv49 (by decide)
        refine lv_istore (lv' := [(4, .int 16), (3, .int 0), (0, .ref (ad 3)), (1, .int 10), (2, .int v41_2)]) hx hb dX3_readFact_59 hl (by decide) rfl (fun ls hl => ?_)
        refine lv_aload_n hx hb dX3_readFact_61 rfl (lv_at hl 2 rfl) ?_
        refine tk_Vv hC hK hw hT hA hE hSR kC_at3 (by decide) rfl (kz_X3_readSum_2 l adK adV dC dI cy ad B hB0 (Int.le_trans hB1 (by decide)) qr s1 hqr   w36 H.size hT x38 c39 (show 1 ≤ x38.toInt by first | with_reducible assumption | omega) (show x38.toInt ≤ 3205 by first | with_reducible assumption | omega)) (cwV 0 hC.2.2.2.2 uV_RX3_88 rfl rfl rfl (by decide +kernel) ⟨Nat.le_of_ble_eq_true rfl, Nat.le_of_ble_eq_true rfl⟩) rfl hl.1 rfl (Nat.le_of_ble_eq_true rfl) dX3_readFact_62 (fun w52 H locs hp51 hw => ?_)
        obtain ⟨hT, k53, hv57, hg56⟩ := hp51
        have hF := hF.tr k53 (by decide)
        have c58 := k53.gi kC_at1 (by decide) c39
        obtain ⟨x54, c55, rx54, tx54⟩ := hg56
        replace hM := hM.call hv57 rfl
        have ex54 : x54.toInt = x38.toInt := by rw [← c58.symm.trans c55]
        refine lv_aload_n hx hb dX3_readFact_65 rfl (lv_at hl 2 rfl) ?_
        refine tk_getQ hC hK hw hT hqr (by decide) hinX3 kC_at3 (by decide) rfl 1 (by decide) (List.mem_cons_of_mem _ uw_26_17) rfl rfl dX3_readFact_66 ?_
        refine lv_iload hx hb dX3_readFact_69 (lv_at hl 0 rfl) ?_
        refine tk_Vv hC hK hw hT hA hE hSR hqr (by decide) rfl (kz_X2_addToken_1 l adK adV dC dI cy ad B hB0 (Int.le_trans hB1 (by decide)) qr s1   qr hqr 16 w52 H.size hT ) (cwV 1 hC.2.2.2.2 uV_RX3_74 rfl rfl rfl (by decide +kernel) ⟨Nat.le_of_ble_eq_true rfl, Nat.le_of_ble_eq_true rfl⟩) rfl hl.1 rfl (Nat.le_of_ble_eq_true rfl) dX3_readFact_71 (fun w61 H locs hp60 hw => ?_)
        obtain ⟨hT, k62, hv66, hg65⟩ := hp60
        try simp only [show (16 : Int32).toInt = 16 by decide] at hv66
        have hF := hF.tr k62 (by decide)
        have c67 := k62.gi kC_at1 (by decide) c58
        obtain ⟨x63, c64, rx63, tx63⟩ := hg65
        replace hM := hM.call hv66 rfl
        refine lv_goto (tgt := 160) hx hb dX3_readFact_74 (by decide) ?_
        exact J160 v41_2 0 H locs ls w61 (show 0 ≤ v41_2.toInt from r24) (show v41_2.toInt ≤ 1 from t25) (by decide) (by decide)  hw hT hF hM (lv_sub hl [2, 3, 4, 1] rfl)
      · replace hM := hM.call hv49 rfl
        refine lv_istore (lv' := [(4, .int r34), (3, .int 0), (0, .ref (ad 3)), (1, .int 10), (2, .int v41_2)]) hx hb dX3_readFact_59 hl (by decide) rfl (fun ls hl => ?_)
        refine lv_aload_n hx hb dX3_readFact_61 rfl (lv_at hl 2 rfl) ?_
        refine tk_Vv hC hK hw hT hA hE hSR kC_at3 (by decide) rfl (kz_X3_readSum_3 l adK adV dC dI cy ad B hB0 (Int.le_trans hB1 (by decide)) qr s1 hqr   w36 H.size hT ) (cwV 0 hC.2.2.2.2 uV_RX3_88 rfl rfl rfl (by decide +kernel) ⟨Nat.le_of_ble_eq_true rfl, Nat.le_of_ble_eq_true rfl⟩) rfl hl.1 rfl (Nat.le_of_ble_eq_true rfl) dX3_readFact_62 (fun w70 H locs hp69 hw => ?_)
        obtain ⟨hT, k71, hv73, hg72⟩ := hp69
        have hF := hF.tr k71 (by decide)
        have c74 := k71.gi kC_at1 (by decide) c43
        clear hg72
        replace hM := hM.call hv73 rfl
        refine lv_aload_n hx hb dX3_readFact_65 rfl (lv_at hl 2 rfl) ?_
        refine tk_getQ hC hK hw hT hqr (by decide) hinX3 kC_at3 (by decide) rfl 1 (by decide) (List.mem_cons_of_mem _ uw_26_17) rfl rfl dX3_readFact_66 ?_
        refine lv_iload hx hb dX3_readFact_69 (lv_at hl 0 rfl) ?_
        refine tk_Vv hC hK hw hT hA hE hSR hqr (by decide) rfl (kz_X2_addToken_1 l adK adV dC dI cy ad B hB0 (Int.le_trans hB1 (by decide)) qr s1   qr hqr r34 w70 H.size hT ) (cwV 1 hC.2.2.2.2 uV_RX3_74 rfl rfl rfl (by decide +kernel) ⟨Nat.le_of_ble_eq_true rfl, Nat.le_of_ble_eq_true rfl⟩) rfl hl.1 rfl (Nat.le_of_ble_eq_true rfl) dX3_readFact_71 (fun w77 H locs hp76 hw => ?_)
        obtain ⟨hT, k78, hv82, hg81⟩ := hp76
        have hF := hF.tr k78 (by decide)
        have c83 := k78.gi kC_at1 (by decide) c74
        obtain ⟨x79, c80, rx79, tx79⟩ := hg81
        replace hM := hM.call hv82 rfl
        refine lv_goto (tgt := 160) hx hb dX3_readFact_74 (by decide) ?_
        exact J160 v41_2 0 H locs ls w77 (show 0 ≤ v41_2.toInt from r24) (show v41_2.toInt ≤ 1 from t25) (by decide) (by decide)  hw hT hF hM (lv_sub hl [2, 3, 4, 1] rfl)
  have hM : TT (fun n => m_X3_readFact n qr 3 10 (sI w0)) (fun n => j_X3_readFact_X3_readTest qr 3 n 1000 [10] (sI w0)) := TT.rf
  replace hM := hM.suc (fun _ => e_X3_readFact_e)
  refine lv_aload_n hx hb dX3_readFact_0 rfl (lv_at hl 0 rfl) ?_
  refine tk_getA hC hK hw hT hinX3 kC_at3 (by decide) rfl 0 (by decide) (List.mem_cons_of_mem _ uw_3_12) rfl rfl dX3_readFact_1 ?_
  refine tk_Vi hC hK hw hT hA hE hSR kC_at1 (by decide) rfl (kz_X6_isFaulty_2 l adK adV dC dI cy ad B hB0 (Int.le_trans hB1 (by decide)) qr s1    w0 s.heap.size hT cf0_) (cwV 0 hC.2.2.2.2 uV_RX3_54 rfl rfl rfl (by decide +kernel) ⟨Nat.le_of_ble_eq_true rfl, Nat.le_of_ble_eq_true rfl⟩) rfl hl.1 rfl (Nat.le_of_ble_eq_true rfl) dX3_readFact_4 (fun r84 w86 H locs hp85 hw => ?_)
  obtain ⟨hT, k87, hv91, hg90⟩ := hp85
  have hF := hF.tr k87 (by decide)
  have c92 := k87.gi kC_at1 (by decide) cf0_
  obtain ⟨rfl, ⟨x88, c89, rx88, tx88⟩⟩ := hg90
  replace hM := hM.call (r' := 0) hv91 (by decide)
  have ex88 : x88.toInt = (0 : Int) := by rw [show x88 = 0 from c89.symm.trans c92]; decide
  refine lv_if_eq (tgt := 11) hx hb dX3_readFact_7 (by decide) (fun _ => ?_) (fun c => absurd (by decide) c)
  replace hM := hM.pos (by decide)
  refine lv_aload_n hx hb dX3_readFact_11 rfl (lv_at hl 0 rfl) ?_
  refine tk_getA hC hK hw hT hinX3 kC_at3 (by decide) rfl 0 (by decide) (List.mem_cons_of_mem _ uw_3_12) rfl rfl dX3_readFact_12 ?_
  refine va_ldcS hx hb hC.2.2.2.1 hSR.2.2.2.2.1 dX3_readFact_15 ?_
  refine tk_Vi hC hK hw hT hA hE hSR kC_at1 (by decide) rfl (kz_X6_takeWord_4 l adK adV dC dI cy ad B hB0 (Int.le_trans hB1 (by decide)) qr s1    w86 H.size hT ) (cwV 1 hC.2.2.2.2 uV_RX3_59 rfl rfl rfl (by decide +kernel) ⟨Nat.le_of_ble_eq_true rfl, Nat.le_of_ble_eq_true rfl⟩) rfl hl.1 rfl (Nat.le_of_ble_eq_true rfl) dX3_readFact_17 (fun r93 w95 H locs hp94 hw => ?_)
  obtain ⟨hT, k96, hv100, hg99⟩ := hp94
  have hF := hF.tr k96 (by decide)
  have c101 := k96.gi kC_at1 (by decide) c92
  rcases hg99 with rfl | ⟨rfl, ⟨x97, c98, rx97, tx97⟩⟩
  · replace hM := hM.call (r' := 0) hv100 (by decide)
    refine lv_istore_n (lv' := [(2, .int 0), (0, .ref (ad 3)), (1, .int 10)]) hx hb dX3_readFact_20 rfl hl (by decide) rfl (fun ls hl => ?_)
    refine lv_iload_n hx hb dX3_readFact_21 rfl (lv_at hl 0 rfl) ?_
    refine lv_if_ne (tgt := 41) hx hb dX3_readFact_22 (by decide) (fun c => absurd (by decide) c) (fun _ => ?_)
    replace hM := hM.neg (by decide)
    refine lv_aload_n hx hb dX3_readFact_25 rfl (lv_at hl 1 rfl) ?_
    refine tk_getA hC hK hw hT hinX3 kC_at3 (by decide) rfl 0 (by decide) (List.mem_cons_of_mem _ uw_3_12) rfl rfl dX3_readFact_26 ?_
    refine lv_bipush (v := 91) hx hb dX3_readFact_29 (by decide) ?_
    refine tk_Vi hC hK hw hT hA hE hSR kC_at1 (by decide) rfl (kz_X6_takeByte_2 l adK adV dC dI cy ad B hB0 (Int.le_trans hB1 (by decide)) qr s1    w95 H.size hT ) (cwV 1 hC.2.2.2.2 uV_RX3_84 rfl rfl rfl (by decide +kernel) ⟨Nat.le_of_ble_eq_true rfl, Nat.le_of_ble_eq_true rfl⟩) rfl hl.1 rfl (Nat.le_of_ble_eq_true rfl) dX3_readFact_31 (fun r102 w104 H locs hp103 hw => ?_)
    obtain ⟨hT, k105, hv111, hg110⟩ := hp103
    have hF := hF.tr k105 (by decide)
    have c112 := k105.gi kC_at1 (by decide) c101
    rcases hg110 with rfl | ⟨rfl, ⟨x106, c107, rx106, tx106⟩, ⟨x108, c109, rx108, tx108⟩⟩
    · replace hM := hM.call (r' := 0) hv111 (by decide)
      refine lv_if_eq (tgt := 41) hx hb dX3_readFact_34 (by decide) (fun _ => ?_) (fun c => absurd (by decide) c)
      replace hM := hM.pos (by decide)
      exact J41 0 H locs ls w104 (by decide) (by decide)  hw hT hF c112 hM (lv_sub hl [1, 2, 0] rfl)
    · replace hM := hM.call (r' := 1) hv111 (by decide)
      refine lv_if_eq (tgt := 41) hx hb dX3_readFact_34 (by decide) (fun c => absurd c (by decide)) (fun _ => ?_)
      replace hM := hM.neg (by decide)
      refine lv_iconst (v := 1) hx hb dX3_readFact_37 (by decide) ?_
      refine lv_goto (tgt := 42) hx hb dX3_readFact_38 (by decide) ?_
      refine lv_istore_n (lv' := [(3, .int 1), (2, .int 0), (0, .ref (ad 3)), (1, .int 10)]) hx hb dX3_readFact_42 rfl hl (by decide) rfl (fun ls hl => ?_)
      refine lv_iload_n hx hb dX3_readFact_43 rfl (lv_at hl 1 rfl) ?_
      refine lv_if_ne (tgt := 77) hx hb dX3_readFact_44 (by decide) (fun c => absurd (by decide) c) (fun _ => ?_)
      replace hM := hM.neg (by decide)
      refine lv_iload_n hx hb dX3_readFact_47 rfl (lv_at hl 0 rfl) ?_
      refine lv_if_ne (tgt := 77) hx hb dX3_readFact_48 (by decide) (fun _ => ?_) (fun c => absurd c (by decide))
      replace hM := hM.pos (by decide)
      exact J77 0 1 H locs ls w104 (by decide) (by decide) (by decide) (by decide)  hw hT hF c112 hM (lv_sub hl [2, 3, 1, 0] rfl)
  · replace hM := hM.call (r' := 1) hv100 (by decide)
    refine lv_istore_n (lv' := [(2, .int 1), (0, .ref (ad 3)), (1, .int 10)]) hx hb dX3_readFact_20 rfl hl (by decide) rfl (fun ls hl => ?_)
    refine lv_iload_n hx hb dX3_readFact_21 rfl (lv_at hl 0 rfl) ?_
    refine lv_if_ne (tgt := 41) hx hb dX3_readFact_22 (by decide) (fun _ => ?_) (fun c => absurd c (by decide))
    replace hM := hM.pos (by decide)
    exact J41 1 H locs ls w95 (by decide) (by decide)  hw hT hF c101 hM (lv_sub hl [1, 2, 0] rfl)
abbrev Pz_X3_readTest_11 (ad : Nat → Nat) (cy : Nat → ClassId) (B : Int) (qr : Nat) (s1 : Int)  (w0 : va_W) : va_W → Prop := fun u => TW ksC ad cy B qr s1 u ∧ FE ksC [(2, 3, 3), (3, 2, 2), (6, 1, 1), (6, 3, 3), (6, 4, 4), (22, 0, 13), (23, 0, 400)] w0 u ∧ Ev (fun n => m_X3_readTest n qr 3 10 (sI w0)) (0, sI u) ∧ ((True))
set_option maxHeartbeats 4000000 in
set_option maxRecDepth 100000 in
theorem kz_X3_readTest_11 (l : Launch) (adK adV : Nat → Nat) (dC : Nat → ClassId) (dI : Nat → Nat → Nat) (cy : Nat → ClassId) (ad : Nat → Nat) (B : Int) (hB0 : 2147483648 ≤ B) (hB1 : B ≤ 1152921504606846976) (qr : Nat) (s1 : Int) (hqr : ksC[qr]? = some 2)  (w0 : va_W) (sz : Nat) (hT : TW ksC ad cy B qr s1 w0) (cf0_ : gi w0 1 4 = 0) : Met l yX3_readTest (wu yX3_readTest cX3_readTest 4 none) ({ frames := 9, cells := 0, slots := 0, locals := 235 }) (va_Pc [.ref (ad 3), .int 10] (wpreS adK adV dC dI cy sz w0)) (va_Qv (Pz_X3_readTest_11 ad cy B qr s1  w0) (fun u : va_W => wpost dC dI cy (va_A w0 sz) u) (va_A w0 sz)) 0 0 (va_A w0 sz) := by
  refine Met.ofW (cc := cX3_readTest) (maxL := 4) (ret := none) (by decide) rfl ?_
  intro p e s m args below meth c s₁ Bk hml hv
  obtain ⟨rfl, ⟨hsz, hP, hK, hD0⟩, hE, hSR⟩ := hv
  have hx := Bk.exec
  have hb := Bk.bytes
  have hr := Bk.returns
  have hlocks := Bk.notSynchronized
  have hC : CallFix p m c cX3_readTest 4 s _ (wu yX3_readTest cX3_readTest 4 none) RX3 := ⟨hx, hb, hml, findClass_of_methodNamed Bk.named, atoms_spec (ws := (wu yX3_readTest cX3_readTest 4 none)) Bk.pre⟩
  subst hsz
  have hD := hD0.self (sz := s.heap.size)
  generalize hAe : va_A w0 s.heap.size = A at hD hE ⊢
  have hA : ∀ q : Nat, s.heap.size ≤ q → A q := fun q h => by rw [← hAe]; exact Or.inr h
  have hw : Wd dC dI A s.heap s.heap [] w0 := ⟨hP, hD, va_S.rf⟩
  have hF : FE ksC [(2, 3, 3), (3, 2, 2), (6, 1, 1), (6, 3, 3), (6, 4, 4), (22, 0, 13), (23, 0, 400)] w0 w0 := FE.rf
  have hl := lv_entry ([.ref (ad 3), .int 10]) (n := 4) (Nat.le_of_ble_eq_true rfl)
  rw [lg_entry_eq]
  generalize (lg_sl ([.ref (ad 3), .int 10]) ++ List.replicate (4 - (lg_sl ([.ref (ad 3), .int 10])).length) Slot.unset).toArray = ls at hl ⊢
  have hl : lv_has ls 4 [(0, .ref (ad 3)), (1, .int 10)] := hl
  generalize hloc : ([] : List Loc) = locs at hw ⊢
  have hinX3 : ∀ w ∈ u_ws RX3 TX3 3, w ∈ (wu yX3_readTest cX3_readTest 4 none) := fun _ h => List.mem_cons_of_mem _ (up_75 h)
  have J86 : ∀ (v86_2 : Int32) (v86_3 : Int32) (H : Heap) (locs : List Loc) (ls : Array Slot) (w1 : va_W), (-1) ≤ v86_2.toInt → v86_2.toInt ≤ 21 → 0 ≤ v86_3.toInt → v86_3.toInt ≤ 400 → Wd dC dI A s.heap H locs w1 → TW ksC ad cy B qr s1 w1 → FE ksC [(2, 3, 3), (3, 2, 2), (6, 1, 1), (6, 3, 3), (6, 4, 4), (22, 0, 13), (23, 0, 400)] w0 w1 → TT (fun n => m_X3_readTest n qr 3 10 (sI w0)) (fun n => b_X3_readTest_86 (j_X3_readFact_X3_readTest qr 3 n) n qr 3 (v86_2.toInt) (sI w1)) → lv_has ls 4 [(0, .ref (ad 3)), (1, .int 10), (2, .int v86_2), (3, .int v86_3)] → W p l e ({ frames := 9, cells := 0, slots := 0, locals := 235 }) s m (List.toArray [.ref (ad 3), .int 10]) below meth c H locs 0 0 (MQ below (va_Qv (Pz_X3_readTest_11 ad cy B qr s1  w0) (fun u : va_W => wpost dC dI cy A u) A) (List.toArray [.ref (ad 3), .int 10]) s 0 0 A) (F0 m 86 ls []) := by
    intro v86_2 v86_3 H locs ls w1 r2 t3 r4 t5 hw hT hF hM hl
    refine lv_aload_n hx hb dX3_readTest_86 rfl (lv_at hl 0 rfl) ?_
    refine lv_iload_n hx hb dX3_readTest_87 rfl (lv_at hl 2 rfl) ?_
    refine tk_Vv hC hK hw hT hA hE hSR kC_at3 (by decide) rfl (kz_X3_addWaiting_1 l adK adV dC dI cy ad B hB0 (Int.le_trans hB1 (by decide)) qr s1 hqr  v86_2 w1 H.size hT ) (cwV 1 hC.2.2.2.2 uV_RX3_79 rfl rfl rfl (by decide +kernel) ⟨Nat.le_of_ble_eq_true rfl, Nat.le_of_ble_eq_true rfl⟩) rfl hl.1 rfl (Nat.le_of_ble_eq_true rfl) dX3_readTest_88 (fun w8 H locs hp7 hw => ?_)
    obtain ⟨hT, k9, hv11, hg10⟩ := hp7
    have hF := hF.tr k9 (by decide)
    clear hg10
    replace hM := hM.call hv11 rfl
    exact tk_vret hC hr hlocks hK ⟨hT, hF, hM.ret rfl, trivial⟩ hw dX3_readTest_91
  have L9 : ∀ (n9 : Nat) (v9_2 : Int32) (v9_3 : Int32) (H : Heap) (locs : List Loc) (ls : Array Slot) (w12 : va_W), (-1) ≤ v9_2.toInt → v9_2.toInt ≤ 21 → 0 ≤ v9_3.toInt → v9_3.toInt ≤ 400 → (400 - v9_3.toInt).toNat < n9 → Wd dC dI A s.heap H locs w12 → TW ksC ad cy B qr s1 w12 → FE ksC [(2, 3, 3), (3, 2, 2), (6, 1, 1), (6, 3, 3), (6, 4, 4), (22, 0, 13), (23, 0, 400)] w0 w12 → TT (fun n => m_X3_readTest n qr 3 10 (sI w0)) (fun n => j_X3_readFact_X3_readTest qr 3 n 2009 [(10 : Int), v9_2.toInt, v9_3.toInt] (sI w12)) → lv_has ls 4 [(0, .ref (ad 3)), (1, .int 10), (2, .int v9_2), (3, .int v9_3)] → W p l e ({ frames := 9, cells := 0, slots := 0, locals := 235 }) s m (List.toArray [.ref (ad 3), .int 10]) below meth c H locs 0 0 (MQ below (va_Qv (Pz_X3_readTest_11 ad cy B qr s1  w0) (fun u : va_W => wpost dC dI cy A u) A) (List.toArray [.ref (ad 3), .int 10]) s 0 0 A) (F0 m 9 ls []) := by
    intro n9
    induction n9 with
    | zero => intro v9_2 v9_3 H locs ls w12 r13 t14 r15 t16 hm9 hw hT hF hM hl; omega
    | succ n9 ih9 =>
      intro v9_2 v9_3 H locs ls w12 r13 t14 r15 t16 hm9 hw hT hF hM hl
      have J80 : ∀ (v80_2 : Int32) (H : Heap) (locs : List Loc) (ls : Array Slot) (w17 : va_W), (-1) ≤ v80_2.toInt → v80_2.toInt ≤ 21 → 0 ≤ v9_3.toInt → v9_3.toInt ≤ 399 → Wd dC dI A s.heap H locs w17 → TW ksC ad cy B qr s1 w17 → FE ksC [(2, 3, 3), (3, 2, 2), (6, 1, 1), (6, 3, 3), (6, 4, 4), (22, 0, 13), (23, 0, 400)] w0 w17 → TT (fun n => m_X3_readTest n qr 3 10 (sI w0)) (fun n => b_X3_readTest_80 (j_X3_readFact_X3_readTest qr 3 n) n qr 3 (10 : Int) (v80_2.toInt) (v9_3.toInt) (sI w17)) → lv_has ls 4 [(0, .ref (ad 3)), (1, .int 10), (2, .int v80_2), (3, .int v9_3)] → W p l e ({ frames := 9, cells := 0, slots := 0, locals := 235 }) s m (List.toArray [.ref (ad 3), .int 10]) below meth c H locs 0 0 (MQ below (va_Qv (Pz_X3_readTest_11 ad cy B qr s1  w0) (fun u : va_W => wpost dC dI cy A u) A) (List.toArray [.ref (ad 3), .int 10]) s 0 0 A) (F0 m 80 ls []) := by
        intro v80_2 H locs ls w17 r18 t19 r20 t21 hw hT hF hM hl
        obtain ⟨x22, ex22⟩ : ∃ y : Int32, y = v9_3 + Int32.ofInt 1 := ⟨_, rfl⟩
        have erx22 := ex22
        refine lv_iinc (v := x22) (lv' := [(3, .int x22), (0, .ref (ad 3)), (1, .int 10), (2, .int v80_2)]) hx hb dX3_readTest_80 hl (k := 3) rfl ex22.symm (by decide) rfl (fun ls hl => ?_)
        have ex22 : x22.toInt = v9_3.toInt + 1 := by rw [ex22]; exact wk_add (y := 1) (show -2147483648 ≤ v9_3.toInt + 1 by omega) (show v9_3.toInt + 1 ≤ 2147483647 by omega)
        replace hM := hM.lt ex22.symm
        refine lv_goto (tgt := 9) hx hb dX3_readTest_83 (by decide) ?_
        exact ih9 v80_2 x22 H locs ls w17 (show (-1) ≤ v80_2.toInt from r18) (show v80_2.toInt ≤ 21 from t19) (show 0 ≤ x22.toInt by first | with_reducible assumption | omega) (show x22.toInt ≤ 400 by first | with_reducible assumption | omega) (show (400 - x22.toInt).toNat < n9 by first | exact tn_lt hm9 (by omega) (by omega) | omega) hw hT hF hM (lv_sub hl [1, 2, 3, 0] rfl)
      replace hM := hM.suc (fun _ => e_X3_readTest_9)
      refine lv_iload_n hx hb dX3_readTest_9 rfl (lv_at hl 3 rfl) ?_
      refine lv_sipush (v := 400) hx hb dX3_readTest_10 (by decide) ?_
      refine lv_icmp_ge (tgt := 86) hx hb dX3_readTest_13 (by decide) (fun c23 => ?_) (fun c23 => ?_)
      · have c23 : (400 : Int) ≤ v9_3.toInt := wk_le.mp c23
        replace hM := hM.pos c23
        exact J86 v9_2 v9_3 H locs ls w12 (show (-1) ≤ v9_2.toInt from r13) (show v9_2.toInt ≤ 21 from t14) (show 0 ≤ v9_3.toInt from r15) (show v9_3.toInt ≤ 400 from t16)  hw hT hF hM (lv_sub hl [0, 1, 2, 3] rfl)
      · have c23 : v9_3.toInt < (400 : Int) := wk_leF c23
        replace hM := hM.neg (Int.not_le.mpr c23)
        refine lv_aload_n hx hb dX3_readTest_16 rfl (lv_at hl 0 rfl) ?_
        refine tk_getA hC hK hw hT hinX3 kC_at3 (by decide) rfl 0 (by decide) (List.mem_cons_of_mem _ uw_3_12) rfl rfl dX3_readTest_17 ?_
        refine tk_Vi hC hK hw hT hA hE hSR kC_at1 (by decide) rfl (kz_X6_isFaulty_1 l adK adV dC dI cy ad B hB0 (Int.le_trans hB1 (by decide)) qr s1    w12 H.size hT ) (cwV 0 hC.2.2.2.2 uV_RX3_54 rfl rfl rfl (by decide +kernel) ⟨Nat.le_of_ble_eq_true rfl, Nat.le_of_ble_eq_true rfl⟩) rfl hl.1 rfl (Nat.le_of_ble_eq_true rfl) dX3_readTest_20 (fun r24 w26 H locs hp25 hw => ?_)
        obtain ⟨hT, k27, hv33, hg32⟩ := hp25
        have hF := hF.tr k27 (by decide)
        rcases hg32 with ⟨rfl, ⟨x28, c29, rx28, tx28⟩⟩ | ⟨rfl, ⟨x30, c31, rx30, tx30⟩⟩
        · replace hM := hM.call (r' := 0) hv33 (by decide)
          refine lv_if_ne (tgt := 86) hx hb dX3_readTest_23 (by decide) (fun c => absurd (by decide) c) (fun _ => ?_)
          replace hM := hM.neg (by decide)
          refine lv_aload_n hx hb dX3_readTest_26 rfl (lv_at hl 0 rfl) ?_
          refine tk_getA hC hK hw hT hinX3 kC_at3 (by decide) rfl 0 (by decide) (List.mem_cons_of_mem _ uw_3_12) rfl rfl dX3_readTest_27 ?_
          refine va_ldcS hx hb hC.2.2.2.1 hSR.2.2.2.2.2.2.1 dX3_readTest_30 ?_
          refine tk_Vi hC hK hw hT hA hE hSR kC_at1 (by decide) rfl (kz_X6_takeWord_2 l adK adV dC dI cy ad B hB0 (Int.le_trans hB1 (by decide)) qr s1    w26 H.size hT ) (cwV 1 hC.2.2.2.2 uV_RX3_59 rfl rfl rfl (by decide +kernel) ⟨Nat.le_of_ble_eq_true rfl, Nat.le_of_ble_eq_true rfl⟩) rfl hl.1 rfl (Nat.le_of_ble_eq_true rfl) dX3_readTest_32 (fun r34 w36 H locs hp35 hw => ?_)
          obtain ⟨hT, k37, hv41, hg40⟩ := hp35
          have hF := hF.tr k37 (by decide)
          have c42 := k37.gi kC_at1 (by decide) c29
          rcases hg40 with rfl | ⟨rfl, ⟨x38, c39, rx38, tx38⟩⟩
          · replace hM := hM.call (r' := 0) hv41 (by decide)
            refine lv_if_eq (tgt := 55) hx hb dX3_readTest_35 (by decide) (fun _ => ?_) (fun c => absurd (by decide) c)
            replace hM := hM.pos (by decide)
            refine lv_aload_n hx hb dX3_readTest_55 rfl (lv_at hl 0 rfl) ?_
            refine tk_getA hC hK hw hT hinX3 kC_at3 (by decide) rfl 0 (by decide) (List.mem_cons_of_mem _ uw_3_12) rfl rfl dX3_readTest_56 ?_
            refine va_ldcS hx hb hC.2.2.2.1 hSR.2.2.2.2.2.2.2 dX3_readTest_59 ?_
            refine tk_Vi hC hK hw hT hA hE hSR kC_at1 (by decide) rfl (kz_X6_takeWord_3 l adK adV dC dI cy ad B hB0 (Int.le_trans hB1 (by decide)) qr s1    w36 H.size hT ) (cwV 1 hC.2.2.2.2 uV_RX3_59 rfl rfl rfl (by decide +kernel) ⟨Nat.le_of_ble_eq_true rfl, Nat.le_of_ble_eq_true rfl⟩) rfl hl.1 rfl (Nat.le_of_ble_eq_true rfl) dX3_readTest_61 (fun r43 w45 H locs hp44 hw => ?_)
            obtain ⟨hT, k46, hv50, hg49⟩ := hp44
            have hF := hF.tr k46 (by decide)
            have c51 := k46.gi kC_at1 (by decide) c42
            rcases hg49 with rfl | ⟨rfl, ⟨x47, c48, rx47, tx47⟩⟩
            · replace hM := hM.call (r' := 0) hv50 (by decide)
              refine lv_if_eq (tgt := 86) hx hb dX3_readTest_64 (by decide) (fun _ => ?_) (fun c => absurd (by decide) c)
              replace hM := hM.pos (by decide)
              exact J86 v9_2 v9_3 H locs ls w45 (show (-1) ≤ v9_2.toInt from r13) (show v9_2.toInt ≤ 21 from t14) (show 0 ≤ v9_3.toInt from r15) (show v9_3.toInt ≤ 400 from t16)  hw hT hF hM (lv_sub hl [0, 1, 2, 3] rfl)
            · replace hM := hM.call (r' := 1) hv50 (by decide)
              refine lv_if_eq (tgt := 86) hx hb dX3_readTest_64 (by decide) (fun c => absurd c (by decide)) (fun _ => ?_)
              replace hM := hM.neg (by decide)
              refine lv_aload_n hx hb dX3_readTest_67 rfl (lv_at hl 0 rfl) ?_
              refine lv_iload_n hx hb dX3_readTest_68 rfl (lv_at hl 2 rfl) ?_
              refine tk_Vv hC hK hw hT hA hE hSR kC_at3 (by decide) rfl (kz_X3_addWaiting_1 l adK adV dC dI cy ad B hB0 (Int.le_trans hB1 (by decide)) qr s1 hqr  v9_2 w45 H.size hT ) (cwV 1 hC.2.2.2.2 uV_RX3_79 rfl rfl rfl (by decide +kernel) ⟨Nat.le_of_ble_eq_true rfl, Nat.le_of_ble_eq_true rfl⟩) rfl hl.1 rfl (Nat.le_of_ble_eq_true rfl) dX3_readTest_69 (fun w54 H locs hp53 hw => ?_)
              obtain ⟨hT, k55, hv57, hg56⟩ := hp53
              have hF := hF.tr k55 (by decide)
              have c58 := k55.gi kC_at1 (by decide) c51
              have c59 := k55.gi kC_at1 (by decide) c48
              clear hg56
              replace hM := hM.call hv57 rfl
              refine lv_bipush (v := 21) hx hb dX3_readTest_72 (by decide) ?_
              refine lv_istore_n (lv' := [(2, .int 21), (0, .ref (ad 3)), (1, .int 10), (3, .int v9_3)]) hx hb dX3_readTest_74 rfl hl (by decide) rfl (fun ls hl => ?_)
              refine lv_aload_n hx hb dX3_readTest_75 rfl (lv_at hl 1 rfl) ?_
              refine lv_iload_n hx hb dX3_readTest_76 rfl (lv_at hl 2 rfl) ?_
              refine tk_Vv hC hK hw hT hA hE hSR kC_at3 (by decide) rfl (kz_X3_readFact_11 l adK adV dC dI cy ad B hB0 (Int.le_trans hB1 (by decide)) qr s1 hqr   w54 H.size hT (c58.trans (wk_eq.mpr (show x28.toInt = 0 by first | exact Int.le_antisymm (by omega) (by omega) | omega)))) (cwV 1 hC.2.2.2.2 uV_RX3_69 rfl rfl rfl (by decide +kernel) ⟨Nat.le_of_ble_eq_true rfl, Nat.le_of_ble_eq_true rfl⟩) rfl hl.1 rfl (Nat.le_of_ble_eq_true rfl) dX3_readTest_77 (fun w62 H locs hp61 hw => ?_)
              obtain ⟨hT, k63, hv65, hg64⟩ := hp61
              have hF := hF.tr k63 (by decide)
              clear hg64
              replace hM := hM.call hv65 rfl
              exact J80 21 H locs ls w62 (by decide) (by decide) (show 0 ≤ v9_3.toInt from r15) (show v9_3.toInt ≤ 399 by first | with_reducible assumption | omega)  hw hT hF hM (lv_sub hl [1, 2, 0, 3] rfl)
          · replace hM := hM.call (r' := 1) hv41 (by decide)
            refine lv_if_eq (tgt := 55) hx hb dX3_readTest_35 (by decide) (fun c => absurd c (by decide)) (fun _ => ?_)
            replace hM := hM.neg (by decide)
            refine lv_aload_n hx hb dX3_readTest_38 rfl (lv_at hl 0 rfl) ?_
            refine lv_iload_n hx hb dX3_readTest_39 rfl (lv_at hl 1 rfl) ?_
            refine tk_Vv hC hK hw hT hA hE hSR kC_at3 (by decide) rfl (kz_X3_readFact_11 l adK adV dC dI cy ad B hB0 (Int.le_trans hB1 (by decide)) qr s1 hqr   w36 H.size hT (c42.trans (wk_eq.mpr (show x28.toInt = 0 by first | exact Int.le_antisymm (by omega) (by omega) | omega)))) (cwV 1 hC.2.2.2.2 uV_RX3_69 rfl rfl rfl (by decide +kernel) ⟨Nat.le_of_ble_eq_true rfl, Nat.le_of_ble_eq_true rfl⟩) rfl hl.1 rfl (Nat.le_of_ble_eq_true rfl) dX3_readTest_40 (fun w68 H locs hp67 hw => ?_)
            obtain ⟨hT, k69, hv71, hg70⟩ := hp67
            have hF := hF.tr k69 (by decide)
            clear hg70
            replace hM := hM.call hv71 rfl
            refine lv_aload_n hx hb dX3_readTest_43 rfl (lv_at hl 0 rfl) ?_
            refine tk_getQ hC hK hw hT hqr (by decide) hinX3 kC_at3 (by decide) rfl 1 (by decide) (List.mem_cons_of_mem _ uw_26_17) rfl rfl dX3_readTest_44 ?_
            refine lv_bipush (v := 20) hx hb dX3_readTest_47 (by decide) ?_
            refine tk_Vv hC hK hw hT hA hE hSR hqr (by decide) rfl (kz_X2_addToken_1 l adK adV dC dI cy ad B hB0 (Int.le_trans hB1 (by decide)) qr s1   qr hqr 20 w68 H.size hT ) (cwV 1 hC.2.2.2.2 uV_RX3_74 rfl rfl rfl (by decide +kernel) ⟨Nat.le_of_ble_eq_true rfl, Nat.le_of_ble_eq_true rfl⟩) rfl hl.1 rfl (Nat.le_of_ble_eq_true rfl) dX3_readTest_49 (fun w74 H locs hp73 hw => ?_)
            obtain ⟨hT, k75, hv79, hg78⟩ := hp73
            try simp only [show (20 : Int32).toInt = 20 by decide] at hv79
            have hF := hF.tr k75 (by decide)
            obtain ⟨x76, c77, rx76, tx76⟩ := hg78
            replace hM := hM.call hv79 rfl
            refine lv_goto (tgt := 80) hx hb dX3_readTest_52 (by decide) ?_
            exact J80 v9_2 H locs ls w74 (show (-1) ≤ v9_2.toInt from r13) (show v9_2.toInt ≤ 21 from t14) (show 0 ≤ v9_3.toInt from r15) (show v9_3.toInt ≤ 399 by first | with_reducible assumption | omega)  hw hT hF hM (lv_sub hl [0, 1, 2, 3] rfl)
        · replace hM := hM.call (r' := 1) hv33 (by decide)
          refine lv_if_ne (tgt := 86) hx hb dX3_readTest_23 (by decide) (fun _ => ?_) (fun c => absurd c (by decide))
          replace hM := hM.pos (by decide)
          exact J86 v9_2 v9_3 H locs ls w26 (show (-1) ≤ v9_2.toInt from r13) (show v9_2.toInt ≤ 21 from t14) (show 0 ≤ v9_3.toInt from r15) (show v9_3.toInt ≤ 400 from t16)  hw hT hF hM (lv_sub hl [0, 1, 2, 3] rfl)
  have hM : TT (fun n => m_X3_readTest n qr 3 10 (sI w0)) (fun n => j_X3_readFact_X3_readTest qr 3 n 2000 [10] (sI w0)) := TT.rf
  replace hM := hM.suc (fun _ => e_X3_readTest_e)
  refine lv_aload_n hx hb dX3_readTest_0 rfl (lv_at hl 0 rfl) ?_
  refine lv_iload_n hx hb dX3_readTest_1 rfl (lv_at hl 1 rfl) ?_
  refine tk_Vv hC hK hw hT hA hE hSR kC_at3 (by decide) rfl (kz_X3_readFact_11 l adK adV dC dI cy ad B hB0 (Int.le_trans hB1 (by decide)) qr s1 hqr   w0 s.heap.size hT cf0_) (cwV 1 hC.2.2.2.2 uV_RX3_69 rfl rfl rfl (by decide +kernel) ⟨Nat.le_of_ble_eq_true rfl, Nat.le_of_ble_eq_true rfl⟩) rfl hl.1 rfl (Nat.le_of_ble_eq_true rfl) dX3_readTest_2 (fun w82 H locs hp81 hw => ?_)
  obtain ⟨hT, k83, hv85, hg84⟩ := hp81
  have hF := hF.tr k83 (by decide)
  clear hg84
  replace hM := hM.call hv85 rfl
  refine lv_iconst (v := (-1)) hx hb dX3_readTest_5 (by decide) ?_
  refine lv_istore_n (lv' := [(2, .int (-1)), (0, .ref (ad 3)), (1, .int 10)]) hx hb dX3_readTest_6 rfl hl (by decide) rfl (fun ls hl => ?_)
  refine lv_iconst (v := 0) hx hb dX3_readTest_7 (by decide) ?_
  refine lv_istore_n (lv' := [(3, .int 0), (2, .int (-1)), (0, .ref (ad 3)), (1, .int 10)]) hx hb dX3_readTest_8 rfl hl (by decide) rfl (fun ls hl => ?_)
  exact L9 ((400 - (0 : Int)).toNat + 1) (-1) 0 H locs ls w82 (by decide) (by decide) (by decide) (by decide) (Nat.lt_succ_self _) hw hT hF hM (lv_sub hl [2, 3, 1, 0] rfl)
abbrev Pz_X6_takeByte_3 (ad : Nat → Nat) (cy : Nat → ClassId) (B : Int) (qr : Nat) (s1 : Int)  (w0 : va_W) : Int32 → va_W → Prop := fun r u => TW ksC ad cy B qr s1 u ∧ FE ksC [(6, 1, 1), (6, 3, 3)] w0 u ∧ Ev (fun n => m_X6_takeByte n 1 93 (sI w0)) (r.toInt, sI u) ∧ ((r = 0) ∨ (r = 1 ∧ (∃ y : Int32, gi u 1 2 = y ∧ 1 ≤ y.toInt ∧ y.toInt ≤ 400) ∧ (∃ y : Int32, gi u 1 3 = y ∧ 0 ≤ y.toInt ∧ y.toInt ≤ 399)))
set_option maxHeartbeats 4000000 in
set_option maxRecDepth 100000 in
theorem kz_X6_takeByte_3 (l : Launch) (adK adV : Nat → Nat) (dC : Nat → ClassId) (dI : Nat → Nat → Nat) (cy : Nat → ClassId) (ad : Nat → Nat) (B : Int) (hB0 : 2147483648 ≤ B) (hB1 : B ≤ 1152921504606846976) (qr : Nat) (s1 : Int)   (w0 : va_W) (sz : Nat) (hT : TW ksC ad cy B qr s1 w0)  : Met l yX6_takeByte (wu yX6_takeByte cX6_takeByte 2 (some .boolean)) ({ frames := 2, cells := 0, slots := 0, locals := 32 }) (va_Pc [.ref (ad 1), .int 93] (wpreS adK adV dC dI cy sz w0)) (va_Qi (Pz_X6_takeByte_3 ad cy B qr s1  w0) (fun u : va_W => wpost dC dI cy (va_A w0 sz) u) (va_A w0 sz)) 0 0 (va_A w0 sz) := by
  refine Met.ofW (cc := cX6_takeByte) (maxL := 2) (ret := (some .boolean)) (by decide) rfl ?_
  intro p e s m args below meth c s₁ Bk hml hv
  obtain ⟨rfl, ⟨hsz, hP, hK, hD0⟩, hE, hSR⟩ := hv
  have hx := Bk.exec
  have hb := Bk.bytes
  have hr := Bk.returns
  have hlocks := Bk.notSynchronized
  have hC : CallFix p m c cX6_takeByte 2 s _ (wu yX6_takeByte cX6_takeByte 2 (some .boolean)) RX6 := ⟨hx, hb, hml, findClass_of_methodNamed Bk.named, atoms_spec (ws := (wu yX6_takeByte cX6_takeByte 2 (some .boolean))) Bk.pre⟩
  subst hsz
  have hD := hD0.self (sz := s.heap.size)
  generalize hAe : va_A w0 s.heap.size = A at hD hE ⊢
  have hA : ∀ q : Nat, s.heap.size ≤ q → A q := fun q h => by rw [← hAe]; exact Or.inr h
  have hw : Wd dC dI A s.heap s.heap [] w0 := ⟨hP, hD, va_S.rf⟩
  have hF : FE ksC [(6, 1, 1), (6, 3, 3)] w0 w0 := FE.rf
  have hl := lv_entry ([.ref (ad 1), .int 93]) (n := 2) (Nat.le_of_ble_eq_true rfl)
  rw [lg_entry_eq]
  generalize (lg_sl ([.ref (ad 1), .int 93]) ++ List.replicate (2 - (lg_sl ([.ref (ad 1), .int 93])).length) Slot.unset).toArray = ls at hl ⊢
  have hl : lv_has ls 2 [(0, .ref (ad 1)), (1, .int 93)] := hl
  generalize hloc : ([] : List Loc) = locs at hw ⊢
  have hM : TT (fun n => m_X6_takeByte n 1 93 (sI w0)) (fun n => m_X6_takeByte n 1 93 (sI w0)) := TT.rf
  refine lv_aload_n hx hb dX6_takeByte_0 rfl (lv_at hl 0 rfl) ?_
  refine tk_Vi hC hK hw hT hA hE hSR kC_at1 (by decide) rfl (kz_X6_lookBehindBlanks_1 l adK adV dC dI cy ad B hB0 (Int.le_trans hB1 (by decide)) qr s1    w0 s.heap.size hT ) (cwV 0 hC.2.2.2.2 uV_RX6_28 rfl rfl rfl (by decide +kernel) ⟨Nat.le_of_ble_eq_true rfl, Nat.le_of_ble_eq_true rfl⟩) rfl hl.1 rfl (Nat.le_of_ble_eq_true rfl) dX6_takeByte_1 (fun r1 w3 H locs hp2 hw => ?_)
  obtain ⟨hT, k4, hv14, hg13⟩ := hp2
  have hF := hF.tr k4 (by decide)
  rcases hg13 with ⟨g5, g6, ⟨x7, c8, rx7, tx7⟩, ⟨x9, c10, rx9, tx9⟩, ⟨x11, c12, rx11, tx11⟩⟩ | rfl
  · replace hM := hM.call hv14 rfl
    refine lv_iload_n hx hb dX6_takeByte_4 rfl (lv_at hl 1 rfl) ?_
    refine lv_icmp_eq (tgt := 10) hx hb dX6_takeByte_5 (by decide) (fun c15 => ?_) (fun c15 => ?_)
    · have c15 : r1.toInt = (93 : Int) := wk_eq.mp c15
      replace hM := hM.pos c15
      refine lv_aload_n hx hb dX6_takeByte_10 rfl (lv_at hl 0 rfl) ?_
      refine tk_Vv hC hK hw hT hA hE hSR kC_at1 (by decide) rfl (kz_X6_pass_1 l adK adV dC dI cy ad B hB0 (Int.le_trans hB1 (by decide)) qr s1    w3 H.size hT ) (cwV 0 hC.2.2.2.2 uV_RX6_32 rfl rfl rfl (by decide +kernel) ⟨Nat.le_of_ble_eq_true rfl, Nat.le_of_ble_eq_true rfl⟩) rfl hl.1 rfl (Nat.le_of_ble_eq_true rfl) dX6_takeByte_11 (fun w18 H locs hp17 hw => ?_)
      obtain ⟨hT, k19, hv21, hg20⟩ := hp17
      have hF := hF.tr k19 (by decide)
      have c22 := k19.gi kC_at1 (by decide) c10
      have c23 := k19.gi kC_at1 (by decide) c12
      clear hg20
      replace hM := hM.call hv21 rfl
      refine lv_iconst (v := 1) hx hb dX6_takeByte_14 (by decide) ?_
      exact tk_zret hC hr rfl hlocks hK ⟨hT, hF, hM.ret (by decide), (Or.inr ⟨rfl, ⟨x9, c22, (show 1 ≤ x9.toInt by first | with_reducible assumption | omega), (show x9.toInt ≤ 400 by first | with_reducible assumption | omega)⟩, ⟨x11, c23, (show 0 ≤ x11.toInt by first | with_reducible assumption | omega), (show x11.toInt ≤ 399 by first | with_reducible assumption | omega)⟩⟩)⟩ hw dX6_takeByte_15
    · have c15 : ¬ r1.toInt = (93 : Int) := wk_eqF c15
      replace hM := hM.neg c15
      refine lv_iconst (v := 0) hx hb dX6_takeByte_8 (by decide) ?_
      exact tk_zret hC hr rfl hlocks hK ⟨hT, hF, hM.ret (by decide), (Or.inl rfl)⟩ hw dX6_takeByte_9
  · replace hM := hM.call (r' := (-1)) hv14 (by decide)
    refine lv_iload_n hx hb dX6_takeByte_4 rfl (lv_at hl 1 rfl) ?_
    refine lv_icmp_eq (tgt := 10) hx hb dX6_takeByte_5 (by decide) (fun c => absurd c (by decide)) (fun _ => ?_)
    replace hM := hM.neg (by decide)
    refine lv_iconst (v := 0) hx hb dX6_takeByte_8 (by decide) ?_
    exact tk_zret hC hr rfl hlocks hK ⟨hT, hF, hM.ret (by decide), (Or.inl rfl)⟩ hw dX6_takeByte_9
abbrev Pz_X3_readFact_10 (ad : Nat → Nat) (cy : Nat → ClassId) (B : Int) (qr : Nat) (s1 : Int)  (w0 : va_W) : va_W → Prop := fun u => TW ksC ad cy B qr s1 u ∧ FE ksC [(2, 3, 3), (3, 2, 2), (6, 1, 1), (6, 3, 3), (6, 4, 4), (22, 0, 13), (23, 0, 400)] w0 u ∧ Ev (fun n => m_X3_readFact n qr 3 9 (sI w0)) (0, sI u) ∧ ((True))
set_option maxHeartbeats 4000000 in
set_option maxRecDepth 100000 in
theorem kz_X3_readFact_10 (l : Launch) (adK adV : Nat → Nat) (dC : Nat → ClassId) (dI : Nat → Nat → Nat) (cy : Nat → ClassId) (ad : Nat → Nat) (B : Int) (hB0 : 2147483648 ≤ B) (hB1 : B ≤ 1152921504606846976) (qr : Nat) (s1 : Int) (hqr : ksC[qr]? = some 2)  (w0 : va_W) (sz : Nat) (hT : TW ksC ad cy B qr s1 w0) (cf0_ : gi w0 1 4 = 0) : Met l yX3_readFact (wu yX3_readFact cX3_readFact 5 none) ({ frames := 10, cells := 0, slots := 0, locals := 258 }) (va_Pc [.ref (ad 3), .int 9] (wpreS adK adV dC dI cy sz w0)) (va_Qv (Pz_X3_readFact_10 ad cy B qr s1  w0) (fun u : va_W => wpost dC dI cy (va_A w0 sz) u) (va_A w0 sz)) 0 0 (va_A w0 sz) := by
  refine Met.ofW (cc := cX3_readFact) (maxL := 5) (ret := none) (by decide) rfl ?_
  intro p e s m args below meth c s₁ Bk hml hv
  obtain ⟨rfl, ⟨hsz, hP, hK, hD0⟩, hE, hSR⟩ := hv
  have hx := Bk.exec
  have hb := Bk.bytes
  have hr := Bk.returns
  have hlocks := Bk.notSynchronized
  have hC : CallFix p m c cX3_readFact 5 s _ (wu yX3_readFact cX3_readFact 5 none) RX3 := ⟨hx, hb, hml, findClass_of_methodNamed Bk.named, atoms_spec (ws := (wu yX3_readFact cX3_readFact 5 none)) Bk.pre⟩
  subst hsz
  have hD := hD0.self (sz := s.heap.size)
  generalize hAe : va_A w0 s.heap.size = A at hD hE ⊢
  have hA : ∀ q : Nat, s.heap.size ≤ q → A q := fun q h => by rw [← hAe]; exact Or.inr h
  have hw : Wd dC dI A s.heap s.heap [] w0 := ⟨hP, hD, va_S.rf⟩
  have hF : FE ksC [(2, 3, 3), (3, 2, 2), (6, 1, 1), (6, 3, 3), (6, 4, 4), (22, 0, 13), (23, 0, 400)] w0 w0 := FE.rf
  have hl := lv_entry ([.ref (ad 3), .int 9]) (n := 5) (Nat.le_of_ble_eq_true rfl)
  rw [lg_entry_eq]
  generalize (lg_sl ([.ref (ad 3), .int 9]) ++ List.replicate (5 - (lg_sl ([.ref (ad 3), .int 9])).length) Slot.unset).toArray = ls at hl ⊢
  have hl : lv_has ls 5 [(0, .ref (ad 3)), (1, .int 9)] := hl
  generalize hloc : ([] : List Loc) = locs at hw ⊢
  have hinX3 : ∀ w ∈ u_ws RX3 TX3 3, w ∈ (wu yX3_readFact cX3_readFact 5 none) := fun _ h => List.mem_cons_of_mem _ (up_75 h)
  have J160 : ∀ (v160_2 : Int32) (v160_3 : Int32) (H : Heap) (locs : List Loc) (ls : Array Slot) (w1 : va_W), 0 ≤ v160_2.toInt → v160_2.toInt ≤ 1 → 0 ≤ v160_3.toInt → v160_3.toInt ≤ 1 → Wd dC dI A s.heap H locs w1 → TW ksC ad cy B qr s1 w1 → FE ksC [(2, 3, 3), (3, 2, 2), (6, 1, 1), (6, 3, 3), (6, 4, 4), (22, 0, 13), (23, 0, 400)] w0 w1 → TT (fun n => m_X3_readFact n qr 3 9 (sI w0)) (fun n => b_X3_readFact_160 (j_X3_readFact_X3_readTest qr 3 n) n qr 3 (sI w1)) → lv_has ls 5 [(0, .ref (ad 3)), (1, .int 9), (2, .int v160_2), (3, .int v160_3)] → W p l e ({ frames := 10, cells := 0, slots := 0, locals := 258 }) s m (List.toArray [.ref (ad 3), .int 9]) below meth c H locs 0 0 (MQ below (va_Qv (Pz_X3_readFact_10 ad cy B qr s1  w0) (fun u : va_W => wpost dC dI cy A u) A) (List.toArray [.ref (ad 3), .int 9]) s 0 0 A) (F0 m 160 ls []) := by
    intro v160_2 v160_3 H locs ls w1 r2 t3 r4 t5 hw hT hF hM hl
    exact tk_vret hC hr hlocks hK ⟨hT, hF, hM.ret rfl, trivial⟩ hw dX3_readFact_160
  have J77 : ∀ (v77_2 : Int32) (v77_3 : Int32) (H : Heap) (locs : List Loc) (ls : Array Slot) (w6 : va_W), 0 ≤ v77_2.toInt → v77_2.toInt ≤ 1 → 0 ≤ v77_3.toInt → v77_3.toInt ≤ 1 → Wd dC dI A s.heap H locs w6 → TW ksC ad cy B qr s1 w6 → FE ksC [(2, 3, 3), (3, 2, 2), (6, 1, 1), (6, 3, 3), (6, 4, 4), (22, 0, 13), (23, 0, 400)] w0 w6 → gi w6 1 4 = 0 → TT (fun n => m_X3_readFact n qr 3 9 (sI w0)) (fun n => b_X3_readFact_77 (j_X3_readFact_X3_readTest qr 3 n) n qr 3 (9 : Int) (v77_2.toInt) (sI w6)) → lv_has ls 5 [(0, .ref (ad 3)), (1, .int 9), (2, .int v77_2), (3, .int v77_3)] → W p l e ({ frames := 10, cells := 0, slots := 0, locals := 258 }) s m (List.toArray [.ref (ad 3), .int 9]) below meth c H locs 0 0 (MQ below (va_Qv (Pz_X3_readFact_10 ad cy B qr s1  w0) (fun u : va_W => wpost dC dI cy A u) A) (List.toArray [.ref (ad 3), .int 9]) s 0 0 A) (F0 m 77 ls []) := by
    intro v77_2 v77_3 H locs ls w6 r7 t8 r9 t10 hw hT hF c11 hM hl
    refine lv_iload_n hx hb dX3_readFact_77 rfl (lv_at hl 1 rfl) ?_
    refine lv_bipush (v := 10) hx hb dX3_readFact_78 (by decide) ?_
    refine lv_icmp_lt (tgt := 101) hx hb dX3_readFact_80 (by decide) (fun _ => ?_) (fun c => absurd (by decide) c)
    replace hM := hM.pos (by decide)
    refine lv_iload_n hx hb dX3_readFact_101 rfl (lv_at hl 2 rfl) ?_
    refine lv_if_eq (tgt := 124) hx hb dX3_readFact_102 (by decide) (fun c12 => ?_) (fun c12 => ?_)
    · have c12 : v77_2.toInt = (0 : Int) := wk_eq.mp c12
      replace hM := hM.pos c12
      refine lv_aload_n hx hb dX3_readFact_124 rfl (lv_at hl 0 rfl) ?_
      refine lv_iload_n hx hb dX3_readFact_125 rfl (lv_at hl 1 rfl) ?_
      refine lv_iconst (v := 1) hx hb dX3_readFact_126 (by decide) ?_
      refine lv_iadd hx hb dX3_readFact_127 ?_
      refine wk_top 10 (by decide) ?_
      replace hM := hM.lt (v := 10) (by decide)
      refine tk_Vv hC hK hw hT hA hE hSR kC_at3 (by decide) rfl (kz_X3_readTest_11 l adK adV dC dI cy ad B hB0 (Int.le_trans hB1 (by decide)) qr s1 hqr   w6 H.size hT c11) (cwV 1 hC.2.2.2.2 uV_RX3_63 rfl rfl rfl (by decide +kernel) ⟨Nat.le_of_ble_eq_true rfl, Nat.le_of_ble_eq_true rfl⟩) rfl hl.1 rfl (Nat.le_of_ble_eq_true rfl) dX3_readFact_128 (fun w15 H locs hp14 hw => ?_)
      obtain ⟨hT, k16, hv18, hg17⟩ := hp14
      have hF := hF.tr k16 (by decide)
      clear hg17
      replace hM := hM.call hv18 rfl
      refine lv_aload_n hx hb dX3_readFact_131 rfl (lv_at hl 0 rfl) ?_
      refine tk_getA hC hK hw hT hinX3 kC_at3 (by decide) rfl 0 (by decide) (List.mem_cons_of_mem _ uw_3_12) rfl rfl dX3_readFact_132 ?_
      refine tk_Vi hC hK hw hT hA hE hSR kC_at1 (by decide) rfl (kz_X6_isFaulty_1 l adK adV dC dI cy ad B hB0 (Int.le_trans hB1 (by decide)) qr s1    w15 H.size hT ) (cwV 0 hC.2.2.2.2 uV_RX3_54 rfl rfl rfl (by decide +kernel) ⟨Nat.le_of_ble_eq_true rfl, Nat.le_of_ble_eq_true rfl⟩) rfl hl.1 rfl (Nat.le_of_ble_eq_true rfl) dX3_readFact_135 (fun r19 w21 H locs hp20 hw => ?_)
      obtain ⟨hT, k22, hv28, hg27⟩ := hp20
      have hF := hF.tr k22 (by decide)
      rcases hg27 with ⟨rfl, ⟨x23, c24, rx23, tx23⟩⟩ | ⟨rfl, ⟨x25, c26, rx25, tx25⟩⟩
      · replace hM := hM.call (r' := 0) hv28 (by decide)
        refine lv_if_ne (tgt := 160) hx hb dX3_readFact_138 (by decide) (fun c => absurd (by decide) c) (fun _ => ?_)
        replace hM := hM.neg (by decide)
        refine lv_aload_n hx hb dX3_readFact_141 rfl (lv_at hl 0 rfl) ?_
        refine tk_getA hC hK hw hT hinX3 kC_at3 (by decide) rfl 0 (by decide) (List.mem_cons_of_mem _ uw_3_12) rfl rfl dX3_readFact_142 ?_
        refine lv_bipush (v := 93) hx hb dX3_readFact_145 (by decide) ?_
        refine tk_Vi hC hK hw hT hA hE hSR kC_at1 (by decide) rfl (kz_X6_takeByte_3 l adK adV dC dI cy ad B hB0 (Int.le_trans hB1 (by decide)) qr s1    w21 H.size hT ) (cwV 1 hC.2.2.2.2 uV_RX3_84 rfl rfl rfl (by decide +kernel) ⟨Nat.le_of_ble_eq_true rfl, Nat.le_of_ble_eq_true rfl⟩) rfl hl.1 rfl (Nat.le_of_ble_eq_true rfl) dX3_readFact_147 (fun r29 w31 H locs hp30 hw => ?_)
        obtain ⟨hT, k32, hv38, hg37⟩ := hp30
        have hF := hF.tr k32 (by decide)
        have c39 := k32.gi kC_at1 (by decide) c24
        rcases hg37 with rfl | ⟨rfl, ⟨x33, c34, rx33, tx33⟩, ⟨x35, c36, rx35, tx35⟩⟩
        · replace hM := hM.call (r' := 0) hv38 (by decide)
          refine lv_if_ne (tgt := 160) hx hb dX3_readFact_150 (by decide) (fun c => absurd (by decide) c) (fun _ => ?_)
          replace hM := hM.neg (by decide)
          refine lv_aload_n hx hb dX3_readFact_153 rfl (lv_at hl 0 rfl) ?_
          refine tk_getA hC hK hw hT hinX3 kC_at3 (by decide) rfl 0 (by decide) (List.mem_cons_of_mem _ uw_3_12) rfl rfl dX3_readFact_154 ?_
          refine tk_Vv hC hK hw hT hA hE hSR kC_at1 (by decide) rfl (kz_X6_blameHere_1 l adK adV dC dI cy ad B hB0 (Int.le_trans hB1 (by decide)) qr s1    w31 H.size hT (c39.trans (wk_eq.mpr (show x23.toInt = 0 by first | exact Int.le_antisymm (by omega) (by omega) | omega)))) (cwV 0 hC.2.2.2.2 uV_RX3_95 rfl rfl rfl (by decide +kernel) ⟨Nat.le_of_ble_eq_true rfl, Nat.le_of_ble_eq_true rfl⟩) rfl hl.1 rfl (Nat.le_of_ble_eq_true rfl) dX3_readFact_157 (fun w42 H locs hp41 hw => ?_)
          obtain ⟨hT, k43, hv47, hg46⟩ := hp41
          have hF := hF.tr k43 (by decide)
          obtain ⟨x44, c45, rx44, tx44⟩ := hg46
          replace hM := hM.call hv47 rfl
          exact J160 v77_2 v77_3 H locs ls w42 (show 0 ≤ v77_2.toInt from r7) (show v77_2.toInt ≤ 1 from t8) (show 0 ≤ v77_3.toInt from r9) (show v77_3.toInt ≤ 1 from t10)  hw hT hF hM (lv_sub hl [0, 1, 2, 3] rfl)
        · replace hM := hM.call (r' := 1) hv38 (by decide)
          refine lv_if_ne (tgt := 160) hx hb dX3_readFact_150 (by decide) (fun _ => ?_) (fun c => absurd c (by decide))
          replace hM := hM.pos (by decide)
          exact J160 v77_2 v77_3 H locs ls w31 (show 0 ≤ v77_2.toInt from r7) (show v77_2.toInt ≤ 1 from t8) (show 0 ≤ v77_3.toInt from r9) (show v77_3.toInt ≤ 1 from t10)  hw hT hF hM (lv_sub hl [0, 1, 2, 3] rfl)
      · replace hM := hM.call (r' := 1) hv28 (by decide)
        refine lv_if_ne (tgt := 160) hx hb dX3_readFact_138 (by decide) (fun _ => ?_) (fun c => absurd c (by decide))
        replace hM := hM.pos (by decide)
        exact J160 v77_2 v77_3 H locs ls w21 (show 0 ≤ v77_2.toInt from r7) (show v77_2.toInt ≤ 1 from t8) (show 0 ≤ v77_3.toInt from r9) (show v77_3.toInt ≤ 1 from t10)  hw hT hF hM (lv_sub hl [0, 1, 2, 3] rfl)
    · have c12 : ¬ v77_2.toInt = (0 : Int) := wk_eqF c12
      replace hM := hM.neg c12
      refine lv_aload_n hx hb dX3_readFact_105 rfl (lv_at hl 0 rfl) ?_
      refine lv_iload_n hx hb dX3_readFact_106 rfl (lv_at hl 1 rfl) ?_
      refine lv_iconst (v := 1) hx hb dX3_readFact_107 (by decide) ?_
      refine lv_iadd hx hb dX3_readFact_108 ?_
      refine wk_top 10 (by decide) ?_
      replace hM := hM.lt (v := 10) (by decide)
      refine tk_Vv hC hK hw hT hA hE hSR kC_at3 (by decide) rfl (kz_X3_readFact_11 l adK adV dC dI cy ad B hB0 (Int.le_trans hB1 (by decide)) qr s1 hqr   w6 H.size hT c11) (cwV 1 hC.2.2.2.2 uV_RX3_69 rfl rfl rfl (by decide +kernel) ⟨Nat.le_of_ble_eq_true rfl, Nat.le_of_ble_eq_true rfl⟩) rfl hl.1 rfl (Nat.le_of_ble_eq_true rfl) dX3_readFact_109 (fun w50 H locs hp49 hw => ?_)
      obtain ⟨hT, k51, hv53, hg52⟩ := hp49
      have hF := hF.tr k51 (by decide)
      clear hg52
      replace hM := hM.call hv53 rfl
      refine lv_aload_n hx hb dX3_readFact_112 rfl (lv_at hl 0 rfl) ?_
      refine tk_getQ hC hK hw hT hqr (by decide) hinX3 kC_at3 (by decide) rfl 1 (by decide) (List.mem_cons_of_mem _ uw_26_17) rfl rfl dX3_readFact_113 ?_
      refine lv_bipush (v := 19) hx hb dX3_readFact_116 (by decide) ?_
      refine tk_Vv hC hK hw hT hA hE hSR hqr (by decide) rfl (kz_X2_addToken_1 l adK adV dC dI cy ad B hB0 (Int.le_trans hB1 (by decide)) qr s1   qr hqr 19 w50 H.size hT ) (cwV 1 hC.2.2.2.2 uV_RX3_74 rfl rfl rfl (by decide +kernel) ⟨Nat.le_of_ble_eq_true rfl, Nat.le_of_ble_eq_true rfl⟩) rfl hl.1 rfl (Nat.le_of_ble_eq_true rfl) dX3_readFact_118 (fun w56 H locs hp55 hw => ?_)
      obtain ⟨hT, k57, hv61, hg60⟩ := hp55
      try simp only [show (19 : Int32).toInt = 19 by decide] at hv61
      have hF := hF.tr k57 (by decide)
      obtain ⟨x58, c59, rx58, tx58⟩ := hg60
      replace hM := hM.call hv61 rfl
      refine lv_goto (tgt := 160) hx hb dX3_readFact_121 (by decide) ?_
      exact J160 v77_2 v77_3 H locs ls w56 (show 0 ≤ v77_2.toInt from r7) (show v77_2.toInt ≤ 1 from t8) (show 0 ≤ v77_3.toInt from r9) (show v77_3.toInt ≤ 1 from t10)  hw hT hF hM (lv_sub hl [0, 1, 2, 3] rfl)
  have J41 : ∀ (v41_2 : Int32) (H : Heap) (locs : List Loc) (ls : Array Slot) (w62 : va_W), 0 ≤ v41_2.toInt → v41_2.toInt ≤ 1 → Wd dC dI A s.heap H locs w62 → TW ksC ad cy B qr s1 w62 → FE ksC [(2, 3, 3), (3, 2, 2), (6, 1, 1), (6, 3, 3), (6, 4, 4), (22, 0, 13), (23, 0, 400)] w0 w62 → gi w62 1 4 = 0 → TT (fun n => m_X3_readFact n qr 3 9 (sI w0)) (fun n => b_X3_readFact_41 (j_X3_readFact_X3_readTest qr 3 n) n qr 3 (9 : Int) (v41_2.toInt) (sI w62)) → lv_has ls 5 [(0, .ref (ad 3)), (1, .int 9), (2, .int v41_2)] → W p l e ({ frames := 10, cells := 0, slots := 0, locals := 258 }) s m (List.toArray [.ref (ad 3), .int 9]) below meth c H locs 0 0 (MQ below (va_Qv (Pz_X3_readFact_10 ad cy B qr s1  w0) (fun u : va_W => wpost dC dI cy A u) A) (List.toArray [.ref (ad 3), .int 9]) s 0 0 A) (F0 m 41 ls []) := by
    intro v41_2 H locs ls w62 r63 t64 hw hT hF c65 hM hl
    refine lv_iconst (v := 0) hx hb dX3_readFact_41 (by decide) ?_
    refine lv_istore_n (lv' := [(3, .int 0), (0, .ref (ad 3)), (1, .int 9), (2, .int v41_2)]) hx hb dX3_readFact_42 rfl hl (by decide) rfl (fun ls hl => ?_)
    refine lv_iload_n hx hb dX3_readFact_43 rfl (lv_at hl 3 rfl) ?_
    refine lv_if_ne (tgt := 77) hx hb dX3_readFact_44 (by decide) (fun c66 => ?_) (fun c66 => ?_)
    · have c66 : ¬ v41_2.toInt = (0 : Int) := wk_eqF c66
      replace hM := hM.pos c66
      exact J77 v41_2 0 H locs ls w62 (show 0 ≤ v41_2.toInt from r63) (show v41_2.toInt ≤ 1 from t64) (by decide) (by decide)  hw hT hF c65 hM (lv_sub hl [1, 2, 3, 0] rfl)
    · have c66 : v41_2.toInt = (0 : Int) := wk_eq.mp c66
      replace hM := hM.neg (fun q => q c66)
      refine lv_iload_n hx hb dX3_readFact_47 rfl (lv_at hl 0 rfl) ?_
      refine lv_if_ne (tgt := 77) hx hb dX3_readFact_48 (by decide) (fun c => absurd (by decide) c) (fun _ => ?_)
      replace hM := hM.neg (by decide)
      refine lv_aload_n hx hb dX3_readFact_51 rfl (lv_at hl 1 rfl) ?_
      refine tk_Vv hC hK hw hT hA hE hSR kC_at3 (by decide) rfl (kz_X3_readSum_1 l adK adV dC dI cy ad B hB0 (Int.le_trans hB1 (by decide)) qr s1 hqr   w62 H.size hT c65) (cwV 0 hC.2.2.2.2 uV_RX3_88 rfl rfl rfl (by decide +kernel) ⟨Nat.le_of_ble_eq_true rfl, Nat.le_of_ble_eq_true rfl⟩) rfl hl.1 rfl (Nat.le_of_ble_eq_true rfl) dX3_readFact_52 (fun w69 H locs hp68 hw => ?_)
      obtain ⟨hT, k70, hv72, hg71⟩ := hp68
      have hF := hF.tr k70 (by decide)
      clear hg71
      replace hM := hM.call hv72 rfl
      refine lv_aload_n hx hb dX3_readFact_55 rfl (lv_at hl 1 rfl) ?_
      refine tk_Vi hC hK hw hT hA hE hSR kC_at3 (by decide) rfl (kz_X3_readSign_1 l adK adV dC dI cy ad B hB0 (Int.le_trans hB1 (by decide)) qr s1    w69 H.size hT ) (cwV 0 hC.2.2.2.2 uV_RX3_91 rfl rfl rfl (by decide +kernel) ⟨Nat.le_of_ble_eq_true rfl, Nat.le_of_ble_eq_true rfl⟩) rfl hl.1 rfl (Nat.le_of_ble_eq_true rfl) dX3_readFact_56 (fun r73 w75 H locs hp74 hw => ?_)
      obtain ⟨hT, k76, hv88, hg87⟩ := hp74
      have hF := hF.tr k76 (by decide)
      rcases hg87 with ⟨rfl, ⟨x77, c78, rx77, tx77⟩⟩ | ⟨g79, g80, ⟨x81, c82, rx81, tx81⟩, ⟨x83, c84, rx83, tx83⟩, ⟨x85, c86, rx85, tx85⟩⟩
      · replace hM := hM.call (r' := 16) hv88 (by decide)
        refine lv_istore (lv' := [(4, .int 16), (3, .int 0), (0, .ref (ad 3)), (1, .int 9), (2, .int v41_2)]) hx hb dX3_readFact_59 hl (by decide) rfl (fun ls hl => ?_)
        refine lv_aload_n hx hb dX3_readFact_61 rfl (lv_at hl 2 rfl) ?_
        refine tk_Vv hC hK hw hT hA hE hSR kC_at3 (by decide) rfl (kz_X3_readSum_2 l adK adV dC dI cy ad B hB0 (Int.le_trans hB1 (by decide)) qr s1 hqr   w75 H.size hT x77 c78 (show 1 ≤ x77.toInt by first | with_reducible assumption | omega) (show x77.toInt ≤ 3205 by first | with_reducible assumption | omega)) (cwV 0 hC.2.2.2.2 uV_RX3_88 rfl rfl rfl (by decide +kernel) ⟨Nat.le_of_ble_eq_true rfl, Nat.le_of_ble_eq_true rfl⟩) rfl hl.1 rfl (Nat.le_of_ble_eq_true rfl) dX3_readFact_62 (fun w91 H locs hp90 hw => ?_)
        obtain ⟨hT, k92, hv96, hg95⟩ := hp90
        have hF := hF.tr k92 (by decide)
        have c97 := k92.gi kC_at1 (by decide) c78
        obtain ⟨x93, c94, rx93, tx93⟩ := hg95
        replace hM := hM.call hv96 rfl
        have ex93 : x93.toInt = x77.toInt := by rw [← c97.symm.trans c94]
        refine lv_aload_n hx hb dX3_readFact_65 rfl (lv_at hl 2 rfl) ?_
        refine tk_getQ hC hK hw hT hqr (by decide) hinX3 kC_at3 (by decide) rfl 1 (by decide) (List.mem_cons_of_mem _ uw_26_17) rfl rfl dX3_readFact_66 ?_
        refine lv_iload hx hb dX3_readFact_69 (lv_at hl 0 rfl) ?_
        refine tk_Vv hC hK hw hT hA hE hSR hqr (by decide) rfl (kz_X2_addToken_1 l adK adV dC dI cy ad B hB0 (Int.le_trans hB1 (by decide)) qr s1   qr hqr 16 w91 H.size hT ) (cwV 1 hC.2.2.2.2 uV_RX3_74 rfl rfl rfl (by decide +kernel) ⟨Nat.le_of_ble_eq_true rfl, Nat.le_of_ble_eq_true rfl⟩) rfl hl.1 rfl (Nat.le_of_ble_eq_true rfl) dX3_readFact_71 (fun w100 H locs hp99 hw => ?_)
        obtain ⟨hT, k101, hv105, hg104⟩ := hp99
        try simp only [show (16 : Int32).toInt = 16 by decide] at hv105
        have hF := hF.tr k101 (by decide)
        have c106 := k101.gi kC_at1 (by decide) c97
        obtain ⟨x102, c103, rx102, tx102⟩ := hg104
        replace hM := hM.call hv105 rfl
        refine lv_goto (tgt := 160) hx hb dX3_readFact_74 (by decide) ?_
        exact J160 v41_2 0 H locs ls w100 (show 0 ≤ v41_2.toInt from r63) (show v41_2.toInt ≤ 1 from t64) (by decide) (by decide)  hw hT hF hM (lv_sub hl [2, 3, 4, 1] rfl)
      · replace hM := hM.call hv88 rfl
        refine lv_istore (lv' := [(4, .int r73), (3, .int 0), (0, .ref (ad 3)), (1, .int 9), (2, .int v41_2)]) hx hb dX3_readFact_59 hl (by decide) rfl (fun ls hl => ?_)
        refine lv_aload_n hx hb dX3_readFact_61 rfl (lv_at hl 2 rfl) ?_
        refine tk_Vv hC hK hw hT hA hE hSR kC_at3 (by decide) rfl (kz_X3_readSum_3 l adK adV dC dI cy ad B hB0 (Int.le_trans hB1 (by decide)) qr s1 hqr   w75 H.size hT ) (cwV 0 hC.2.2.2.2 uV_RX3_88 rfl rfl rfl (by decide +kernel) ⟨Nat.le_of_ble_eq_true rfl, Nat.le_of_ble_eq_true rfl⟩) rfl hl.1 rfl (Nat.le_of_ble_eq_true rfl) dX3_readFact_62 (fun w109 H locs hp108 hw => ?_)
        obtain ⟨hT, k110, hv112, hg111⟩ := hp108
        have hF := hF.tr k110 (by decide)
        have c113 := k110.gi kC_at1 (by decide) c82
        clear hg111
        replace hM := hM.call hv112 rfl
        refine lv_aload_n hx hb dX3_readFact_65 rfl (lv_at hl 2 rfl) ?_
        refine tk_getQ hC hK hw hT hqr (by decide) hinX3 kC_at3 (by decide) rfl 1 (by decide) (List.mem_cons_of_mem _ uw_26_17) rfl rfl dX3_readFact_66 ?_
        refine lv_iload hx hb dX3_readFact_69 (lv_at hl 0 rfl) ?_
        refine tk_Vv hC hK hw hT hA hE hSR hqr (by decide) rfl (kz_X2_addToken_1 l adK adV dC dI cy ad B hB0 (Int.le_trans hB1 (by decide)) qr s1   qr hqr r73 w109 H.size hT ) (cwV 1 hC.2.2.2.2 uV_RX3_74 rfl rfl rfl (by decide +kernel) ⟨Nat.le_of_ble_eq_true rfl, Nat.le_of_ble_eq_true rfl⟩) rfl hl.1 rfl (Nat.le_of_ble_eq_true rfl) dX3_readFact_71 (fun w116 H locs hp115 hw => ?_)
        obtain ⟨hT, k117, hv121, hg120⟩ := hp115
        have hF := hF.tr k117 (by decide)
        have c122 := k117.gi kC_at1 (by decide) c113
        obtain ⟨x118, c119, rx118, tx118⟩ := hg120
        replace hM := hM.call hv121 rfl
        refine lv_goto (tgt := 160) hx hb dX3_readFact_74 (by decide) ?_
        exact J160 v41_2 0 H locs ls w116 (show 0 ≤ v41_2.toInt from r63) (show v41_2.toInt ≤ 1 from t64) (by decide) (by decide)  hw hT hF hM (lv_sub hl [2, 3, 4, 1] rfl)
  have hM : TT (fun n => m_X3_readFact n qr 3 9 (sI w0)) (fun n => j_X3_readFact_X3_readTest qr 3 n 1000 [9] (sI w0)) := TT.rf
  replace hM := hM.suc (fun _ => e_X3_readFact_e)
  refine lv_aload_n hx hb dX3_readFact_0 rfl (lv_at hl 0 rfl) ?_
  refine tk_getA hC hK hw hT hinX3 kC_at3 (by decide) rfl 0 (by decide) (List.mem_cons_of_mem _ uw_3_12) rfl rfl dX3_readFact_1 ?_
  refine tk_Vi hC hK hw hT hA hE hSR kC_at1 (by decide) rfl (kz_X6_isFaulty_2 l adK adV dC dI cy ad B hB0 (Int.le_trans hB1 (by decide)) qr s1    w0 s.heap.size hT cf0_) (cwV 0 hC.2.2.2.2 uV_RX3_54 rfl rfl rfl (by decide +kernel) ⟨Nat.le_of_ble_eq_true rfl, Nat.le_of_ble_eq_true rfl⟩) rfl hl.1 rfl (Nat.le_of_ble_eq_true rfl) dX3_readFact_4 (fun r123 w125 H locs hp124 hw => ?_)
  obtain ⟨hT, k126, hv130, hg129⟩ := hp124
  have hF := hF.tr k126 (by decide)
  have c131 := k126.gi kC_at1 (by decide) cf0_
  obtain ⟨rfl, ⟨x127, c128, rx127, tx127⟩⟩ := hg129
  replace hM := hM.call (r' := 0) hv130 (by decide)
  have ex127 : x127.toInt = (0 : Int) := by rw [show x127 = 0 from c128.symm.trans c131]; decide
  refine lv_if_eq (tgt := 11) hx hb dX3_readFact_7 (by decide) (fun _ => ?_) (fun c => absurd (by decide) c)
  replace hM := hM.pos (by decide)
  refine lv_aload_n hx hb dX3_readFact_11 rfl (lv_at hl 0 rfl) ?_
  refine tk_getA hC hK hw hT hinX3 kC_at3 (by decide) rfl 0 (by decide) (List.mem_cons_of_mem _ uw_3_12) rfl rfl dX3_readFact_12 ?_
  refine va_ldcS hx hb hC.2.2.2.1 hSR.2.2.2.2.1 dX3_readFact_15 ?_
  refine tk_Vi hC hK hw hT hA hE hSR kC_at1 (by decide) rfl (kz_X6_takeWord_4 l adK adV dC dI cy ad B hB0 (Int.le_trans hB1 (by decide)) qr s1    w125 H.size hT ) (cwV 1 hC.2.2.2.2 uV_RX3_59 rfl rfl rfl (by decide +kernel) ⟨Nat.le_of_ble_eq_true rfl, Nat.le_of_ble_eq_true rfl⟩) rfl hl.1 rfl (Nat.le_of_ble_eq_true rfl) dX3_readFact_17 (fun r132 w134 H locs hp133 hw => ?_)
  obtain ⟨hT, k135, hv139, hg138⟩ := hp133
  have hF := hF.tr k135 (by decide)
  have c140 := k135.gi kC_at1 (by decide) c131
  rcases hg138 with rfl | ⟨rfl, ⟨x136, c137, rx136, tx136⟩⟩
  · replace hM := hM.call (r' := 0) hv139 (by decide)
    refine lv_istore_n (lv' := [(2, .int 0), (0, .ref (ad 3)), (1, .int 9)]) hx hb dX3_readFact_20 rfl hl (by decide) rfl (fun ls hl => ?_)
    refine lv_iload_n hx hb dX3_readFact_21 rfl (lv_at hl 0 rfl) ?_
    refine lv_if_ne (tgt := 41) hx hb dX3_readFact_22 (by decide) (fun c => absurd (by decide) c) (fun _ => ?_)
    replace hM := hM.neg (by decide)
    refine lv_aload_n hx hb dX3_readFact_25 rfl (lv_at hl 1 rfl) ?_
    refine tk_getA hC hK hw hT hinX3 kC_at3 (by decide) rfl 0 (by decide) (List.mem_cons_of_mem _ uw_3_12) rfl rfl dX3_readFact_26 ?_
    refine lv_bipush (v := 91) hx hb dX3_readFact_29 (by decide) ?_
    refine tk_Vi hC hK hw hT hA hE hSR kC_at1 (by decide) rfl (kz_X6_takeByte_2 l adK adV dC dI cy ad B hB0 (Int.le_trans hB1 (by decide)) qr s1    w134 H.size hT ) (cwV 1 hC.2.2.2.2 uV_RX3_84 rfl rfl rfl (by decide +kernel) ⟨Nat.le_of_ble_eq_true rfl, Nat.le_of_ble_eq_true rfl⟩) rfl hl.1 rfl (Nat.le_of_ble_eq_true rfl) dX3_readFact_31 (fun r141 w143 H locs hp142 hw => ?_)
    obtain ⟨hT, k144, hv150, hg149⟩ := hp142
    have hF := hF.tr k144 (by decide)
    have c151 := k144.gi kC_at1 (by decide) c140
    rcases hg149 with rfl | ⟨rfl, ⟨x145, c146, rx145, tx145⟩, ⟨x147, c148, rx147, tx147⟩⟩
    · replace hM := hM.call (r' := 0) hv150 (by decide)
      refine lv_if_eq (tgt := 41) hx hb dX3_readFact_34 (by decide) (fun _ => ?_) (fun c => absurd (by decide) c)
      replace hM := hM.pos (by decide)
      exact J41 0 H locs ls w143 (by decide) (by decide)  hw hT hF c151 hM (lv_sub hl [1, 2, 0] rfl)
    · replace hM := hM.call (r' := 1) hv150 (by decide)
      refine lv_if_eq (tgt := 41) hx hb dX3_readFact_34 (by decide) (fun c => absurd c (by decide)) (fun _ => ?_)
      replace hM := hM.neg (by decide)
      refine lv_iconst (v := 1) hx hb dX3_readFact_37 (by decide) ?_
      refine lv_goto (tgt := 42) hx hb dX3_readFact_38 (by decide) ?_
      refine lv_istore_n (lv' := [(3, .int 1), (2, .int 0), (0, .ref (ad 3)), (1, .int 9)]) hx hb dX3_readFact_42 rfl hl (by decide) rfl (fun ls hl => ?_)
      refine lv_iload_n hx hb dX3_readFact_43 rfl (lv_at hl 1 rfl) ?_
      refine lv_if_ne (tgt := 77) hx hb dX3_readFact_44 (by decide) (fun c => absurd (by decide) c) (fun _ => ?_)
      replace hM := hM.neg (by decide)
      refine lv_iload_n hx hb dX3_readFact_47 rfl (lv_at hl 0 rfl) ?_
      refine lv_if_ne (tgt := 77) hx hb dX3_readFact_48 (by decide) (fun _ => ?_) (fun c => absurd c (by decide))
      replace hM := hM.pos (by decide)
      exact J77 0 1 H locs ls w143 (by decide) (by decide) (by decide) (by decide)  hw hT hF c151 hM (lv_sub hl [2, 3, 1, 0] rfl)
  · replace hM := hM.call (r' := 1) hv139 (by decide)
    refine lv_istore_n (lv' := [(2, .int 1), (0, .ref (ad 3)), (1, .int 9)]) hx hb dX3_readFact_20 rfl hl (by decide) rfl (fun ls hl => ?_)
    refine lv_iload_n hx hb dX3_readFact_21 rfl (lv_at hl 0 rfl) ?_
    refine lv_if_ne (tgt := 41) hx hb dX3_readFact_22 (by decide) (fun _ => ?_) (fun c => absurd c (by decide))
    replace hM := hM.pos (by decide)
    exact J41 1 H locs ls w134 (by decide) (by decide)  hw hT hF c140 hM (lv_sub hl [1, 2, 0] rfl)
abbrev Pz_X3_readTest_10 (ad : Nat → Nat) (cy : Nat → ClassId) (B : Int) (qr : Nat) (s1 : Int)  (w0 : va_W) : va_W → Prop := fun u => TW ksC ad cy B qr s1 u ∧ FE ksC [(2, 3, 3), (3, 2, 2), (6, 1, 1), (6, 3, 3), (6, 4, 4), (22, 0, 13), (23, 0, 400)] w0 u ∧ Ev (fun n => m_X3_readTest n qr 3 9 (sI w0)) (0, sI u) ∧ ((True))
set_option maxHeartbeats 4000000 in
set_option maxRecDepth 100000 in
theorem kz_X3_readTest_10 (l : Launch) (adK adV : Nat → Nat) (dC : Nat → ClassId) (dI : Nat → Nat → Nat) (cy : Nat → ClassId) (ad : Nat → Nat) (B : Int) (hB0 : 2147483648 ≤ B) (hB1 : B ≤ 1152921504606846976) (qr : Nat) (s1 : Int) (hqr : ksC[qr]? = some 2)  (w0 : va_W) (sz : Nat) (hT : TW ksC ad cy B qr s1 w0) (cf0_ : gi w0 1 4 = 0) : Met l yX3_readTest (wu yX3_readTest cX3_readTest 4 none) ({ frames := 11, cells := 0, slots := 0, locals := 282 }) (va_Pc [.ref (ad 3), .int 9] (wpreS adK adV dC dI cy sz w0)) (va_Qv (Pz_X3_readTest_10 ad cy B qr s1  w0) (fun u : va_W => wpost dC dI cy (va_A w0 sz) u) (va_A w0 sz)) 0 0 (va_A w0 sz) := by
  refine Met.ofW (cc := cX3_readTest) (maxL := 4) (ret := none) (by decide) rfl ?_
  intro p e s m args below meth c s₁ Bk hml hv
  obtain ⟨rfl, ⟨hsz, hP, hK, hD0⟩, hE, hSR⟩ := hv
  have hx := Bk.exec
  have hb := Bk.bytes
  have hr := Bk.returns
  have hlocks := Bk.notSynchronized
  have hC : CallFix p m c cX3_readTest 4 s _ (wu yX3_readTest cX3_readTest 4 none) RX3 := ⟨hx, hb, hml, findClass_of_methodNamed Bk.named, atoms_spec (ws := (wu yX3_readTest cX3_readTest 4 none)) Bk.pre⟩
  subst hsz
  have hD := hD0.self (sz := s.heap.size)
  generalize hAe : va_A w0 s.heap.size = A at hD hE ⊢
  have hA : ∀ q : Nat, s.heap.size ≤ q → A q := fun q h => by rw [← hAe]; exact Or.inr h
  have hw : Wd dC dI A s.heap s.heap [] w0 := ⟨hP, hD, va_S.rf⟩
  have hF : FE ksC [(2, 3, 3), (3, 2, 2), (6, 1, 1), (6, 3, 3), (6, 4, 4), (22, 0, 13), (23, 0, 400)] w0 w0 := FE.rf
  have hl := lv_entry ([.ref (ad 3), .int 9]) (n := 4) (Nat.le_of_ble_eq_true rfl)
  rw [lg_entry_eq]
  generalize (lg_sl ([.ref (ad 3), .int 9]) ++ List.replicate (4 - (lg_sl ([.ref (ad 3), .int 9])).length) Slot.unset).toArray = ls at hl ⊢
  have hl : lv_has ls 4 [(0, .ref (ad 3)), (1, .int 9)] := hl
  generalize hloc : ([] : List Loc) = locs at hw ⊢
  have hinX3 : ∀ w ∈ u_ws RX3 TX3 3, w ∈ (wu yX3_readTest cX3_readTest 4 none) := fun _ h => List.mem_cons_of_mem _ (up_75 h)
  have J86 : ∀ (v86_2 : Int32) (v86_3 : Int32) (H : Heap) (locs : List Loc) (ls : Array Slot) (w1 : va_W), (-1) ≤ v86_2.toInt → v86_2.toInt ≤ 21 → 0 ≤ v86_3.toInt → v86_3.toInt ≤ 400 → Wd dC dI A s.heap H locs w1 → TW ksC ad cy B qr s1 w1 → FE ksC [(2, 3, 3), (3, 2, 2), (6, 1, 1), (6, 3, 3), (6, 4, 4), (22, 0, 13), (23, 0, 400)] w0 w1 → TT (fun n => m_X3_readTest n qr 3 9 (sI w0)) (fun n => b_X3_readTest_86 (j_X3_readFact_X3_readTest qr 3 n) n qr 3 (v86_2.toInt) (sI w1)) → lv_has ls 4 [(0, .ref (ad 3)), (1, .int 9), (2, .int v86_2), (3, .int v86_3)] → W p l e ({ frames := 11, cells := 0, slots := 0, locals := 282 }) s m (List.toArray [.ref (ad 3), .int 9]) below meth c H locs 0 0 (MQ below (va_Qv (Pz_X3_readTest_10 ad cy B qr s1  w0) (fun u : va_W => wpost dC dI cy A u) A) (List.toArray [.ref (ad 3), .int 9]) s 0 0 A) (F0 m 86 ls []) := by
    intro v86_2 v86_3 H locs ls w1 r2 t3 r4 t5 hw hT hF hM hl
    refine lv_aload_n hx hb dX3_readTest_86 rfl (lv_at hl 0 rfl) ?_
    refine lv_iload_n hx hb dX3_readTest_87 rfl (lv_at hl 2 rfl) ?_
    refine tk_Vv hC hK hw hT hA hE hSR kC_at3 (by decide) rfl (kz_X3_addWaiting_1 l adK adV dC dI cy ad B hB0 (Int.le_trans hB1 (by decide)) qr s1 hqr  v86_2 w1 H.size hT ) (cwV 1 hC.2.2.2.2 uV_RX3_79 rfl rfl rfl (by decide +kernel) ⟨Nat.le_of_ble_eq_true rfl, Nat.le_of_ble_eq_true rfl⟩) rfl hl.1 rfl (Nat.le_of_ble_eq_true rfl) dX3_readTest_88 (fun w8 H locs hp7 hw => ?_)
    obtain ⟨hT, k9, hv11, hg10⟩ := hp7
    have hF := hF.tr k9 (by decide)
    clear hg10
    replace hM := hM.call hv11 rfl
    exact tk_vret hC hr hlocks hK ⟨hT, hF, hM.ret rfl, trivial⟩ hw dX3_readTest_91
  have L9 : ∀ (n9 : Nat) (v9_2 : Int32) (v9_3 : Int32) (H : Heap) (locs : List Loc) (ls : Array Slot) (w12 : va_W), (-1) ≤ v9_2.toInt → v9_2.toInt ≤ 21 → 0 ≤ v9_3.toInt → v9_3.toInt ≤ 400 → (400 - v9_3.toInt).toNat < n9 → Wd dC dI A s.heap H locs w12 → TW ksC ad cy B qr s1 w12 → FE ksC [(2, 3, 3), (3, 2, 2), (6, 1, 1), (6, 3, 3), (6, 4, 4), (22, 0, 13), (23, 0, 400)] w0 w12 → TT (fun n => m_X3_readTest n qr 3 9 (sI w0)) (fun n => j_X3_readFact_X3_readTest qr 3 n 2009 [(9 : Int), v9_2.toInt, v9_3.toInt] (sI w12)) → lv_has ls 4 [(0, .ref (ad 3)), (1, .int 9), (2, .int v9_2), (3, .int v9_3)] → W p l e ({ frames := 11, cells := 0, slots := 0, locals := 282 }) s m (List.toArray [.ref (ad 3), .int 9]) below meth c H locs 0 0 (MQ below (va_Qv (Pz_X3_readTest_10 ad cy B qr s1  w0) (fun u : va_W => wpost dC dI cy A u) A) (List.toArray [.ref (ad 3), .int 9]) s 0 0 A) (F0 m 9 ls []) := by
    intro n9
    induction n9 with
    | zero => intro v9_2 v9_3 H locs ls w12 r13 t14 r15 t16 hm9 hw hT hF hM hl; omega
    | succ n9 ih9 =>
      intro v9_2 v9_3 H locs ls w12 r13 t14 r15 t16 hm9 hw hT hF hM hl
      have J80 : ∀ (v80_2 : Int32) (H : Heap) (locs : List Loc) (ls : Array Slot) (w17 : va_W), (-1) ≤ v80_2.toInt → v80_2.toInt ≤ 21 → 0 ≤ v9_3.toInt → v9_3.toInt ≤ 399 → Wd dC dI A s.heap H locs w17 → TW ksC ad cy B qr s1 w17 → FE ksC [(2, 3, 3), (3, 2, 2), (6, 1, 1), (6, 3, 3), (6, 4, 4), (22, 0, 13), (23, 0, 400)] w0 w17 → TT (fun n => m_X3_readTest n qr 3 9 (sI w0)) (fun n => b_X3_readTest_80 (j_X3_readFact_X3_readTest qr 3 n) n qr 3 (9 : Int) (v80_2.toInt) (v9_3.toInt) (sI w17)) → lv_has ls 4 [(0, .ref (ad 3)), (1, .int 9), (2, .int v80_2), (3, .int v9_3)] → W p l e ({ frames := 11, cells := 0, slots := 0, locals := 282 }) s m (List.toArray [.ref (ad 3), .int 9]) below meth c H locs 0 0 (MQ below (va_Qv (Pz_X3_readTest_10 ad cy B qr s1  w0) (fun u : va_W => wpost dC dI cy A u) A) (List.toArray [.ref (ad 3), .int 9]) s 0 0 A) (F0 m 80 ls []) := by
        intro v80_2 H locs ls w17 r18 t19 r20 t21 hw hT hF hM hl
        obtain ⟨x22, ex22⟩ : ∃ y : Int32, y = v9_3 + Int32.ofInt 1 := ⟨_, rfl⟩
        have erx22 := ex22
        refine lv_iinc (v := x22) (lv' := [(3, .int x22), (0, .ref (ad 3)), (1, .int 9), (2, .int v80_2)]) hx hb dX3_readTest_80 hl (k := 3) rfl ex22.symm (by decide) rfl (fun ls hl => ?_)
        have ex22 : x22.toInt = v9_3.toInt + 1 := by rw [ex22]; exact wk_add (y := 1) (show -2147483648 ≤ v9_3.toInt + 1 by omega) (show v9_3.toInt + 1 ≤ 2147483647 by omega)
        replace hM := hM.lt ex22.symm
        refine lv_goto (tgt := 9) hx hb dX3_readTest_83 (by decide) ?_
        exact ih9 v80_2 x22 H locs ls w17 (show (-1) ≤ v80_2.toInt from r18) (show v80_2.toInt ≤ 21 from t19) (show 0 ≤ x22.toInt by first | with_reducible assumption | omega) (show x22.toInt ≤ 400 by first | with_reducible assumption | omega) (show (400 - x22.toInt).toNat < n9 by first | exact tn_lt hm9 (by omega) (by omega) | omega) hw hT hF hM (lv_sub hl [1, 2, 3, 0] rfl)
      replace hM := hM.suc (fun _ => e_X3_readTest_9)
      refine lv_iload_n hx hb dX3_readTest_9 rfl (lv_at hl 3 rfl) ?_
      refine lv_sipush (v := 400) hx hb dX3_readTest_10 (by decide) ?_
      refine lv_icmp_ge (tgt := 86) hx hb dX3_readTest_13 (by decide) (fun c23 => ?_) (fun c23 => ?_)
      · have c23 : (400 : Int) ≤ v9_3.toInt := wk_le.mp c23
        replace hM := hM.pos c23
        exact J86 v9_2 v9_3 H locs ls w12 (show (-1) ≤ v9_2.toInt from r13) (show v9_2.toInt ≤ 21 from t14) (show 0 ≤ v9_3.toInt from r15) (show v9_3.toInt ≤ 400 from t16)  hw hT hF hM (lv_sub hl [0, 1, 2, 3] rfl)
      · have c23 : v9_3.toInt < (400 : Int) := wk_leF c23
        replace hM := hM.neg (Int.not_le.mpr c23)
        refine lv_aload_n hx hb dX3_readTest_16 rfl (lv_at hl 0 rfl) ?_
        refine tk_getA hC hK hw hT hinX3 kC_at3 (by decide) rfl 0 (by decide) (List.mem_cons_of_mem _ uw_3_12) rfl rfl dX3_readTest_17 ?_
        refine tk_Vi hC hK hw hT hA hE hSR kC_at1 (by decide) rfl (kz_X6_isFaulty_1 l adK adV dC dI cy ad B hB0 (Int.le_trans hB1 (by decide)) qr s1    w12 H.size hT ) (cwV 0 hC.2.2.2.2 uV_RX3_54 rfl rfl rfl (by decide +kernel) ⟨Nat.le_of_ble_eq_true rfl, Nat.le_of_ble_eq_true rfl⟩) rfl hl.1 rfl (Nat.le_of_ble_eq_true rfl) dX3_readTest_20 (fun r24 w26 H locs hp25 hw => ?_)
        obtain ⟨hT, k27, hv33, hg32⟩ := hp25
        have hF := hF.tr k27 (by decide)
        rcases hg32 with ⟨rfl, ⟨x28, c29, rx28, tx28⟩⟩ | ⟨rfl, ⟨x30, c31, rx30, tx30⟩⟩
        · replace hM := hM.call (r' := 0) hv33 (by decide)
          refine lv_if_ne (tgt := 86) hx hb dX3_readTest_23 (by decide) (fun c => absurd (by decide) c) (fun _ => ?_)
          replace hM := hM.neg (by decide)
          refine lv_aload_n hx hb dX3_readTest_26 rfl (lv_at hl 0 rfl) ?_
          refine tk_getA hC hK hw hT hinX3 kC_at3 (by decide) rfl 0 (by decide) (List.mem_cons_of_mem _ uw_3_12) rfl rfl dX3_readTest_27 ?_
          refine va_ldcS hx hb hC.2.2.2.1 hSR.2.2.2.2.2.2.1 dX3_readTest_30 ?_
          refine tk_Vi hC hK hw hT hA hE hSR kC_at1 (by decide) rfl (kz_X6_takeWord_2 l adK adV dC dI cy ad B hB0 (Int.le_trans hB1 (by decide)) qr s1    w26 H.size hT ) (cwV 1 hC.2.2.2.2 uV_RX3_59 rfl rfl rfl (by decide +kernel) ⟨Nat.le_of_ble_eq_true rfl, Nat.le_of_ble_eq_true rfl⟩) rfl hl.1 rfl (Nat.le_of_ble_eq_true rfl) dX3_readTest_32 (fun r34 w36 H locs hp35 hw => ?_)
          obtain ⟨hT, k37, hv41, hg40⟩ := hp35
          have hF := hF.tr k37 (by decide)
          have c42 := k37.gi kC_at1 (by decide) c29
          rcases hg40 with rfl | ⟨rfl, ⟨x38, c39, rx38, tx38⟩⟩
          · replace hM := hM.call (r' := 0) hv41 (by decide)
            refine lv_if_eq (tgt := 55) hx hb dX3_readTest_35 (by decide) (fun _ => ?_) (fun c => absurd (by decide) c)
            replace hM := hM.pos (by decide)
            refine lv_aload_n hx hb dX3_readTest_55 rfl (lv_at hl 0 rfl) ?_
            refine tk_getA hC hK hw hT hinX3 kC_at3 (by decide) rfl 0 (by decide) (List.mem_cons_of_mem _ uw_3_12) rfl rfl dX3_readTest_56 ?_
            refine va_ldcS hx hb hC.2.2.2.1 hSR.2.2.2.2.2.2.2 dX3_readTest_59 ?_
            refine tk_Vi hC hK hw hT hA hE hSR kC_at1 (by decide) rfl (kz_X6_takeWord_3 l adK adV dC dI cy ad B hB0 (Int.le_trans hB1 (by decide)) qr s1    w36 H.size hT ) (cwV 1 hC.2.2.2.2 uV_RX3_59 rfl rfl rfl (by decide +kernel) ⟨Nat.le_of_ble_eq_true rfl, Nat.le_of_ble_eq_true rfl⟩) rfl hl.1 rfl (Nat.le_of_ble_eq_true rfl) dX3_readTest_61 (fun r43 w45 H locs hp44 hw => ?_)
            obtain ⟨hT, k46, hv50, hg49⟩ := hp44
            have hF := hF.tr k46 (by decide)
            have c51 := k46.gi kC_at1 (by decide) c42
            rcases hg49 with rfl | ⟨rfl, ⟨x47, c48, rx47, tx47⟩⟩
            · replace hM := hM.call (r' := 0) hv50 (by decide)
              refine lv_if_eq (tgt := 86) hx hb dX3_readTest_64 (by decide) (fun _ => ?_) (fun c => absurd (by decide) c)
              replace hM := hM.pos (by decide)
              exact J86 v9_2 v9_3 H locs ls w45 (show (-1) ≤ v9_2.toInt from r13) (show v9_2.toInt ≤ 21 from t14) (show 0 ≤ v9_3.toInt from r15) (show v9_3.toInt ≤ 400 from t16)  hw hT hF hM (lv_sub hl [0, 1, 2, 3] rfl)
            · replace hM := hM.call (r' := 1) hv50 (by decide)
              refine lv_if_eq (tgt := 86) hx hb dX3_readTest_64 (by decide) (fun c => absurd c (by decide)) (fun _ => ?_)
              replace hM := hM.neg (by decide)
              refine lv_aload_n hx hb dX3_readTest_67 rfl (lv_at hl 0 rfl) ?_
              refine lv_iload_n hx hb dX3_readTest_68 rfl (lv_at hl 2 rfl) ?_
              refine tk_Vv hC hK hw hT hA hE hSR kC_at3 (by decide) rfl (kz_X3_addWaiting_1 l adK adV dC dI cy ad B hB0 (Int.le_trans hB1 (by decide)) qr s1 hqr  v9_2 w45 H.size hT ) (cwV 1 hC.2.2.2.2 uV_RX3_79 rfl rfl rfl (by decide +kernel) ⟨Nat.le_of_ble_eq_true rfl, Nat.le_of_ble_eq_true rfl⟩) rfl hl.1 rfl (Nat.le_of_ble_eq_true rfl) dX3_readTest_69 (fun w54 H locs hp53 hw => ?_)
              obtain ⟨hT, k55, hv57, hg56⟩ := hp53
              have hF := hF.tr k55 (by decide)
              have c58 := k55.gi kC_at1 (by decide) c51
              have c59 := k55.gi kC_at1 (by decide) c48
              clear hg56
              replace hM := hM.call hv57 rfl
              refine lv_bipush (v := 21) hx hb dX3_readTest_72 (by decide) ?_
              refine lv_istore_n (lv' := [(2, .int 21), (0, .ref (ad 3)), (1, .int 9), (3, .int v9_3)]) hx hb dX3_readTest_74 rfl hl (by decide) rfl (fun ls hl => ?_)
              refine lv_aload_n hx hb dX3_readTest_75 rfl (lv_at hl 1 rfl) ?_
              refine lv_iload_n hx hb dX3_readTest_76 rfl (lv_at hl 2 rfl) ?_
              refine tk_Vv hC hK hw hT hA hE hSR kC_at3 (by decide) rfl (kz_X3_readFact_10 l adK adV dC dI cy ad B hB0 (Int.le_trans hB1 (by decide)) qr s1 hqr   w54 H.size hT (c58.trans (wk_eq.mpr (show x28.toInt = 0 by first | exact Int.le_antisymm (by omega) (by omega) | omega)))) (cwV 1 hC.2.2.2.2 uV_RX3_69 rfl rfl rfl (by decide +kernel) ⟨Nat.le_of_ble_eq_true rfl, Nat.le_of_ble_eq_true rfl⟩) rfl hl.1 rfl (Nat.le_of_ble_eq_true rfl) dX3_readTest_77 (fun w62 H locs hp61 hw => ?_)
              obtain ⟨hT, k63, hv65, hg64⟩ := hp61
              have hF := hF.tr k63 (by decide)
              clear hg64
              replace hM := hM.call hv65 rfl
              exact J80 21 H locs ls w62 (by decide) (by decide) (show 0 ≤ v9_3.toInt from r15) (show v9_3.toInt ≤ 399 by first | with_reducible assumption | omega)  hw hT hF hM (lv_sub hl [1, 2, 0, 3] rfl)
          · replace hM := hM.call (r' := 1) hv41 (by decide)
            refine lv_if_eq (tgt := 55) hx hb dX3_readTest_35 (by decide) (fun c => absurd c (by decide)) (fun _ => ?_)
            replace hM := hM.neg (by decide)
            refine lv_aload_n hx hb dX3_readTest_38 rfl (lv_at hl 0 rfl) ?_
            refine lv_iload_n hx hb dX3_readTest_39 rfl (lv_at hl 1 rfl) ?_
            refine tk_Vv hC hK hw hT hA hE hSR kC_at3 (by decide) rfl (kz_X3_readFact_10 l adK adV dC dI cy ad B hB0 (Int.le_trans hB1 (by decide)) qr s1 hqr   w36 H.size hT (c42.trans (wk_eq.mpr (show x28.toInt = 0 by first | exact Int.le_antisymm (by omega) (by omega) | omega)))) (cwV 1 hC.2.2.2.2 uV_RX3_69 rfl rfl rfl (by decide +kernel) ⟨Nat.le_of_ble_eq_true rfl, Nat.le_of_ble_eq_true rfl⟩) rfl hl.1 rfl (Nat.le_of_ble_eq_true rfl) dX3_readTest_40 (fun w68 H locs hp67 hw => ?_)
            obtain ⟨hT, k69, hv71, hg70⟩ := hp67
            have hF := hF.tr k69 (by decide)
            clear hg70
            replace hM := hM.call hv71 rfl
            refine lv_aload_n hx hb dX3_readTest_43 rfl (lv_at hl 0 rfl) ?_
            refine tk_getQ hC hK hw hT hqr (by decide) hinX3 kC_at3 (by decide) rfl 1 (by decide) (List.mem_cons_of_mem _ uw_26_17) rfl rfl dX3_readTest_44 ?_
            refine lv_bipush (v := 20) hx hb dX3_readTest_47 (by decide) ?_
            refine tk_Vv hC hK hw hT hA hE hSR hqr (by decide) rfl (kz_X2_addToken_1 l adK adV dC dI cy ad B hB0 (Int.le_trans hB1 (by decide)) qr s1   qr hqr 20 w68 H.size hT ) (cwV 1 hC.2.2.2.2 uV_RX3_74 rfl rfl rfl (by decide +kernel) ⟨Nat.le_of_ble_eq_true rfl, Nat.le_of_ble_eq_true rfl⟩) rfl hl.1 rfl (Nat.le_of_ble_eq_true rfl) dX3_readTest_49 (fun w74 H locs hp73 hw => ?_)
            obtain ⟨hT, k75, hv79, hg78⟩ := hp73
            try simp only [show (20 : Int32).toInt = 20 by decide] at hv79
            have hF := hF.tr k75 (by decide)
            obtain ⟨x76, c77, rx76, tx76⟩ := hg78
            replace hM := hM.call hv79 rfl
            refine lv_goto (tgt := 80) hx hb dX3_readTest_52 (by decide) ?_
            exact J80 v9_2 H locs ls w74 (show (-1) ≤ v9_2.toInt from r13) (show v9_2.toInt ≤ 21 from t14) (show 0 ≤ v9_3.toInt from r15) (show v9_3.toInt ≤ 399 by first | with_reducible assumption | omega)  hw hT hF hM (lv_sub hl [0, 1, 2, 3] rfl)
        · replace hM := hM.call (r' := 1) hv33 (by decide)
          refine lv_if_ne (tgt := 86) hx hb dX3_readTest_23 (by decide) (fun _ => ?_) (fun c => absurd c (by decide))
          replace hM := hM.pos (by decide)
          exact J86 v9_2 v9_3 H locs ls w26 (show (-1) ≤ v9_2.toInt from r13) (show v9_2.toInt ≤ 21 from t14) (show 0 ≤ v9_3.toInt from r15) (show v9_3.toInt ≤ 400 from t16)  hw hT hF hM (lv_sub hl [0, 1, 2, 3] rfl)
  have hM : TT (fun n => m_X3_readTest n qr 3 9 (sI w0)) (fun n => j_X3_readFact_X3_readTest qr 3 n 2000 [9] (sI w0)) := TT.rf
  replace hM := hM.suc (fun _ => e_X3_readTest_e)
  refine lv_aload_n hx hb dX3_readTest_0 rfl (lv_at hl 0 rfl) ?_
  refine lv_iload_n hx hb dX3_readTest_1 rfl (lv_at hl 1 rfl) ?_
  refine tk_Vv hC hK hw hT hA hE hSR kC_at3 (by decide) rfl (kz_X3_readFact_10 l adK adV dC dI cy ad B hB0 (Int.le_trans hB1 (by decide)) qr s1 hqr   w0 s.heap.size hT cf0_) (cwV 1 hC.2.2.2.2 uV_RX3_69 rfl rfl rfl (by decide +kernel) ⟨Nat.le_of_ble_eq_true rfl, Nat.le_of_ble_eq_true rfl⟩) rfl hl.1 rfl (Nat.le_of_ble_eq_true rfl) dX3_readTest_2 (fun w82 H locs hp81 hw => ?_)
  obtain ⟨hT, k83, hv85, hg84⟩ := hp81
  have hF := hF.tr k83 (by decide)
  clear hg84
  replace hM := hM.call hv85 rfl
  refine lv_iconst (v := (-1)) hx hb dX3_readTest_5 (by decide) ?_
  refine lv_istore_n (lv' := [(2, .int (-1)), (0, .ref (ad 3)), (1, .int 9)]) hx hb dX3_readTest_6 rfl hl (by decide) rfl (fun ls hl => ?_)
  refine lv_iconst (v := 0) hx hb dX3_readTest_7 (by decide) ?_
  refine lv_istore_n (lv' := [(3, .int 0), (2, .int (-1)), (0, .ref (ad 3)), (1, .int 9)]) hx hb dX3_readTest_8 rfl hl (by decide) rfl (fun ls hl => ?_)
  exact L9 ((400 - (0 : Int)).toNat + 1) (-1) 0 H locs ls w82 (by decide) (by decide) (by decide) (by decide) (Nat.lt_succ_self _) hw hT hF hM (lv_sub hl [2, 3, 1, 0] rfl)
abbrev Pz_X3_readFact_9 (ad : Nat → Nat) (cy : Nat → ClassId) (B : Int) (qr : Nat) (s1 : Int)  (w0 : va_W) : va_W → Prop := fun u => TW ksC ad cy B qr s1 u ∧ FE ksC [(2, 3, 3), (3, 2, 2), (6, 1, 1), (6, 3, 3), (6, 4, 4), (22, 0, 13), (23, 0, 400)] w0 u ∧ Ev (fun n => m_X3_readFact n qr 3 8 (sI w0)) (0, sI u) ∧ ((True))
set_option maxHeartbeats 4000000 in
set_option maxRecDepth 100000 in
theorem kz_X3_readFact_9 (l : Launch) (adK adV : Nat → Nat) (dC : Nat → ClassId) (dI : Nat → Nat → Nat) (cy : Nat → ClassId) (ad : Nat → Nat) (B : Int) (hB0 : 2147483648 ≤ B) (hB1 : B ≤ 1152921504606846976) (qr : Nat) (s1 : Int) (hqr : ksC[qr]? = some 2)  (w0 : va_W) (sz : Nat) (hT : TW ksC ad cy B qr s1 w0) (cf0_ : gi w0 1 4 = 0) : Met l yX3_readFact (wu yX3_readFact cX3_readFact 5 none) ({ frames := 12, cells := 0, slots := 0, locals := 305 }) (va_Pc [.ref (ad 3), .int 8] (wpreS adK adV dC dI cy sz w0)) (va_Qv (Pz_X3_readFact_9 ad cy B qr s1  w0) (fun u : va_W => wpost dC dI cy (va_A w0 sz) u) (va_A w0 sz)) 0 0 (va_A w0 sz) := by
  refine Met.ofW (cc := cX3_readFact) (maxL := 5) (ret := none) (by decide) rfl ?_
  intro p e s m args below meth c s₁ Bk hml hv
  obtain ⟨rfl, ⟨hsz, hP, hK, hD0⟩, hE, hSR⟩ := hv
  have hx := Bk.exec
  have hb := Bk.bytes
  have hr := Bk.returns
  have hlocks := Bk.notSynchronized
  have hC : CallFix p m c cX3_readFact 5 s _ (wu yX3_readFact cX3_readFact 5 none) RX3 := ⟨hx, hb, hml, findClass_of_methodNamed Bk.named, atoms_spec (ws := (wu yX3_readFact cX3_readFact 5 none)) Bk.pre⟩
  subst hsz
  have hD := hD0.self (sz := s.heap.size)
  generalize hAe : va_A w0 s.heap.size = A at hD hE ⊢
  have hA : ∀ q : Nat, s.heap.size ≤ q → A q := fun q h => by rw [← hAe]; exact Or.inr h
  have hw : Wd dC dI A s.heap s.heap [] w0 := ⟨hP, hD, va_S.rf⟩
  have hF : FE ksC [(2, 3, 3), (3, 2, 2), (6, 1, 1), (6, 3, 3), (6, 4, 4), (22, 0, 13), (23, 0, 400)] w0 w0 := FE.rf
  have hl := lv_entry ([.ref (ad 3), .int 8]) (n := 5) (Nat.le_of_ble_eq_true rfl)
  rw [lg_entry_eq]
  generalize (lg_sl ([.ref (ad 3), .int 8]) ++ List.replicate (5 - (lg_sl ([.ref (ad 3), .int 8])).length) Slot.unset).toArray = ls at hl ⊢
  have hl : lv_has ls 5 [(0, .ref (ad 3)), (1, .int 8)] := hl
  generalize hloc : ([] : List Loc) = locs at hw ⊢
  have hinX3 : ∀ w ∈ u_ws RX3 TX3 3, w ∈ (wu yX3_readFact cX3_readFact 5 none) := fun _ h => List.mem_cons_of_mem _ (up_75 h)
  have J160 : ∀ (v160_2 : Int32) (v160_3 : Int32) (H : Heap) (locs : List Loc) (ls : Array Slot) (w1 : va_W), 0 ≤ v160_2.toInt → v160_2.toInt ≤ 1 → 0 ≤ v160_3.toInt → v160_3.toInt ≤ 1 → Wd dC dI A s.heap H locs w1 → TW ksC ad cy B qr s1 w1 → FE ksC [(2, 3, 3), (3, 2, 2), (6, 1, 1), (6, 3, 3), (6, 4, 4), (22, 0, 13), (23, 0, 400)] w0 w1 → TT (fun n => m_X3_readFact n qr 3 8 (sI w0)) (fun n => b_X3_readFact_160 (j_X3_readFact_X3_readTest qr 3 n) n qr 3 (sI w1)) → lv_has ls 5 [(0, .ref (ad 3)), (1, .int 8), (2, .int v160_2), (3, .int v160_3)] → W p l e ({ frames := 12, cells := 0, slots := 0, locals := 305 }) s m (List.toArray [.ref (ad 3), .int 8]) below meth c H locs 0 0 (MQ below (va_Qv (Pz_X3_readFact_9 ad cy B qr s1  w0) (fun u : va_W => wpost dC dI cy A u) A) (List.toArray [.ref (ad 3), .int 8]) s 0 0 A) (F0 m 160 ls []) := by
    intro v160_2 v160_3 H locs ls w1 r2 t3 r4 t5 hw hT hF hM hl
    exact tk_vret hC hr hlocks hK ⟨hT, hF, hM.ret rfl, trivial⟩ hw dX3_readFact_160
  have J77 : ∀ (v77_2 : Int32) (v77_3 : Int32) (H : Heap) (locs : List Loc) (ls : Array Slot) (w6 : va_W), 0 ≤ v77_2.toInt → v77_2.toInt ≤ 1 → 0 ≤ v77_3.toInt → v77_3.toInt ≤ 1 → Wd dC dI A s.heap H locs w6 → TW ksC ad cy B qr s1 w6 → FE ksC [(2, 3, 3), (3, 2, 2), (6, 1, 1), (6, 3, 3), (6, 4, 4), (22, 0, 13), (23, 0, 400)] w0 w6 → gi w6 1 4 = 0 → TT (fun n => m_X3_readFact n qr 3 8 (sI w0)) (fun n => b_X3_readFact_77 (j_X3_readFact_X3_readTest qr 3 n) n qr 3 (8 : Int) (v77_2.toInt) (sI w6)) → lv_has ls 5 [(0, .ref (ad 3)), (1, .int 8), (2, .int v77_2), (3, .int v77_3)] → W p l e ({ frames := 12, cells := 0, slots := 0, locals := 305 }) s m (List.toArray [.ref (ad 3), .int 8]) below meth c H locs 0 0 (MQ below (va_Qv (Pz_X3_readFact_9 ad cy B qr s1  w0) (fun u : va_W => wpost dC dI cy A u) A) (List.toArray [.ref (ad 3), .int 8]) s 0 0 A) (F0 m 77 ls []) := by
    intro v77_2 v77_3 H locs ls w6 r7 t8 r9 t10 hw hT hF c11 hM hl
    refine lv_iload_n hx hb dX3_readFact_77 rfl (lv_at hl 1 rfl) ?_
    refine lv_bipush (v := 10) hx hb dX3_readFact_78 (by decide) ?_
    refine lv_icmp_lt (tgt := 101) hx hb dX3_readFact_80 (by decide) (fun _ => ?_) (fun c => absurd (by decide) c)
    replace hM := hM.pos (by decide)
    refine lv_iload_n hx hb dX3_readFact_101 rfl (lv_at hl 2 rfl) ?_
    refine lv_if_eq (tgt := 124) hx hb dX3_readFact_102 (by decide) (fun c12 => ?_) (fun c12 => ?_)
    · have c12 : v77_2.toInt = (0 : Int) := wk_eq.mp c12
      replace hM := hM.pos c12
      refine lv_aload_n hx hb dX3_readFact_124 rfl (lv_at hl 0 rfl) ?_
      refine lv_iload_n hx hb dX3_readFact_125 rfl (lv_at hl 1 rfl) ?_
      refine lv_iconst (v := 1) hx hb dX3_readFact_126 (by decide) ?_
      refine lv_iadd hx hb dX3_readFact_127 ?_
      refine wk_top 9 (by decide) ?_
      replace hM := hM.lt (v := 9) (by decide)
      refine tk_Vv hC hK hw hT hA hE hSR kC_at3 (by decide) rfl (kz_X3_readTest_10 l adK adV dC dI cy ad B hB0 (Int.le_trans hB1 (by decide)) qr s1 hqr   w6 H.size hT c11) (cwV 1 hC.2.2.2.2 uV_RX3_63 rfl rfl rfl (by decide +kernel) ⟨Nat.le_of_ble_eq_true rfl, Nat.le_of_ble_eq_true rfl⟩) rfl hl.1 rfl (Nat.le_of_ble_eq_true rfl) dX3_readFact_128 (fun w15 H locs hp14 hw => ?_)
      obtain ⟨hT, k16, hv18, hg17⟩ := hp14
      have hF := hF.tr k16 (by decide)
      clear hg17
      replace hM := hM.call hv18 rfl
      refine lv_aload_n hx hb dX3_readFact_131 rfl (lv_at hl 0 rfl) ?_
      refine tk_getA hC hK hw hT hinX3 kC_at3 (by decide) rfl 0 (by decide) (List.mem_cons_of_mem _ uw_3_12) rfl rfl dX3_readFact_132 ?_
      refine tk_Vi hC hK hw hT hA hE hSR kC_at1 (by decide) rfl (kz_X6_isFaulty_1 l adK adV dC dI cy ad B hB0 (Int.le_trans hB1 (by decide)) qr s1    w15 H.size hT ) (cwV 0 hC.2.2.2.2 uV_RX3_54 rfl rfl rfl (by decide +kernel) ⟨Nat.le_of_ble_eq_true rfl, Nat.le_of_ble_eq_true rfl⟩) rfl hl.1 rfl (Nat.le_of_ble_eq_true rfl) dX3_readFact_135 (fun r19 w21 H locs hp20 hw => ?_)
      obtain ⟨hT, k22, hv28, hg27⟩ := hp20
      have hF := hF.tr k22 (by decide)
      rcases hg27 with ⟨rfl, ⟨x23, c24, rx23, tx23⟩⟩ | ⟨rfl, ⟨x25, c26, rx25, tx25⟩⟩
      · replace hM := hM.call (r' := 0) hv28 (by decide)
        refine lv_if_ne (tgt := 160) hx hb dX3_readFact_138 (by decide) (fun c => absurd (by decide) c) (fun _ => ?_)
        replace hM := hM.neg (by decide)
        refine lv_aload_n hx hb dX3_readFact_141 rfl (lv_at hl 0 rfl) ?_
        refine tk_getA hC hK hw hT hinX3 kC_at3 (by decide) rfl 0 (by decide) (List.mem_cons_of_mem _ uw_3_12) rfl rfl dX3_readFact_142 ?_
        refine lv_bipush (v := 93) hx hb dX3_readFact_145 (by decide) ?_
        refine tk_Vi hC hK hw hT hA hE hSR kC_at1 (by decide) rfl (kz_X6_takeByte_3 l adK adV dC dI cy ad B hB0 (Int.le_trans hB1 (by decide)) qr s1    w21 H.size hT ) (cwV 1 hC.2.2.2.2 uV_RX3_84 rfl rfl rfl (by decide +kernel) ⟨Nat.le_of_ble_eq_true rfl, Nat.le_of_ble_eq_true rfl⟩) rfl hl.1 rfl (Nat.le_of_ble_eq_true rfl) dX3_readFact_147 (fun r29 w31 H locs hp30 hw => ?_)
        obtain ⟨hT, k32, hv38, hg37⟩ := hp30
        have hF := hF.tr k32 (by decide)
        have c39 := k32.gi kC_at1 (by decide) c24
        rcases hg37 with rfl | ⟨rfl, ⟨x33, c34, rx33, tx33⟩, ⟨x35, c36, rx35, tx35⟩⟩
        · replace hM := hM.call (r' := 0) hv38 (by decide)
          refine lv_if_ne (tgt := 160) hx hb dX3_readFact_150 (by decide) (fun c => absurd (by decide) c) (fun _ => ?_)
          replace hM := hM.neg (by decide)
          refine lv_aload_n hx hb dX3_readFact_153 rfl (lv_at hl 0 rfl) ?_
          refine tk_getA hC hK hw hT hinX3 kC_at3 (by decide) rfl 0 (by decide) (List.mem_cons_of_mem _ uw_3_12) rfl rfl dX3_readFact_154 ?_
          refine tk_Vv hC hK hw hT hA hE hSR kC_at1 (by decide) rfl (kz_X6_blameHere_1 l adK adV dC dI cy ad B hB0 (Int.le_trans hB1 (by decide)) qr s1    w31 H.size hT (c39.trans (wk_eq.mpr (show x23.toInt = 0 by first | exact Int.le_antisymm (by omega) (by omega) | omega)))) (cwV 0 hC.2.2.2.2 uV_RX3_95 rfl rfl rfl (by decide +kernel) ⟨Nat.le_of_ble_eq_true rfl, Nat.le_of_ble_eq_true rfl⟩) rfl hl.1 rfl (Nat.le_of_ble_eq_true rfl) dX3_readFact_157 (fun w42 H locs hp41 hw => ?_)
          obtain ⟨hT, k43, hv47, hg46⟩ := hp41
          have hF := hF.tr k43 (by decide)
          obtain ⟨x44, c45, rx44, tx44⟩ := hg46
          replace hM := hM.call hv47 rfl
          exact J160 v77_2 v77_3 H locs ls w42 (show 0 ≤ v77_2.toInt from r7) (show v77_2.toInt ≤ 1 from t8) (show 0 ≤ v77_3.toInt from r9) (show v77_3.toInt ≤ 1 from t10)  hw hT hF hM (lv_sub hl [0, 1, 2, 3] rfl)
        · replace hM := hM.call (r' := 1) hv38 (by decide)
          refine lv_if_ne (tgt := 160) hx hb dX3_readFact_150 (by decide) (fun _ => ?_) (fun c => absurd c (by decide))
          replace hM := hM.pos (by decide)
          exact J160 v77_2 v77_3 H locs ls w31 (show 0 ≤ v77_2.toInt from r7) (show v77_2.toInt ≤ 1 from t8) (show 0 ≤ v77_3.toInt from r9) (show v77_3.toInt ≤ 1 from t10)  hw hT hF hM (lv_sub hl [0, 1, 2, 3] rfl)
      · replace hM := hM.call (r' := 1) hv28 (by decide)
        refine lv_if_ne (tgt := 160) hx hb dX3_readFact_138 (by decide) (fun _ => ?_) (fun c => absurd c (by decide))
        replace hM := hM.pos (by decide)
        exact J160 v77_2 v77_3 H locs ls w21 (show 0 ≤ v77_2.toInt from r7) (show v77_2.toInt ≤ 1 from t8) (show 0 ≤ v77_3.toInt from r9) (show v77_3.toInt ≤ 1 from t10)  hw hT hF hM (lv_sub hl [0, 1, 2, 3] rfl)
    · have c12 : ¬ v77_2.toInt = (0 : Int) := wk_eqF c12
      replace hM := hM.neg c12
      refine lv_aload_n hx hb dX3_readFact_105 rfl (lv_at hl 0 rfl) ?_
      refine lv_iload_n hx hb dX3_readFact_106 rfl (lv_at hl 1 rfl) ?_
      refine lv_iconst (v := 1) hx hb dX3_readFact_107 (by decide) ?_
      refine lv_iadd hx hb dX3_readFact_108 ?_
      refine wk_top 9 (by decide) ?_
      replace hM := hM.lt (v := 9) (by decide)
      refine tk_Vv hC hK hw hT hA hE hSR kC_at3 (by decide) rfl (kz_X3_readFact_10 l adK adV dC dI cy ad B hB0 (Int.le_trans hB1 (by decide)) qr s1 hqr   w6 H.size hT c11) (cwV 1 hC.2.2.2.2 uV_RX3_69 rfl rfl rfl (by decide +kernel) ⟨Nat.le_of_ble_eq_true rfl, Nat.le_of_ble_eq_true rfl⟩) rfl hl.1 rfl (Nat.le_of_ble_eq_true rfl) dX3_readFact_109 (fun w50 H locs hp49 hw => ?_)
      obtain ⟨hT, k51, hv53, hg52⟩ := hp49
      have hF := hF.tr k51 (by decide)
      clear hg52
      replace hM := hM.call hv53 rfl
      refine lv_aload_n hx hb dX3_readFact_112 rfl (lv_at hl 0 rfl) ?_
      refine tk_getQ hC hK hw hT hqr (by decide) hinX3 kC_at3 (by decide) rfl 1 (by decide) (List.mem_cons_of_mem _ uw_26_17) rfl rfl dX3_readFact_113 ?_
      refine lv_bipush (v := 19) hx hb dX3_readFact_116 (by decide) ?_
      refine tk_Vv hC hK hw hT hA hE hSR hqr (by decide) rfl (kz_X2_addToken_1 l adK adV dC dI cy ad B hB0 (Int.le_trans hB1 (by decide)) qr s1   qr hqr 19 w50 H.size hT ) (cwV 1 hC.2.2.2.2 uV_RX3_74 rfl rfl rfl (by decide +kernel) ⟨Nat.le_of_ble_eq_true rfl, Nat.le_of_ble_eq_true rfl⟩) rfl hl.1 rfl (Nat.le_of_ble_eq_true rfl) dX3_readFact_118 (fun w56 H locs hp55 hw => ?_)
      obtain ⟨hT, k57, hv61, hg60⟩ := hp55
      try simp only [show (19 : Int32).toInt = 19 by decide] at hv61
      have hF := hF.tr k57 (by decide)
      obtain ⟨x58, c59, rx58, tx58⟩ := hg60
      replace hM := hM.call hv61 rfl
      refine lv_goto (tgt := 160) hx hb dX3_readFact_121 (by decide) ?_
      exact J160 v77_2 v77_3 H locs ls w56 (show 0 ≤ v77_2.toInt from r7) (show v77_2.toInt ≤ 1 from t8) (show 0 ≤ v77_3.toInt from r9) (show v77_3.toInt ≤ 1 from t10)  hw hT hF hM (lv_sub hl [0, 1, 2, 3] rfl)
  have J41 : ∀ (v41_2 : Int32) (H : Heap) (locs : List Loc) (ls : Array Slot) (w62 : va_W), 0 ≤ v41_2.toInt → v41_2.toInt ≤ 1 → Wd dC dI A s.heap H locs w62 → TW ksC ad cy B qr s1 w62 → FE ksC [(2, 3, 3), (3, 2, 2), (6, 1, 1), (6, 3, 3), (6, 4, 4), (22, 0, 13), (23, 0, 400)] w0 w62 → gi w62 1 4 = 0 → TT (fun n => m_X3_readFact n qr 3 8 (sI w0)) (fun n => b_X3_readFact_41 (j_X3_readFact_X3_readTest qr 3 n) n qr 3 (8 : Int) (v41_2.toInt) (sI w62)) → lv_has ls 5 [(0, .ref (ad 3)), (1, .int 8), (2, .int v41_2)] → W p l e ({ frames := 12, cells := 0, slots := 0, locals := 305 }) s m (List.toArray [.ref (ad 3), .int 8]) below meth c H locs 0 0 (MQ below (va_Qv (Pz_X3_readFact_9 ad cy B qr s1  w0) (fun u : va_W => wpost dC dI cy A u) A) (List.toArray [.ref (ad 3), .int 8]) s 0 0 A) (F0 m 41 ls []) := by
    intro v41_2 H locs ls w62 r63 t64 hw hT hF c65 hM hl
    refine lv_iconst (v := 0) hx hb dX3_readFact_41 (by decide) ?_
    refine lv_istore_n (lv' := [(3, .int 0), (0, .ref (ad 3)), (1, .int 8), (2, .int v41_2)]) hx hb dX3_readFact_42 rfl hl (by decide) rfl (fun ls hl => ?_)
    refine lv_iload_n hx hb dX3_readFact_43 rfl (lv_at hl 3 rfl) ?_
    refine lv_if_ne (tgt := 77) hx hb dX3_readFact_44 (by decide) (fun c66 => ?_) (fun c66 => ?_)
    · have c66 : ¬ v41_2.toInt = (0 : Int) := wk_eqF c66
      replace hM := hM.pos c66
      exact J77 v41_2 0 H locs ls w62 (show 0 ≤ v41_2.toInt from r63) (show v41_2.toInt ≤ 1 from t64) (by decide) (by decide)  hw hT hF c65 hM (lv_sub hl [1, 2, 3, 0] rfl)
    · have c66 : v41_2.toInt = (0 : Int) := wk_eq.mp c66
      replace hM := hM.neg (fun q => q c66)
      refine lv_iload_n hx hb dX3_readFact_47 rfl (lv_at hl 0 rfl) ?_
      refine lv_if_ne (tgt := 77) hx hb dX3_readFact_48 (by decide) (fun c => absurd (by decide) c) (fun _ => ?_)
      replace hM := hM.neg (by decide)
      refine lv_aload_n hx hb dX3_readFact_51 rfl (lv_at hl 1 rfl) ?_
      refine tk_Vv hC hK hw hT hA hE hSR kC_at3 (by decide) rfl (kz_X3_readSum_1 l adK adV dC dI cy ad B hB0 (Int.le_trans hB1 (by decide)) qr s1 hqr   w62 H.size hT c65) (cwV 0 hC.2.2.2.2 uV_RX3_88 rfl rfl rfl (by decide +kernel) ⟨Nat.le_of_ble_eq_true rfl, Nat.le_of_ble_eq_true rfl⟩) rfl hl.1 rfl (Nat.le_of_ble_eq_true rfl) dX3_readFact_52 (fun w69 H locs hp68 hw => ?_)
      obtain ⟨hT, k70, hv72, hg71⟩ := hp68
      have hF := hF.tr k70 (by decide)
      clear hg71
      replace hM := hM.call hv72 rfl
      refine lv_aload_n hx hb dX3_readFact_55 rfl (lv_at hl 1 rfl) ?_
      refine tk_Vi hC hK hw hT hA hE hSR kC_at3 (by decide) rfl (kz_X3_readSign_1 l adK adV dC dI cy ad B hB0 (Int.le_trans hB1 (by decide)) qr s1    w69 H.size hT ) (cwV 0 hC.2.2.2.2 uV_RX3_91 rfl rfl rfl (by decide +kernel) ⟨Nat.le_of_ble_eq_true rfl, Nat.le_of_ble_eq_true rfl⟩) rfl hl.1 rfl (Nat.le_of_ble_eq_true rfl) dX3_readFact_56 (fun r73 w75 H locs hp74 hw => ?_)
      obtain ⟨hT, k76, hv88, hg87⟩ := hp74
      have hF := hF.tr k76 (by decide)
      rcases hg87 with ⟨rfl, ⟨x77, c78, rx77, tx77⟩⟩ | ⟨g79, g80, ⟨x81, c82, rx81, tx81⟩, ⟨x83, c84, rx83, tx83⟩, ⟨x85, c86, rx85, tx85⟩⟩
      · replace hM := hM.call (r' := 16) hv88 (by decide)
        refine lv_istore (lv' := [(4, .int 16), (3, .int 0), (0, .ref (ad 3)), (1, .int 8), (2, .int v41_2)]) hx hb dX3_readFact_59 hl (by decide) rfl (fun ls hl => ?_)
        refine lv_aload_n hx hb dX3_readFact_61 rfl (lv_at hl 2 rfl) ?_
        refine tk_Vv hC hK hw hT hA hE hSR kC_at3 (by decide) rfl (kz_X3_readSum_2 l adK adV dC dI cy ad B hB0 (Int.le_trans hB1 (by decide)) qr s1 hqr   w75 H.size hT x77 c78 (show 1 ≤ x77.toInt by first | with_reducible assumption | omega) (show x77.toInt ≤ 3205 by first | with_reducible assumption | omega)) (cwV 0 hC.2.2.2.2 uV_RX3_88 rfl rfl rfl (by decide +kernel) ⟨Nat.le_of_ble_eq_true rfl, Nat.le_of_ble_eq_true rfl⟩) rfl hl.1 rfl (Nat.le_of_ble_eq_true rfl) dX3_readFact_62 (fun w91 H locs hp90 hw => ?_)
        obtain ⟨hT, k92, hv96, hg95⟩ := hp90
        have hF := hF.tr k92 (by decide)
        have c97 := k92.gi kC_at1 (by decide) c78
        obtain ⟨x93, c94, rx93, tx93⟩ := hg95
        replace hM := hM.call hv96 rfl
        have ex93 : x93.toInt = x77.toInt := by rw [← c97.symm.trans c94]
        refine lv_aload_n hx hb dX3_readFact_65 rfl (lv_at hl 2 rfl) ?_
        refine tk_getQ hC hK hw hT hqr (by decide) hinX3 kC_at3 (by decide) rfl 1 (by decide) (List.mem_cons_of_mem _ uw_26_17) rfl rfl dX3_readFact_66 ?_
        refine lv_iload hx hb dX3_readFact_69 (lv_at hl 0 rfl) ?_
        refine tk_Vv hC hK hw hT hA hE hSR hqr (by decide) rfl (kz_X2_addToken_1 l adK adV dC dI cy ad B hB0 (Int.le_trans hB1 (by decide)) qr s1   qr hqr 16 w91 H.size hT ) (cwV 1 hC.2.2.2.2 uV_RX3_74 rfl rfl rfl (by decide +kernel) ⟨Nat.le_of_ble_eq_true rfl, Nat.le_of_ble_eq_true rfl⟩) rfl hl.1 rfl (Nat.le_of_ble_eq_true rfl) dX3_readFact_71 (fun w100 H locs hp99 hw => ?_)
        obtain ⟨hT, k101, hv105, hg104⟩ := hp99
        try simp only [show (16 : Int32).toInt = 16 by decide] at hv105
        have hF := hF.tr k101 (by decide)
        have c106 := k101.gi kC_at1 (by decide) c97
        obtain ⟨x102, c103, rx102, tx102⟩ := hg104
        replace hM := hM.call hv105 rfl
        refine lv_goto (tgt := 160) hx hb dX3_readFact_74 (by decide) ?_
        exact J160 v41_2 0 H locs ls w100 (show 0 ≤ v41_2.toInt from r63) (show v41_2.toInt ≤ 1 from t64) (by decide) (by decide)  hw hT hF hM (lv_sub hl [2, 3, 4, 1] rfl)
      · replace hM := hM.call hv88 rfl
        refine lv_istore (lv' := [(4, .int r73), (3, .int 0), (0, .ref (ad 3)), (1, .int 8), (2, .int v41_2)]) hx hb dX3_readFact_59 hl (by decide) rfl (fun ls hl => ?_)
        refine lv_aload_n hx hb dX3_readFact_61 rfl (lv_at hl 2 rfl) ?_
        refine tk_Vv hC hK hw hT hA hE hSR kC_at3 (by decide) rfl (kz_X3_readSum_3 l adK adV dC dI cy ad B hB0 (Int.le_trans hB1 (by decide)) qr s1 hqr   w75 H.size hT ) (cwV 0 hC.2.2.2.2 uV_RX3_88 rfl rfl rfl (by decide +kernel) ⟨Nat.le_of_ble_eq_true rfl, Nat.le_of_ble_eq_true rfl⟩) rfl hl.1 rfl (Nat.le_of_ble_eq_true rfl) dX3_readFact_62 (fun w109 H locs hp108 hw => ?_)
        obtain ⟨hT, k110, hv112, hg111⟩ := hp108
        have hF := hF.tr k110 (by decide)
        have c113 := k110.gi kC_at1 (by decide) c82
        clear hg111
        replace hM := hM.call hv112 rfl
        refine lv_aload_n hx hb dX3_readFact_65 rfl (lv_at hl 2 rfl) ?_
        refine tk_getQ hC hK hw hT hqr (by decide) hinX3 kC_at3 (by decide) rfl 1 (by decide) (List.mem_cons_of_mem _ uw_26_17) rfl rfl dX3_readFact_66 ?_
        refine lv_iload hx hb dX3_readFact_69 (lv_at hl 0 rfl) ?_
        refine tk_Vv hC hK hw hT hA hE hSR hqr (by decide) rfl (kz_X2_addToken_1 l adK adV dC dI cy ad B hB0 (Int.le_trans hB1 (by decide)) qr s1   qr hqr r73 w109 H.size hT ) (cwV 1 hC.2.2.2.2 uV_RX3_74 rfl rfl rfl (by decide +kernel) ⟨Nat.le_of_ble_eq_true rfl, Nat.le_of_ble_eq_true rfl⟩) rfl hl.1 rfl (Nat.le_of_ble_eq_true rfl) dX3_readFact_71 (fun w116 H locs hp115 hw => ?_)
        obtain ⟨hT, k117, hv121, hg120⟩ := hp115
        have hF := hF.tr k117 (by decide)
        have c122 := k117.gi kC_at1 (by decide) c113
        obtain ⟨x118, c119, rx118, tx118⟩ := hg120
        replace hM := hM.call hv121 rfl
        refine lv_goto (tgt := 160) hx hb dX3_readFact_74 (by decide) ?_
        exact J160 v41_2 0 H locs ls w116 (show 0 ≤ v41_2.toInt from r63) (show v41_2.toInt ≤ 1 from t64) (by decide) (by decide)  hw hT hF hM (lv_sub hl [2, 3, 4, 1] rfl)
  have hM : TT (fun n => m_X3_readFact n qr 3 8 (sI w0)) (fun n => j_X3_readFact_X3_readTest qr 3 n 1000 [8] (sI w0)) := TT.rf
  replace hM := hM.suc (fun _ => e_X3_readFact_e)
  refine lv_aload_n hx hb dX3_readFact_0 rfl (lv_at hl 0 rfl) ?_
  refine tk_getA hC hK hw hT hinX3 kC_at3 (by decide) rfl 0 (by decide) (List.mem_cons_of_mem _ uw_3_12) rfl rfl dX3_readFact_1 ?_
  refine tk_Vi hC hK hw hT hA hE hSR kC_at1 (by decide) rfl (kz_X6_isFaulty_2 l adK adV dC dI cy ad B hB0 (Int.le_trans hB1 (by decide)) qr s1    w0 s.heap.size hT cf0_) (cwV 0 hC.2.2.2.2 uV_RX3_54 rfl rfl rfl (by decide +kernel) ⟨Nat.le_of_ble_eq_true rfl, Nat.le_of_ble_eq_true rfl⟩) rfl hl.1 rfl (Nat.le_of_ble_eq_true rfl) dX3_readFact_4 (fun r123 w125 H locs hp124 hw => ?_)
  obtain ⟨hT, k126, hv130, hg129⟩ := hp124
  have hF := hF.tr k126 (by decide)
  have c131 := k126.gi kC_at1 (by decide) cf0_
  obtain ⟨rfl, ⟨x127, c128, rx127, tx127⟩⟩ := hg129
  replace hM := hM.call (r' := 0) hv130 (by decide)
  have ex127 : x127.toInt = (0 : Int) := by rw [show x127 = 0 from c128.symm.trans c131]; decide
  refine lv_if_eq (tgt := 11) hx hb dX3_readFact_7 (by decide) (fun _ => ?_) (fun c => absurd (by decide) c)
  replace hM := hM.pos (by decide)
  refine lv_aload_n hx hb dX3_readFact_11 rfl (lv_at hl 0 rfl) ?_
  refine tk_getA hC hK hw hT hinX3 kC_at3 (by decide) rfl 0 (by decide) (List.mem_cons_of_mem _ uw_3_12) rfl rfl dX3_readFact_12 ?_
  refine va_ldcS hx hb hC.2.2.2.1 hSR.2.2.2.2.1 dX3_readFact_15 ?_
  refine tk_Vi hC hK hw hT hA hE hSR kC_at1 (by decide) rfl (kz_X6_takeWord_4 l adK adV dC dI cy ad B hB0 (Int.le_trans hB1 (by decide)) qr s1    w125 H.size hT ) (cwV 1 hC.2.2.2.2 uV_RX3_59 rfl rfl rfl (by decide +kernel) ⟨Nat.le_of_ble_eq_true rfl, Nat.le_of_ble_eq_true rfl⟩) rfl hl.1 rfl (Nat.le_of_ble_eq_true rfl) dX3_readFact_17 (fun r132 w134 H locs hp133 hw => ?_)
  obtain ⟨hT, k135, hv139, hg138⟩ := hp133
  have hF := hF.tr k135 (by decide)
  have c140 := k135.gi kC_at1 (by decide) c131
  rcases hg138 with rfl | ⟨rfl, ⟨x136, c137, rx136, tx136⟩⟩
  · replace hM := hM.call (r' := 0) hv139 (by decide)
    refine lv_istore_n (lv' := [(2, .int 0), (0, .ref (ad 3)), (1, .int 8)]) hx hb dX3_readFact_20 rfl hl (by decide) rfl (fun ls hl => ?_)
    refine lv_iload_n hx hb dX3_readFact_21 rfl (lv_at hl 0 rfl) ?_
    refine lv_if_ne (tgt := 41) hx hb dX3_readFact_22 (by decide) (fun c => absurd (by decide) c) (fun _ => ?_)
    replace hM := hM.neg (by decide)
    refine lv_aload_n hx hb dX3_readFact_25 rfl (lv_at hl 1 rfl) ?_
    refine tk_getA hC hK hw hT hinX3 kC_at3 (by decide) rfl 0 (by decide) (List.mem_cons_of_mem _ uw_3_12) rfl rfl dX3_readFact_26 ?_
    refine lv_bipush (v := 91) hx hb dX3_readFact_29 (by decide) ?_
    refine tk_Vi hC hK hw hT hA hE hSR kC_at1 (by decide) rfl (kz_X6_takeByte_2 l adK adV dC dI cy ad B hB0 (Int.le_trans hB1 (by decide)) qr s1    w134 H.size hT ) (cwV 1 hC.2.2.2.2 uV_RX3_84 rfl rfl rfl (by decide +kernel) ⟨Nat.le_of_ble_eq_true rfl, Nat.le_of_ble_eq_true rfl⟩) rfl hl.1 rfl (Nat.le_of_ble_eq_true rfl) dX3_readFact_31 (fun r141 w143 H locs hp142 hw => ?_)
    obtain ⟨hT, k144, hv150, hg149⟩ := hp142
    have hF := hF.tr k144 (by decide)
    have c151 := k144.gi kC_at1 (by decide) c140
    rcases hg149 with rfl | ⟨rfl, ⟨x145, c146, rx145, tx145⟩, ⟨x147, c148, rx147, tx147⟩⟩
    · replace hM := hM.call (r' := 0) hv150 (by decide)
      refine lv_if_eq (tgt := 41) hx hb dX3_readFact_34 (by decide) (fun _ => ?_) (fun c => absurd (by decide) c)
      replace hM := hM.pos (by decide)
      exact J41 0 H locs ls w143 (by decide) (by decide)  hw hT hF c151 hM (lv_sub hl [1, 2, 0] rfl)
    · replace hM := hM.call (r' := 1) hv150 (by decide)
      refine lv_if_eq (tgt := 41) hx hb dX3_readFact_34 (by decide) (fun c => absurd c (by decide)) (fun _ => ?_)
      replace hM := hM.neg (by decide)
      refine lv_iconst (v := 1) hx hb dX3_readFact_37 (by decide) ?_
      refine lv_goto (tgt := 42) hx hb dX3_readFact_38 (by decide) ?_
      refine lv_istore_n (lv' := [(3, .int 1), (2, .int 0), (0, .ref (ad 3)), (1, .int 8)]) hx hb dX3_readFact_42 rfl hl (by decide) rfl (fun ls hl => ?_)
      refine lv_iload_n hx hb dX3_readFact_43 rfl (lv_at hl 1 rfl) ?_
      refine lv_if_ne (tgt := 77) hx hb dX3_readFact_44 (by decide) (fun c => absurd (by decide) c) (fun _ => ?_)
      replace hM := hM.neg (by decide)
      refine lv_iload_n hx hb dX3_readFact_47 rfl (lv_at hl 0 rfl) ?_
      refine lv_if_ne (tgt := 77) hx hb dX3_readFact_48 (by decide) (fun _ => ?_) (fun c => absurd c (by decide))
      replace hM := hM.pos (by decide)
      exact J77 0 1 H locs ls w143 (by decide) (by decide) (by decide) (by decide)  hw hT hF c151 hM (lv_sub hl [2, 3, 1, 0] rfl)
  · replace hM := hM.call (r' := 1) hv139 (by decide)
    refine lv_istore_n (lv' := [(2, .int 1), (0, .ref (ad 3)), (1, .int 8)]) hx hb dX3_readFact_20 rfl hl (by decide) rfl (fun ls hl => ?_)
    refine lv_iload_n hx hb dX3_readFact_21 rfl (lv_at hl 0 rfl) ?_
    refine lv_if_ne (tgt := 41) hx hb dX3_readFact_22 (by decide) (fun _ => ?_) (fun c => absurd c (by decide))
    replace hM := hM.pos (by decide)
    exact J41 1 H locs ls w134 (by decide) (by decide)  hw hT hF c140 hM (lv_sub hl [1, 2, 0] rfl)
