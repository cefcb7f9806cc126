abbrev Pz_X4_tellBest_1 (ad : Nat → Nat) (cy : Nat → ClassId) (B : Int) (qr : Nat) (s1 : Int) (a1 : Int32) (a2 : Int32) (a3 : Int32) (w0 : va_W) : Int32 → va_W → Prop := fun r u => TW ksC ad cy B qr s1 u ∧ FE ksC [(24, 0, 26), (25, 0, 13), (26, 0, 91), (27, 0, 13), (28, 0, 26), (31, 0, 13), (48, 0, 10), (49, 0, 10)] w0 u ∧ Ev (fun n => m_X4_tellBest n 155 a1.toInt a2.toInt a3.toInt (sI w0)) (r.toInt, sI u) ∧ ((r.toInt ≤ 14007 ∧ 2 ≤ a3.toInt) ∨ (0 ≤ r.toInt ∧ r.toInt ≤ 9 ∧ a3.toInt ≤ 1))
set_option maxHeartbeats 4000000 in
set_option maxRecDepth 100000 in
theorem kz_X4_tellBest_1 (l : Launch) (adK adV : Nat → Nat) (dC : Nat → ClassId) (dI : Nat → Nat → Nat) (cy : Nat → ClassId) (ad : Nat → Nat) (B : Int) (hB0 : 2147483648 ≤ B) (hB1 : B ≤ 1152921504606846976) (qr : Nat) (s1 : Int)  (a1 : Int32) (ra1 : 1 ≤ a1.toInt) (ta1 : a1.toInt ≤ 9) (a2 : Int32) (ra2 : 0 ≤ a2.toInt) (ta2 : a2.toInt ≤ 99999) (a3 : Int32) (ra3 : 0 ≤ a3.toInt) (ta3 : a3.toInt ≤ 2) (w0 : va_W) (sz : Nat) (hT : TW ksC ad cy B qr s1 w0)  : Met l yX4_tellBest (wu yX4_tellBest cX4_tellBest 10 (some .int)) ({ frames := 6, cells := 0, slots := 0, locals := 147 }) (va_Pc [.ref (ad 155), .int a1, .int a2, .int a3] (wpreS adK adV dC dI cy sz w0)) (va_Qi (Pz_X4_tellBest_1 ad cy B qr s1 a1 a2 a3 w0) (fun u : va_W => wpost dC dI cy (va_A w0 sz) u) (va_A w0 sz)) 0 0 (va_A w0 sz) := by
  refine Met.ofW (cc := cX4_tellBest) (maxL := 10) (ret := (some .int)) (by decide) rfl ?_
  intro p e s m args below meth c s₁ Bk hml hv
  obtain ⟨rfl, ⟨hsz, hP, hK, hD0⟩, hE, hSR⟩ := hv
  have hx := Bk.exec
  have hb := Bk.bytes
  have hr := Bk.returns
  have hlocks := Bk.notSynchronized
  have hC : CallFix p m c cX4_tellBest 10 s _ (wu yX4_tellBest cX4_tellBest 10 (some .int)) RX4 := ⟨hx, hb, hml, findClass_of_methodNamed Bk.named, atoms_spec (ws := (wu yX4_tellBest cX4_tellBest 10 (some .int))) Bk.pre⟩
  subst hsz
  have hD := hD0.self (sz := s.heap.size)
  generalize hAe : va_A w0 s.heap.size = A at hD hE ⊢
  have hA : ∀ q : Nat, s.heap.size ≤ q → A q := fun q h => by rw [← hAe]; exact Or.inr h
  have hw : Wd dC dI A s.heap s.heap [] w0 := ⟨hP, hD, va_S.rf⟩
  have hF : FE ksC [(24, 0, 26), (25, 0, 13), (26, 0, 91), (27, 0, 13), (28, 0, 26), (31, 0, 13), (48, 0, 10), (49, 0, 10)] w0 w0 := FE.rf
  have hl := lv_entry ([.ref (ad 155), .int a1, .int a2, .int a3]) (n := 10) (Nat.le_of_ble_eq_true rfl)
  rw [lg_entry_eq]
  generalize (lg_sl ([.ref (ad 155), .int a1, .int a2, .int a3]) ++ List.replicate (10 - (lg_sl ([.ref (ad 155), .int a1, .int a2, .int a3])).length) Slot.unset).toArray = ls at hl ⊢
  have hl : lv_has ls 10 [(0, .ref (ad 155)), (1, .int a1), (2, .int a2), (3, .int a3)] := hl
  generalize hloc : ([] : List Loc) = locs at hw ⊢
  have hinX4 : ∀ w ∈ u_ws RX4 TX4 4, w ∈ (wu yX4_tellBest cX4_tellBest 10 (some .int)) := fun _ h => List.mem_cons_of_mem _ (up_80 h)
  have hinX7 : ∀ w ∈ u_ws RX7 TX7 12, w ∈ (wu yX4_tellBest cX4_tellBest 10 (some .int)) := fun _ h => List.mem_cons_of_mem _ (up_73 h)
  have L14 : ∀ (n14 : Nat) (v14_4 : Int32) (v14_5 : Int32) (v14_6 : Int32) (v14_7 : Int32) (H : Heap) (locs : List Loc) (ls : Array Slot) (w1 : va_W), 1 ≤ a1.toInt → a1.toInt ≤ 9 → 0 ≤ a2.toInt → a2.toInt ≤ 99999 → 0 ≤ a3.toInt → a3.toInt ≤ 2 → 0 ≤ v14_4.toInt → v14_4.toInt ≤ 9 → 1 ≤ v14_5.toInt → v14_5.toInt ≤ 9 → v14_6.toInt ≤ 14007 → 0 ≤ v14_7.toInt → v14_7.toInt ≤ 10 → (10 - v14_7.toInt).toNat < n14 → Wd dC dI A s.heap H locs w1 → TW ksC ad cy B qr s1 w1 → FE ksC [(24, 0, 26), (25, 0, 13), (26, 0, 91), (27, 0, 13), (28, 0, 26), (31, 0, 13), (48, 0, 10), (49, 0, 10)] w0 w1 → TT (fun n => m_X4_tellBest n 155 a1.toInt a2.toInt a3.toInt (sI w0)) (fun n => j_X4_tellBest 155 n 14 [a1.toInt, a2.toInt, a3.toInt, v14_4.toInt, v14_5.toInt, v14_6.toInt, v14_7.toInt] (sI w1)) → lv_has ls 10 [(0, .ref (ad 155)), (1, .int a1), (2, .int a2), (3, .int a3), (4, .int v14_4), (5, .int v14_5), (6, .int v14_6), (7, .int v14_7)] → W p l e ({ frames := 6, cells := 0, slots := 0, locals := 147 }) s m (List.toArray [.ref (ad 155), .int a1, .int a2, .int a3]) below meth c H locs 0 0 (MQ below (va_Qi (Pz_X4_tellBest_1 ad cy B qr s1 a1 a2 a3 w0) (fun u : va_W => wpost dC dI cy A u) A) (List.toArray [.ref (ad 155), .int a1, .int a2, .int a3]) s 0 0 A) (F0 m 14 ls []) := by
    intro n14
    induction n14 with
    | zero => intro v14_4 v14_5 v14_6 v14_7 H locs ls w1 r2 t3 r4 t5 r6 t7 r8 t9 r10 t11 t12 r13 t14 hm14 hw hT hF hM hl; omega
    | succ n14 ih14 =>
      intro v14_4 v14_5 v14_6 v14_7 H locs ls w1 r2 t3 r4 t5 r6 t7 r8 t9 r10 t11 t12 r13 t14 hm14 hw hT hF hM hl
      have L32 : ∀ (n32 : Nat) (v32_4 : Int32) (v32_5 : Int32) (v32_6 : Int32) (v32_8 : Int32) (f32_39_8 : Int32) (H : Heap) (locs : List Loc) (ls : Array Slot) (w15 : va_W), 1 ≤ a1.toInt → a1.toInt ≤ 9 → 0 ≤ a2.toInt → a2.toInt ≤ 99999 → 0 ≤ a3.toInt → a3.toInt ≤ 2 → 0 ≤ v32_4.toInt → v32_4.toInt ≤ 9 → 1 ≤ v32_5.toInt → v32_5.toInt ≤ 9 → v32_6.toInt ≤ 14007 → 0 ≤ v14_7.toInt → v14_7.toInt ≤ 9 → 1 ≤ v32_8.toInt → v32_8.toInt ≤ 10 → 1 ≤ f32_39_8.toInt → f32_39_8.toInt ≤ 10 → (10 - v32_8.toInt).toNat < n32 → Wd dC dI A s.heap H locs w15 → TW ksC ad cy B qr s1 w15 → FE ksC [(24, 0, 26), (25, 0, 13), (26, 0, 91), (27, 0, 13), (28, 0, 26), (31, 0, 13), (48, 0, 10), (49, 0, 10)] w0 w15 → gi w15 39 8 = f32_39_8 → TT (fun n => m_X4_tellBest n 155 a1.toInt a2.toInt a3.toInt (sI w0)) (fun n => j_X4_tellBest 155 n 32 [a1.toInt, a2.toInt, a3.toInt, v32_4.toInt, v32_5.toInt, v32_6.toInt, v14_7.toInt, v32_8.toInt] (sI w15)) → lv_has ls 10 [(0, .ref (ad 155)), (1, .int a1), (2, .int a2), (3, .int a3), (4, .int v32_4), (5, .int v32_5), (6, .int v32_6), (7, .int v14_7), (8, .int v32_8)] → W p l e ({ frames := 6, cells := 0, slots := 0, locals := 147 }) s m (List.toArray [.ref (ad 155), .int a1, .int a2, .int a3]) below meth c H locs 0 0 (MQ below (va_Qi (Pz_X4_tellBest_1 ad cy B qr s1 a1 a2 a3 w0) (fun u : va_W => wpost dC dI cy A u) A) (List.toArray [.ref (ad 155), .int a1, .int a2, .int a3]) s 0 0 A) (F0 m 32 ls []) := by
        intro n32
        induction n32 with
        | zero => intro v32_4 v32_5 v32_6 v32_8 f32_39_8 H locs ls w15 r16 t17 r18 t19 r20 t21 r22 t23 r24 t25 t26 r27 t28 r29 t30 r31 t32 hm32 hw hT hF c33 hM hl; omega
        | succ n32 ih32 =>
          intro v32_4 v32_5 v32_6 v32_8 f32_39_8 H locs ls w15 r16 t17 r18 t19 r20 t21 r22 t23 r24 t25 t26 r27 t28 r29 t30 r31 t32 hm32 hw hT hF c33 hM hl
          have J84 : ∀ (v84_4 : Int32) (v84_5 : Int32) (v84_6 : Int32) (v84_9 : Int32) (H : Heap) (locs : List Loc) (ls : Array Slot) (w34 : va_W), 1 ≤ a1.toInt → a1.toInt ≤ 9 → 0 ≤ a2.toInt → a2.toInt ≤ 99999 → 0 ≤ a3.toInt → a3.toInt ≤ 2 → 0 ≤ v84_4.toInt → v84_4.toInt ≤ 9 → 1 ≤ v84_5.toInt → v84_5.toInt ≤ 9 → v84_6.toInt ≤ 14007 → 0 ≤ v14_7.toInt → v14_7.toInt ≤ 9 → 1 ≤ v32_8.toInt → v32_8.toInt ≤ 9 → 2 ≤ f32_39_8.toInt → f32_39_8.toInt ≤ 10 → Wd dC dI A s.heap H locs w34 → TW ksC ad cy B qr s1 w34 → FE ksC [(24, 0, 26), (25, 0, 13), (26, 0, 91), (27, 0, 13), (28, 0, 26), (31, 0, 13), (48, 0, 10), (49, 0, 10)] w0 w34 → gi w34 39 8 = f32_39_8 → TT (fun n => m_X4_tellBest n 155 a1.toInt a2.toInt a3.toInt (sI w0)) (fun n => b_X4_tellBest_84 (j_X4_tellBest 155 n) n 155 (a1.toInt) (a2.toInt) (a3.toInt) (v84_4.toInt) (v84_5.toInt) (v84_6.toInt) (v14_7.toInt) (v32_8.toInt) (sI w34)) → lv_has ls 10 [(0, .ref (ad 155)), (1, .int a1), (2, .int a2), (3, .int a3), (4, .int v84_4), (5, .int v84_5), (6, .int v84_6), (7, .int v14_7), (8, .int v32_8), (9, .int v84_9)] → W p l e ({ frames := 6, cells := 0, slots := 0, locals := 147 }) s m (List.toArray [.ref (ad 155), .int a1, .int a2, .int a3]) below meth c H locs 0 0 (MQ below (va_Qi (Pz_X4_tellBest_1 ad cy B qr s1 a1 a2 a3 w0) (fun u : va_W => wpost dC dI cy A u) A) (List.toArray [.ref (ad 155), .int a1, .int a2, .int a3]) s 0 0 A) (F0 m 84 ls []) := by
            intro v84_4 v84_5 v84_6 v84_9 H locs ls w34 r35 t36 r37 t38 r39 t40 r41 t42 r43 t44 t45 r46 t47 r48 t49 r50 t51 hw hT hF c52 hM hl
            obtain ⟨x53, ex53⟩ : ∃ y : Int32, y = v32_8 + Int32.ofInt 1 := ⟨_, rfl⟩
            have erx53 := ex53
            refine lv_iinc (v := x53) (lv' := [(8, .int x53), (0, .ref (ad 155)), (1, .int a1), (2, .int a2), (3, .int a3), (4, .int v84_4), (5, .int v84_5), (6, .int v84_6), (7, .int v14_7), (9, .int v84_9)]) hx hb dX4_tellBest_84 hl (k := 8) rfl ex53.symm (by decide) rfl (fun ls hl => ?_)
            have ex53 : x53.toInt = v32_8.toInt + 1 := by rw [ex53]; exact wk_add (y := 1) (show -2147483648 ≤ v32_8.toInt + 1 by omega) (show v32_8.toInt + 1 ≤ 2147483647 by omega)
            replace hM := hM.lt ex53.symm
            refine lv_goto (tgt := 32) hx hb dX4_tellBest_87 (by decide) ?_
            exact ih32 v84_4 v84_5 v84_6 x53 f32_39_8 H locs ls w34 (show 1 ≤ a1.toInt from r35) (show a1.toInt ≤ 9 from t36) (show 0 ≤ a2.toInt from r37) (show a2.toInt ≤ 99999 from t38) (show 0 ≤ a3.toInt from r39) (show a3.toInt ≤ 2 from t40) (show 0 ≤ v84_4.toInt from r41) (show v84_4.toInt ≤ 9 from t42) (show 1 ≤ v84_5.toInt from r43) (show v84_5.toInt ≤ 9 from t44) (show v84_6.toInt ≤ 14007 from t45) (show 0 ≤ v14_7.toInt from r46) (show v14_7.toInt ≤ 9 from t47) (show 1 ≤ x53.toInt by first | with_reducible assumption | omega) (show x53.toInt ≤ 10 by first | with_reducible assumption | omega) (show 1 ≤ f32_39_8.toInt from r31) (show f32_39_8.toInt ≤ 10 from t51) (show (10 - x53.toInt).toNat < n32 by first | exact tn_lt hm32 (by omega) (by omega) | omega) hw hT hF c52 hM (lv_sub hl [1, 2, 3, 4, 5, 6, 7, 8, 0] rfl)
          replace hM := hM.suc (fun _ => e_X4_tellBest_32)
          refine lv_iload hx hb dX4_tellBest_32 (lv_at hl 8 rfl) ?_
          refine lv_aload_n hx hb dX4_tellBest_34 rfl (lv_at hl 0 rfl) ?_
          refine tk_getA hC hK hw hT hinX4 kC_at155 (by decide) rfl 1 (by decide) (List.mem_cons_of_mem _ uw_5_23) rfl rfl dX4_tellBest_35 ?_
          refine tk_geti hC hK hw hT hinX7 kC_at39 (by decide) rfl 8 (by decide) (List.mem_cons_of_mem _ uw_49_18) rfl rfl dX4_tellBest_38 (fun x54 c55 rx54 tx54 => ?_)
          refine wk_top f32_39_8 (c55.symm.trans c33) ?_
          replace hM := hM.rd (sI_at c33)
          refine lv_icmp_ge (tgt := 90) hx hb dX4_tellBest_41 (by decide) (fun c56 => ?_) (fun c56 => ?_)
          · have c56 : f32_39_8.toInt ≤ v32_8.toInt := wk_le.mp c56
            replace hM := hM.pos c56
            obtain ⟨x57, ex57⟩ : ∃ y : Int32, y = v14_7 + Int32.ofInt 1 := ⟨_, rfl⟩
            have erx57 := ex57
            refine lv_iinc (v := x57) (lv' := [(7, .int x57), (0, .ref (ad 155)), (1, .int a1), (2, .int a2), (3, .int a3), (4, .int v32_4), (5, .int v32_5), (6, .int v32_6), (8, .int v32_8)]) hx hb dX4_tellBest_90 hl (k := 7) rfl ex57.symm (by decide) rfl (fun ls hl => ?_)
            have ex57 : x57.toInt = v14_7.toInt + 1 := by rw [ex57]; exact wk_add (y := 1) (show -2147483648 ≤ v14_7.toInt + 1 by omega) (show v14_7.toInt + 1 ≤ 2147483647 by omega)
            replace hM := hM.lt ex57.symm
            refine lv_goto (tgt := 14) hx hb dX4_tellBest_93 (by decide) ?_
            exact ih14 v32_4 v32_5 v32_6 x57 H locs ls w15 (show 1 ≤ a1.toInt from r16) (show a1.toInt ≤ 9 from t17) (show 0 ≤ a2.toInt from r18) (show a2.toInt ≤ 99999 from t19) (show 0 ≤ a3.toInt from r20) (show a3.toInt ≤ 2 from t21) (show 0 ≤ v32_4.toInt from r22) (show v32_4.toInt ≤ 9 from t23) (show 1 ≤ v32_5.toInt from r24) (show v32_5.toInt ≤ 9 from t25) (show v32_6.toInt ≤ 14007 from t26) (show 0 ≤ x57.toInt by first | with_reducible assumption | omega) (show x57.toInt ≤ 10 by first | with_reducible assumption | omega) (show (10 - x57.toInt).toNat < n14 by first | exact tn_lt hm14 (by omega) (by omega) | omega) hw hT hF hM (lv_sub hl [1, 2, 3, 4, 5, 6, 7, 0] rfl)
          · have c56 : v32_8.toInt < f32_39_8.toInt := wk_leF c56
            replace hM := hM.neg (Int.not_le.mpr c56)
            refine lv_aload_n hx hb dX4_tellBest_44 rfl (lv_at hl 0 rfl) ?_
            refine tk_getA hC hK hw hT hinX4 kC_at155 (by decide) rfl 1 (by decide) (List.mem_cons_of_mem _ uw_5_23) rfl rfl dX4_tellBest_45 ?_
            refine lv_iload hx hb dX4_tellBest_48 (lv_at hl 7 rfl) ?_
            refine lv_iload hx hb dX4_tellBest_50 (lv_at hl 8 rfl) ?_
            refine lv_iload_n hx hb dX4_tellBest_52 rfl (lv_at hl 1 rfl) ?_
            refine tk_Vv hC hK hw hT hA hE hSR kC_at39 (by decide) rfl (kz_X7_tryStreet_1 l adK adV dC dI cy ad B hB0 (Int.le_trans hB1 (by decide)) qr s1   v14_7 (show 0 ≤ v14_7.toInt from r27) (show v14_7.toInt ≤ 9 from t28) v32_8 (show 1 ≤ v32_8.toInt from r29) (show v32_8.toInt ≤ 9 by first | with_reducible assumption | omega) a1 (show 1 ≤ a1.toInt from r16) (show a1.toInt ≤ 9 from t17) w15 H.size hT ) (cwV 3 hC.2.2.2.2 uV_RX4_87 rfl rfl rfl (by decide +kernel) ⟨Nat.le_of_ble_eq_true rfl, Nat.le_of_ble_eq_true rfl⟩) rfl hl.1 rfl (Nat.le_of_ble_eq_true rfl) dX4_tellBest_53 (fun w60 H locs hp59 hw => ?_)
            obtain ⟨hT, k61, hv63, hg62⟩ := hp59
            have hF := hF.tr k61 (by decide)
            have c64 := k61.gi kC_at39 (by decide) c33
            clear hg62
            replace hM := hM.call hv63 rfl
            refine lv_aload_n hx hb dX4_tellBest_56 rfl (lv_at hl 0 rfl) ?_
            refine lv_iload_n hx hb dX4_tellBest_57 rfl (lv_at hl 2 rfl) ?_
            refine lv_iload hx hb dX4_tellBest_58 (lv_at hl 6 rfl) ?_
            refine tk_Vi hC hK hw hT hA hE hSR kC_at155 (by decide) rfl (kz_X4_sumOfErrands_1 l adK adV dC dI cy ad B hB0 (Int.le_trans hB1 (by decide)) qr s1   a2 (show 0 ≤ a2.toInt from r18) (show a2.toInt ≤ 99999 from t19) v32_6 (show v32_6.toInt ≤ 14007 from t26) w60 H.size hT ) (cwV 2 hC.2.2.2.2 uV_RX4_90 rfl rfl rfl (by decide +kernel) ⟨Nat.le_of_ble_eq_true rfl, Nat.le_of_ble_eq_true rfl⟩) rfl hl.1 rfl (Nat.le_of_ble_eq_true rfl) dX4_tellBest_60 (fun r65 w67 H locs hp66 hw => ?_)
            obtain ⟨hT, k68, hv70, hg69⟩ := hp66
            have hF := hF.tr k68 (by decide)
            have c71 := k68.gi kC_at39 (by decide) c64
            clear hg69
            replace hM := hM.call hv70 rfl
            refine lv_istore (lv' := [(9, .int r65), (0, .ref (ad 155)), (1, .int a1), (2, .int a2), (3, .int a3), (4, .int v32_4), (5, .int v32_5), (6, .int v32_6), (7, .int v14_7), (8, .int v32_8)]) hx hb dX4_tellBest_63 hl (by decide) rfl (fun ls hl => ?_)
            refine lv_iload hx hb dX4_tellBest_65 (lv_at hl 0 rfl) ?_
            refine lv_iload hx hb dX4_tellBest_67 (lv_at hl 7 rfl) ?_
            refine lv_icmp_ge (tgt := 84) hx hb dX4_tellBest_69 (by decide) (fun c72 => ?_) (fun c72 => ?_)
            · have c72 : v32_6.toInt ≤ r65.toInt := wk_le.mp c72
              replace hM := hM.pos c72
              exact J84 v32_4 v32_5 v32_6 r65 H locs ls w67 (show 1 ≤ a1.toInt from r16) (show a1.toInt ≤ 9 from t17) (show 0 ≤ a2.toInt from r18) (show a2.toInt ≤ 99999 from t19) (show 0 ≤ a3.toInt from r20) (show a3.toInt ≤ 2 from t21) (show 0 ≤ v32_4.toInt from r22) (show v32_4.toInt ≤ 9 from t23) (show 1 ≤ v32_5.toInt from r24) (show v32_5.toInt ≤ 9 from t25) (show v32_6.toInt ≤ 14007 from t26) (show 0 ≤ v14_7.toInt from r27) (show v14_7.toInt ≤ 9 from t28) (show 1 ≤ v32_8.toInt from r29) (show v32_8.toInt ≤ 9 by first | with_reducible assumption | omega) (show 2 ≤ f32_39_8.toInt by first | with_reducible assumption | omega) (show f32_39_8.toInt ≤ 10 from t32)  hw hT hF c71 hM (lv_sub hl [1, 2, 3, 4, 5, 6, 7, 8, 9, 0] rfl)
            · have c72 : r65.toInt < v32_6.toInt := wk_leF c72
              replace hM := hM.neg (Int.not_le.mpr c72)
              refine lv_iload hx hb dX4_tellBest_72 (lv_at hl 0 rfl) ?_
              refine lv_istore (lv' := [(6, .int r65), (9, .int r65), (0, .ref (ad 155)), (1, .int a1), (2, .int a2), (3, .int a3), (4, .int v32_4), (5, .int v32_5), (7, .int v14_7), (8, .int v32_8)]) hx hb dX4_tellBest_74 hl (by decide) rfl (fun ls hl => ?_)
              refine lv_iload hx hb dX4_tellBest_76 (lv_at hl 8 rfl) ?_
              refine lv_istore (lv' := [(4, .int v14_7), (6, .int r65), (9, .int r65), (0, .ref (ad 155)), (1, .int a1), (2, .int a2), (3, .int a3), (5, .int v32_5), (7, .int v14_7), (8, .int v32_8)]) hx hb dX4_tellBest_78 hl (by decide) rfl (fun ls hl => ?_)
              refine lv_iload hx hb dX4_tellBest_80 (lv_at hl 9 rfl) ?_
              refine lv_istore (lv' := [(5, .int v32_8), (4, .int v14_7), (6, .int r65), (9, .int r65), (0, .ref (ad 155)), (1, .int a1), (2, .int a2), (3, .int a3), (7, .int v14_7), (8, .int v32_8)]) hx hb dX4_tellBest_82 hl (by decide) rfl (fun ls hl => ?_)
              exact J84 v14_7 v32_8 r65 r65 H locs ls w67 (show 1 ≤ a1.toInt from r16) (show a1.toInt ≤ 9 from t17) (show 0 ≤ a2.toInt from r18) (show a2.toInt ≤ 99999 from t19) (show 0 ≤ a3.toInt from r20) (show a3.toInt ≤ 2 from t21) (show 0 ≤ v14_7.toInt from r27) (show v14_7.toInt ≤ 9 from t28) (show 1 ≤ v32_8.toInt from r29) (show v32_8.toInt ≤ 9 by first | with_reducible assumption | omega) (show r65.toInt ≤ 14007 by first | with_reducible assumption | omega) (show 0 ≤ v14_7.toInt from r27) (show v14_7.toInt ≤ 9 from t28) (show 1 ≤ v32_8.toInt from r29) (show v32_8.toInt ≤ 9 by first | with_reducible assumption | omega) (show 2 ≤ f32_39_8.toInt by first | with_reducible assumption | omega) (show f32_39_8.toInt ≤ 10 from t32)  hw hT hF c71 hM (lv_sub hl [4, 5, 6, 7, 1, 0, 2, 8, 9, 3] rfl)
      replace hM := hM.suc (fun _ => e_X4_tellBest_14)
      refine lv_iload hx hb dX4_tellBest_14 (lv_at hl 7 rfl) ?_
      refine lv_aload_n hx hb dX4_tellBest_16 rfl (lv_at hl 0 rfl) ?_
      refine tk_getA hC hK hw hT hinX4 kC_at155 (by decide) rfl 1 (by decide) (List.mem_cons_of_mem _ uw_5_23) rfl rfl dX4_tellBest_17 ?_
      refine tk_geti hC hK hw hT hinX7 kC_at39 (by decide) rfl 8 (by decide) (List.mem_cons_of_mem _ uw_49_18) rfl rfl dX4_tellBest_20 (fun x73 c74 rx73 tx73 => ?_)
      replace hM := hM.rd (sI_at c74)
      refine lv_icmp_ge (tgt := 96) hx hb dX4_tellBest_23 (by decide) (fun c75 => ?_) (fun c75 => ?_)
      · have c75 : x73.toInt ≤ v14_7.toInt := wk_le.mp c75
        replace hM := hM.pos c75
        refine lv_iload_n hx hb dX4_tellBest_96 rfl (lv_at hl 3 rfl) ?_
        refine lv_iconst (v := 2) hx hb dX4_tellBest_97 (by decide) ?_
        refine lv_icmp_ne (tgt := 104) hx hb dX4_tellBest_98 (by decide) (fun c76 => ?_) (fun c76 => ?_)
        · have c76 : ¬ a3.toInt = (2 : Int) := wk_eqF c76
          replace hM := hM.pos c76
          refine lv_iload_n hx hb dX4_tellBest_104 rfl (lv_at hl 3 rfl) ?_
          refine lv_if_ne (tgt := 113) hx hb dX4_tellBest_105 (by decide) (fun c77 => ?_) (fun c77 => ?_)
          · have c77 : ¬ a3.toInt = (0 : Int) := wk_eqF c77
            replace hM := hM.pos c77
            refine lv_iload hx hb dX4_tellBest_113 (lv_at hl 5 rfl) ?_
            exact tk_iret hC hr hlocks hK ⟨hT, hF, hM.ret rfl, (Or.inr ⟨(show 0 ≤ v14_5.toInt from Int.le_trans (by decide) r10), (show v14_5.toInt ≤ 9 from t11), (show a3.toInt ≤ 1 by first | with_reducible assumption | omega)⟩)⟩ hw dX4_tellBest_115
          · have c77 : a3.toInt = (0 : Int) := wk_eq.mp c77
            replace hM := hM.neg (fun q => q c77)
            refine lv_iload hx hb dX4_tellBest_108 (lv_at hl 4 rfl) ?_
            refine lv_goto (tgt := 115) hx hb dX4_tellBest_110 (by decide) ?_
            exact tk_iret hC hr hlocks hK ⟨hT, hF, hM.ret rfl, (Or.inr ⟨(show 0 ≤ v14_4.toInt from r8), (show v14_4.toInt ≤ 9 from t9), (show a3.toInt ≤ 1 by first | with_reducible assumption | omega)⟩)⟩ hw dX4_tellBest_115
        · have c76 : a3.toInt = (2 : Int) := wk_eq.mp c76
          replace hM := hM.neg (fun q => q c76)
          refine lv_iload hx hb dX4_tellBest_101 (lv_at hl 6 rfl) ?_
          exact tk_iret hC hr hlocks hK ⟨hT, hF, hM.ret rfl, (Or.inl ⟨(show v14_6.toInt ≤ 14007 from t12), (show 2 ≤ a3.toInt by first | with_reducible assumption | omega)⟩)⟩ hw dX4_tellBest_103
      · have c75 : v14_7.toInt < x73.toInt := wk_leF c75
        replace hM := hM.neg (Int.not_le.mpr c75)
        refine lv_iload hx hb dX4_tellBest_26 (lv_at hl 7 rfl) ?_
        refine lv_iconst (v := 1) hx hb dX4_tellBest_28 (by decide) ?_
        refine lv_iadd hx hb dX4_tellBest_29 ?_
        refine lv_topi (fun x78 ex78 => ?_)
        have ezx78 := ex78
        have ex78 : x78.toInt = v14_7.toInt + (1 : Int) := by rw [ex78]; exact wk_add (show (-2147483648) ≤ v14_7.toInt + (1 : Int) by omega) (show v14_7.toInt + (1 : Int) ≤ 2147483647 by omega)
        replace hM := hM.lt ex78.symm
        refine lv_istore (lv' := [(8, .int x78), (0, .ref (ad 155)), (1, .int a1), (2, .int a2), (3, .int a3), (4, .int v14_4), (5, .int v14_5), (6, .int v14_6), (7, .int v14_7)]) hx hb dX4_tellBest_30 hl (by decide) rfl (fun ls hl => ?_)
        exact L32 ((10 - x78.toInt).toNat + 1) v14_4 v14_5 v14_6 x78 x73 H locs ls w1 (show 1 ≤ a1.toInt from r2) (show a1.toInt ≤ 9 from t3) (show 0 ≤ a2.toInt from r4) (show a2.toInt ≤ 99999 from t5) (show 0 ≤ a3.toInt from r6) (show a3.toInt ≤ 2 from t7) (show 0 ≤ v14_4.toInt from r8) (show v14_4.toInt ≤ 9 from t9) (show 1 ≤ v14_5.toInt from r10) (show v14_5.toInt ≤ 9 from t11) (show v14_6.toInt ≤ 14007 from t12) (show 0 ≤ v14_7.toInt from r13) (show v14_7.toInt ≤ 9 by first | with_reducible assumption | omega) (show 1 ≤ x78.toInt by first | with_reducible assumption | omega) (show x78.toInt ≤ 10 by first | with_reducible assumption | omega) (show 1 ≤ x73.toInt by first | with_reducible assumption | omega) (show x73.toInt ≤ 10 from tx73) (Nat.lt_succ_self _) hw hT hF c74 hM (lv_sub hl [1, 2, 3, 4, 5, 6, 7, 8, 0] rfl)
  have hM : TT (fun n => m_X4_tellBest n 155 a1.toInt a2.toInt a3.toInt (sI w0)) (fun n => m_X4_tellBest n 155 a1.toInt a2.toInt a3.toInt (sI w0)) := TT.rf
  refine lv_iconst (v := 0) hx hb dX4_tellBest_0 (by decide) ?_
  refine lv_istore (lv' := [(4, .int 0), (0, .ref (ad 155)), (1, .int a1), (2, .int a2), (3, .int a3)]) hx hb dX4_tellBest_1 hl (by decide) rfl (fun ls hl => ?_)
  refine lv_iconst (v := 1) hx hb dX4_tellBest_3 (by decide) ?_
  refine lv_istore (lv' := [(5, .int 1), (4, .int 0), (0, .ref (ad 155)), (1, .int a1), (2, .int a2), (3, .int a3)]) hx hb dX4_tellBest_4 hl (by decide) rfl (fun ls hl => ?_)
  refine lv_sipush (v := 14007) hx hb dX4_tellBest_6 (by decide) ?_
  refine lv_istore (lv' := [(6, .int 14007), (5, .int 1), (4, .int 0), (0, .ref (ad 155)), (1, .int a1), (2, .int a2), (3, .int a3)]) hx hb dX4_tellBest_9 hl (by decide) rfl (fun ls hl => ?_)
  refine lv_iconst (v := 0) hx hb dX4_tellBest_11 (by decide) ?_
  refine lv_istore (lv' := [(7, .int 0), (6, .int 14007), (5, .int 1), (4, .int 0), (0, .ref (ad 155)), (1, .int a1), (2, .int a2), (3, .int a3)]) hx hb dX4_tellBest_12 hl (by decide) rfl (fun ls hl => ?_)
  exact L14 ((10 - (0 : Int)).toNat + 1) 0 1 14007 0 s.heap locs ls w0 (show 1 ≤ a1.toInt from ra1) (show a1.toInt ≤ 9 from ta1) (show 0 ≤ a2.toInt from ra2) (show a2.toInt ≤ 99999 from ta2) (show 0 ≤ a3.toInt from ra3) (show a3.toInt ≤ 2 from ta3) (by decide) (by decide) (by decide) (by decide) (by decide) (by decide) (by decide) (Nat.lt_succ_self _) hw hT hF hM (lv_sub hl [4, 5, 6, 7, 3, 2, 1, 0] rfl)
abbrev Pz_X11_built_1 (ad : Nat → Nat) (cy : Nat → ClassId) (B : Int) (qr : Nat) (s1 : Int) (a1 : Int32) (a2 : Int32) (a3 : Int32) (w0 : va_W) : Int32 → va_W → Prop := fun r u => TW ksC ad cy B qr s1 u ∧ FE ksC [(24, 0, 26), (25, 0, 13), (26, 0, 91), (27, 0, 13), (28, 0, 26), (31, 0, 13), (48, 0, 10), (49, 0, 10)] w0 u ∧ Ev (fun n => m_X11_built n 0 a1.toInt a2.toInt a3.toInt (sI w0)) (r.toInt, sI u) ∧ ((r.toInt ≤ 14007 ∧ 1 ≤ a1.toInt ∧ a1.toInt ≤ 9 ∧ 0 ≤ a2.toInt ∧ a2.toInt ≤ 99999 ∧ 2 ≤ a3.toInt ∧ a3.toInt ≤ 2 ∧ (∃ y : Int32, gi u 39 8 = y ∧ 1 ≤ y.toInt ∧ y.toInt ≤ 10)) ∨ (0 ≤ r.toInt ∧ r.toInt ≤ 9 ∧ 1 ≤ a1.toInt ∧ a1.toInt ≤ 9 ∧ 0 ≤ a2.toInt ∧ a2.toInt ≤ 99999 ∧ 0 ≤ a3.toInt ∧ a3.toInt ≤ 1 ∧ (∃ y : Int32, gi u 39 8 = y ∧ 1 ≤ y.toInt ∧ y.toInt ≤ 10)) ∨ (r = (-1)))
set_option maxHeartbeats 4000000 in
set_option maxRecDepth 100000 in
theorem kz_X11_built_1 (l : Launch) (adK adV : Nat → Nat) (dC : Nat → ClassId) (dI : Nat → Nat → Nat) (cy : Nat → ClassId) (ad : Nat → Nat) (B : Int) (hB0 : 2147483648 ≤ B) (hB1 : B ≤ 1152921504606846976) (qr : Nat) (s1 : Int)  (a1 : Int32) (a2 : Int32) (a3 : Int32) (w0 : va_W) (sz : Nat) (hT : TW ksC ad cy B qr s1 w0)  : Met l yX11_built (wu yX11_built cX11_built 4 (some .int)) ({ frames := 7, cells := 0, slots := 0, locals := 176 }) (va_Pc [.ref (ad 0), .int a1, .int a2, .int a3] (wpreS adK adV dC dI cy sz w0)) (va_Qi (Pz_X11_built_1 ad cy B qr s1 a1 a2 a3 w0) (fun u : va_W => wpost dC dI cy (va_A w0 sz) u) (va_A w0 sz)) 0 0 (va_A w0 sz) := by
  refine Met.ofW (cc := cX11_built) (maxL := 4) (ret := (some .int)) (by decide) rfl ?_
  intro p e s m args below meth c s₁ Bk hml hv
  obtain ⟨rfl, ⟨hsz, hP, hK, hD0⟩, hE, hSR⟩ := hv
  have hx := Bk.exec
  have hb := Bk.bytes
  have hr := Bk.returns
  have hlocks := Bk.notSynchronized
  have hC : CallFix p m c cX11_built 4 s _ (wu yX11_built cX11_built 4 (some .int)) RX11 := ⟨hx, hb, hml, findClass_of_methodNamed Bk.named, atoms_spec (ws := (wu yX11_built cX11_built 4 (some .int))) Bk.pre⟩
  subst hsz
  have hD := hD0.self (sz := s.heap.size)
  generalize hAe : va_A w0 s.heap.size = A at hD hE ⊢
  have hA : ∀ q : Nat, s.heap.size ≤ q → A q := fun q h => by rw [← hAe]; exact Or.inr h
  have hw : Wd dC dI A s.heap s.heap [] w0 := ⟨hP, hD, va_S.rf⟩
  have hF : FE ksC [(24, 0, 26), (25, 0, 13), (26, 0, 91), (27, 0, 13), (28, 0, 26), (31, 0, 13), (48, 0, 10), (49, 0, 10)] w0 w0 := FE.rf
  have hl := lv_entry ([.ref (ad 0), .int a1, .int a2, .int a3]) (n := 4) (Nat.le_of_ble_eq_true rfl)
  rw [lg_entry_eq]
  generalize (lg_sl ([.ref (ad 0), .int a1, .int a2, .int a3]) ++ List.replicate (4 - (lg_sl ([.ref (ad 0), .int a1, .int a2, .int a3])).length) Slot.unset).toArray = ls at hl ⊢
  have hl : lv_has ls 4 [(0, .ref (ad 0)), (1, .int a1), (2, .int a2), (3, .int a3)] := hl
  generalize hloc : ([] : List Loc) = locs at hw ⊢
  have hinX11 : ∀ w ∈ u_ws RX11 TX11 13, w ∈ (wu yX11_built cX11_built 4 (some .int)) := fun _ h => List.mem_cons_of_mem _ (up_70 h)
  have J28 : ∀ (f28_39_8 : Int32) (H : Heap) (locs : List Loc) (ls : Array Slot) (w1 : va_W), (-1) ≤ f28_39_8.toInt → f28_39_8.toInt ≤ 10 → Wd dC dI A s.heap H locs w1 → TW ksC ad cy B qr s1 w1 → FE ksC [(24, 0, 26), (25, 0, 13), (26, 0, 91), (27, 0, 13), (28, 0, 26), (31, 0, 13), (48, 0, 10), (49, 0, 10)] w0 w1 → gi w1 39 8 = f28_39_8 → TT (fun n => m_X11_built n 0 a1.toInt a2.toInt a3.toInt (sI w0)) (fun n => b_X11_built_28 n 0 (sI w1)) → lv_has ls 4 [(0, .ref (ad 0)), (1, .int a1), (2, .int a2), (3, .int a3)] → W p l e ({ frames := 7, cells := 0, slots := 0, locals := 176 }) s m (List.toArray [.ref (ad 0), .int a1, .int a2, .int a3]) below meth c H locs 0 0 (MQ below (va_Qi (Pz_X11_built_1 ad cy B qr s1 a1 a2 a3 w0) (fun u : va_W => wpost dC dI cy A u) A) (List.toArray [.ref (ad 0), .int a1, .int a2, .int a3]) s 0 0 A) (F0 m 28 ls []) := by
    intro f28_39_8 H locs ls w1 r2 t3 hw hT hF c4 hM hl
    refine lv_iconst (v := (-1)) hx hb dX11_built_28 (by decide) ?_
    exact tk_iret hC hr hlocks hK ⟨hT, hF, hM.ret (by decide), (Or.inr (Or.inr rfl))⟩ hw dX11_built_29
  have J39 : ∀ (f39_39_8 : Int32) (H : Heap) (locs : List Loc) (ls : Array Slot) (w5 : va_W), 1 ≤ a1.toInt → a1.toInt ≤ 9 → 0 ≤ a2.toInt → a2.toInt ≤ 99999 → 1 ≤ f39_39_8.toInt → f39_39_8.toInt ≤ 10 → Wd dC dI A s.heap H locs w5 → TW ksC ad cy B qr s1 w5 → FE ksC [(24, 0, 26), (25, 0, 13), (26, 0, 91), (27, 0, 13), (28, 0, 26), (31, 0, 13), (48, 0, 10), (49, 0, 10)] w0 w5 → gi w5 39 8 = f39_39_8 → TT (fun n => m_X11_built n 0 a1.toInt a2.toInt a3.toInt (sI w0)) (fun n => b_X11_built_39 n 0 (sI w5)) → lv_has ls 4 [(0, .ref (ad 0)), (1, .int a1), (2, .int a2), (3, .int a3)] → W p l e ({ frames := 7, cells := 0, slots := 0, locals := 176 }) s m (List.toArray [.ref (ad 0), .int a1, .int a2, .int a3]) below meth c H locs 0 0 (MQ below (va_Qi (Pz_X11_built_1 ad cy B qr s1 a1 a2 a3 w0) (fun u : va_W => wpost dC dI cy A u) A) (List.toArray [.ref (ad 0), .int a1, .int a2, .int a3]) s 0 0 A) (F0 m 39 ls []) := by
    intro f39_39_8 H locs ls w5 r6 t7 r8 t9 r10 t11 hw hT hF c12 hM hl
    refine lv_iconst (v := (-1)) hx hb dX11_built_39 (by decide) ?_
    refine lv_goto (tgt := 53) hx hb dX11_built_40 (by decide) ?_
    exact tk_iret hC hr hlocks hK ⟨hT, hF, hM.ret (by decide), (Or.inr (Or.inr rfl))⟩ hw dX11_built_53
  have hM : TT (fun n => m_X11_built n 0 a1.toInt a2.toInt a3.toInt (sI w0)) (fun n => m_X11_built n 0 a1.toInt a2.toInt a3.toInt (sI w0)) := TT.rf
  refine lv_aload_n hx hb dX11_built_0 rfl (lv_at hl 0 rfl) ?_
  refine tk_getA hC hK hw hT hinX11 kC_at0 (by decide) rfl 4 (by decide) (List.mem_cons_of_mem _ uw_1_7) rfl rfl dX11_built_1 ?_
  refine tk_Vi hC hK hw hT hA hE hSR kC_at38 (by decide) rfl (kz_X5_hasTown_1 l adK adV dC dI cy ad B hB0 (Int.le_trans hB1 (by decide)) qr s1    w0 s.heap.size hT ) (cwV 0 hC.2.2.2.2 uV_RX11_158 rfl rfl rfl (by decide +kernel) ⟨Nat.le_of_ble_eq_true rfl, Nat.le_of_ble_eq_true rfl⟩) rfl hl.1 rfl (Nat.le_of_ble_eq_true rfl) dX11_built_4 (fun r13 w15 H locs hp14 hw => ?_)
  obtain ⟨hT, k16, hv22, hg21⟩ := hp14
  have hF := hF.tr k16 (by decide)
  rcases hg21 with ⟨rfl, ⟨x17, c18, rx17, tx17⟩⟩ | ⟨rfl, ⟨x19, c20, rx19, tx19⟩⟩
  · replace hM := hM.call (r' := 0) hv22 (by decide)
    refine lv_if_eq (tgt := 28) hx hb dX11_built_7 (by decide) (fun _ => ?_) (fun c => absurd (by decide) c)
    replace hM := hM.pos (by decide)
    exact J28 x17 H locs ls w15 (show (-1) ≤ x17.toInt by first | with_reducible assumption | omega) (show x17.toInt ≤ 10 by first | with_reducible assumption | omega)  hw hT hF c18 hM (lv_sub hl [0, 1, 2, 3] rfl)
  · replace hM := hM.call (r' := 1) hv22 (by decide)
    refine lv_if_eq (tgt := 28) hx hb dX11_built_7 (by decide) (fun c => absurd c (by decide)) (fun _ => ?_)
    replace hM := hM.neg (by decide)
    refine lv_iload_n hx hb dX11_built_10 rfl (lv_at hl 1 rfl) ?_
    refine lv_iconst (v := 1) hx hb dX11_built_11 (by decide) ?_
    refine lv_icmp_lt (tgt := 28) hx hb dX11_built_12 (by decide) (fun c23 => ?_) (fun c23 => ?_)
    · have c23 : a1.toInt < (1 : Int) := wk_lt.mp c23
      replace hM := hM.pos c23
      exact J28 x19 H locs ls w15 (show (-1) ≤ x19.toInt by first | with_reducible assumption | omega) (show x19.toInt ≤ 10 by first | with_reducible assumption | omega)  hw hT hF c20 hM (lv_sub hl [0, 1, 2, 3] rfl)
    · have c23 : (1 : Int) ≤ a1.toInt := wk_ltF c23
      replace hM := hM.neg (Int.not_lt.mpr c23)
      refine lv_iload_n hx hb dX11_built_15 rfl (lv_at hl 1 rfl) ?_
      refine lv_bipush (v := 9) hx hb dX11_built_16 (by decide) ?_
      refine lv_icmp_gt (tgt := 28) hx hb dX11_built_18 (by decide) (fun c24 => ?_) (fun c24 => ?_)
      · have c24 : (9 : Int) < a1.toInt := wk_lt.mp c24
        replace hM := hM.pos c24
        exact J28 x19 H locs ls w15 (show (-1) ≤ x19.toInt by first | with_reducible assumption | omega) (show x19.toInt ≤ 10 by first | with_reducible assumption | omega)  hw hT hF c20 hM (lv_sub hl [0, 1, 2, 3] rfl)
      · have c24 : a1.toInt ≤ (9 : Int) := wk_ltF c24
        replace hM := hM.neg (Int.not_lt.mpr c24)
        refine lv_iload_n hx hb dX11_built_21 rfl (lv_at hl 2 rfl) ?_
        refine tk_Si hC hK hw hT hA hE hSR (kz_X11_isAskedHour_1 l adK adV dC dI cy ad B hB0 (Int.le_trans hB1 (by decide)) qr s1   a2 w15 H.size hT ) (va_cwS 1 hC.2.2.2.2 uS_RX11_222 rfl rfl rfl (by decide +kernel) ⟨Nat.le_of_ble_eq_true rfl, Nat.le_of_ble_eq_true rfl⟩) rfl hl.1 rfl (Nat.le_of_ble_eq_true rfl) dX11_built_22 (fun r25 w27 H locs hp26 hw => ?_)
        obtain ⟨hT, k28, hv32, hg31⟩ := hp26
        have hF := hF.tr k28 (by decide)
        have c33 := k28.gi kC_at39 (by decide) c20
        rcases hg31 with rfl | ⟨rfl, g29, g30⟩
        · replace hM := hM.call (r' := 0) hv32 (by decide)
          refine lv_if_ne (tgt := 30) hx hb dX11_built_25 (by decide) (fun c => absurd (by decide) c) (fun _ => ?_)
          replace hM := hM.neg (by decide)
          exact J28 x19 H locs ls w27 (show (-1) ≤ x19.toInt by first | with_reducible assumption | omega) (show x19.toInt ≤ 10 by first | with_reducible assumption | omega)  hw hT hF c33 hM (lv_sub hl [0, 1, 2, 3] rfl)
        · replace hM := hM.call (r' := 1) hv32 (by decide)
          refine lv_if_ne (tgt := 30) hx hb dX11_built_25 (by decide) (fun _ => ?_) (fun c => absurd c (by decide))
          replace hM := hM.pos (by decide)
          refine lv_iload_n hx hb dX11_built_30 rfl (lv_at hl 3 rfl) ?_
          refine lv_if_lt (tgt := 39) hx hb dX11_built_31 (by decide) (fun c34 => ?_) (fun c34 => ?_)
          · have c34 : a3.toInt < (0 : Int) := wk_lt.mp c34
            replace hM := hM.pos c34
            exact J39 x19 H locs ls w27 (show 1 ≤ a1.toInt by first | with_reducible assumption | omega) (show a1.toInt ≤ 9 by first | with_reducible assumption | omega) (show 0 ≤ a2.toInt by first | with_reducible assumption | omega) (show a2.toInt ≤ 99999 by first | with_reducible assumption | omega) (show 1 ≤ x19.toInt by first | with_reducible assumption | omega) (show x19.toInt ≤ 10 by first | with_reducible assumption | omega)  hw hT hF c33 hM (lv_sub hl [0, 1, 2, 3] rfl)
          · have c34 : (0 : Int) ≤ a3.toInt := wk_ltF c34
            replace hM := hM.neg (Int.not_lt.mpr c34)
            refine lv_iload_n hx hb dX11_built_34 rfl (lv_at hl 3 rfl) ?_
            refine lv_iconst (v := 2) hx hb dX11_built_35 (by decide) ?_
            refine lv_icmp_le (tgt := 43) hx hb dX11_built_36 (by decide) (fun c35 => ?_) (fun c35 => ?_)
            · have c35 : a3.toInt ≤ (2 : Int) := wk_le.mp c35
              replace hM := hM.pos c35
              refine lv_aload_n hx hb dX11_built_43 rfl (lv_at hl 0 rfl) ?_
              refine tk_getA hC hK hw hT hinX11 kC_at0 (by decide) rfl 10 (by decide) (List.mem_cons_of_mem _ uw_2_2) rfl rfl dX11_built_44 ?_
              refine lv_iload_n hx hb dX11_built_47 rfl (lv_at hl 1 rfl) ?_
              refine lv_iload_n hx hb dX11_built_48 rfl (lv_at hl 2 rfl) ?_
              refine lv_iload_n hx hb dX11_built_49 rfl (lv_at hl 3 rfl) ?_
              refine tk_Vi hC hK hw hT hA hE hSR kC_at155 (by decide) rfl (kz_X4_tellBest_1 l adK adV dC dI cy ad B hB0 (Int.le_trans hB1 (by decide)) qr s1   a1 (show 1 ≤ a1.toInt by first | with_reducible assumption | omega) (show a1.toInt ≤ 9 by first | with_reducible assumption | omega) a2 (show 0 ≤ a2.toInt by first | with_reducible assumption | omega) (show a2.toInt ≤ 99999 by first | with_reducible assumption | omega) a3 (show 0 ≤ a3.toInt by first | with_reducible assumption | omega) (show a3.toInt ≤ 2 by first | with_reducible assumption | omega) w27 H.size hT ) (cwV 3 hC.2.2.2.2 uV_RX11_292 rfl rfl rfl (by decide +kernel) ⟨Nat.le_of_ble_eq_true rfl, Nat.le_of_ble_eq_true rfl⟩) rfl hl.1 rfl (Nat.le_of_ble_eq_true rfl) dX11_built_50 (fun r36 w38 H locs hp37 hw => ?_)
              obtain ⟨hT, k39, hv46, hg45⟩ := hp37
              have hF := hF.tr k39 (by decide)
              have c47 := k39.gi kC_at39 (by decide) c33
              rcases hg45 with ⟨g40, g41⟩ | ⟨g42, g43, g44⟩
              · replace hM := hM.call hv46 rfl
                exact tk_iret hC hr hlocks hK ⟨hT, hF, hM.ret rfl, (Or.inl ⟨(show r36.toInt ≤ 14007 by first | with_reducible assumption | omega), (show 1 ≤ a1.toInt by first | with_reducible assumption | omega), (show a1.toInt ≤ 9 by first | with_reducible assumption | omega), (show 0 ≤ a2.toInt by first | with_reducible assumption | omega), (show a2.toInt ≤ 99999 by first | with_reducible assumption | omega), (show 2 ≤ a3.toInt by first | with_reducible assumption | omega), (show a3.toInt ≤ 2 by first | with_reducible assumption | omega), ⟨x19, c47, (show 1 ≤ x19.toInt by first | with_reducible assumption | omega), (show x19.toInt ≤ 10 by first | with_reducible assumption | omega)⟩⟩)⟩ hw dX11_built_53
              · replace hM := hM.call hv46 rfl
                exact tk_iret hC hr hlocks hK ⟨hT, hF, hM.ret rfl, (Or.inr (Or.inl ⟨(show 0 ≤ r36.toInt by first | with_reducible assumption | omega), (show r36.toInt ≤ 9 by first | with_reducible assumption | omega), (show 1 ≤ a1.toInt by first | with_reducible assumption | omega), (show a1.toInt ≤ 9 by first | with_reducible assumption | omega), (show 0 ≤ a2.toInt by first | with_reducible assumption | omega), (show a2.toInt ≤ 99999 by first | with_reducible assumption | omega), (show 0 ≤ a3.toInt by first | with_reducible assumption | omega), (show a3.toInt ≤ 1 by first | with_reducible assumption | omega), ⟨x19, c47, (show 1 ≤ x19.toInt by first | with_reducible assumption | omega), (show x19.toInt ≤ 10 by first | with_reducible assumption | omega)⟩⟩))⟩ hw dX11_built_53
            · have c35 : (2 : Int) < a3.toInt := wk_leF c35
              replace hM := hM.neg (Int.not_le.mpr c35)
              exact J39 x19 H locs ls w27 (show 1 ≤ a1.toInt by first | with_reducible assumption | omega) (show a1.toInt ≤ 9 by first | with_reducible assumption | omega) (show 0 ≤ a2.toInt by first | with_reducible assumption | omega) (show a2.toInt ≤ 99999 by first | with_reducible assumption | omega) (show 1 ≤ x19.toInt by first | with_reducible assumption | omega) (show x19.toInt ≤ 10 by first | with_reducible assumption | omega)  hw hT hF c33 hM (lv_sub hl [0, 1, 2, 3] rfl)
abbrev Pz_X10_takeDay_1 (ad : Nat → Nat) (cy : Nat → ClassId) (B : Int) (qr : Nat) (s1 : Int) (a1 : Int32) (w0 : va_W) : va_W → Prop := fun u => TW ksC ad cy B qr s1 u ∧ FE ksC [(10, 4, 4), (50, 0, 12)] w0 u ∧ Ev (fun n => m_X10_takeDay n 158 a1.toInt (sI w0)) (0, sI u) ∧ ((True))
set_option maxHeartbeats 4000000 in
set_option maxRecDepth 100000 in
theorem kz_X10_takeDay_1 (l : Launch) (adK adV : Nat → Nat) (dC : Nat → ClassId) (dI : Nat → Nat → Nat) (cy : Nat → ClassId) (ad : Nat → Nat) (B : Int) (hB0 : 2147483648 ≤ B) (hB1 : B ≤ 1152921504606846976) (qr : Nat) (s1 : Int)  (a1 : Int32) (ra1 : 0 ≤ a1.toInt) (ta1 : a1.toInt ≤ 6) (w0 : va_W) (sz : Nat) (hT : TW ksC ad cy B qr s1 w0)  : Met l yX10_takeDay (wu yX10_takeDay cX10_takeDay 3 none) ({ frames := 2, cells := 0, slots := 0, locals := 34 }) (va_Pc [.ref (ad 158), .int a1] (wpreS adK adV dC dI cy sz w0)) (va_Qv (Pz_X10_takeDay_1 ad cy B qr s1 a1 w0) (fun u : va_W => wpost dC dI cy (va_A w0 sz) u) (va_A w0 sz)) 0 0 (va_A w0 sz) := by
  refine Met.ofW (cc := cX10_takeDay) (maxL := 3) (ret := none) (by decide) rfl ?_
  intro p e s m args below meth c s₁ Bk hml hv
  obtain ⟨rfl, ⟨hsz, hP, hK, hD0⟩, hE, hSR⟩ := hv
  have hx := Bk.exec
  have hb := Bk.bytes
  have hr := Bk.returns
  have hlocks := Bk.notSynchronized
  have hC : CallFix p m c cX10_takeDay 3 s _ (wu yX10_takeDay cX10_takeDay 3 none) RX10 := ⟨hx, hb, hml, findClass_of_methodNamed Bk.named, atoms_spec (ws := (wu yX10_takeDay cX10_takeDay 3 none)) Bk.pre⟩
  subst hsz
  have hD := hD0.self (sz := s.heap.size)
  generalize hAe : va_A w0 s.heap.size = A at hD hE ⊢
  have hA : ∀ q : Nat, s.heap.size ≤ q → A q := fun q h => by rw [← hAe]; exact Or.inr h
  have hw : Wd dC dI A s.heap s.heap [] w0 := ⟨hP, hD, va_S.rf⟩
  have hF : FE ksC [(10, 4, 4), (50, 0, 12)] w0 w0 := FE.rf
  have hl := lv_entry ([.ref (ad 158), .int a1]) (n := 3) (Nat.le_of_ble_eq_true rfl)
  rw [lg_entry_eq]
  generalize (lg_sl ([.ref (ad 158), .int a1]) ++ List.replicate (3 - (lg_sl ([.ref (ad 158), .int a1])).length) Slot.unset).toArray = ls at hl ⊢
  have hl : lv_has ls 3 [(0, .ref (ad 158)), (1, .int a1)] := hl
  generalize hloc : ([] : List Loc) = locs at hw ⊢
  have hinX10 : ∀ w ∈ u_ws RX10 TX10 5, w ∈ (wu yX10_takeDay cX10_takeDay 3 none) := fun _ h => List.mem_cons_of_mem _ (up_81 h)
  have hinX7 : ∀ w ∈ u_ws RX7 TX7 12, w ∈ (wu yX10_takeDay cX10_takeDay 3 none) := fun _ h => List.mem_cons_of_mem _ (up_73 h)
  have J65 : ∀ (v65_2 : Int32) (f65_158_4 : Int32) (f65_39_9 : Int32) (H : Heap) (locs : List Loc) (ls : Array Slot) (w1 : va_W), 0 ≤ a1.toInt → a1.toInt ≤ 6 → 0 ≤ v65_2.toInt → v65_2.toInt ≤ 12 → 0 ≤ f65_158_4.toInt → f65_158_4.toInt ≤ 12 → 0 ≤ f65_39_9.toInt → f65_39_9.toInt ≤ 12 → Wd dC dI A s.heap H locs w1 → TW ksC ad cy B qr s1 w1 → FE ksC [(10, 4, 4), (50, 0, 12)] w0 w1 → gi w1 158 4 = f65_158_4 → gi w1 39 9 = f65_39_9 → TT (fun n => m_X10_takeDay n 158 a1.toInt (sI w0)) (fun n => b_X10_takeDay_65 (j_X10_takeDay 158 n) n 158 (sI w1)) → lv_has ls 3 [(0, .ref (ad 158)), (1, .int a1), (2, .int v65_2)] → W p l e ({ frames := 2, cells := 0, slots := 0, locals := 34 }) s m (List.toArray [.ref (ad 158), .int a1]) below meth c H locs 0 0 (MQ below (va_Qv (Pz_X10_takeDay_1 ad cy B qr s1 a1 w0) (fun u : va_W => wpost dC dI cy A u) A) (List.toArray [.ref (ad 158), .int a1]) s 0 0 A) (F0 m 65 ls []) := by
    intro v65_2 f65_158_4 f65_39_9 H locs ls w1 r2 t3 r4 t5 r6 t7 r9 t10 hw hT hF c8 c11 hM hl
    exact tk_vret hC hr hlocks hK ⟨hT, hF, hM.ret rfl, trivial⟩ hw dX10_takeDay_65
  have L7 : ∀ (n7 : Nat) (v7_2 : Int32) (f7_158_4 : Int32) (H : Heap) (locs : List Loc) (ls : Array Slot) (w12 : va_W), 0 ≤ a1.toInt → a1.toInt ≤ 6 → 0 ≤ v7_2.toInt → v7_2.toInt ≤ 12 → 0 ≤ f7_158_4.toInt → f7_158_4.toInt ≤ 12 → (12 - v7_2.toInt).toNat < n7 → Wd dC dI A s.heap H locs w12 → TW ksC ad cy B qr s1 w12 → FE ksC [(10, 4, 4), (50, 0, 12)] w0 w12 → gi w12 158 4 = f7_158_4 → TT (fun n => m_X10_takeDay n 158 a1.toInt (sI w0)) (fun n => j_X10_takeDay 158 n 7 [a1.toInt, v7_2.toInt] (sI w12)) → lv_has ls 3 [(0, .ref (ad 158)), (1, .int a1), (2, .int v7_2)] → W p l e ({ frames := 2, cells := 0, slots := 0, locals := 34 }) s m (List.toArray [.ref (ad 158), .int a1]) below meth c H locs 0 0 (MQ below (va_Qv (Pz_X10_takeDay_1 ad cy B qr s1 a1 w0) (fun u : va_W => wpost dC dI cy A u) A) (List.toArray [.ref (ad 158), .int a1]) s 0 0 A) (F0 m 7 ls []) := by
    intro n7
    induction n7 with
    | zero => intro v7_2 f7_158_4 H locs ls w12 r13 t14 r15 t16 r17 t18 hm7 hw hT hF c19 hM hl; omega
    | succ n7 ih7 =>
      intro v7_2 f7_158_4 H locs ls w12 r13 t14 r15 t16 r17 t18 hm7 hw hT hF c19 hM hl
      have J59 : ∀ (f59_158_4 : Int32) (f59_39_9 : Int32) (H : Heap) (locs : List Loc) (ls : Array Slot) (w20 : va_W), 0 ≤ a1.toInt → a1.toInt ≤ 6 → 0 ≤ v7_2.toInt → v7_2.toInt ≤ 11 → 0 ≤ f59_158_4.toInt → f59_158_4.toInt ≤ 12 → 1 ≤ f59_39_9.toInt → f59_39_9.toInt ≤ 12 → Wd dC dI A s.heap H locs w20 → TW ksC ad cy B qr s1 w20 → FE ksC [(10, 4, 4), (50, 0, 12)] w0 w20 → gi w20 158 4 = f59_158_4 → gi w20 39 9 = f59_39_9 → TT (fun n => m_X10_takeDay n 158 a1.toInt (sI w0)) (fun n => b_X10_takeDay_59 (j_X10_takeDay 158 n) n 158 (a1.toInt) (v7_2.toInt) (sI w20)) → lv_has ls 3 [(0, .ref (ad 158)), (1, .int a1), (2, .int v7_2)] → W p l e ({ frames := 2, cells := 0, slots := 0, locals := 34 }) s m (List.toArray [.ref (ad 158), .int a1]) below meth c H locs 0 0 (MQ below (va_Qv (Pz_X10_takeDay_1 ad cy B qr s1 a1 w0) (fun u : va_W => wpost dC dI cy A u) A) (List.toArray [.ref (ad 158), .int a1]) s 0 0 A) (F0 m 59 ls []) := by
        intro f59_158_4 f59_39_9 H locs ls w20 r21 t22 r23 t24 r25 t26 r28 t29 hw hT hF c27 c30 hM hl
        obtain ⟨x31, ex31⟩ : ∃ y : Int32, y = v7_2 + Int32.ofInt 1 := ⟨_, rfl⟩
        have erx31 := ex31
        refine lv_iinc (v := x31) (lv' := [(2, .int x31), (0, .ref (ad 158)), (1, .int a1)]) hx hb dX10_takeDay_59 hl (k := 2) rfl ex31.symm (by decide) rfl (fun ls hl => ?_)
        have ex31 : x31.toInt = v7_2.toInt + 1 := by rw [ex31]; exact wk_add (y := 1) (show -2147483648 ≤ v7_2.toInt + 1 by omega) (show v7_2.toInt + 1 ≤ 2147483647 by omega)
        replace hM := hM.lt ex31.symm
        refine lv_goto (tgt := 7) hx hb dX10_takeDay_62 (by decide) ?_
        exact ih7 x31 f59_158_4 H locs ls w20 (show 0 ≤ a1.toInt from r21) (show a1.toInt ≤ 6 from t22) (show 0 ≤ x31.toInt by first | with_reducible assumption | omega) (show x31.toInt ≤ 12 by first | with_reducible assumption | omega) (show 0 ≤ f59_158_4.toInt from r25) (show f59_158_4.toInt ≤ 12 from t26) (show (12 - x31.toInt).toNat < n7 by first | exact tn_lt hm7 (by omega) (by omega) | omega) hw hT hF c27 hM (lv_sub hl [1, 2, 0] rfl)
      replace hM := hM.suc (fun _ => e_X10_takeDay_7)
      refine lv_iload_n hx hb dX10_takeDay_7 rfl (lv_at hl 2 rfl) ?_
      refine lv_aload_n hx hb dX10_takeDay_8 rfl (lv_at hl 0 rfl) ?_
      refine tk_getA hC hK hw hT hinX10 kC_at158 (by decide) rfl 1 (by decide) (List.mem_cons_of_mem _ uw_6_8) rfl rfl dX10_takeDay_9 ?_
      refine tk_geti hC hK hw hT hinX7 kC_at39 (by decide) rfl 9 (by decide) (List.mem_cons_of_mem _ uw_60_0) rfl rfl dX10_takeDay_12 (fun x32 c33 rx32 tx32 => ?_)
      replace hM := hM.rd (sI_at c33)
      refine lv_icmp_ge (tgt := 65) hx hb dX10_takeDay_15 (by decide) (fun c34 => ?_) (fun c34 => ?_)
      · have c34 : x32.toInt ≤ v7_2.toInt := wk_le.mp c34
        replace hM := hM.pos c34
        exact J65 v7_2 f7_158_4 x32 H locs ls w12 (show 0 ≤ a1.toInt from r13) (show a1.toInt ≤ 6 from t14) (show 0 ≤ v7_2.toInt from r15) (show v7_2.toInt ≤ 12 from t16) (show 0 ≤ f7_158_4.toInt from r17) (show f7_158_4.toInt ≤ 12 from t18) (show 0 ≤ x32.toInt from rx32) (show x32.toInt ≤ 12 from tx32)  hw hT hF c19 c33 hM (lv_sub hl [0, 1, 2] rfl)
      · have c34 : v7_2.toInt < x32.toInt := wk_leF c34
        replace hM := hM.neg (Int.not_le.mpr c34)
        refine lv_aload_n hx hb dX10_takeDay_18 rfl (lv_at hl 0 rfl) ?_
        refine tk_geti hC hK hw hT hinX10 kC_at158 (by decide) rfl 4 (by decide) (List.mem_cons_of_mem _ uw_59_23) rfl rfl dX10_takeDay_19 (fun x35 c36 rx35 tx35 => ?_)
        refine wk_top f7_158_4 (c36.symm.trans c19) ?_
        replace hM := hM.rd (sI_at c19)
        refine lv_bipush (v := 12) hx hb dX10_takeDay_22 (by decide) ?_
        refine lv_icmp_ge (tgt := 65) hx hb dX10_takeDay_24 (by decide) (fun c37 => ?_) (fun c37 => ?_)
        · have c37 : (12 : Int) ≤ f7_158_4.toInt := wk_le.mp c37
          replace hM := hM.pos c37
          exact J65 v7_2 f7_158_4 x32 H locs ls w12 (show 0 ≤ a1.toInt from r13) (show a1.toInt ≤ 6 from t14) (show 0 ≤ v7_2.toInt from r15) (show v7_2.toInt ≤ 12 from t16) (show 0 ≤ f7_158_4.toInt from r17) (show f7_158_4.toInt ≤ 12 from t18) (show 0 ≤ x32.toInt from rx32) (show x32.toInt ≤ 12 from tx32)  hw hT hF c19 c33 hM (lv_sub hl [0, 1, 2] rfl)
        · have c37 : f7_158_4.toInt < (12 : Int) := wk_leF c37
          replace hM := hM.neg (Int.not_le.mpr c37)
          refine lv_aload_n hx hb dX10_takeDay_27 rfl (lv_at hl 0 rfl) ?_
          refine tk_getA hC hK hw hT hinX10 kC_at158 (by decide) rfl 1 (by decide) (List.mem_cons_of_mem _ uw_6_8) rfl rfl dX10_takeDay_28 ?_
          refine lv_iload_n hx hb dX10_takeDay_31 rfl (lv_at hl 2 rfl) ?_
          refine lv_iload_n hx hb dX10_takeDay_32 rfl (lv_at hl 1 rfl) ?_
          refine tk_Vi hC hK hw hT hA hE hSR kC_at39 (by decide) rfl (kz_X7_signOn_1 l adK adV dC dI cy ad B hB0 (Int.le_trans hB1 (by decide)) qr s1   v7_2 (show 0 ≤ v7_2.toInt from r15) (show v7_2.toInt ≤ 11 by first | with_reducible assumption | omega) a1 (show 0 ≤ a1.toInt from r13) (show a1.toInt ≤ 6 from t14) w12 H.size hT ) (cwV 2 hC.2.2.2.2 uV_RX10_38 rfl rfl rfl (by decide +kernel) ⟨Nat.le_of_ble_eq_true rfl, Nat.le_of_ble_eq_true rfl⟩) rfl hl.1 rfl (Nat.le_of_ble_eq_true rfl) dX10_takeDay_33 (fun r38 w40 H locs hp39 hw => ?_)
          obtain ⟨hT, k41, hv45, hg44⟩ := hp39
          have hF := hF.tr k41 (by decide)
          have c46 := k41.gi kC_at158 (by decide) c19
          have c47 := k41.gi kC_at39 (by decide) c33
          obtain ⟨g42, g43⟩ := hg44
          replace hM := hM.call hv45 rfl
          refine lv_if_eq (tgt := 59) hx hb dX10_takeDay_36 (by decide) (fun c48 => ?_) (fun c48 => ?_)
          · have c48 : r38.toInt = (0 : Int) := wk_eq.mp c48
            replace hM := hM.pos c48
            exact J59 f7_158_4 x32 H locs ls w40 (show 0 ≤ a1.toInt from r13) (show a1.toInt ≤ 6 from t14) (show 0 ≤ v7_2.toInt from r15) (show v7_2.toInt ≤ 11 by first | with_reducible assumption | omega) (show 0 ≤ f7_158_4.toInt from r17) (show f7_158_4.toInt ≤ 12 from t18) (show 1 ≤ x32.toInt by first | with_reducible assumption | omega) (show x32.toInt ≤ 12 from tx32)  hw hT hF c46 c47 hM (lv_sub hl [0, 1, 2] rfl)
          · have c48 : ¬ r38.toInt = (0 : Int) := wk_eqF c48
            replace hM := hM.neg c48
            refine lv_aload_n hx hb dX10_takeDay_39 rfl (lv_at hl 0 rfl) ?_
            refine tk_getA hC hK hw hT hinX10 kC_at158 (by decide) rfl 2 (by decide) (List.mem_cons_of_mem _ uw_6_4) rfl rfl dX10_takeDay_40 ?_
            refine lv_aload_n hx hb dX10_takeDay_43 rfl (lv_at hl 0 rfl) ?_
            refine tk_geti hC hK hw hT hinX10 kC_at158 (by decide) rfl 4 (by decide) (List.mem_cons_of_mem _ uw_59_23) rfl rfl dX10_takeDay_44 (fun x49 c50 rx49 tx49 => ?_)
            refine wk_top f7_158_4 (c50.symm.trans c46) ?_
            replace hM := hM.rd (sI_at c46)
            refine lv_iload_n hx hb dX10_takeDay_47 rfl (lv_at hl 2 rfl) ?_
            refine tk_iast hC hK hw hT kC_at159 (by decide) rfl rfl (show 0 ≤ f7_158_4.toInt from r17) (show f7_158_4.toInt < 12 by first | with_reducible assumption | omega) (show 0 ≤ v7_2.toInt from r15) (show v7_2.toInt ≤ 11 by first | with_reducible assumption | omega) dX10_takeDay_48 (fun H locs w51 hw hT k53 c52 => ?_)
            replace hM := hM.wr (sI_up k53 c52)
            have hF := hF.put kC_at159 (inE_of (a := 0) (b := 12) (by decide) (show 0 ≤ f7_158_4.toInt.toNat by omega) (show f7_158_4.toInt.toNat ≤ 12 by omega)) k53
            have c54 := k53.gi (Or.inl (tk_ne kC_at158 kC_at159 (by decide))) c46
            have c55 := k53.gi (Or.inl (tk_ne kC_at39 kC_at159 (by decide))) c47
            refine lv_aload_n hx hb dX10_takeDay_49 rfl (lv_at hl 0 rfl) ?_
            refine lv_dup hx hb dX10_takeDay_50 rfl ?_
            refine tk_geti hC hK hw hT hinX10 kC_at158 (by decide) rfl 4 (by decide) (List.mem_cons_of_mem _ uw_59_23) rfl rfl dX10_takeDay_51 (fun x56 c57 rx56 tx56 => ?_)
            refine wk_top f7_158_4 (c57.symm.trans c54) ?_
            replace hM := hM.rd (sI_at c54)
            refine lv_iconst (v := 1) hx hb dX10_takeDay_54 (by decide) ?_
            refine lv_iadd hx hb dX10_takeDay_55 ?_
            refine lv_topi (fun x58 ex58 => ?_)
            have ezx58 := ex58
            have ex58 : x58.toInt = f7_158_4.toInt + (1 : Int) := by rw [ex58]; exact wk_add (show (-2147483648) ≤ f7_158_4.toInt + (1 : Int) by omega) (show f7_158_4.toInt + (1 : Int) ≤ 2147483647 by omega)
            replace hM := hM.lt ex58.symm
            refine tk_puti hC hK hw hT hinX10 tyX10_ok nmX10 kC_at158 (by decide) rfl rfl 4 (by decide) (List.mem_cons_of_mem _ uw_59_23) rfl rfl rfl rfl (show 0 ≤ x58.toInt by first | with_reducible assumption | omega) (show x58.toInt ≤ 12 by first | with_reducible assumption | omega) dX10_takeDay_56 (fun H locs w59 hw hT k61 c60 => ?_)
            replace hM := hM.wr (sI_up k61 c60)
            have hF := hF.put kC_at158 (k := 4) (by decide) k61
            have c62 := k61.gi (Or.inr (by decide)) c55
            exact J59 x58 x32 H locs ls w59 (show 0 ≤ a1.toInt from r13) (show a1.toInt ≤ 6 from t14) (show 0 ≤ v7_2.toInt from r15) (show v7_2.toInt ≤ 11 by first | with_reducible assumption | omega) (show 0 ≤ x58.toInt by first | with_reducible assumption | omega) (show x58.toInt ≤ 12 by first | with_reducible assumption | omega) (show 1 ≤ x32.toInt by first | with_reducible assumption | omega) (show x32.toInt ≤ 12 from tx32)  hw hT hF c60 c62 hM (lv_sub hl [0, 1, 2] rfl)
  have hM : TT (fun n => m_X10_takeDay n 158 a1.toInt (sI w0)) (fun n => m_X10_takeDay n 158 a1.toInt (sI w0)) := TT.rf
  refine lv_aload_n hx hb dX10_takeDay_0 rfl (lv_at hl 0 rfl) ?_
  refine lv_iconst (v := 0) hx hb dX10_takeDay_1 (by decide) ?_
  refine tk_puti hC hK hw hT hinX10 tyX10_ok nmX10 kC_at158 (by decide) rfl rfl 4 (by decide) (List.mem_cons_of_mem _ uw_59_23) rfl rfl rfl rfl (by decide) (by decide) dX10_takeDay_2 (fun H locs w63 hw hT k65 c64 => ?_)
  replace hM := hM.wr (sI_upc k65 c64 (by decide))
  have hF := hF.put kC_at158 (k := 4) (by decide) k65
  refine lv_iconst (v := 0) hx hb dX10_takeDay_5 (by decide) ?_
  refine lv_istore_n (lv' := [(2, .int 0), (0, .ref (ad 158)), (1, .int a1)]) hx hb dX10_takeDay_6 rfl hl (by decide) rfl (fun ls hl => ?_)
  exact L7 ((12 - (0 : Int)).toNat + 1) 0 0 H locs ls w63 (show 0 ≤ a1.toInt from ra1) (show a1.toInt ≤ 6 from ta1) (by decide) (by decide) (by decide) (by decide) (Nat.lt_succ_self _) hw hT hF c64 hM (lv_sub hl [1, 2, 0] rfl)
abbrev Pz_X10_crossing_1 (ad : Nat → Nat) (cy : Nat → ClassId) (B : Int) (qr : Nat) (s1 : Int) (a1 : Int32) (a2 : Int32) (w0 : va_W) : Int32 → va_W → Prop := fun r u => TW ksC ad cy B qr s1 u ∧ FE ksC ([] : List (Nat × Nat × Nat)) w0 u ∧ Ev (fun n => m_X10_crossing n 158 a1.toInt a2.toInt (sI w0)) (r.toInt, sI u) ∧ (((-1) ≤ r.toInt ∧ r.toInt ≤ 1))
set_option maxHeartbeats 4000000 in
set_option maxRecDepth 100000 in
theorem kz_X10_crossing_1 (l : Launch) (adK adV : Nat → Nat) (dC : Nat → ClassId) (dI : Nat → Nat → Nat) (cy : Nat → ClassId) (ad : Nat → Nat) (B : Int) (hB0 : 2147483648 ≤ B) (hB1 : B ≤ 1152921504606846976) (qr : Nat) (s1 : Int)  (a1 : Int32) (ra1 : 0 ≤ a1.toInt) (ta1 : a1.toInt ≤ 5) (a2 : Int32) (ra2 : 1 ≤ a2.toInt) (ta2 : a2.toInt ≤ 1023) (w0 : va_W) (sz : Nat) (hT : TW ksC ad cy B qr s1 w0)  : Met l yX10_crossing (wu yX10_crossing cX10_crossing 3 (some .int)) ({ frames := 1, cells := 0, slots := 0, locals := 12 }) (va_Pc [.ref (ad 158), .int a1, .int a2] (wpreS adK adV dC dI cy sz w0)) (va_Qi (Pz_X10_crossing_1 ad cy B qr s1 a1 a2 w0) (fun u : va_W => wpost dC dI cy (va_A w0 sz) u) (va_A w0 sz)) 0 0 (va_A w0 sz) := by
  refine Met.ofW (cc := cX10_crossing) (maxL := 3) (ret := (some .int)) (by decide) rfl ?_
  intro p e s m args below meth c s₁ Bk hml hv
  obtain ⟨rfl, ⟨hsz, hP, hK, hD0⟩, hE, hSR⟩ := hv
  have hx := Bk.exec
  have hb := Bk.bytes
  have hr := Bk.returns
  have hlocks := Bk.notSynchronized
  have hC : CallFix p m c cX10_crossing 3 s _ (wu yX10_crossing cX10_crossing 3 (some .int)) RX10 := ⟨hx, hb, hml, findClass_of_methodNamed Bk.named, atoms_spec (ws := (wu yX10_crossing cX10_crossing 3 (some .int))) Bk.pre⟩
  subst hsz
  have hD := hD0.self (sz := s.heap.size)
  generalize hAe : va_A w0 s.heap.size = A at hD hE ⊢
  have hA : ∀ q : Nat, s.heap.size ≤ q → A q := fun q h => by rw [← hAe]; exact Or.inr h
  have hw : Wd dC dI A s.heap s.heap [] w0 := ⟨hP, hD, va_S.rf⟩
  have hF : FE ksC ([] : List (Nat × Nat × Nat)) w0 w0 := FE.rf
  have hl := lv_entry ([.ref (ad 158), .int a1, .int a2]) (n := 3) (Nat.le_of_ble_eq_true rfl)
  rw [lg_entry_eq]
  generalize (lg_sl ([.ref (ad 158), .int a1, .int a2]) ++ List.replicate (3 - (lg_sl ([.ref (ad 158), .int a1, .int a2])).length) Slot.unset).toArray = ls at hl ⊢
  have hl : lv_has ls 3 [(0, .ref (ad 158)), (1, .int a1), (2, .int a2)] := hl
  generalize hloc : ([] : List Loc) = locs at hw ⊢
  have hinX10 : ∀ w ∈ u_ws RX10 TX10 5, w ∈ (wu yX10_crossing cX10_crossing 3 (some .int)) := fun _ h => List.mem_cons_of_mem _ (up_81 h)
  have hinX5 : ∀ w ∈ u_ws RX5 TX5 14, w ∈ (wu yX10_crossing cX10_crossing 3 (some .int)) := fun _ h => List.mem_cons_of_mem _ (up_76 h)
  have hM : TT (fun n => m_X10_crossing n 158 a1.toInt a2.toInt (sI w0)) (fun n => m_X10_crossing n 158 a1.toInt a2.toInt (sI w0)) := TT.rf
  refine lv_iload_n hx hb dX10_crossing_0 rfl (lv_at hl 2 rfl) ?_
  refine lv_aload_n hx hb dX10_crossing_1 rfl (lv_at hl 0 rfl) ?_
  refine tk_getA hC hK hw hT hinX10 kC_at158 (by decide) rfl 0 (by decide) (List.mem_cons_of_mem _ uw_6_6) rfl rfl dX10_crossing_2 ?_
  refine tk_getO hC hK hw hT hinX5 kC_at38 (by decide) rfl 3 (by decide) (List.mem_cons_of_mem _ uw_60_16) rfl rfl dX10_crossing_5 ?_
  refine lv_iload_n hx hb dX10_crossing_8 rfl (lv_at hl 1 rfl) ?_
  refine tk_iald hC hK hw hT kC_at50 rfl rfl (show 0 ≤ a1.toInt from ra1) (show a1.toInt < 6 from Int.lt_of_le_of_lt ta1 (by decide)) dX10_crossing_9 (fun x1 c2 rx1 tx1 => ?_)
  have hox1 := c2
  replace hM := hM.rd (sI_at hox1)
  refine lv_ishr hx hb dX10_crossing_10 ?_
  refine lv_topi (fun x3 ex3 => ?_)
  have ezx3 := ex3
  have bx3 : 0 ≤ x3.toInt ∧ x3.toInt ≤ a2.toInt := by rw [ex3]; exact wk_shr (by omega)
  replace hM := hM.lt (o32_e (f := fun x y => x >>> (y &&& 31)) ezx3 rfl rfl)
  refine lv_iconst (v := 1) hx hb dX10_crossing_11 (by decide) ?_
  refine lv_iand hx hb dX10_crossing_12 ?_
  refine lv_topi (fun x4 ex4 => ?_)
  have ezx4 := ex4
  have bx4 : 0 ≤ x4.toInt ∧ x4.toInt ≤ (1 : Int) := by rw [ex4]; exact wk_and (by decide)
  replace hM := hM.lt (o32_e (f := fun x y => x &&& y) ezx4 rfl (by decide))
  refine lv_iload_n hx hb dX10_crossing_13 rfl (lv_at hl 2 rfl) ?_
  refine lv_aload_n hx hb dX10_crossing_14 rfl (lv_at hl 0 rfl) ?_
  refine tk_getA hC hK hw hT hinX10 kC_at158 (by decide) rfl 0 (by decide) (List.mem_cons_of_mem _ uw_6_6) rfl rfl dX10_crossing_15 ?_
  refine tk_getO hC hK hw hT hinX5 kC_at38 (by decide) rfl 4 (by decide) (List.mem_cons_of_mem _ uw_60_17) rfl rfl dX10_crossing_18 ?_
  refine lv_iload_n hx hb dX10_crossing_21 rfl (lv_at hl 1 rfl) ?_
  refine tk_iald hC hK hw hT kC_at51 rfl rfl (show 0 ≤ a1.toInt from ra1) (show a1.toInt < 6 from Int.lt_of_le_of_lt ta1 (by decide)) dX10_crossing_22 (fun x5 c6 rx5 tx5 => ?_)
  have hox5 := c6
  replace hM := hM.rd (sI_at hox5)
  refine lv_ishr hx hb dX10_crossing_23 ?_
  refine lv_topi (fun x7 ex7 => ?_)
  have ezx7 := ex7
  have bx7 : 0 ≤ x7.toInt ∧ x7.toInt ≤ a2.toInt := by rw [ex7]; exact wk_shr (by omega)
  replace hM := hM.lt (o32_e (f := fun x y => x >>> (y &&& 31)) ezx7 rfl rfl)
  refine lv_iconst (v := 1) hx hb dX10_crossing_24 (by decide) ?_
  refine lv_iand hx hb dX10_crossing_25 ?_
  refine lv_topi (fun x8 ex8 => ?_)
  have ezx8 := ex8
  have bx8 : 0 ≤ x8.toInt ∧ x8.toInt ≤ (1 : Int) := by rw [ex8]; exact wk_and (by decide)
  replace hM := hM.lt (o32_e (f := fun x y => x &&& y) ezx8 rfl (by decide))
  refine lv_isub hx hb dX10_crossing_26 ?_
  refine lv_topi (fun x9 ex9 => ?_)
  have ezx9 := ex9
  have ex9 : x9.toInt = x4.toInt - x8.toInt := by rw [ex9]; exact wk_sub (show (-2147483648) ≤ x4.toInt - x8.toInt by omega) (show x4.toInt - x8.toInt ≤ 2147483647 by omega)
  replace hM := hM.lt ex9.symm
  exact tk_iret hC hr hlocks hK ⟨hT, hF, hM.ret rfl, ⟨(show (-1) ≤ x9.toInt by first | with_reducible assumption | omega), (show x9.toInt ≤ 1 by first | with_reducible assumption | omega)⟩⟩ hw dX10_crossing_27
abbrev Pz_X10_crossing_2 (ad : Nat → Nat) (cy : Nat → ClassId) (B : Int) (qr : Nat) (s1 : Int) (a1 : Int32) (a2 : Int32) (w0 : va_W) : Int32 → va_W → Prop := fun r u => TW ksC ad cy B qr s1 u ∧ FE ksC ([] : List (Nat × Nat × Nat)) w0 u ∧ Ev (fun n => m_X10_crossing n 158 a1.toInt a2.toInt (sI w0)) (r.toInt, sI u) ∧ (((-1) ≤ r.toInt ∧ r.toInt ≤ 1))
set_option maxHeartbeats 4000000 in
set_option maxRecDepth 100000 in
theorem kz_X10_crossing_2 (l : Launch) (adK adV : Nat → Nat) (dC : Nat → ClassId) (dI : Nat → Nat → Nat) (cy : Nat → ClassId) (ad : Nat → Nat) (B : Int) (hB0 : 2147483648 ≤ B) (hB1 : B ≤ 1152921504606846976) (qr : Nat) (s1 : Int)  (a1 : Int32) (ra1 : 1 ≤ a1.toInt) (ta1 : a1.toInt ≤ 5) (a2 : Int32) (ra2 : 1 ≤ a2.toInt) (ta2 : a2.toInt ≤ 1023) (w0 : va_W) (sz : Nat) (hT : TW ksC ad cy B qr s1 w0)  : Met l yX10_crossing (wu yX10_crossing cX10_crossing 3 (some .int)) ({ frames := 1, cells := 0, slots := 0, locals := 12 }) (va_Pc [.ref (ad 158), .int a1, .int a2] (wpreS adK adV dC dI cy sz w0)) (va_Qi (Pz_X10_crossing_2 ad cy B qr s1 a1 a2 w0) (fun u : va_W => wpost dC dI cy (va_A w0 sz) u) (va_A w0 sz)) 0 0 (va_A w0 sz) := by
  refine Met.ofW (cc := cX10_crossing) (maxL := 3) (ret := (some .int)) (by decide) rfl ?_
  intro p e s m args below meth c s₁ Bk hml hv
  obtain ⟨rfl, ⟨hsz, hP, hK, hD0⟩, hE, hSR⟩ := hv
  have hx := Bk.exec
  have hb := Bk.bytes
  have hr := Bk.returns
  have hlocks := Bk.notSynchronized
  have hC : CallFix p m c cX10_crossing 3 s _ (wu yX10_crossing cX10_crossing 3 (some .int)) RX10 := ⟨hx, hb, hml, findClass_of_methodNamed Bk.named, atoms_spec (ws := (wu yX10_crossing cX10_crossing 3 (some .int))) Bk.pre⟩
  subst hsz
  have hD := hD0.self (sz := s.heap.size)
  generalize hAe : va_A w0 s.heap.size = A at hD hE ⊢
  have hA : ∀ q : Nat, s.heap.size ≤ q → A q := fun q h => by rw [← hAe]; exact Or.inr h
  have hw : Wd dC dI A s.heap s.heap [] w0 := ⟨hP, hD, va_S.rf⟩
  have hF : FE ksC ([] : List (Nat × Nat × Nat)) w0 w0 := FE.rf
  have hl := lv_entry ([.ref (ad 158), .int a1, .int a2]) (n := 3) (Nat.le_of_ble_eq_true rfl)
  rw [lg_entry_eq]
  generalize (lg_sl ([.ref (ad 158), .int a1, .int a2]) ++ List.replicate (3 - (lg_sl ([.ref (ad 158), .int a1, .int a2])).length) Slot.unset).toArray = ls at hl ⊢
  have hl : lv_has ls 3 [(0, .ref (ad 158)), (1, .int a1), (2, .int a2)] := hl
  generalize hloc : ([] : List Loc) = locs at hw ⊢
  have hinX10 : ∀ w ∈ u_ws RX10 TX10 5, w ∈ (wu yX10_crossing cX10_crossing 3 (some .int)) := fun _ h => List.mem_cons_of_mem _ (up_81 h)
  have hinX5 : ∀ w ∈ u_ws RX5 TX5 14, w ∈ (wu yX10_crossing cX10_crossing 3 (some .int)) := fun _ h => List.mem_cons_of_mem _ (up_76 h)
  have hM : TT (fun n => m_X10_crossing n 158 a1.toInt a2.toInt (sI w0)) (fun n => m_X10_crossing n 158 a1.toInt a2.toInt (sI w0)) := TT.rf
  refine lv_iload_n hx hb dX10_crossing_0 rfl (lv_at hl 2 rfl) ?_
  refine lv_aload_n hx hb dX10_crossing_1 rfl (lv_at hl 0 rfl) ?_
  refine tk_getA hC hK hw hT hinX10 kC_at158 (by decide) rfl 0 (by decide) (List.mem_cons_of_mem _ uw_6_6) rfl rfl dX10_crossing_2 ?_
  refine tk_getO hC hK hw hT hinX5 kC_at38 (by decide) rfl 3 (by decide) (List.mem_cons_of_mem _ uw_60_16) rfl rfl dX10_crossing_5 ?_
  refine lv_iload_n hx hb dX10_crossing_8 rfl (lv_at hl 1 rfl) ?_
  refine tk_iald hC hK hw hT kC_at50 rfl rfl (show 0 ≤ a1.toInt from Int.le_trans (by decide) ra1) (show a1.toInt < 6 from Int.lt_of_le_of_lt ta1 (by decide)) dX10_crossing_9 (fun x1 c2 rx1 tx1 => ?_)
  have hox1 := c2
  replace hM := hM.rd (sI_at hox1)
  refine lv_ishr hx hb dX10_crossing_10 ?_
  refine lv_topi (fun x3 ex3 => ?_)
  have ezx3 := ex3
  have bx3 : 0 ≤ x3.toInt ∧ x3.toInt ≤ a2.toInt := by rw [ex3]; exact wk_shr (by omega)
  replace hM := hM.lt (o32_e (f := fun x y => x >>> (y &&& 31)) ezx3 rfl rfl)
  refine lv_iconst (v := 1) hx hb dX10_crossing_11 (by decide) ?_
  refine lv_iand hx hb dX10_crossing_12 ?_
  refine lv_topi (fun x4 ex4 => ?_)
  have ezx4 := ex4
  have bx4 : 0 ≤ x4.toInt ∧ x4.toInt ≤ (1 : Int) := by rw [ex4]; exact wk_and (by decide)
  replace hM := hM.lt (o32_e (f := fun x y => x &&& y) ezx4 rfl (by decide))
  refine lv_iload_n hx hb dX10_crossing_13 rfl (lv_at hl 2 rfl) ?_
  refine lv_aload_n hx hb dX10_crossing_14 rfl (lv_at hl 0 rfl) ?_
  refine tk_getA hC hK hw hT hinX10 kC_at158 (by decide) rfl 0 (by decide) (List.mem_cons_of_mem _ uw_6_6) rfl rfl dX10_crossing_15 ?_
  refine tk_getO hC hK hw hT hinX5 kC_at38 (by decide) rfl 4 (by decide) (List.mem_cons_of_mem _ uw_60_17) rfl rfl dX10_crossing_18 ?_
  refine lv_iload_n hx hb dX10_crossing_21 rfl (lv_at hl 1 rfl) ?_
  refine tk_iald hC hK hw hT kC_at51 rfl rfl (show 0 ≤ a1.toInt from Int.le_trans (by decide) ra1) (show a1.toInt < 6 from Int.lt_of_le_of_lt ta1 (by decide)) dX10_crossing_22 (fun x5 c6 rx5 tx5 => ?_)
  have hox5 := c6
  replace hM := hM.rd (sI_at hox5)
  refine lv_ishr hx hb dX10_crossing_23 ?_
  refine lv_topi (fun x7 ex7 => ?_)
  have ezx7 := ex7
  have bx7 : 0 ≤ x7.toInt ∧ x7.toInt ≤ a2.toInt := by rw [ex7]; exact wk_shr (by omega)
  replace hM := hM.lt (o32_e (f := fun x y => x >>> (y &&& 31)) ezx7 rfl rfl)
  refine lv_iconst (v := 1) hx hb dX10_crossing_24 (by decide) ?_
  refine lv_iand hx hb dX10_crossing_25 ?_
  refine lv_topi (fun x8 ex8 => ?_)
  have ezx8 := ex8
  have bx8 : 0 ≤ x8.toInt ∧ x8.toInt ≤ (1 : Int) := by rw [ex8]; exact wk_and (by decide)
  replace hM := hM.lt (o32_e (f := fun x y => x &&& y) ezx8 rfl (by decide))
  refine lv_isub hx hb dX10_crossing_26 ?_
  refine lv_topi (fun x9 ex9 => ?_)
  have ezx9 := ex9
  have ex9 : x9.toInt = x4.toInt - x8.toInt := by rw [ex9]; exact wk_sub (show (-2147483648) ≤ x4.toInt - x8.toInt by omega) (show x4.toInt - x8.toInt ≤ 2147483647 by omega)
  replace hM := hM.lt ex9.symm
  exact tk_iret hC hr hlocks hK ⟨hT, hF, hM.ret rfl, ⟨(show (-1) ≤ x9.toInt by first | with_reducible assumption | omega), (show x9.toInt ≤ 1 by first | with_reducible assumption | omega)⟩⟩ hw dX10_crossing_27
abbrev Pz_X10_layRoads_1 (ad : Nat → Nat) (cy : Nat → ClassId) (B : Int) (qr : Nat) (s1 : Int) (a1 : Int32) (a2 : Int32) (a3 : Int32) (w0 : va_W) : va_W → Prop := fun u => TW ksC ad cy B qr s1 u ∧ FE ksC [(51, 0, 10)] w0 u ∧ Ev (fun n => m_X10_layRoads n 158 a1.toInt a2.toInt a3.toInt (sI w0)) (0, sI u) ∧ ((True))
set_option maxHeartbeats 4000000 in
set_option maxRecDepth 100000 in
theorem kz_X10_layRoads_1 (l : Launch) (adK adV : Nat → Nat) (dC : Nat → ClassId) (dI : Nat → Nat → Nat) (cy : Nat → ClassId) (ad : Nat → Nat) (B : Int) (hB0 : 2147483648 ≤ B) (hB1 : B ≤ 1152921504606846976) (qr : Nat) (s1 : Int)  (a1 : Int32) (ra1 : 0 ≤ a1.toInt) (ta1 : a1.toInt ≤ 12) (a2 : Int32) (ra2 : 0 ≤ a2.toInt) (ta2 : a2.toInt ≤ 8191) (a3 : Int32) (ra3 : (-1) ≤ a3.toInt) (ta3 : a3.toInt ≤ 11) (w0 : va_W) (sz : Nat) (hT : TW ksC ad cy B qr s1 w0)  : Met l yX10_layRoads (wu yX10_layRoads cX10_layRoads 8 none) ({ frames := 1, cells := 0, slots := 0, locals := 12 }) (va_Pc [.ref (ad 158), .int a1, .int a2, .int a3] (wpreS adK adV dC dI cy sz w0)) (va_Qv (Pz_X10_layRoads_1 ad cy B qr s1 a1 a2 a3 w0) (fun u : va_W => wpost dC dI cy (va_A w0 sz) u) (va_A w0 sz)) 0 0 (va_A w0 sz) := by
  refine Met.ofW (cc := cX10_layRoads) (maxL := 8) (ret := none) (by decide) rfl ?_
  intro p e s m args below meth c s₁ Bk hml hv
  obtain ⟨rfl, ⟨hsz, hP, hK, hD0⟩, hE, hSR⟩ := hv
  have hx := Bk.exec
  have hb := Bk.bytes
  have hr := Bk.returns
  have hlocks := Bk.notSynchronized
  have hC : CallFix p m c cX10_layRoads 8 s _ (wu yX10_layRoads cX10_layRoads 8 none) RX10 := ⟨hx, hb, hml, findClass_of_methodNamed Bk.named, atoms_spec (ws := (wu yX10_layRoads cX10_layRoads 8 none)) Bk.pre⟩
  subst hsz
  have hD := hD0.self (sz := s.heap.size)
  generalize hAe : va_A w0 s.heap.size = A at hD hE ⊢
  have hA : ∀ q : Nat, s.heap.size ≤ q → A q := fun q h => by rw [← hAe]; exact Or.inr h
  have hw : Wd dC dI A s.heap s.heap [] w0 := ⟨hP, hD, va_S.rf⟩
  have hF : FE ksC [(51, 0, 10)] w0 w0 := FE.rf
  have hl := lv_entry ([.ref (ad 158), .int a1, .int a2, .int a3]) (n := 8) (Nat.le_of_ble_eq_true rfl)
  rw [lg_entry_eq]
  generalize (lg_sl ([.ref (ad 158), .int a1, .int a2, .int a3]) ++ List.replicate (8 - (lg_sl ([.ref (ad 158), .int a1, .int a2, .int a3])).length) Slot.unset).toArray = ls at hl ⊢
  have hl : lv_has ls 8 [(0, .ref (ad 158)), (1, .int a1), (2, .int a2), (3, .int a3)] := hl
  generalize hloc : ([] : List Loc) = locs at hw ⊢
  have hinX10 : ∀ w ∈ u_ws RX10 TX10 5, w ∈ (wu yX10_layRoads cX10_layRoads 8 none) := fun _ h => List.mem_cons_of_mem _ (up_81 h)
  have hinX7 : ∀ w ∈ u_ws RX7 TX7 12, w ∈ (wu yX10_layRoads cX10_layRoads 8 none) := fun _ h => List.mem_cons_of_mem _ (up_73 h)
  have L27 : ∀ (n27 : Nat) (v27_4 : Int32) (H : Heap) (locs : List Loc) (ls : Array Slot) (w1 : va_W), 0 ≤ a1.toInt → a1.toInt ≤ 12 → 0 ≤ a2.toInt → a2.toInt ≤ 8191 → (-1) ≤ a3.toInt → a3.toInt ≤ 11 → 0 ≤ v27_4.toInt → v27_4.toInt ≤ 12 → (12 - v27_4.toInt).toNat < n27 → Wd dC dI A s.heap H locs w1 → TW ksC ad cy B qr s1 w1 → FE ksC [(51, 0, 10)] w0 w1 → TT (fun n => m_X10_layRoads n 158 a1.toInt a2.toInt a3.toInt (sI w0)) (fun n => j_X10_layRoads 158 n 27 [a1.toInt, a2.toInt, a3.toInt, v27_4.toInt] (sI w1)) → lv_has ls 8 [(0, .ref (ad 158)), (1, .int a1), (2, .int a2), (3, .int a3), (4, .int v27_4)] → W p l e ({ frames := 1, cells := 0, slots := 0, locals := 12 }) s m (List.toArray [.ref (ad 158), .int a1, .int a2, .int a3]) below meth c H locs 0 0 (MQ below (va_Qv (Pz_X10_layRoads_1 ad cy B qr s1 a1 a2 a3 w0) (fun u : va_W => wpost dC dI cy A u) A) (List.toArray [.ref (ad 158), .int a1, .int a2, .int a3]) s 0 0 A) (F0 m 27 ls []) := by
    intro n27
    induction n27 with
    | zero => intro v27_4 H locs ls w1 r2 t3 r4 t5 r6 t7 r8 t9 hm27 hw hT hF hM hl; omega
    | succ n27 ih27 =>
      intro v27_4 H locs ls w1 r2 t3 r4 t5 r6 t7 r8 t9 hm27 hw hT hF hM hl
      have J144 : ∀ (f144_158_4 : Int32) (H : Heap) (locs : List Loc) (ls : Array Slot) (w10 : va_W), 0 ≤ a1.toInt → a1.toInt ≤ 12 → 0 ≤ a2.toInt → a2.toInt ≤ 8191 → (-1) ≤ a3.toInt → a3.toInt ≤ 11 → 0 ≤ v27_4.toInt → v27_4.toInt ≤ 11 → 1 ≤ f144_158_4.toInt → f144_158_4.toInt ≤ 12 → Wd dC dI A s.heap H locs w10 → TW ksC ad cy B qr s1 w10 → FE ksC [(51, 0, 10)] w0 w10 → gi w10 158 4 = f144_158_4 → TT (fun n => m_X10_layRoads n 158 a1.toInt a2.toInt a3.toInt (sI w0)) (fun n => b_X10_layRoads_144 (j_X10_layRoads 158 n) n 158 (a1.toInt) (a2.toInt) (a3.toInt) (v27_4.toInt) (sI w10)) → lv_has ls 8 [(0, .ref (ad 158)), (1, .int a1), (2, .int a2), (3, .int a3), (4, .int v27_4)] → W p l e ({ frames := 1, cells := 0, slots := 0, locals := 12 }) s m (List.toArray [.ref (ad 158), .int a1, .int a2, .int a3]) below meth c H locs 0 0 (MQ below (va_Qv (Pz_X10_layRoads_1 ad cy B qr s1 a1 a2 a3 w0) (fun u : va_W => wpost dC dI cy A u) A) (List.toArray [.ref (ad 158), .int a1, .int a2, .int a3]) s 0 0 A) (F0 m 144 ls []) := by
        intro f144_158_4 H locs ls w10 r11 t12 r13 t14 r15 t16 r17 t18 r19 t20 hw hT hF c21 hM hl
        obtain ⟨x22, ex22⟩ : ∃ y : Int32, y = v27_4 + Int32.ofInt 1 := ⟨_, rfl⟩
        have erx22 := ex22
        refine lv_iinc (v := x22) (lv' := [(4, .int x22), (0, .ref (ad 158)), (1, .int a1), (2, .int a2), (3, .int a3)]) hx hb dX10_layRoads_144 hl (k := 4) rfl ex22.symm (by decide) rfl (fun ls hl => ?_)
        have ex22 : x22.toInt = v27_4.toInt + 1 := by rw [ex22]; exact wk_add (y := 1) (show -2147483648 ≤ v27_4.toInt + 1 by omega) (show v27_4.toInt + 1 ≤ 2147483647 by omega)
        replace hM := hM.lt ex22.symm
        refine lv_goto (tgt := 27) hx hb dX10_layRoads_147 (by decide) ?_
        exact ih27 x22 H locs ls w10 (show 0 ≤ a1.toInt from r11) (show a1.toInt ≤ 12 from t12) (show 0 ≤ a2.toInt from r13) (show a2.toInt ≤ 8191 from t14) (show (-1) ≤ a3.toInt from r15) (show a3.toInt ≤ 11 from t16) (show 0 ≤ x22.toInt by first | with_reducible assumption | omega) (show x22.toInt ≤ 12 by first | with_reducible assumption | omega) (show (12 - x22.toInt).toNat < n27 by first | exact tn_lt hm27 (by omega) (by omega) | omega) hw hT hF hM (lv_sub hl [1, 2, 3, 4, 0] rfl)
      have J130 : ∀ (v130_5 : Int32) (v130_6 : Int32) (v130_7 : Int32) (f130_158_4 : Int32) (H : Heap) (locs : List Loc) (ls : Array Slot) (w23 : va_W), 0 ≤ a1.toInt → a1.toInt ≤ 12 → 0 ≤ a2.toInt → a2.toInt ≤ 8191 → (-1) ≤ a3.toInt → a3.toInt ≤ 11 → 0 ≤ v27_4.toInt → v27_4.toInt ≤ 11 → 0 ≤ v130_5.toInt → v130_5.toInt ≤ 9 → 0 ≤ v130_6.toInt → v130_6.toInt ≤ 9 → 0 ≤ v130_7.toInt → v130_7.toInt ≤ 1 → 1 ≤ f130_158_4.toInt → f130_158_4.toInt ≤ 12 → Wd dC dI A s.heap H locs w23 → TW ksC ad cy B qr s1 w23 → FE ksC [(51, 0, 10)] w0 w23 → gi w23 158 4 = f130_158_4 → TT (fun n => m_X10_layRoads n 158 a1.toInt a2.toInt a3.toInt (sI w0)) (fun n => b_X10_layRoads_130 (j_X10_layRoads 158 n) n 158 (a1.toInt) (a2.toInt) (a3.toInt) (v27_4.toInt) (v130_5.toInt) (v130_6.toInt) (sI w23)) → lv_has ls 8 [(0, .ref (ad 158)), (1, .int a1), (2, .int a2), (3, .int a3), (4, .int v27_4), (5, .int v130_5), (6, .int v130_6), (7, .int v130_7)] → W p l e ({ frames := 1, cells := 0, slots := 0, locals := 12 }) s m (List.toArray [.ref (ad 158), .int a1, .int a2, .int a3]) below meth c H locs 0 0 (MQ below (va_Qv (Pz_X10_layRoads_1 ad cy B qr s1 a1 a2 a3 w0) (fun u : va_W => wpost dC dI cy A u) A) (List.toArray [.ref (ad 158), .int a1, .int a2, .int a3]) s 0 0 A) (F0 m 130 ls []) := by
        intro v130_5 v130_6 v130_7 f130_158_4 H locs ls w23 r24 t25 r26 t27 r28 t29 r30 t31 r32 t33 r34 t35 r36 t37 r38 t39 hw hT hF c40 hM hl
        refine lv_aload_n hx hb dX10_layRoads_130 rfl (lv_at hl 0 rfl) ?_
        refine tk_getA hC hK hw hT hinX10 kC_at158 (by decide) rfl 3 (by decide) (List.mem_cons_of_mem _ uw_6_5) rfl rfl dX10_layRoads_131 ?_
        refine lv_iload hx hb dX10_layRoads_134 (lv_at hl 6 rfl) ?_
        refine lv_dup2_11 hx hb dX10_layRoads_136 rfl rfl ?_
        refine tk_iald hC hK hw hT kC_at160 rfl rfl (show 0 ≤ v130_6.toInt from r34) (show v130_6.toInt < 10 from Int.lt_of_le_of_lt t35 (by decide)) dX10_layRoads_137 (fun x41 c42 rx41 tx41 => ?_)
        have hox41 := c42
        replace hM := hM.rd (sI_at hox41)
        refine lv_iconst (v := 1) hx hb dX10_layRoads_138 (by decide) ?_
        refine lv_iload hx hb dX10_layRoads_139 (lv_at hl 5 rfl) ?_
        refine lv_ishl hx hb dX10_layRoads_141 ?_
        refine lv_topi (fun x43 ex43 => ?_)
        have ezx43 := ex43
        have bx43 : 1 ≤ x43.toInt ∧ x43.toInt ≤ 512 := by rw [ex43]; exact wk_shl1 9 (by decide) (by omega) (by omega)
        replace hM := hM.lt (o32_e (f := fun x y => x <<< (y &&& 31)) ezx43 (by decide) rfl)
        refine lv_ior hx hb dX10_layRoads_142 ?_
        refine lv_topi (fun x44 ex44 => ?_)
        have ezx44 := ex44
        have bx44 : 0 ≤ x44.toInt ∧ x44.toInt < 1024 := by rw [ex44]; exact wk_or 10 (by decide) (by omega) (by omega) (by omega) (by omega)
        have mx44 : x41.toInt ≤ x44.toInt ∧ x43.toInt ≤ x44.toInt := by rw [ex44]; exact wk_orL 10 (by decide) (by omega) (by omega) (by omega) (by omega)
        replace hM := hM.lt (o32_e (f := fun x y => x ||| y) ezx44 rfl rfl)
        refine tk_iast hC hK hw hT kC_at160 (by decide) rfl rfl (show 0 ≤ v130_6.toInt from r34) (show v130_6.toInt < 10 from Int.lt_of_le_of_lt t35 (by decide)) (show 0 ≤ x44.toInt by first | with_reducible assumption | omega) (show x44.toInt ≤ 1023 by first | with_reducible assumption | omega) dX10_layRoads_143 (fun H locs w45 hw hT k47 c46 => ?_)
        replace hM := hM.wr (sI_up k47 c46)
        have hF := hF.put kC_at160 (inE_of (a := 0) (b := 10) (by decide) (show 0 ≤ v130_6.toInt.toNat by omega) (show v130_6.toInt.toNat ≤ 10 by omega)) k47
        have c48 := k47.gi (Or.inl (tk_ne kC_at158 kC_at160 (by decide))) c40
        exact J144 f130_158_4 H locs ls w45 (show 0 ≤ a1.toInt from r24) (show a1.toInt ≤ 12 from t25) (show 0 ≤ a2.toInt from r26) (show a2.toInt ≤ 8191 from t27) (show (-1) ≤ a3.toInt from r28) (show a3.toInt ≤ 11 from t29) (show 0 ≤ v27_4.toInt from r30) (show v27_4.toInt ≤ 11 from t31) (show 1 ≤ f130_158_4.toInt from r38) (show f130_158_4.toInt ≤ 12 from t39)  hw hT hF c48 hM (lv_sub hl [0, 1, 2, 3, 4] rfl)
      have J118 : ∀ (v118_5 : Int32) (v118_6 : Int32) (v118_7 : Int32) (f118_158_4 : Int32) (H : Heap) (locs : List Loc) (ls : Array Slot) (w49 : va_W), 0 ≤ a1.toInt → a1.toInt ≤ 12 → 0 ≤ a2.toInt → a2.toInt ≤ 8191 → (-1) ≤ a3.toInt → a3.toInt ≤ 11 → 0 ≤ v27_4.toInt → v27_4.toInt ≤ 11 → 0 ≤ v118_5.toInt → v118_5.toInt ≤ 9 → 0 ≤ v118_6.toInt → v118_6.toInt ≤ 9 → 0 ≤ v118_7.toInt → v118_7.toInt ≤ 1 → 1 ≤ f118_158_4.toInt → f118_158_4.toInt ≤ 12 → Wd dC dI A s.heap H locs w49 → TW ksC ad cy B qr s1 w49 → FE ksC [(51, 0, 10)] w0 w49 → gi w49 158 4 = f118_158_4 → TT (fun n => m_X10_layRoads n 158 a1.toInt a2.toInt a3.toInt (sI w0)) (fun n => b_X10_layRoads_118 (j_X10_layRoads 158 n) n 158 (a1.toInt) (a2.toInt) (a3.toInt) (v27_4.toInt) (v118_5.toInt) (v118_6.toInt) (v118_7.toInt) (sI w49)) → lv_has ls 8 [(0, .ref (ad 158)), (1, .int a1), (2, .int a2), (3, .int a3), (4, .int v27_4), (5, .int v118_5), (6, .int v118_6), (7, .int v118_7)] → W p l e ({ frames := 1, cells := 0, slots := 0, locals := 12 }) s m (List.toArray [.ref (ad 158), .int a1, .int a2, .int a3]) below meth c H locs 0 0 (MQ below (va_Qv (Pz_X10_layRoads_1 ad cy B qr s1 a1 a2 a3 w0) (fun u : va_W => wpost dC dI cy A u) A) (List.toArray [.ref (ad 158), .int a1, .int a2, .int a3]) s 0 0 A) (F0 m 118 ls []) := by
        intro v118_5 v118_6 v118_7 f118_158_4 H locs ls w49 r50 t51 r52 t53 r54 t55 r56 t57 r58 t59 r60 t61 r62 t63 r64 t65 hw hT hF c66 hM hl
        refine lv_iload hx hb dX10_layRoads_118 (lv_at hl 4 rfl) ?_
        refine lv_iload_n hx hb dX10_layRoads_120 rfl (lv_at hl 1 rfl) ?_
        refine lv_icmp_lt (tgt := 130) hx hb dX10_layRoads_121 (by decide) (fun c67 => ?_) (fun c67 => ?_)
        · have c67 : v27_4.toInt < a1.toInt := wk_lt.mp c67
          replace hM := hM.pos c67
          exact J130 v118_5 v118_6 v118_7 f118_158_4 H locs ls w49 (show 0 ≤ a1.toInt from r50) (show a1.toInt ≤ 12 from t51) (show 0 ≤ a2.toInt from r52) (show a2.toInt ≤ 8191 from t53) (show (-1) ≤ a3.toInt from r54) (show a3.toInt ≤ 11 from t55) (show 0 ≤ v27_4.toInt from r56) (show v27_4.toInt ≤ 11 from t57) (show 0 ≤ v118_5.toInt from r58) (show v118_5.toInt ≤ 9 from t59) (show 0 ≤ v118_6.toInt from r60) (show v118_6.toInt ≤ 9 from t61) (show 0 ≤ v118_7.toInt from r62) (show v118_7.toInt ≤ 1 from t63) (show 1 ≤ f118_158_4.toInt from r64) (show f118_158_4.toInt ≤ 12 from t65)  hw hT hF c66 hM (lv_sub hl [0, 1, 2, 3, 4, 5, 6, 7] rfl)
        · have c67 : a1.toInt ≤ v27_4.toInt := wk_ltF c67
          replace hM := hM.neg (Int.not_lt.mpr c67)
          refine lv_iload hx hb dX10_layRoads_124 (lv_at hl 7 rfl) ?_
          refine lv_iconst (v := 1) hx hb dX10_layRoads_126 (by decide) ?_
          refine lv_icmp_ne (tgt := 144) hx hb dX10_layRoads_127 (by decide) (fun c68 => ?_) (fun c68 => ?_)
          · have c68 : ¬ v118_7.toInt = (1 : Int) := wk_eqF c68
            replace hM := hM.pos c68
            exact J144 f118_158_4 H locs ls w49 (show 0 ≤ a1.toInt from r50) (show a1.toInt ≤ 12 from t51) (show 0 ≤ a2.toInt from r52) (show a2.toInt ≤ 8191 from t53) (show (-1) ≤ a3.toInt from r54) (show a3.toInt ≤ 11 from t55) (show 0 ≤ v27_4.toInt from r56) (show v27_4.toInt ≤ 11 from t57) (show 1 ≤ f118_158_4.toInt from r64) (show f118_158_4.toInt ≤ 12 from t65)  hw hT hF c66 hM (lv_sub hl [0, 1, 2, 3, 4] rfl)
          · have c68 : v118_7.toInt = (1 : Int) := wk_eq.mp c68
            replace hM := hM.neg (fun q => q c68)
            exact J130 v118_5 v118_6 v118_7 f118_158_4 H locs ls w49 (show 0 ≤ a1.toInt from r50) (show a1.toInt ≤ 12 from t51) (show 0 ≤ a2.toInt from r52) (show a2.toInt ≤ 8191 from t53) (show (-1) ≤ a3.toInt from r54) (show a3.toInt ≤ 11 from t55) (show 0 ≤ v27_4.toInt from r56) (show v27_4.toInt ≤ 11 from t57) (show 0 ≤ v118_5.toInt from r58) (show v118_5.toInt ≤ 9 from t59) (show 0 ≤ v118_6.toInt from r60) (show v118_6.toInt ≤ 9 from t61) (show 0 ≤ v118_7.toInt from r62) (show v118_7.toInt ≤ 1 from t63) (show 1 ≤ f118_158_4.toInt from r64) (show f118_158_4.toInt ≤ 12 from t65)  hw hT hF c66 hM (lv_sub hl [0, 1, 2, 3, 4, 5, 6, 7] rfl)
      have J104 : ∀ (v104_5 : Int32) (v104_6 : Int32) (v104_7 : Int32) (f104_158_4 : Int32) (H : Heap) (locs : List Loc) (ls : Array Slot) (w69 : va_W), 0 ≤ a1.toInt → a1.toInt ≤ 12 → 0 ≤ a2.toInt → a2.toInt ≤ 8191 → (-1) ≤ a3.toInt → a3.toInt ≤ 11 → 0 ≤ v27_4.toInt → v27_4.toInt ≤ 11 → 0 ≤ v104_5.toInt → v104_5.toInt ≤ 9 → 0 ≤ v104_6.toInt → v104_6.toInt ≤ 9 → 0 ≤ v104_7.toInt → v104_7.toInt ≤ 1 → 1 ≤ f104_158_4.toInt → f104_158_4.toInt ≤ 12 → Wd dC dI A s.heap H locs w69 → TW ksC ad cy B qr s1 w69 → FE ksC [(51, 0, 10)] w0 w69 → gi w69 158 4 = f104_158_4 → TT (fun n => m_X10_layRoads n 158 a1.toInt a2.toInt a3.toInt (sI w0)) (fun n => b_X10_layRoads_104 (j_X10_layRoads 158 n) n 158 (a1.toInt) (a2.toInt) (a3.toInt) (v27_4.toInt) (v104_5.toInt) (v104_6.toInt) (v104_7.toInt) (sI w69)) → lv_has ls 8 [(0, .ref (ad 158)), (1, .int a1), (2, .int a2), (3, .int a3), (4, .int v27_4), (5, .int v104_5), (6, .int v104_6), (7, .int v104_7)] → W p l e ({ frames := 1, cells := 0, slots := 0, locals := 12 }) s m (List.toArray [.ref (ad 158), .int a1, .int a2, .int a3]) below meth c H locs 0 0 (MQ below (va_Qv (Pz_X10_layRoads_1 ad cy B qr s1 a1 a2 a3 w0) (fun u : va_W => wpost dC dI cy A u) A) (List.toArray [.ref (ad 158), .int a1, .int a2, .int a3]) s 0 0 A) (F0 m 104 ls []) := by
        intro v104_5 v104_6 v104_7 f104_158_4 H locs ls w69 r70 t71 r72 t73 r74 t75 r76 t77 r78 t79 r80 t81 r82 t83 r84 t85 hw hT hF c86 hM hl
        refine lv_aload_n hx hb dX10_layRoads_104 rfl (lv_at hl 0 rfl) ?_
        refine tk_getA hC hK hw hT hinX10 kC_at158 (by decide) rfl 3 (by decide) (List.mem_cons_of_mem _ uw_6_5) rfl rfl dX10_layRoads_105 ?_
        refine lv_iload hx hb dX10_layRoads_108 (lv_at hl 5 rfl) ?_
        refine lv_dup2_11 hx hb dX10_layRoads_110 rfl rfl ?_
        refine tk_iald hC hK hw hT kC_at160 rfl rfl (show 0 ≤ v104_5.toInt from r78) (show v104_5.toInt < 10 from Int.lt_of_le_of_lt t79 (by decide)) dX10_layRoads_111 (fun x87 c88 rx87 tx87 => ?_)
        have hox87 := c88
        replace hM := hM.rd (sI_at hox87)
        refine lv_iconst (v := 1) hx hb dX10_layRoads_112 (by decide) ?_
        refine lv_iload hx hb dX10_layRoads_113 (lv_at hl 6 rfl) ?_
        refine lv_ishl hx hb dX10_layRoads_115 ?_
        refine lv_topi (fun x89 ex89 => ?_)
        have ezx89 := ex89
        have bx89 : 1 ≤ x89.toInt ∧ x89.toInt ≤ 512 := by rw [ex89]; exact wk_shl1 9 (by decide) (by omega) (by omega)
        replace hM := hM.lt (o32_e (f := fun x y => x <<< (y &&& 31)) ezx89 (by decide) rfl)
        refine lv_ior hx hb dX10_layRoads_116 ?_
        refine lv_topi (fun x90 ex90 => ?_)
        have ezx90 := ex90
        have bx90 : 0 ≤ x90.toInt ∧ x90.toInt < 1024 := by rw [ex90]; exact wk_or 10 (by decide) (by omega) (by omega) (by omega) (by omega)
        have mx90 : x87.toInt ≤ x90.toInt ∧ x89.toInt ≤ x90.toInt := by rw [ex90]; exact wk_orL 10 (by decide) (by omega) (by omega) (by omega) (by omega)
        replace hM := hM.lt (o32_e (f := fun x y => x ||| y) ezx90 rfl rfl)
        refine tk_iast hC hK hw hT kC_at160 (by decide) rfl rfl (show 0 ≤ v104_5.toInt from r78) (show v104_5.toInt < 10 from Int.lt_of_le_of_lt t79 (by decide)) (show 0 ≤ x90.toInt by first | with_reducible assumption | omega) (show x90.toInt ≤ 1023 by first | with_reducible assumption | omega) dX10_layRoads_117 (fun H locs w91 hw hT k93 c92 => ?_)
        replace hM := hM.wr (sI_up k93 c92)
        have hF := hF.put kC_at160 (inE_of (a := 0) (b := 10) (by decide) (show 0 ≤ v104_5.toInt.toNat by omega) (show v104_5.toInt.toNat ≤ 10 by omega)) k93
        have c94 := k93.gi (Or.inl (tk_ne kC_at158 kC_at160 (by decide))) c86
        exact J118 v104_5 v104_6 v104_7 f104_158_4 H locs ls w91 (show 0 ≤ a1.toInt from r70) (show a1.toInt ≤ 12 from t71) (show 0 ≤ a2.toInt from r72) (show a2.toInt ≤ 8191 from t73) (show (-1) ≤ a3.toInt from r74) (show a3.toInt ≤ 11 from t75) (show 0 ≤ v27_4.toInt from r76) (show v27_4.toInt ≤ 11 from t77) (show 0 ≤ v104_5.toInt from r78) (show v104_5.toInt ≤ 9 from t79) (show 0 ≤ v104_6.toInt from r80) (show v104_6.toInt ≤ 9 from t81) (show 0 ≤ v104_7.toInt from r82) (show v104_7.toInt ≤ 1 from t83) (show 1 ≤ f104_158_4.toInt from r84) (show f104_158_4.toInt ≤ 12 from t85)  hw hT hF c94 hM (lv_sub hl [0, 1, 2, 3, 4, 5, 6, 7] rfl)
      replace hM := hM.suc (fun _ => e_X10_layRoads_27)
      refine lv_iload hx hb dX10_layRoads_27 (lv_at hl 4 rfl) ?_
      refine lv_aload_n hx hb dX10_layRoads_29 rfl (lv_at hl 0 rfl) ?_
      refine tk_geti hC hK hw hT hinX10 kC_at158 (by decide) rfl 4 (by decide) (List.mem_cons_of_mem _ uw_59_23) rfl rfl dX10_layRoads_30 (fun x95 c96 rx95 tx95 => ?_)
      replace hM := hM.rd (sI_at c96)
      refine lv_icmp_ge (tgt := 150) hx hb dX10_layRoads_33 (by decide) (fun c97 => ?_) (fun c97 => ?_)
      · have c97 : x95.toInt ≤ v27_4.toInt := wk_le.mp c97
        replace hM := hM.pos c97
        exact tk_vret hC hr hlocks hK ⟨hT, hF, hM.ret rfl, trivial⟩ hw dX10_layRoads_150
      · have c97 : v27_4.toInt < x95.toInt := wk_leF c97
        replace hM := hM.neg (Int.not_le.mpr c97)
        refine lv_iload hx hb dX10_layRoads_36 (lv_at hl 4 rfl) ?_
        refine lv_iload_n hx hb dX10_layRoads_38 rfl (lv_at hl 3 rfl) ?_
        refine lv_icmp_ne (tgt := 45) hx hb dX10_layRoads_39 (by decide) (fun c98 => ?_) (fun c98 => ?_)
        · have c98 : ¬ v27_4.toInt = a3.toInt := wk_eqF c98
          replace hM := hM.pos c98
          refine lv_aload_n hx hb dX10_layRoads_45 rfl (lv_at hl 0 rfl) ?_
          refine tk_getA hC hK hw hT hinX10 kC_at158 (by decide) rfl 1 (by decide) (List.mem_cons_of_mem _ uw_6_8) rfl rfl dX10_layRoads_46 ?_
          refine tk_getO hC hK hw hT hinX7 kC_at39 (by decide) rfl 0 (by decide) (List.mem_cons_of_mem _ uw_60_11) rfl rfl dX10_layRoads_49 ?_
          refine lv_iconst (v := 2) hx hb dX10_layRoads_52 (by decide) ?_
          refine lv_aload_n hx hb dX10_layRoads_53 rfl (lv_at hl 0 rfl) ?_
          refine tk_getA hC hK hw hT hinX10 kC_at158 (by decide) rfl 2 (by decide) (List.mem_cons_of_mem _ uw_6_4) rfl rfl dX10_layRoads_54 ?_
          refine lv_iload hx hb dX10_layRoads_57 (lv_at hl 4 rfl) ?_
          refine tk_iald hC hK hw hT kC_at159 rfl rfl (show 0 ≤ v27_4.toInt from r8) (show v27_4.toInt < 12 by first | with_reducible assumption | omega) dX10_layRoads_59 (fun x99 c100 rx99 tx99 => ?_)
          have hox99 := c100
          replace hM := hM.rd (sI_at hox99)
          refine lv_imul hx hb dX10_layRoads_60 ?_
          refine lv_topi (fun x101 ex101 => ?_)
          have ezx101 := ex101
          have ex101 : x101.toInt = (2 : Int) * x99.toInt := by rw [ex101]; exact wk_mul (show (-2147483648) ≤ (2 : Int) * x99.toInt by omega) (show (2 : Int) * x99.toInt ≤ 2147483647 by omega)
          replace hM := hM.lt ex101.symm
          refine tk_iald hC hK hw hT kC_at40 rfl rfl (show 0 ≤ x101.toInt by first | with_reducible assumption | omega) (show x101.toInt < 26 by first | with_reducible assumption | omega) dX10_layRoads_61 (fun x102 c103 rx102 tx102 => ?_)
          have hox102 := c103
          replace hM := hM.rd (sI_at hox102)
          have c103 : gi w1 40 (2 * x99.toInt + 0).toNat = x102 := (congrArg (gi w1 40) (congrArg Int.toNat (show 2 * x99.toInt + 0 = x101.toInt by first | exact Int.le_antisymm (by omega) (by omega) | omega))).trans c103
          refine lv_istore (lv' := [(5, .int x102), (0, .ref (ad 158)), (1, .int a1), (2, .int a2), (3, .int a3), (4, .int v27_4)]) hx hb dX10_layRoads_62 hl (by decide) rfl (fun ls hl => ?_)
          refine lv_aload_n hx hb dX10_layRoads_64 rfl (lv_at hl 1 rfl) ?_
          refine tk_getA hC hK hw hT hinX10 kC_at158 (by decide) rfl 1 (by decide) (List.mem_cons_of_mem _ uw_6_8) rfl rfl dX10_layRoads_65 ?_
          refine tk_getO hC hK hw hT hinX7 kC_at39 (by decide) rfl 0 (by decide) (List.mem_cons_of_mem _ uw_60_11) rfl rfl dX10_layRoads_68 ?_
          refine lv_iconst (v := 2) hx hb dX10_layRoads_71 (by decide) ?_
          refine lv_aload_n hx hb dX10_layRoads_72 rfl (lv_at hl 1 rfl) ?_
          refine tk_getA hC hK hw hT hinX10 kC_at158 (by decide) rfl 2 (by decide) (List.mem_cons_of_mem _ uw_6_4) rfl rfl dX10_layRoads_73 ?_
          refine lv_iload hx hb dX10_layRoads_76 (lv_at hl 5 rfl) ?_
          refine tk_iald hC hK hw hT kC_at159 rfl rfl (show 0 ≤ v27_4.toInt from r8) (show v27_4.toInt < 12 by first | with_reducible assumption | omega) dX10_layRoads_78 (fun x104 c105 rx104 tx104 => ?_)
          have hox104 := c105
          replace hM := hM.rd (sI_at hox104)
          refine lv_imul hx hb dX10_layRoads_79 ?_
          refine lv_topi (fun x106 ex106 => ?_)
          have ezx106 := ex106
          have ex106 : x106.toInt = (2 : Int) * x104.toInt := by rw [ex106]; exact wk_mul (show (-2147483648) ≤ (2 : Int) * x104.toInt by omega) (show (2 : Int) * x104.toInt ≤ 2147483647 by omega)
          replace hM := hM.lt ex106.symm
          refine lv_iconst (v := 1) hx hb dX10_layRoads_80 (by decide) ?_
          refine lv_iadd hx hb dX10_layRoads_81 ?_
          refine lv_topi (fun x107 ex107 => ?_)
          have ezx107 := ex107
          have ex107 : x107.toInt = x106.toInt + (1 : Int) := by rw [ex107]; exact wk_add (show (-2147483648) ≤ x106.toInt + (1 : Int) by omega) (show x106.toInt + (1 : Int) ≤ 2147483647 by omega)
          replace hM := hM.lt ex107.symm
          refine tk_iald hC hK hw hT kC_at40 rfl rfl (show 0 ≤ x107.toInt by first | with_reducible assumption | omega) (show x107.toInt < 26 by first | with_reducible assumption | omega) dX10_layRoads_82 (fun x108 c109 rx108 tx108 => ?_)
          have hox108 := c109
          replace hM := hM.rd (sI_at hox108)
          have c109 : gi w1 40 (2 * x104.toInt + 1).toNat = x108 := (congrArg (gi w1 40) (congrArg Int.toNat (show 2 * x104.toInt + 1 = x107.toInt by first | exact Int.le_antisymm (by omega) (by omega) | omega))).trans c109
          refine lv_istore (lv' := [(6, .int x108), (5, .int x102), (0, .ref (ad 158)), (1, .int a1), (2, .int a2), (3, .int a3), (4, .int v27_4)]) hx hb dX10_layRoads_83 hl (by decide) rfl (fun ls hl => ?_)
          refine lv_iload_n hx hb dX10_layRoads_85 rfl (lv_at hl 4 rfl) ?_
          refine lv_iload hx hb dX10_layRoads_86 (lv_at hl 6 rfl) ?_
          refine lv_ishr hx hb dX10_layRoads_88 ?_
          refine lv_topi (fun x110 ex110 => ?_)
          have ezx110 := ex110
          have bx110 : 0 ≤ x110.toInt ∧ x110.toInt ≤ a2.toInt := by rw [ex110]; exact wk_shr (by omega)
          replace hM := hM.lt (o32_e (f := fun x y => x >>> (y &&& 31)) ezx110 rfl rfl)
          refine lv_iconst (v := 1) hx hb dX10_layRoads_89 (by decide) ?_
          refine lv_iand hx hb dX10_layRoads_90 ?_
          refine lv_topi (fun x111 ex111 => ?_)
          have ezx111 := ex111
          have bx111 : 0 ≤ x111.toInt ∧ x111.toInt ≤ (1 : Int) := by rw [ex111]; exact wk_and (by decide)
          replace hM := hM.lt (o32_e (f := fun x y => x &&& y) ezx111 rfl (by decide))
          refine lv_istore (lv' := [(7, .int x111), (6, .int x108), (5, .int x102), (0, .ref (ad 158)), (1, .int a1), (2, .int a2), (3, .int a3), (4, .int v27_4)]) hx hb dX10_layRoads_91 hl (by decide) rfl (fun ls hl => ?_)
          refine lv_iload hx hb dX10_layRoads_93 (lv_at hl 7 rfl) ?_
          refine lv_iload_n hx hb dX10_layRoads_95 rfl (lv_at hl 4 rfl) ?_
          refine lv_icmp_lt (tgt := 104) hx hb dX10_layRoads_96 (by decide) (fun c112 => ?_) (fun c112 => ?_)
          · have c112 : v27_4.toInt < a1.toInt := wk_lt.mp c112
            replace hM := hM.pos c112
            exact J104 x102 x108 x111 x95 H locs ls w1 (show 0 ≤ a1.toInt from r2) (show a1.toInt ≤ 12 from t3) (show 0 ≤ a2.toInt from r4) (show a2.toInt ≤ 8191 from t5) (show (-1) ≤ a3.toInt from r6) (show a3.toInt ≤ 11 from t7) (show 0 ≤ v27_4.toInt from r8) (show v27_4.toInt ≤ 11 by first | with_reducible assumption | omega) (show 0 ≤ x102.toInt from rx102) (show x102.toInt ≤ 9 from tx102) (show 0 ≤ x108.toInt from rx108) (show x108.toInt ≤ 9 from tx108) (show 0 ≤ x111.toInt by first | with_reducible assumption | omega) (show x111.toInt ≤ 1 by first | with_reducible assumption | omega) (show 1 ≤ x95.toInt by first | with_reducible assumption | omega) (show x95.toInt ≤ 12 from tx95)  hw hT hF c96 hM (lv_sub hl [3, 4, 5, 6, 7, 2, 1, 0] rfl)
          · have c112 : a1.toInt ≤ v27_4.toInt := wk_ltF c112
            replace hM := hM.neg (Int.not_lt.mpr c112)
            refine lv_iload hx hb dX10_layRoads_99 (lv_at hl 0 rfl) ?_
            refine lv_if_ne (tgt := 118) hx hb dX10_layRoads_101 (by decide) (fun c113 => ?_) (fun c113 => ?_)
            · have c113 : ¬ x111.toInt = (0 : Int) := wk_eqF c113
              replace hM := hM.pos c113
              exact J118 x102 x108 x111 x95 H locs ls w1 (show 0 ≤ a1.toInt from r2) (show a1.toInt ≤ 12 from t3) (show 0 ≤ a2.toInt from r4) (show a2.toInt ≤ 8191 from t5) (show (-1) ≤ a3.toInt from r6) (show a3.toInt ≤ 11 from t7) (show 0 ≤ v27_4.toInt from r8) (show v27_4.toInt ≤ 11 by first | with_reducible assumption | omega) (show 0 ≤ x102.toInt from rx102) (show x102.toInt ≤ 9 from tx102) (show 0 ≤ x108.toInt from rx108) (show x108.toInt ≤ 9 from tx108) (show 0 ≤ x111.toInt by first | with_reducible assumption | omega) (show x111.toInt ≤ 1 by first | with_reducible assumption | omega) (show 1 ≤ x95.toInt by first | with_reducible assumption | omega) (show x95.toInt ≤ 12 from tx95)  hw hT hF c96 hM (lv_sub hl [3, 4, 5, 6, 7, 2, 1, 0] rfl)
            · have c113 : x111.toInt = (0 : Int) := wk_eq.mp c113
              replace hM := hM.neg (fun q => q c113)
              exact J104 x102 x108 x111 x95 H locs ls w1 (show 0 ≤ a1.toInt from r2) (show a1.toInt ≤ 12 from t3) (show 0 ≤ a2.toInt from r4) (show a2.toInt ≤ 8191 from t5) (show (-1) ≤ a3.toInt from r6) (show a3.toInt ≤ 11 from t7) (show 0 ≤ v27_4.toInt from r8) (show v27_4.toInt ≤ 11 by first | with_reducible assumption | omega) (show 0 ≤ x102.toInt from rx102) (show x102.toInt ≤ 9 from tx102) (show 0 ≤ x108.toInt from rx108) (show x108.toInt ≤ 9 from tx108) (show 0 ≤ x111.toInt by first | with_reducible assumption | omega) (show x111.toInt ≤ 1 by first | with_reducible assumption | omega) (show 1 ≤ x95.toInt by first | with_reducible assumption | omega) (show x95.toInt ≤ 12 from tx95)  hw hT hF c96 hM (lv_sub hl [3, 4, 5, 6, 7, 2, 1, 0] rfl)
        · have c98 : v27_4.toInt = a3.toInt := wk_eq.mp c98
          replace hM := hM.neg (fun q => q c98)
          refine lv_goto (tgt := 144) hx hb dX10_layRoads_42 (by decide) ?_
          exact J144 x95 H locs ls w1 (show 0 ≤ a1.toInt from r2) (show a1.toInt ≤ 12 from t3) (show 0 ≤ a2.toInt from r4) (show a2.toInt ≤ 8191 from t5) (show (-1) ≤ a3.toInt from r6) (show a3.toInt ≤ 11 from t7) (show 0 ≤ v27_4.toInt from r8) (show v27_4.toInt ≤ 11 by first | with_reducible assumption | omega) (show 1 ≤ x95.toInt by first | with_reducible assumption | omega) (show x95.toInt ≤ 12 from tx95)  hw hT hF c96 hM (lv_sub hl [0, 1, 2, 3, 4] rfl)
  have L3 : ∀ (n3 : Nat) (v3_4 : Int32) (H : Heap) (locs : List Loc) (ls : Array Slot) (w114 : va_W), 0 ≤ a1.toInt → a1.toInt ≤ 12 → 0 ≤ a2.toInt → a2.toInt ≤ 8191 → (-1) ≤ a3.toInt → a3.toInt ≤ 11 → 0 ≤ v3_4.toInt → v3_4.toInt ≤ 10 → (10 - v3_4.toInt).toNat < n3 → Wd dC dI A s.heap H locs w114 → TW ksC ad cy B qr s1 w114 → FE ksC [(51, 0, 10)] w0 w114 → TT (fun n => m_X10_layRoads n 158 a1.toInt a2.toInt a3.toInt (sI w0)) (fun n => j_X10_layRoads 158 n 3 [a1.toInt, a2.toInt, a3.toInt, v3_4.toInt] (sI w114)) → lv_has ls 8 [(0, .ref (ad 158)), (1, .int a1), (2, .int a2), (3, .int a3), (4, .int v3_4)] → W p l e ({ frames := 1, cells := 0, slots := 0, locals := 12 }) s m (List.toArray [.ref (ad 158), .int a1, .int a2, .int a3]) below meth c H locs 0 0 (MQ below (va_Qv (Pz_X10_layRoads_1 ad cy B qr s1 a1 a2 a3 w0) (fun u : va_W => wpost dC dI cy A u) A) (List.toArray [.ref (ad 158), .int a1, .int a2, .int a3]) s 0 0 A) (F0 m 3 ls []) := by
    intro n3
    induction n3 with
    | zero => intro v3_4 H locs ls w114 r115 t116 r117 t118 r119 t120 r121 t122 hm3 hw hT hF hM hl; omega
    | succ n3 ih3 =>
      intro v3_4 H locs ls w114 r115 t116 r117 t118 r119 t120 r121 t122 hm3 hw hT hF hM hl
      replace hM := hM.suc (fun _ => e_X10_layRoads_3)
      refine lv_iload hx hb dX10_layRoads_3 (lv_at hl 4 rfl) ?_
      refine lv_bipush (v := 10) hx hb dX10_layRoads_5 (by decide) ?_
      refine lv_icmp_ge (tgt := 24) hx hb dX10_layRoads_7 (by decide) (fun c123 => ?_) (fun c123 => ?_)
      · have c123 : (10 : Int) ≤ v3_4.toInt := wk_le.mp c123
        replace hM := hM.pos c123
        refine lv_iconst (v := 0) hx hb dX10_layRoads_24 (by decide) ?_
        refine lv_istore (lv' := [(4, .int 0), (0, .ref (ad 158)), (1, .int a1), (2, .int a2), (3, .int a3)]) hx hb dX10_layRoads_25 hl (by decide) rfl (fun ls hl => ?_)
        exact L27 ((12 - (0 : Int)).toNat + 1) 0 H locs ls w114 (show 0 ≤ a1.toInt from r115) (show a1.toInt ≤ 12 from t116) (show 0 ≤ a2.toInt from r117) (show a2.toInt ≤ 8191 from t118) (show (-1) ≤ a3.toInt from r119) (show a3.toInt ≤ 11 from t120) (by decide) (by decide) (Nat.lt_succ_self _) hw hT hF hM (lv_sub hl [1, 2, 3, 4, 0] rfl)
      · have c123 : v3_4.toInt < (10 : Int) := wk_leF c123
        replace hM := hM.neg (Int.not_le.mpr c123)
        refine lv_aload_n hx hb dX10_layRoads_10 rfl (lv_at hl 0 rfl) ?_
        refine tk_getA hC hK hw hT hinX10 kC_at158 (by decide) rfl 3 (by decide) (List.mem_cons_of_mem _ uw_6_5) rfl rfl dX10_layRoads_11 ?_
        refine lv_iload hx hb dX10_layRoads_14 (lv_at hl 4 rfl) ?_
        refine lv_iconst (v := 0) hx hb dX10_layRoads_16 (by decide) ?_
        refine tk_iast hC hK hw hT kC_at160 (by decide) rfl rfl (show 0 ≤ v3_4.toInt from r121) (show v3_4.toInt < 10 by first | with_reducible assumption | omega) (by decide) (by decide) dX10_layRoads_17 (fun H locs w124 hw hT k126 c125 => ?_)
        replace hM := hM.wr (sI_upc k126 c125 (by decide))
        have hF := hF.put kC_at160 (inE_of (a := 0) (b := 10) (by decide) (show 0 ≤ v3_4.toInt.toNat by omega) (show v3_4.toInt.toNat ≤ 10 by omega)) k126
        obtain ⟨x127, ex127⟩ : ∃ y : Int32, y = v3_4 + Int32.ofInt 1 := ⟨_, rfl⟩
        have erx127 := ex127
        refine lv_iinc (v := x127) (lv' := [(4, .int x127), (0, .ref (ad 158)), (1, .int a1), (2, .int a2), (3, .int a3)]) hx hb dX10_layRoads_18 hl (k := 4) rfl ex127.symm (by decide) rfl (fun ls hl => ?_)
        have ex127 : x127.toInt = v3_4.toInt + 1 := by rw [ex127]; exact wk_add (y := 1) (show -2147483648 ≤ v3_4.toInt + 1 by omega) (show v3_4.toInt + 1 ≤ 2147483647 by omega)
        replace hM := hM.lt ex127.symm
        refine lv_goto (tgt := 3) hx hb dX10_layRoads_21 (by decide) ?_
        exact ih3 x127 H locs ls w124 (show 0 ≤ a1.toInt from r115) (show a1.toInt ≤ 12 from t116) (show 0 ≤ a2.toInt from r117) (show a2.toInt ≤ 8191 from t118) (show (-1) ≤ a3.toInt from r119) (show a3.toInt ≤ 11 from t120) (show 0 ≤ x127.toInt by first | with_reducible assumption | omega) (show x127.toInt ≤ 10 by first | with_reducible assumption | omega) (show (10 - x127.toInt).toNat < n3 by first | exact tn_lt hm3 (by omega) (by omega) | omega) hw hT hF hM (lv_sub hl [1, 2, 3, 4, 0] rfl)
  have hM : TT (fun n => m_X10_layRoads n 158 a1.toInt a2.toInt a3.toInt (sI w0)) (fun n => m_X10_layRoads n 158 a1.toInt a2.toInt a3.toInt (sI w0)) := TT.rf
  refine lv_iconst (v := 0) hx hb dX10_layRoads_0 (by decide) ?_
  refine lv_istore (lv' := [(4, .int 0), (0, .ref (ad 158)), (1, .int a1), (2, .int a2), (3, .int a3)]) hx hb dX10_layRoads_1 hl (by decide) rfl (fun ls hl => ?_)
  exact L3 ((10 - (0 : Int)).toNat + 1) 0 s.heap locs ls w0 (show 0 ≤ a1.toInt from ra1) (show a1.toInt ≤ 12 from ta1) (show 0 ≤ a2.toInt from ra2) (show a2.toInt ≤ 8191 from ta2) (show (-1) ≤ a3.toInt from ra3) (show a3.toInt ≤ 11 from ta3) (by decide) (by decide) (Nat.lt_succ_self _) hw hT hF hM (lv_sub hl [1, 2, 3, 4, 0] rfl)
abbrev Pz_X10_cornersFrom_1 (ad : Nat → Nat) (cy : Nat → ClassId) (B : Int) (qr : Nat) (s1 : Int) (a1 : Int32) (w0 : va_W) : Int32 → va_W → Prop := fun r u => TW ksC ad cy B qr s1 u ∧ FE ksC ([] : List (Nat × Nat × Nat)) w0 u ∧ Ev (fun n => m_X10_cornersFrom n 158 a1.toInt (sI w0)) (r.toInt, sI u) ∧ ((1 ≤ r.toInt ∧ r.toInt ≤ 1023))
set_option maxHeartbeats 4000000 in
set_option maxRecDepth 100000 in
theorem kz_X10_cornersFrom_1 (l : Launch) (adK adV : Nat → Nat) (dC : Nat → ClassId) (dI : Nat → Nat → Nat) (cy : Nat → ClassId) (ad : Nat → Nat) (B : Int) (hB0 : 2147483648 ≤ B) (hB1 : B ≤ 1152921504606846976) (qr : Nat) (s1 : Int)  (a1 : Int32) (ra1 : 0 ≤ a1.toInt) (ta1 : a1.toInt ≤ 9) (w0 : va_W) (sz : Nat) (hT : TW ksC ad cy B qr s1 w0)  : Met l yX10_cornersFrom (wu yX10_cornersFrom cX10_cornersFrom 7 (some .int)) ({ frames := 1, cells := 0, slots := 0, locals := 12 }) (va_Pc [.ref (ad 158), .int a1] (wpreS adK adV dC dI cy sz w0)) (va_Qi (Pz_X10_cornersFrom_1 ad cy B qr s1 a1 w0) (fun u : va_W => wpost dC dI cy (va_A w0 sz) u) (va_A w0 sz)) 0 0 (va_A w0 sz) := by
  refine Met.ofW (cc := cX10_cornersFrom) (maxL := 7) (ret := (some .int)) (by decide) rfl ?_
  intro p e s m args below meth c s₁ Bk hml hv
  obtain ⟨rfl, ⟨hsz, hP, hK, hD0⟩, hE, hSR⟩ := hv
  have hx := Bk.exec
  have hb := Bk.bytes
  have hr := Bk.returns
  have hlocks := Bk.notSynchronized
  have hC : CallFix p m c cX10_cornersFrom 7 s _ (wu yX10_cornersFrom cX10_cornersFrom 7 (some .int)) RX10 := ⟨hx, hb, hml, findClass_of_methodNamed Bk.named, atoms_spec (ws := (wu yX10_cornersFrom cX10_cornersFrom 7 (some .int))) Bk.pre⟩
  subst hsz
  have hD := hD0.self (sz := s.heap.size)
  generalize hAe : va_A w0 s.heap.size = A at hD hE ⊢
  have hA : ∀ q : Nat, s.heap.size ≤ q → A q := fun q h => by rw [← hAe]; exact Or.inr h
  have hw : Wd dC dI A s.heap s.heap [] w0 := ⟨hP, hD, va_S.rf⟩
  have hF : FE ksC ([] : List (Nat × Nat × Nat)) w0 w0 := FE.rf
  have hl := lv_entry ([.ref (ad 158), .int a1]) (n := 7) (Nat.le_of_ble_eq_true rfl)
  rw [lg_entry_eq]
  generalize (lg_sl ([.ref (ad 158), .int a1]) ++ List.replicate (7 - (lg_sl ([.ref (ad 158), .int a1])).length) Slot.unset).toArray = ls at hl ⊢
  have hl : lv_has ls 7 [(0, .ref (ad 158)), (1, .int a1)] := hl
  generalize hloc : ([] : List Loc) = locs at hw ⊢
  have hinX10 : ∀ w ∈ u_ws RX10 TX10 5, w ∈ (wu yX10_cornersFrom cX10_cornersFrom 7 (some .int)) := fun _ h => List.mem_cons_of_mem _ (up_81 h)
  have hinX7 : ∀ w ∈ u_ws RX7 TX7 12, w ∈ (wu yX10_cornersFrom cX10_cornersFrom 7 (some .int)) := fun _ h => List.mem_cons_of_mem _ (up_73 h)
  have J87 : ∀ (v87_2 : Int32) (v87_3 : Int32) (v87_4 : Int32) (H : Heap) (locs : List Loc) (ls : Array Slot) (w1 : va_W), 0 ≤ a1.toInt → a1.toInt ≤ 9 → 1 ≤ v87_2.toInt → v87_2.toInt ≤ 1023 → 0 ≤ v87_3.toInt → v87_3.toInt ≤ 1023 → 0 ≤ v87_4.toInt → v87_4.toInt ≤ 10 → Wd dC dI A s.heap H locs w1 → TW ksC ad cy B qr s1 w1 → FE ksC ([] : List (Nat × Nat × Nat)) w0 w1 → TT (fun n => m_X10_cornersFrom n 158 a1.toInt (sI w0)) (fun n => b_X10_cornersFrom_87 (j_X10_cornersFrom 158 n) n 158 (v87_2.toInt) (sI w1)) → lv_has ls 7 [(0, .ref (ad 158)), (1, .int a1), (2, .int v87_2), (3, .int v87_3), (4, .int v87_4)] → W p l e ({ frames := 1, cells := 0, slots := 0, locals := 12 }) s m (List.toArray [.ref (ad 158), .int a1]) below meth c H locs 0 0 (MQ below (va_Qi (Pz_X10_cornersFrom_1 ad cy B qr s1 a1 w0) (fun u : va_W => wpost dC dI cy A u) A) (List.toArray [.ref (ad 158), .int a1]) s 0 0 A) (F0 m 87 ls []) := by
    intro v87_2 v87_3 v87_4 H locs ls w1 r2 t3 r4 t5 r6 t7 r8 t9 hw hT hF hM hl
    refine lv_iload_n hx hb dX10_cornersFrom_87 rfl (lv_at hl 2 rfl) ?_
    exact tk_iret hC hr hlocks hK ⟨hT, hF, hM.ret rfl, ⟨(show 1 ≤ v87_2.toInt from r4), (show v87_2.toInt ≤ 1023 from t5)⟩⟩ hw dX10_cornersFrom_88
  have L9 : ∀ (n9 : Nat) (v9_2 : Int32) (v9_3 : Int32) (v9_4 : Int32) (H : Heap) (locs : List Loc) (ls : Array Slot) (w10 : va_W), 0 ≤ a1.toInt → a1.toInt ≤ 9 → 1 ≤ v9_2.toInt → v9_2.toInt ≤ 1023 → 0 ≤ v9_3.toInt → v9_3.toInt ≤ 1023 → 0 ≤ v9_4.toInt → v9_4.toInt ≤ 10 → (10 - v9_4.toInt).toNat < n9 → Wd dC dI A s.heap H locs w10 → TW ksC ad cy B qr s1 w10 → FE ksC ([] : List (Nat × Nat × Nat)) w0 w10 → TT (fun n => m_X10_cornersFrom n 158 a1.toInt (sI w0)) (fun n => j_X10_cornersFrom 158 n 9 [v9_2.toInt, v9_3.toInt, v9_4.toInt] (sI w10)) → lv_has ls 7 [(0, .ref (ad 158)), (1, .int a1), (2, .int v9_2), (3, .int v9_3), (4, .int v9_4)] → W p l e ({ frames := 1, cells := 0, slots := 0, locals := 12 }) s m (List.toArray [.ref (ad 158), .int a1]) below meth c H locs 0 0 (MQ below (va_Qi (Pz_X10_cornersFrom_1 ad cy B qr s1 a1 w0) (fun u : va_W => wpost dC dI cy A u) A) (List.toArray [.ref (ad 158), .int a1]) s 0 0 A) (F0 m 9 ls []) := by
    intro n9
    induction n9 with
    | zero => intro v9_2 v9_3 v9_4 H locs ls w10 r11 t12 r13 t14 r15 t16 r17 t18 hm9 hw hT hF hM hl; omega
    | succ n9 ih9 =>
      intro v9_2 v9_3 v9_4 H locs ls w10 r11 t12 r13 t14 r15 t16 r17 t18 hm9 hw hT hF hM hl
      have L26 : ∀ (n26 : Nat) (v26_5 : Int32) (v26_6 : Int32) (H : Heap) (locs : List Loc) (ls : Array Slot) (w19 : va_W), 0 ≤ a1.toInt → a1.toInt ≤ 9 → 1 ≤ v9_2.toInt → v9_2.toInt ≤ 1023 → 1 ≤ v9_3.toInt → v9_3.toInt ≤ 1023 → 0 ≤ v9_4.toInt → v9_4.toInt ≤ 9 → 0 ≤ v26_5.toInt → v26_5.toInt ≤ 1023 → 0 ≤ v26_6.toInt → v26_6.toInt ≤ 10 → (10 - v26_6.toInt).toNat < n26 → Wd dC dI A s.heap H locs w19 → TW ksC ad cy B qr s1 w19 → FE ksC ([] : List (Nat × Nat × Nat)) w0 w19 → TT (fun n => m_X10_cornersFrom n 158 a1.toInt (sI w0)) (fun n => j_X10_cornersFrom 158 n 26 [v9_2.toInt, v9_3.toInt, v9_4.toInt, v26_5.toInt, v26_6.toInt] (sI w19)) → lv_has ls 7 [(0, .ref (ad 158)), (1, .int a1), (2, .int v9_2), (3, .int v9_3), (4, .int v9_4), (5, .int v26_5), (6, .int v26_6)] → W p l e ({ frames := 1, cells := 0, slots := 0, locals := 12 }) s m (List.toArray [.ref (ad 158), .int a1]) below meth c H locs 0 0 (MQ below (va_Qi (Pz_X10_cornersFrom_1 ad cy B qr s1 a1 w0) (fun u : va_W => wpost dC dI cy A u) A) (List.toArray [.ref (ad 158), .int a1]) s 0 0 A) (F0 m 26 ls []) := by
        intro n26
        induction n26 with
        | zero => intro v26_5 v26_6 H locs ls w19 r20 t21 r22 t23 r24 t25 r26 t27 r28 t29 r30 t31 hm26 hw hT hF hM hl; omega
        | succ n26 ih26 =>
          intro v26_5 v26_6 H locs ls w19 r20 t21 r22 t23 r24 t25 r26 t27 r28 t29 r30 t31 hm26 hw hT hF hM hl
          have J59 : ∀ (v59_5 : Int32) (f59_39_8 : Int32) (H : Heap) (locs : List Loc) (ls : Array Slot) (w32 : va_W), 0 ≤ a1.toInt → a1.toInt ≤ 9 → 1 ≤ v9_2.toInt → v9_2.toInt ≤ 1023 → 1 ≤ v9_3.toInt → v9_3.toInt ≤ 1023 → 0 ≤ v9_4.toInt → v9_4.toInt ≤ 9 → 0 ≤ v59_5.toInt → v59_5.toInt ≤ 1023 → 0 ≤ v26_6.toInt → v26_6.toInt ≤ 9 → 1 ≤ f59_39_8.toInt → f59_39_8.toInt ≤ 10 → Wd dC dI A s.heap H locs w32 → TW ksC ad cy B qr s1 w32 → FE ksC ([] : List (Nat × Nat × Nat)) w0 w32 → gi w32 39 8 = f59_39_8 → TT (fun n => m_X10_cornersFrom n 158 a1.toInt (sI w0)) (fun n => b_X10_cornersFrom_59 (j_X10_cornersFrom 158 n) n 158 (v9_2.toInt) (v9_3.toInt) (v9_4.toInt) (v59_5.toInt) (v26_6.toInt) (sI w32)) → lv_has ls 7 [(0, .ref (ad 158)), (1, .int a1), (2, .int v9_2), (3, .int v9_3), (4, .int v9_4), (5, .int v59_5), (6, .int v26_6)] → W p l e ({ frames := 1, cells := 0, slots := 0, locals := 12 }) s m (List.toArray [.ref (ad 158), .int a1]) below meth c H locs 0 0 (MQ below (va_Qi (Pz_X10_cornersFrom_1 ad cy B qr s1 a1 w0) (fun u : va_W => wpost dC dI cy A u) A) (List.toArray [.ref (ad 158), .int a1]) s 0 0 A) (F0 m 59 ls []) := by
            intro v59_5 f59_39_8 H locs ls w32 r33 t34 r35 t36 r37 t38 r39 t40 r41 t42 r43 t44 r45 t46 hw hT hF c47 hM hl
            obtain ⟨x48, ex48⟩ : ∃ y : Int32, y = v26_6 + Int32.ofInt 1 := ⟨_, rfl⟩
            have erx48 := ex48
            refine lv_iinc (v := x48) (lv' := [(6, .int x48), (0, .ref (ad 158)), (1, .int a1), (2, .int v9_2), (3, .int v9_3), (4, .int v9_4), (5, .int v59_5)]) hx hb dX10_cornersFrom_59 hl (k := 6) rfl ex48.symm (by decide) rfl (fun ls hl => ?_)
            have ex48 : x48.toInt = v26_6.toInt + 1 := by rw [ex48]; exact wk_add (y := 1) (show -2147483648 ≤ v26_6.toInt + 1 by omega) (show v26_6.toInt + 1 ≤ 2147483647 by omega)
            replace hM := hM.lt ex48.symm
            refine lv_goto (tgt := 26) hx hb dX10_cornersFrom_62 (by decide) ?_
            exact ih26 v59_5 x48 H locs ls w32 (show 0 ≤ a1.toInt from r33) (show a1.toInt ≤ 9 from t34) (show 1 ≤ v9_2.toInt from r35) (show v9_2.toInt ≤ 1023 from t36) (show 1 ≤ v9_3.toInt from r37) (show v9_3.toInt ≤ 1023 from t38) (show 0 ≤ v9_4.toInt from r39) (show v9_4.toInt ≤ 9 from t40) (show 0 ≤ v59_5.toInt from r41) (show v59_5.toInt ≤ 1023 from t42) (show 0 ≤ x48.toInt by first | with_reducible assumption | omega) (show x48.toInt ≤ 10 by first | with_reducible assumption | omega) (show (10 - x48.toInt).toNat < n26 by first | exact tn_lt hm26 (by omega) (by omega) | omega) hw hT hF hM (lv_sub hl [1, 2, 3, 4, 5, 6, 0] rfl)
          replace hM := hM.suc (fun _ => e_X10_cornersFrom_26)
          refine lv_iload hx hb dX10_cornersFrom_26 (lv_at hl 6 rfl) ?_
          refine lv_aload_n hx hb dX10_cornersFrom_28 rfl (lv_at hl 0 rfl) ?_
          refine tk_getA hC hK hw hT hinX10 kC_at158 (by decide) rfl 1 (by decide) (List.mem_cons_of_mem _ uw_6_8) rfl rfl dX10_cornersFrom_29 ?_
          refine tk_geti hC hK hw hT hinX7 kC_at39 (by decide) rfl 8 (by decide) (List.mem_cons_of_mem _ uw_60_22) rfl rfl dX10_cornersFrom_32 (fun x49 c50 rx49 tx49 => ?_)
          replace hM := hM.rd (sI_at c50)
          refine lv_icmp_ge (tgt := 65) hx hb dX10_cornersFrom_35 (by decide) (fun c51 => ?_) (fun c51 => ?_)
          · have c51 : x49.toInt ≤ v26_6.toInt := wk_le.mp c51
            replace hM := hM.pos c51
            refine lv_iload hx hb dX10_cornersFrom_65 (lv_at hl 5 rfl) ?_
            refine lv_iload_n hx hb dX10_cornersFrom_67 rfl (lv_at hl 2 rfl) ?_
            refine lv_iconst (v := (-1)) hx hb dX10_cornersFrom_68 (by decide) ?_
            refine lv_ixor hx hb dX10_cornersFrom_69 ?_
            refine lv_topi (fun x52 ex52 => ?_)
            have ezx52 := ex52
            replace hM := hM.lt (o32_e (f := fun x y => x ^^^ y) ezx52 rfl (by decide))
            refine lv_iand hx hb dX10_cornersFrom_70 ?_
            refine lv_topi (fun x53 ex53 => ?_)
            have ezx53 := ex53
            have bx53 : 0 ≤ x53.toInt ∧ x53.toInt ≤ v26_5.toInt := by rw [ex53]; exact wk_andC (by omega)
            replace hM := hM.lt (o32_e (f := fun x y => x &&& y) ezx53 rfl rfl)
            refine lv_sipush (v := 1023) hx hb dX10_cornersFrom_71 (by decide) ?_
            refine lv_iand hx hb dX10_cornersFrom_74 ?_
            refine lv_topi (fun x54 ex54 => ?_)
            have ezx54 := ex54
            have bx54 : 0 ≤ x54.toInt ∧ x54.toInt ≤ (1023 : Int) := by rw [ex54]; exact wk_and (by decide)
            replace hM := hM.lt (o32_e (f := fun x y => x &&& y) ezx54 rfl (by decide))
            refine lv_istore_n (lv' := [(3, .int x54), (0, .ref (ad 158)), (1, .int a1), (2, .int v9_2), (4, .int v9_4), (5, .int v26_5), (6, .int v26_6)]) hx hb dX10_cornersFrom_75 rfl hl (by decide) rfl (fun ls hl => ?_)
            refine lv_iload_n hx hb dX10_cornersFrom_76 rfl (lv_at hl 3 rfl) ?_
            refine lv_iload hx hb dX10_cornersFrom_77 (lv_at hl 5 rfl) ?_
            refine lv_ior hx hb dX10_cornersFrom_79 ?_
            refine lv_topi (fun x55 ex55 => ?_)
            have ezx55 := ex55
            have bx55 : 0 ≤ x55.toInt ∧ x55.toInt < 1024 := by rw [ex55]; exact wk_or 10 (by decide) (by omega) (by omega) (by omega) (by omega)
            have mx55 : v9_2.toInt ≤ x55.toInt ∧ v26_5.toInt ≤ x55.toInt := by rw [ex55]; exact wk_orL 10 (by decide) (by omega) (by omega) (by omega) (by omega)
            replace hM := hM.lt (o32_e (f := fun x y => x ||| y) ezx55 rfl rfl)
            refine lv_istore_n (lv' := [(2, .int x55), (3, .int x54), (0, .ref (ad 158)), (1, .int a1), (4, .int v9_4), (5, .int v26_5), (6, .int v26_6)]) hx hb dX10_cornersFrom_80 rfl hl (by decide) rfl (fun ls hl => ?_)
            obtain ⟨x56, ex56⟩ : ∃ y : Int32, y = v9_4 + Int32.ofInt 1 := ⟨_, rfl⟩
            have erx56 := ex56
            refine lv_iinc (v := x56) (lv' := [(4, .int x56), (2, .int x55), (3, .int x54), (0, .ref (ad 158)), (1, .int a1), (5, .int v26_5), (6, .int v26_6)]) hx hb dX10_cornersFrom_81 hl (k := 4) rfl ex56.symm (by decide) rfl (fun ls hl => ?_)
            have ex56 : x56.toInt = v9_4.toInt + 1 := by rw [ex56]; exact wk_add (y := 1) (show -2147483648 ≤ v9_4.toInt + 1 by omega) (show v9_4.toInt + 1 ≤ 2147483647 by omega)
            replace hM := hM.lt ex56.symm
            refine lv_goto (tgt := 9) hx hb dX10_cornersFrom_84 (by decide) ?_
            exact ih9 x55 x54 x56 H locs ls w19 (show 0 ≤ a1.toInt from r20) (show a1.toInt ≤ 9 from t21) (show 1 ≤ x55.toInt by first | with_reducible assumption | omega) (show x55.toInt ≤ 1023 by first | with_reducible assumption | omega) (show 0 ≤ x54.toInt by first | with_reducible assumption | omega) (show x54.toInt ≤ 1023 by first | with_reducible assumption | omega) (show 0 ≤ x56.toInt by first | with_reducible assumption | omega) (show x56.toInt ≤ 10 by first | with_reducible assumption | omega) (show (10 - x56.toInt).toNat < n9 by first | exact tn_lt hm9 (by omega) (by omega) | omega) hw hT hF hM (lv_sub hl [3, 4, 1, 2, 0] rfl)
          · have c51 : v26_6.toInt < x49.toInt := wk_leF c51
            replace hM := hM.neg (Int.not_le.mpr c51)
            refine lv_iload_n hx hb dX10_cornersFrom_38 rfl (lv_at hl 3 rfl) ?_
            refine lv_iload hx hb dX10_cornersFrom_39 (lv_at hl 6 rfl) ?_
            refine lv_ishr hx hb dX10_cornersFrom_41 ?_
            refine lv_topi (fun x57 ex57 => ?_)
            have ezx57 := ex57
            have bx57 : 0 ≤ x57.toInt ∧ x57.toInt ≤ v9_3.toInt := by rw [ex57]; exact wk_shr (by omega)
            replace hM := hM.lt (o32_e (f := fun x y => x >>> (y &&& 31)) ezx57 rfl rfl)
            refine lv_iconst (v := 1) hx hb dX10_cornersFrom_42 (by decide) ?_
            refine lv_iand hx hb dX10_cornersFrom_43 ?_
            refine lv_topi (fun x58 ex58 => ?_)
            have ezx58 := ex58
            have bx58 : 0 ≤ x58.toInt ∧ x58.toInt ≤ (1 : Int) := by rw [ex58]; exact wk_and (by decide)
            replace hM := hM.lt (o32_e (f := fun x y => x &&& y) ezx58 rfl (by decide))
            refine lv_if_eq (tgt := 59) hx hb dX10_cornersFrom_44 (by decide) (fun c59 => ?_) (fun c59 => ?_)
            · have c59 : x58.toInt = (0 : Int) := wk_eq.mp c59
              replace hM := hM.pos c59
              exact J59 v26_5 x49 H locs ls w19 (show 0 ≤ a1.toInt from r20) (show a1.toInt ≤ 9 from t21) (show 1 ≤ v9_2.toInt from r22) (show v9_2.toInt ≤ 1023 from t23) (show 1 ≤ v9_3.toInt from r24) (show v9_3.toInt ≤ 1023 from t25) (show 0 ≤ v9_4.toInt from r26) (show v9_4.toInt ≤ 9 from t27) (show 0 ≤ v26_5.toInt from r28) (show v26_5.toInt ≤ 1023 from t29) (show 0 ≤ v26_6.toInt from r30) (show v26_6.toInt ≤ 9 by first | with_reducible assumption | omega) (show 1 ≤ x49.toInt by first | with_reducible assumption | omega) (show x49.toInt ≤ 10 from tx49)  hw hT hF c50 hM (lv_sub hl [0, 1, 2, 3, 4, 5, 6] rfl)
            · have c59 : ¬ x58.toInt = (0 : Int) := wk_eqF c59
              replace hM := hM.neg c59
              refine lv_iload hx hb dX10_cornersFrom_47 (lv_at hl 5 rfl) ?_
              refine lv_aload_n hx hb dX10_cornersFrom_49 rfl (lv_at hl 0 rfl) ?_
              refine tk_getA hC hK hw hT hinX10 kC_at158 (by decide) rfl 3 (by decide) (List.mem_cons_of_mem _ uw_6_5) rfl rfl dX10_cornersFrom_50 ?_
              refine lv_iload hx hb dX10_cornersFrom_53 (lv_at hl 6 rfl) ?_
              refine tk_iald hC hK hw hT kC_at160 rfl rfl (show 0 ≤ v26_6.toInt from r30) (show v26_6.toInt < 10 by first | with_reducible assumption | omega) dX10_cornersFrom_55 (fun x60 c61 rx60 tx60 => ?_)
              have hox60 := c61
              replace hM := hM.rd (sI_at hox60)
              refine lv_ior hx hb dX10_cornersFrom_56 ?_
              refine lv_topi (fun x62 ex62 => ?_)
              have ezx62 := ex62
              have bx62 : 0 ≤ x62.toInt ∧ x62.toInt < 1024 := by rw [ex62]; exact wk_or 10 (by decide) (by omega) (by omega) (by omega) (by omega)
              have mx62 : v26_5.toInt ≤ x62.toInt ∧ x60.toInt ≤ x62.toInt := by rw [ex62]; exact wk_orL 10 (by decide) (by omega) (by omega) (by omega) (by omega)
              replace hM := hM.lt (o32_e (f := fun x y => x ||| y) ezx62 rfl rfl)
              refine lv_istore (lv' := [(5, .int x62), (0, .ref (ad 158)), (1, .int a1), (2, .int v9_2), (3, .int v9_3), (4, .int v9_4), (6, .int v26_6)]) hx hb dX10_cornersFrom_57 hl (by decide) rfl (fun ls hl => ?_)
              exact J59 x62 x49 H locs ls w19 (show 0 ≤ a1.toInt from r20) (show a1.toInt ≤ 9 from t21) (show 1 ≤ v9_2.toInt from r22) (show v9_2.toInt ≤ 1023 from t23) (show 1 ≤ v9_3.toInt from r24) (show v9_3.toInt ≤ 1023 from t25) (show 0 ≤ v9_4.toInt from r26) (show v9_4.toInt ≤ 9 from t27) (show 0 ≤ x62.toInt by first | with_reducible assumption | omega) (show x62.toInt ≤ 1023 by first | with_reducible assumption | omega) (show 0 ≤ v26_6.toInt from r30) (show v26_6.toInt ≤ 9 by first | with_reducible assumption | omega) (show 1 ≤ x49.toInt by first | with_reducible assumption | omega) (show x49.toInt ≤ 10 from tx49)  hw hT hF c50 hM (lv_sub hl [1, 2, 3, 4, 5, 0, 6] rfl)
      replace hM := hM.suc (fun _ => e_X10_cornersFrom_9)
      refine lv_iload hx hb dX10_cornersFrom_9 (lv_at hl 4 rfl) ?_
      refine lv_bipush (v := 10) hx hb dX10_cornersFrom_11 (by decide) ?_
      refine lv_icmp_ge (tgt := 87) hx hb dX10_cornersFrom_13 (by decide) (fun c63 => ?_) (fun c63 => ?_)
      · have c63 : (10 : Int) ≤ v9_4.toInt := wk_le.mp c63
        replace hM := hM.pos c63
        exact J87 v9_2 v9_3 v9_4 H locs ls w10 (show 0 ≤ a1.toInt from r11) (show a1.toInt ≤ 9 from t12) (show 1 ≤ v9_2.toInt from r13) (show v9_2.toInt ≤ 1023 from t14) (show 0 ≤ v9_3.toInt from r15) (show v9_3.toInt ≤ 1023 from t16) (show 0 ≤ v9_4.toInt from r17) (show v9_4.toInt ≤ 10 from t18)  hw hT hF hM (lv_sub hl [0, 1, 2, 3, 4] rfl)
      · have c63 : v9_4.toInt < (10 : Int) := wk_leF c63
        replace hM := hM.neg (Int.not_le.mpr c63)
        refine lv_iload_n hx hb dX10_cornersFrom_16 rfl (lv_at hl 3 rfl) ?_
        refine lv_if_eq (tgt := 87) hx hb dX10_cornersFrom_17 (by decide) (fun c64 => ?_) (fun c64 => ?_)
        · have c64 : v9_3.toInt = (0 : Int) := wk_eq.mp c64
          replace hM := hM.pos c64
          exact J87 v9_2 v9_3 v9_4 H locs ls w10 (show 0 ≤ a1.toInt from r11) (show a1.toInt ≤ 9 from t12) (show 1 ≤ v9_2.toInt from r13) (show v9_2.toInt ≤ 1023 from t14) (show 0 ≤ v9_3.toInt from r15) (show v9_3.toInt ≤ 1023 from t16) (show 0 ≤ v9_4.toInt from r17) (show v9_4.toInt ≤ 10 from t18)  hw hT hF hM (lv_sub hl [0, 1, 2, 3, 4] rfl)
        · have c64 : ¬ v9_3.toInt = (0 : Int) := wk_eqF c64
          replace hM := hM.neg c64
          refine lv_iconst (v := 0) hx hb dX10_cornersFrom_20 (by decide) ?_
          refine lv_istore (lv' := [(5, .int 0), (0, .ref (ad 158)), (1, .int a1), (2, .int v9_2), (3, .int v9_3), (4, .int v9_4)]) hx hb dX10_cornersFrom_21 hl (by decide) rfl (fun ls hl => ?_)
          refine lv_iconst (v := 0) hx hb dX10_cornersFrom_23 (by decide) ?_
          refine lv_istore (lv' := [(6, .int 0), (5, .int 0), (0, .ref (ad 158)), (1, .int a1), (2, .int v9_2), (3, .int v9_3), (4, .int v9_4)]) hx hb dX10_cornersFrom_24 hl (by decide) rfl (fun ls hl => ?_)
          exact L26 ((10 - (0 : Int)).toNat + 1) 0 0 H locs ls w10 (show 0 ≤ a1.toInt from r11) (show a1.toInt ≤ 9 from t12) (show 1 ≤ v9_2.toInt from r13) (show v9_2.toInt ≤ 1023 from t14) (show 1 ≤ v9_3.toInt by first | with_reducible assumption | omega) (show v9_3.toInt ≤ 1023 from t16) (show 0 ≤ v9_4.toInt from r17) (show v9_4.toInt ≤ 9 by first | with_reducible assumption | omega) (by decide) (by decide) (by decide) (by decide) (Nat.lt_succ_self _) hw hT hF hM (lv_sub hl [2, 3, 4, 5, 6, 1, 0] rfl)
  have hM : TT (fun n => m_X10_cornersFrom n 158 a1.toInt (sI w0)) (fun n => m_X10_cornersFrom n 158 a1.toInt (sI w0)) := TT.rf
  refine lv_iconst (v := 1) hx hb dX10_cornersFrom_0 (by decide) ?_
  refine lv_iload_n hx hb dX10_cornersFrom_1 rfl (lv_at hl 1 rfl) ?_
  refine lv_ishl hx hb dX10_cornersFrom_2 ?_
  refine lv_topi (fun x65 ex65 => ?_)
  have ezx65 := ex65
  have bx65 : 1 ≤ x65.toInt ∧ x65.toInt ≤ 512 := by rw [ex65]; exact wk_shl1 9 (by decide) (by omega) (by omega)
  replace hM := hM.lt (o32_e (f := fun x y => x <<< (y &&& 31)) ezx65 (by decide) rfl)
  refine lv_istore_n (lv' := [(2, .int x65), (0, .ref (ad 158)), (1, .int a1)]) hx hb dX10_cornersFrom_3 rfl hl (by decide) rfl (fun ls hl => ?_)
  refine lv_iload_n hx hb dX10_cornersFrom_4 rfl (lv_at hl 0 rfl) ?_
  refine lv_istore_n (lv' := [(3, .int x65), (2, .int x65), (0, .ref (ad 158)), (1, .int a1)]) hx hb dX10_cornersFrom_5 rfl hl (by decide) rfl (fun ls hl => ?_)
  refine lv_iconst (v := 0) hx hb dX10_cornersFrom_6 (by decide) ?_
  refine lv_istore (lv' := [(4, .int 0), (3, .int x65), (2, .int x65), (0, .ref (ad 158)), (1, .int a1)]) hx hb dX10_cornersFrom_7 hl (by decide) rfl (fun ls hl => ?_)
  exact L9 ((10 - (0 : Int)).toNat + 1) x65 x65 0 s.heap locs ls w0 (show 0 ≤ a1.toInt from ra1) (show a1.toInt ≤ 9 from ta1) (show 1 ≤ x65.toInt by first | with_reducible assumption | omega) (show x65.toInt ≤ 1023 by first | with_reducible assumption | omega) (show 0 ≤ x65.toInt by first | with_reducible assumption | omega) (show x65.toInt ≤ 1023 by first | with_reducible assumption | omega) (by decide) (by decide) (Nat.lt_succ_self _) hw hT hF hM (lv_sub hl [3, 4, 2, 1, 0] rfl)
abbrev Pz_X10_oddsOver_1 (ad : Nat → Nat) (cy : Nat → ClassId) (B : Int) (qr : Nat) (s1 : Int) (a1 : Int32) (w0 : va_W) : Int32 → va_W → Prop := fun r u => TW ksC ad cy B qr s1 u ∧ FE ksC [(51, 0, 10)] w0 u ∧ Ev (fun n => m_X10_oddsOver n 158 a1.toInt (sI w0)) (r.toInt, sI u) ∧ ((0 ≤ r.toInt ∧ r.toInt ≤ 127))
set_option maxHeartbeats 4000000 in
set_option maxRecDepth 100000 in
theorem kz_X10_oddsOver_1 (l : Launch) (adK adV : Nat → Nat) (dC : Nat → ClassId) (dI : Nat → Nat → Nat) (cy : Nat → ClassId) (ad : Nat → Nat) (B : Int) (hB0 : 2147483648 ≤ B) (hB1 : B ≤ 1152921504606846976) (qr : Nat) (s1 : Int)  (a1 : Int32) (ra1 : 0 ≤ a1.toInt) (ta1 : a1.toInt ≤ 11) (w0 : va_W) (sz : Nat) (hT : TW ksC ad cy B qr s1 w0)  : Met l yX10_oddsOver (wu yX10_oddsOver cX10_oddsOver 7 (some .int)) ({ frames := 2, cells := 0, slots := 0, locals := 39 }) (va_Pc [.ref (ad 158), .int a1] (wpreS adK adV dC dI cy sz w0)) (va_Qi (Pz_X10_oddsOver_1 ad cy B qr s1 a1 w0) (fun u : va_W => wpost dC dI cy (va_A w0 sz) u) (va_A w0 sz)) 0 0 (va_A w0 sz) := by
  refine Met.ofW (cc := cX10_oddsOver) (maxL := 7) (ret := (some .int)) (by decide) rfl ?_
  intro p e s m args below meth c s₁ Bk hml hv
  obtain ⟨rfl, ⟨hsz, hP, hK, hD0⟩, hE, hSR⟩ := hv
  have hx := Bk.exec
  have hb := Bk.bytes
  have hr := Bk.returns
  have hlocks := Bk.notSynchronized
  have hC : CallFix p m c cX10_oddsOver 7 s _ (wu yX10_oddsOver cX10_oddsOver 7 (some .int)) RX10 := ⟨hx, hb, hml, findClass_of_methodNamed Bk.named, atoms_spec (ws := (wu yX10_oddsOver cX10_oddsOver 7 (some .int))) Bk.pre⟩
  subst hsz
  have hD := hD0.self (sz := s.heap.size)
  generalize hAe : va_A w0 s.heap.size = A at hD hE ⊢
  have hA : ∀ q : Nat, s.heap.size ≤ q → A q := fun q h => by rw [← hAe]; exact Or.inr h
  have hw : Wd dC dI A s.heap s.heap [] w0 := ⟨hP, hD, va_S.rf⟩
  have hF : FE ksC [(51, 0, 10)] w0 w0 := FE.rf
  have hl := lv_entry ([.ref (ad 158), .int a1]) (n := 7) (Nat.le_of_ble_eq_true rfl)
  rw [lg_entry_eq]
  generalize (lg_sl ([.ref (ad 158), .int a1]) ++ List.replicate (7 - (lg_sl ([.ref (ad 158), .int a1])).length) Slot.unset).toArray = ls at hl ⊢
  have hl : lv_has ls 7 [(0, .ref (ad 158)), (1, .int a1)] := hl
  generalize hloc : ([] : List Loc) = locs at hw ⊢
  have hinX10 : ∀ w ∈ u_ws RX10 TX10 5, w ∈ (wu yX10_oddsOver cX10_oddsOver 7 (some .int)) := fun _ h => List.mem_cons_of_mem _ (up_81 h)
  have hinX5 : ∀ w ∈ u_ws RX5 TX5 14, w ∈ (wu yX10_oddsOver cX10_oddsOver 7 (some .int)) := fun _ h => List.mem_cons_of_mem _ (up_76 h)
  have hinX7 : ∀ w ∈ u_ws RX7 TX7 12, w ∈ (wu yX10_oddsOver cX10_oddsOver 7 (some .int)) := fun _ h => List.mem_cons_of_mem _ (up_73 h)
  have L36 : ∀ (n36 : Nat) (v36_2 : Int32) (v36_3 : Int32) (v36_4 : Int32) (H : Heap) (locs : List Loc) (ls : Array Slot) (w1 : va_W), 0 ≤ a1.toInt → a1.toInt ≤ 11 → 1 ≤ v36_2.toInt → v36_2.toInt ≤ 1023 → 0 ≤ v36_3.toInt → v36_3.toInt ≤ 127 → 0 ≤ v36_4.toInt → v36_4.toInt ≤ 6 → (6 - v36_4.toInt).toNat < n36 → Wd dC dI A s.heap H locs w1 → TW ksC ad cy B qr s1 w1 → FE ksC [(51, 0, 10)] w0 w1 → TT (fun n => m_X10_oddsOver n 158 a1.toInt (sI w0)) (fun n => j_X10_oddsOver 158 n 36 [v36_2.toInt, v36_3.toInt, v36_4.toInt] (sI w1)) → lv_has ls 7 [(0, .ref (ad 158)), (1, .int a1), (2, .int v36_2), (3, .int v36_3), (4, .int v36_4)] → W p l e ({ frames := 2, cells := 0, slots := 0, locals := 39 }) s m (List.toArray [.ref (ad 158), .int a1]) below meth c H locs 0 0 (MQ below (va_Qi (Pz_X10_oddsOver_1 ad cy B qr s1 a1 w0) (fun u : va_W => wpost dC dI cy A u) A) (List.toArray [.ref (ad 158), .int a1]) s 0 0 A) (F0 m 36 ls []) := by
    intro n36
    induction n36 with
    | zero => intro v36_2 v36_3 v36_4 H locs ls w1 r2 t3 r4 t5 r6 t7 r8 t9 hm36 hw hT hF hM hl; omega
    | succ n36 ih36 =>
      intro v36_2 v36_3 v36_4 H locs ls w1 r2 t3 r4 t5 r6 t7 r8 t9 hm36 hw hT hF hM hl
      have L54 : ∀ (n54 : Nat) (v54_3 : Int32) (v54_5 : Int32) (f54_38_10 : Int32) (H : Heap) (locs : List Loc) (ls : Array Slot) (w10 : va_W), 0 ≤ a1.toInt → a1.toInt ≤ 11 → 1 ≤ v36_2.toInt → v36_2.toInt ≤ 1023 → 0 ≤ v54_3.toInt → v54_3.toInt ≤ 127 → 0 ≤ v36_4.toInt → v36_4.toInt ≤ 5 → 1 ≤ v54_5.toInt → v54_5.toInt ≤ 6 → 1 ≤ f54_38_10.toInt → f54_38_10.toInt ≤ 6 → (6 - v54_5.toInt).toNat < n54 → Wd dC dI A s.heap H locs w10 → TW ksC ad cy B qr s1 w10 → FE ksC [(51, 0, 10)] w0 w10 → gi w10 38 10 = f54_38_10 → TT (fun n => m_X10_oddsOver n 158 a1.toInt (sI w0)) (fun n => j_X10_oddsOver 158 n 54 [v36_2.toInt, v54_3.toInt, v36_4.toInt, v54_5.toInt] (sI w10)) → lv_has ls 7 [(0, .ref (ad 158)), (1, .int a1), (2, .int v36_2), (3, .int v54_3), (4, .int v36_4), (5, .int v54_5)] → W p l e ({ frames := 2, cells := 0, slots := 0, locals := 39 }) s m (List.toArray [.ref (ad 158), .int a1]) below meth c H locs 0 0 (MQ below (va_Qi (Pz_X10_oddsOver_1 ad cy B qr s1 a1 w0) (fun u : va_W => wpost dC dI cy A u) A) (List.toArray [.ref (ad 158), .int a1]) s 0 0 A) (F0 m 54 ls []) := by
        intro n54
        induction n54 with
        | zero => intro v54_3 v54_5 f54_38_10 H locs ls w10 r11 t12 r13 t14 r15 t16 r17 t18 r19 t20 r21 t22 hm54 hw hT hF c23 hM hl; omega
        | succ n54 ih54 =>
          intro v54_3 v54_5 f54_38_10 H locs ls w10 r11 t12 r13 t14 r15 t16 r17 t18 r19 t20 r21 t22 hm54 hw hT hF c23 hM hl
          have J108 : ∀ (v108_3 : Int32) (v108_6 : Int32) (H : Heap) (locs : List Loc) (ls : Array Slot) (w24 : va_W), 0 ≤ a1.toInt → a1.toInt ≤ 11 → 1 ≤ v36_2.toInt → v36_2.toInt ≤ 1023 → 0 ≤ v108_3.toInt → v108_3.toInt ≤ 127 → 0 ≤ v36_4.toInt → v36_4.toInt ≤ 5 → 1 ≤ v54_5.toInt → v54_5.toInt ≤ 5 → 1 ≤ v108_6.toInt → v108_6.toInt ≤ 63 → 2 ≤ f54_38_10.toInt → f54_38_10.toInt ≤ 6 → Wd dC dI A s.heap H locs w24 → TW ksC ad cy B qr s1 w24 → FE ksC [(51, 0, 10)] w0 w24 → gi w24 38 10 = f54_38_10 → TT (fun n => m_X10_oddsOver n 158 a1.toInt (sI w0)) (fun n => b_X10_oddsOver_108 (j_X10_oddsOver 158 n) n 158 (v36_2.toInt) (v108_3.toInt) (v36_4.toInt) (v54_5.toInt) (sI w24)) → lv_has ls 7 [(0, .ref (ad 158)), (1, .int a1), (2, .int v36_2), (3, .int v108_3), (4, .int v36_4), (5, .int v54_5), (6, .int v108_6)] → W p l e ({ frames := 2, cells := 0, slots := 0, locals := 39 }) s m (List.toArray [.ref (ad 158), .int a1]) below meth c H locs 0 0 (MQ below (va_Qi (Pz_X10_oddsOver_1 ad cy B qr s1 a1 w0) (fun u : va_W => wpost dC dI cy A u) A) (List.toArray [.ref (ad 158), .int a1]) s 0 0 A) (F0 m 108 ls []) := by
            intro v108_3 v108_6 H locs ls w24 r25 t26 r27 t28 r29 t30 r31 t32 r33 t34 r35 t36 r37 t38 hw hT hF c39 hM hl
            obtain ⟨x40, ex40⟩ : ∃ y : Int32, y = v54_5 + Int32.ofInt 1 := ⟨_, rfl⟩
            have erx40 := ex40
            refine lv_iinc (v := x40) (lv' := [(5, .int x40), (0, .ref (ad 158)), (1, .int a1), (2, .int v36_2), (3, .int v108_3), (4, .int v36_4), (6, .int v108_6)]) hx hb dX10_oddsOver_108 hl (k := 5) rfl ex40.symm (by decide) rfl (fun ls hl => ?_)
            have ex40 : x40.toInt = v54_5.toInt + 1 := by rw [ex40]; exact wk_add (y := 1) (show -2147483648 ≤ v54_5.toInt + 1 by omega) (show v54_5.toInt + 1 ≤ 2147483647 by omega)
            replace hM := hM.lt ex40.symm
            refine lv_goto (tgt := 54) hx hb dX10_oddsOver_111 (by decide) ?_
            exact ih54 v108_3 x40 f54_38_10 H locs ls w24 (show 0 ≤ a1.toInt from r25) (show a1.toInt ≤ 11 from t26) (show 1 ≤ v36_2.toInt from r27) (show v36_2.toInt ≤ 1023 from t28) (show 0 ≤ v108_3.toInt from r29) (show v108_3.toInt ≤ 127 from t30) (show 0 ≤ v36_4.toInt from r31) (show v36_4.toInt ≤ 5 from t32) (show 1 ≤ x40.toInt by first | with_reducible assumption | omega) (show x40.toInt ≤ 6 by first | with_reducible assumption | omega) (show 1 ≤ f54_38_10.toInt from r21) (show f54_38_10.toInt ≤ 6 from t38) (show (6 - x40.toInt).toNat < n54 by first | exact tn_lt hm54 (by omega) (by omega) | omega) hw hT hF c39 hM (lv_sub hl [1, 2, 3, 4, 5, 0] rfl)
          have J105 : ∀ (v105_6 : Int32) (H : Heap) (locs : List Loc) (ls : Array Slot) (w41 : va_W), 0 ≤ a1.toInt → a1.toInt ≤ 11 → 1 ≤ v36_2.toInt → v36_2.toInt ≤ 1023 → 0 ≤ v54_3.toInt → v54_3.toInt ≤ 127 → 0 ≤ v36_4.toInt → v36_4.toInt ≤ 5 → 1 ≤ v54_5.toInt → v54_5.toInt ≤ 5 → 1 ≤ v105_6.toInt → v105_6.toInt ≤ 63 → 2 ≤ f54_38_10.toInt → f54_38_10.toInt ≤ 6 → Wd dC dI A s.heap H locs w41 → TW ksC ad cy B qr s1 w41 → FE ksC [(51, 0, 10)] w0 w41 → gi w41 38 10 = f54_38_10 → TT (fun n => m_X10_oddsOver n 158 a1.toInt (sI w0)) (fun n => b_X10_oddsOver_105 (j_X10_oddsOver 158 n) n 158 (v36_2.toInt) (v36_4.toInt) (v54_5.toInt) (v105_6.toInt) (sI w41)) → lv_has ls 7 [(0, .ref (ad 158)), (1, .int a1), (2, .int v36_2), (3, .int v54_3), (4, .int v36_4), (5, .int v54_5), (6, .int v105_6)] → W p l e ({ frames := 2, cells := 0, slots := 0, locals := 39 }) s m (List.toArray [.ref (ad 158), .int a1]) below meth c H locs 0 0 (MQ below (va_Qi (Pz_X10_oddsOver_1 ad cy B qr s1 a1 w0) (fun u : va_W => wpost dC dI cy A u) A) (List.toArray [.ref (ad 158), .int a1]) s 0 0 A) (F0 m 105 ls []) := by
            intro v105_6 H locs ls w41 r42 t43 r44 t45 r46 t47 r48 t49 r50 t51 r52 t53 r54 t55 hw hT hF c56 hM hl
            have hM : TT (fun n => m_X10_oddsOver n 158 a1.toInt (sI w0)) (fun n => b_X10_oddsOver_108 (j_X10_oddsOver 158 n) n 158 (v36_2.toInt) (v105_6.toInt) (v36_4.toInt) (v54_5.toInt) (sI w41)) := hM
            refine lv_iload hx hb dX10_oddsOver_105 (lv_at hl 6 rfl) ?_
            refine lv_istore_n (lv' := [(3, .int v105_6), (0, .ref (ad 158)), (1, .int a1), (2, .int v36_2), (4, .int v36_4), (5, .int v54_5), (6, .int v105_6)]) hx hb dX10_oddsOver_107 rfl hl (by decide) rfl (fun ls hl => ?_)
            exact J108 v105_6 v105_6 H locs ls w41 (show 0 ≤ a1.toInt from r42) (show a1.toInt ≤ 11 from t43) (show 1 ≤ v36_2.toInt from r44) (show v36_2.toInt ≤ 1023 from t45) (show 0 ≤ v105_6.toInt from Int.le_trans (by decide) r52) (show v105_6.toInt ≤ 127 from Int.le_trans t53 (by decide)) (show 0 ≤ v36_4.toInt from r48) (show v36_4.toInt ≤ 5 from t49) (show 1 ≤ v54_5.toInt from r50) (show v54_5.toInt ≤ 5 from t51) (show 1 ≤ v105_6.toInt from r52) (show v105_6.toInt ≤ 63 from t53) (show 2 ≤ f54_38_10.toInt from r54) (show f54_38_10.toInt ≤ 6 from t55)  hw hT hF c56 hM (lv_sub hl [1, 2, 3, 0, 4, 5, 6] rfl)
          replace hM := hM.suc (fun _ => e_X10_oddsOver_54)
          refine lv_iload hx hb dX10_oddsOver_54 (lv_at hl 5 rfl) ?_
          refine lv_aload_n hx hb dX10_oddsOver_56 rfl (lv_at hl 0 rfl) ?_
          refine tk_getA hC hK hw hT hinX10 kC_at158 (by decide) rfl 0 (by decide) (List.mem_cons_of_mem _ uw_6_6) rfl rfl dX10_oddsOver_57 ?_
          refine tk_geti hC hK hw hT hinX5 kC_at38 (by decide) rfl 10 (by decide) (List.mem_cons_of_mem _ uw_60_6) rfl rfl dX10_oddsOver_60 (fun x57 c58 rx57 tx57 => ?_)
          refine wk_top f54_38_10 (c58.symm.trans c23) ?_
          replace hM := hM.rd (sI_at c23)
          refine lv_icmp_ge (tgt := 114) hx hb dX10_oddsOver_63 (by decide) (fun c59 => ?_) (fun c59 => ?_)
          · have c59 : f54_38_10.toInt ≤ v54_5.toInt := wk_le.mp c59
            replace hM := hM.pos c59
            obtain ⟨x60, ex60⟩ : ∃ y : Int32, y = v36_4 + Int32.ofInt 1 := ⟨_, rfl⟩
            have erx60 := ex60
            refine lv_iinc (v := x60) (lv' := [(4, .int x60), (0, .ref (ad 158)), (1, .int a1), (2, .int v36_2), (3, .int v54_3), (5, .int v54_5)]) hx hb dX10_oddsOver_114 hl (k := 4) rfl ex60.symm (by decide) rfl (fun ls hl => ?_)
            have ex60 : x60.toInt = v36_4.toInt + 1 := by rw [ex60]; exact wk_add (y := 1) (show -2147483648 ≤ v36_4.toInt + 1 by omega) (show v36_4.toInt + 1 ≤ 2147483647 by omega)
            replace hM := hM.lt ex60.symm
            refine lv_goto (tgt := 36) hx hb dX10_oddsOver_117 (by decide) ?_
            exact ih36 v36_2 v54_3 x60 H locs ls w10 (show 0 ≤ a1.toInt from r11) (show a1.toInt ≤ 11 from t12) (show 1 ≤ v36_2.toInt from r13) (show v36_2.toInt ≤ 1023 from t14) (show 0 ≤ v54_3.toInt from r15) (show v54_3.toInt ≤ 127 from t16) (show 0 ≤ x60.toInt by first | with_reducible assumption | omega) (show x60.toInt ≤ 6 by first | with_reducible assumption | omega) (show (6 - x60.toInt).toNat < n36 by first | exact tn_lt hm36 (by omega) (by omega) | omega) hw hT hF hM (lv_sub hl [1, 2, 3, 4, 0] rfl)
          · have c59 : v54_5.toInt < f54_38_10.toInt := wk_leF c59
            replace hM := hM.neg (Int.not_le.mpr c59)
            refine lv_iconst (v := 1) hx hb dX10_oddsOver_66 (by decide) ?_
            refine lv_iload hx hb dX10_oddsOver_67 (lv_at hl 4 rfl) ?_
            refine lv_ishl hx hb dX10_oddsOver_69 ?_
            refine lv_topi (fun x61 ex61 => ?_)
            have ezx61 := ex61
            have bx61 : 1 ≤ x61.toInt ∧ x61.toInt ≤ 32 := by rw [ex61]; exact wk_shl1 5 (by decide) (by omega) (by omega)
            replace hM := hM.lt (o32_e (f := fun x y => x <<< (y &&& 31)) ezx61 (by decide) rfl)
            refine lv_iconst (v := 1) hx hb dX10_oddsOver_70 (by decide) ?_
            refine lv_iload hx hb dX10_oddsOver_71 (lv_at hl 5 rfl) ?_
            refine lv_ishl hx hb dX10_oddsOver_73 ?_
            refine lv_topi (fun x62 ex62 => ?_)
            have ezx62 := ex62
            have bx62 : 1 ≤ x62.toInt ∧ x62.toInt ≤ 32 := by rw [ex62]; exact wk_shl1 5 (by decide) (by omega) (by omega)
            replace hM := hM.lt (o32_e (f := fun x y => x <<< (y &&& 31)) ezx62 (by decide) rfl)
            refine lv_ior hx hb dX10_oddsOver_74 ?_
            refine lv_topi (fun x63 ex63 => ?_)
            have ezx63 := ex63
            have bx63 : 0 ≤ x63.toInt ∧ x63.toInt < 64 := by rw [ex63]; exact wk_or 6 (by decide) (by omega) (by omega) (by omega) (by omega)
            have mx63 : x61.toInt ≤ x63.toInt ∧ x62.toInt ≤ x63.toInt := by rw [ex63]; exact wk_orL 6 (by decide) (by omega) (by omega) (by omega) (by omega)
            replace hM := hM.lt (o32_e (f := fun x y => x ||| y) ezx63 rfl rfl)
            refine lv_istore (lv' := [(6, .int x63), (0, .ref (ad 158)), (1, .int a1), (2, .int v36_2), (3, .int v54_3), (4, .int v36_4), (5, .int v54_5)]) hx hb dX10_oddsOver_75 hl (by decide) rfl (fun ls hl => ?_)
            refine lv_aload_n hx hb dX10_oddsOver_77 rfl (lv_at hl 1 rfl) ?_
            refine lv_iload hx hb dX10_oddsOver_78 (lv_at hl 5 rfl) ?_
            refine lv_iload_n hx hb dX10_oddsOver_80 rfl (lv_at hl 3 rfl) ?_
            refine tk_Vi hC hK hw hT hA hE hSR kC_at158 (by decide) rfl (kz_X10_crossing_1 l adK adV dC dI cy ad B hB0 (Int.le_trans hB1 (by decide)) qr s1   v36_4 (show 0 ≤ v36_4.toInt from r17) (show v36_4.toInt ≤ 5 from t18) v36_2 (show 1 ≤ v36_2.toInt from r13) (show v36_2.toInt ≤ 1023 from t14) w10 H.size hT ) (cwV 2 hC.2.2.2.2 uV_RX10_63 rfl rfl rfl (by decide +kernel) ⟨Nat.le_of_ble_eq_true rfl, Nat.le_of_ble_eq_true rfl⟩) rfl hl.1 rfl (Nat.le_of_ble_eq_true rfl) dX10_oddsOver_81 (fun r64 w66 H locs hp65 hw => ?_)
            obtain ⟨hT, k67, hv71, hg70⟩ := hp65
            have hF := hF.tr k67 (by decide)
            have c72 := k67.gi kC_at38 (by decide) c23
            obtain ⟨g68, g69⟩ := hg70
            replace hM := hM.call hv71 rfl
            refine lv_aload_n hx hb dX10_oddsOver_84 rfl (lv_at hl 1 rfl) ?_
            refine lv_iload hx hb dX10_oddsOver_85 (lv_at hl 6 rfl) ?_
            refine lv_iload_n hx hb dX10_oddsOver_87 rfl (lv_at hl 3 rfl) ?_
            refine tk_Vi hC hK hw hT hA hE hSR kC_at158 (by decide) rfl (kz_X10_crossing_2 l adK adV dC dI cy ad B hB0 (Int.le_trans hB1 (by decide)) qr s1   v54_5 (show 1 ≤ v54_5.toInt from r19) (show v54_5.toInt ≤ 5 by first | with_reducible assumption | omega) v36_2 (show 1 ≤ v36_2.toInt from r13) (show v36_2.toInt ≤ 1023 from t14) w66 H.size hT ) (cwV 2 hC.2.2.2.2 uV_RX10_63 rfl rfl rfl (by decide +kernel) ⟨Nat.le_of_ble_eq_true rfl, Nat.le_of_ble_eq_true rfl⟩) rfl hl.1 rfl (Nat.le_of_ble_eq_true rfl) dX10_oddsOver_88 (fun r73 w75 H locs hp74 hw => ?_)
            obtain ⟨hT, k76, hv80, hg79⟩ := hp74
            have hF := hF.tr k76 (by decide)
            have c81 := k76.gi kC_at38 (by decide) c72
            obtain ⟨g77, g78⟩ := hg79
            replace hM := hM.call hv80 rfl
            refine lv_imul hx hb dX10_oddsOver_91 ?_
            refine lv_topi (fun x82 ex82 => ?_)
            have ezx82 := ex82
            replace hM := hM.lt (o32_e (f := fun x y => x * y) ezx82 rfl rfl)
            refine lv_if_ge (tgt := 108) hx hb dX10_oddsOver_92 (by decide) (fun c83 => ?_) (fun c83 => ?_)
            · have c83 : (0 : Int) ≤ x82.toInt := wk_le.mp c83
              replace hM := hM.pos c83
              exact J108 v54_3 x63 H locs ls w75 (show 0 ≤ a1.toInt from r11) (show a1.toInt ≤ 11 from t12) (show 1 ≤ v36_2.toInt from r13) (show v36_2.toInt ≤ 1023 from t14) (show 0 ≤ v54_3.toInt from r15) (show v54_3.toInt ≤ 127 from t16) (show 0 ≤ v36_4.toInt from r17) (show v36_4.toInt ≤ 5 from t18) (show 1 ≤ v54_5.toInt from r19) (show v54_5.toInt ≤ 5 by first | with_reducible assumption | omega) (show 1 ≤ x63.toInt by first | with_reducible assumption | omega) (show x63.toInt ≤ 63 by first | with_reducible assumption | omega) (show 2 ≤ f54_38_10.toInt by first | with_reducible assumption | omega) (show f54_38_10.toInt ≤ 6 from t22)  hw hT hF c81 hM (lv_sub hl [1, 2, 3, 4, 5, 6, 0] rfl)
            · have c83 : x82.toInt < (0 : Int) := wk_leF c83
              replace hM := hM.neg (Int.not_le.mpr c83)
              refine lv_iload_n hx hb dX10_oddsOver_95 rfl (lv_at hl 4 rfl) ?_
              refine lv_if_eq (tgt := 105) hx hb dX10_oddsOver_96 (by decide) (fun c84 => ?_) (fun c84 => ?_)
              · have c84 : v54_3.toInt = (0 : Int) := wk_eq.mp c84
                replace hM := hM.pos c84
                exact J105 x63 H locs ls w75 (show 0 ≤ a1.toInt from r11) (show a1.toInt ≤ 11 from t12) (show 1 ≤ v36_2.toInt from r13) (show v36_2.toInt ≤ 1023 from t14) (show 0 ≤ v54_3.toInt from r15) (show v54_3.toInt ≤ 127 from t16) (show 0 ≤ v36_4.toInt from r17) (show v36_4.toInt ≤ 5 from t18) (show 1 ≤ v54_5.toInt from r19) (show v54_5.toInt ≤ 5 by first | with_reducible assumption | omega) (show 1 ≤ x63.toInt by first | with_reducible assumption | omega) (show x63.toInt ≤ 63 by first | with_reducible assumption | omega) (show 2 ≤ f54_38_10.toInt by first | with_reducible assumption | omega) (show f54_38_10.toInt ≤ 6 from t22)  hw hT hF c81 hM (lv_sub hl [1, 2, 3, 4, 5, 6, 0] rfl)
              · have c84 : ¬ v54_3.toInt = (0 : Int) := wk_eqF c84
                replace hM := hM.neg c84
                refine lv_iload hx hb dX10_oddsOver_99 (lv_at hl 0 rfl) ?_
                refine lv_iload_n hx hb dX10_oddsOver_101 rfl (lv_at hl 4 rfl) ?_
                refine lv_icmp_ge (tgt := 108) hx hb dX10_oddsOver_102 (by decide) (fun c85 => ?_) (fun c85 => ?_)
                · have c85 : v54_3.toInt ≤ x63.toInt := wk_le.mp c85
                  replace hM := hM.pos c85
                  exact J108 v54_3 x63 H locs ls w75 (show 0 ≤ a1.toInt from r11) (show a1.toInt ≤ 11 from t12) (show 1 ≤ v36_2.toInt from r13) (show v36_2.toInt ≤ 1023 from t14) (show 0 ≤ v54_3.toInt from r15) (show v54_3.toInt ≤ 127 from t16) (show 0 ≤ v36_4.toInt from r17) (show v36_4.toInt ≤ 5 from t18) (show 1 ≤ v54_5.toInt from r19) (show v54_5.toInt ≤ 5 by first | with_reducible assumption | omega) (show 1 ≤ x63.toInt by first | with_reducible assumption | omega) (show x63.toInt ≤ 63 by first | with_reducible assumption | omega) (show 2 ≤ f54_38_10.toInt by first | with_reducible assumption | omega) (show f54_38_10.toInt ≤ 6 from t22)  hw hT hF c81 hM (lv_sub hl [1, 2, 3, 4, 5, 6, 0] rfl)
                · have c85 : x63.toInt < v54_3.toInt := wk_leF c85
                  replace hM := hM.neg (Int.not_le.mpr c85)
                  exact J105 x63 H locs ls w75 (show 0 ≤ a1.toInt from r11) (show a1.toInt ≤ 11 from t12) (show 1 ≤ v36_2.toInt from r13) (show v36_2.toInt ≤ 1023 from t14) (show 0 ≤ v54_3.toInt from r15) (show v54_3.toInt ≤ 127 from t16) (show 0 ≤ v36_4.toInt from r17) (show v36_4.toInt ≤ 5 from t18) (show 1 ≤ v54_5.toInt from r19) (show v54_5.toInt ≤ 5 by first | with_reducible assumption | omega) (show 1 ≤ x63.toInt by first | with_reducible assumption | omega) (show x63.toInt ≤ 63 by first | with_reducible assumption | omega) (show 2 ≤ f54_38_10.toInt by first | with_reducible assumption | omega) (show f54_38_10.toInt ≤ 6 from t22)  hw hT hF c81 hM (lv_sub hl [1, 2, 3, 4, 5, 6, 0] rfl)
      replace hM := hM.suc (fun _ => e_X10_oddsOver_36)
      refine lv_iload hx hb dX10_oddsOver_36 (lv_at hl 4 rfl) ?_
      refine lv_aload_n hx hb dX10_oddsOver_38 rfl (lv_at hl 0 rfl) ?_
      refine tk_getA hC hK hw hT hinX10 kC_at158 (by decide) rfl 0 (by decide) (List.mem_cons_of_mem _ uw_6_6) rfl rfl dX10_oddsOver_39 ?_
      refine tk_geti hC hK hw hT hinX5 kC_at38 (by decide) rfl 10 (by decide) (List.mem_cons_of_mem _ uw_60_6) rfl rfl dX10_oddsOver_42 (fun x86 c87 rx86 tx86 => ?_)
      replace hM := hM.rd (sI_at c87)
      refine lv_icmp_ge (tgt := 120) hx hb dX10_oddsOver_45 (by decide) (fun c88 => ?_) (fun c88 => ?_)
      · have c88 : x86.toInt ≤ v36_4.toInt := wk_le.mp c88
        replace hM := hM.pos c88
        refine lv_iload_n hx hb dX10_oddsOver_120 rfl (lv_at hl 3 rfl) ?_
        exact tk_iret hC hr hlocks hK ⟨hT, hF, hM.ret rfl, ⟨(show 0 ≤ v36_3.toInt from r6), (show v36_3.toInt ≤ 127 from t7)⟩⟩ hw dX10_oddsOver_121
      · have c88 : v36_4.toInt < x86.toInt := wk_leF c88
        replace hM := hM.neg (Int.not_le.mpr c88)
        refine lv_iload hx hb dX10_oddsOver_48 (lv_at hl 4 rfl) ?_
        refine lv_iconst (v := 1) hx hb dX10_oddsOver_50 (by decide) ?_
        refine lv_iadd hx hb dX10_oddsOver_51 ?_
        refine lv_topi (fun x89 ex89 => ?_)
        have ezx89 := ex89
        have ex89 : x89.toInt = v36_4.toInt + (1 : Int) := by rw [ex89]; exact wk_add (show (-2147483648) ≤ v36_4.toInt + (1 : Int) by omega) (show v36_4.toInt + (1 : Int) ≤ 2147483647 by omega)
        replace hM := hM.lt ex89.symm
        refine lv_istore (lv' := [(5, .int x89), (0, .ref (ad 158)), (1, .int a1), (2, .int v36_2), (3, .int v36_3), (4, .int v36_4)]) hx hb dX10_oddsOver_52 hl (by decide) rfl (fun ls hl => ?_)
        exact L54 ((6 - x89.toInt).toNat + 1) v36_3 x89 x86 H locs ls w1 (show 0 ≤ a1.toInt from r2) (show a1.toInt ≤ 11 from t3) (show 1 ≤ v36_2.toInt from r4) (show v36_2.toInt ≤ 1023 from t5) (show 0 ≤ v36_3.toInt from r6) (show v36_3.toInt ≤ 127 from t7) (show 0 ≤ v36_4.toInt from r8) (show v36_4.toInt ≤ 5 by first | with_reducible assumption | omega) (show 1 ≤ x89.toInt by first | with_reducible assumption | omega) (show x89.toInt ≤ 6 by first | with_reducible assumption | omega) (show 1 ≤ x86.toInt by first | with_reducible assumption | omega) (show x86.toInt ≤ 6 from tx86) (Nat.lt_succ_self _) hw hT hF c87 hM (lv_sub hl [1, 2, 3, 4, 5, 0] rfl)
  have hM : TT (fun n => m_X10_oddsOver n 158 a1.toInt (sI w0)) (fun n => m_X10_oddsOver n 158 a1.toInt (sI w0)) := TT.rf
  refine lv_aload_n hx hb dX10_oddsOver_0 rfl (lv_at hl 0 rfl) ?_
  refine lv_aload_n hx hb dX10_oddsOver_1 rfl (lv_at hl 0 rfl) ?_
  refine tk_geti hC hK hw hT hinX10 kC_at158 (by decide) rfl 4 (by decide) (List.mem_cons_of_mem _ uw_59_23) rfl rfl dX10_oddsOver_2 (fun x90 c91 rx90 tx90 => ?_)
  replace hM := hM.rd (sI_at c91)
  refine lv_iconst (v := 0) hx hb dX10_oddsOver_5 (by decide) ?_
  refine lv_iload_n hx hb dX10_oddsOver_6 rfl (lv_at hl 1 rfl) ?_
  refine tk_Vv hC hK hw hT hA hE hSR kC_at158 (by decide) rfl (kz_X10_layRoads_1 l adK adV dC dI cy ad B hB0 (Int.le_trans hB1 (by decide)) qr s1   x90 (show 0 ≤ x90.toInt from rx90) (show x90.toInt ≤ 12 from tx90) 0 (by decide) (by decide) a1 (show (-1) ≤ a1.toInt from Int.le_trans (by decide) ra1) (show a1.toInt ≤ 11 from ta1) w0 s.heap.size hT ) (cwV 3 hC.2.2.2.2 uV_RX10_42 rfl rfl rfl (by decide +kernel) ⟨Nat.le_of_ble_eq_true rfl, Nat.le_of_ble_eq_true rfl⟩) rfl hl.1 rfl (Nat.le_of_ble_eq_true rfl) dX10_oddsOver_7 (fun w94 H locs hp93 hw => ?_)
  obtain ⟨hT, k95, hv97, hg96⟩ := hp93
  try simp only [show (0 : Int32).toInt = 0 by decide] at hv97
  have hF := hF.tr k95 (by decide)
  have c98 := k95.gi kC_at158 (by decide) c91
  clear hg96
  replace hM := hM.call hv97 rfl
  refine lv_aload_n hx hb dX10_oddsOver_10 rfl (lv_at hl 0 rfl) ?_
  refine lv_aload_n hx hb dX10_oddsOver_11 rfl (lv_at hl 0 rfl) ?_
  refine tk_getA hC hK hw hT hinX10 kC_at158 (by decide) rfl 1 (by decide) (List.mem_cons_of_mem _ uw_6_8) rfl rfl dX10_oddsOver_12 ?_
  refine tk_getO hC hK hw hT hinX7 kC_at39 (by decide) rfl 0 (by decide) (List.mem_cons_of_mem _ uw_60_11) rfl rfl dX10_oddsOver_15 ?_
  refine lv_iconst (v := 2) hx hb dX10_oddsOver_18 (by decide) ?_
  refine lv_aload_n hx hb dX10_oddsOver_19 rfl (lv_at hl 0 rfl) ?_
  refine tk_getA hC hK hw hT hinX10 kC_at158 (by decide) rfl 2 (by decide) (List.mem_cons_of_mem _ uw_6_4) rfl rfl dX10_oddsOver_20 ?_
  refine lv_iload_n hx hb dX10_oddsOver_23 rfl (lv_at hl 1 rfl) ?_
  refine tk_iald hC hK hw hT kC_at159 rfl rfl (show 0 ≤ a1.toInt from ra1) (show a1.toInt < 12 from Int.lt_of_le_of_lt ta1 (by decide)) dX10_oddsOver_24 (fun x99 c100 rx99 tx99 => ?_)
  have hox99 := c100
  replace hM := hM.rd (sI_at hox99)
  refine lv_imul hx hb dX10_oddsOver_25 ?_
  refine lv_topi (fun x101 ex101 => ?_)
  have ezx101 := ex101
  have ex101 : x101.toInt = (2 : Int) * x99.toInt := by rw [ex101]; exact wk_mul (show (-2147483648) ≤ (2 : Int) * x99.toInt by omega) (show (2 : Int) * x99.toInt ≤ 2147483647 by omega)
  replace hM := hM.lt ex101.symm
  refine tk_iald hC hK hw hT kC_at40 rfl rfl (show 0 ≤ x101.toInt by first | with_reducible assumption | omega) (show x101.toInt < 26 by first | with_reducible assumption | omega) dX10_oddsOver_26 (fun x102 c103 rx102 tx102 => ?_)
  have hox102 := c103
  replace hM := hM.rd (sI_at hox102)
  have c103 : gi w94 40 (2 * x99.toInt + 0).toNat = x102 := (congrArg (gi w94 40) (congrArg Int.toNat (show 2 * x99.toInt + 0 = x101.toInt by first | exact Int.le_antisymm (by omega) (by omega) | omega))).trans c103
  refine tk_Vi hC hK hw hT hA hE hSR kC_at158 (by decide) rfl (kz_X10_cornersFrom_1 l adK adV dC dI cy ad B hB0 (Int.le_trans hB1 (by decide)) qr s1   x102 (show 0 ≤ x102.toInt from rx102) (show x102.toInt ≤ 9 from tx102) w94 H.size hT ) (cwV 1 hC.2.2.2.2 uV_RX10_60 rfl rfl rfl (by decide +kernel) ⟨Nat.le_of_ble_eq_true rfl, Nat.le_of_ble_eq_true rfl⟩) rfl hl.1 rfl (Nat.le_of_ble_eq_true rfl) dX10_oddsOver_27 (fun r104 w106 H locs hp105 hw => ?_)
  obtain ⟨hT, k107, hv111, hg110⟩ := hp105
  have hF := hF.tr k107 (by decide)
  have c112 := k107.gi kC_at158 (by decide) c98
  have c113 := k107.gi kC_at40 rfl c103
  obtain ⟨g108, g109⟩ := hg110
  replace hM := hM.call hv111 rfl
  refine lv_istore_n (lv' := [(2, .int r104), (0, .ref (ad 158)), (1, .int a1)]) hx hb dX10_oddsOver_30 rfl hl (by decide) rfl (fun ls hl => ?_)
  refine lv_iconst (v := 0) hx hb dX10_oddsOver_31 (by decide) ?_
  refine lv_istore_n (lv' := [(3, .int 0), (2, .int r104), (0, .ref (ad 158)), (1, .int a1)]) hx hb dX10_oddsOver_32 rfl hl (by decide) rfl (fun ls hl => ?_)
  refine lv_iconst (v := 0) hx hb dX10_oddsOver_33 (by decide) ?_
  refine lv_istore (lv' := [(4, .int 0), (3, .int 0), (2, .int r104), (0, .ref (ad 158)), (1, .int a1)]) hx hb dX10_oddsOver_34 hl (by decide) rfl (fun ls hl => ?_)
  exact L36 ((6 - (0 : Int)).toNat + 1) r104 0 0 H locs ls w106 (show 0 ≤ a1.toInt from ra1) (show a1.toInt ≤ 11 from ta1) (show 1 ≤ r104.toInt by first | with_reducible assumption | omega) (show r104.toInt ≤ 1023 by first | with_reducible assumption | omega) (by decide) (by decide) (by decide) (by decide) (Nat.lt_succ_self _) hw hT hF hM (lv_sub hl [3, 4, 2, 1, 0] rfl)
