abbrev Py_X1_takeSteps_1 (ad : Nat → Nat) (cy : Nat → ClassId) (B : Int) (qr : Nat) (s1 : Int) (a2 : Int32) (w0 : va_W) : Int32 → va_W → Prop := fun r u => TW ksC ad cy (B + 1800) qr s1 u ∧ FE ksC [(1, 4, 4), (1, 5, 5), (1, 6, 6), (1, 7, 7), (1, 8, 8), (9, 0, 0), (9, 4, 4), (9, 5, 5), (9, 6, 6), (9, 7, 7), (9, 8, 8), (45, 0, 64)] w0 u ∧ Ev (fun n => m_X1_takeSteps n 149 152 a2.toInt (sL w0)) (r.toInt, sL u) ∧ ((0 ≤ r.toInt ∧ r.toInt ≤ 200))
set_option maxHeartbeats 4000000 in
set_option maxRecDepth 100000 in
theorem ky_X1_takeSteps_1 (l : Launch) (adK adV : Nat → Nat) (dC : Nat → ClassId) (dI : Nat → Nat → Nat) (cy : Nat → ClassId) (ad : Nat → Nat) (B : Int) (hB0 : 2147483648 ≤ B) (hB1 : B ≤ 1152921504606845185) (qr : Nat) (s1 : Int)  (a2 : Int32) (ra2 : 1 ≤ a2.toInt) (ta2 : a2.toInt ≤ 200) (w0 : va_W) (sz : Nat) (hT : TW ksC ad cy B qr s1 w0)  : Met l yX1_takeSteps (wu yX1_takeSteps cX1_takeSteps 4 (some .int)) ({ frames := 6, cells := 0, slots := 0, locals := 135 }) (va_Pc [.ref (ad 149), .ref (ad 152), .int a2] (wpreS adK adV dC dI cy sz w0)) (va_Qi (Py_X1_takeSteps_1 ad cy B qr s1 a2 w0) (fun u : va_W => wpost dC dI cy (va_A w0 sz) u) (va_A w0 sz)) 0 0 (va_A w0 sz) := by
  refine Met.ofW (cc := cX1_takeSteps) (maxL := 4) (ret := (some .int)) (by decide) rfl ?_
  intro p e s m args below meth c s₁ Bk hml hv
  obtain ⟨rfl, ⟨hsz, hP, hK, hD0⟩, hE, hSR⟩ := hv
  have hx := Bk.exec
  have hb := Bk.bytes
  have hr := Bk.returns
  have hlocks := Bk.notSynchronized
  have hC : CallFix p m c cX1_takeSteps 4 s _ (wu yX1_takeSteps cX1_takeSteps 4 (some .int)) RX1 := ⟨hx, hb, hml, findClass_of_methodNamed Bk.named, atoms_spec (ws := (wu yX1_takeSteps cX1_takeSteps 4 (some .int))) Bk.pre⟩
  subst hsz
  have hD := hD0.self (sz := s.heap.size)
  generalize hAe : va_A w0 s.heap.size = A at hD hE ⊢
  have hA : ∀ q : Nat, s.heap.size ≤ q → A q := fun q h => by rw [← hAe]; exact Or.inr h
  have hw : Wd dC dI A s.heap s.heap [] w0 := ⟨hP, hD, va_S.rf⟩
  have hF : FE ksC [(1, 4, 4), (1, 5, 5), (1, 6, 6), (1, 7, 7), (1, 8, 8), (9, 0, 0), (9, 4, 4), (9, 5, 5), (9, 6, 6), (9, 7, 7), (9, 8, 8), (45, 0, 64)] w0 w0 := FE.rf
  have hl := lv_entry ([.ref (ad 149), .ref (ad 152), .int a2]) (n := 4) (Nat.le_of_ble_eq_true rfl)
  rw [lg_entry_eq]
  generalize (lg_sl ([.ref (ad 149), .ref (ad 152), .int a2]) ++ List.replicate (4 - (lg_sl ([.ref (ad 149), .ref (ad 152), .int a2])).length) Slot.unset).toArray = ls at hl ⊢
  have hl : lv_has ls 4 [(0, .ref (ad 149)), (1, .ref (ad 152)), (2, .int a2)] := hl
  generalize hloc : ([] : List Loc) = locs at hw ⊢
  have L2 : ∀ (n2 : Nat) (v2_3 : Int32) (H : Heap) (locs : List Loc) (ls : Array Slot) (w1 : va_W), 1 ≤ a2.toInt → a2.toInt ≤ 200 → 0 ≤ v2_3.toInt → v2_3.toInt ≤ 200 → (200 - v2_3.toInt).toNat < n2 → Wd dC dI A s.heap H locs w1 → TW ksC ad cy (B + 0 + 9 * v2_3.toInt) qr s1 w1 → FE ksC [(1, 4, 4), (1, 5, 5), (1, 6, 6), (1, 7, 7), (1, 8, 8), (9, 0, 0), (9, 4, 4), (9, 5, 5), (9, 6, 6), (9, 7, 7), (9, 8, 8), (45, 0, 64)] w0 w1 → TT (fun n => m_X1_takeSteps n 149 152 a2.toInt (sL w0)) (fun n => j_X1_takeSteps 149 152 n 2 [a2.toInt, v2_3.toInt] (sL w1)) → lv_has ls 4 [(0, .ref (ad 149)), (1, .ref (ad 152)), (2, .int a2), (3, .int v2_3)] → W p l e ({ frames := 6, cells := 0, slots := 0, locals := 135 }) s m (List.toArray [.ref (ad 149), .ref (ad 152), .int a2]) below meth c H locs 0 0 (MQ below (va_Qi (Py_X1_takeSteps_1 ad cy B qr s1 a2 w0) (fun u : va_W => wpost dC dI cy A u) A) (List.toArray [.ref (ad 149), .ref (ad 152), .int a2]) s 0 0 A) (F0 m 2 ls []) := by
    intro n2
    induction n2 with
    | zero => intro v2_3 H locs ls w1 r2 t3 r4 t5 hm2 hw hT hF hM hl; omega
    | succ n2 ih2 =>
      intro v2_3 H locs ls w1 r2 t3 r4 t5 hm2 hw hT hF hM hl
      replace hM := hM.suc (fun _ => e_X1_takeSteps_2)
      refine lv_iload_n hx hb dX1_takeSteps_2 rfl (lv_at hl 3 rfl) ?_
      refine lv_iload_n hx hb dX1_takeSteps_3 rfl (lv_at hl 2 rfl) ?_
      refine lv_icmp_ge (tgt := 24) hx hb dX1_takeSteps_4 (by decide) (fun c6 => ?_) (fun c6 => ?_)
      · have c6 : a2.toInt ≤ v2_3.toInt := wk_le.mp c6
        replace hM := hM.pos c6
        refine lv_iload_n hx hb dX1_takeSteps_24 rfl (lv_at hl 2 rfl) ?_
        exact tk_iret hC hr hlocks hK ⟨(hT.up (show (B + 0 + 9 * v2_3.toInt) ≤ (B + 1800) by omega)), hF, hM.ret rfl, ⟨(show 0 ≤ a2.toInt from Int.le_trans (by decide) r2), (show a2.toInt ≤ 200 from t3)⟩⟩ hw dX1_takeSteps_25
      · have c6 : v2_3.toInt < a2.toInt := wk_leF c6
        replace hM := hM.neg (Int.not_le.mpr c6)
        refine lv_aload_n hx hb dX1_takeSteps_7 rfl (lv_at hl 0 rfl) ?_
        refine lv_aload_n hx hb dX1_takeSteps_8 rfl (lv_at hl 1 rfl) ?_
        refine tk_Vi hC hK hw hT hA hE hSR kC_at149 (by decide) rfl (ky_X1_takeStep_1 l adK adV dC dI cy ad (B + 0 + 9 * v2_3.toInt) (by omega) (by omega) qr s1    w1 H.size hT ) (cwV 1 hC.2.2.2.2 uV_RX1_27 rfl rfl rfl (by decide +kernel) ⟨Nat.le_of_ble_eq_true rfl, Nat.le_of_ble_eq_true rfl⟩) rfl hl.1 rfl (Nat.le_of_ble_eq_true rfl) dX1_takeSteps_9 (fun r7 w9 H locs hp8 hw => ?_)
        obtain ⟨hT, k10, hv14, hg13⟩ := hp8
        have hT := hT.up (B' := (B + 9 + 9 * v2_3.toInt)) (by omega)
        have hF := hF.tr k10 (by decide)
        rcases hg13 with ⟨x11, c12, rx11, tx11⟩ | rfl
        · replace hM := hM.call hv14 rfl
          refine lv_iconst (v := 4) hx hb dX1_takeSteps_12 (by decide) ?_
          refine lv_icmp_ne (tgt := 18) hx hb dX1_takeSteps_13 (by decide) (fun c15 => ?_) (fun c15 => ?_)
          · have c15 : ¬ r7.toInt = (4 : Int) := wk_eqF c15
            replace hM := hM.pos c15
            obtain ⟨x16, ex16⟩ : ∃ y : Int32, y = v2_3 + Int32.ofInt 1 := ⟨_, rfl⟩
            have erx16 := ex16
            refine lv_iinc (v := x16) (lv' := [(3, .int x16), (0, .ref (ad 149)), (1, .ref (ad 152)), (2, .int a2)]) hx hb dX1_takeSteps_18 hl (k := 3) rfl ex16.symm (by decide) rfl (fun ls hl => ?_)
            have ex16 : x16.toInt = v2_3.toInt + 1 := by rw [ex16]; exact wk_add (y := 1) (show -2147483648 ≤ v2_3.toInt + 1 by omega) (show v2_3.toInt + 1 ≤ 2147483647 by omega)
            replace hM := hM.lt ex16.symm
            refine lv_goto (tgt := 2) hx hb dX1_takeSteps_21 (by decide) ?_
            exact ih2 x16 H locs ls w9 (show 1 ≤ a2.toInt from r2) (show a2.toInt ≤ 200 from t3) (show 0 ≤ x16.toInt by first | with_reducible assumption | omega) (show x16.toInt ≤ 200 by first | with_reducible assumption | omega) (show (200 - x16.toInt).toNat < n2 by first | exact tn_lt hm2 (by omega) (by omega) | omega) hw (hT.up (show (B + 9 + 9 * v2_3.toInt) ≤ (B + 0 + 9 * x16.toInt) by omega)) hF hM (lv_sub hl [1, 2, 3, 0] rfl)
          · have c15 : r7.toInt = (4 : Int) := wk_eq.mp c15
            replace hM := hM.neg (fun q => q c15)
            refine lv_iload_n hx hb dX1_takeSteps_16 rfl (lv_at hl 3 rfl) ?_
            exact tk_iret hC hr hlocks hK ⟨(hT.up (show (B + 9 + 9 * v2_3.toInt) ≤ (B + 1800) by omega)), hF, hM.ret rfl, ⟨(show 0 ≤ v2_3.toInt from r4), (show v2_3.toInt ≤ 200 from t5)⟩⟩ hw dX1_takeSteps_17
        · replace hM := hM.call (r' := 4) hv14 (by decide)
          refine lv_iconst (v := 4) hx hb dX1_takeSteps_12 (by decide) ?_
          refine lv_icmp_ne (tgt := 18) hx hb dX1_takeSteps_13 (by decide) (fun c => absurd (by decide) c) (fun _ => ?_)
          replace hM := hM.neg (by decide)
          refine lv_iload_n hx hb dX1_takeSteps_16 rfl (lv_at hl 3 rfl) ?_
          exact tk_iret hC hr hlocks hK ⟨(hT.up (show (B + 9 + 9 * v2_3.toInt) ≤ (B + 1800) by omega)), hF, hM.ret rfl, ⟨(show 0 ≤ v2_3.toInt from r4), (show v2_3.toInt ≤ 200 from t5)⟩⟩ hw dX1_takeSteps_17
  have hM : TT (fun n => m_X1_takeSteps n 149 152 a2.toInt (sL w0)) (fun n => m_X1_takeSteps n 149 152 a2.toInt (sL w0)) := TT.rf
  refine lv_iconst (v := 0) hx hb dX1_takeSteps_0 (by decide) ?_
  refine lv_istore_n (lv' := [(3, .int 0), (0, .ref (ad 149)), (1, .ref (ad 152)), (2, .int a2)]) hx hb dX1_takeSteps_1 rfl hl (by decide) rfl (fun ls hl => ?_)
  exact L2 ((200 - (0 : Int)).toNat + 1) 0 s.heap locs ls w0 (show 1 ≤ a2.toInt from ra2) (show a2.toInt ≤ 200 from ta2) (by decide) (by decide) (Nat.lt_succ_self _) hw (hT.up (show B ≤ (B + 0 + 9 * (0 : Int32).toInt) by rw [show (0 : Int32).toInt = 0 by decide]; omega)) hF hM (lv_sub hl [1, 2, 3, 0] rfl)
abbrev Py_X8_tellStrangers_1 (ad : Nat → Nat) (cy : Nat → ClassId) (B : Int) (qr : Nat) (s1 : Int) (a1 : Int32) (a2 : Int32) (a3 : Int32) (a4 : Int32) (w0 : va_W) : Int32 → va_W → Prop := fun r u => TW ksC ad cy (B + 54000) qr s1 u ∧ FE ksC [(1, 4, 4), (1, 5, 5), (1, 6, 6), (1, 7, 7), (1, 8, 8), (8, 7, 7), (9, 0, 0), (9, 1, 1), (9, 2, 2), (9, 3, 3), (9, 4, 4), (9, 5, 5), (9, 6, 6), (9, 7, 7), (9, 8, 8), (45, 0, 64)] w0 u ∧ Ev (fun n => m_X8_tellStrangers n 151 a1.toInt a2.toInt a3.toInt a4.toInt (sL w0)) (r.toInt, sL u) ∧ ((True))
set_option maxHeartbeats 4000000 in
set_option maxRecDepth 100000 in
theorem ky_X8_tellStrangers_1 (l : Launch) (adK adV : Nat → Nat) (dC : Nat → ClassId) (dI : Nat → Nat → Nat) (cy : Nat → ClassId) (ad : Nat → Nat) (B : Int) (hB0 : 2147483648 ≤ B) (hB1 : B ≤ 1152921504606792976) (qr : Nat) (s1 : Int)  (a1 : Int32) (ra1 : (-1) ≤ a1.toInt) (ta1 : a1.toInt ≤ 5) (a2 : Int32) (ra2 : 1 ≤ a2.toInt) (ta2 : a2.toInt ≤ 30) (a3 : Int32) (ra3 : 1 ≤ a3.toInt) (ta3 : a3.toInt ≤ 200) (a4 : Int32) (ra4 : 0 ≤ a4.toInt) (ta4 : a4.toInt ≤ 1) (w0 : va_W) (sz : Nat) (hT : TW ksC ad cy B qr s1 w0)  : Met l yX8_tellStrangers (wu yX8_tellStrangers cX8_tellStrangers 13 (some .int)) ({ frames := 7, cells := 0, slots := 0, locals := 158 }) (va_Pc [.ref (ad 151), .int a1, .int a2, .int a3, .int a4] (wpreS adK adV dC dI cy sz w0)) (va_Qi (Py_X8_tellStrangers_1 ad cy B qr s1 a1 a2 a3 a4 w0) (fun u : va_W => wpost dC dI cy (va_A w0 sz) u) (va_A w0 sz)) 0 0 (va_A w0 sz) := by
  refine Met.ofW (cc := cX8_tellStrangers) (maxL := 13) (ret := (some .int)) (by decide) rfl ?_
  intro p e s m args below meth c s₁ Bk hml hv
  obtain ⟨rfl, ⟨hsz, hP, hK, hD0⟩, hE, hSR⟩ := hv
  have hx := Bk.exec
  have hb := Bk.bytes
  have hr := Bk.returns
  have hlocks := Bk.notSynchronized
  have hC : CallFix p m c cX8_tellStrangers 13 s _ (wu yX8_tellStrangers cX8_tellStrangers 13 (some .int)) RX8 := ⟨hx, hb, hml, findClass_of_methodNamed Bk.named, atoms_spec (ws := (wu yX8_tellStrangers cX8_tellStrangers 13 (some .int))) Bk.pre⟩
  subst hsz
  have hD := hD0.self (sz := s.heap.size)
  generalize hAe : va_A w0 s.heap.size = A at hD hE ⊢
  have hA : ∀ q : Nat, s.heap.size ≤ q → A q := fun q h => by rw [← hAe]; exact Or.inr h
  have hw : Wd dC dI A s.heap s.heap [] w0 := ⟨hP, hD, va_S.rf⟩
  have hF : FE ksC [(1, 4, 4), (1, 5, 5), (1, 6, 6), (1, 7, 7), (1, 8, 8), (8, 7, 7), (9, 0, 0), (9, 1, 1), (9, 2, 2), (9, 3, 3), (9, 4, 4), (9, 5, 5), (9, 6, 6), (9, 7, 7), (9, 8, 8), (45, 0, 64)] w0 w0 := FE.rf
  have hl := lv_entry ([.ref (ad 151), .int a1, .int a2, .int a3, .int a4]) (n := 13) (Nat.le_of_ble_eq_true rfl)
  rw [lg_entry_eq]
  generalize (lg_sl ([.ref (ad 151), .int a1, .int a2, .int a3, .int a4]) ++ List.replicate (13 - (lg_sl ([.ref (ad 151), .int a1, .int a2, .int a3, .int a4])).length) Slot.unset).toArray = ls at hl ⊢
  have hl : lv_has ls 13 [(0, .ref (ad 151)), (1, .int a1), (2, .int a2), (3, .int a3), (4, .int a4)] := hl
  generalize hloc : ([] : List Loc) = locs at hw ⊢
  have hinX8 : ∀ w ∈ u_ws RX8 TX8 8, w ∈ (wu yX8_tellStrangers cX8_tellStrangers 13 (some .int)) := fun _ h => List.mem_cons_of_mem _ (up_79 h)
  have hinX5 : ∀ w ∈ u_ws RX5 TX5 14, w ∈ (wu yX8_tellStrangers cX8_tellStrangers 13 (some .int)) := fun _ h => List.mem_cons_of_mem _ (up_76 h)
  have hinX7 : ∀ w ∈ u_ws RX7 TX7 12, w ∈ (wu yX8_tellStrangers cX8_tellStrangers 13 (some .int)) := fun _ h => List.mem_cons_of_mem _ (up_73 h)
  have hinX9 : ∀ w ∈ u_ws RX9 TX9 9, w ∈ (wu yX8_tellStrangers cX8_tellStrangers 13 (some .int)) := fun _ h => List.mem_cons_of_mem _ (up_82 h)
  have L20 : ∀ (n20 : Nat) (v20_5 : Int32) (v20_6 : Int64) (v20_8 : Int32) (f20_38_13 : Int32) (H : Heap) (locs : List Loc) (ls : Array Slot) (w1 : va_W), (-1) ≤ a1.toInt → a1.toInt ≤ 5 → 1 ≤ a2.toInt → a2.toInt ≤ 30 → 1 ≤ a3.toInt → a3.toInt ≤ 200 → 0 ≤ a4.toInt → a4.toInt ≤ 1 → 0 ≤ v20_8.toInt → v20_8.toInt ≤ 30 → 0 ≤ f20_38_13.toInt → (30 - v20_8.toInt).toNat < n20 → Wd dC dI A s.heap H locs w1 → TW ksC ad cy (B + 0 + 1800 * v20_8.toInt) qr s1 w1 → FE ksC [(1, 4, 4), (1, 5, 5), (1, 6, 6), (1, 7, 7), (1, 8, 8), (8, 7, 7), (9, 0, 0), (9, 1, 1), (9, 2, 2), (9, 3, 3), (9, 4, 4), (9, 5, 5), (9, 6, 6), (9, 7, 7), (9, 8, 8), (45, 0, 64)] w0 w1 → gi w1 38 13 = f20_38_13 → TT (fun n => m_X8_tellStrangers n 151 a1.toInt a2.toInt a3.toInt a4.toInt (sL w0)) (fun n => j_X8_tellStrangers 151 n 20 [a1.toInt, a2.toInt, a3.toInt, a4.toInt, v20_5.toInt, v20_6.toInt, v20_8.toInt] (sL w1)) → lv_has ls 13 [(0, .ref (ad 151)), (1, .int a1), (2, .int a2), (3, .int a3), (4, .int a4), (5, .int v20_5), (6, .long v20_6), (8, .int v20_8)] → W p l e ({ frames := 7, cells := 0, slots := 0, locals := 158 }) s m (List.toArray [.ref (ad 151), .int a1, .int a2, .int a3, .int a4]) below meth c H locs 0 0 (MQ below (va_Qi (Py_X8_tellStrangers_1 ad cy B qr s1 a1 a2 a3 a4 w0) (fun u : va_W => wpost dC dI cy A u) A) (List.toArray [.ref (ad 151), .int a1, .int a2, .int a3, .int a4]) s 0 0 A) (F0 m 20 ls []) := by
    intro n20
    induction n20 with
    | zero => intro v20_5 v20_6 v20_8 f20_38_13 H locs ls w1 r2 t3 r4 t5 r6 t7 r8 t9 r10 t11 r12 hm20 hw hT hF c13 hM hl; omega
    | succ n20 ih20 =>
      intro v20_5 v20_6 v20_8 f20_38_13 H locs ls w1 r2 t3 r4 t5 r6 t7 r8 t9 r10 t11 r12 hm20 hw hT hF c13 hM hl
      have J139 : ∀ (v139_5 : Int32) (v139_6 : Int64) (v139_9 : Int32) (v139_10 : Int32) (v139_11 : Int32) (v139_12 : Int32) (f139_152_3 : Int32) (f139_38_8 : Int32) (f139_39_8 : Int32) (H : Heap) (locs : List Loc) (ls : Array Slot) (w14 : va_W), (-1) ≤ a1.toInt → a1.toInt ≤ 5 → 1 ≤ a2.toInt → a2.toInt ≤ 30 → 1 ≤ a3.toInt → a3.toInt ≤ 200 → 0 ≤ a4.toInt → a4.toInt ≤ 1 → 0 ≤ v20_8.toInt → v20_8.toInt ≤ 29 → 0 ≤ v139_9.toInt → v139_9.toInt ≤ 9 → 0 ≤ v139_10.toInt → v139_10.toInt ≤ 9 → 0 ≤ v139_11.toInt → v139_11.toInt ≤ 3 → 0 ≤ v139_12.toInt → v139_12.toInt ≤ 167 → (-1) ≤ f139_152_3.toInt → f139_152_3.toInt ≤ 5 → 0 ≤ f20_38_13.toInt → 0 ≤ f139_38_8.toInt → f139_38_8.toInt ≤ 4 → (-1) ≤ f139_39_8.toInt → f139_39_8.toInt ≤ 10 → Wd dC dI A s.heap H locs w14 → TW ksC ad cy (B + 1800 + 1800 * v20_8.toInt) qr s1 w14 → FE ksC [(1, 4, 4), (1, 5, 5), (1, 6, 6), (1, 7, 7), (1, 8, 8), (8, 7, 7), (9, 0, 0), (9, 1, 1), (9, 2, 2), (9, 3, 3), (9, 4, 4), (9, 5, 5), (9, 6, 6), (9, 7, 7), (9, 8, 8), (45, 0, 64)] w0 w14 → gi w14 152 3 = f139_152_3 → gi w14 38 13 = f20_38_13 → gi w14 38 8 = f139_38_8 → gi w14 39 8 = f139_39_8 → TT (fun n => m_X8_tellStrangers n 151 a1.toInt a2.toInt a3.toInt a4.toInt (sL w0)) (fun n => b_X8_tellStrangers_139 (j_X8_tellStrangers 151 n) n 151 (a1.toInt) (a2.toInt) (a3.toInt) (a4.toInt) (v139_5.toInt) (v139_6.toInt) (v20_8.toInt) (sL w14)) → lv_has ls 13 [(0, .ref (ad 151)), (1, .int a1), (2, .int a2), (3, .int a3), (4, .int a4), (5, .int v139_5), (6, .long v139_6), (8, .int v20_8), (9, .int v139_9), (10, .int v139_10), (11, .int v139_11), (12, .int v139_12)] → W p l e ({ frames := 7, cells := 0, slots := 0, locals := 158 }) s m (List.toArray [.ref (ad 151), .int a1, .int a2, .int a3, .int a4]) below meth c H locs 0 0 (MQ below (va_Qi (Py_X8_tellStrangers_1 ad cy B qr s1 a1 a2 a3 a4 w0) (fun u : va_W => wpost dC dI cy A u) A) (List.toArray [.ref (ad 151), .int a1, .int a2, .int a3, .int a4]) s 0 0 A) (F0 m 139 ls []) := by
        intro v139_5 v139_6 v139_9 v139_10 v139_11 v139_12 f139_152_3 f139_38_8 f139_39_8 H locs ls w14 r15 t16 r17 t18 r19 t20 r21 t22 r23 t24 r25 t26 r27 t28 r29 t30 r31 t32 r33 t34 r36 r38 t39 r41 t42 hw hT hF c35 c37 c40 c43 hM hl
        obtain ⟨x44, ex44⟩ : ∃ y : Int32, y = v20_8 + Int32.ofInt 1 := ⟨_, rfl⟩
        have erx44 := ex44
        refine lv_iinc (v := x44) (lv' := [(8, .int x44), (0, .ref (ad 151)), (1, .int a1), (2, .int a2), (3, .int a3), (4, .int a4), (5, .int v139_5), (6, .long v139_6), (9, .int v139_9), (10, .int v139_10), (11, .int v139_11), (12, .int v139_12)]) hx hb dX8_tellStrangers_139 hl (k := 7) rfl ex44.symm (by decide) rfl (fun ls hl => ?_)
        have ex44 : x44.toInt = v20_8.toInt + 1 := by rw [ex44]; exact wk_add (y := 1) (show -2147483648 ≤ v20_8.toInt + 1 by omega) (show v20_8.toInt + 1 ≤ 2147483647 by omega)
        replace hM := hM.lt ex44.symm
        refine lv_goto (tgt := 20) hx hb dX8_tellStrangers_142 (by decide) ?_
        exact ih20 v139_5 v139_6 x44 f20_38_13 H locs ls w14 (show (-1) ≤ a1.toInt from r15) (show a1.toInt ≤ 5 from t16) (show 1 ≤ a2.toInt from r17) (show a2.toInt ≤ 30 from t18) (show 1 ≤ a3.toInt from r19) (show a3.toInt ≤ 200 from t20) (show 0 ≤ a4.toInt from r21) (show a4.toInt ≤ 1 from t22) (show 0 ≤ x44.toInt by first | with_reducible assumption | omega) (show x44.toInt ≤ 30 by first | with_reducible assumption | omega) (show 0 ≤ f20_38_13.toInt from r36) (show (30 - x44.toInt).toNat < n20 by first | exact tn_lt hm20 (by omega) (by omega) | omega) hw (hT.up (show (B + 1800 + 1800 * v20_8.toInt) ≤ (B + 0 + 1800 * x44.toInt) by omega)) hF c37 hM (lv_sub hl [1, 2, 3, 4, 5, 6, 7, 0] rfl)
      replace hM := hM.suc (fun _ => e_X8_tellStrangers_20)
      refine lv_iload hx hb dX8_tellStrangers_20 (lv_at hl 7 rfl) ?_
      refine lv_iload_n hx hb dX8_tellStrangers_22 rfl (lv_at hl 2 rfl) ?_
      refine lv_icmp_ge (tgt := 145) hx hb dX8_tellStrangers_23 (by decide) (fun c45 => ?_) (fun c45 => ?_)
      · have c45 : a2.toInt ≤ v20_8.toInt := wk_le.mp c45
        replace hM := hM.pos c45
        refine lv_iload hx hb dX8_tellStrangers_145 (lv_at hl 4 rfl) ?_
        refine lv_if_ne (tgt := 155) hx hb dX8_tellStrangers_147 (by decide) (fun c46 => ?_) (fun c46 => ?_)
        · have c46 : ¬ a4.toInt = (0 : Int) := wk_eqF c46
          replace hM := hM.pos c46
          refine lv_lload hx hb dX8_tellStrangers_155 (lv_at hl 6 rfl) ?_
          refine lv_l2i hx hb dX8_tellStrangers_157 rfl ?_
          refine lv_topi (fun x47 ex47 => ?_)
          replace hM := hM.lt (mL2I_e ex47 rfl)
          exact tk_iret hC hr hlocks hK ⟨(hT.up (show (B + 0 + 1800 * v20_8.toInt) ≤ (B + 54000) by omega)), hF, hM.ret rfl, trivial⟩ hw dX8_tellStrangers_158
        · have c46 : a4.toInt = (0 : Int) := wk_eq.mp c46
          replace hM := hM.neg (fun q => q c46)
          refine lv_iload hx hb dX8_tellStrangers_150 (lv_at hl 5 rfl) ?_
          refine lv_goto (tgt := 158) hx hb dX8_tellStrangers_152 (by decide) ?_
          exact tk_iret hC hr hlocks hK ⟨(hT.up (show (B + 0 + 1800 * v20_8.toInt) ≤ (B + 54000) by omega)), hF, hM.ret rfl, trivial⟩ hw dX8_tellStrangers_158
      · have c45 : v20_8.toInt < a2.toInt := wk_leF c45
        replace hM := hM.neg (Int.not_le.mpr c45)
        refine lv_aload_n hx hb dX8_tellStrangers_26 rfl (lv_at hl 0 rfl) ?_
        refine lv_aload_n hx hb dX8_tellStrangers_27 rfl (lv_at hl 0 rfl) ?_
        refine tk_getA hC hK hw hT hinX8 kC_at151 (by decide) rfl 0 (by decide) (List.mem_cons_of_mem _ uw_5_11) rfl rfl dX8_tellStrangers_28 ?_
        refine tk_getO hC hK hw hT hinX5 kC_at38 (by decide) rfl 0 (by decide) (List.mem_cons_of_mem _ uw_56_0) rfl rfl dX8_tellStrangers_31 ?_
        refine tk_geti hC hK hw hT hinX7 kC_at39 (by decide) rfl 8 (by decide) (List.mem_cons_of_mem _ uw_56_1) rfl rfl dX8_tellStrangers_34 (fun x48 c49 rx48 tx48 => ?_)
        replace hM := hM.rd (sL_at (kC_lt kC_at39) c49)
        refine tk_Vi hC hK hw hT hA hE hSR kC_at151 (by decide) rfl (ky_X8_drawBelow_1 l adK adV dC dI cy ad (B + 0 + 1800 * v20_8.toInt) (by omega) (by omega) qr s1   x48 (show (-1) ≤ x48.toInt from rx48) (show x48.toInt ≤ 10 from tx48) w1 H.size hT ) (cwV 1 hC.2.2.2.2 uV_RX8_170 rfl rfl rfl (by decide +kernel) ⟨Nat.le_of_ble_eq_true rfl, Nat.le_of_ble_eq_true rfl⟩) rfl hl.1 rfl (Nat.le_of_ble_eq_true rfl) dX8_tellStrangers_37 (fun r50 w52 H locs hp51 hw => ?_)
        obtain ⟨hT, k53, hv57, hg56⟩ := hp51
        have hF := hF.tr k53 (by decide)
        have c58 := k53.gi kC_at38 (by decide) c13
        have c59 := k53.gi kC_at39 (by decide) c49
        obtain ⟨g54, g55⟩ := hg56
        replace hM := hM.call hv57 rfl
        refine lv_istore (lv' := [(9, .int r50), (0, .ref (ad 151)), (1, .int a1), (2, .int a2), (3, .int a3), (4, .int a4), (5, .int v20_5), (6, .long v20_6), (8, .int v20_8)]) hx hb dX8_tellStrangers_40 hl (by decide) rfl (fun ls hl => ?_)
        refine lv_aload_n hx hb dX8_tellStrangers_42 rfl (lv_at hl 1 rfl) ?_
        refine lv_aload_n hx hb dX8_tellStrangers_43 rfl (lv_at hl 1 rfl) ?_
        refine tk_getA hC hK hw hT hinX8 kC_at151 (by decide) rfl 0 (by decide) (List.mem_cons_of_mem _ uw_5_11) rfl rfl dX8_tellStrangers_44 ?_
        refine tk_getO hC hK hw hT hinX5 kC_at38 (by decide) rfl 0 (by decide) (List.mem_cons_of_mem _ uw_56_0) rfl rfl dX8_tellStrangers_47 ?_
        refine tk_geti hC hK hw hT hinX7 kC_at39 (by decide) rfl 8 (by decide) (List.mem_cons_of_mem _ uw_56_1) rfl rfl dX8_tellStrangers_50 (fun x60 c61 rx60 tx60 => ?_)
        refine wk_top x48 (c61.symm.trans c59) ?_
        replace hM := hM.rd (sL_at (kC_lt kC_at39) c59)
        refine tk_Vi hC hK hw hT hA hE hSR kC_at151 (by decide) rfl (ky_X8_drawBelow_1 l adK adV dC dI cy ad (B + 0 + 1800 * v20_8.toInt) (by omega) (by omega) qr s1   x48 (show (-1) ≤ x48.toInt from rx48) (show x48.toInt ≤ 10 from tx48) w52 H.size hT ) (cwV 1 hC.2.2.2.2 uV_RX8_170 rfl rfl rfl (by decide +kernel) ⟨Nat.le_of_ble_eq_true rfl, Nat.le_of_ble_eq_true rfl⟩) rfl hl.1 rfl (Nat.le_of_ble_eq_true rfl) dX8_tellStrangers_53 (fun r62 w64 H locs hp63 hw => ?_)
        obtain ⟨hT, k65, hv69, hg68⟩ := hp63
        have hF := hF.tr k65 (by decide)
        have c70 := k65.gi kC_at38 (by decide) c58
        have c71 := k65.gi kC_at39 (by decide) c59
        obtain ⟨g66, g67⟩ := hg68
        replace hM := hM.call hv69 rfl
        refine lv_istore (lv' := [(10, .int r62), (9, .int r50), (0, .ref (ad 151)), (1, .int a1), (2, .int a2), (3, .int a3), (4, .int a4), (5, .int v20_5), (6, .long v20_6), (8, .int v20_8)]) hx hb dX8_tellStrangers_56 hl (by decide) rfl (fun ls hl => ?_)
        refine lv_aload_n hx hb dX8_tellStrangers_58 rfl (lv_at hl 2 rfl) ?_
        refine lv_aload_n hx hb dX8_tellStrangers_59 rfl (lv_at hl 2 rfl) ?_
        refine tk_getA hC hK hw hT hinX8 kC_at151 (by decide) rfl 0 (by decide) (List.mem_cons_of_mem _ uw_5_11) rfl rfl dX8_tellStrangers_60 ?_
        refine tk_geti hC hK hw hT hinX5 kC_at38 (by decide) rfl 8 (by decide) (List.mem_cons_of_mem _ uw_65_2) rfl rfl dX8_tellStrangers_63 (fun x72 c73 rx72 tx72 => ?_)
        replace hM := hM.rd (sL_at (kC_lt kC_at38) c73)
        refine tk_Vi hC hK hw hT hA hE hSR kC_at151 (by decide) rfl (ky_X8_drawBelow_2 l adK adV dC dI cy ad (B + 0 + 1800 * v20_8.toInt) (by omega) (by omega) qr s1   x72 (show 0 ≤ x72.toInt from rx72) (show x72.toInt ≤ 4 from tx72) w64 H.size hT ) (cwV 1 hC.2.2.2.2 uV_RX8_170 rfl rfl rfl (by decide +kernel) ⟨Nat.le_of_ble_eq_true rfl, Nat.le_of_ble_eq_true rfl⟩) rfl hl.1 rfl (Nat.le_of_ble_eq_true rfl) dX8_tellStrangers_66 (fun r74 w76 H locs hp75 hw => ?_)
        obtain ⟨hT, k77, hv81, hg80⟩ := hp75
        have hF := hF.tr k77 (by decide)
        have c82 := k77.gi kC_at38 (by decide) c70
        have c83 := k77.gi kC_at39 (by decide) c71
        have c84 := k77.gi kC_at38 (by decide) c73
        obtain ⟨g78, g79⟩ := hg80
        replace hM := hM.call hv81 rfl
        refine lv_istore (lv' := [(11, .int r74), (10, .int r62), (9, .int r50), (0, .ref (ad 151)), (1, .int a1), (2, .int a2), (3, .int a3), (4, .int a4), (5, .int v20_5), (6, .long v20_6), (8, .int v20_8)]) hx hb dX8_tellStrangers_69 hl (by decide) rfl (fun ls hl => ?_)
        refine lv_aload_n hx hb dX8_tellStrangers_71 rfl (lv_at hl 3 rfl) ?_
        refine lv_sipush (v := 168) hx hb dX8_tellStrangers_72 (by decide) ?_
        refine tk_Vi hC hK hw hT hA hE hSR kC_at151 (by decide) rfl (ky_X8_drawBelow_3 l adK adV dC dI cy ad (B + 0 + 1800 * v20_8.toInt) (by omega) (by omega) qr s1    w76 H.size hT ) (cwV 1 hC.2.2.2.2 uV_RX8_170 rfl rfl rfl (by decide +kernel) ⟨Nat.le_of_ble_eq_true rfl, Nat.le_of_ble_eq_true rfl⟩) rfl hl.1 rfl (Nat.le_of_ble_eq_true rfl) dX8_tellStrangers_75 (fun r85 w87 H locs hp86 hw => ?_)
        obtain ⟨hT, k88, hv92, hg91⟩ := hp86
        have hF := hF.tr k88 (by decide)
        have c93 := k88.gi kC_at38 (by decide) c82
        have c94 := k88.gi kC_at39 (by decide) c83
        have c95 := k88.gi kC_at38 (by decide) c84
        obtain ⟨g89, g90⟩ := hg91
        replace hM := hM.call hv92 rfl
        refine lv_istore (lv' := [(12, .int r85), (11, .int r74), (10, .int r62), (9, .int r50), (0, .ref (ad 151)), (1, .int a1), (2, .int a2), (3, .int a3), (4, .int a4), (5, .int v20_5), (6, .long v20_6), (8, .int v20_8)]) hx hb dX8_tellStrangers_78 hl (by decide) rfl (fun ls hl => ?_)
        refine lv_aload_n hx hb dX8_tellStrangers_80 rfl (lv_at hl 4 rfl) ?_
        refine tk_getA hC hK hw hT hinX8 kC_at151 (by decide) rfl 3 (by decide) (List.mem_cons_of_mem _ uw_5_8) rfl rfl dX8_tellStrangers_81 ?_
        refine lv_iload hx hb dX8_tellStrangers_84 (lv_at hl 3 rfl) ?_
        refine lv_iload hx hb dX8_tellStrangers_86 (lv_at hl 2 rfl) ?_
        refine lv_iload hx hb dX8_tellStrangers_88 (lv_at hl 1 rfl) ?_
        refine lv_iload_n hx hb dX8_tellStrangers_90 rfl (lv_at hl 5 rfl) ?_
        refine lv_iload hx hb dX8_tellStrangers_91 (lv_at hl 0 rfl) ?_
        refine lv_i2l hx hb dX8_tellStrangers_93 rfl ?_
        refine lv_topl (fun x96 ex96 => ?_)
        have ex96 : x96.toInt = r85.toInt := by rw [ex96]; exact wk_i2l _
        have bx96 := wk_i32 r85
        replace hM := hM.lt ex96.symm
        refine tk_Vv hC hK hw hT hA hE hSR kC_at152 (by decide) rfl (ky_X9_setOut_1 l adK adV dC dI cy ad (B + 0 + 1800 * v20_8.toInt) (by omega) (by omega) qr s1   r50 (show 0 ≤ r50.toInt by first | with_reducible assumption | omega) (show r50.toInt ≤ 9 by first | with_reducible assumption | omega) r62 (show 0 ≤ r62.toInt by first | with_reducible assumption | omega) (show r62.toInt ≤ 9 by first | with_reducible assumption | omega) r74 (show 0 ≤ r74.toInt by first | with_reducible assumption | omega) (show r74.toInt ≤ 3 by first | with_reducible assumption | omega) a1 (show (-1) ≤ a1.toInt from r2) (show a1.toInt ≤ 5 from t3) x96 (show 0 ≤ x96.toInt by first | with_reducible assumption | omega) (show x96.toInt ≤ 167 by first | with_reducible assumption | omega) w87 H.size hT ) (cwV 5 hC.2.2.2.2 uV_RX8_173 rfl rfl rfl (by decide +kernel) ⟨Nat.le_of_ble_eq_true rfl, Nat.le_of_ble_eq_true rfl⟩) rfl hl.1 rfl (Nat.le_of_ble_eq_true rfl) dX8_tellStrangers_94 (fun w99 H locs hp98 hw => ?_)
        obtain ⟨hT, k100, hv110, hg109⟩ := hp98
        have hF := hF.tr k100 (by decide)
        have c111 := k100.gi kC_at38 (by decide) c93
        have c112 := k100.gi kC_at39 (by decide) c94
        have c113 := k100.gi kC_at38 (by decide) c95
        obtain ⟨⟨x101, c102, rx101, tx101⟩, ⟨x103, c104, rx103, tx103⟩, ⟨x105, c106, rx105, tx105⟩, ⟨x107, c108, rx107, tx107⟩⟩ := hg109
        replace hM := hM.call hv110 rfl
        refine lv_aload_n hx hb dX8_tellStrangers_97 rfl (lv_at hl 4 rfl) ?_
        refine tk_getA hC hK hw hT hinX8 kC_at151 (by decide) rfl 2 (by decide) (List.mem_cons_of_mem _ uw_5_13) rfl rfl dX8_tellStrangers_98 ?_
        refine lv_aload_n hx hb dX8_tellStrangers_101 rfl (lv_at hl 4 rfl) ?_
        refine tk_getA hC hK hw hT hinX8 kC_at151 (by decide) rfl 3 (by decide) (List.mem_cons_of_mem _ uw_5_8) rfl rfl dX8_tellStrangers_102 ?_
        refine lv_iload_n hx hb dX8_tellStrangers_105 rfl (lv_at hl 7 rfl) ?_
        refine tk_Vi hC hK hw hT hA hE hSR kC_at149 (by decide) rfl (ky_X1_takeSteps_1 l adK adV dC dI cy ad (B + 0 + 1800 * v20_8.toInt) (by omega) (by omega) qr s1   a3 (show 1 ≤ a3.toInt from r6) (show a3.toInt ≤ 200 from t7) w99 H.size hT ) (cwV 2 hC.2.2.2.2 uV_RX8_41 rfl rfl rfl (by decide +kernel) ⟨Nat.le_of_ble_eq_true rfl, Nat.le_of_ble_eq_true rfl⟩) rfl hl.1 rfl (Nat.le_of_ble_eq_true rfl) dX8_tellStrangers_106 (fun r114 w116 H locs hp115 hw => ?_)
        obtain ⟨hT, k117, hv121, hg120⟩ := hp115
        have hT := hT.up (B' := (B + 1800 + 1800 * v20_8.toInt)) (by omega)
        have hF := hF.tr k117 (by decide)
        have c122 := k117.gi kC_at38 (by decide) c111
        have c123 := k117.gi kC_at39 (by decide) c112
        have c124 := k117.gi kC_at38 (by decide) c113
        have c125 := k117.gi kC_at152 (by decide) c102
        obtain ⟨g118, g119⟩ := hg120
        replace hM := hM.call hv121 rfl
        refine lv_pop hx hb dX8_tellStrangers_109 rfl ?_
        refine lv_aload_n hx hb dX8_tellStrangers_110 rfl (lv_at hl 4 rfl) ?_
        refine tk_getA hC hK hw hT hinX8 kC_at151 (by decide) rfl 3 (by decide) (List.mem_cons_of_mem _ uw_5_8) rfl rfl dX8_tellStrangers_111 ?_
        refine tk_Vi hC hK hw hT hA hE hSR kC_at152 (by decide) rfl (ky_X9_isAtGoal_1 l adK adV dC dI cy ad (B + 1800 + 1800 * v20_8.toInt) (by omega) (by omega) qr s1    w116 H.size hT ) (cwV 0 hC.2.2.2.2 uV_RX8_47 rfl rfl rfl (by decide +kernel) ⟨Nat.le_of_ble_eq_true rfl, Nat.le_of_ble_eq_true rfl⟩) rfl hl.1 rfl (Nat.le_of_ble_eq_true rfl) dX8_tellStrangers_114 (fun r126 w128 H locs hp127 hw => ?_)
        obtain ⟨hT, k129, hv131, hg130⟩ := hp127
        have hF := hF.tr k129 (by decide)
        have c132 := k129.gi kC_at38 (by decide) c122
        have c133 := k129.gi kC_at39 (by decide) c123
        have c134 := k129.gi kC_at38 (by decide) c124
        have c135 := k129.gi kC_at152 (by decide) c125
        rcases hg130 with rfl | rfl
        · replace hM := hM.call (r' := 0) hv131 (by decide)
          refine lv_if_eq (tgt := 139) hx hb dX8_tellStrangers_117 (by decide) (fun _ => ?_) (fun c => absurd (by decide) c)
          replace hM := hM.pos (by decide)
          exact J139 v20_5 v20_6 r50 r62 r74 r85 x101 x72 x48 H locs ls w128 (show (-1) ≤ a1.toInt from r2) (show a1.toInt ≤ 5 from t3) (show 1 ≤ a2.toInt from r4) (show a2.toInt ≤ 30 from t5) (show 1 ≤ a3.toInt from r6) (show a3.toInt ≤ 200 from t7) (show 0 ≤ a4.toInt from r8) (show a4.toInt ≤ 1 from t9) (show 0 ≤ v20_8.toInt from r10) (show v20_8.toInt ≤ 29 by first | with_reducible assumption | omega) (show 0 ≤ r50.toInt by first | with_reducible assumption | omega) (show r50.toInt ≤ 9 by first | with_reducible assumption | omega) (show 0 ≤ r62.toInt by first | with_reducible assumption | omega) (show r62.toInt ≤ 9 by first | with_reducible assumption | omega) (show 0 ≤ r74.toInt by first | with_reducible assumption | omega) (show r74.toInt ≤ 3 by first | with_reducible assumption | omega) (show 0 ≤ r85.toInt by first | with_reducible assumption | omega) (show r85.toInt ≤ 167 by first | with_reducible assumption | omega) (show (-1) ≤ x101.toInt by first | with_reducible assumption | omega) (show x101.toInt ≤ 5 by first | with_reducible assumption | omega) (show 0 ≤ f20_38_13.toInt from r12) (show 0 ≤ x72.toInt from rx72) (show x72.toInt ≤ 4 from tx72) (show (-1) ≤ x48.toInt from rx48) (show x48.toInt ≤ 10 from tx48)  hw hT hF c135 c132 c134 c133 hM (lv_sub hl [4, 5, 6, 7, 8, 9, 10, 11, 3, 2, 1, 0] rfl)
        · replace hM := hM.call (r' := 1) hv131 (by decide)
          refine lv_if_eq (tgt := 139) hx hb dX8_tellStrangers_117 (by decide) (fun c => absurd c (by decide)) (fun _ => ?_)
          replace hM := hM.neg (by decide)
          have nx137 := wk_i32 v20_5
          obtain ⟨x136, ex136⟩ : ∃ y : Int32, y = v20_5 + Int32.ofInt 1 := ⟨_, rfl⟩
          have erx136 := ex136
          refine lv_iinc (v := x136) (lv' := [(5, .int x136), (12, .int r85), (11, .int r74), (10, .int r62), (9, .int r50), (0, .ref (ad 151)), (1, .int a1), (2, .int a2), (3, .int a3), (4, .int a4), (6, .long v20_6), (8, .int v20_8)]) hx hb dX8_tellStrangers_120 hl (k := 9) rfl ex136.symm (by decide) rfl (fun ls hl => ?_)
          replace hM := hM.lt (o32_e (f := fun x y => x + y) erx136 rfl (by decide))
          refine lv_lload hx hb dX8_tellStrangers_123 (lv_at hl 10 rfl) ?_
          refine lv_aload_n hx hb dX8_tellStrangers_125 rfl (lv_at hl 5 rfl) ?_
          refine tk_getA hC hK hw hT hinX8 kC_at151 (by decide) rfl 3 (by decide) (List.mem_cons_of_mem _ uw_5_8) rfl rfl dX8_tellStrangers_126 ?_
          refine tk_getB hC hK hw hT hinX9 kC_at152 (by decide) rfl 4 (by decide) (List.mem_cons_of_mem _ uw_53_10) rfl rfl dX8_tellStrangers_129 (fun x138 c139 rx138 tx138 => ?_)
          replace hM := hM.rd (sL_atl (kC_lt kC_at152) c139)
          refine lv_iload hx hb dX8_tellStrangers_132 (lv_at hl 1 rfl) ?_
          refine lv_i2l hx hb dX8_tellStrangers_134 rfl ?_
          refine lv_topl (fun x140 ex140 => ?_)
          have ex140 : x140.toInt = r85.toInt := by rw [ex140]; exact wk_i2l _
          have bx140 := wk_i32 r85
          replace hM := hM.lt ex140.symm
          refine lv_lsub hx hb dX8_tellStrangers_135 ?_
          refine lv_topl (fun x141 ex141 => ?_)
          have ezx141 := ex141
          have ex141 : x141.toInt = x138.toInt - x140.toInt := by rw [ex141]; exact wk_subl (show (-9223372036854775808) ≤ x138.toInt - x140.toInt by omega) (show x138.toInt - x140.toInt ≤ 9223372036854775807 by omega)
          replace hM := hM.lt ex141.symm
          refine lv_ladd hx hb dX8_tellStrangers_136 ?_
          have nx142 := wk_i64 v20_6
          refine lv_topl (fun x143 ex143 => ?_)
          have ezx143 := ex143
          replace hM := hM.lt (o64_e (f := fun x y => x + y) ezx143 rfl rfl)
          refine lv_lstore (lv' := [(6, .long x143), (5, .int x136), (12, .int r85), (11, .int r74), (10, .int r62), (9, .int r50), (0, .ref (ad 151)), (1, .int a1), (2, .int a2), (3, .int a3), (4, .int a4), (8, .int v20_8)]) hx hb dX8_tellStrangers_137 hl (by decide) rfl (fun ls hl => ?_)
          exact J139 x136 x143 r50 r62 r74 r85 x101 x72 x48 H locs ls w128 (show (-1) ≤ a1.toInt from r2) (show a1.toInt ≤ 5 from t3) (show 1 ≤ a2.toInt from r4) (show a2.toInt ≤ 30 from t5) (show 1 ≤ a3.toInt from r6) (show a3.toInt ≤ 200 from t7) (show 0 ≤ a4.toInt from r8) (show a4.toInt ≤ 1 from t9) (show 0 ≤ v20_8.toInt from r10) (show v20_8.toInt ≤ 29 by first | with_reducible assumption | omega) (show 0 ≤ r50.toInt by first | with_reducible assumption | omega) (show r50.toInt ≤ 9 by first | with_reducible assumption | omega) (show 0 ≤ r62.toInt by first | with_reducible assumption | omega) (show r62.toInt ≤ 9 by first | with_reducible assumption | omega) (show 0 ≤ r74.toInt by first | with_reducible assumption | omega) (show r74.toInt ≤ 3 by first | with_reducible assumption | omega) (show 0 ≤ r85.toInt by first | with_reducible assumption | omega) (show r85.toInt ≤ 167 by first | with_reducible assumption | omega) (show (-1) ≤ x101.toInt by first | with_reducible assumption | omega) (show x101.toInt ≤ 5 by first | with_reducible assumption | omega) (show 0 ≤ f20_38_13.toInt from r12) (show 0 ≤ x72.toInt from rx72) (show x72.toInt ≤ 4 from tx72) (show (-1) ≤ x48.toInt from rx48) (show x48.toInt ≤ 10 from tx48)  hw hT hF c135 c132 c134 c133 hM (lv_sub hl [6, 7, 8, 9, 10, 1, 0, 11, 5, 4, 3, 2] rfl)
  have hM : TT (fun n => m_X8_tellStrangers n 151 a1.toInt a2.toInt a3.toInt a4.toInt (sL w0)) (fun n => m_X8_tellStrangers n 151 a1.toInt a2.toInt a3.toInt a4.toInt (sL w0)) := TT.rf
  refine lv_aload_n hx hb dX8_tellStrangers_0 rfl (lv_at hl 0 rfl) ?_
  refine lv_aload_n hx hb dX8_tellStrangers_1 rfl (lv_at hl 0 rfl) ?_
  refine tk_getA hC hK hw hT hinX8 kC_at151 (by decide) rfl 0 (by decide) (List.mem_cons_of_mem _ uw_5_11) rfl rfl dX8_tellStrangers_2 ?_
  refine tk_geti hC hK hw hT hinX5 kC_at38 (by decide) rfl 13 (by decide) (List.mem_cons_of_mem _ uw_67_13) rfl rfl dX8_tellStrangers_5 (fun x144 c145 rx144 tx144 => ?_)
  replace hM := hM.rd (sL_at (kC_lt kC_at38) c145)
  have hTq := hT
  refine tk_puti hC hK hw hT hinX8 tyX8_ok nmX8 kC_at151 (by decide) rfl rfl 7 (by decide) (List.mem_cons_of_mem _ uw_67_14) rfl rfl rfl rfl (show 0 ≤ x144.toInt from rx144) (wk_i32 x144).2 dX8_tellStrangers_8 (fun H locs w146 hw hT k148 c147 => ?_)
  replace hM := hM.wr (sL_upf hTq hT kC_at151 (kC_lt kC_at151) (by decide) rfl k148 c147 rfl)
  have hF := hF.put kC_at151 (k := 7) (by decide) k148
  have c149 := k148.gi (Or.inr (by decide)) c145
  refine lv_iconst (v := 0) hx hb dX8_tellStrangers_11 (by decide) ?_
  refine lv_istore (lv' := [(5, .int 0), (0, .ref (ad 151)), (1, .int a1), (2, .int a2), (3, .int a3), (4, .int a4)]) hx hb dX8_tellStrangers_12 hl (by decide) rfl (fun ls hl => ?_)
  refine lv_lconst (v := 0) hx hb dX8_tellStrangers_14 (by decide) ?_
  refine lv_lstore (lv' := [(6, .long 0), (5, .int 0), (0, .ref (ad 151)), (1, .int a1), (2, .int a2), (3, .int a3), (4, .int a4)]) hx hb dX8_tellStrangers_15 hl (by decide) rfl (fun ls hl => ?_)
  refine lv_iconst (v := 0) hx hb dX8_tellStrangers_17 (by decide) ?_
  refine lv_istore (lv' := [(8, .int 0), (6, .long 0), (5, .int 0), (0, .ref (ad 151)), (1, .int a1), (2, .int a2), (3, .int a3), (4, .int a4)]) hx hb dX8_tellStrangers_18 hl (by decide) rfl (fun ls hl => ?_)
  exact L20 ((30 - (0 : Int)).toNat + 1) 0 0 0 x144 H locs ls w146 (show (-1) ≤ a1.toInt from ra1) (show a1.toInt ≤ 5 from ta1) (show 1 ≤ a2.toInt from ra2) (show a2.toInt ≤ 30 from ta2) (show 1 ≤ a3.toInt from ra3) (show a3.toInt ≤ 200 from ta3) (show 0 ≤ a4.toInt from ra4) (show a4.toInt ≤ 1 from ta4) (by decide) (by decide) (show 0 ≤ x144.toInt from rx144) (Nat.lt_succ_self _) hw (hT.up (show B ≤ (B + 0 + 1800 * (0 : Int32).toInt) by rw [show (0 : Int32).toInt = 0 by decide]; omega)) hF c149 hM (lv_sub hl [3, 4, 5, 6, 7, 2, 1, 0] rfl)
abbrev Py_X11_strangers_1 (ad : Nat → Nat) (cy : Nat → ClassId) (B : Int) (qr : Nat) (s1 : Int) (a1 : Int32) (a2 : Int32) (a3 : Int32) (a4 : Int32) (w0 : va_W) : Int32 → va_W → Prop := fun r u => TW ksC ad cy (B + 54000) qr s1 u ∧ FE ksC [(1, 4, 4), (1, 5, 5), (1, 6, 6), (1, 7, 7), (1, 8, 8), (8, 7, 7), (9, 0, 0), (9, 1, 1), (9, 2, 2), (9, 3, 3), (9, 4, 4), (9, 5, 5), (9, 6, 6), (9, 7, 7), (9, 8, 8), (42, 0, 1100), (43, 0, 1100), (44, 0, 11), (45, 0, 64)] w0 u ∧ Ev (fun n => m_X11_strangers n 0 a1.toInt a2.toInt a3.toInt a4.toInt (sL w0)) (r.toInt, sL u) ∧ (((-1) ≤ a1.toInt ∧ a1.toInt ≤ 5 ∧ 1 ≤ a2.toInt ∧ a2.toInt ≤ 30 ∧ 1 ≤ a3.toInt ∧ a3.toInt ≤ 200 ∧ 0 ≤ a4.toInt ∧ a4.toInt ≤ 1 ∧ (∃ y : Int32, gi u 38 8 = y ∧ 1 ≤ y.toInt ∧ y.toInt ≤ 4)) ∨ (r = (-1)))
set_option maxHeartbeats 4000000 in
set_option maxRecDepth 100000 in
theorem ky_X11_strangers_1 (l : Launch) (adK adV : Nat → Nat) (dC : Nat → ClassId) (dI : Nat → Nat → Nat) (cy : Nat → ClassId) (ad : Nat → Nat) (B : Int) (hB0 : 2147483648 ≤ B) (hB1 : B ≤ 1152921504606792976) (qr : Nat) (s1 : Int)  (a1 : Int32) (a2 : Int32) (a3 : Int32) (a4 : Int32) (w0 : va_W) (sz : Nat) (hT : TW ksC ad cy B qr s1 w0)  : Met l yX11_strangers (wu yX11_strangers cX11_strangers 5 (some .int)) ({ frames := 8, cells := 0, slots := 0, locals := 190 }) (va_Pc [.ref (ad 0), .int a1, .int a2, .int a3, .int a4] (wpreS adK adV dC dI cy sz w0)) (va_Qi (Py_X11_strangers_1 ad cy B qr s1 a1 a2 a3 a4 w0) (fun u : va_W => wpost dC dI cy (va_A w0 sz) u) (va_A w0 sz)) 0 0 (va_A w0 sz) := by
  refine Met.ofW (cc := cX11_strangers) (maxL := 5) (ret := (some .int)) (by decide) rfl ?_
  intro p e s m args below meth c s₁ Bk hml hv
  obtain ⟨rfl, ⟨hsz, hP, hK, hD0⟩, hE, hSR⟩ := hv
  have hx := Bk.exec
  have hb := Bk.bytes
  have hr := Bk.returns
  have hlocks := Bk.notSynchronized
  have hC : CallFix p m c cX11_strangers 5 s _ (wu yX11_strangers cX11_strangers 5 (some .int)) RX11 := ⟨hx, hb, hml, findClass_of_methodNamed Bk.named, atoms_spec (ws := (wu yX11_strangers cX11_strangers 5 (some .int))) Bk.pre⟩
  subst hsz
  have hD := hD0.self (sz := s.heap.size)
  generalize hAe : va_A w0 s.heap.size = A at hD hE ⊢
  have hA : ∀ q : Nat, s.heap.size ≤ q → A q := fun q h => by rw [← hAe]; exact Or.inr h
  have hw : Wd dC dI A s.heap s.heap [] w0 := ⟨hP, hD, va_S.rf⟩
  have hF : FE ksC [(1, 4, 4), (1, 5, 5), (1, 6, 6), (1, 7, 7), (1, 8, 8), (8, 7, 7), (9, 0, 0), (9, 1, 1), (9, 2, 2), (9, 3, 3), (9, 4, 4), (9, 5, 5), (9, 6, 6), (9, 7, 7), (9, 8, 8), (42, 0, 1100), (43, 0, 1100), (44, 0, 11), (45, 0, 64)] w0 w0 := FE.rf
  have hl := lv_entry ([.ref (ad 0), .int a1, .int a2, .int a3, .int a4]) (n := 5) (Nat.le_of_ble_eq_true rfl)
  rw [lg_entry_eq]
  generalize (lg_sl ([.ref (ad 0), .int a1, .int a2, .int a3, .int a4]) ++ List.replicate (5 - (lg_sl ([.ref (ad 0), .int a1, .int a2, .int a3, .int a4])).length) Slot.unset).toArray = ls at hl ⊢
  have hl : lv_has ls 5 [(0, .ref (ad 0)), (1, .int a1), (2, .int a2), (3, .int a3), (4, .int a4)] := hl
  generalize hloc : ([] : List Loc) = locs at hw ⊢
  have hinX11 : ∀ w ∈ u_ws RX11 TX11 13, w ∈ (wu yX11_strangers cX11_strangers 5 (some .int)) := fun _ h => List.mem_cons_of_mem _ (up_70 h)
  have hinX5 : ∀ w ∈ u_ws RX5 TX5 14, w ∈ (wu yX11_strangers cX11_strangers 5 (some .int)) := fun _ h => List.mem_cons_of_mem _ (up_76 h)
  have J29 : ∀ (H : Heap) (locs : List Loc) (ls : Array Slot) (w1 : va_W), Wd dC dI A s.heap H locs w1 → TW ksC ad cy B qr s1 w1 → FE ksC [(1, 4, 4), (1, 5, 5), (1, 6, 6), (1, 7, 7), (1, 8, 8), (8, 7, 7), (9, 0, 0), (9, 1, 1), (9, 2, 2), (9, 3, 3), (9, 4, 4), (9, 5, 5), (9, 6, 6), (9, 7, 7), (9, 8, 8), (42, 0, 1100), (43, 0, 1100), (44, 0, 11), (45, 0, 64)] w0 w1 → TT (fun n => m_X11_strangers n 0 a1.toInt a2.toInt a3.toInt a4.toInt (sL w0)) (fun n => b_X11_strangers_29 n 0 (sL w1)) → lv_has ls 5 [(0, .ref (ad 0)), (1, .int a1), (2, .int a2), (3, .int a3), (4, .int a4)] → W p l e ({ frames := 8, cells := 0, slots := 0, locals := 190 }) s m (List.toArray [.ref (ad 0), .int a1, .int a2, .int a3, .int a4]) below meth c H locs 0 0 (MQ below (va_Qi (Py_X11_strangers_1 ad cy B qr s1 a1 a2 a3 a4 w0) (fun u : va_W => wpost dC dI cy A u) A) (List.toArray [.ref (ad 0), .int a1, .int a2, .int a3, .int a4]) s 0 0 A) (F0 m 29 ls []) := by
    intro H locs ls w1 hw hT hF hM hl
    refine lv_iconst (v := (-1)) hx hb dX11_strangers_29 (by decide) ?_
    exact tk_iret hC hr hlocks hK ⟨(hT.up (show B ≤ (B + 54000) by omega)), hF, hM.ret (by decide), (Or.inr rfl)⟩ hw dX11_strangers_30
  have J54 : ∀ (f54_38_8 : Int32) (H : Heap) (locs : List Loc) (ls : Array Slot) (w2 : va_W), (-1) ≤ a1.toInt → a1.toInt ≤ 5 → 1 ≤ a2.toInt → a2.toInt ≤ 30 → 1 ≤ f54_38_8.toInt → f54_38_8.toInt ≤ 4 → Wd dC dI A s.heap H locs w2 → TW ksC ad cy B qr s1 w2 → FE ksC [(1, 4, 4), (1, 5, 5), (1, 6, 6), (1, 7, 7), (1, 8, 8), (8, 7, 7), (9, 0, 0), (9, 1, 1), (9, 2, 2), (9, 3, 3), (9, 4, 4), (9, 5, 5), (9, 6, 6), (9, 7, 7), (9, 8, 8), (42, 0, 1100), (43, 0, 1100), (44, 0, 11), (45, 0, 64)] w0 w2 → gi w2 38 8 = f54_38_8 → TT (fun n => m_X11_strangers n 0 a1.toInt a2.toInt a3.toInt a4.toInt (sL w0)) (fun n => b_X11_strangers_54 n 0 (sL w2)) → lv_has ls 5 [(0, .ref (ad 0)), (1, .int a1), (2, .int a2), (3, .int a3), (4, .int a4)] → W p l e ({ frames := 8, cells := 0, slots := 0, locals := 190 }) s m (List.toArray [.ref (ad 0), .int a1, .int a2, .int a3, .int a4]) below meth c H locs 0 0 (MQ below (va_Qi (Py_X11_strangers_1 ad cy B qr s1 a1 a2 a3 a4 w0) (fun u : va_W => wpost dC dI cy A u) A) (List.toArray [.ref (ad 0), .int a1, .int a2, .int a3, .int a4]) s 0 0 A) (F0 m 54 ls []) := by
    intro f54_38_8 H locs ls w2 r3 t4 r5 t6 r7 t8 hw hT hF c9 hM hl
    refine lv_iconst (v := (-1)) hx hb dX11_strangers_54 (by decide) ?_
    exact tk_iret hC hr hlocks hK ⟨(hT.up (show B ≤ (B + 54000) by omega)), hF, hM.ret (by decide), (Or.inr rfl)⟩ hw dX11_strangers_55
  have hM : TT (fun n => m_X11_strangers n 0 a1.toInt a2.toInt a3.toInt a4.toInt (sL w0)) (fun n => m_X11_strangers n 0 a1.toInt a2.toInt a3.toInt a4.toInt (sL w0)) := TT.rf
  refine lv_aload_n hx hb dX11_strangers_0 rfl (lv_at hl 0 rfl) ?_
  refine lv_iload_n hx hb dX11_strangers_1 rfl (lv_at hl 1 rfl) ?_
  refine tk_Vi hC hK hw hT hA hE hSR kC_at0 (by decide) rfl (ky_X11_hasRuleOrNone_1 l adK adV dC dI cy ad B hB0 (Int.le_trans hB1 (by decide)) qr s1   a1 w0 s.heap.size hT ) (cwV 1 hC.2.2.2.2 uV_RX11_189 rfl rfl rfl (by decide +kernel) ⟨Nat.le_of_ble_eq_true rfl, Nat.le_of_ble_eq_true rfl⟩) rfl hl.1 rfl (Nat.le_of_ble_eq_true rfl) dX11_strangers_2 (fun r10 w12 H locs hp11 hw => ?_)
  obtain ⟨hT, k13, hv17, hg16⟩ := hp11
  have hF := hF.tr k13 (by decide)
  rcases hg16 with rfl | ⟨rfl, g14, g15⟩
  · replace hM := hM.call (r' := 0) hv17 (by decide)
    refine lv_if_eq (tgt := 29) hx hb dX11_strangers_5 (by decide) (fun _ => ?_) (fun c => absurd (by decide) c)
    replace hM := hM.pos (by decide)
    exact J29  H locs ls w12   hw hT hF hM (lv_sub hl [0, 1, 2, 3, 4] rfl)
  · replace hM := hM.call (r' := 1) hv17 (by decide)
    refine lv_if_eq (tgt := 29) hx hb dX11_strangers_5 (by decide) (fun c => absurd c (by decide)) (fun _ => ?_)
    replace hM := hM.neg (by decide)
    refine lv_aload_n hx hb dX11_strangers_8 rfl (lv_at hl 0 rfl) ?_
    refine tk_getA hC hK hw hT hinX11 kC_at0 (by decide) rfl 4 (by decide) (List.mem_cons_of_mem _ uw_1_7) rfl rfl dX11_strangers_9 ?_
    refine tk_geti hC hK hw hT hinX5 kC_at38 (by decide) rfl 8 (by decide) (List.mem_cons_of_mem _ uw_33_12) rfl rfl dX11_strangers_12 (fun x18 c19 rx18 tx18 => ?_)
    replace hM := hM.rd (sL_at (kC_lt kC_at38) c19)
    refine lv_if_eq (tgt := 29) hx hb dX11_strangers_15 (by decide) (fun c20 => ?_) (fun c20 => ?_)
    · have c20 : x18.toInt = (0 : Int) := wk_eq.mp c20
      replace hM := hM.pos c20
      exact J29  H locs ls w12   hw hT hF hM (lv_sub hl [0, 1, 2, 3, 4] rfl)
    · have c20 : ¬ x18.toInt = (0 : Int) := wk_eqF c20
      replace hM := hM.neg c20
      refine lv_iload_n hx hb dX11_strangers_18 rfl (lv_at hl 2 rfl) ?_
      refine lv_iconst (v := 1) hx hb dX11_strangers_19 (by decide) ?_
      refine lv_icmp_lt (tgt := 29) hx hb dX11_strangers_20 (by decide) (fun c21 => ?_) (fun c21 => ?_)
      · have c21 : a2.toInt < (1 : Int) := wk_lt.mp c21
        replace hM := hM.pos c21
        exact J29  H locs ls w12   hw hT hF hM (lv_sub hl [0, 1, 2, 3, 4] rfl)
      · have c21 : (1 : Int) ≤ a2.toInt := wk_ltF c21
        replace hM := hM.neg (Int.not_lt.mpr c21)
        refine lv_iload_n hx hb dX11_strangers_23 rfl (lv_at hl 2 rfl) ?_
        refine lv_bipush (v := 30) hx hb dX11_strangers_24 (by decide) ?_
        refine lv_icmp_le (tgt := 31) hx hb dX11_strangers_26 (by decide) (fun c22 => ?_) (fun c22 => ?_)
        · have c22 : a2.toInt ≤ (30 : Int) := wk_le.mp c22
          replace hM := hM.pos c22
          refine lv_iload_n hx hb dX11_strangers_31 rfl (lv_at hl 3 rfl) ?_
          refine lv_iconst (v := 1) hx hb dX11_strangers_32 (by decide) ?_
          refine lv_icmp_lt (tgt := 54) hx hb dX11_strangers_33 (by decide) (fun c23 => ?_) (fun c23 => ?_)
          · have c23 : a3.toInt < (1 : Int) := wk_lt.mp c23
            replace hM := hM.pos c23
            exact J54 x18 H locs ls w12 (show (-1) ≤ a1.toInt by first | with_reducible assumption | omega) (show a1.toInt ≤ 5 by first | with_reducible assumption | omega) (show 1 ≤ a2.toInt by first | with_reducible assumption | omega) (show a2.toInt ≤ 30 by first | with_reducible assumption | omega) (show 1 ≤ x18.toInt by first | with_reducible assumption | omega) (show x18.toInt ≤ 4 from tx18)  hw hT hF c19 hM (lv_sub hl [0, 1, 2, 3, 4] rfl)
          · have c23 : (1 : Int) ≤ a3.toInt := wk_ltF c23
            replace hM := hM.neg (Int.not_lt.mpr c23)
            refine lv_iload_n hx hb dX11_strangers_36 rfl (lv_at hl 3 rfl) ?_
            refine lv_sipush (v := 200) hx hb dX11_strangers_37 (by decide) ?_
            refine lv_icmp_gt (tgt := 54) hx hb dX11_strangers_40 (by decide) (fun c24 => ?_) (fun c24 => ?_)
            · have c24 : (200 : Int) < a3.toInt := wk_lt.mp c24
              replace hM := hM.pos c24
              exact J54 x18 H locs ls w12 (show (-1) ≤ a1.toInt by first | with_reducible assumption | omega) (show a1.toInt ≤ 5 by first | with_reducible assumption | omega) (show 1 ≤ a2.toInt by first | with_reducible assumption | omega) (show a2.toInt ≤ 30 by first | with_reducible assumption | omega) (show 1 ≤ x18.toInt by first | with_reducible assumption | omega) (show x18.toInt ≤ 4 from tx18)  hw hT hF c19 hM (lv_sub hl [0, 1, 2, 3, 4] rfl)
            · have c24 : a3.toInt ≤ (200 : Int) := wk_ltF c24
              replace hM := hM.neg (Int.not_lt.mpr c24)
              refine lv_iload hx hb dX11_strangers_43 (lv_at hl 4 rfl) ?_
              refine lv_if_lt (tgt := 54) hx hb dX11_strangers_45 (by decide) (fun c25 => ?_) (fun c25 => ?_)
              · have c25 : a4.toInt < (0 : Int) := wk_lt.mp c25
                replace hM := hM.pos c25
                exact J54 x18 H locs ls w12 (show (-1) ≤ a1.toInt by first | with_reducible assumption | omega) (show a1.toInt ≤ 5 by first | with_reducible assumption | omega) (show 1 ≤ a2.toInt by first | with_reducible assumption | omega) (show a2.toInt ≤ 30 by first | with_reducible assumption | omega) (show 1 ≤ x18.toInt by first | with_reducible assumption | omega) (show x18.toInt ≤ 4 from tx18)  hw hT hF c19 hM (lv_sub hl [0, 1, 2, 3, 4] rfl)
              · have c25 : (0 : Int) ≤ a4.toInt := wk_ltF c25
                replace hM := hM.neg (Int.not_lt.mpr c25)
                refine lv_iload hx hb dX11_strangers_48 (lv_at hl 4 rfl) ?_
                refine lv_iconst (v := 1) hx hb dX11_strangers_50 (by decide) ?_
                refine lv_icmp_le (tgt := 56) hx hb dX11_strangers_51 (by decide) (fun c26 => ?_) (fun c26 => ?_)
                · have c26 : a4.toInt ≤ (1 : Int) := wk_le.mp c26
                  replace hM := hM.pos c26
                  refine lv_aload_n hx hb dX11_strangers_56 rfl (lv_at hl 0 rfl) ?_
                  refine tk_getA hC hK hw hT hinX11 kC_at0 (by decide) rfl 7 (by decide) (List.mem_cons_of_mem _ uw_1_14) rfl rfl dX11_strangers_57 ?_
                  refine tk_Vv hC hK hw hT hA hE hSR kC_at145 (by decide) rfl (ky_X0_refreshAll_1 l adK adV dC dI cy ad B hB0 (Int.le_trans hB1 (by decide)) qr s1    w12 H.size hT ) (cwV 0 hC.2.2.2.2 uV_RX11_212 rfl rfl rfl (by decide +kernel) ⟨Nat.le_of_ble_eq_true rfl, Nat.le_of_ble_eq_true rfl⟩) rfl hl.1 rfl (Nat.le_of_ble_eq_true rfl) dX11_strangers_60 (fun w29 H locs hp28 hw => ?_)
                  obtain ⟨hT, k30, hv32, hg31⟩ := hp28
                  have hF := hF.tr k30 (by decide)
                  have c33 := k30.gi kC_at38 (by decide) c19
                  clear hg31
                  replace hM := hM.call hv32 rfl
                  refine lv_aload_n hx hb dX11_strangers_63 rfl (lv_at hl 0 rfl) ?_
                  refine tk_getA hC hK hw hT hinX11 kC_at0 (by decide) rfl 9 (by decide) (List.mem_cons_of_mem _ uw_1_22) rfl rfl dX11_strangers_64 ?_
                  refine lv_iload_n hx hb dX11_strangers_67 rfl (lv_at hl 1 rfl) ?_
                  refine lv_iload_n hx hb dX11_strangers_68 rfl (lv_at hl 2 rfl) ?_
                  refine lv_iload_n hx hb dX11_strangers_69 rfl (lv_at hl 3 rfl) ?_
                  refine lv_iload hx hb dX11_strangers_70 (lv_at hl 4 rfl) ?_
                  refine tk_Vi hC hK hw hT hA hE hSR kC_at151 (by decide) rfl (ky_X8_tellStrangers_1 l adK adV dC dI cy ad B hB0 (Int.le_trans hB1 (by decide)) qr s1   a1 (show (-1) ≤ a1.toInt by first | with_reducible assumption | omega) (show a1.toInt ≤ 5 by first | with_reducible assumption | omega) a2 (show 1 ≤ a2.toInt by first | with_reducible assumption | omega) (show a2.toInt ≤ 30 by first | with_reducible assumption | omega) a3 (show 1 ≤ a3.toInt by first | with_reducible assumption | omega) (show a3.toInt ≤ 200 by first | with_reducible assumption | omega) a4 (show 0 ≤ a4.toInt by first | with_reducible assumption | omega) (show a4.toInt ≤ 1 by first | with_reducible assumption | omega) w29 H.size hT ) (cwV 4 hC.2.2.2.2 uV_RX11_298 rfl rfl rfl (by decide +kernel) ⟨Nat.le_of_ble_eq_true rfl, Nat.le_of_ble_eq_true rfl⟩) rfl hl.1 rfl (Nat.le_of_ble_eq_true rfl) dX11_strangers_72 (fun r34 w36 H locs hp35 hw => ?_)
                  obtain ⟨hT, k37, hv39, hg38⟩ := hp35
                  have hF := hF.tr k37 (by decide)
                  have c40 := k37.gi kC_at38 (by decide) c33
                  clear hg38
                  replace hM := hM.call hv39 rfl
                  exact tk_iret hC hr hlocks hK ⟨hT, hF, hM.ret rfl, (Or.inl ⟨(show (-1) ≤ a1.toInt by first | with_reducible assumption | omega), (show a1.toInt ≤ 5 by first | with_reducible assumption | omega), (show 1 ≤ a2.toInt by first | with_reducible assumption | omega), (show a2.toInt ≤ 30 by first | with_reducible assumption | omega), (show 1 ≤ a3.toInt by first | with_reducible assumption | omega), (show a3.toInt ≤ 200 by first | with_reducible assumption | omega), (show 0 ≤ a4.toInt by first | with_reducible assumption | omega), (show a4.toInt ≤ 1 by first | with_reducible assumption | omega), ⟨x18, c40, (show 1 ≤ x18.toInt by first | with_reducible assumption | omega), (show x18.toInt ≤ 4 from tx18)⟩⟩)⟩ hw dX11_strangers_75
                · have c26 : (1 : Int) < a4.toInt := wk_leF c26
                  replace hM := hM.neg (Int.not_le.mpr c26)
                  exact J54 x18 H locs ls w12 (show (-1) ≤ a1.toInt by first | with_reducible assumption | omega) (show a1.toInt ≤ 5 by first | with_reducible assumption | omega) (show 1 ≤ a2.toInt by first | with_reducible assumption | omega) (show a2.toInt ≤ 30 by first | with_reducible assumption | omega) (show 1 ≤ x18.toInt by first | with_reducible assumption | omega) (show x18.toInt ≤ 4 from tx18)  hw hT hF c19 hM (lv_sub hl [0, 1, 2, 3, 4] rfl)
        · have c22 : (30 : Int) < a2.toInt := wk_leF c22
          replace hM := hM.neg (Int.not_le.mpr c22)
          exact J29  H locs ls w12   hw hT hF hM (lv_sub hl [0, 1, 2, 3, 4] rfl)
abbrev Py_X12_putsBack_1 (ad : Nat → Nat) (cy : Nat → ClassId) (B : Int) (qr : Nat) (s1 : Int)  (w0 : va_W) : va_W → Prop := fun u => TW ksM ad cy B qr 12 u ∧ FE ksM [(71, 0, 295)] w0 u ∧ Ev (fun n => m_X12_putsBack n 0 (sL w0)) (0, sL u) ∧ ((gi u 12 (0) = gi w0 15 0 ∧ gi u 12 (4) = gi w0 15 4 ∧ gi u 12 (9) = gi w0 15 9 ∧ (∀ j : Nat, j < 296 → gi u 12 j = gi w0 15 j)))
set_option maxHeartbeats 4000000 in
set_option maxRecDepth 100000 in
theorem ky_X12_putsBack_1 (l : Launch) (adK adV : Nat → Nat) (dC : Nat → ClassId) (dI : Nat → Nat → Nat) (cy : Nat → ClassId) (ad : Nat → Nat) (B : Int) (hB0 : 100000 ≤ B) (hB1 : B ≤ 1073741824) (qr : Nat) (s1 : Int)   (w0 : va_W) (sz : Nat) (hT : TW ksM ad cy B qr 12 w0)  : Met l yX12_putsBack (wu yX12_putsBack cX12_putsBack 2 none) ({ frames := 1, cells := 0, slots := 0, locals := 12 }) (va_Pc [.ref (ad 0)] (wpreS adK adV dC dI cy sz w0)) (va_Qv (Py_X12_putsBack_1 ad cy B qr s1  w0) (fun u : va_W => wpost dC dI cy (va_A w0 sz) u) (va_A w0 sz)) 0 0 (va_A w0 sz) := by
  refine Met.ofW (cc := cX12_putsBack) (maxL := 2) (ret := none) (by decide) rfl ?_
  intro p e s m args below meth c s₁ Bk hml hv
  obtain ⟨rfl, ⟨hsz, hP, hK, hD0⟩, hE, hSR⟩ := hv
  have hx := Bk.exec
  have hb := Bk.bytes
  have hr := Bk.returns
  have hlocks := Bk.notSynchronized
  have hC : CallFix p m c cX12_putsBack 2 s _ (wu yX12_putsBack cX12_putsBack 2 none) RX12 := ⟨hx, hb, hml, findClass_of_methodNamed Bk.named, atoms_spec (ws := (wu yX12_putsBack cX12_putsBack 2 none)) Bk.pre⟩
  subst hsz
  have hD := hD0.self (sz := s.heap.size)
  generalize hAe : va_A w0 s.heap.size = A at hD hE ⊢
  have hA : ∀ q : Nat, s.heap.size ≤ q → A q := fun q h => by rw [← hAe]; exact Or.inr h
  have hw : Wd dC dI A s.heap s.heap [] w0 := ⟨hP, hD, va_S.rf⟩
  have hF : FE ksM [(71, 0, 295)] w0 w0 := FE.rf
  have hl := lv_entry ([.ref (ad 0)]) (n := 2) (Nat.le_of_ble_eq_true rfl)
  rw [lg_entry_eq]
  generalize (lg_sl ([.ref (ad 0)]) ++ List.replicate (2 - (lg_sl ([.ref (ad 0)])).length) Slot.unset).toArray = ls at hl ⊢
  have hl : lv_has ls 2 [(0, .ref (ad 0))] := hl
  generalize hloc : ([] : List Loc) = locs at hw ⊢
  have hinX12 : ∀ w ∈ u_ws RX12 TX12 42, w ∈ (wu yX12_putsBack cX12_putsBack 2 none) := fun _ h => List.mem_cons_of_mem _ (up_71 h)
  have L2 : ∀ (n2 : Nat) (v2_1 : Int32) (H : Heap) (locs : List Loc) (ls : Array Slot) (w1 : va_W), 0 ≤ v2_1.toInt → v2_1.toInt ≤ 296 → (v2_1.toInt ≤ 0 ∨ gi w1 12 (0) = gi w0 15 0) → (v2_1.toInt ≤ 4 ∨ gi w1 12 (4) = gi w0 15 4) → (v2_1.toInt ≤ 9 ∨ gi w1 12 (9) = gi w0 15 9) → (∀ j : Nat, (j : Int) < v2_1.toInt → gi w1 12 j = gi w0 15 j) → (296 - v2_1.toInt).toNat < n2 → Wd dC dI A s.heap H locs w1 → TW ksM ad cy B qr 12 w1 → FE ksM [(71, 0, 295)] w0 w1 → TT (fun n => m_X12_putsBack n 0 (sL w0)) (fun n => j_X12_putsBack 0 n 2 [v2_1.toInt] (sL w1)) → lv_has ls 2 [(0, .ref (ad 0)), (1, .int v2_1)] → W p l e ({ frames := 1, cells := 0, slots := 0, locals := 12 }) s m (List.toArray [.ref (ad 0)]) below meth c H locs 0 0 (MQ below (va_Qv (Py_X12_putsBack_1 ad cy B qr s1  w0) (fun u : va_W => wpost dC dI cy A u) A) (List.toArray [.ref (ad 0)]) s 0 0 A) (F0 m 2 ls []) := by
    intro n2
    induction n2 with
    | zero => intro v2_1 H locs ls w1 r2 t3 hcp0 hcp1 hcp2 hcr2_0 hm2 hw hT hF hM hl; omega
    | succ n2 ih2 =>
      intro v2_1 H locs ls w1 r2 t3 hcp0 hcp1 hcp2 hcr2_0 hm2 hw hT hF hM hl
      replace hM := hM.suc (fun _ => e_X12_putsBack_2)
      refine lv_iload_n hx hb dX12_putsBack_2 rfl (lv_at hl 1 rfl) ?_
      refine lv_sipush (v := 296) hx hb dX12_putsBack_3 (by decide) ?_
      refine lv_icmp_ge (tgt := 27) hx hb dX12_putsBack_6 (by decide) (fun c4 => ?_) (fun c4 => ?_)
      · have c4 : (296 : Int) ≤ v2_1.toInt := wk_le.mp c4
        replace hM := hM.pos c4
        exact tk_vret hC hr hlocks hK ⟨hT, hF, hM.ret rfl, ⟨(hcp0.resolve_left (by omega)), (hcp1.resolve_left (by omega)), (hcp2.resolve_left (by omega)), (by exact fun j hj => hcr2_0 j (by omega))⟩⟩ hw dX12_putsBack_27
      · have c4 : v2_1.toInt < (296 : Int) := wk_leF c4
        replace hM := hM.neg (Int.not_le.mpr c4)
        refine lv_aload_n hx hb dX12_putsBack_9 rfl (lv_at hl 0 rfl) ?_
        refine tk_getA hC hK hw hT hinX12 kM_at0 (by decide) rfl 26 (by decide) (List.mem_cons_of_mem _ uw_7_1) rfl rfl dX12_putsBack_10 ?_
        refine lv_iload_n hx hb dX12_putsBack_13 rfl (lv_at hl 1 rfl) ?_
        refine lv_aload_n hx hb dX12_putsBack_14 rfl (lv_at hl 0 rfl) ?_
        refine tk_getA hC hK hw hT hinX12 kM_at0 (by decide) rfl 32 (by decide) (List.mem_cons_of_mem _ uw_7_5) rfl rfl dX12_putsBack_15 ?_
        refine lv_iload_n hx hb dX12_putsBack_18 rfl (lv_at hl 1 rfl) ?_
        refine tk_ialdR hC hK hw hT kM_at15 rfl (show 0 ≤ v2_1.toInt from r2) (show v2_1.toInt < 296 by first | with_reducible assumption | omega) dX12_putsBack_19 (fun x5 c6 Ex5 => ?_)
        have hox5 := c6
        have lEx5 : gi w1 15 (v2_1.toInt).toNat = x5 := c6
        replace hM := hM.rd (sL_at (kM_lt kM_at15) hox5)
        have hTq := hT
        have hF0 := hF
        refine tk_iastR hC hK hw hT kM_at12 (by decide) rfl (show 0 ≤ v2_1.toInt from r2) (show v2_1.toInt < 296 by first | with_reducible assumption | omega) (tk_rgC rfl rfl (show v2_1.toInt.toNat % 296 = v2_1.toInt.toNat % 296 from rfl) Ex5) dX12_putsBack_20 (fun H locs w7 hw hT k9 c8 => ?_)
        replace hM := hM.wr (sL_upa hTq hT kM_at12 (kM_lt kM_at12) rfl (by decide) k9 c8 rfl)
        have hF := hF.put kM_at12 (inE_of (a := 0) (b := 295) (by decide) (show 0 ≤ v2_1.toInt.toNat by omega) (show v2_1.toInt.toNat ≤ 295 by omega)) k9
        obtain ⟨x10, ex10⟩ : ∃ y : Int32, y = v2_1 + Int32.ofInt 1 := ⟨_, rfl⟩
        have erx10 := ex10
        refine lv_iinc (v := x10) (lv' := [(1, .int x10), (0, .ref (ad 0))]) hx hb dX12_putsBack_21 hl (k := 1) rfl ex10.symm (by decide) rfl (fun ls hl => ?_)
        have ex10 : x10.toInt = v2_1.toInt + 1 := by rw [ex10]; exact wk_add (y := 1) (show -2147483648 ≤ v2_1.toInt + 1 by omega) (show v2_1.toInt + 1 ≤ 2147483647 by omega)
        replace hM := hM.lt ex10.symm
        refine lv_goto (tgt := 2) hx hb dX12_putsBack_24 (by decide) ?_
        exact ih2 x10 H locs ls w7 (show 0 ≤ x10.toInt by first | with_reducible assumption | omega) (show x10.toInt ≤ 296 by first | with_reducible assumption | omega) (copy_at (d := 0) (by first | rfl | omega) hcp0 k9 (show v2_1.toInt = v2_1.toInt + 0 by first | exact Int.le_antisymm (by omega) (by omega) | omega) c8 lEx5 (hF0.gi kM_at15 rfl rfl) (by omega) (by omega) (by omega)) (copy_at (d := 0) (by first | rfl | omega) hcp1 k9 (show v2_1.toInt = v2_1.toInt + 0 by first | exact Int.le_antisymm (by omega) (by omega) | omega) c8 lEx5 (hF0.gi kM_at15 rfl rfl) (by omega) (by omega) (by omega)) (copy_at (d := 0) (by first | rfl | omega) hcp2 k9 (show v2_1.toInt = v2_1.toInt + 0 by first | exact Int.le_antisymm (by omega) (by omega) | omega) c8 lEx5 (hF0.gi kM_at15 rfl rfl) (by omega) (by omega) (by omega)) (show ∀ j : Nat, (j : Int) < x10.toInt → gi w7 12 j = gi w0 15 j from kp_all hcr2_0 k9 (show v2_1.toInt = v2_1.toInt from rfl) c8 lEx5 (fun j => hF0.gi kM_at15 rfl rfl) (by omega) (by omega)) (show (296 - x10.toInt).toNat < n2 by first | exact tn_lt hm2 (by omega) (by omega) | omega) hw hT hF hM (lv_sub hl [1, 0] rfl)
  have hM : TT (fun n => m_X12_putsBack n 0 (sL w0)) (fun n => m_X12_putsBack n 0 (sL w0)) := TT.rf
  refine lv_iconst (v := 0) hx hb dX12_putsBack_0 (by decide) ?_
  refine lv_istore_n (lv' := [(1, .int 0), (0, .ref (ad 0))]) hx hb dX12_putsBack_1 rfl hl (by decide) rfl (fun ls hl => ?_)
  exact L2 ((296 - (0 : Int)).toNat + 1) 0 s.heap locs ls w0 (by decide) (by decide) (show ((0 : Int) ≤ 0 ∨ gi w0 12 (0) = gi w0 15 0) from Or.inl (by omega)) (show ((0 : Int) ≤ 4 ∨ gi w0 12 (4) = gi w0 15 4) from Or.inl (by omega)) (show ((0 : Int) ≤ 9 ∨ gi w0 12 (9) = gi w0 15 9) from Or.inl (by omega)) (show ∀ j : Nat, (j : Int) < (0 : Int) → gi w0 12 j = gi w0 15 j from fun j hj => absurd hj (by omega)) (Nat.lt_succ_self _) hw hT hF hM (lv_sub hl [1, 0] rfl)
abbrev Py_X12_walkerOf_1 (ad : Nat → Nat) (cy : Nat → ClassId) (B : Int) (qr : Nat) (s1 : Int)  (w0 : va_W) : Int32 → va_W → Prop := fun r u => w0 = u ∧ Ev (fun n => m_X12_walkerOf n 0 0 0 (sL w0)) (r.toInt, sL w0) ∧ ((0 ≤ r.toInt ∧ r.toInt ≤ 9 ∧ gi u 12 216 = r))
set_option maxHeartbeats 4000000 in
set_option maxRecDepth 100000 in
theorem ky_X12_walkerOf_1 (l : Launch) (adK adV : Nat → Nat) (dC : Nat → ClassId) (dI : Nat → Nat → Nat) (cy : Nat → ClassId) (ad : Nat → Nat) (B : Int) (hB0 : 100000 ≤ B) (hB1 : B ≤ 1073741824) (qr : Nat) (s1 : Int)   (w0 : va_W) (sz : Nat) (hT : TW ksM ad cy B qr 12 w0)  : Met l yX12_walkerOf (wu yX12_walkerOf cX12_walkerOf 3 (some .int)) ({ frames := 1, cells := 0, slots := 0, locals := 12 }) (va_Pc [.ref (ad 0), .int 0, .int 0] (wpreS adK adV dC dI cy sz w0)) (va_Qi (Py_X12_walkerOf_1 ad cy B qr s1  w0) (fun u : va_W => wpost dC dI cy (va_A w0 sz) u) (va_A w0 sz)) 0 0 (va_A w0 sz) := by
  refine Met.ofW (cc := cX12_walkerOf) (maxL := 3) (ret := (some .int)) (by decide) rfl ?_
  intro p e s m args below meth c s₁ Bk hml hv
  obtain ⟨rfl, ⟨hsz, hP, hK, hD0⟩, hE, hSR⟩ := hv
  have hx := Bk.exec
  have hb := Bk.bytes
  have hr := Bk.returns
  have hlocks := Bk.notSynchronized
  have hC : CallFix p m c cX12_walkerOf 3 s _ (wu yX12_walkerOf cX12_walkerOf 3 (some .int)) RX12 := ⟨hx, hb, hml, findClass_of_methodNamed Bk.named, atoms_spec (ws := (wu yX12_walkerOf cX12_walkerOf 3 (some .int))) Bk.pre⟩
  subst hsz
  have hD := hD0.self (sz := s.heap.size)
  generalize hAe : va_A w0 s.heap.size = A at hD hE ⊢
  have hA : ∀ q : Nat, s.heap.size ≤ q → A q := fun q h => by rw [← hAe]; exact Or.inr h
  have hw : Wd dC dI A s.heap s.heap [] w0 := ⟨hP, hD, va_S.rf⟩
  have hF : FE ksM ([] : List (Nat × Nat × Nat)) w0 w0 := FE.rf
  have hl := lv_entry ([.ref (ad 0), .int 0, .int 0]) (n := 3) (Nat.le_of_ble_eq_true rfl)
  rw [lg_entry_eq]
  generalize (lg_sl ([.ref (ad 0), .int 0, .int 0]) ++ List.replicate (3 - (lg_sl ([.ref (ad 0), .int 0, .int 0])).length) Slot.unset).toArray = ls at hl ⊢
  have hl : lv_has ls 3 [(0, .ref (ad 0)), (1, .int 0), (2, .int 0)] := hl
  generalize hloc : ([] : List Loc) = locs at hw ⊢
  have hinX12 : ∀ w ∈ u_ws RX12 TX12 42, w ∈ (wu yX12_walkerOf cX12_walkerOf 3 (some .int)) := fun _ h => List.mem_cons_of_mem _ (up_71 h)
  have hM : TT (fun n => m_X12_walkerOf n 0 0 0 (sL w0)) (fun n => m_X12_walkerOf n 0 0 0 (sL w0)) := TT.rf
  refine lv_aload_n hx hb dX12_walkerOf_0 rfl (lv_at hl 0 rfl) ?_
  refine tk_getA hC hK hw hT hinX12 kM_at0 (by decide) rfl 26 (by decide) (List.mem_cons_of_mem _ uw_7_1) rfl rfl dX12_walkerOf_1 ?_
  refine lv_sipush (v := 216) hx hb dX12_walkerOf_4 (by decide) ?_
  refine lv_bipush (v := 9) hx hb dX12_walkerOf_7 (by decide) ?_
  refine lv_iload_n hx hb dX12_walkerOf_9 rfl (lv_at hl 1 rfl) ?_
  refine lv_imul hx hb dX12_walkerOf_10 ?_
  refine wk_top 0 (by decide) ?_
  replace hM := hM.lt (v := 0) (by decide)
  refine lv_iadd hx hb dX12_walkerOf_11 ?_
  refine wk_top 216 (by decide) ?_
  replace hM := hM.lt (v := 216) (by decide)
  refine lv_iload_n hx hb dX12_walkerOf_12 rfl (lv_at hl 2 rfl) ?_
  refine lv_iadd hx hb dX12_walkerOf_13 ?_
  refine wk_top 216 (by decide) ?_
  replace hM := hM.lt (v := 216) (by decide)
  refine tk_ialdR hC hK hw hT kM_at12 rfl (by decide) (by decide) dX12_walkerOf_14 (fun x1 c2 Ex1 => ?_)
  have hox1 := c2
  replace hM := hM.rd (sL_at (kM_lt kM_at12) hox1)
  have bx1 := tk_rgI rfl 216 1 1 0 9 (by decide +kernel) ⟨0, by decide, by decide⟩ Ex1
  have c2 : gi w0 12 216 = x1 := c2
  exact tk_iret hC hr hlocks hK ⟨rfl, hM.ret rfl, ⟨(show 0 ≤ x1.toInt by first | with_reducible assumption | omega), (show x1.toInt ≤ 9 by first | with_reducible assumption | omega), c2⟩⟩ hw dX12_walkerOf_15
abbrev Py_X12_walkerOf_2 (ad : Nat → Nat) (cy : Nat → ClassId) (B : Int) (qr : Nat) (s1 : Int)  (w0 : va_W) : Int32 → va_W → Prop := fun r u => w0 = u ∧ Ev (fun n => m_X12_walkerOf n 0 0 1 (sL w0)) (r.toInt, sL w0) ∧ ((0 ≤ r.toInt ∧ r.toInt ≤ 9 ∧ gi u 12 217 = r))
set_option maxHeartbeats 4000000 in
set_option maxRecDepth 100000 in
theorem ky_X12_walkerOf_2 (l : Launch) (adK adV : Nat → Nat) (dC : Nat → ClassId) (dI : Nat → Nat → Nat) (cy : Nat → ClassId) (ad : Nat → Nat) (B : Int) (hB0 : 100000 ≤ B) (hB1 : B ≤ 1073741824) (qr : Nat) (s1 : Int)   (w0 : va_W) (sz : Nat) (hT : TW ksM ad cy B qr 12 w0)  : Met l yX12_walkerOf (wu yX12_walkerOf cX12_walkerOf 3 (some .int)) ({ frames := 1, cells := 0, slots := 0, locals := 12 }) (va_Pc [.ref (ad 0), .int 0, .int 1] (wpreS adK adV dC dI cy sz w0)) (va_Qi (Py_X12_walkerOf_2 ad cy B qr s1  w0) (fun u : va_W => wpost dC dI cy (va_A w0 sz) u) (va_A w0 sz)) 0 0 (va_A w0 sz) := by
  refine Met.ofW (cc := cX12_walkerOf) (maxL := 3) (ret := (some .int)) (by decide) rfl ?_
  intro p e s m args below meth c s₁ Bk hml hv
  obtain ⟨rfl, ⟨hsz, hP, hK, hD0⟩, hE, hSR⟩ := hv
  have hx := Bk.exec
  have hb := Bk.bytes
  have hr := Bk.returns
  have hlocks := Bk.notSynchronized
  have hC : CallFix p m c cX12_walkerOf 3 s _ (wu yX12_walkerOf cX12_walkerOf 3 (some .int)) RX12 := ⟨hx, hb, hml, findClass_of_methodNamed Bk.named, atoms_spec (ws := (wu yX12_walkerOf cX12_walkerOf 3 (some .int))) Bk.pre⟩
  subst hsz
  have hD := hD0.self (sz := s.heap.size)
  generalize hAe : va_A w0 s.heap.size = A at hD hE ⊢
  have hA : ∀ q : Nat, s.heap.size ≤ q → A q := fun q h => by rw [← hAe]; exact Or.inr h
  have hw : Wd dC dI A s.heap s.heap [] w0 := ⟨hP, hD, va_S.rf⟩
  have hF : FE ksM ([] : List (Nat × Nat × Nat)) w0 w0 := FE.rf
  have hl := lv_entry ([.ref (ad 0), .int 0, .int 1]) (n := 3) (Nat.le_of_ble_eq_true rfl)
  rw [lg_entry_eq]
  generalize (lg_sl ([.ref (ad 0), .int 0, .int 1]) ++ List.replicate (3 - (lg_sl ([.ref (ad 0), .int 0, .int 1])).length) Slot.unset).toArray = ls at hl ⊢
  have hl : lv_has ls 3 [(0, .ref (ad 0)), (1, .int 0), (2, .int 1)] := hl
  generalize hloc : ([] : List Loc) = locs at hw ⊢
  have hinX12 : ∀ w ∈ u_ws RX12 TX12 42, w ∈ (wu yX12_walkerOf cX12_walkerOf 3 (some .int)) := fun _ h => List.mem_cons_of_mem _ (up_71 h)
  have hM : TT (fun n => m_X12_walkerOf n 0 0 1 (sL w0)) (fun n => m_X12_walkerOf n 0 0 1 (sL w0)) := TT.rf
  refine lv_aload_n hx hb dX12_walkerOf_0 rfl (lv_at hl 0 rfl) ?_
  refine tk_getA hC hK hw hT hinX12 kM_at0 (by decide) rfl 26 (by decide) (List.mem_cons_of_mem _ uw_7_1) rfl rfl dX12_walkerOf_1 ?_
  refine lv_sipush (v := 216) hx hb dX12_walkerOf_4 (by decide) ?_
  refine lv_bipush (v := 9) hx hb dX12_walkerOf_7 (by decide) ?_
  refine lv_iload_n hx hb dX12_walkerOf_9 rfl (lv_at hl 1 rfl) ?_
  refine lv_imul hx hb dX12_walkerOf_10 ?_
  refine wk_top 0 (by decide) ?_
  replace hM := hM.lt (v := 0) (by decide)
  refine lv_iadd hx hb dX12_walkerOf_11 ?_
  refine wk_top 216 (by decide) ?_
  replace hM := hM.lt (v := 216) (by decide)
  refine lv_iload_n hx hb dX12_walkerOf_12 rfl (lv_at hl 2 rfl) ?_
  refine lv_iadd hx hb dX12_walkerOf_13 ?_
  refine wk_top 217 (by decide) ?_
  replace hM := hM.lt (v := 217) (by decide)
  refine tk_ialdR hC hK hw hT kM_at12 rfl (by decide) (by decide) dX12_walkerOf_14 (fun x1 c2 Ex1 => ?_)
  have hox1 := c2
  replace hM := hM.rd (sL_at (kM_lt kM_at12) hox1)
  have bx1 := tk_rgI rfl 217 1 1 0 9 (by decide +kernel) ⟨0, by decide, by decide⟩ Ex1
  have c2 : gi w0 12 217 = x1 := c2
  exact tk_iret hC hr hlocks hK ⟨rfl, hM.ret rfl, ⟨(show 0 ≤ x1.toInt by first | with_reducible assumption | omega), (show x1.toInt ≤ 9 by first | with_reducible assumption | omega), c2⟩⟩ hw dX12_walkerOf_15
abbrev Py_X12_isThere_1 (ad : Nat → Nat) (cy : Nat → ClassId) (B : Int) (qr : Nat) (s1 : Int)  (w0 : va_W) : Int32 → va_W → Prop := fun r u => w0 = u ∧ Ev (fun n => m_X12_isThere n 0 0 (sL w0)) (r.toInt, sL w0) ∧ ((r = 0) ∨ (r = 1))
set_option maxHeartbeats 4000000 in
set_option maxRecDepth 100000 in
theorem ky_X12_isThere_1 (l : Launch) (adK adV : Nat → Nat) (dC : Nat → ClassId) (dI : Nat → Nat → Nat) (cy : Nat → ClassId) (ad : Nat → Nat) (B : Int) (hB0 : 100000 ≤ B) (hB1 : B ≤ 1073741824) (qr : Nat) (s1 : Int)   (w0 : va_W) (sz : Nat) (hT : TW ksM ad cy B qr 12 w0)  : Met l yX12_isThere (wu yX12_isThere cX12_isThere 2 (some .boolean)) ({ frames := 2, cells := 0, slots := 0, locals := 34 }) (va_Pc [.ref (ad 0), .int 0] (wpreS adK adV dC dI cy sz w0)) (va_Qi (Py_X12_isThere_1 ad cy B qr s1  w0) (fun u : va_W => wpost dC dI cy (va_A w0 sz) u) (va_A w0 sz)) 0 0 (va_A w0 sz) := by
  refine Met.ofW (cc := cX12_isThere) (maxL := 2) (ret := (some .boolean)) (by decide) rfl ?_
  intro p e s m args below meth c s₁ Bk hml hv
  obtain ⟨rfl, ⟨hsz, hP, hK, hD0⟩, hE, hSR⟩ := hv
  have hx := Bk.exec
  have hb := Bk.bytes
  have hr := Bk.returns
  have hlocks := Bk.notSynchronized
  have hC : CallFix p m c cX12_isThere 2 s _ (wu yX12_isThere cX12_isThere 2 (some .boolean)) RX12 := ⟨hx, hb, hml, findClass_of_methodNamed Bk.named, atoms_spec (ws := (wu yX12_isThere cX12_isThere 2 (some .boolean))) Bk.pre⟩
  subst hsz
  have hD := hD0.self (sz := s.heap.size)
  generalize hAe : va_A w0 s.heap.size = A at hD hE ⊢
  have hA : ∀ q : Nat, s.heap.size ≤ q → A q := fun q h => by rw [← hAe]; exact Or.inr h
  have hw : Wd dC dI A s.heap s.heap [] w0 := ⟨hP, hD, va_S.rf⟩
  have hF : FE ksM ([] : List (Nat × Nat × Nat)) w0 w0 := FE.rf
  have hl := lv_entry ([.ref (ad 0), .int 0]) (n := 2) (Nat.le_of_ble_eq_true rfl)
  rw [lg_entry_eq]
  generalize (lg_sl ([.ref (ad 0), .int 0]) ++ List.replicate (2 - (lg_sl ([.ref (ad 0), .int 0])).length) Slot.unset).toArray = ls at hl ⊢
  have hl : lv_has ls 2 [(0, .ref (ad 0)), (1, .int 0)] := hl
  generalize hloc : ([] : List Loc) = locs at hw ⊢
  have hM : TT (fun n => m_X12_isThere n 0 0 (sL w0)) (fun n => m_X12_isThere n 0 0 (sL w0)) := TT.rf
  refine lv_aload_n hx hb dX12_isThere_0 rfl (lv_at hl 0 rfl) ?_
  refine lv_iload_n hx hb dX12_isThere_1 rfl (lv_at hl 1 rfl) ?_
  refine lv_iconst (v := 0) hx hb dX12_isThere_2 (by decide) ?_
  refine tk_Vi hC hK hw hT hA hE hSR kM_at0 (by decide) rfl (ky_X12_walkerOf_1 l adK adV dC dI cy ad B hB0 (Int.le_trans hB1 (by decide)) qr s1    w0 s.heap.size hT ) (cwV 2 hC.2.2.2.2 uV_RX12_372 rfl rfl rfl (by decide +kernel) ⟨Nat.le_of_ble_eq_true rfl, Nat.le_of_ble_eq_true rfl⟩) rfl hl.1 rfl (Nat.le_of_ble_eq_true rfl) dX12_isThere_3 (fun r1 w3 H locs hp2 hw => ?_)
  obtain ⟨rfl, hv9, hg8⟩ := hp2
  obtain ⟨g5, g6, c7⟩ := hg8
  replace hM := hM.call hv9 rfl
  refine lv_aload_n hx hb dX12_isThere_6 rfl (lv_at hl 0 rfl) ?_
  refine lv_iload_n hx hb dX12_isThere_7 rfl (lv_at hl 1 rfl) ?_
  refine lv_iconst (v := 1) hx hb dX12_isThere_8 (by decide) ?_
  refine tk_Vi hC hK hw hT hA hE hSR kM_at0 (by decide) rfl (ky_X12_walkerOf_2 l adK adV dC dI cy ad B hB0 (Int.le_trans hB1 (by decide)) qr s1    w0 H.size hT ) (cwV 2 hC.2.2.2.2 uV_RX12_372 rfl rfl rfl (by decide +kernel) ⟨Nat.le_of_ble_eq_true rfl, Nat.le_of_ble_eq_true rfl⟩) rfl hl.1 rfl (Nat.le_of_ble_eq_true rfl) dX12_isThere_9 (fun r10 w12 H locs hp11 hw => ?_)
  obtain ⟨rfl, hv18, hg17⟩ := hp11
  obtain ⟨g14, g15, c16⟩ := hg17
  replace hM := hM.call hv18 rfl
  refine lv_icmp_ne (tgt := 19) hx hb dX12_isThere_12 (by decide) (fun c19 => ?_) (fun c19 => ?_)
  · have c19 : ¬ r1.toInt = r10.toInt := wk_eqF c19
    replace hM := hM.pos c19
    refine lv_iconst (v := 0) hx hb dX12_isThere_19 (by decide) ?_
    exact tk_zret hC hr rfl hlocks hK ⟨rfl, hM.ret (by decide), (Or.inl rfl)⟩ hw dX12_isThere_20
  · have c19 : r1.toInt = r10.toInt := wk_eq.mp c19
    replace hM := hM.neg (fun q => q c19)
    refine lv_iconst (v := 1) hx hb dX12_isThere_15 (by decide) ?_
    refine lv_goto (tgt := 20) hx hb dX12_isThere_16 (by decide) ?_
    exact tk_zret hC hr rfl hlocks hK ⟨rfl, hM.ret (by decide), (Or.inr rfl)⟩ hw dX12_isThere_20
abbrev Py_X12_walkerOf_3 (ad : Nat → Nat) (cy : Nat → ClassId) (B : Int) (qr : Nat) (s1 : Int)  (w0 : va_W) : Int32 → va_W → Prop := fun r u => w0 = u ∧ Ev (fun n => m_X12_walkerOf n 0 0 4 (sL w0)) (r.toInt, sL w0) ∧ ((0 ≤ r.toInt ∧ r.toInt ≤ 1073741824 ∧ gi u 12 220 = r))
set_option maxHeartbeats 4000000 in
set_option maxRecDepth 100000 in
theorem ky_X12_walkerOf_3 (l : Launch) (adK adV : Nat → Nat) (dC : Nat → ClassId) (dI : Nat → Nat → Nat) (cy : Nat → ClassId) (ad : Nat → Nat) (B : Int) (hB0 : 100000 ≤ B) (hB1 : B ≤ 1073741824) (qr : Nat) (s1 : Int)   (w0 : va_W) (sz : Nat) (hT : TW ksM ad cy B qr 12 w0)  : Met l yX12_walkerOf (wu yX12_walkerOf cX12_walkerOf 3 (some .int)) ({ frames := 1, cells := 0, slots := 0, locals := 12 }) (va_Pc [.ref (ad 0), .int 0, .int 4] (wpreS adK adV dC dI cy sz w0)) (va_Qi (Py_X12_walkerOf_3 ad cy B qr s1  w0) (fun u : va_W => wpost dC dI cy (va_A w0 sz) u) (va_A w0 sz)) 0 0 (va_A w0 sz) := by
  refine Met.ofW (cc := cX12_walkerOf) (maxL := 3) (ret := (some .int)) (by decide) rfl ?_
  intro p e s m args below meth c s₁ Bk hml hv
  obtain ⟨rfl, ⟨hsz, hP, hK, hD0⟩, hE, hSR⟩ := hv
  have hx := Bk.exec
  have hb := Bk.bytes
  have hr := Bk.returns
  have hlocks := Bk.notSynchronized
  have hC : CallFix p m c cX12_walkerOf 3 s _ (wu yX12_walkerOf cX12_walkerOf 3 (some .int)) RX12 := ⟨hx, hb, hml, findClass_of_methodNamed Bk.named, atoms_spec (ws := (wu yX12_walkerOf cX12_walkerOf 3 (some .int))) Bk.pre⟩
  subst hsz
  have hD := hD0.self (sz := s.heap.size)
  generalize hAe : va_A w0 s.heap.size = A at hD hE ⊢
  have hA : ∀ q : Nat, s.heap.size ≤ q → A q := fun q h => by rw [← hAe]; exact Or.inr h
  have hw : Wd dC dI A s.heap s.heap [] w0 := ⟨hP, hD, va_S.rf⟩
  have hF : FE ksM ([] : List (Nat × Nat × Nat)) w0 w0 := FE.rf
  have hl := lv_entry ([.ref (ad 0), .int 0, .int 4]) (n := 3) (Nat.le_of_ble_eq_true rfl)
  rw [lg_entry_eq]
  generalize (lg_sl ([.ref (ad 0), .int 0, .int 4]) ++ List.replicate (3 - (lg_sl ([.ref (ad 0), .int 0, .int 4])).length) Slot.unset).toArray = ls at hl ⊢
  have hl : lv_has ls 3 [(0, .ref (ad 0)), (1, .int 0), (2, .int 4)] := hl
  generalize hloc : ([] : List Loc) = locs at hw ⊢
  have hinX12 : ∀ w ∈ u_ws RX12 TX12 42, w ∈ (wu yX12_walkerOf cX12_walkerOf 3 (some .int)) := fun _ h => List.mem_cons_of_mem _ (up_71 h)
  have hM : TT (fun n => m_X12_walkerOf n 0 0 4 (sL w0)) (fun n => m_X12_walkerOf n 0 0 4 (sL w0)) := TT.rf
  refine lv_aload_n hx hb dX12_walkerOf_0 rfl (lv_at hl 0 rfl) ?_
  refine tk_getA hC hK hw hT hinX12 kM_at0 (by decide) rfl 26 (by decide) (List.mem_cons_of_mem _ uw_7_1) rfl rfl dX12_walkerOf_1 ?_
  refine lv_sipush (v := 216) hx hb dX12_walkerOf_4 (by decide) ?_
  refine lv_bipush (v := 9) hx hb dX12_walkerOf_7 (by decide) ?_
  refine lv_iload_n hx hb dX12_walkerOf_9 rfl (lv_at hl 1 rfl) ?_
  refine lv_imul hx hb dX12_walkerOf_10 ?_
  refine wk_top 0 (by decide) ?_
  replace hM := hM.lt (v := 0) (by decide)
  refine lv_iadd hx hb dX12_walkerOf_11 ?_
  refine wk_top 216 (by decide) ?_
  replace hM := hM.lt (v := 216) (by decide)
  refine lv_iload_n hx hb dX12_walkerOf_12 rfl (lv_at hl 2 rfl) ?_
  refine lv_iadd hx hb dX12_walkerOf_13 ?_
  refine wk_top 220 (by decide) ?_
  replace hM := hM.lt (v := 220) (by decide)
  refine tk_ialdR hC hK hw hT kM_at12 rfl (by decide) (by decide) dX12_walkerOf_14 (fun x1 c2 Ex1 => ?_)
  have hox1 := c2
  replace hM := hM.rd (sL_at (kM_lt kM_at12) hox1)
  have bx1 := (tk_rgB rfl 220 1 1 (by decide +kernel) ⟨0, by decide, by decide⟩).mp Ex1
  have c2 : gi w0 12 220 = x1 := c2
  exact tk_iret hC hr hlocks hK ⟨rfl, hM.ret rfl, ⟨(show 0 ≤ x1.toInt by first | with_reducible assumption | omega), (show x1.toInt ≤ 1073741824 by first | with_reducible assumption | omega), c2⟩⟩ hw dX12_walkerOf_15
abbrev Py_X12_streetOf_1 (ad : Nat → Nat) (cy : Nat → ClassId) (B : Int) (qr : Nat) (s1 : Int) (a1 : Int32) (a2 : Int32) (w0 : va_W) : Int32 → va_W → Prop := fun r u => w0 = u ∧ Ev (fun n => m_X12_streetOf n 0 a1.toInt a2.toInt (sL w0)) (r.toInt, sL w0) ∧ ((0 ≤ r.toInt ∧ r.toInt ≤ 9 ∧ gi u 12 (10 * a1.toInt + 1 * a2.toInt + 10).toNat = r))
set_option maxHeartbeats 4000000 in
set_option maxRecDepth 100000 in
theorem ky_X12_streetOf_1 (l : Launch) (adK adV : Nat → Nat) (dC : Nat → ClassId) (dI : Nat → Nat → Nat) (cy : Nat → ClassId) (ad : Nat → Nat) (B : Int) (hB0 : 100000 ≤ B) (hB1 : B ≤ 1073741824) (qr : Nat) (s1 : Int)  (a1 : Int32) (ra1 : 0 ≤ a1.toInt) (ta1 : a1.toInt ≤ 11) (a2 : Int32) (ra2 : 0 ≤ a2.toInt) (ta2 : a2.toInt ≤ 1) (w0 : va_W) (sz : Nat) (hT : TW ksM ad cy B qr 12 w0)  : Met l yX12_streetOf (wu yX12_streetOf cX12_streetOf 3 (some .int)) ({ frames := 1, cells := 0, slots := 0, locals := 12 }) (va_Pc [.ref (ad 0), .int a1, .int a2] (wpreS adK adV dC dI cy sz w0)) (va_Qi (Py_X12_streetOf_1 ad cy B qr s1 a1 a2 w0) (fun u : va_W => wpost dC dI cy (va_A w0 sz) u) (va_A w0 sz)) 0 0 (va_A w0 sz) := by
  refine Met.ofW (cc := cX12_streetOf) (maxL := 3) (ret := (some .int)) (by decide) rfl ?_
  intro p e s m args below meth c s₁ Bk hml hv
  obtain ⟨rfl, ⟨hsz, hP, hK, hD0⟩, hE, hSR⟩ := hv
  have hx := Bk.exec
  have hb := Bk.bytes
  have hr := Bk.returns
  have hlocks := Bk.notSynchronized
  have hC : CallFix p m c cX12_streetOf 3 s _ (wu yX12_streetOf cX12_streetOf 3 (some .int)) RX12 := ⟨hx, hb, hml, findClass_of_methodNamed Bk.named, atoms_spec (ws := (wu yX12_streetOf cX12_streetOf 3 (some .int))) Bk.pre⟩
  subst hsz
  have hD := hD0.self (sz := s.heap.size)
  generalize hAe : va_A w0 s.heap.size = A at hD hE ⊢
  have hA : ∀ q : Nat, s.heap.size ≤ q → A q := fun q h => by rw [← hAe]; exact Or.inr h
  have hw : Wd dC dI A s.heap s.heap [] w0 := ⟨hP, hD, va_S.rf⟩
  have hF : FE ksM ([] : List (Nat × Nat × Nat)) w0 w0 := FE.rf
  have hl := lv_entry ([.ref (ad 0), .int a1, .int a2]) (n := 3) (Nat.le_of_ble_eq_true rfl)
  rw [lg_entry_eq]
  generalize (lg_sl ([.ref (ad 0), .int a1, .int a2]) ++ List.replicate (3 - (lg_sl ([.ref (ad 0), .int a1, .int a2])).length) Slot.unset).toArray = ls at hl ⊢
  have hl : lv_has ls 3 [(0, .ref (ad 0)), (1, .int a1), (2, .int a2)] := hl
  generalize hloc : ([] : List Loc) = locs at hw ⊢
  have hinX12 : ∀ w ∈ u_ws RX12 TX12 42, w ∈ (wu yX12_streetOf cX12_streetOf 3 (some .int)) := fun _ h => List.mem_cons_of_mem _ (up_71 h)
  have hM : TT (fun n => m_X12_streetOf n 0 a1.toInt a2.toInt (sL w0)) (fun n => m_X12_streetOf n 0 a1.toInt a2.toInt (sL w0)) := TT.rf
  refine lv_aload_n hx hb dX12_streetOf_0 rfl (lv_at hl 0 rfl) ?_
  refine tk_getA hC hK hw hT hinX12 kM_at0 (by decide) rfl 26 (by decide) (List.mem_cons_of_mem _ uw_7_1) rfl rfl dX12_streetOf_1 ?_
  refine lv_bipush (v := 10) hx hb dX12_streetOf_4 (by decide) ?_
  refine lv_bipush (v := 10) hx hb dX12_streetOf_6 (by decide) ?_
  refine lv_iload_n hx hb dX12_streetOf_8 rfl (lv_at hl 1 rfl) ?_
  refine lv_imul hx hb dX12_streetOf_9 ?_
  refine lv_topi (fun x1 ex1 => ?_)
  have ezx1 := ex1
  have ex1 : x1.toInt = (10 : Int) * a1.toInt := by rw [ex1]; exact wk_mul (show (-2147483648) ≤ (10 : Int) * a1.toInt by omega) (show (10 : Int) * a1.toInt ≤ 2147483647 by omega)
  replace hM := hM.lt ex1.symm
  refine lv_iadd hx hb dX12_streetOf_10 ?_
  refine lv_topi (fun x2 ex2 => ?_)
  have ezx2 := ex2
  have ex2 : x2.toInt = (10 : Int) + x1.toInt := by rw [ex2]; exact wk_add (show (-2147483648) ≤ (10 : Int) + x1.toInt by omega) (show (10 : Int) + x1.toInt ≤ 2147483647 by omega)
  replace hM := hM.lt ex2.symm
  refine lv_iload_n hx hb dX12_streetOf_11 rfl (lv_at hl 2 rfl) ?_
  refine lv_iadd hx hb dX12_streetOf_12 ?_
  refine lv_topi (fun x3 ex3 => ?_)
  have ezx3 := ex3
  have ex3 : x3.toInt = x2.toInt + a2.toInt := by rw [ex3]; exact wk_add (show (-2147483648) ≤ x2.toInt + a2.toInt by omega) (show x2.toInt + a2.toInt ≤ 2147483647 by omega)
  replace hM := hM.lt ex3.symm
  refine tk_ialdR hC hK hw hT kM_at12 rfl (show 0 ≤ x3.toInt by first | with_reducible assumption | omega) (show x3.toInt < 296 by first | with_reducible assumption | omega) dX12_streetOf_13 (fun x4 c5 Ex4 => ?_)
  have hox4 := c5
  have c5 : gi w0 12 (10 * a1.toInt + 1 * a2.toInt + 10).toNat = x4 := (congrArg (gi w0 12) (congrArg Int.toNat (show 10 * a1.toInt + 1 * a2.toInt + 10 = x3.toInt by first | exact Int.le_antisymm (by omega) (by omega) | omega))).trans c5
  replace hM := hM.rd (sL_at (kM_lt kM_at12) hox4)
  have bx4 := tk_rgI rfl 10 1 112 0 9 (by decide +kernel) ⟨(x3.toInt - 10).toNat, by omega, show x3.toInt.toNat = 10 + 1 * (x3.toInt - 10).toNat by omega⟩ Ex4
  exact tk_iret hC hr hlocks hK ⟨rfl, hM.ret rfl, ⟨(show 0 ≤ x4.toInt by first | with_reducible assumption | omega), (show x4.toInt ≤ 9 by first | with_reducible assumption | omega), c5⟩⟩ hw dX12_streetOf_14
abbrev Py_X12_streetOf_2 (ad : Nat → Nat) (cy : Nat → ClassId) (B : Int) (qr : Nat) (s1 : Int) (a1 : Int32) (w0 : va_W) : Int32 → va_W → Prop := fun r u => w0 = u ∧ Ev (fun n => m_X12_streetOf n 0 a1.toInt 2 (sL w0)) (r.toInt, sL w0) ∧ ((0 ≤ r.toInt ∧ r.toInt ≤ 9 ∧ gi u 12 (10 * a1.toInt + 12).toNat = r))
set_option maxHeartbeats 4000000 in
set_option maxRecDepth 100000 in
theorem ky_X12_streetOf_2 (l : Launch) (adK adV : Nat → Nat) (dC : Nat → ClassId) (dI : Nat → Nat → Nat) (cy : Nat → ClassId) (ad : Nat → Nat) (B : Int) (hB0 : 100000 ≤ B) (hB1 : B ≤ 1073741824) (qr : Nat) (s1 : Int)  (a1 : Int32) (ra1 : 0 ≤ a1.toInt) (ta1 : a1.toInt ≤ 11) (w0 : va_W) (sz : Nat) (hT : TW ksM ad cy B qr 12 w0)  : Met l yX12_streetOf (wu yX12_streetOf cX12_streetOf 3 (some .int)) ({ frames := 1, cells := 0, slots := 0, locals := 12 }) (va_Pc [.ref (ad 0), .int a1, .int 2] (wpreS adK adV dC dI cy sz w0)) (va_Qi (Py_X12_streetOf_2 ad cy B qr s1 a1 w0) (fun u : va_W => wpost dC dI cy (va_A w0 sz) u) (va_A w0 sz)) 0 0 (va_A w0 sz) := by
  refine Met.ofW (cc := cX12_streetOf) (maxL := 3) (ret := (some .int)) (by decide) rfl ?_
  intro p e s m args below meth c s₁ Bk hml hv
  obtain ⟨rfl, ⟨hsz, hP, hK, hD0⟩, hE, hSR⟩ := hv
  have hx := Bk.exec
  have hb := Bk.bytes
  have hr := Bk.returns
  have hlocks := Bk.notSynchronized
  have hC : CallFix p m c cX12_streetOf 3 s _ (wu yX12_streetOf cX12_streetOf 3 (some .int)) RX12 := ⟨hx, hb, hml, findClass_of_methodNamed Bk.named, atoms_spec (ws := (wu yX12_streetOf cX12_streetOf 3 (some .int))) Bk.pre⟩
  subst hsz
  have hD := hD0.self (sz := s.heap.size)
  generalize hAe : va_A w0 s.heap.size = A at hD hE ⊢
  have hA : ∀ q : Nat, s.heap.size ≤ q → A q := fun q h => by rw [← hAe]; exact Or.inr h
  have hw : Wd dC dI A s.heap s.heap [] w0 := ⟨hP, hD, va_S.rf⟩
  have hF : FE ksM ([] : List (Nat × Nat × Nat)) w0 w0 := FE.rf
  have hl := lv_entry ([.ref (ad 0), .int a1, .int 2]) (n := 3) (Nat.le_of_ble_eq_true rfl)
  rw [lg_entry_eq]
  generalize (lg_sl ([.ref (ad 0), .int a1, .int 2]) ++ List.replicate (3 - (lg_sl ([.ref (ad 0), .int a1, .int 2])).length) Slot.unset).toArray = ls at hl ⊢
  have hl : lv_has ls 3 [(0, .ref (ad 0)), (1, .int a1), (2, .int 2)] := hl
  generalize hloc : ([] : List Loc) = locs at hw ⊢
  have hinX12 : ∀ w ∈ u_ws RX12 TX12 42, w ∈ (wu yX12_streetOf cX12_streetOf 3 (some .int)) := fun _ h => List.mem_cons_of_mem _ (up_71 h)
  have hM : TT (fun n => m_X12_streetOf n 0 a1.toInt 2 (sL w0)) (fun n => m_X12_streetOf n 0 a1.toInt 2 (sL w0)) := TT.rf
  refine lv_aload_n hx hb dX12_streetOf_0 rfl (lv_at hl 0 rfl) ?_
  refine tk_getA hC hK hw hT hinX12 kM_at0 (by decide) rfl 26 (by decide) (List.mem_cons_of_mem _ uw_7_1) rfl rfl dX12_streetOf_1 ?_
  refine lv_bipush (v := 10) hx hb dX12_streetOf_4 (by decide) ?_
  refine lv_bipush (v := 10) hx hb dX12_streetOf_6 (by decide) ?_
  refine lv_iload_n hx hb dX12_streetOf_8 rfl (lv_at hl 1 rfl) ?_
  refine lv_imul hx hb dX12_streetOf_9 ?_
  refine lv_topi (fun x1 ex1 => ?_)
  have ezx1 := ex1
  have ex1 : x1.toInt = (10 : Int) * a1.toInt := by rw [ex1]; exact wk_mul (show (-2147483648) ≤ (10 : Int) * a1.toInt by omega) (show (10 : Int) * a1.toInt ≤ 2147483647 by omega)
  replace hM := hM.lt ex1.symm
  refine lv_iadd hx hb dX12_streetOf_10 ?_
  refine lv_topi (fun x2 ex2 => ?_)
  have ezx2 := ex2
  have ex2 : x2.toInt = (10 : Int) + x1.toInt := by rw [ex2]; exact wk_add (show (-2147483648) ≤ (10 : Int) + x1.toInt by omega) (show (10 : Int) + x1.toInt ≤ 2147483647 by omega)
  replace hM := hM.lt ex2.symm
  refine lv_iload_n hx hb dX12_streetOf_11 rfl (lv_at hl 2 rfl) ?_
  refine lv_iadd hx hb dX12_streetOf_12 ?_
  refine lv_topi (fun x3 ex3 => ?_)
  have ezx3 := ex3
  have ex3 : x3.toInt = x2.toInt + (2 : Int) := by rw [ex3]; exact wk_add (show (-2147483648) ≤ x2.toInt + (2 : Int) by omega) (show x2.toInt + (2 : Int) ≤ 2147483647 by omega)
  replace hM := hM.lt ex3.symm
  refine tk_ialdR hC hK hw hT kM_at12 rfl (show 0 ≤ x3.toInt by first | with_reducible assumption | omega) (show x3.toInt < 296 by first | with_reducible assumption | omega) dX12_streetOf_13 (fun x4 c5 Ex4 => ?_)
  have hox4 := c5
  have c5 : gi w0 12 (10 * a1.toInt + 12).toNat = x4 := (congrArg (gi w0 12) (congrArg Int.toNat (show 10 * a1.toInt + 12 = x3.toInt by first | exact Int.le_antisymm (by omega) (by omega) | omega))).trans c5
  replace hM := hM.rd (sL_at (kM_lt kM_at12) hox4)
  have bx4 := tk_rgI rfl 12 10 12 0 9 (by decide +kernel) ⟨(a1.toInt - 0).toNat, by omega, show x3.toInt.toNat = 12 + 10 * (a1.toInt - 0).toNat by omega⟩ Ex4
  exact tk_iret hC hr hlocks hK ⟨rfl, hM.ret rfl, ⟨(show 0 ≤ x4.toInt by first | with_reducible assumption | omega), (show x4.toInt ≤ 9 by first | with_reducible assumption | omega), c5⟩⟩ hw dX12_streetOf_14
abbrev Py_X12_isOf_1 (ad : Nat → Nat) (cy : Nat → ClassId) (B : Int) (qr : Nat) (s1 : Int) (a0 : Int32) (a1 : Int32) (w0 : va_W) : Int32 → va_W → Prop := fun r u => w0 = u ∧ Ev (fun n => m_X12_isOf n a0.toInt a1.toInt (sL w0)) (r.toInt, sL w0) ∧ ((r = 0 ∧ (¬ mOf a0 a1)) ∨ (r = 1 ∧ (mOf a0 a1)))
set_option maxHeartbeats 4000000 in
set_option maxRecDepth 100000 in
theorem ky_X12_isOf_1 (l : Launch) (adK adV : Nat → Nat) (dC : Nat → ClassId) (dI : Nat → Nat → Nat) (cy : Nat → ClassId) (ad : Nat → Nat) (B : Int) (hB0 : 100000 ≤ B) (hB1 : B ≤ 1073741824) (qr : Nat) (s1 : Int)  (a0 : Int32) (a1 : Int32) (ra1 : 0 ≤ a1.toInt) (ta1 : a1.toInt ≤ 1) (w0 : va_W) (sz : Nat) (hT : TW ksM ad cy B qr 12 w0)  : Met l yX12_isOf (wu yX12_isOf cX12_isOf 2 (some .boolean)) ({ frames := 1, cells := 0, slots := 0, locals := 12 }) (va_Pc [.int a0, .int a1] (wpreS adK adV dC dI cy sz w0)) (va_Qi (Py_X12_isOf_1 ad cy B qr s1 a0 a1 w0) (fun u : va_W => wpost dC dI cy (va_A w0 sz) u) (va_A w0 sz)) 0 0 (va_A w0 sz) := by
  refine Met.ofW (cc := cX12_isOf) (maxL := 2) (ret := (some .boolean)) (by decide) rfl ?_
  intro p e s m args below meth c s₁ Bk hml hv
  obtain ⟨rfl, ⟨hsz, hP, hK, hD0⟩, hE, hSR⟩ := hv
  have hx := Bk.exec
  have hb := Bk.bytes
  have hr := Bk.returns
  have hlocks := Bk.notSynchronized
  have hC : CallFix p m c cX12_isOf 2 s _ (wu yX12_isOf cX12_isOf 2 (some .boolean)) RX12 := ⟨hx, hb, hml, findClass_of_methodNamed Bk.named, atoms_spec (ws := (wu yX12_isOf cX12_isOf 2 (some .boolean))) Bk.pre⟩
  subst hsz
  have hD := hD0.self (sz := s.heap.size)
  generalize hAe : va_A w0 s.heap.size = A at hD hE ⊢
  have hA : ∀ q : Nat, s.heap.size ≤ q → A q := fun q h => by rw [← hAe]; exact Or.inr h
  have hw : Wd dC dI A s.heap s.heap [] w0 := ⟨hP, hD, va_S.rf⟩
  have hF : FE ksM ([] : List (Nat × Nat × Nat)) w0 w0 := FE.rf
  have hl := lv_entry ([.int a0, .int a1]) (n := 2) (Nat.le_of_ble_eq_true rfl)
  rw [lg_entry_eq]
  generalize (lg_sl ([.int a0, .int a1]) ++ List.replicate (2 - (lg_sl ([.int a0, .int a1])).length) Slot.unset).toArray = ls at hl ⊢
  have hl : lv_has ls 2 [(0, .int a0), (1, .int a1)] := hl
  generalize hloc : ([] : List Loc) = locs at hw ⊢
  have hM : TT (fun n => m_X12_isOf n a0.toInt a1.toInt (sL w0)) (fun n => m_X12_isOf n a0.toInt a1.toInt (sL w0)) := TT.rf
  refine lv_iload_n hx hb dX12_isOf_0 rfl (lv_at hl 0 rfl) ?_
  refine lv_iload_n hx hb dX12_isOf_1 rfl (lv_at hl 1 rfl) ?_
  refine lv_ishr hx hb dX12_isOf_2 ?_
  refine lv_topi (fun x1 ex1 => ?_)
  have ezx1 := ex1
  replace hM := hM.lt (o32_e (f := fun x y => x >>> (y &&& 31)) ezx1 rfl rfl)
  refine lv_iconst (v := 1) hx hb dX12_isOf_3 (by decide) ?_
  refine lv_iand hx hb dX12_isOf_4 ?_
  refine lv_topi (fun x2 ex2 => ?_)
  have ezx2 := ex2
  have bx2 : 0 ≤ x2.toInt ∧ x2.toInt ≤ (1 : Int) := by rw [ex2]; exact wk_and (by decide)
  replace hM := hM.lt (o32_e (f := fun x y => x &&& y) ezx2 rfl (by decide))
  refine lv_iconst (v := 1) hx hb dX12_isOf_5 (by decide) ?_
  refine lv_icmp_ne (tgt := 13) hx hb dX12_isOf_6 (by decide) (fun c3 => ?_) (fun c3 => ?_)
  · have c3 : ¬ x2.toInt = (1 : Int) := wk_eqF c3
    replace hM := hM.pos c3
    refine lv_iconst (v := 0) hx hb dX12_isOf_13 (by decide) ?_
    exact tk_zret hC hr rfl hlocks hK ⟨rfl, hM.ret (by decide), (Or.inl ⟨rfl, (by unfold mOf; rw [← ex1, ← ex2]; omega)⟩)⟩ hw dX12_isOf_14
  · have c3 : x2.toInt = (1 : Int) := wk_eq.mp c3
    replace hM := hM.neg (fun q => q c3)
    refine lv_iconst (v := 1) hx hb dX12_isOf_9 (by decide) ?_
    refine lv_goto (tgt := 14) hx hb dX12_isOf_10 (by decide) ?_
    exact tk_zret hC hr rfl hlocks hK ⟨rfl, hM.ret (by decide), (Or.inr ⟨rfl, (by unfold mOf; rw [← ex1, ← ex2]; omega)⟩)⟩ hw dX12_isOf_14
abbrev Py_X12_spreads_1 (ad : Nat → Nat) (cy : Nat → ClassId) (B : Int) (qr : Nat) (s1 : Int) (a1 : Int32) (w0 : va_W) : va_W → Prop := fun u => TW ksM ad cy B qr 12 u ∧ FE ksM [(73, 0, 10)] w0 u ∧ Ev (fun n => m_X12_spreads n 0 a1.toInt (sL w0)) (0, sL u) ∧ ((True))
set_option maxHeartbeats 4000000 in
set_option maxRecDepth 100000 in
theorem ky_X12_spreads_1 (l : Launch) (adK adV : Nat → Nat) (dC : Nat → ClassId) (dI : Nat → Nat → Nat) (cy : Nat → ClassId) (ad : Nat → Nat) (B : Int) (hB0 : 100000 ≤ B) (hB1 : B ≤ 1073741824) (qr : Nat) (s1 : Int)  (a1 : Int32) (ra1 : 0 ≤ a1.toInt) (ta1 : a1.toInt ≤ 9) (w0 : va_W) (sz : Nat) (hT : TW ksM ad cy B qr 12 w0)  : Met l yX12_spreads (wu yX12_spreads cX12_spreads 7 none) ({ frames := 2, cells := 0, slots := 0, locals := 34 }) (va_Pc [.ref (ad 0), .int a1] (wpreS adK adV dC dI cy sz w0)) (va_Qv (Py_X12_spreads_1 ad cy B qr s1 a1 w0) (fun u : va_W => wpost dC dI cy (va_A w0 sz) u) (va_A w0 sz)) 0 0 (va_A w0 sz) := by
  refine Met.ofW (cc := cX12_spreads) (maxL := 7) (ret := none) (by decide) rfl ?_
  intro p e s m args below meth c s₁ Bk hml hv
  obtain ⟨rfl, ⟨hsz, hP, hK, hD0⟩, hE, hSR⟩ := hv
  have hx := Bk.exec
  have hb := Bk.bytes
  have hr := Bk.returns
  have hlocks := Bk.notSynchronized
  have hC : CallFix p m c cX12_spreads 7 s _ (wu yX12_spreads cX12_spreads 7 none) RX12 := ⟨hx, hb, hml, findClass_of_methodNamed Bk.named, atoms_spec (ws := (wu yX12_spreads cX12_spreads 7 none)) Bk.pre⟩
  subst hsz
  have hD := hD0.self (sz := s.heap.size)
  generalize hAe : va_A w0 s.heap.size = A at hD hE ⊢
  have hA : ∀ q : Nat, s.heap.size ≤ q → A q := fun q h => by rw [← hAe]; exact Or.inr h
  have hw : Wd dC dI A s.heap s.heap [] w0 := ⟨hP, hD, va_S.rf⟩
  have hF : FE ksM [(73, 0, 10)] w0 w0 := FE.rf
  have hl := lv_entry ([.ref (ad 0), .int a1]) (n := 7) (Nat.le_of_ble_eq_true rfl)
  rw [lg_entry_eq]
  generalize (lg_sl ([.ref (ad 0), .int a1]) ++ List.replicate (7 - (lg_sl ([.ref (ad 0), .int a1])).length) Slot.unset).toArray = ls at hl ⊢
  have hl : lv_has ls 7 [(0, .ref (ad 0)), (1, .int a1)] := hl
  generalize hloc : ([] : List Loc) = locs at hw ⊢
  have hinX12 : ∀ w ∈ u_ws RX12 TX12 42, w ∈ (wu yX12_spreads cX12_spreads 7 none) := fun _ h => List.mem_cons_of_mem _ (up_71 h)
  have L34 : ∀ (n34 : Nat) (v34_2 : Int32) (H : Heap) (locs : List Loc) (ls : Array Slot) (w1 : va_W), 0 ≤ a1.toInt → a1.toInt ≤ 9 → 0 ≤ v34_2.toInt → v34_2.toInt ≤ 1 → (0 ≤ (sumG 14 10 w1)) → (2 * (sumG 14 10 w1) + v34_2.toInt).toNat < n34 → Wd dC dI A s.heap H locs w1 → TW ksM ad cy B qr 12 w1 → FE ksM [(73, 0, 10)] w0 w1 → TT (fun n => m_X12_spreads n 0 a1.toInt (sL w0)) (fun n => j_X12_spreads 0 n 34 [v34_2.toInt] (sL w1)) → lv_has ls 7 [(0, .ref (ad 0)), (1, .int a1), (2, .int v34_2)] → W p l e ({ frames := 2, cells := 0, slots := 0, locals := 34 }) s m (List.toArray [.ref (ad 0), .int a1]) below meth c H locs 0 0 (MQ below (va_Qv (Py_X12_spreads_1 ad cy B qr s1 a1 w0) (fun u : va_W => wpost dC dI cy A u) A) (List.toArray [.ref (ad 0), .int a1]) s 0 0 A) (F0 m 34 ls []) := by
    intro n34
    induction n34 with
    | zero => intro v34_2 H locs ls w1 r2 t3 r4 t5 hcr34_0 hm34 hw hT hF hM hl; omega
    | succ n34 ih34 =>
      intro v34_2 H locs ls w1 r2 t3 r4 t5 hcr34_0 hm34 hw hT hF hM hl
      have L42 : ∀ (n42 : Nat) (v42_2 : Int32) (v42_3 : Int32) (H : Heap) (locs : List Loc) (ls : Array Slot) (w6 : va_W), 0 ≤ a1.toInt → a1.toInt ≤ 9 → 0 ≤ v42_2.toInt → v42_2.toInt ≤ 1 → 0 ≤ v42_3.toInt → v42_3.toInt ≤ 12 → ((sumG 14 10 w6) + v42_2.toInt ≤ (sumG 14 10 w1)) → (1 ≤ v34_2.toInt) → (12 - v42_3.toInt).toNat < n42 → Wd dC dI A s.heap H locs w6 → TW ksM ad cy B qr 12 w6 → FE ksM [(73, 0, 10)] w0 w6 → TT (fun n => m_X12_spreads n 0 a1.toInt (sL w0)) (fun n => j_X12_spreads 0 n 42 [v42_2.toInt, v42_3.toInt] (sL w6)) → lv_has ls 7 [(0, .ref (ad 0)), (1, .int a1), (2, .int v42_2), (3, .int v42_3)] → W p l e ({ frames := 2, cells := 0, slots := 0, locals := 34 }) s m (List.toArray [.ref (ad 0), .int a1]) below meth c H locs 0 0 (MQ below (va_Qv (Py_X12_spreads_1 ad cy B qr s1 a1 w0) (fun u : va_W => wpost dC dI cy A u) A) (List.toArray [.ref (ad 0), .int a1]) s 0 0 A) (F0 m 42 ls []) := by
        intro n42
        induction n42 with
        | zero => intro v42_2 v42_3 H locs ls w6 r7 t8 r9 t10 r11 t12 hcr42_0 hcr42_1 hm42 hw hT hF hM hl; omega
        | succ n42 ih42 =>
          intro v42_2 v42_3 H locs ls w6 r7 t8 r9 t10 r11 t12 hcr42_0 hcr42_1 hm42 hw hT hF hM hl
          have L55 : ∀ (n55 : Nat) (v55_2 : Int32) (v55_4 : Int32) (f55_12_1 : Int32) (H : Heap) (locs : List Loc) (ls : Array Slot) (w13 : va_W), 0 ≤ a1.toInt → a1.toInt ≤ 9 → 0 ≤ v55_2.toInt → v55_2.toInt ≤ 1 → 0 ≤ v42_3.toInt → v42_3.toInt ≤ 11 → 0 ≤ v55_4.toInt → v55_4.toInt ≤ 2 → 1 ≤ f55_12_1.toInt → f55_12_1.toInt ≤ 12 → ((sumG 14 10 w13) + v55_2.toInt ≤ (sumG 14 10 w1)) → (2 - v55_4.toInt).toNat < n55 → Wd dC dI A s.heap H locs w13 → TW ksM ad cy B qr 12 w13 → FE ksM [(73, 0, 10)] w0 w13 → gi w13 12 1 = f55_12_1 → TT (fun n => m_X12_spreads n 0 a1.toInt (sL w0)) (fun n => j_X12_spreads 0 n 55 [v55_2.toInt, v42_3.toInt, v55_4.toInt] (sL w13)) → lv_has ls 7 [(0, .ref (ad 0)), (1, .int a1), (2, .int v55_2), (3, .int v42_3), (4, .int v55_4)] → W p l e ({ frames := 2, cells := 0, slots := 0, locals := 34 }) s m (List.toArray [.ref (ad 0), .int a1]) below meth c H locs 0 0 (MQ below (va_Qv (Py_X12_spreads_1 ad cy B qr s1 a1 w0) (fun u : va_W => wpost dC dI cy A u) A) (List.toArray [.ref (ad 0), .int a1]) s 0 0 A) (F0 m 55 ls []) := by
            intro n55
            induction n55 with
            | zero => intro v55_2 v55_4 f55_12_1 H locs ls w13 r14 t15 r16 t17 r18 t19 r20 t21 r22 t23 hcr55_0 hm55 hw hT hF c24 hM hl; omega
            | succ n55 ih55 =>
              intro v55_2 v55_4 f55_12_1 H locs ls w13 r14 t15 r16 t17 r18 t19 r20 t21 r22 t23 hcr55_0 hm55 hw hT hF c24 hM hl
              have J133 : ∀ (v133_2 : Int32) (v133_5 : Int32) (v133_6 : Int32) (f133_12__10_v42_3_toInt_1_v55_4_toInt_10_toNat : Int32) (f133_12__10_v42_3_toInt_12_toNat : Int32) (H : Heap) (locs : List Loc) (ls : Array Slot) (w25 : va_W), 0 ≤ a1.toInt → a1.toInt ≤ 9 → 0 ≤ v133_2.toInt → v133_2.toInt ≤ 1 → 0 ≤ v42_3.toInt → v42_3.toInt ≤ 11 → 0 ≤ v55_4.toInt → v55_4.toInt ≤ 1 → 0 ≤ v133_5.toInt → v133_5.toInt ≤ 9 → 0 ≤ v133_6.toInt → v133_6.toInt ≤ 100000109 → 0 ≤ f133_12__10_v42_3_toInt_1_v55_4_toInt_10_toNat.toInt → f133_12__10_v42_3_toInt_1_v55_4_toInt_10_toNat.toInt ≤ 9 → 0 ≤ f133_12__10_v42_3_toInt_12_toNat.toInt → f133_12__10_v42_3_toInt_12_toNat.toInt ≤ 9 → 1 ≤ f55_12_1.toInt → f55_12_1.toInt ≤ 12 → ((sumG 14 10 w25) + v133_2.toInt ≤ (sumG 14 10 w1)) → Wd dC dI A s.heap H locs w25 → TW ksM ad cy B qr 12 w25 → FE ksM [(73, 0, 10)] w0 w25 → gi w25 12 (10 * v42_3.toInt + 1 * v55_4.toInt + 10).toNat = f133_12__10_v42_3_toInt_1_v55_4_toInt_10_toNat → gi w25 12 (10 * v42_3.toInt + 12).toNat = f133_12__10_v42_3_toInt_12_toNat → gi w25 12 1 = f55_12_1 → TT (fun n => m_X12_spreads n 0 a1.toInt (sL w0)) (fun n => b_X12_spreads_133 (j_X12_spreads 0 n) n 0 (v133_2.toInt) (v42_3.toInt) (v55_4.toInt) (sL w25)) → lv_has ls 7 [(0, .ref (ad 0)), (1, .int a1), (2, .int v133_2), (3, .int v42_3), (4, .int v55_4), (5, .int v133_5), (6, .int v133_6)] → W p l e ({ frames := 2, cells := 0, slots := 0, locals := 34 }) s m (List.toArray [.ref (ad 0), .int a1]) below meth c H locs 0 0 (MQ below (va_Qv (Py_X12_spreads_1 ad cy B qr s1 a1 w0) (fun u : va_W => wpost dC dI cy A u) A) (List.toArray [.ref (ad 0), .int a1]) s 0 0 A) (F0 m 133 ls []) := by
                intro v133_2 v133_5 v133_6 f133_12__10_v42_3_toInt_1_v55_4_toInt_10_toNat f133_12__10_v42_3_toInt_12_toNat H locs ls w25 r26 t27 r28 t29 r30 t31 r32 t33 r34 t35 r36 t37 r38 t39 r41 t42 r44 t45 hcr133_0 hw hT hF c40 c43 c46 hM hl
                obtain ⟨x47, ex47⟩ : ∃ y : Int32, y = v55_4 + Int32.ofInt 1 := ⟨_, rfl⟩
                have erx47 := ex47
                refine lv_iinc (v := x47) (lv' := [(4, .int x47), (0, .ref (ad 0)), (1, .int a1), (2, .int v133_2), (3, .int v42_3), (5, .int v133_5), (6, .int v133_6)]) hx hb dX12_spreads_133 hl (k := 4) rfl ex47.symm (by decide) rfl (fun ls hl => ?_)
                have ex47 : x47.toInt = v55_4.toInt + 1 := by rw [ex47]; exact wk_add (y := 1) (show -2147483648 ≤ v55_4.toInt + 1 by omega) (show v55_4.toInt + 1 ≤ 2147483647 by omega)
                replace hM := hM.lt ex47.symm
                refine lv_goto (tgt := 55) hx hb dX12_spreads_136 (by decide) ?_
                have gb48 : 0 ≤ sumG 14 10 w25 ∧ sumG 14 10 w25 ≤ 1000001000 := hT.sum (lo := 0) (hi := 100000100) kM_at14 rfl (by decide) rfl
                exact ih55 v133_2 x47 f55_12_1 H locs ls w25 (show 0 ≤ a1.toInt from r26) (show a1.toInt ≤ 9 from t27) (show 0 ≤ v133_2.toInt from r28) (show v133_2.toInt ≤ 1 from t29) (show 0 ≤ v42_3.toInt from r30) (show v42_3.toInt ≤ 11 from t31) (show 0 ≤ x47.toInt by first | with_reducible assumption | omega) (show x47.toInt ≤ 2 by first | with_reducible assumption | omega) (show 1 ≤ f55_12_1.toInt from r44) (show f55_12_1.toInt ≤ 12 from t45) (show (sumG 14 10 w25) + v133_2.toInt ≤ (sumG 14 10 w1) by omega) (show (2 - x47.toInt).toNat < n55 by first | exact tn_lt hm55 (by omega) (by omega) | omega) hw hT hF c46 hM (lv_sub hl [1, 2, 3, 4, 0] rfl)
              replace hM := hM.suc (fun _ => e_X12_spreads_55)
              refine lv_iload hx hb dX12_spreads_55 (lv_at hl 4 rfl) ?_
              refine lv_iconst (v := 2) hx hb dX12_spreads_57 (by decide) ?_
              refine lv_icmp_ge (tgt := 139) hx hb dX12_spreads_58 (by decide) (fun c49 => ?_) (fun c49 => ?_)
              · have c49 : (2 : Int) ≤ v55_4.toInt := wk_le.mp c49
                replace hM := hM.pos c49
                obtain ⟨x50, ex50⟩ : ∃ y : Int32, y = v42_3 + Int32.ofInt 1 := ⟨_, rfl⟩
                have erx50 := ex50
                refine lv_iinc (v := x50) (lv' := [(3, .int x50), (0, .ref (ad 0)), (1, .int a1), (2, .int v55_2), (4, .int v55_4)]) hx hb dX12_spreads_139 hl (k := 3) rfl ex50.symm (by decide) rfl (fun ls hl => ?_)
                have ex50 : x50.toInt = v42_3.toInt + 1 := by rw [ex50]; exact wk_add (y := 1) (show -2147483648 ≤ v42_3.toInt + 1 by omega) (show v42_3.toInt + 1 ≤ 2147483647 by omega)
                replace hM := hM.lt ex50.symm
                refine lv_goto (tgt := 42) hx hb dX12_spreads_142 (by decide) ?_
                have gb51 : 0 ≤ sumG 14 10 w13 ∧ sumG 14 10 w13 ≤ 1000001000 := hT.sum (lo := 0) (hi := 100000100) kM_at14 rfl (by decide) rfl
                exact ih42 v55_2 x50 H locs ls w13 (show 0 ≤ a1.toInt from r14) (show a1.toInt ≤ 9 from t15) (show 0 ≤ v55_2.toInt from r16) (show v55_2.toInt ≤ 1 from t17) (show 0 ≤ x50.toInt by first | with_reducible assumption | omega) (show x50.toInt ≤ 12 by first | with_reducible assumption | omega) (show (sumG 14 10 w13) + v55_2.toInt ≤ (sumG 14 10 w1) by omega) (show 1 ≤ v34_2.toInt by first | with_reducible assumption | omega) (show (12 - x50.toInt).toNat < n42 by first | exact tn_lt hm42 (by omega) (by omega) | omega) hw hT hF hM (lv_sub hl [1, 2, 3, 0] rfl)
              · have c49 : v55_4.toInt < (2 : Int) := wk_leF c49
                replace hM := hM.neg (Int.not_le.mpr c49)
                refine lv_aload_n hx hb dX12_spreads_61 rfl (lv_at hl 0 rfl) ?_
                refine lv_iload_n hx hb dX12_spreads_62 rfl (lv_at hl 3 rfl) ?_
                refine lv_iload hx hb dX12_spreads_63 (lv_at hl 4 rfl) ?_
                refine tk_Vi hC hK hw hT hA hE hSR kM_at0 (by decide) rfl (ky_X12_streetOf_1 l adK adV dC dI cy ad B hB0 (Int.le_trans hB1 (by decide)) qr s1   v42_3 (show 0 ≤ v42_3.toInt from r18) (show v42_3.toInt ≤ 11 from t19) v55_4 (show 0 ≤ v55_4.toInt from r20) (show v55_4.toInt ≤ 1 by first | with_reducible assumption | omega) w13 H.size hT ) (cwV 2 hC.2.2.2.2 uV_RX12_300 rfl rfl rfl (by decide +kernel) ⟨Nat.le_of_ble_eq_true rfl, Nat.le_of_ble_eq_true rfl⟩) rfl hl.1 rfl (Nat.le_of_ble_eq_true rfl) dX12_spreads_65 (fun r52 w54 H locs hp53 hw => ?_)
                obtain ⟨rfl, hv60, hg59⟩ := hp53
                obtain ⟨g56, g57, c58⟩ := hg59
                replace hM := hM.call hv60 rfl
                refine lv_istore (lv' := [(5, .int r52), (0, .ref (ad 0)), (1, .int a1), (2, .int v55_2), (3, .int v42_3), (4, .int v55_4)]) hx hb dX12_spreads_68 hl (by decide) rfl (fun ls hl => ?_)
                refine lv_aload_n hx hb dX12_spreads_70 rfl (lv_at hl 1 rfl) ?_
                refine tk_getA hC hK hw hT hinX12 kM_at0 (by decide) rfl 29 (by decide) (List.mem_cons_of_mem _ uw_7_4) rfl rfl dX12_spreads_71 ?_
                refine lv_aload_n hx hb dX12_spreads_74 rfl (lv_at hl 1 rfl) ?_
                refine lv_iload_n hx hb dX12_spreads_75 rfl (lv_at hl 4 rfl) ?_
                refine lv_iconst (v := 1) hx hb dX12_spreads_76 (by decide) ?_
                refine lv_iload hx hb dX12_spreads_77 (lv_at hl 5 rfl) ?_
                refine lv_isub hx hb dX12_spreads_79 ?_
                refine lv_topi (fun x61 ex61 => ?_)
                have ezx61 := ex61
                have ex61 : x61.toInt = (1 : Int) - v55_4.toInt := by rw [ex61]; exact wk_sub (show (-2147483648) ≤ (1 : Int) - v55_4.toInt by omega) (show (1 : Int) - v55_4.toInt ≤ 2147483647 by omega)
                replace hM := hM.lt ex61.symm
                refine tk_Vi hC hK hw hT hA hE hSR kM_at0 (by decide) rfl (ky_X12_streetOf_1 l adK adV dC dI cy ad B hB0 (Int.le_trans hB1 (by decide)) qr s1   v42_3 (show 0 ≤ v42_3.toInt from r18) (show v42_3.toInt ≤ 11 from t19) x61 (show 0 ≤ x61.toInt by first | with_reducible assumption | omega) (show x61.toInt ≤ 1 by first | with_reducible assumption | omega) w13 H.size hT ) (cwV 2 hC.2.2.2.2 uV_RX12_300 rfl rfl rfl (by decide +kernel) ⟨Nat.le_of_ble_eq_true rfl, Nat.le_of_ble_eq_true rfl⟩) rfl hl.1 rfl (Nat.le_of_ble_eq_true rfl) dX12_spreads_80 (fun r62 w64 H locs hp63 hw => ?_)
                obtain ⟨rfl, hv70, hg69⟩ := hp63
                obtain ⟨g66, g67, c68⟩ := hg69
                replace hM := hM.call hv70 rfl
                refine tk_iald hC hK hw hT kM_at14 rfl rfl (show 0 ≤ r62.toInt by first | with_reducible assumption | omega) (show r62.toInt < 10 by first | with_reducible assumption | omega) dX12_spreads_83 (fun x71 c72 rx71 tx71 => ?_)
                have hox71 := c72
                replace hM := hM.rd (sL_at (kM_lt kM_at14) hox71)
                have c72 : gi w13 14 (r62.toInt).toNat = x71 := (congrArg (gi w13 14) (congrArg Int.toNat (show r62.toInt = r62.toInt from rfl))).trans c72
                refine lv_aload_n hx hb dX12_spreads_84 rfl (lv_at hl 1 rfl) ?_
                refine lv_iload_n hx hb dX12_spreads_85 rfl (lv_at hl 4 rfl) ?_
                refine lv_iconst (v := 2) hx hb dX12_spreads_86 (by decide) ?_
                refine tk_Vi hC hK hw hT hA hE hSR kM_at0 (by decide) rfl (ky_X12_streetOf_2 l adK adV dC dI cy ad B hB0 (Int.le_trans hB1 (by decide)) qr s1   v42_3 (show 0 ≤ v42_3.toInt from r18) (show v42_3.toInt ≤ 11 from t19) w13 H.size hT ) (cwV 2 hC.2.2.2.2 uV_RX12_300 rfl rfl rfl (by decide +kernel) ⟨Nat.le_of_ble_eq_true rfl, Nat.le_of_ble_eq_true rfl⟩) rfl hl.1 rfl (Nat.le_of_ble_eq_true rfl) dX12_spreads_87 (fun r73 w75 H locs hp74 hw => ?_)
                obtain ⟨rfl, hv81, hg80⟩ := hp74
                obtain ⟨g77, g78, c79⟩ := hg80
                replace hM := hM.call hv81 rfl
                refine lv_iadd hx hb dX12_spreads_90 ?_
                refine lv_topi (fun x82 ex82 => ?_)
                have ezx82 := ex82
                have ex82 : x82.toInt = x71.toInt + r73.toInt := by rw [ex82]; exact wk_add (show (-2147483648) ≤ x71.toInt + r73.toInt by omega) (show x71.toInt + r73.toInt ≤ 2147483647 by omega)
                replace hM := hM.lt ex82.symm
                refine lv_istore (lv' := [(6, .int x82), (5, .int r52), (0, .ref (ad 0)), (1, .int a1), (2, .int v55_2), (3, .int v42_3), (4, .int v55_4)]) hx hb dX12_spreads_91 hl (by decide) rfl (fun ls hl => ?_)
                refine lv_aload_n hx hb dX12_spreads_93 rfl (lv_at hl 2 rfl) ?_
                refine tk_getA hC hK hw hT hinX12 kM_at0 (by decide) rfl 28 (by decide) (List.mem_cons_of_mem _ uw_7_3) rfl rfl dX12_spreads_94 ?_
                refine lv_iload_n hx hb dX12_spreads_97 rfl (lv_at hl 5 rfl) ?_
                refine tk_iald hC hK hw hT kM_at13 rfl rfl (show 0 ≤ v42_3.toInt from r18) (show v42_3.toInt < 12 from Int.lt_of_le_of_lt t19 (by decide)) dX12_spreads_98 (fun x83 c84 rx83 tx83 => ?_)
                have hox83 := c84
                replace hM := hM.rd (sL_at (kM_lt kM_at13) hox83)
                refine lv_iload hx hb dX12_spreads_99 (lv_at hl 6 rfl) ?_
                refine tk_Si hC hK hw hT hA hE hSR (ky_X12_isOf_1 l adK adV dC dI cy ad B hB0 (Int.le_trans hB1 (by decide)) qr s1   x83 v55_4 (show 0 ≤ v55_4.toInt from r20) (show v55_4.toInt ≤ 1 by first | with_reducible assumption | omega) w13 H.size hT ) (va_cwS 2 hC.2.2.2.2 uS_RX12_304 rfl rfl rfl (by decide +kernel) ⟨Nat.le_of_ble_eq_true rfl, Nat.le_of_ble_eq_true rfl⟩) rfl hl.1 rfl (Nat.le_of_ble_eq_true rfl) dX12_spreads_101 (fun r85 w87 H locs hp86 hw => ?_)
                obtain ⟨rfl, hv92, hg91⟩ := hp86
                rcases hg91 with ⟨rfl, hq89⟩ | ⟨rfl, hq90⟩
                · replace hM := hM.call (r' := 0) hv92 (by decide)
                  refine lv_if_eq (tgt := 133) hx hb dX12_spreads_104 (by decide) (fun _ => ?_) (fun c => absurd (by decide) c)
                  replace hM := hM.pos (by decide)
                  have gb93 : 0 ≤ sumG 14 10 w13 ∧ sumG 14 10 w13 ≤ 1000001000 := hT.sum (lo := 0) (hi := 100000100) kM_at14 rfl (by decide) rfl
                  exact J133 v55_2 r52 x82 r52 r73 H locs ls w13 (show 0 ≤ a1.toInt from r14) (show a1.toInt ≤ 9 from t15) (show 0 ≤ v55_2.toInt from r16) (show v55_2.toInt ≤ 1 from t17) (show 0 ≤ v42_3.toInt from r18) (show v42_3.toInt ≤ 11 from t19) (show 0 ≤ v55_4.toInt from r20) (show v55_4.toInt ≤ 1 by first | with_reducible assumption | omega) (show 0 ≤ r52.toInt by first | with_reducible assumption | omega) (show r52.toInt ≤ 9 by first | with_reducible assumption | omega) (show 0 ≤ x82.toInt by first | with_reducible assumption | omega) (show x82.toInt ≤ 100000109 by first | with_reducible assumption | omega) (show 0 ≤ r52.toInt by first | with_reducible assumption | omega) (show r52.toInt ≤ 9 by first | with_reducible assumption | omega) (show 0 ≤ r73.toInt by first | with_reducible assumption | omega) (show r73.toInt ≤ 9 by first | with_reducible assumption | omega) (show 1 ≤ f55_12_1.toInt from r22) (show f55_12_1.toInt ≤ 12 from t23) (show (sumG 14 10 w13) + v55_2.toInt ≤ (sumG 14 10 w1) by omega)  hw hT hF c58 c79 c24 hM (lv_sub hl [2, 3, 4, 5, 6, 1, 0] rfl)
                · replace hM := hM.call (r' := 1) hv92 (by decide)
                  refine lv_if_eq (tgt := 133) hx hb dX12_spreads_104 (by decide) (fun c => absurd c (by decide)) (fun _ => ?_)
                  replace hM := hM.neg (by decide)
                  refine lv_iload hx hb dX12_spreads_107 (lv_at hl 0 rfl) ?_
                  refine lv_aload_n hx hb dX12_spreads_109 rfl (lv_at hl 2 rfl) ?_
                  refine tk_getA hC hK hw hT hinX12 kM_at0 (by decide) rfl 29 (by decide) (List.mem_cons_of_mem _ uw_7_4) rfl rfl dX12_spreads_110 ?_
                  refine lv_iload hx hb dX12_spreads_113 (lv_at hl 1 rfl) ?_
                  refine tk_iald hC hK hw hT kM_at14 rfl rfl (show 0 ≤ r52.toInt by first | with_reducible assumption | omega) (show r52.toInt < 10 by first | with_reducible assumption | omega) dX12_spreads_115 (fun x94 c95 rx94 tx94 => ?_)
                  have hox94 := c95
                  replace hM := hM.rd (sL_at (kM_lt kM_at14) hox94)
                  have c95 : gi w13 14 (r52.toInt).toNat = x94 := (congrArg (gi w13 14) (congrArg Int.toNat (show r52.toInt = r52.toInt from rfl))).trans c95
                  refine lv_icmp_lt (tgt := 122) hx hb dX12_spreads_116 (by decide) (fun c96 => ?_) (fun c96 => ?_)
                  · have c96 : x82.toInt < x94.toInt := wk_lt.mp c96
                    replace hM := hM.pos c96
                    refine lv_aload_n hx hb dX12_spreads_122 rfl (lv_at hl 2 rfl) ?_
                    refine tk_getA hC hK hw hT hinX12 kM_at0 (by decide) rfl 29 (by decide) (List.mem_cons_of_mem _ uw_7_4) rfl rfl dX12_spreads_123 ?_
                    refine lv_iload hx hb dX12_spreads_126 (lv_at hl 1 rfl) ?_
                    refine lv_iload hx hb dX12_spreads_128 (lv_at hl 0 rfl) ?_
                    have hTq := hT
                    refine tk_iast hC hK hw hT kM_at14 (by decide) rfl rfl (show 0 ≤ r52.toInt by first | with_reducible assumption | omega) (show r52.toInt < 10 by first | with_reducible assumption | omega) (show 0 ≤ x82.toInt by first | with_reducible assumption | omega) (show x82.toInt ≤ 100000100 by first | with_reducible assumption | omega) dX12_spreads_130 (fun H locs w97 hw hT k99 c98 => ?_)
                    replace hM := hM.wr (sL_upa hTq hT kM_at14 (kM_lt kM_at14) rfl (by decide) k99 c98 rfl)
                    have gs100 : sumG 14 10 w97 = sumG 14 10 w13 - (gi w13 14 (r52.toInt.toNat)).toInt + (gi w97 14 (r52.toInt.toNat)).toInt := sumG_up (i := r52.toInt.toNat) k99 10 (show r52.toInt.toNat < 10 by omega)
                    rw [show gi w97 14 (r52.toInt.toNat) = x82 from c98] at gs100
                    rw [c95] at gs100
                    have hF := hF.put kM_at14 (inE_of (a := 0) (b := 10) (by decide) (show 0 ≤ r52.toInt.toNat by omega) (show r52.toInt.toNat ≤ 10 by omega)) k99
                    have c101 := k99.gi (Or.inl (tk_ne kM_at12 kM_at14 (by decide))) c24
                    have c102 := k99.gi (Or.inl (tk_ne kM_at12 kM_at14 (by decide))) c58
                    have c103 := k99.gi (Or.inl (tk_ne kM_at12 kM_at14 (by decide))) c68
                    have c104 := k99.gi (Or.inl (tk_ne kM_at12 kM_at14 (by decide))) c79
                    refine lv_iconst (v := 1) hx hb dX12_spreads_131 (by decide) ?_
                    refine lv_istore_n (lv' := [(2, .int 1), (6, .int x82), (5, .int r52), (0, .ref (ad 0)), (1, .int a1), (3, .int v42_3), (4, .int v55_4)]) hx hb dX12_spreads_132 rfl hl (by decide) rfl (fun ls hl => ?_)
                    have gb105 : 0 ≤ sumG 14 10 w97 ∧ sumG 14 10 w97 ≤ 1000001000 := hT.sum (lo := 0) (hi := 100000100) kM_at14 rfl (by decide) rfl
                    exact J133 1 r52 x82 r52 r73 H locs ls w97 (show 0 ≤ a1.toInt from r14) (show a1.toInt ≤ 9 from t15) (by decide) (by decide) (show 0 ≤ v42_3.toInt from r18) (show v42_3.toInt ≤ 11 from t19) (show 0 ≤ v55_4.toInt from r20) (show v55_4.toInt ≤ 1 by first | with_reducible assumption | omega) (show 0 ≤ r52.toInt by first | with_reducible assumption | omega) (show r52.toInt ≤ 9 by first | with_reducible assumption | omega) (show 0 ≤ x82.toInt by first | with_reducible assumption | omega) (show x82.toInt ≤ 100000109 by first | with_reducible assumption | omega) (show 0 ≤ r52.toInt by first | with_reducible assumption | omega) (show r52.toInt ≤ 9 by first | with_reducible assumption | omega) (show 0 ≤ r73.toInt by first | with_reducible assumption | omega) (show r73.toInt ≤ 9 by first | with_reducible assumption | omega) (show 1 ≤ f55_12_1.toInt from r22) (show f55_12_1.toInt ≤ 12 from t23) (show (sumG 14 10 w97) + (1 : Int) ≤ (sumG 14 10 w1) by omega)  hw hT hF c102 c104 c101 hM (lv_sub hl [3, 4, 0, 5, 6, 2, 1] rfl)
                  · have c96 : x94.toInt ≤ x82.toInt := wk_ltF c96
                    replace hM := hM.neg (Int.not_lt.mpr c96)
                    refine lv_goto (tgt := 133) hx hb dX12_spreads_119 (by decide) ?_
                    have gb106 : 0 ≤ sumG 14 10 w13 ∧ sumG 14 10 w13 ≤ 1000001000 := hT.sum (lo := 0) (hi := 100000100) kM_at14 rfl (by decide) rfl
                    exact J133 v55_2 r52 x82 r52 r73 H locs ls w13 (show 0 ≤ a1.toInt from r14) (show a1.toInt ≤ 9 from t15) (show 0 ≤ v55_2.toInt from r16) (show v55_2.toInt ≤ 1 from t17) (show 0 ≤ v42_3.toInt from r18) (show v42_3.toInt ≤ 11 from t19) (show 0 ≤ v55_4.toInt from r20) (show v55_4.toInt ≤ 1 by first | with_reducible assumption | omega) (show 0 ≤ r52.toInt by first | with_reducible assumption | omega) (show r52.toInt ≤ 9 by first | with_reducible assumption | omega) (show 0 ≤ x82.toInt by first | with_reducible assumption | omega) (show x82.toInt ≤ 100000109 by first | with_reducible assumption | omega) (show 0 ≤ r52.toInt by first | with_reducible assumption | omega) (show r52.toInt ≤ 9 by first | with_reducible assumption | omega) (show 0 ≤ r73.toInt by first | with_reducible assumption | omega) (show r73.toInt ≤ 9 by first | with_reducible assumption | omega) (show 1 ≤ f55_12_1.toInt from r22) (show f55_12_1.toInt ≤ 12 from t23) (show (sumG 14 10 w13) + v55_2.toInt ≤ (sumG 14 10 w1) by omega)  hw hT hF c58 c79 c24 hM (lv_sub hl [2, 3, 4, 5, 6, 1, 0] rfl)
          replace hM := hM.suc (fun _ => e_X12_spreads_42)
          refine lv_iload_n hx hb dX12_spreads_42 rfl (lv_at hl 3 rfl) ?_
          refine lv_aload_n hx hb dX12_spreads_43 rfl (lv_at hl 0 rfl) ?_
          refine tk_getA hC hK hw hT hinX12 kM_at0 (by decide) rfl 26 (by decide) (List.mem_cons_of_mem _ uw_7_1) rfl rfl dX12_spreads_44 ?_
          refine lv_iconst (v := 1) hx hb dX12_spreads_47 (by decide) ?_
          refine tk_ialdR hC hK hw hT kM_at12 rfl (by decide) (by decide) dX12_spreads_48 (fun x107 c108 Ex107 => ?_)
          have hox107 := c108
          replace hM := hM.rd (sL_at (kM_lt kM_at12) hox107)
          have bx107 : 0 ≤ x107.toInt ∧ x107.toInt ≤ 12 := (tk_rg1 rfl).mp Ex107
          have c108 : gi w6 12 1 = x107 := c108
          refine lv_icmp_ge (tgt := 145) hx hb dX12_spreads_49 (by decide) (fun c109 => ?_) (fun c109 => ?_)
          · have c109 : x107.toInt ≤ v42_3.toInt := wk_le.mp c109
            replace hM := hM.pos c109
            refine lv_goto (tgt := 34) hx hb dX12_spreads_145 (by decide) ?_
            have gb110 : 0 ≤ sumG 14 10 w6 ∧ sumG 14 10 w6 ≤ 1000001000 := hT.sum (lo := 0) (hi := 100000100) kM_at14 rfl (by decide) rfl
            exact ih34 v42_2 H locs ls w6 (show 0 ≤ a1.toInt from r7) (show a1.toInt ≤ 9 from t8) (show 0 ≤ v42_2.toInt from r9) (show v42_2.toInt ≤ 1 from t10) (show 0 ≤ (sumG 14 10 w6) by omega) (show (2 * (sumG 14 10 w6) + v42_2.toInt).toNat < n34 by first | exact tn_lt hm34 (by omega) (by omega) | omega) hw hT hF hM (lv_sub hl [0, 1, 2] rfl)
          · have c109 : v42_3.toInt < x107.toInt := wk_leF c109
            replace hM := hM.neg (Int.not_le.mpr c109)
            refine lv_iconst (v := 0) hx hb dX12_spreads_52 (by decide) ?_
            refine lv_istore (lv' := [(4, .int 0), (0, .ref (ad 0)), (1, .int a1), (2, .int v42_2), (3, .int v42_3)]) hx hb dX12_spreads_53 hl (by decide) rfl (fun ls hl => ?_)
            have gb111 : 0 ≤ sumG 14 10 w6 ∧ sumG 14 10 w6 ≤ 1000001000 := hT.sum (lo := 0) (hi := 100000100) kM_at14 rfl (by decide) rfl
            exact L55 ((2 - (0 : Int)).toNat + 1) v42_2 0 x107 H locs ls w6 (show 0 ≤ a1.toInt from r7) (show a1.toInt ≤ 9 from t8) (show 0 ≤ v42_2.toInt from r9) (show v42_2.toInt ≤ 1 from t10) (show 0 ≤ v42_3.toInt from r11) (show v42_3.toInt ≤ 11 by first | with_reducible assumption | omega) (by decide) (by decide) (show 1 ≤ x107.toInt by first | with_reducible assumption | omega) (show x107.toInt ≤ 12 by first | with_reducible assumption | omega) (show (sumG 14 10 w6) + v42_2.toInt ≤ (sumG 14 10 w1) by omega) (Nat.lt_succ_self _) hw hT hF c108 hM (lv_sub hl [1, 2, 3, 4, 0] rfl)
      replace hM := hM.suc (fun _ => e_X12_spreads_34)
      refine lv_iload_n hx hb dX12_spreads_34 rfl (lv_at hl 2 rfl) ?_
      refine lv_if_eq (tgt := 148) hx hb dX12_spreads_35 (by decide) (fun c112 => ?_) (fun c112 => ?_)
      · have c112 : v34_2.toInt = (0 : Int) := wk_eq.mp c112
        replace hM := hM.pos c112
        exact tk_vret hC hr hlocks hK ⟨hT, hF, hM.ret rfl, trivial⟩ hw dX12_spreads_148
      · have c112 : ¬ v34_2.toInt = (0 : Int) := wk_eqF c112
        replace hM := hM.neg c112
        refine lv_iconst (v := 0) hx hb dX12_spreads_38 (by decide) ?_
        refine lv_istore_n (lv' := [(2, .int 0), (0, .ref (ad 0)), (1, .int a1)]) hx hb dX12_spreads_39 rfl hl (by decide) rfl (fun ls hl => ?_)
        refine lv_iconst (v := 0) hx hb dX12_spreads_40 (by decide) ?_
        refine lv_istore_n (lv' := [(3, .int 0), (2, .int 0), (0, .ref (ad 0)), (1, .int a1)]) hx hb dX12_spreads_41 rfl hl (by decide) rfl (fun ls hl => ?_)
        have gb113 : 0 ≤ sumG 14 10 w1 ∧ sumG 14 10 w1 ≤ 1000001000 := hT.sum (lo := 0) (hi := 100000100) kM_at14 rfl (by decide) rfl
        exact L42 ((12 - (0 : Int)).toNat + 1) 0 0 H locs ls w1 (show 0 ≤ a1.toInt from r2) (show a1.toInt ≤ 9 from t3) (by decide) (by decide) (by decide) (by decide) (show (sumG 14 10 w1) + (0 : Int) ≤ (sumG 14 10 w1) by omega) (show 1 ≤ v34_2.toInt by first | with_reducible assumption | omega) (Nat.lt_succ_self _) hw hT hF hM (lv_sub hl [2, 3, 1, 0] rfl)
  have L2 : ∀ (n2 : Nat) (v2_2 : Int32) (H : Heap) (locs : List Loc) (ls : Array Slot) (w114 : va_W), 0 ≤ a1.toInt → a1.toInt ≤ 9 → 0 ≤ v2_2.toInt → v2_2.toInt ≤ 10 → (10 - v2_2.toInt).toNat < n2 → Wd dC dI A s.heap H locs w114 → TW ksM ad cy B qr 12 w114 → FE ksM [(73, 0, 10)] w0 w114 → TT (fun n => m_X12_spreads n 0 a1.toInt (sL w0)) (fun n => j_X12_spreads 0 n 2 [a1.toInt, v2_2.toInt] (sL w114)) → lv_has ls 7 [(0, .ref (ad 0)), (1, .int a1), (2, .int v2_2)] → W p l e ({ frames := 2, cells := 0, slots := 0, locals := 34 }) s m (List.toArray [.ref (ad 0), .int a1]) below meth c H locs 0 0 (MQ below (va_Qv (Py_X12_spreads_1 ad cy B qr s1 a1 w0) (fun u : va_W => wpost dC dI cy A u) A) (List.toArray [.ref (ad 0), .int a1]) s 0 0 A) (F0 m 2 ls []) := by
    intro n2
    induction n2 with
    | zero => intro v2_2 H locs ls w114 r115 t116 r117 t118 hm2 hw hT hF hM hl; omega
    | succ n2 ih2 =>
      intro v2_2 H locs ls w114 r115 t116 r117 t118 hm2 hw hT hF hM hl
      replace hM := hM.suc (fun _ => e_X12_spreads_2)
      refine lv_iload_n hx hb dX12_spreads_2 rfl (lv_at hl 2 rfl) ?_
      refine lv_bipush (v := 10) hx hb dX12_spreads_3 (by decide) ?_
      refine lv_icmp_ge (tgt := 32) hx hb dX12_spreads_5 (by decide) (fun c119 => ?_) (fun c119 => ?_)
      · have c119 : (10 : Int) ≤ v2_2.toInt := wk_le.mp c119
        replace hM := hM.pos c119
        refine lv_iconst (v := 1) hx hb dX12_spreads_32 (by decide) ?_
        refine lv_istore_n (lv' := [(2, .int 1), (0, .ref (ad 0)), (1, .int a1)]) hx hb dX12_spreads_33 rfl hl (by decide) rfl (fun ls hl => ?_)
        have gb120 : 0 ≤ sumG 14 10 w114 ∧ sumG 14 10 w114 ≤ 1000001000 := hT.sum (lo := 0) (hi := 100000100) kM_at14 rfl (by decide) rfl
        exact L34 ((2 * (sumG 14 10 w114) + (1 : Int)).toNat + 1) 1 H locs ls w114 (show 0 ≤ a1.toInt from r115) (show a1.toInt ≤ 9 from t116) (by decide) (by decide) (show 0 ≤ (sumG 14 10 w114) by omega) (Nat.lt_succ_self _) hw hT hF hM (lv_sub hl [1, 2, 0] rfl)
      · have c119 : v2_2.toInt < (10 : Int) := wk_leF c119
        replace hM := hM.neg (Int.not_le.mpr c119)
        refine lv_aload_n hx hb dX12_spreads_8 rfl (lv_at hl 0 rfl) ?_
        refine tk_getA hC hK hw hT hinX12 kM_at0 (by decide) rfl 29 (by decide) (List.mem_cons_of_mem _ uw_7_4) rfl rfl dX12_spreads_9 ?_
        refine lv_iload_n hx hb dX12_spreads_12 rfl (lv_at hl 2 rfl) ?_
        refine lv_iload_n hx hb dX12_spreads_13 rfl (lv_at hl 2 rfl) ?_
        refine lv_iload_n hx hb dX12_spreads_14 rfl (lv_at hl 1 rfl) ?_
        refine lv_icmp_ne (tgt := 22) hx hb dX12_spreads_15 (by decide) (fun c121 => ?_) (fun c121 => ?_)
        · have c121 : ¬ v2_2.toInt = a1.toInt := wk_eqF c121
          replace hM := hM.pos c121
          refine lv_ldcw (v := 100000000) hx hb hC.2.2.2.1 (hC.2.2.2.2 _ (List.mem_cons_of_mem _ uw_38_2)) dX12_spreads_22 ?_
          have hTq := hT
          refine tk_iast hC hK hw hT kM_at14 (by decide) rfl rfl (show 0 ≤ v2_2.toInt from r117) (show v2_2.toInt < 10 by first | with_reducible assumption | omega) (by decide) (by decide) dX12_spreads_25 (fun H locs w122 hw hT k124 c123 => ?_)
          replace hM := hM.wr (sL_upa hTq hT kM_at14 (kM_lt kM_at14) rfl (by decide) k124 c123 (by decide))
          have gs125 : sumG 14 10 w122 = sumG 14 10 w114 - (gi w114 14 (v2_2.toInt.toNat)).toInt + (gi w122 14 (v2_2.toInt.toNat)).toInt := sumG_up (i := v2_2.toInt.toNat) k124 10 (show v2_2.toInt.toNat < 10 by omega)
          rw [show gi w122 14 (v2_2.toInt.toNat) = 100000000 from c123] at gs125
          rw [show (100000000 : Int32).toInt = 100000000 by decide] at gs125
          have hF := hF.put kM_at14 (inE_of (a := 0) (b := 10) (by decide) (show 0 ≤ v2_2.toInt.toNat by omega) (show v2_2.toInt.toNat ≤ 10 by omega)) k124
          obtain ⟨x126, ex126⟩ : ∃ y : Int32, y = v2_2 + Int32.ofInt 1 := ⟨_, rfl⟩
          have erx126 := ex126
          refine lv_iinc (v := x126) (lv' := [(2, .int x126), (0, .ref (ad 0)), (1, .int a1)]) hx hb dX12_spreads_26 hl (k := 2) rfl ex126.symm (by decide) rfl (fun ls hl => ?_)
          have ex126 : x126.toInt = v2_2.toInt + 1 := by rw [ex126]; exact wk_add (y := 1) (show -2147483648 ≤ v2_2.toInt + 1 by omega) (show v2_2.toInt + 1 ≤ 2147483647 by omega)
          replace hM := hM.lt ex126.symm
          refine lv_goto (tgt := 2) hx hb dX12_spreads_29 (by decide) ?_
          exact ih2 x126 H locs ls w122 (show 0 ≤ a1.toInt from r115) (show a1.toInt ≤ 9 from t116) (show 0 ≤ x126.toInt by first | with_reducible assumption | omega) (show x126.toInt ≤ 10 by first | with_reducible assumption | omega) (show (10 - x126.toInt).toNat < n2 by first | exact tn_lt hm2 (by omega) (by omega) | omega) hw hT hF hM (lv_sub hl [1, 2, 0] rfl)
        · have c121 : v2_2.toInt = a1.toInt := wk_eq.mp c121
          replace hM := hM.neg (fun q => q c121)
          refine lv_iconst (v := 0) hx hb dX12_spreads_18 (by decide) ?_
          refine lv_goto (tgt := 25) hx hb dX12_spreads_19 (by decide) ?_
          have hTq := hT
          refine tk_iast hC hK hw hT kM_at14 (by decide) rfl rfl (show 0 ≤ v2_2.toInt from r117) (show v2_2.toInt < 10 by first | with_reducible assumption | omega) (by decide) (by decide) dX12_spreads_25 (fun H locs w127 hw hT k129 c128 => ?_)
          replace hM := hM.wr (sL_upa hTq hT kM_at14 (kM_lt kM_at14) rfl (by decide) k129 c128 (by decide))
          have gs130 : sumG 14 10 w127 = sumG 14 10 w114 - (gi w114 14 (v2_2.toInt.toNat)).toInt + (gi w127 14 (v2_2.toInt.toNat)).toInt := sumG_up (i := v2_2.toInt.toNat) k129 10 (show v2_2.toInt.toNat < 10 by omega)
          rw [show gi w127 14 (v2_2.toInt.toNat) = 0 from c128] at gs130
          rw [show (0 : Int32).toInt = 0 by decide] at gs130
          have hF := hF.put kM_at14 (inE_of (a := 0) (b := 10) (by decide) (show 0 ≤ v2_2.toInt.toNat by omega) (show v2_2.toInt.toNat ≤ 10 by omega)) k129
          obtain ⟨x131, ex131⟩ : ∃ y : Int32, y = v2_2 + Int32.ofInt 1 := ⟨_, rfl⟩
          have erx131 := ex131
          refine lv_iinc (v := x131) (lv' := [(2, .int x131), (0, .ref (ad 0)), (1, .int a1)]) hx hb dX12_spreads_26 hl (k := 2) rfl ex131.symm (by decide) rfl (fun ls hl => ?_)
          have ex131 : x131.toInt = v2_2.toInt + 1 := by rw [ex131]; exact wk_add (y := 1) (show -2147483648 ≤ v2_2.toInt + 1 by omega) (show v2_2.toInt + 1 ≤ 2147483647 by omega)
          replace hM := hM.lt ex131.symm
          refine lv_goto (tgt := 2) hx hb dX12_spreads_29 (by decide) ?_
          exact ih2 x131 H locs ls w127 (show 0 ≤ a1.toInt from r115) (show a1.toInt ≤ 9 from t116) (show 0 ≤ x131.toInt by first | with_reducible assumption | omega) (show x131.toInt ≤ 10 by first | with_reducible assumption | omega) (show (10 - x131.toInt).toNat < n2 by first | exact tn_lt hm2 (by omega) (by omega) | omega) hw hT hF hM (lv_sub hl [1, 2, 0] rfl)
  have hM : TT (fun n => m_X12_spreads n 0 a1.toInt (sL w0)) (fun n => m_X12_spreads n 0 a1.toInt (sL w0)) := TT.rf
  refine lv_iconst (v := 0) hx hb dX12_spreads_0 (by decide) ?_
  refine lv_istore_n (lv' := [(2, .int 0), (0, .ref (ad 0)), (1, .int a1)]) hx hb dX12_spreads_1 rfl hl (by decide) rfl (fun ls hl => ?_)
  exact L2 ((10 - (0 : Int)).toNat + 1) 0 s.heap locs ls w0 (show 0 ≤ a1.toInt from ra1) (show a1.toInt ≤ 9 from ta1) (by decide) (by decide) (Nat.lt_succ_self _) hw hT hF hM (lv_sub hl [1, 2, 0] rfl)
abbrev Py_X12_streetOf_3 (ad : Nat → Nat) (cy : Nat → ClassId) (B : Int) (qr : Nat) (s1 : Int) (a1 : Int32) (w0 : va_W) : Int32 → va_W → Prop := fun r u => w0 = u ∧ Ev (fun n => m_X12_streetOf n 0 a1.toInt 0 (sL w0)) (r.toInt, sL w0) ∧ ((0 ≤ r.toInt ∧ r.toInt ≤ 9 ∧ gi u 12 (10 * a1.toInt + 10).toNat = r))
set_option maxHeartbeats 4000000 in
set_option maxRecDepth 100000 in
theorem ky_X12_streetOf_3 (l : Launch) (adK adV : Nat → Nat) (dC : Nat → ClassId) (dI : Nat → Nat → Nat) (cy : Nat → ClassId) (ad : Nat → Nat) (B : Int) (hB0 : 100000 ≤ B) (hB1 : B ≤ 1073741824) (qr : Nat) (s1 : Int)  (a1 : Int32) (ra1 : 0 ≤ a1.toInt) (ta1 : a1.toInt ≤ 11) (w0 : va_W) (sz : Nat) (hT : TW ksM ad cy B qr 12 w0)  : Met l yX12_streetOf (wu yX12_streetOf cX12_streetOf 3 (some .int)) ({ frames := 1, cells := 0, slots := 0, locals := 12 }) (va_Pc [.ref (ad 0), .int a1, .int 0] (wpreS adK adV dC dI cy sz w0)) (va_Qi (Py_X12_streetOf_3 ad cy B qr s1 a1 w0) (fun u : va_W => wpost dC dI cy (va_A w0 sz) u) (va_A w0 sz)) 0 0 (va_A w0 sz) := by
  refine Met.ofW (cc := cX12_streetOf) (maxL := 3) (ret := (some .int)) (by decide) rfl ?_
  intro p e s m args below meth c s₁ Bk hml hv
  obtain ⟨rfl, ⟨hsz, hP, hK, hD0⟩, hE, hSR⟩ := hv
  have hx := Bk.exec
  have hb := Bk.bytes
  have hr := Bk.returns
  have hlocks := Bk.notSynchronized
  have hC : CallFix p m c cX12_streetOf 3 s _ (wu yX12_streetOf cX12_streetOf 3 (some .int)) RX12 := ⟨hx, hb, hml, findClass_of_methodNamed Bk.named, atoms_spec (ws := (wu yX12_streetOf cX12_streetOf 3 (some .int))) Bk.pre⟩
  subst hsz
  have hD := hD0.self (sz := s.heap.size)
  generalize hAe : va_A w0 s.heap.size = A at hD hE ⊢
  have hA : ∀ q : Nat, s.heap.size ≤ q → A q := fun q h => by rw [← hAe]; exact Or.inr h
  have hw : Wd dC dI A s.heap s.heap [] w0 := ⟨hP, hD, va_S.rf⟩
  have hF : FE ksM ([] : List (Nat × Nat × Nat)) w0 w0 := FE.rf
  have hl := lv_entry ([.ref (ad 0), .int a1, .int 0]) (n := 3) (Nat.le_of_ble_eq_true rfl)
  rw [lg_entry_eq]
  generalize (lg_sl ([.ref (ad 0), .int a1, .int 0]) ++ List.replicate (3 - (lg_sl ([.ref (ad 0), .int a1, .int 0])).length) Slot.unset).toArray = ls at hl ⊢
  have hl : lv_has ls 3 [(0, .ref (ad 0)), (1, .int a1), (2, .int 0)] := hl
  generalize hloc : ([] : List Loc) = locs at hw ⊢
  have hinX12 : ∀ w ∈ u_ws RX12 TX12 42, w ∈ (wu yX12_streetOf cX12_streetOf 3 (some .int)) := fun _ h => List.mem_cons_of_mem _ (up_71 h)
  have hM : TT (fun n => m_X12_streetOf n 0 a1.toInt 0 (sL w0)) (fun n => m_X12_streetOf n 0 a1.toInt 0 (sL w0)) := TT.rf
  refine lv_aload_n hx hb dX12_streetOf_0 rfl (lv_at hl 0 rfl) ?_
  refine tk_getA hC hK hw hT hinX12 kM_at0 (by decide) rfl 26 (by decide) (List.mem_cons_of_mem _ uw_7_1) rfl rfl dX12_streetOf_1 ?_
  refine lv_bipush (v := 10) hx hb dX12_streetOf_4 (by decide) ?_
  refine lv_bipush (v := 10) hx hb dX12_streetOf_6 (by decide) ?_
  refine lv_iload_n hx hb dX12_streetOf_8 rfl (lv_at hl 1 rfl) ?_
  refine lv_imul hx hb dX12_streetOf_9 ?_
  refine lv_topi (fun x1 ex1 => ?_)
  have ezx1 := ex1
  have ex1 : x1.toInt = (10 : Int) * a1.toInt := by rw [ex1]; exact wk_mul (show (-2147483648) ≤ (10 : Int) * a1.toInt by omega) (show (10 : Int) * a1.toInt ≤ 2147483647 by omega)
  replace hM := hM.lt ex1.symm
  refine lv_iadd hx hb dX12_streetOf_10 ?_
  refine lv_topi (fun x2 ex2 => ?_)
  have ezx2 := ex2
  have ex2 : x2.toInt = (10 : Int) + x1.toInt := by rw [ex2]; exact wk_add (show (-2147483648) ≤ (10 : Int) + x1.toInt by omega) (show (10 : Int) + x1.toInt ≤ 2147483647 by omega)
  replace hM := hM.lt ex2.symm
  refine lv_iload_n hx hb dX12_streetOf_11 rfl (lv_at hl 2 rfl) ?_
  refine lv_iadd hx hb dX12_streetOf_12 ?_
  refine lv_topi (fun x3 ex3 => ?_)
  have ezx3 := ex3
  have ex3 : x3.toInt = x2.toInt + (0 : Int) := by rw [ex3]; exact wk_add (show (-2147483648) ≤ x2.toInt + (0 : Int) by omega) (show x2.toInt + (0 : Int) ≤ 2147483647 by omega)
  replace hM := hM.lt ex3.symm
  refine tk_ialdR hC hK hw hT kM_at12 rfl (show 0 ≤ x3.toInt by first | with_reducible assumption | omega) (show x3.toInt < 296 by first | with_reducible assumption | omega) dX12_streetOf_13 (fun x4 c5 Ex4 => ?_)
  have hox4 := c5
  have c5 : gi w0 12 (10 * a1.toInt + 10).toNat = x4 := (congrArg (gi w0 12) (congrArg Int.toNat (show 10 * a1.toInt + 10 = x3.toInt by first | exact Int.le_antisymm (by omega) (by omega) | omega))).trans c5
  replace hM := hM.rd (sL_at (kM_lt kM_at12) hox4)
  have bx4 := tk_rgI rfl 10 10 12 0 9 (by decide +kernel) ⟨(a1.toInt - 0).toNat, by omega, show x3.toInt.toNat = 10 + 10 * (a1.toInt - 0).toNat by omega⟩ Ex4
  exact tk_iret hC hr hlocks hK ⟨rfl, hM.ret rfl, ⟨(show 0 ≤ x4.toInt by first | with_reducible assumption | omega), (show x4.toInt ≤ 9 by first | with_reducible assumption | omega), c5⟩⟩ hw dX12_streetOf_14
abbrev Py_X12_streetOf_4 (ad : Nat → Nat) (cy : Nat → ClassId) (B : Int) (qr : Nat) (s1 : Int) (a1 : Int32) (w0 : va_W) : Int32 → va_W → Prop := fun r u => w0 = u ∧ Ev (fun n => m_X12_streetOf n 0 a1.toInt 1 (sL w0)) (r.toInt, sL w0) ∧ ((0 ≤ r.toInt ∧ r.toInt ≤ 9 ∧ gi u 12 (10 * a1.toInt + 11).toNat = r))
set_option maxHeartbeats 4000000 in
set_option maxRecDepth 100000 in
theorem ky_X12_streetOf_4 (l : Launch) (adK adV : Nat → Nat) (dC : Nat → ClassId) (dI : Nat → Nat → Nat) (cy : Nat → ClassId) (ad : Nat → Nat) (B : Int) (hB0 : 100000 ≤ B) (hB1 : B ≤ 1073741824) (qr : Nat) (s1 : Int)  (a1 : Int32) (ra1 : 0 ≤ a1.toInt) (ta1 : a1.toInt ≤ 11) (w0 : va_W) (sz : Nat) (hT : TW ksM ad cy B qr 12 w0)  : Met l yX12_streetOf (wu yX12_streetOf cX12_streetOf 3 (some .int)) ({ frames := 1, cells := 0, slots := 0, locals := 12 }) (va_Pc [.ref (ad 0), .int a1, .int 1] (wpreS adK adV dC dI cy sz w0)) (va_Qi (Py_X12_streetOf_4 ad cy B qr s1 a1 w0) (fun u : va_W => wpost dC dI cy (va_A w0 sz) u) (va_A w0 sz)) 0 0 (va_A w0 sz) := by
  refine Met.ofW (cc := cX12_streetOf) (maxL := 3) (ret := (some .int)) (by decide) rfl ?_
  intro p e s m args below meth c s₁ Bk hml hv
  obtain ⟨rfl, ⟨hsz, hP, hK, hD0⟩, hE, hSR⟩ := hv
  have hx := Bk.exec
  have hb := Bk.bytes
  have hr := Bk.returns
  have hlocks := Bk.notSynchronized
  have hC : CallFix p m c cX12_streetOf 3 s _ (wu yX12_streetOf cX12_streetOf 3 (some .int)) RX12 := ⟨hx, hb, hml, findClass_of_methodNamed Bk.named, atoms_spec (ws := (wu yX12_streetOf cX12_streetOf 3 (some .int))) Bk.pre⟩
  subst hsz
  have hD := hD0.self (sz := s.heap.size)
  generalize hAe : va_A w0 s.heap.size = A at hD hE ⊢
  have hA : ∀ q : Nat, s.heap.size ≤ q → A q := fun q h => by rw [← hAe]; exact Or.inr h
  have hw : Wd dC dI A s.heap s.heap [] w0 := ⟨hP, hD, va_S.rf⟩
  have hF : FE ksM ([] : List (Nat × Nat × Nat)) w0 w0 := FE.rf
  have hl := lv_entry ([.ref (ad 0), .int a1, .int 1]) (n := 3) (Nat.le_of_ble_eq_true rfl)
  rw [lg_entry_eq]
  generalize (lg_sl ([.ref (ad 0), .int a1, .int 1]) ++ List.replicate (3 - (lg_sl ([.ref (ad 0), .int a1, .int 1])).length) Slot.unset).toArray = ls at hl ⊢
  have hl : lv_has ls 3 [(0, .ref (ad 0)), (1, .int a1), (2, .int 1)] := hl
  generalize hloc : ([] : List Loc) = locs at hw ⊢
  have hinX12 : ∀ w ∈ u_ws RX12 TX12 42, w ∈ (wu yX12_streetOf cX12_streetOf 3 (some .int)) := fun _ h => List.mem_cons_of_mem _ (up_71 h)
  have hM : TT (fun n => m_X12_streetOf n 0 a1.toInt 1 (sL w0)) (fun n => m_X12_streetOf n 0 a1.toInt 1 (sL w0)) := TT.rf
  refine lv_aload_n hx hb dX12_streetOf_0 rfl (lv_at hl 0 rfl) ?_
  refine tk_getA hC hK hw hT hinX12 kM_at0 (by decide) rfl 26 (by decide) (List.mem_cons_of_mem _ uw_7_1) rfl rfl dX12_streetOf_1 ?_
  refine lv_bipush (v := 10) hx hb dX12_streetOf_4 (by decide) ?_
  refine lv_bipush (v := 10) hx hb dX12_streetOf_6 (by decide) ?_
  refine lv_iload_n hx hb dX12_streetOf_8 rfl (lv_at hl 1 rfl) ?_
  refine lv_imul hx hb dX12_streetOf_9 ?_
  refine lv_topi (fun x1 ex1 => ?_)
  have ezx1 := ex1
  have ex1 : x1.toInt = (10 : Int) * a1.toInt := by rw [ex1]; exact wk_mul (show (-2147483648) ≤ (10 : Int) * a1.toInt by omega) (show (10 : Int) * a1.toInt ≤ 2147483647 by omega)
  replace hM := hM.lt ex1.symm
  refine lv_iadd hx hb dX12_streetOf_10 ?_
  refine lv_topi (fun x2 ex2 => ?_)
  have ezx2 := ex2
  have ex2 : x2.toInt = (10 : Int) + x1.toInt := by rw [ex2]; exact wk_add (show (-2147483648) ≤ (10 : Int) + x1.toInt by omega) (show (10 : Int) + x1.toInt ≤ 2147483647 by omega)
  replace hM := hM.lt ex2.symm
  refine lv_iload_n hx hb dX12_streetOf_11 rfl (lv_at hl 2 rfl) ?_
  refine lv_iadd hx hb dX12_streetOf_12 ?_
  refine lv_topi (fun x3 ex3 => ?_)
  have ezx3 := ex3
  have ex3 : x3.toInt = x2.toInt + (1 : Int) := by rw [ex3]; exact wk_add (show (-2147483648) ≤ x2.toInt + (1 : Int) by omega) (show x2.toInt + (1 : Int) ≤ 2147483647 by omega)
  replace hM := hM.lt ex3.symm
  refine tk_ialdR hC hK hw hT kM_at12 rfl (show 0 ≤ x3.toInt by first | with_reducible assumption | omega) (show x3.toInt < 296 by first | with_reducible assumption | omega) dX12_streetOf_13 (fun x4 c5 Ex4 => ?_)
  have hox4 := c5
  have c5 : gi w0 12 (10 * a1.toInt + 11).toNat = x4 := (congrArg (gi w0 12) (congrArg Int.toNat (show 10 * a1.toInt + 11 = x3.toInt by first | exact Int.le_antisymm (by omega) (by omega) | omega))).trans c5
  replace hM := hM.rd (sL_at (kM_lt kM_at12) hox4)
  have bx4 := tk_rgI rfl 11 10 12 0 9 (by decide +kernel) ⟨(a1.toInt - 0).toNat, by omega, show x3.toInt.toNat = 11 + 10 * (a1.toInt - 0).toNat by omega⟩ Ex4
  exact tk_iret hC hr hlocks hK ⟨rfl, hM.ret rfl, ⟨(show 0 ≤ x4.toInt by first | with_reducible assumption | omega), (show x4.toInt ≤ 9 by first | with_reducible assumption | omega), c5⟩⟩ hw dX12_streetOf_14
abbrev Py_X12_isAt_1 (ad : Nat → Nat) (cy : Nat → ClassId) (B : Int) (qr : Nat) (s1 : Int) (a1 : Int32) (a2 : Int32) (w0 : va_W) : Int32 → va_W → Prop := fun r u => w0 = u ∧ Ev (fun n => m_X12_isAt n 0 a1.toInt a2.toInt (sL w0)) (r.toInt, sL w0) ∧ ((r = 0 ∧ (¬ mAt w0 a1.toInt a2.toInt)) ∨ (r = 1 ∧ gi u 12 (10 * a1.toInt + 10).toNat = a2 ∧ (mAt w0 a1.toInt a2.toInt)) ∨ (r = 1 ∧ gi u 12 (10 * a1.toInt + 11).toNat = a2 ∧ (mAt w0 a1.toInt a2.toInt)))
set_option maxHeartbeats 4000000 in
set_option maxRecDepth 100000 in
theorem ky_X12_isAt_1 (l : Launch) (adK adV : Nat → Nat) (dC : Nat → ClassId) (dI : Nat → Nat → Nat) (cy : Nat → ClassId) (ad : Nat → Nat) (B : Int) (hB0 : 100000 ≤ B) (hB1 : B ≤ 1073741824) (qr : Nat) (s1 : Int)  (a1 : Int32) (ra1 : 0 ≤ a1.toInt) (ta1 : a1.toInt ≤ 11) (a2 : Int32) (ra2 : 0 ≤ a2.toInt) (ta2 : a2.toInt ≤ 9) (w0 : va_W) (sz : Nat) (hT : TW ksM ad cy B qr 12 w0)  : Met l yX12_isAt (wu yX12_isAt cX12_isAt 3 (some .boolean)) ({ frames := 2, cells := 0, slots := 0, locals := 34 }) (va_Pc [.ref (ad 0), .int a1, .int a2] (wpreS adK adV dC dI cy sz w0)) (va_Qi (Py_X12_isAt_1 ad cy B qr s1 a1 a2 w0) (fun u : va_W => wpost dC dI cy (va_A w0 sz) u) (va_A w0 sz)) 0 0 (va_A w0 sz) := by
  refine Met.ofW (cc := cX12_isAt) (maxL := 3) (ret := (some .boolean)) (by decide) rfl ?_
  intro p e s m args below meth c s₁ Bk hml hv
  obtain ⟨rfl, ⟨hsz, hP, hK, hD0⟩, hE, hSR⟩ := hv
  have hx := Bk.exec
  have hb := Bk.bytes
  have hr := Bk.returns
  have hlocks := Bk.notSynchronized
  have hC : CallFix p m c cX12_isAt 3 s _ (wu yX12_isAt cX12_isAt 3 (some .boolean)) RX12 := ⟨hx, hb, hml, findClass_of_methodNamed Bk.named, atoms_spec (ws := (wu yX12_isAt cX12_isAt 3 (some .boolean))) Bk.pre⟩
  subst hsz
  have hD := hD0.self (sz := s.heap.size)
  generalize hAe : va_A w0 s.heap.size = A at hD hE ⊢
  have hA : ∀ q : Nat, s.heap.size ≤ q → A q := fun q h => by rw [← hAe]; exact Or.inr h
  have hw : Wd dC dI A s.heap s.heap [] w0 := ⟨hP, hD, va_S.rf⟩
  have hF : FE ksM ([] : List (Nat × Nat × Nat)) w0 w0 := FE.rf
  have hl := lv_entry ([.ref (ad 0), .int a1, .int a2]) (n := 3) (Nat.le_of_ble_eq_true rfl)
  rw [lg_entry_eq]
  generalize (lg_sl ([.ref (ad 0), .int a1, .int a2]) ++ List.replicate (3 - (lg_sl ([.ref (ad 0), .int a1, .int a2])).length) Slot.unset).toArray = ls at hl ⊢
  have hl : lv_has ls 3 [(0, .ref (ad 0)), (1, .int a1), (2, .int a2)] := hl
  generalize hloc : ([] : List Loc) = locs at hw ⊢
  have hM : TT (fun n => m_X12_isAt n 0 a1.toInt a2.toInt (sL w0)) (fun n => m_X12_isAt n 0 a1.toInt a2.toInt (sL w0)) := TT.rf
  refine lv_aload_n hx hb dX12_isAt_0 rfl (lv_at hl 0 rfl) ?_
  refine lv_iload_n hx hb dX12_isAt_1 rfl (lv_at hl 1 rfl) ?_
  refine lv_iconst (v := 0) hx hb dX12_isAt_2 (by decide) ?_
  refine tk_Vi hC hK hw hT hA hE hSR kM_at0 (by decide) rfl (ky_X12_streetOf_3 l adK adV dC dI cy ad B hB0 (Int.le_trans hB1 (by decide)) qr s1   a1 (show 0 ≤ a1.toInt from ra1) (show a1.toInt ≤ 11 from ta1) w0 s.heap.size hT ) (cwV 2 hC.2.2.2.2 uV_RX12_300 rfl rfl rfl (by decide +kernel) ⟨Nat.le_of_ble_eq_true rfl, Nat.le_of_ble_eq_true rfl⟩) rfl hl.1 rfl (Nat.le_of_ble_eq_true rfl) dX12_isAt_3 (fun r1 w3 H locs hp2 hw => ?_)
  obtain ⟨rfl, hv9, hg8⟩ := hp2
  obtain ⟨g5, g6, c7⟩ := hg8
  replace hM := hM.call hv9 rfl
  refine lv_iload_n hx hb dX12_isAt_6 rfl (lv_at hl 2 rfl) ?_
  refine lv_icmp_eq (tgt := 20) hx hb dX12_isAt_7 (by decide) (fun c10 => ?_) (fun c10 => ?_)
  · have c10 : r1.toInt = a2.toInt := wk_eq.mp c10
    replace hM := hM.pos c10
    refine lv_iconst (v := 1) hx hb dX12_isAt_20 (by decide) ?_
    refine lv_goto (tgt := 25) hx hb dX12_isAt_21 (by decide) ?_
    exact tk_zret hC hr rfl hlocks hK ⟨rfl, hM.ret (by decide), (Or.inr (Or.inl ⟨rfl, (c7.trans (wk_eq.mpr (show r1.toInt = a2.toInt by first | exact Int.le_antisymm (by omega) (by omega) | omega))), (by unfold mAt; simp only [c7]; omega)⟩))⟩ hw dX12_isAt_25
  · have c10 : ¬ r1.toInt = a2.toInt := wk_eqF c10
    replace hM := hM.neg c10
    refine lv_aload_n hx hb dX12_isAt_10 rfl (lv_at hl 0 rfl) ?_
    refine lv_iload_n hx hb dX12_isAt_11 rfl (lv_at hl 1 rfl) ?_
    refine lv_iconst (v := 1) hx hb dX12_isAt_12 (by decide) ?_
    refine tk_Vi hC hK hw hT hA hE hSR kM_at0 (by decide) rfl (ky_X12_streetOf_4 l adK adV dC dI cy ad B hB0 (Int.le_trans hB1 (by decide)) qr s1   a1 (show 0 ≤ a1.toInt from ra1) (show a1.toInt ≤ 11 from ta1) w0 H.size hT ) (cwV 2 hC.2.2.2.2 uV_RX12_300 rfl rfl rfl (by decide +kernel) ⟨Nat.le_of_ble_eq_true rfl, Nat.le_of_ble_eq_true rfl⟩) rfl hl.1 rfl (Nat.le_of_ble_eq_true rfl) dX12_isAt_13 (fun r11 w13 H locs hp12 hw => ?_)
    obtain ⟨rfl, hv19, hg18⟩ := hp12
    obtain ⟨g15, g16, c17⟩ := hg18
    replace hM := hM.call hv19 rfl
    refine lv_iload_n hx hb dX12_isAt_16 rfl (lv_at hl 2 rfl) ?_
    refine lv_icmp_ne (tgt := 24) hx hb dX12_isAt_17 (by decide) (fun c20 => ?_) (fun c20 => ?_)
    · have c20 : ¬ r11.toInt = a2.toInt := wk_eqF c20
      replace hM := hM.pos c20
      refine lv_iconst (v := 0) hx hb dX12_isAt_24 (by decide) ?_
      exact tk_zret hC hr rfl hlocks hK ⟨rfl, hM.ret (by decide), (Or.inl ⟨rfl, (by unfold mAt; simp only [c7, c17]; omega)⟩)⟩ hw dX12_isAt_25
    · have c20 : r11.toInt = a2.toInt := wk_eq.mp c20
      replace hM := hM.neg (fun q => q c20)
      refine lv_iconst (v := 1) hx hb dX12_isAt_20 (by decide) ?_
      refine lv_goto (tgt := 25) hx hb dX12_isAt_21 (by decide) ?_
      exact tk_zret hC hr rfl hlocks hK ⟨rfl, hM.ret (by decide), (Or.inr (Or.inr ⟨rfl, (c17.trans (wk_eq.mpr (show r11.toInt = a2.toInt by first | exact Int.le_antisymm (by omega) (by omega) | omega))), (by unfold mAt; simp only [c7, c17]; omega)⟩))⟩ hw dX12_isAt_25
