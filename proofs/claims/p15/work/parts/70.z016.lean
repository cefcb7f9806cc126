abbrev Pz_X4_reachBy_2 (ad : Nat → Nat) (cy : Nat → ClassId) (B : Int) (qr : Nat) (s1 : Int) (a1 : Int32) (a2 : Int32) (a3 : Int32) (w0 : va_W) : va_W → Prop := fun u => TW ksC ad cy B qr s1 u ∧ FE ksC [(48, 0, 10)] w0 u ∧ Ev (fun n => m_X4_reachBy n 155 a1.toInt a2.toInt a3.toInt (sI w0)) (0, sI u) ∧ ((True))
set_option maxHeartbeats 4000000 in
set_option maxRecDepth 100000 in
theorem kz_X4_reachBy_2 (l : Launch) (adK adV : Nat → Nat) (dC : Nat → ClassId) (dI : Nat → Nat → Nat) (cy : Nat → ClassId) (ad : Nat → Nat) (B : Int) (hB0 : 2147483648 ≤ B) (hB1 : B ≤ 1152921504606846976) (qr : Nat) (s1 : Int)  (a1 : Int32) (ra1 : 0 ≤ a1.toInt) (ta1 : a1.toInt ≤ 11) (a2 : Int32) (ra2 : 0 ≤ a2.toInt) (ta2 : a2.toInt ≤ 9) (a3 : Int32) (ra3 : 2000 ≤ a3.toInt) (ta3 : a3.toInt ≤ 101999) (w0 : va_W) (sz : Nat) (hT : TW ksC ad cy B qr s1 w0)  : Met l yX4_reachBy (wu yX4_reachBy cX4_reachBy 8 none) ({ frames := 3, cells := 0, slots := 0, locals := 68 }) (va_Pc [.ref (ad 155), .int a1, .int a2, .int a3] (wpreS adK adV dC dI cy sz w0)) (va_Qv (Pz_X4_reachBy_2 ad cy B qr s1 a1 a2 a3 w0) (fun u : va_W => wpost dC dI cy (va_A w0 sz) u) (va_A w0 sz)) 0 0 (va_A w0 sz) := by
  refine Met.ofW (cc := cX4_reachBy) (maxL := 8) (ret := none) (by decide) rfl ?_
  intro p e s m args below meth c s₁ Bk hml hv
  obtain ⟨rfl, ⟨hsz, hP, hK, hD0⟩, hE, hSR⟩ := hv
  have hx := Bk.exec
  have hb := Bk.bytes
  have hr := Bk.returns
  have hlocks := Bk.notSynchronized
  have hC : CallFix p m c cX4_reachBy 8 s _ (wu yX4_reachBy cX4_reachBy 8 none) RX4 := ⟨hx, hb, hml, findClass_of_methodNamed Bk.named, atoms_spec (ws := (wu yX4_reachBy cX4_reachBy 8 none)) Bk.pre⟩
  subst hsz
  have hD := hD0.self (sz := s.heap.size)
  generalize hAe : va_A w0 s.heap.size = A at hD hE ⊢
  have hA : ∀ q : Nat, s.heap.size ≤ q → A q := fun q h => by rw [← hAe]; exact Or.inr h
  have hw : Wd dC dI A s.heap s.heap [] w0 := ⟨hP, hD, va_S.rf⟩
  have hF : FE ksC [(48, 0, 10)] w0 w0 := FE.rf
  have hl := lv_entry ([.ref (ad 155), .int a1, .int a2, .int a3]) (n := 8) (Nat.le_of_ble_eq_true rfl)
  rw [lg_entry_eq]
  generalize (lg_sl ([.ref (ad 155), .int a1, .int a2, .int a3]) ++ List.replicate (8 - (lg_sl ([.ref (ad 155), .int a1, .int a2, .int a3])).length) Slot.unset).toArray = ls at hl ⊢
  have hl : lv_has ls 8 [(0, .ref (ad 155)), (1, .int a1), (2, .int a2), (3, .int a3)] := hl
  generalize hloc : ([] : List Loc) = locs at hw ⊢
  have hinX4 : ∀ w ∈ u_ws RX4 TX4 4, w ∈ (wu yX4_reachBy cX4_reachBy 8 none) := fun _ h => List.mem_cons_of_mem _ (up_80 h)
  have hinX7 : ∀ w ∈ u_ws RX7 TX7 12, w ∈ (wu yX4_reachBy cX4_reachBy 8 none) := fun _ h => List.mem_cons_of_mem _ (up_73 h)
  have J35 : ∀ (v35_4 : Int32) (H : Heap) (locs : List Loc) (ls : Array Slot) (w1 : va_W), 0 ≤ a1.toInt → a1.toInt ≤ 11 → 0 ≤ a2.toInt → a2.toInt ≤ 9 → 2000 ≤ a3.toInt → a3.toInt ≤ 101999 → (-1) ≤ v35_4.toInt → v35_4.toInt ≤ 1 → Wd dC dI A s.heap H locs w1 → TW ksC ad cy B qr s1 w1 → FE ksC [(48, 0, 10)] w0 w1 → TT (fun n => m_X4_reachBy n 155 a1.toInt a2.toInt a3.toInt (sI w0)) (fun n => b_X4_reachBy_35 n 155 (sI w1)) → lv_has ls 8 [(0, .ref (ad 155)), (1, .int a1), (2, .int a2), (3, .int a3), (4, .int v35_4)] → W p l e ({ frames := 3, cells := 0, slots := 0, locals := 68 }) s m (List.toArray [.ref (ad 155), .int a1, .int a2, .int a3]) below meth c H locs 0 0 (MQ below (va_Qv (Pz_X4_reachBy_2 ad cy B qr s1 a1 a2 a3 w0) (fun u : va_W => wpost dC dI cy A u) A) (List.toArray [.ref (ad 155), .int a1, .int a2, .int a3]) s 0 0 A) (F0 m 35 ls []) := by
    intro v35_4 H locs ls w1 r2 t3 r4 t5 r6 t7 r8 t9 hw hT hF hM hl
    exact tk_vret hC hr hlocks hK ⟨hT, hF, hM.ret rfl, trivial⟩ hw dX4_reachBy_35
  have J125 : ∀ (v125_4 : Int32) (v125_5 : Int32) (v125_6 : Int32) (v125_7 : Int32) (H : Heap) (locs : List Loc) (ls : Array Slot) (w10 : va_W), 0 ≤ a1.toInt → a1.toInt ≤ 11 → 0 ≤ a2.toInt → a2.toInt ≤ 9 → 2000 ≤ a3.toInt → a3.toInt ≤ 101999 → 0 ≤ v125_4.toInt → v125_4.toInt ≤ 1 → 0 ≤ v125_5.toInt → v125_5.toInt ≤ 9 → 0 ≤ v125_6.toInt → v125_6.toInt ≤ 9 → (-1) ≤ v125_7.toInt → v125_7.toInt ≤ 101999 → Wd dC dI A s.heap H locs w10 → TW ksC ad cy B qr s1 w10 → FE ksC [(48, 0, 10)] w0 w10 → TT (fun n => m_X4_reachBy n 155 a1.toInt a2.toInt a3.toInt (sI w0)) (fun n => b_X4_reachBy_125 n 155 (sI w10)) → lv_has ls 8 [(0, .ref (ad 155)), (1, .int a1), (2, .int a2), (3, .int a3), (4, .int v125_4), (5, .int v125_5), (6, .int v125_6), (7, .int v125_7)] → W p l e ({ frames := 3, cells := 0, slots := 0, locals := 68 }) s m (List.toArray [.ref (ad 155), .int a1, .int a2, .int a3]) below meth c H locs 0 0 (MQ below (va_Qv (Pz_X4_reachBy_2 ad cy B qr s1 a1 a2 a3 w0) (fun u : va_W => wpost dC dI cy A u) A) (List.toArray [.ref (ad 155), .int a1, .int a2, .int a3]) s 0 0 A) (F0 m 125 ls []) := by
    intro v125_4 v125_5 v125_6 v125_7 H locs ls w10 r11 t12 r13 t14 r15 t16 r17 t18 r19 t20 r21 t22 r23 t24 hw hT hF hM hl
    exact tk_vret hC hr hlocks hK ⟨hT, hF, hM.ret rfl, trivial⟩ hw dX4_reachBy_125
  have J113 : ∀ (v113_4 : Int32) (v113_5 : Int32) (v113_6 : Int32) (v113_7 : Int32) (H : Heap) (locs : List Loc) (ls : Array Slot) (w25 : va_W), 0 ≤ a1.toInt → a1.toInt ≤ 11 → 0 ≤ a2.toInt → a2.toInt ≤ 9 → 2000 ≤ a3.toInt → a3.toInt ≤ 101999 → 0 ≤ v113_4.toInt → v113_4.toInt ≤ 1 → 0 ≤ v113_5.toInt → v113_5.toInt ≤ 9 → 0 ≤ v113_6.toInt → v113_6.toInt ≤ 9 → 0 ≤ v113_7.toInt → v113_7.toInt ≤ 101999 → Wd dC dI A s.heap H locs w25 → TW ksC ad cy B qr s1 w25 → FE ksC [(48, 0, 10)] w0 w25 → TT (fun n => m_X4_reachBy n 155 a1.toInt a2.toInt a3.toInt (sI w0)) (fun n => b_X4_reachBy_113 n 155 (v113_5.toInt) (v113_6.toInt) (v113_7.toInt) (sI w25)) → lv_has ls 8 [(0, .ref (ad 155)), (1, .int a1), (2, .int a2), (3, .int a3), (4, .int v113_4), (5, .int v113_5), (6, .int v113_6), (7, .int v113_7)] → W p l e ({ frames := 3, cells := 0, slots := 0, locals := 68 }) s m (List.toArray [.ref (ad 155), .int a1, .int a2, .int a3]) below meth c H locs 0 0 (MQ below (va_Qv (Pz_X4_reachBy_2 ad cy B qr s1 a1 a2 a3 w0) (fun u : va_W => wpost dC dI cy A u) A) (List.toArray [.ref (ad 155), .int a1, .int a2, .int a3]) s 0 0 A) (F0 m 113 ls []) := by
    intro v113_4 v113_5 v113_6 v113_7 H locs ls w25 r26 t27 r28 t29 r30 t31 r32 t33 r34 t35 r36 t37 r38 t39 hw hT hF hM hl
    refine lv_aload_n hx hb dX4_reachBy_113 rfl (lv_at hl 0 rfl) ?_
    refine tk_getA hC hK hw hT hinX4 kC_at155 (by decide) rfl 2 (by decide) (List.mem_cons_of_mem _ uw_5_19) rfl rfl dX4_reachBy_114 ?_
    refine lv_iload hx hb dX4_reachBy_117 (lv_at hl 5 rfl) ?_
    refine lv_iload hx hb dX4_reachBy_119 (lv_at hl 7 rfl) ?_
    refine lv_iload hx hb dX4_reachBy_121 (lv_at hl 6 rfl) ?_
    refine lv_iadd hx hb dX4_reachBy_123 ?_
    refine lv_topi (fun x40 ex40 => ?_)
    have ezx40 := ex40
    have ex40 : x40.toInt = v113_7.toInt + v113_6.toInt := by rw [ex40]; exact wk_add (show (-2147483648) ≤ v113_7.toInt + v113_6.toInt by omega) (show v113_7.toInt + v113_6.toInt ≤ 2147483647 by omega)
    replace hM := hM.lt ex40.symm
    refine tk_iast hC hK hw hT kC_at156 (by decide) rfl rfl (show 0 ≤ v113_5.toInt from r34) (show v113_5.toInt < 10 from Int.lt_of_le_of_lt t35 (by decide)) (show (-1) ≤ x40.toInt by first | with_reducible assumption | omega) (show x40.toInt ≤ 102119 by first | with_reducible assumption | omega) dX4_reachBy_124 (fun H locs w41 hw hT k43 c42 => ?_)
    replace hM := hM.wr (sI_up k43 c42)
    have hF := hF.put kC_at156 (inE_of (a := 0) (b := 10) (by decide) (show 0 ≤ v113_5.toInt.toNat by omega) (show v113_5.toInt.toNat ≤ 10 by omega)) k43
    exact J125 v113_4 v113_5 v113_6 v113_7 H locs ls w41 (show 0 ≤ a1.toInt from r26) (show a1.toInt ≤ 11 from t27) (show 0 ≤ a2.toInt from r28) (show a2.toInt ≤ 9 from t29) (show 2000 ≤ a3.toInt from r30) (show a3.toInt ≤ 101999 from t31) (show 0 ≤ v113_4.toInt from r32) (show v113_4.toInt ≤ 1 from t33) (show 0 ≤ v113_5.toInt from r34) (show v113_5.toInt ≤ 9 from t35) (show 0 ≤ v113_6.toInt from r36) (show v113_6.toInt ≤ 9 from t37) (show (-1) ≤ v113_7.toInt from Int.le_trans (by decide) r38) (show v113_7.toInt ≤ 101999 from t39)  hw hT hF hM (lv_sub hl [0, 1, 2, 3, 4, 5, 6, 7] rfl)
  have hM : TT (fun n => m_X4_reachBy n 155 a1.toInt a2.toInt a3.toInt (sI w0)) (fun n => m_X4_reachBy n 155 a1.toInt a2.toInt a3.toInt (sI w0)) := TT.rf
  refine lv_aload_n hx hb dX4_reachBy_0 rfl (lv_at hl 0 rfl) ?_
  refine tk_getA hC hK hw hT hinX4 kC_at155 (by decide) rfl 1 (by decide) (List.mem_cons_of_mem _ uw_5_23) rfl rfl dX4_reachBy_1 ?_
  refine lv_iload_n hx hb dX4_reachBy_4 rfl (lv_at hl 1 rfl) ?_
  refine lv_iload_n hx hb dX4_reachBy_5 rfl (lv_at hl 2 rfl) ?_
  refine tk_Vi hC hK hw hT hA hE hSR kC_at39 (by decide) rfl (kz_X7_sideOf_4 l adK adV dC dI cy ad B hB0 (Int.le_trans hB1 (by decide)) qr s1   a1 (show 0 ≤ a1.toInt from ra1) (show a1.toInt ≤ 11 from ta1) a2 (show 0 ≤ a2.toInt from ra2) (show a2.toInt ≤ 9 from ta2) w0 s.heap.size hT ) (cwV 2 hC.2.2.2.2 uV_RX4_47 rfl rfl rfl (by decide +kernel) ⟨Nat.le_of_ble_eq_true rfl, Nat.le_of_ble_eq_true rfl⟩) rfl hl.1 rfl (Nat.le_of_ble_eq_true rfl) dX4_reachBy_6 (fun r44 w46 H locs hp45 hw => ?_)
  obtain ⟨hT, k47, hv51, hg50⟩ := hp45
  have hF := hF.tr k47 (by decide)
  rcases hg50 with rfl | ⟨rfl, c48⟩ | ⟨rfl, c49⟩
  · replace hM := hM.call (r' := (-1)) hv51 (by decide)
    refine lv_istore (lv' := [(4, .int (-1)), (0, .ref (ad 155)), (1, .int a1), (2, .int a2), (3, .int a3)]) hx hb dX4_reachBy_9 hl (by decide) rfl (fun ls hl => ?_)
    refine lv_iload hx hb dX4_reachBy_11 (lv_at hl 0 rfl) ?_
    refine lv_iconst (v := (-1)) hx hb dX4_reachBy_13 (by decide) ?_
    refine lv_icmp_eq (tgt := 35) hx hb dX4_reachBy_14 (by decide) (fun _ => ?_) (fun c => absurd (by decide) c)
    replace hM := hM.pos (by decide)
    exact J35 (-1) H locs ls w46 (show 0 ≤ a1.toInt from ra1) (show a1.toInt ≤ 11 from ta1) (show 0 ≤ a2.toInt from ra2) (show a2.toInt ≤ 9 from ta2) (show 2000 ≤ a3.toInt from ra3) (show a3.toInt ≤ 101999 from ta3) (by decide) (by decide)  hw hT hF hM (lv_sub hl [1, 2, 3, 4, 0] rfl)
  · replace hM := hM.call (r' := 0) hv51 (by decide)
    refine lv_istore (lv' := [(4, .int 0), (0, .ref (ad 155)), (1, .int a1), (2, .int a2), (3, .int a3)]) hx hb dX4_reachBy_9 hl (by decide) rfl (fun ls hl => ?_)
    refine lv_iload hx hb dX4_reachBy_11 (lv_at hl 0 rfl) ?_
    refine lv_iconst (v := (-1)) hx hb dX4_reachBy_13 (by decide) ?_
    refine lv_icmp_eq (tgt := 35) hx hb dX4_reachBy_14 (by decide) (fun c => absurd c (by decide)) (fun _ => ?_)
    replace hM := hM.neg (by decide)
    refine lv_aload_n hx hb dX4_reachBy_17 rfl (lv_at hl 1 rfl) ?_
    refine tk_getA hC hK hw hT hinX4 kC_at155 (by decide) rfl 3 (by decide) (List.mem_cons_of_mem _ uw_5_20) rfl rfl dX4_reachBy_18 ?_
    refine lv_aload_n hx hb dX4_reachBy_21 rfl (lv_at hl 1 rfl) ?_
    refine tk_getA hC hK hw hT hinX4 kC_at155 (by decide) rfl 1 (by decide) (List.mem_cons_of_mem _ uw_5_23) rfl rfl dX4_reachBy_22 ?_
    refine lv_iload_n hx hb dX4_reachBy_25 rfl (lv_at hl 2 rfl) ?_
    refine lv_iload hx hb dX4_reachBy_26 (lv_at hl 0 rfl) ?_
    refine tk_Vi hC hK hw hT hA hE hSR kC_at39 (by decide) rfl (kz_X7_cornerAcross_3 l adK adV dC dI cy ad B hB0 (Int.le_trans hB1 (by decide)) qr s1   a1 (show 0 ≤ a1.toInt from ra1) (show a1.toInt ≤ 11 from ta1) w46 H.size hT ) (cwV 2 hC.2.2.2.2 uV_RX4_51 rfl rfl rfl (by decide +kernel) ⟨Nat.le_of_ble_eq_true rfl, Nat.le_of_ble_eq_true rfl⟩) rfl hl.1 rfl (Nat.le_of_ble_eq_true rfl) dX4_reachBy_28 (fun r52 w54 H locs hp53 hw => ?_)
    obtain ⟨hT, k55, hv59, hg58⟩ := hp53
    have hF := hF.tr k55 (by decide)
    have c60 := k55.gi kC_at40 rfl c48
    obtain ⟨g56, g57⟩ := hg58
    replace hM := hM.call hv59 rfl
    refine tk_zald hC hK hw hT kC_at157 rfl rfl (show 0 ≤ r52.toInt by first | with_reducible assumption | omega) (show r52.toInt < 10 by first | with_reducible assumption | omega) dX4_reachBy_31 (fun x61 c62 rx61 tx61 => ?_)
    have hox61 := c62
    replace hM := hM.rd (sI_at hox61)
    refine lv_if_eq (tgt := 36) hx hb dX4_reachBy_32 (by decide) (fun c63 => ?_) (fun c63 => ?_)
    · have c63 : x61.toInt = (0 : Int) := wk_eq.mp c63
      replace hM := hM.pos c63
      refine lv_aload_n hx hb dX4_reachBy_36 rfl (lv_at hl 1 rfl) ?_
      refine tk_getA hC hK hw hT hinX4 kC_at155 (by decide) rfl 1 (by decide) (List.mem_cons_of_mem _ uw_5_23) rfl rfl dX4_reachBy_37 ?_
      refine lv_iload_n hx hb dX4_reachBy_40 rfl (lv_at hl 2 rfl) ?_
      refine lv_iload hx hb dX4_reachBy_41 (lv_at hl 0 rfl) ?_
      refine tk_Vi hC hK hw hT hA hE hSR kC_at39 (by decide) rfl (kz_X7_cornerAcross_3 l adK adV dC dI cy ad B hB0 (Int.le_trans hB1 (by decide)) qr s1   a1 (show 0 ≤ a1.toInt from ra1) (show a1.toInt ≤ 11 from ta1) w54 H.size hT ) (cwV 2 hC.2.2.2.2 uV_RX4_51 rfl rfl rfl (by decide +kernel) ⟨Nat.le_of_ble_eq_true rfl, Nat.le_of_ble_eq_true rfl⟩) rfl hl.1 rfl (Nat.le_of_ble_eq_true rfl) dX4_reachBy_43 (fun r64 w66 H locs hp65 hw => ?_)
      obtain ⟨hT, k67, hv71, hg70⟩ := hp65
      have hF := hF.tr k67 (by decide)
      have c72 := k67.gi kC_at40 rfl c60
      obtain ⟨g68, g69⟩ := hg70
      replace hM := hM.call hv71 rfl
      refine lv_istore (lv' := [(5, .int r64), (4, .int 0), (0, .ref (ad 155)), (1, .int a1), (2, .int a2), (3, .int a3)]) hx hb dX4_reachBy_46 hl (by decide) rfl (fun ls hl => ?_)
      refine lv_aload_n hx hb dX4_reachBy_48 rfl (lv_at hl 2 rfl) ?_
      refine tk_getA hC hK hw hT hinX4 kC_at155 (by decide) rfl 1 (by decide) (List.mem_cons_of_mem _ uw_5_23) rfl rfl dX4_reachBy_49 ?_
      refine tk_getO hC hK hw hT hinX7 kC_at39 (by decide) rfl 1 (by decide) (List.mem_cons_of_mem _ uw_50_7) rfl rfl dX4_reachBy_52 ?_
      refine lv_iload_n hx hb dX4_reachBy_55 rfl (lv_at hl 3 rfl) ?_
      refine tk_iald hC hK hw hT kC_at41 rfl rfl (show 0 ≤ a1.toInt from ra1) (show a1.toInt < 13 from Int.lt_of_le_of_lt ta1 (by decide)) dX4_reachBy_56 (fun x73 c74 rx73 tx73 => ?_)
      have hox73 := c74
      replace hM := hM.rd (sI_at hox73)
      refine lv_istore (lv' := [(6, .int x73), (5, .int r64), (4, .int 0), (0, .ref (ad 155)), (1, .int a1), (2, .int a2), (3, .int a3)]) hx hb dX4_reachBy_57 hl (by decide) rfl (fun ls hl => ?_)
      refine lv_aload_n hx hb dX4_reachBy_59 rfl (lv_at hl 3 rfl) ?_
      refine tk_getA hC hK hw hT hinX4 kC_at155 (by decide) rfl 1 (by decide) (List.mem_cons_of_mem _ uw_5_23) rfl rfl dX4_reachBy_60 ?_
      refine lv_iload_n hx hb dX4_reachBy_63 rfl (lv_at hl 4 rfl) ?_
      refine lv_iload hx hb dX4_reachBy_64 (lv_at hl 2 rfl) ?_
      refine lv_aload_n hx hb dX4_reachBy_66 rfl (lv_at hl 3 rfl) ?_
      refine tk_getA hC hK hw hT hinX4 kC_at155 (by decide) rfl 2 (by decide) (List.mem_cons_of_mem _ uw_5_19) rfl rfl dX4_reachBy_67 ?_
      refine lv_iload_n hx hb dX4_reachBy_70 rfl (lv_at hl 5 rfl) ?_
      refine tk_iald hC hK hw hT kC_at156 rfl rfl (show 0 ≤ a2.toInt from ra2) (show a2.toInt < 10 from Int.lt_of_le_of_lt ta2 (by decide)) dX4_reachBy_71 (fun x75 c76 rx75 tx75 => ?_)
      have hox75 := c76
      replace hM := hM.rd (sI_at hox75)
      refine lv_iload_n hx hb dX4_reachBy_72 rfl (lv_at hl 6 rfl) ?_
      refine lv_iload hx hb dX4_reachBy_73 (lv_at hl 0 rfl) ?_
      refine lv_isub hx hb dX4_reachBy_75 ?_
      refine lv_topi (fun x77 ex77 => ?_)
      have ezx77 := ex77
      have ex77 : x77.toInt = a3.toInt - x73.toInt := by rw [ex77]; exact wk_sub (show (-2147483648) ≤ a3.toInt - x73.toInt by omega) (show a3.toInt - x73.toInt ≤ 2147483647 by omega)
      replace hM := hM.lt ex77.symm
      refine tk_Vi hC hK hw hT hA hE hSR kC_at39 (by decide) rfl (kz_X7_firstOpen_3 l adK adV dC dI cy ad B hB0 (Int.le_trans hB1 (by decide)) qr s1   a1 (show 0 ≤ a1.toInt from ra1) (show a1.toInt ≤ 11 from ta1) x75 (show (-1) ≤ x75.toInt from rx75) (show x75.toInt ≤ 102119 from tx75) x77 (show 1991 ≤ x77.toInt by first | with_reducible assumption | omega) (show x77.toInt ≤ 101999 by first | with_reducible assumption | omega) w66 H.size hT ) (cwV 4 hC.2.2.2.2 uV_RX4_57 rfl rfl rfl (by decide +kernel) ⟨Nat.le_of_ble_eq_true rfl, Nat.le_of_ble_eq_true rfl⟩) rfl hl.1 rfl (Nat.le_of_ble_eq_true rfl) dX4_reachBy_76 (fun r78 w80 H locs hp79 hw => ?_)
      obtain ⟨hT, k81, hv85, hg84⟩ := hp79
      have hF := hF.tr k81 (by decide)
      have c86 := k81.gi kC_at40 rfl c72
      rcases hg84 with ⟨g82, g83⟩ | rfl
      · replace hM := hM.call hv85 rfl
        refine lv_istore (lv' := [(7, .int r78), (6, .int x73), (5, .int r64), (4, .int 0), (0, .ref (ad 155)), (1, .int a1), (2, .int a2), (3, .int a3)]) hx hb dX4_reachBy_79 hl (by decide) rfl (fun ls hl => ?_)
        refine lv_iload hx hb dX4_reachBy_81 (lv_at hl 0 rfl) ?_
        refine lv_iconst (v := (-1)) hx hb dX4_reachBy_83 (by decide) ?_
        refine lv_icmp_eq (tgt := 125) hx hb dX4_reachBy_84 (by decide) (fun c => absurd c (fun h => absurd (show r78.toInt = (-1 : Int) from wk_eq.mp h) (by omega))) (fun _ => ?_)
        replace hM := hM.neg (by omega)
        refine lv_aload_n hx hb dX4_reachBy_87 rfl (lv_at hl 4 rfl) ?_
        refine tk_getA hC hK hw hT hinX4 kC_at155 (by decide) rfl 2 (by decide) (List.mem_cons_of_mem _ uw_5_19) rfl rfl dX4_reachBy_88 ?_
        refine lv_iload hx hb dX4_reachBy_91 (lv_at hl 2 rfl) ?_
        refine tk_iald hC hK hw hT kC_at156 rfl rfl (show 0 ≤ r64.toInt by first | with_reducible assumption | omega) (show r64.toInt < 10 by first | with_reducible assumption | omega) dX4_reachBy_93 (fun x87 c88 rx87 tx87 => ?_)
        have hox87 := c88
        replace hM := hM.rd (sI_at hox87)
        refine lv_iconst (v := (-1)) hx hb dX4_reachBy_94 (by decide) ?_
        refine lv_icmp_eq (tgt := 113) hx hb dX4_reachBy_95 (by decide) (fun c89 => ?_) (fun c89 => ?_)
        · have c89 : x87.toInt = (-1 : Int) := wk_eq.mp c89
          replace hM := hM.pos c89
          exact J113 0 r64 x73 r78 H locs ls w80 (show 0 ≤ a1.toInt from ra1) (show a1.toInt ≤ 11 from ta1) (show 0 ≤ a2.toInt from ra2) (show a2.toInt ≤ 9 from ta2) (show 2000 ≤ a3.toInt from ra3) (show a3.toInt ≤ 101999 from ta3) (by decide) (by decide) (show 0 ≤ r64.toInt by first | with_reducible assumption | omega) (show r64.toInt ≤ 9 by first | with_reducible assumption | omega) (show 0 ≤ x73.toInt from rx73) (show x73.toInt ≤ 9 from tx73) (show 0 ≤ r78.toInt by first | with_reducible assumption | omega) (show r78.toInt ≤ 101999 by first | with_reducible assumption | omega)  hw hT hF hM (lv_sub hl [4, 5, 6, 7, 3, 2, 1, 0] rfl)
        · have c89 : ¬ x87.toInt = (-1 : Int) := wk_eqF c89
          replace hM := hM.neg c89
          refine lv_iload hx hb dX4_reachBy_98 (lv_at hl 0 rfl) ?_
          refine lv_iload hx hb dX4_reachBy_100 (lv_at hl 1 rfl) ?_
          refine lv_iadd hx hb dX4_reachBy_102 ?_
          refine lv_topi (fun x90 ex90 => ?_)
          have ezx90 := ex90
          have ex90 : x90.toInt = r78.toInt + x73.toInt := by rw [ex90]; exact wk_add (show (-2147483648) ≤ r78.toInt + x73.toInt by omega) (show r78.toInt + x73.toInt ≤ 2147483647 by omega)
          replace hM := hM.lt ex90.symm
          refine lv_aload_n hx hb dX4_reachBy_103 rfl (lv_at hl 4 rfl) ?_
          refine tk_getA hC hK hw hT hinX4 kC_at155 (by decide) rfl 2 (by decide) (List.mem_cons_of_mem _ uw_5_19) rfl rfl dX4_reachBy_104 ?_
          refine lv_iload hx hb dX4_reachBy_107 (lv_at hl 2 rfl) ?_
          refine tk_iald hC hK hw hT kC_at156 rfl rfl (show 0 ≤ r64.toInt by first | with_reducible assumption | omega) (show r64.toInt < 10 by first | with_reducible assumption | omega) dX4_reachBy_109 (fun x91 c92 rx91 tx91 => ?_)
          have hox91 := c92
          replace hM := hM.rd (sI_at hox91)
          refine lv_icmp_ge (tgt := 125) hx hb dX4_reachBy_110 (by decide) (fun c93 => ?_) (fun c93 => ?_)
          · have c93 : x91.toInt ≤ x90.toInt := wk_le.mp c93
            replace hM := hM.pos c93
            exact J125 0 r64 x73 r78 H locs ls w80 (show 0 ≤ a1.toInt from ra1) (show a1.toInt ≤ 11 from ta1) (show 0 ≤ a2.toInt from ra2) (show a2.toInt ≤ 9 from ta2) (show 2000 ≤ a3.toInt from ra3) (show a3.toInt ≤ 101999 from ta3) (by decide) (by decide) (show 0 ≤ r64.toInt by first | with_reducible assumption | omega) (show r64.toInt ≤ 9 by first | with_reducible assumption | omega) (show 0 ≤ x73.toInt from rx73) (show x73.toInt ≤ 9 from tx73) (show (-1) ≤ r78.toInt by first | with_reducible assumption | omega) (show r78.toInt ≤ 101999 by first | with_reducible assumption | omega)  hw hT hF hM (lv_sub hl [4, 5, 6, 7, 3, 2, 1, 0] rfl)
          · have c93 : x90.toInt < x91.toInt := wk_leF c93
            replace hM := hM.neg (Int.not_le.mpr c93)
            exact J113 0 r64 x73 r78 H locs ls w80 (show 0 ≤ a1.toInt from ra1) (show a1.toInt ≤ 11 from ta1) (show 0 ≤ a2.toInt from ra2) (show a2.toInt ≤ 9 from ta2) (show 2000 ≤ a3.toInt from ra3) (show a3.toInt ≤ 101999 from ta3) (by decide) (by decide) (show 0 ≤ r64.toInt by first | with_reducible assumption | omega) (show r64.toInt ≤ 9 by first | with_reducible assumption | omega) (show 0 ≤ x73.toInt from rx73) (show x73.toInt ≤ 9 from tx73) (show 0 ≤ r78.toInt by first | with_reducible assumption | omega) (show r78.toInt ≤ 101999 by first | with_reducible assumption | omega)  hw hT hF hM (lv_sub hl [4, 5, 6, 7, 3, 2, 1, 0] rfl)
      · replace hM := hM.call (r' := (-1)) hv85 (by decide)
        refine lv_istore (lv' := [(7, .int (-1)), (6, .int x73), (5, .int r64), (4, .int 0), (0, .ref (ad 155)), (1, .int a1), (2, .int a2), (3, .int a3)]) hx hb dX4_reachBy_79 hl (by decide) rfl (fun ls hl => ?_)
        refine lv_iload hx hb dX4_reachBy_81 (lv_at hl 0 rfl) ?_
        refine lv_iconst (v := (-1)) hx hb dX4_reachBy_83 (by decide) ?_
        refine lv_icmp_eq (tgt := 125) hx hb dX4_reachBy_84 (by decide) (fun _ => ?_) (fun c => absurd (by decide) c)
        replace hM := hM.pos (by decide)
        exact J125 0 r64 x73 (-1) H locs ls w80 (show 0 ≤ a1.toInt from ra1) (show a1.toInt ≤ 11 from ta1) (show 0 ≤ a2.toInt from ra2) (show a2.toInt ≤ 9 from ta2) (show 2000 ≤ a3.toInt from ra3) (show a3.toInt ≤ 101999 from ta3) (by decide) (by decide) (show 0 ≤ r64.toInt by first | with_reducible assumption | omega) (show r64.toInt ≤ 9 by first | with_reducible assumption | omega) (show 0 ≤ x73.toInt from rx73) (show x73.toInt ≤ 9 from tx73) (by decide) (by decide)  hw hT hF hM (lv_sub hl [4, 5, 6, 7, 3, 2, 1, 0] rfl)
    · have c63 : ¬ x61.toInt = (0 : Int) := wk_eqF c63
      replace hM := hM.neg c63
      exact J35 0 H locs ls w54 (show 0 ≤ a1.toInt from ra1) (show a1.toInt ≤ 11 from ta1) (show 0 ≤ a2.toInt from ra2) (show a2.toInt ≤ 9 from ta2) (show 2000 ≤ a3.toInt from ra3) (show a3.toInt ≤ 101999 from ta3) (by decide) (by decide)  hw hT hF hM (lv_sub hl [1, 2, 3, 4, 0] rfl)
  · replace hM := hM.call (r' := 1) hv51 (by decide)
    refine lv_istore (lv' := [(4, .int 1), (0, .ref (ad 155)), (1, .int a1), (2, .int a2), (3, .int a3)]) hx hb dX4_reachBy_9 hl (by decide) rfl (fun ls hl => ?_)
    refine lv_iload hx hb dX4_reachBy_11 (lv_at hl 0 rfl) ?_
    refine lv_iconst (v := (-1)) hx hb dX4_reachBy_13 (by decide) ?_
    refine lv_icmp_eq (tgt := 35) hx hb dX4_reachBy_14 (by decide) (fun c => absurd c (by decide)) (fun _ => ?_)
    replace hM := hM.neg (by decide)
    refine lv_aload_n hx hb dX4_reachBy_17 rfl (lv_at hl 1 rfl) ?_
    refine tk_getA hC hK hw hT hinX4 kC_at155 (by decide) rfl 3 (by decide) (List.mem_cons_of_mem _ uw_5_20) rfl rfl dX4_reachBy_18 ?_
    refine lv_aload_n hx hb dX4_reachBy_21 rfl (lv_at hl 1 rfl) ?_
    refine tk_getA hC hK hw hT hinX4 kC_at155 (by decide) rfl 1 (by decide) (List.mem_cons_of_mem _ uw_5_23) rfl rfl dX4_reachBy_22 ?_
    refine lv_iload_n hx hb dX4_reachBy_25 rfl (lv_at hl 2 rfl) ?_
    refine lv_iload hx hb dX4_reachBy_26 (lv_at hl 0 rfl) ?_
    refine tk_Vi hC hK hw hT hA hE hSR kC_at39 (by decide) rfl (kz_X7_cornerAcross_4 l adK adV dC dI cy ad B hB0 (Int.le_trans hB1 (by decide)) qr s1   a1 (show 0 ≤ a1.toInt from ra1) (show a1.toInt ≤ 11 from ta1) w46 H.size hT ) (cwV 2 hC.2.2.2.2 uV_RX4_51 rfl rfl rfl (by decide +kernel) ⟨Nat.le_of_ble_eq_true rfl, Nat.le_of_ble_eq_true rfl⟩) rfl hl.1 rfl (Nat.le_of_ble_eq_true rfl) dX4_reachBy_28 (fun r94 w96 H locs hp95 hw => ?_)
    obtain ⟨hT, k97, hv101, hg100⟩ := hp95
    have hF := hF.tr k97 (by decide)
    have c102 := k97.gi kC_at40 rfl c49
    obtain ⟨g98, g99⟩ := hg100
    replace hM := hM.call hv101 rfl
    refine tk_zald hC hK hw hT kC_at157 rfl rfl (show 0 ≤ r94.toInt by first | with_reducible assumption | omega) (show r94.toInt < 10 by first | with_reducible assumption | omega) dX4_reachBy_31 (fun x103 c104 rx103 tx103 => ?_)
    have hox103 := c104
    replace hM := hM.rd (sI_at hox103)
    refine lv_if_eq (tgt := 36) hx hb dX4_reachBy_32 (by decide) (fun c105 => ?_) (fun c105 => ?_)
    · have c105 : x103.toInt = (0 : Int) := wk_eq.mp c105
      replace hM := hM.pos c105
      refine lv_aload_n hx hb dX4_reachBy_36 rfl (lv_at hl 1 rfl) ?_
      refine tk_getA hC hK hw hT hinX4 kC_at155 (by decide) rfl 1 (by decide) (List.mem_cons_of_mem _ uw_5_23) rfl rfl dX4_reachBy_37 ?_
      refine lv_iload_n hx hb dX4_reachBy_40 rfl (lv_at hl 2 rfl) ?_
      refine lv_iload hx hb dX4_reachBy_41 (lv_at hl 0 rfl) ?_
      refine tk_Vi hC hK hw hT hA hE hSR kC_at39 (by decide) rfl (kz_X7_cornerAcross_4 l adK adV dC dI cy ad B hB0 (Int.le_trans hB1 (by decide)) qr s1   a1 (show 0 ≤ a1.toInt from ra1) (show a1.toInt ≤ 11 from ta1) w96 H.size hT ) (cwV 2 hC.2.2.2.2 uV_RX4_51 rfl rfl rfl (by decide +kernel) ⟨Nat.le_of_ble_eq_true rfl, Nat.le_of_ble_eq_true rfl⟩) rfl hl.1 rfl (Nat.le_of_ble_eq_true rfl) dX4_reachBy_43 (fun r106 w108 H locs hp107 hw => ?_)
      obtain ⟨hT, k109, hv113, hg112⟩ := hp107
      have hF := hF.tr k109 (by decide)
      have c114 := k109.gi kC_at40 rfl c102
      obtain ⟨g110, g111⟩ := hg112
      replace hM := hM.call hv113 rfl
      refine lv_istore (lv' := [(5, .int r106), (4, .int 1), (0, .ref (ad 155)), (1, .int a1), (2, .int a2), (3, .int a3)]) hx hb dX4_reachBy_46 hl (by decide) rfl (fun ls hl => ?_)
      refine lv_aload_n hx hb dX4_reachBy_48 rfl (lv_at hl 2 rfl) ?_
      refine tk_getA hC hK hw hT hinX4 kC_at155 (by decide) rfl 1 (by decide) (List.mem_cons_of_mem _ uw_5_23) rfl rfl dX4_reachBy_49 ?_
      refine tk_getO hC hK hw hT hinX7 kC_at39 (by decide) rfl 1 (by decide) (List.mem_cons_of_mem _ uw_50_7) rfl rfl dX4_reachBy_52 ?_
      refine lv_iload_n hx hb dX4_reachBy_55 rfl (lv_at hl 3 rfl) ?_
      refine tk_iald hC hK hw hT kC_at41 rfl rfl (show 0 ≤ a1.toInt from ra1) (show a1.toInt < 13 from Int.lt_of_le_of_lt ta1 (by decide)) dX4_reachBy_56 (fun x115 c116 rx115 tx115 => ?_)
      have hox115 := c116
      replace hM := hM.rd (sI_at hox115)
      refine lv_istore (lv' := [(6, .int x115), (5, .int r106), (4, .int 1), (0, .ref (ad 155)), (1, .int a1), (2, .int a2), (3, .int a3)]) hx hb dX4_reachBy_57 hl (by decide) rfl (fun ls hl => ?_)
      refine lv_aload_n hx hb dX4_reachBy_59 rfl (lv_at hl 3 rfl) ?_
      refine tk_getA hC hK hw hT hinX4 kC_at155 (by decide) rfl 1 (by decide) (List.mem_cons_of_mem _ uw_5_23) rfl rfl dX4_reachBy_60 ?_
      refine lv_iload_n hx hb dX4_reachBy_63 rfl (lv_at hl 4 rfl) ?_
      refine lv_iload hx hb dX4_reachBy_64 (lv_at hl 2 rfl) ?_
      refine lv_aload_n hx hb dX4_reachBy_66 rfl (lv_at hl 3 rfl) ?_
      refine tk_getA hC hK hw hT hinX4 kC_at155 (by decide) rfl 2 (by decide) (List.mem_cons_of_mem _ uw_5_19) rfl rfl dX4_reachBy_67 ?_
      refine lv_iload_n hx hb dX4_reachBy_70 rfl (lv_at hl 5 rfl) ?_
      refine tk_iald hC hK hw hT kC_at156 rfl rfl (show 0 ≤ a2.toInt from ra2) (show a2.toInt < 10 from Int.lt_of_le_of_lt ta2 (by decide)) dX4_reachBy_71 (fun x117 c118 rx117 tx117 => ?_)
      have hox117 := c118
      replace hM := hM.rd (sI_at hox117)
      refine lv_iload_n hx hb dX4_reachBy_72 rfl (lv_at hl 6 rfl) ?_
      refine lv_iload hx hb dX4_reachBy_73 (lv_at hl 0 rfl) ?_
      refine lv_isub hx hb dX4_reachBy_75 ?_
      refine lv_topi (fun x119 ex119 => ?_)
      have ezx119 := ex119
      have ex119 : x119.toInt = a3.toInt - x115.toInt := by rw [ex119]; exact wk_sub (show (-2147483648) ≤ a3.toInt - x115.toInt by omega) (show a3.toInt - x115.toInt ≤ 2147483647 by omega)
      replace hM := hM.lt ex119.symm
      refine tk_Vi hC hK hw hT hA hE hSR kC_at39 (by decide) rfl (kz_X7_firstOpen_4 l adK adV dC dI cy ad B hB0 (Int.le_trans hB1 (by decide)) qr s1   a1 (show 0 ≤ a1.toInt from ra1) (show a1.toInt ≤ 11 from ta1) x117 (show (-1) ≤ x117.toInt from rx117) (show x117.toInt ≤ 102119 from tx117) x119 (show 1991 ≤ x119.toInt by first | with_reducible assumption | omega) (show x119.toInt ≤ 101999 by first | with_reducible assumption | omega) w108 H.size hT ) (cwV 4 hC.2.2.2.2 uV_RX4_57 rfl rfl rfl (by decide +kernel) ⟨Nat.le_of_ble_eq_true rfl, Nat.le_of_ble_eq_true rfl⟩) rfl hl.1 rfl (Nat.le_of_ble_eq_true rfl) dX4_reachBy_76 (fun r120 w122 H locs hp121 hw => ?_)
      obtain ⟨hT, k123, hv127, hg126⟩ := hp121
      have hF := hF.tr k123 (by decide)
      have c128 := k123.gi kC_at40 rfl c114
      rcases hg126 with ⟨g124, g125⟩ | rfl
      · replace hM := hM.call hv127 rfl
        refine lv_istore (lv' := [(7, .int r120), (6, .int x115), (5, .int r106), (4, .int 1), (0, .ref (ad 155)), (1, .int a1), (2, .int a2), (3, .int a3)]) hx hb dX4_reachBy_79 hl (by decide) rfl (fun ls hl => ?_)
        refine lv_iload hx hb dX4_reachBy_81 (lv_at hl 0 rfl) ?_
        refine lv_iconst (v := (-1)) hx hb dX4_reachBy_83 (by decide) ?_
        refine lv_icmp_eq (tgt := 125) hx hb dX4_reachBy_84 (by decide) (fun c => absurd c (fun h => absurd (show r120.toInt = (-1 : Int) from wk_eq.mp h) (by omega))) (fun _ => ?_)
        replace hM := hM.neg (by omega)
        refine lv_aload_n hx hb dX4_reachBy_87 rfl (lv_at hl 4 rfl) ?_
        refine tk_getA hC hK hw hT hinX4 kC_at155 (by decide) rfl 2 (by decide) (List.mem_cons_of_mem _ uw_5_19) rfl rfl dX4_reachBy_88 ?_
        refine lv_iload hx hb dX4_reachBy_91 (lv_at hl 2 rfl) ?_
        refine tk_iald hC hK hw hT kC_at156 rfl rfl (show 0 ≤ r106.toInt by first | with_reducible assumption | omega) (show r106.toInt < 10 by first | with_reducible assumption | omega) dX4_reachBy_93 (fun x129 c130 rx129 tx129 => ?_)
        have hox129 := c130
        replace hM := hM.rd (sI_at hox129)
        refine lv_iconst (v := (-1)) hx hb dX4_reachBy_94 (by decide) ?_
        refine lv_icmp_eq (tgt := 113) hx hb dX4_reachBy_95 (by decide) (fun c131 => ?_) (fun c131 => ?_)
        · have c131 : x129.toInt = (-1 : Int) := wk_eq.mp c131
          replace hM := hM.pos c131
          exact J113 1 r106 x115 r120 H locs ls w122 (show 0 ≤ a1.toInt from ra1) (show a1.toInt ≤ 11 from ta1) (show 0 ≤ a2.toInt from ra2) (show a2.toInt ≤ 9 from ta2) (show 2000 ≤ a3.toInt from ra3) (show a3.toInt ≤ 101999 from ta3) (by decide) (by decide) (show 0 ≤ r106.toInt by first | with_reducible assumption | omega) (show r106.toInt ≤ 9 by first | with_reducible assumption | omega) (show 0 ≤ x115.toInt from rx115) (show x115.toInt ≤ 9 from tx115) (show 0 ≤ r120.toInt by first | with_reducible assumption | omega) (show r120.toInt ≤ 101999 by first | with_reducible assumption | omega)  hw hT hF hM (lv_sub hl [4, 5, 6, 7, 3, 2, 1, 0] rfl)
        · have c131 : ¬ x129.toInt = (-1 : Int) := wk_eqF c131
          replace hM := hM.neg c131
          refine lv_iload hx hb dX4_reachBy_98 (lv_at hl 0 rfl) ?_
          refine lv_iload hx hb dX4_reachBy_100 (lv_at hl 1 rfl) ?_
          refine lv_iadd hx hb dX4_reachBy_102 ?_
          refine lv_topi (fun x132 ex132 => ?_)
          have ezx132 := ex132
          have ex132 : x132.toInt = r120.toInt + x115.toInt := by rw [ex132]; exact wk_add (show (-2147483648) ≤ r120.toInt + x115.toInt by omega) (show r120.toInt + x115.toInt ≤ 2147483647 by omega)
          replace hM := hM.lt ex132.symm
          refine lv_aload_n hx hb dX4_reachBy_103 rfl (lv_at hl 4 rfl) ?_
          refine tk_getA hC hK hw hT hinX4 kC_at155 (by decide) rfl 2 (by decide) (List.mem_cons_of_mem _ uw_5_19) rfl rfl dX4_reachBy_104 ?_
          refine lv_iload hx hb dX4_reachBy_107 (lv_at hl 2 rfl) ?_
          refine tk_iald hC hK hw hT kC_at156 rfl rfl (show 0 ≤ r106.toInt by first | with_reducible assumption | omega) (show r106.toInt < 10 by first | with_reducible assumption | omega) dX4_reachBy_109 (fun x133 c134 rx133 tx133 => ?_)
          have hox133 := c134
          replace hM := hM.rd (sI_at hox133)
          refine lv_icmp_ge (tgt := 125) hx hb dX4_reachBy_110 (by decide) (fun c135 => ?_) (fun c135 => ?_)
          · have c135 : x133.toInt ≤ x132.toInt := wk_le.mp c135
            replace hM := hM.pos c135
            exact J125 1 r106 x115 r120 H locs ls w122 (show 0 ≤ a1.toInt from ra1) (show a1.toInt ≤ 11 from ta1) (show 0 ≤ a2.toInt from ra2) (show a2.toInt ≤ 9 from ta2) (show 2000 ≤ a3.toInt from ra3) (show a3.toInt ≤ 101999 from ta3) (by decide) (by decide) (show 0 ≤ r106.toInt by first | with_reducible assumption | omega) (show r106.toInt ≤ 9 by first | with_reducible assumption | omega) (show 0 ≤ x115.toInt from rx115) (show x115.toInt ≤ 9 from tx115) (show (-1) ≤ r120.toInt by first | with_reducible assumption | omega) (show r120.toInt ≤ 101999 by first | with_reducible assumption | omega)  hw hT hF hM (lv_sub hl [4, 5, 6, 7, 3, 2, 1, 0] rfl)
          · have c135 : x132.toInt < x133.toInt := wk_leF c135
            replace hM := hM.neg (Int.not_le.mpr c135)
            exact J113 1 r106 x115 r120 H locs ls w122 (show 0 ≤ a1.toInt from ra1) (show a1.toInt ≤ 11 from ta1) (show 0 ≤ a2.toInt from ra2) (show a2.toInt ≤ 9 from ta2) (show 2000 ≤ a3.toInt from ra3) (show a3.toInt ≤ 101999 from ta3) (by decide) (by decide) (show 0 ≤ r106.toInt by first | with_reducible assumption | omega) (show r106.toInt ≤ 9 by first | with_reducible assumption | omega) (show 0 ≤ x115.toInt from rx115) (show x115.toInt ≤ 9 from tx115) (show 0 ≤ r120.toInt by first | with_reducible assumption | omega) (show r120.toInt ≤ 101999 by first | with_reducible assumption | omega)  hw hT hF hM (lv_sub hl [4, 5, 6, 7, 3, 2, 1, 0] rfl)
      · replace hM := hM.call (r' := (-1)) hv127 (by decide)
        refine lv_istore (lv' := [(7, .int (-1)), (6, .int x115), (5, .int r106), (4, .int 1), (0, .ref (ad 155)), (1, .int a1), (2, .int a2), (3, .int a3)]) hx hb dX4_reachBy_79 hl (by decide) rfl (fun ls hl => ?_)
        refine lv_iload hx hb dX4_reachBy_81 (lv_at hl 0 rfl) ?_
        refine lv_iconst (v := (-1)) hx hb dX4_reachBy_83 (by decide) ?_
        refine lv_icmp_eq (tgt := 125) hx hb dX4_reachBy_84 (by decide) (fun _ => ?_) (fun c => absurd (by decide) c)
        replace hM := hM.pos (by decide)
        exact J125 1 r106 x115 (-1) H locs ls w122 (show 0 ≤ a1.toInt from ra1) (show a1.toInt ≤ 11 from ta1) (show 0 ≤ a2.toInt from ra2) (show a2.toInt ≤ 9 from ta2) (show 2000 ≤ a3.toInt from ra3) (show a3.toInt ≤ 101999 from ta3) (by decide) (by decide) (show 0 ≤ r106.toInt by first | with_reducible assumption | omega) (show r106.toInt ≤ 9 by first | with_reducible assumption | omega) (show 0 ≤ x115.toInt from rx115) (show x115.toInt ≤ 9 from tx115) (by decide) (by decide)  hw hT hF hM (lv_sub hl [4, 5, 6, 7, 3, 2, 1, 0] rfl)
    · have c105 : ¬ x103.toInt = (0 : Int) := wk_eqF c105
      replace hM := hM.neg c105
      exact J35 1 H locs ls w96 (show 0 ≤ a1.toInt from ra1) (show a1.toInt ≤ 11 from ta1) (show 0 ≤ a2.toInt from ra2) (show a2.toInt ≤ 9 from ta2) (show 2000 ≤ a3.toInt from ra3) (show a3.toInt ≤ 101999 from ta3) (by decide) (by decide)  hw hT hF hM (lv_sub hl [1, 2, 3, 4, 0] rfl)
abbrev Pz_X4_firstArrival_2 (ad : Nat → Nat) (cy : Nat → ClassId) (B : Int) (qr : Nat) (s1 : Int) (a1 : Int32) (a2 : Int32) (a3 : Int32) (a4 : Int32) (w0 : va_W) : Int32 → va_W → Prop := fun r u => TW ksC ad cy B qr s1 u ∧ FE ksC [(48, 0, 10), (49, 0, 10)] w0 u ∧ Ev (fun n => m_X4_firstArrival n 155 a1.toInt a2.toInt a3.toInt a4.toInt (sI w0)) (r.toInt, sI u) ∧ (((-1) ≤ r.toInt ∧ r.toInt ≤ 102119 ∧ (∃ y : Int32, gi u 39 8 = y ∧ 1 ≤ y.toInt ∧ y.toInt ≤ 10)) ∨ (r = (-1)))
set_option maxHeartbeats 4000000 in
set_option maxRecDepth 100000 in
theorem kz_X4_firstArrival_2 (l : Launch) (adK adV : Nat → Nat) (dC : Nat → ClassId) (dI : Nat → Nat → Nat) (cy : Nat → ClassId) (ad : Nat → Nat) (B : Int) (hB0 : 2147483648 ≤ B) (hB1 : B ≤ 1152921504606846976) (qr : Nat) (s1 : Int)  (a1 : Int32) (ra1 : 0 ≤ a1.toInt) (ta1 : a1.toInt ≤ 12) (a2 : Int32) (ra2 : 0 ≤ a2.toInt) (ta2 : a2.toInt ≤ 9) (a3 : Int32) (ra3 : 0 ≤ a3.toInt) (ta3 : a3.toInt ≤ 9) (a4 : Int32) (ra4 : 0 ≤ a4.toInt) (ta4 : a4.toInt ≤ 99999) (w0 : va_W) (sz : Nat) (hT : TW ksC ad cy B qr s1 w0)  : Met l yX4_firstArrival (wu yX4_firstArrival cX4_firstArrival 8 (some .int)) ({ frames := 4, cells := 0, slots := 0, locals := 95 }) (va_Pc [.ref (ad 155), .int a1, .int a2, .int a3, .int a4] (wpreS adK adV dC dI cy sz w0)) (va_Qi (Pz_X4_firstArrival_2 ad cy B qr s1 a1 a2 a3 a4 w0) (fun u : va_W => wpost dC dI cy (va_A w0 sz) u) (va_A w0 sz)) 0 0 (va_A w0 sz) := by
  refine Met.ofW (cc := cX4_firstArrival) (maxL := 8) (ret := (some .int)) (by decide) rfl ?_
  intro p e s m args below meth c s₁ Bk hml hv
  obtain ⟨rfl, ⟨hsz, hP, hK, hD0⟩, hE, hSR⟩ := hv
  have hx := Bk.exec
  have hb := Bk.bytes
  have hr := Bk.returns
  have hlocks := Bk.notSynchronized
  have hC : CallFix p m c cX4_firstArrival 8 s _ (wu yX4_firstArrival cX4_firstArrival 8 (some .int)) RX4 := ⟨hx, hb, hml, findClass_of_methodNamed Bk.named, atoms_spec (ws := (wu yX4_firstArrival cX4_firstArrival 8 (some .int))) Bk.pre⟩
  subst hsz
  have hD := hD0.self (sz := s.heap.size)
  generalize hAe : va_A w0 s.heap.size = A at hD hE ⊢
  have hA : ∀ q : Nat, s.heap.size ≤ q → A q := fun q h => by rw [← hAe]; exact Or.inr h
  have hw : Wd dC dI A s.heap s.heap [] w0 := ⟨hP, hD, va_S.rf⟩
  have hF : FE ksC [(48, 0, 10), (49, 0, 10)] w0 w0 := FE.rf
  have hl := lv_entry ([.ref (ad 155), .int a1, .int a2, .int a3, .int a4]) (n := 8) (Nat.le_of_ble_eq_true rfl)
  rw [lg_entry_eq]
  generalize (lg_sl ([.ref (ad 155), .int a1, .int a2, .int a3, .int a4]) ++ List.replicate (8 - (lg_sl ([.ref (ad 155), .int a1, .int a2, .int a3, .int a4])).length) Slot.unset).toArray = ls at hl ⊢
  have hl : lv_has ls 8 [(0, .ref (ad 155)), (1, .int a1), (2, .int a2), (3, .int a3), (4, .int a4)] := hl
  generalize hloc : ([] : List Loc) = locs at hw ⊢
  have hinX4 : ∀ w ∈ u_ws RX4 TX4 4, w ∈ (wu yX4_firstArrival cX4_firstArrival 8 (some .int)) := fun _ h => List.mem_cons_of_mem _ (up_80 h)
  have hinX7 : ∀ w ∈ u_ws RX7 TX7 12, w ∈ (wu yX4_firstArrival cX4_firstArrival 8 (some .int)) := fun _ h => List.mem_cons_of_mem _ (up_73 h)
  have L15 : ∀ (n15 : Nat) (v15_5 : Int32) (H : Heap) (locs : List Loc) (ls : Array Slot) (w1 : va_W), 0 ≤ a1.toInt → a1.toInt ≤ 12 → 0 ≤ a2.toInt → a2.toInt ≤ 9 → 0 ≤ a3.toInt → a3.toInt ≤ 9 → 0 ≤ a4.toInt → a4.toInt ≤ 99999 → 0 ≤ v15_5.toInt → v15_5.toInt ≤ 10 → (10 - v15_5.toInt).toNat < n15 → Wd dC dI A s.heap H locs w1 → TW ksC ad cy B qr s1 w1 → FE ksC [(48, 0, 10), (49, 0, 10)] w0 w1 → TT (fun n => m_X4_firstArrival n 155 a1.toInt a2.toInt a3.toInt a4.toInt (sI w0)) (fun n => j_X4_firstArrival 155 n 15 [a1.toInt, a3.toInt, a4.toInt, v15_5.toInt] (sI w1)) → lv_has ls 8 [(0, .ref (ad 155)), (1, .int a1), (2, .int a2), (3, .int a3), (4, .int a4), (5, .int v15_5)] → W p l e ({ frames := 4, cells := 0, slots := 0, locals := 95 }) s m (List.toArray [.ref (ad 155), .int a1, .int a2, .int a3, .int a4]) below meth c H locs 0 0 (MQ below (va_Qi (Pz_X4_firstArrival_2 ad cy B qr s1 a1 a2 a3 a4 w0) (fun u : va_W => wpost dC dI cy A u) A) (List.toArray [.ref (ad 155), .int a1, .int a2, .int a3, .int a4]) s 0 0 A) (F0 m 15 ls []) := by
    intro n15
    induction n15 with
    | zero => intro v15_5 H locs ls w1 r2 t3 r4 t5 r6 t7 r8 t9 r10 t11 hm15 hw hT hF hM hl; omega
    | succ n15 ih15 =>
      intro v15_5 H locs ls w1 r2 t3 r4 t5 r6 t7 r8 t9 r10 t11 hm15 hw hT hF hM hl
      have L65 : ∀ (n65 : Nat) (v65_6 : Int32) (v65_7 : Int32) (f65_39_8 : Int32) (H : Heap) (locs : List Loc) (ls : Array Slot) (w12 : va_W), 0 ≤ a1.toInt → a1.toInt ≤ 12 → 0 ≤ a2.toInt → a2.toInt ≤ 9 → 0 ≤ a3.toInt → a3.toInt ≤ 9 → 0 ≤ a4.toInt → a4.toInt ≤ 99999 → 0 ≤ v15_5.toInt → v15_5.toInt ≤ 9 → 0 ≤ v65_6.toInt → v65_6.toInt ≤ 9 → 0 ≤ v65_7.toInt → v65_7.toInt ≤ 12 → 1 ≤ f65_39_8.toInt → f65_39_8.toInt ≤ 10 → (12 - v65_7.toInt).toNat < n65 → Wd dC dI A s.heap H locs w12 → TW ksC ad cy B qr s1 w12 → FE ksC [(48, 0, 10), (49, 0, 10)] w0 w12 → gi w12 39 8 = f65_39_8 → TT (fun n => m_X4_firstArrival n 155 a1.toInt a2.toInt a3.toInt a4.toInt (sI w0)) (fun n => j_X4_firstArrival 155 n 65 [a1.toInt, a3.toInt, a4.toInt, v15_5.toInt, v65_6.toInt, v65_7.toInt] (sI w12)) → lv_has ls 8 [(0, .ref (ad 155)), (1, .int a1), (2, .int a2), (3, .int a3), (4, .int a4), (5, .int v15_5), (6, .int v65_6), (7, .int v65_7)] → W p l e ({ frames := 4, cells := 0, slots := 0, locals := 95 }) s m (List.toArray [.ref (ad 155), .int a1, .int a2, .int a3, .int a4]) below meth c H locs 0 0 (MQ below (va_Qi (Pz_X4_firstArrival_2 ad cy B qr s1 a1 a2 a3 a4 w0) (fun u : va_W => wpost dC dI cy A u) A) (List.toArray [.ref (ad 155), .int a1, .int a2, .int a3, .int a4]) s 0 0 A) (F0 m 65 ls []) := by
        intro n65
        induction n65 with
        | zero => intro v65_6 v65_7 f65_39_8 H locs ls w12 r13 t14 r15 t16 r17 t18 r19 t20 r21 t22 r23 t24 r25 t26 r27 t28 hm65 hw hT hF c29 hM hl; omega
        | succ n65 ih65 =>
          intro v65_6 v65_7 f65_39_8 H locs ls w12 r13 t14 r15 t16 r17 t18 r19 t20 r21 t22 r23 t24 r25 t26 r27 t28 hm65 hw hT hF c29 hM hl
          replace hM := hM.suc (fun _ => e_X4_firstArrival_65)
          refine lv_iload hx hb dX4_firstArrival_65 (lv_at hl 7 rfl) ?_
          refine lv_iload_n hx hb dX4_firstArrival_67 rfl (lv_at hl 1 rfl) ?_
          refine lv_icmp_ge (tgt := 91) hx hb dX4_firstArrival_68 (by decide) (fun c30 => ?_) (fun c30 => ?_)
          · have c30 : a1.toInt ≤ v65_7.toInt := wk_le.mp c30
            replace hM := hM.pos c30
            obtain ⟨x31, ex31⟩ : ∃ y : Int32, y = v15_5 + Int32.ofInt 1 := ⟨_, rfl⟩
            have erx31 := ex31
            refine lv_iinc (v := x31) (lv' := [(5, .int x31), (0, .ref (ad 155)), (1, .int a1), (2, .int a2), (3, .int a3), (4, .int a4), (6, .int v65_6), (7, .int v65_7)]) hx hb dX4_firstArrival_91 hl (k := 5) rfl ex31.symm (by decide) rfl (fun ls hl => ?_)
            have ex31 : x31.toInt = v15_5.toInt + 1 := by rw [ex31]; exact wk_add (y := 1) (show -2147483648 ≤ v15_5.toInt + 1 by omega) (show v15_5.toInt + 1 ≤ 2147483647 by omega)
            replace hM := hM.lt ex31.symm
            refine lv_goto (tgt := 15) hx hb dX4_firstArrival_94 (by decide) ?_
            exact ih15 x31 H locs ls w12 (show 0 ≤ a1.toInt from r13) (show a1.toInt ≤ 12 from t14) (show 0 ≤ a2.toInt from r15) (show a2.toInt ≤ 9 from t16) (show 0 ≤ a3.toInt from r17) (show a3.toInt ≤ 9 from t18) (show 0 ≤ a4.toInt from r19) (show a4.toInt ≤ 99999 from t20) (show 0 ≤ x31.toInt by first | with_reducible assumption | omega) (show x31.toInt ≤ 10 by first | with_reducible assumption | omega) (show (10 - x31.toInt).toNat < n15 by first | exact tn_lt hm15 (by omega) (by omega) | omega) hw hT hF hM (lv_sub hl [1, 2, 3, 4, 5, 0] rfl)
          · have c30 : v65_7.toInt < a1.toInt := wk_leF c30
            replace hM := hM.neg (Int.not_le.mpr c30)
            refine lv_aload_n hx hb dX4_firstArrival_71 rfl (lv_at hl 0 rfl) ?_
            refine lv_iload hx hb dX4_firstArrival_72 (lv_at hl 7 rfl) ?_
            refine lv_iload hx hb dX4_firstArrival_74 (lv_at hl 6 rfl) ?_
            refine lv_iload hx hb dX4_firstArrival_76 (lv_at hl 4 rfl) ?_
            refine lv_sipush (v := 2000) hx hb dX4_firstArrival_78 (by decide) ?_
            refine lv_iadd hx hb dX4_firstArrival_81 ?_
            refine lv_topi (fun x32 ex32 => ?_)
            have ezx32 := ex32
            have ex32 : x32.toInt = a4.toInt + (2000 : Int) := by rw [ex32]; exact wk_add (show (-2147483648) ≤ a4.toInt + (2000 : Int) by omega) (show a4.toInt + (2000 : Int) ≤ 2147483647 by omega)
            replace hM := hM.lt ex32.symm
            refine tk_Vv hC hK hw hT hA hE hSR kC_at155 (by decide) rfl (kz_X4_reachBy_2 l adK adV dC dI cy ad B hB0 (Int.le_trans hB1 (by decide)) qr s1   v65_7 (show 0 ≤ v65_7.toInt from r25) (show v65_7.toInt ≤ 11 by first | with_reducible assumption | omega) v65_6 (show 0 ≤ v65_6.toInt from r23) (show v65_6.toInt ≤ 9 from t24) x32 (show 2000 ≤ x32.toInt by first | with_reducible assumption | omega) (show x32.toInt ≤ 101999 by first | with_reducible assumption | omega) w12 H.size hT ) (cwV 3 hC.2.2.2.2 uV_RX4_43 rfl rfl rfl (by decide +kernel) ⟨Nat.le_of_ble_eq_true rfl, Nat.le_of_ble_eq_true rfl⟩) rfl hl.1 rfl (Nat.le_of_ble_eq_true rfl) dX4_firstArrival_82 (fun w35 H locs hp34 hw => ?_)
            obtain ⟨hT, k36, hv38, hg37⟩ := hp34
            have hF := hF.tr k36 (by decide)
            have c39 := k36.gi kC_at39 (by decide) c29
            clear hg37
            replace hM := hM.call hv38 rfl
            obtain ⟨x40, ex40⟩ : ∃ y : Int32, y = v65_7 + Int32.ofInt 1 := ⟨_, rfl⟩
            have erx40 := ex40
            refine lv_iinc (v := x40) (lv' := [(7, .int x40), (0, .ref (ad 155)), (1, .int a1), (2, .int a2), (3, .int a3), (4, .int a4), (5, .int v15_5), (6, .int v65_6)]) hx hb dX4_firstArrival_85 hl (k := 7) rfl ex40.symm (by decide) rfl (fun ls hl => ?_)
            have ex40 : x40.toInt = v65_7.toInt + 1 := by rw [ex40]; exact wk_add (y := 1) (show -2147483648 ≤ v65_7.toInt + 1 by omega) (show v65_7.toInt + 1 ≤ 2147483647 by omega)
            replace hM := hM.lt ex40.symm
            refine lv_goto (tgt := 65) hx hb dX4_firstArrival_88 (by decide) ?_
            exact ih65 v65_6 x40 f65_39_8 H locs ls w35 (show 0 ≤ a1.toInt from r13) (show a1.toInt ≤ 12 from t14) (show 0 ≤ a2.toInt from r15) (show a2.toInt ≤ 9 from t16) (show 0 ≤ a3.toInt from r17) (show a3.toInt ≤ 9 from t18) (show 0 ≤ a4.toInt from r19) (show a4.toInt ≤ 99999 from t20) (show 0 ≤ v15_5.toInt from r21) (show v15_5.toInt ≤ 9 from t22) (show 0 ≤ v65_6.toInt from r23) (show v65_6.toInt ≤ 9 from t24) (show 0 ≤ x40.toInt by first | with_reducible assumption | omega) (show x40.toInt ≤ 12 by first | with_reducible assumption | omega) (show 1 ≤ f65_39_8.toInt from r27) (show f65_39_8.toInt ≤ 10 from t28) (show (12 - x40.toInt).toNat < n65 by first | exact tn_lt hm65 (by omega) (by omega) | omega) hw hT hF c39 hM (lv_sub hl [1, 2, 3, 4, 5, 6, 7, 0] rfl)
      replace hM := hM.suc (fun _ => e_X4_firstArrival_15)
      refine lv_iload hx hb dX4_firstArrival_15 (lv_at hl 5 rfl) ?_
      refine lv_aload_n hx hb dX4_firstArrival_17 rfl (lv_at hl 0 rfl) ?_
      refine tk_getA hC hK hw hT hinX4 kC_at155 (by decide) rfl 1 (by decide) (List.mem_cons_of_mem _ uw_5_23) rfl rfl dX4_firstArrival_18 ?_
      refine tk_geti hC hK hw hT hinX7 kC_at39 (by decide) rfl 8 (by decide) (List.mem_cons_of_mem _ uw_49_18) rfl rfl dX4_firstArrival_21 (fun x41 c42 rx41 tx41 => ?_)
      replace hM := hM.rd (sI_at c42)
      refine lv_icmp_ge (tgt := 97) hx hb dX4_firstArrival_24 (by decide) (fun c43 => ?_) (fun c43 => ?_)
      · have c43 : x41.toInt ≤ v15_5.toInt := wk_le.mp c43
        replace hM := hM.pos c43
        refine lv_iconst (v := (-1)) hx hb dX4_firstArrival_97 (by decide) ?_
        exact tk_iret hC hr hlocks hK ⟨hT, hF, hM.ret (by decide), (Or.inr rfl)⟩ hw dX4_firstArrival_98
      · have c43 : v15_5.toInt < x41.toInt := wk_leF c43
        replace hM := hM.neg (Int.not_le.mpr c43)
        refine lv_aload_n hx hb dX4_firstArrival_27 rfl (lv_at hl 0 rfl) ?_
        refine tk_Vi hC hK hw hT hA hE hSR kC_at155 (by decide) rfl (kz_X4_earliestUnsettled_1 l adK adV dC dI cy ad B hB0 (Int.le_trans hB1 (by decide)) qr s1    w1 H.size hT ) (cwV 0 hC.2.2.2.2 uV_RX4_39 rfl rfl rfl (by decide +kernel) ⟨Nat.le_of_ble_eq_true rfl, Nat.le_of_ble_eq_true rfl⟩) rfl hl.1 rfl (Nat.le_of_ble_eq_true rfl) dX4_firstArrival_28 (fun r44 w46 H locs hp45 hw => ?_)
        obtain ⟨hT, k47, hv51, hg50⟩ := hp45
        have hF := hF.tr k47 (by decide)
        have c52 := k47.gi kC_at39 (by decide) c42
        obtain ⟨g48, g49⟩ := hg50
        replace hM := hM.call hv51 rfl
        refine lv_istore (lv' := [(6, .int r44), (0, .ref (ad 155)), (1, .int a1), (2, .int a2), (3, .int a3), (4, .int a4), (5, .int v15_5)]) hx hb dX4_firstArrival_31 hl (by decide) rfl (fun ls hl => ?_)
        refine lv_iload hx hb dX4_firstArrival_33 (lv_at hl 0 rfl) ?_
        refine lv_iconst (v := (-1)) hx hb dX4_firstArrival_35 (by decide) ?_
        refine lv_icmp_ne (tgt := 41) hx hb dX4_firstArrival_36 (by decide) (fun c53 => ?_) (fun c53 => ?_)
        · have c53 : ¬ r44.toInt = (-1 : Int) := wk_eqF c53
          replace hM := hM.pos c53
          refine lv_iload hx hb dX4_firstArrival_41 (lv_at hl 0 rfl) ?_
          refine lv_iload_n hx hb dX4_firstArrival_43 rfl (lv_at hl 4 rfl) ?_
          refine lv_icmp_ne (tgt := 54) hx hb dX4_firstArrival_44 (by decide) (fun c54 => ?_) (fun c54 => ?_)
          · have c54 : ¬ r44.toInt = a3.toInt := wk_eqF c54
            replace hM := hM.pos c54
            refine lv_aload_n hx hb dX4_firstArrival_54 rfl (lv_at hl 1 rfl) ?_
            refine tk_getA hC hK hw hT hinX4 kC_at155 (by decide) rfl 3 (by decide) (List.mem_cons_of_mem _ uw_5_20) rfl rfl dX4_firstArrival_55 ?_
            refine lv_iload hx hb dX4_firstArrival_58 (lv_at hl 0 rfl) ?_
            refine lv_iconst (v := 1) hx hb dX4_firstArrival_60 (by decide) ?_
            refine tk_zast hC hK hw hT kC_at157 (by decide) rfl rfl (show 0 ≤ r44.toInt by first | with_reducible assumption | omega) (show r44.toInt < 10 by first | with_reducible assumption | omega) (by decide) (by decide) dX4_firstArrival_61 (fun H locs w55 hw hT k57 c56 => ?_)
            replace hM := hM.wr (sI_upc k57 c56 (by decide))
            have hF := hF.put kC_at157 (inE_of (a := 0) (b := 10) (by decide) (show 0 ≤ r44.toInt.toNat by omega) (show r44.toInt.toNat ≤ 10 by omega)) k57
            have c58 := k57.gi (Or.inl (tk_ne kC_at39 kC_at157 (by decide))) c52
            refine lv_iconst (v := 0) hx hb dX4_firstArrival_62 (by decide) ?_
            refine lv_istore (lv' := [(7, .int 0), (6, .int r44), (0, .ref (ad 155)), (1, .int a1), (2, .int a2), (3, .int a3), (4, .int a4), (5, .int v15_5)]) hx hb dX4_firstArrival_63 hl (by decide) rfl (fun ls hl => ?_)
            exact L65 ((12 - (0 : Int)).toNat + 1) r44 0 x41 H locs ls w55 (show 0 ≤ a1.toInt from r2) (show a1.toInt ≤ 12 from t3) (show 0 ≤ a2.toInt from r4) (show a2.toInt ≤ 9 from t5) (show 0 ≤ a3.toInt from r6) (show a3.toInt ≤ 9 from t7) (show 0 ≤ a4.toInt from r8) (show a4.toInt ≤ 99999 from t9) (show 0 ≤ v15_5.toInt from r10) (show v15_5.toInt ≤ 9 by first | with_reducible assumption | omega) (show 0 ≤ r44.toInt by first | with_reducible assumption | omega) (show r44.toInt ≤ 9 by first | with_reducible assumption | omega) (by decide) (by decide) (show 1 ≤ x41.toInt by first | with_reducible assumption | omega) (show x41.toInt ≤ 10 from tx41) (Nat.lt_succ_self _) hw hT hF c58 hM (lv_sub hl [2, 3, 4, 5, 6, 7, 1, 0] rfl)
          · have c54 : r44.toInt = a3.toInt := wk_eq.mp c54
            replace hM := hM.neg (fun q => q c54)
            refine lv_aload_n hx hb dX4_firstArrival_47 rfl (lv_at hl 1 rfl) ?_
            refine tk_getA hC hK hw hT hinX4 kC_at155 (by decide) rfl 2 (by decide) (List.mem_cons_of_mem _ uw_5_19) rfl rfl dX4_firstArrival_48 ?_
            refine lv_iload_n hx hb dX4_firstArrival_51 rfl (lv_at hl 4 rfl) ?_
            refine tk_iald hC hK hw hT kC_at156 rfl rfl (show 0 ≤ a3.toInt from r6) (show a3.toInt < 10 from Int.lt_of_le_of_lt t7 (by decide)) dX4_firstArrival_52 (fun x59 c60 rx59 tx59 => ?_)
            have hox59 := c60
            replace hM := hM.rd (sI_at hox59)
            exact tk_iret hC hr hlocks hK ⟨hT, hF, hM.ret rfl, (Or.inl ⟨(show (-1) ≤ x59.toInt from rx59), (show x59.toInt ≤ 102119 from tx59), ⟨x41, c52, (show 1 ≤ x41.toInt by first | with_reducible assumption | omega), (show x41.toInt ≤ 10 from tx41)⟩⟩)⟩ hw dX4_firstArrival_53
        · have c53 : r44.toInt = (-1 : Int) := wk_eq.mp c53
          replace hM := hM.neg (fun q => q c53)
          refine lv_iconst (v := (-1)) hx hb dX4_firstArrival_39 (by decide) ?_
          exact tk_iret hC hr hlocks hK ⟨hT, hF, hM.ret (by decide), (Or.inr rfl)⟩ hw dX4_firstArrival_40
  have hM : TT (fun n => m_X4_firstArrival n 155 a1.toInt a2.toInt a3.toInt a4.toInt (sI w0)) (fun n => m_X4_firstArrival n 155 a1.toInt a2.toInt a3.toInt a4.toInt (sI w0)) := TT.rf
  refine lv_aload_n hx hb dX4_firstArrival_0 rfl (lv_at hl 0 rfl) ?_
  refine tk_Vv hC hK hw hT hA hE hSR kC_at155 (by decide) rfl (kz_X4_clear_1 l adK adV dC dI cy ad B hB0 (Int.le_trans hB1 (by decide)) qr s1    w0 s.heap.size hT ) (cwV 0 hC.2.2.2.2 uV_RX4_30 rfl rfl rfl (by decide +kernel) ⟨Nat.le_of_ble_eq_true rfl, Nat.le_of_ble_eq_true rfl⟩) rfl hl.1 rfl (Nat.le_of_ble_eq_true rfl) dX4_firstArrival_1 (fun w63 H locs hp62 hw => ?_)
  obtain ⟨hT, k64, hv66, hg65⟩ := hp62
  have hF := hF.tr k64 (by decide)
  clear hg65
  replace hM := hM.call hv66 rfl
  refine lv_aload_n hx hb dX4_firstArrival_4 rfl (lv_at hl 0 rfl) ?_
  refine tk_getA hC hK hw hT hinX4 kC_at155 (by decide) rfl 2 (by decide) (List.mem_cons_of_mem _ uw_5_19) rfl rfl dX4_firstArrival_5 ?_
  refine lv_iload_n hx hb dX4_firstArrival_8 rfl (lv_at hl 2 rfl) ?_
  refine lv_iload hx hb dX4_firstArrival_9 (lv_at hl 4 rfl) ?_
  refine tk_iast hC hK hw hT kC_at156 (by decide) rfl rfl (show 0 ≤ a2.toInt from ra2) (show a2.toInt < 10 from Int.lt_of_le_of_lt ta2 (by decide)) (show (-1) ≤ a4.toInt from Int.le_trans (by decide) ra4) (show a4.toInt ≤ 102119 from Int.le_trans ta4 (by decide)) dX4_firstArrival_11 (fun H locs w67 hw hT k69 c68 => ?_)
  replace hM := hM.wr (sI_up k69 c68)
  have hF := hF.put kC_at156 (inE_of (a := 0) (b := 10) (by decide) (show 0 ≤ a2.toInt.toNat by omega) (show a2.toInt.toNat ≤ 10 by omega)) k69
  refine lv_iconst (v := 0) hx hb dX4_firstArrival_12 (by decide) ?_
  refine lv_istore (lv' := [(5, .int 0), (0, .ref (ad 155)), (1, .int a1), (2, .int a2), (3, .int a3), (4, .int a4)]) hx hb dX4_firstArrival_13 hl (by decide) rfl (fun ls hl => ?_)
  exact L15 ((10 - (0 : Int)).toNat + 1) 0 H locs ls w67 (show 0 ≤ a1.toInt from ra1) (show a1.toInt ≤ 12 from ta1) (show 0 ≤ a2.toInt from ra2) (show a2.toInt ≤ 9 from ta2) (show 0 ≤ a3.toInt from ra3) (show a3.toInt ≤ 9 from ta3) (show 0 ≤ a4.toInt from ra4) (show a4.toInt ≤ 99999 from ta4) (by decide) (by decide) (Nat.lt_succ_self _) hw hT hF hM (lv_sub hl [1, 2, 3, 4, 5, 0] rfl)
abbrev Pz_X11_soonest_1 (ad : Nat → Nat) (cy : Nat → ClassId) (B : Int) (qr : Nat) (s1 : Int) (a1 : Int32) (a2 : Int32) (a3 : Int32) (w0 : va_W) : Int32 → va_W → Prop := fun r u => TW ksC ad cy B qr s1 u ∧ FE ksC [(48, 0, 10), (49, 0, 10)] w0 u ∧ Ev (fun n => m_X11_soonest n 0 a1.toInt a2.toInt a3.toInt (sI w0)) (r.toInt, sI u) ∧ ((r = (-2) ∧ 0 ≤ a1.toInt ∧ a1.toInt ≤ 9 ∧ 0 ≤ a2.toInt ∧ a2.toInt ≤ 9 ∧ 0 ≤ a3.toInt ∧ a3.toInt ≤ 99999 ∧ (∃ y : Int32, gi u 39 8 = y ∧ 1 ≤ y.toInt ∧ y.toInt ≤ 10)) ∨ (0 ≤ r.toInt ∧ r.toInt ≤ 102119 ∧ 0 ≤ a1.toInt ∧ a1.toInt ≤ 9 ∧ 0 ≤ a2.toInt ∧ a2.toInt ≤ 9 ∧ 0 ≤ a3.toInt ∧ a3.toInt ≤ 99999 ∧ (∃ y : Int32, gi u 39 8 = y ∧ 1 ≤ y.toInt ∧ y.toInt ≤ 10)) ∨ (r = (-1)))
set_option maxHeartbeats 4000000 in
set_option maxRecDepth 100000 in
theorem kz_X11_soonest_1 (l : Launch) (adK adV : Nat → Nat) (dC : Nat → ClassId) (dI : Nat → Nat → Nat) (cy : Nat → ClassId) (ad : Nat → Nat) (B : Int) (hB0 : 2147483648 ≤ B) (hB1 : B ≤ 1152921504606846976) (qr : Nat) (s1 : Int)  (a1 : Int32) (a2 : Int32) (a3 : Int32) (w0 : va_W) (sz : Nat) (hT : TW ksC ad cy B qr s1 w0)  : Met l yX11_soonest (wu yX11_soonest cX11_soonest 5 (some .int)) ({ frames := 5, cells := 0, slots := 0, locals := 122 }) (va_Pc [.ref (ad 0), .int a1, .int a2, .int a3] (wpreS adK adV dC dI cy sz w0)) (va_Qi (Pz_X11_soonest_1 ad cy B qr s1 a1 a2 a3 w0) (fun u : va_W => wpost dC dI cy (va_A w0 sz) u) (va_A w0 sz)) 0 0 (va_A w0 sz) := by
  refine Met.ofW (cc := cX11_soonest) (maxL := 5) (ret := (some .int)) (by decide) rfl ?_
  intro p e s m args below meth c s₁ Bk hml hv
  obtain ⟨rfl, ⟨hsz, hP, hK, hD0⟩, hE, hSR⟩ := hv
  have hx := Bk.exec
  have hb := Bk.bytes
  have hr := Bk.returns
  have hlocks := Bk.notSynchronized
  have hC : CallFix p m c cX11_soonest 5 s _ (wu yX11_soonest cX11_soonest 5 (some .int)) RX11 := ⟨hx, hb, hml, findClass_of_methodNamed Bk.named, atoms_spec (ws := (wu yX11_soonest cX11_soonest 5 (some .int))) Bk.pre⟩
  subst hsz
  have hD := hD0.self (sz := s.heap.size)
  generalize hAe : va_A w0 s.heap.size = A at hD hE ⊢
  have hA : ∀ q : Nat, s.heap.size ≤ q → A q := fun q h => by rw [← hAe]; exact Or.inr h
  have hw : Wd dC dI A s.heap s.heap [] w0 := ⟨hP, hD, va_S.rf⟩
  have hF : FE ksC [(48, 0, 10), (49, 0, 10)] w0 w0 := FE.rf
  have hl := lv_entry ([.ref (ad 0), .int a1, .int a2, .int a3]) (n := 5) (Nat.le_of_ble_eq_true rfl)
  rw [lg_entry_eq]
  generalize (lg_sl ([.ref (ad 0), .int a1, .int a2, .int a3]) ++ List.replicate (5 - (lg_sl ([.ref (ad 0), .int a1, .int a2, .int a3])).length) Slot.unset).toArray = ls at hl ⊢
  have hl : lv_has ls 5 [(0, .ref (ad 0)), (1, .int a1), (2, .int a2), (3, .int a3)] := hl
  generalize hloc : ([] : List Loc) = locs at hw ⊢
  have hinX11 : ∀ w ∈ u_ws RX11 TX11 13, w ∈ (wu yX11_soonest cX11_soonest 5 (some .int)) := fun _ h => List.mem_cons_of_mem _ (up_70 h)
  have hinX5 : ∀ w ∈ u_ws RX5 TX5 14, w ∈ (wu yX11_soonest cX11_soonest 5 (some .int)) := fun _ h => List.mem_cons_of_mem _ (up_76 h)
  have hinX7 : ∀ w ∈ u_ws RX7 TX7 12, w ∈ (wu yX11_soonest cX11_soonest 5 (some .int)) := fun _ h => List.mem_cons_of_mem _ (up_73 h)
  have J23 : ∀ (H : Heap) (locs : List Loc) (ls : Array Slot) (w1 : va_W), Wd dC dI A s.heap H locs w1 → TW ksC ad cy B qr s1 w1 → FE ksC [(48, 0, 10), (49, 0, 10)] w0 w1 → TT (fun n => m_X11_soonest n 0 a1.toInt a2.toInt a3.toInt (sI w0)) (fun n => b_X11_soonest_23 n 0 (sI w1)) → lv_has ls 5 [(0, .ref (ad 0)), (1, .int a1), (2, .int a2), (3, .int a3)] → W p l e ({ frames := 5, cells := 0, slots := 0, locals := 122 }) s m (List.toArray [.ref (ad 0), .int a1, .int a2, .int a3]) below meth c H locs 0 0 (MQ below (va_Qi (Pz_X11_soonest_1 ad cy B qr s1 a1 a2 a3 w0) (fun u : va_W => wpost dC dI cy A u) A) (List.toArray [.ref (ad 0), .int a1, .int a2, .int a3]) s 0 0 A) (F0 m 23 ls []) := by
    intro H locs ls w1 hw hT hF hM hl
    refine lv_iconst (v := (-1)) hx hb dX11_soonest_23 (by decide) ?_
    exact tk_iret hC hr hlocks hK ⟨hT, hF, hM.ret (by decide), (Or.inr (Or.inr rfl))⟩ hw dX11_soonest_24
  have hM : TT (fun n => m_X11_soonest n 0 a1.toInt a2.toInt a3.toInt (sI w0)) (fun n => m_X11_soonest n 0 a1.toInt a2.toInt a3.toInt (sI w0)) := TT.rf
  refine lv_aload_n hx hb dX11_soonest_0 rfl (lv_at hl 0 rfl) ?_
  refine lv_iload_n hx hb dX11_soonest_1 rfl (lv_at hl 1 rfl) ?_
  refine tk_Vi hC hK hw hT hA hE hSR kC_at0 (by decide) rfl (kz_X11_hasCorner_1 l adK adV dC dI cy ad B hB0 (Int.le_trans hB1 (by decide)) qr s1   a1 w0 s.heap.size hT ) (cwV 1 hC.2.2.2.2 uV_RX11_176 rfl rfl rfl (by decide +kernel) ⟨Nat.le_of_ble_eq_true rfl, Nat.le_of_ble_eq_true rfl⟩) rfl hl.1 rfl (Nat.le_of_ble_eq_true rfl) dX11_soonest_2 (fun r2 w4 H locs hp3 hw => ?_)
  obtain ⟨hT, k5, hv11, hg10⟩ := hp3
  have hF := hF.tr k5 (by decide)
  rcases hg10 with rfl | ⟨rfl, g6, g7, ⟨x8, c9, rx8, tx8⟩⟩
  · replace hM := hM.call (r' := 0) hv11 (by decide)
    refine lv_if_eq (tgt := 23) hx hb dX11_soonest_5 (by decide) (fun _ => ?_) (fun c => absurd (by decide) c)
    replace hM := hM.pos (by decide)
    exact J23  H locs ls w4   hw hT hF hM (lv_sub hl [0, 1, 2, 3] rfl)
  · replace hM := hM.call (r' := 1) hv11 (by decide)
    refine lv_if_eq (tgt := 23) hx hb dX11_soonest_5 (by decide) (fun c => absurd c (by decide)) (fun _ => ?_)
    replace hM := hM.neg (by decide)
    refine lv_aload_n hx hb dX11_soonest_8 rfl (lv_at hl 0 rfl) ?_
    refine lv_iload_n hx hb dX11_soonest_9 rfl (lv_at hl 2 rfl) ?_
    refine tk_Vi hC hK hw hT hA hE hSR kC_at0 (by decide) rfl (kz_X11_hasCorner_1 l adK adV dC dI cy ad B hB0 (Int.le_trans hB1 (by decide)) qr s1   a2 w4 H.size hT ) (cwV 1 hC.2.2.2.2 uV_RX11_176 rfl rfl rfl (by decide +kernel) ⟨Nat.le_of_ble_eq_true rfl, Nat.le_of_ble_eq_true rfl⟩) rfl hl.1 rfl (Nat.le_of_ble_eq_true rfl) dX11_soonest_10 (fun r12 w14 H locs hp13 hw => ?_)
    obtain ⟨hT, k15, hv21, hg20⟩ := hp13
    have hF := hF.tr k15 (by decide)
    have c22 := k15.gi kC_at39 (by decide) c9
    rcases hg20 with rfl | ⟨rfl, g16, g17, ⟨x18, c19, rx18, tx18⟩⟩
    · replace hM := hM.call (r' := 0) hv21 (by decide)
      refine lv_if_eq (tgt := 23) hx hb dX11_soonest_13 (by decide) (fun _ => ?_) (fun c => absurd (by decide) c)
      replace hM := hM.pos (by decide)
      exact J23  H locs ls w14   hw hT hF hM (lv_sub hl [0, 1, 2, 3] rfl)
    · replace hM := hM.call (r' := 1) hv21 (by decide)
      have ex18 : x18.toInt = x8.toInt := by rw [← c22.symm.trans c19]
      refine lv_if_eq (tgt := 23) hx hb dX11_soonest_13 (by decide) (fun c => absurd c (by decide)) (fun _ => ?_)
      replace hM := hM.neg (by decide)
      refine lv_iload_n hx hb dX11_soonest_16 rfl (lv_at hl 3 rfl) ?_
      refine tk_Si hC hK hw hT hA hE hSR (kz_X11_isAskedHour_1 l adK adV dC dI cy ad B hB0 (Int.le_trans hB1 (by decide)) qr s1   a3 w14 H.size hT ) (va_cwS 1 hC.2.2.2.2 uS_RX11_222 rfl rfl rfl (by decide +kernel) ⟨Nat.le_of_ble_eq_true rfl, Nat.le_of_ble_eq_true rfl⟩) rfl hl.1 rfl (Nat.le_of_ble_eq_true rfl) dX11_soonest_17 (fun r23 w25 H locs hp24 hw => ?_)
      obtain ⟨hT, k26, hv30, hg29⟩ := hp24
      have hF := hF.tr k26 (by decide)
      have c31 := k26.gi kC_at39 (by decide) c22
      rcases hg29 with rfl | ⟨rfl, g27, g28⟩
      · replace hM := hM.call (r' := 0) hv30 (by decide)
        refine lv_if_ne (tgt := 25) hx hb dX11_soonest_20 (by decide) (fun c => absurd (by decide) c) (fun _ => ?_)
        replace hM := hM.neg (by decide)
        exact J23  H locs ls w25   hw hT hF hM (lv_sub hl [0, 1, 2, 3] rfl)
      · replace hM := hM.call (r' := 1) hv30 (by decide)
        refine lv_if_ne (tgt := 25) hx hb dX11_soonest_20 (by decide) (fun _ => ?_) (fun c => absurd c (by decide))
        replace hM := hM.pos (by decide)
        refine lv_aload_n hx hb dX11_soonest_25 rfl (lv_at hl 0 rfl) ?_
        refine tk_getA hC hK hw hT hinX11 kC_at0 (by decide) rfl 10 (by decide) (List.mem_cons_of_mem _ uw_2_2) rfl rfl dX11_soonest_26 ?_
        refine lv_aload_n hx hb dX11_soonest_29 rfl (lv_at hl 0 rfl) ?_
        refine tk_getA hC hK hw hT hinX11 kC_at0 (by decide) rfl 4 (by decide) (List.mem_cons_of_mem _ uw_1_7) rfl rfl dX11_soonest_30 ?_
        refine tk_getO hC hK hw hT hinX5 kC_at38 (by decide) rfl 0 (by decide) (List.mem_cons_of_mem _ uw_9_1) rfl rfl dX11_soonest_33 ?_
        refine tk_geti hC hK hw hT hinX7 kC_at39 (by decide) rfl 9 (by decide) (List.mem_cons_of_mem _ uw_9_2) rfl rfl dX11_soonest_36 (fun x32 c33 rx32 tx32 => ?_)
        replace hM := hM.rd (sI_at c33)
        refine lv_iload_n hx hb dX11_soonest_39 rfl (lv_at hl 1 rfl) ?_
        refine lv_iload_n hx hb dX11_soonest_40 rfl (lv_at hl 2 rfl) ?_
        refine lv_iload_n hx hb dX11_soonest_41 rfl (lv_at hl 3 rfl) ?_
        refine tk_Vi hC hK hw hT hA hE hSR kC_at155 (by decide) rfl (kz_X4_firstArrival_2 l adK adV dC dI cy ad B hB0 (Int.le_trans hB1 (by decide)) qr s1   x32 (show 0 ≤ x32.toInt from rx32) (show x32.toInt ≤ 12 from tx32) a1 (show 0 ≤ a1.toInt by first | with_reducible assumption | omega) (show a1.toInt ≤ 9 by first | with_reducible assumption | omega) a2 (show 0 ≤ a2.toInt by first | with_reducible assumption | omega) (show a2.toInt ≤ 9 by first | with_reducible assumption | omega) a3 (show 0 ≤ a3.toInt by first | with_reducible assumption | omega) (show a3.toInt ≤ 99999 by first | with_reducible assumption | omega) w25 H.size hT ) (cwV 4 hC.2.2.2.2 uV_RX11_225 rfl rfl rfl (by decide +kernel) ⟨Nat.le_of_ble_eq_true rfl, Nat.le_of_ble_eq_true rfl⟩) rfl hl.1 rfl (Nat.le_of_ble_eq_true rfl) dX11_soonest_42 (fun r34 w36 H locs hp35 hw => ?_)
        obtain ⟨hT, k37, hv43, hg42⟩ := hp35
        have hF := hF.tr k37 (by decide)
        have c44 := k37.gi kC_at39 (by decide) c31
        have c45 := k37.gi kC_at39 (by decide) c33
        rcases hg42 with ⟨g38, g39, ⟨x40, c41, rx40, tx40⟩⟩ | rfl
        · replace hM := hM.call hv43 rfl
          have ex40 : x40.toInt = x8.toInt := by rw [← c44.symm.trans c41]
          refine lv_istore (lv' := [(4, .int r34), (0, .ref (ad 0)), (1, .int a1), (2, .int a2), (3, .int a3)]) hx hb dX11_soonest_45 hl (by decide) rfl (fun ls hl => ?_)
          refine lv_iload hx hb dX11_soonest_47 (lv_at hl 0 rfl) ?_
          refine lv_iconst (v := (-1)) hx hb dX11_soonest_49 (by decide) ?_
          refine lv_icmp_ne (tgt := 58) hx hb dX11_soonest_50 (by decide) (fun c46 => ?_) (fun c46 => ?_)
          · have c46 : ¬ r34.toInt = (-1 : Int) := wk_eqF c46
            replace hM := hM.pos c46
            refine lv_iload hx hb dX11_soonest_58 (lv_at hl 0 rfl) ?_
            exact tk_iret hC hr hlocks hK ⟨hT, hF, hM.ret rfl, (Or.inr (Or.inl ⟨(show 0 ≤ r34.toInt by first | with_reducible assumption | omega), (show r34.toInt ≤ 102119 by first | with_reducible assumption | omega), (show 0 ≤ a1.toInt by first | with_reducible assumption | omega), (show a1.toInt ≤ 9 by first | with_reducible assumption | omega), (show 0 ≤ a2.toInt by first | with_reducible assumption | omega), (show a2.toInt ≤ 9 by first | with_reducible assumption | omega), (show 0 ≤ a3.toInt by first | with_reducible assumption | omega), (show a3.toInt ≤ 99999 by first | with_reducible assumption | omega), ⟨x8, c44, (show 1 ≤ x8.toInt by first | with_reducible assumption | omega), (show x8.toInt ≤ 10 by first | with_reducible assumption | omega)⟩⟩))⟩ hw dX11_soonest_60
          · have c46 : r34.toInt = (-1 : Int) := wk_eq.mp c46
            replace hM := hM.neg (fun q => q c46)
            refine lv_bipush (v := (-2)) hx hb dX11_soonest_53 (by decide) ?_
            refine lv_goto (tgt := 60) hx hb dX11_soonest_55 (by decide) ?_
            exact tk_iret hC hr hlocks hK ⟨hT, hF, hM.ret (by decide), (Or.inl ⟨rfl, (show 0 ≤ a1.toInt by first | with_reducible assumption | omega), (show a1.toInt ≤ 9 by first | with_reducible assumption | omega), (show 0 ≤ a2.toInt by first | with_reducible assumption | omega), (show a2.toInt ≤ 9 by first | with_reducible assumption | omega), (show 0 ≤ a3.toInt by first | with_reducible assumption | omega), (show a3.toInt ≤ 99999 by first | with_reducible assumption | omega), ⟨x8, c44, (show 1 ≤ x8.toInt by first | with_reducible assumption | omega), (show x8.toInt ≤ 10 by first | with_reducible assumption | omega)⟩⟩)⟩ hw dX11_soonest_60
        · replace hM := hM.call (r' := (-1)) hv43 (by decide)
          refine lv_istore (lv' := [(4, .int (-1)), (0, .ref (ad 0)), (1, .int a1), (2, .int a2), (3, .int a3)]) hx hb dX11_soonest_45 hl (by decide) rfl (fun ls hl => ?_)
          refine lv_iload hx hb dX11_soonest_47 (lv_at hl 0 rfl) ?_
          refine lv_iconst (v := (-1)) hx hb dX11_soonest_49 (by decide) ?_
          refine lv_icmp_ne (tgt := 58) hx hb dX11_soonest_50 (by decide) (fun c => absurd (by decide) c) (fun _ => ?_)
          replace hM := hM.neg (by decide)
          refine lv_bipush (v := (-2)) hx hb dX11_soonest_53 (by decide) ?_
          refine lv_goto (tgt := 60) hx hb dX11_soonest_55 (by decide) ?_
          exact tk_iret hC hr hlocks hK ⟨hT, hF, hM.ret (by decide), (Or.inl ⟨rfl, (show 0 ≤ a1.toInt by first | with_reducible assumption | omega), (show a1.toInt ≤ 9 by first | with_reducible assumption | omega), (show 0 ≤ a2.toInt by first | with_reducible assumption | omega), (show a2.toInt ≤ 9 by first | with_reducible assumption | omega), (show 0 ≤ a3.toInt by first | with_reducible assumption | omega), (show a3.toInt ≤ 99999 by first | with_reducible assumption | omega), ⟨x8, c44, (show 1 ≤ x8.toInt by first | with_reducible assumption | omega), (show x8.toInt ≤ 10 by first | with_reducible assumption | omega)⟩⟩)⟩ hw dX11_soonest_60
abbrev Pz_X12_four_1 (ad : Nat → Nat) (cy : Nat → ClassId) (B : Int) (qr : Nat) (s1 : Int) (a1 : Int32) (w0 : va_W) : va_W → Prop := fun u => TW ksM ad cy B qr 12 u ∧ FE ksM [(12, 1, 1), (60, 0, 400)] w0 u ∧ Ev (fun n => m_X12_four n 0 a1.toInt (sI w0)) (0, sI u) ∧ (((∃ y : Int32, gi u 0 1 = y ∧ 4 ≤ y.toInt ∧ y.toInt ≤ 384)))
set_option maxHeartbeats 4000000 in
set_option maxRecDepth 100000 in
theorem kz_X12_four_1 (l : Launch) (adK adV : Nat → Nat) (dC : Nat → ClassId) (dI : Nat → Nat → Nat) (cy : Nat → ClassId) (ad : Nat → Nat) (B : Int) (hB0 : 100000 ≤ B) (hB1 : B ≤ 1073741824) (qr : Nat) (s1 : Int)  (a1 : Int32) (w0 : va_W) (sz : Nat) (hT : TW ksM ad cy B qr 12 w0) (f0_ : Int32) (cf0_ : gi w0 0 1 = f0_) (rf0_ : 0 ≤ f0_.toInt) (tf0_ : f0_.toInt ≤ 380) : Met l yX12_four (wu yX12_four cX12_four 3 none) ({ frames := 1, cells := 0, slots := 0, locals := 12 }) (va_Pc [.ref (ad 0), .int a1] (wpreS adK adV dC dI cy sz w0)) (va_Qv (Pz_X12_four_1 ad cy B qr s1 a1 w0) (fun u : va_W => wpost dC dI cy (va_A w0 sz) u) (va_A w0 sz)) 0 0 (va_A w0 sz) := by
  refine Met.ofW (cc := cX12_four) (maxL := 3) (ret := none) (by decide) rfl ?_
  intro p e s m args below meth c s₁ Bk hml hv
  obtain ⟨rfl, ⟨hsz, hP, hK, hD0⟩, hE, hSR⟩ := hv
  have hx := Bk.exec
  have hb := Bk.bytes
  have hr := Bk.returns
  have hlocks := Bk.notSynchronized
  have hC : CallFix p m c cX12_four 3 s _ (wu yX12_four cX12_four 3 none) RX12 := ⟨hx, hb, hml, findClass_of_methodNamed Bk.named, atoms_spec (ws := (wu yX12_four cX12_four 3 none)) Bk.pre⟩
  subst hsz
  have hD := hD0.self (sz := s.heap.size)
  generalize hAe : va_A w0 s.heap.size = A at hD hE ⊢
  have hA : ∀ q : Nat, s.heap.size ≤ q → A q := fun q h => by rw [← hAe]; exact Or.inr h
  have hw : Wd dC dI A s.heap s.heap [] w0 := ⟨hP, hD, va_S.rf⟩
  have hF : FE ksM [(12, 1, 1), (60, 0, 400)] w0 w0 := FE.rf
  have hl := lv_entry ([.ref (ad 0), .int a1]) (n := 3) (Nat.le_of_ble_eq_true rfl)
  rw [lg_entry_eq]
  generalize (lg_sl ([.ref (ad 0), .int a1]) ++ List.replicate (3 - (lg_sl ([.ref (ad 0), .int a1])).length) Slot.unset).toArray = ls at hl ⊢
  have hl : lv_has ls 3 [(0, .ref (ad 0)), (1, .int a1)] := hl
  generalize hloc : ([] : List Loc) = locs at hw ⊢
  have hinX12 : ∀ w ∈ u_ws RX12 TX12 42, w ∈ (wu yX12_four cX12_four 3 none) := fun _ h => List.mem_cons_of_mem _ (up_71 h)
  have hM : TT (fun n => m_X12_four n 0 a1.toInt (sI w0)) (fun n => m_X12_four n 0 a1.toInt (sI w0)) := TT.rf
  refine lv_bipush (v := 24) hx hb dX12_four_0 (by decide) ?_
  refine lv_istore_n (lv' := [(2, .int 24), (0, .ref (ad 0)), (1, .int a1)]) hx hb dX12_four_2 rfl hl (by decide) rfl (fun ls hl => ?_)
  refine lv_iload_n hx hb dX12_four_3 rfl (lv_at hl 0 rfl) ?_
  refine lv_if_lt (tgt := 36) hx hb dX12_four_4 (by decide) (fun c => absurd c (by decide)) (fun _ => ?_)
  refine lv_aload_n hx hb dX12_four_7 rfl (lv_at hl 1 rfl) ?_
  refine tk_getA hC hK hw hT hinX12 kM_at0 (by decide) rfl 0 (by decide) (List.mem_cons_of_mem _ uw_6_14) rfl rfl dX12_four_8 ?_
  refine lv_aload_n hx hb dX12_four_11 rfl (lv_at hl 1 rfl) ?_
  refine tk_geti hC hK hw hT hinX12 kM_at0 (by decide) rfl 1 (by decide) (List.mem_cons_of_mem _ uw_8_7) rfl rfl dX12_four_12 (fun x1 c2 rx1 tx1 => ?_)
  refine wk_top f0_ (c2.symm.trans cf0_) ?_
  replace hM := hM.rd (sI_at cf0_)
  refine lv_iload_n hx hb dX12_four_15 rfl (lv_at hl 2 rfl) ?_
  refine lv_iload_n hx hb dX12_four_16 rfl (lv_at hl 0 rfl) ?_
  refine lv_ishr hx hb dX12_four_17 ?_
  refine lv_topi (fun x3 ex3 => ?_)
  have ezx3 := ex3
  replace hM := hM.lt (o32_e (f := fun x y => x >>> (y &&& 31)) ezx3 rfl (by decide))
  refine lv_i2b hx hb dX12_four_18 rfl ?_
  refine lv_topi (fun x4 ex4 => ?_)
  replace hM := hM.lt (mB_e ex4)
  refine tk_bastv hC hK hw hT kM_at1 (by decide) rfl rfl (show 0 ≤ f0_.toInt from rf0_) (show f0_.toInt < 400 from Int.lt_of_le_of_lt tf0_ (by decide)) dX12_four_19 (fun H locs w5 hw hT k7 c6 => ?_)
  obtain ⟨z8, ez8⟩ : ∃ z : Int32, z = x4.toInt8.toInt32 := ⟨_, rfl⟩
  have c6 := c6.trans ez8.symm
  replace hM := hM.lt (mB_e ez8)
  replace hM := hM.wr (sI_up k7 c6)
  have hF := hF.put kM_at1 (inE_of (a := 0) (b := 400) (by decide) (show 0 ≤ f0_.toInt.toNat by omega) (show f0_.toInt.toNat ≤ 400 by omega)) k7
  have c9 := k7.gi (Or.inl (tk_ne kM_at0 kM_at1 (by decide))) cf0_
  refine lv_aload_n hx hb dX12_four_20 rfl (lv_at hl 1 rfl) ?_
  refine lv_dup hx hb dX12_four_21 rfl ?_
  refine tk_geti hC hK hw hT hinX12 kM_at0 (by decide) rfl 1 (by decide) (List.mem_cons_of_mem _ uw_8_7) rfl rfl dX12_four_22 (fun x10 c11 rx10 tx10 => ?_)
  refine wk_top f0_ (c11.symm.trans c9) ?_
  replace hM := hM.rd (sI_at c9)
  refine lv_iconst (v := 1) hx hb dX12_four_25 (by decide) ?_
  refine lv_iadd hx hb dX12_four_26 ?_
  refine lv_topi (fun x12 ex12 => ?_)
  have ezx12 := ex12
  have ex12 : x12.toInt = f0_.toInt + (1 : Int) := by rw [ex12]; exact wk_add (show (-2147483648) ≤ f0_.toInt + (1 : Int) by omega) (show f0_.toInt + (1 : Int) ≤ 2147483647 by omega)
  replace hM := hM.lt ex12.symm
  refine tk_puti hC hK hw hT hinX12 tyX12_ok nmX12 kM_at0 (by decide) rfl rfl 1 (by decide) (List.mem_cons_of_mem _ uw_8_7) rfl rfl rfl rfl (show 0 ≤ x12.toInt by first | with_reducible assumption | omega) (show x12.toInt ≤ 400 by first | with_reducible assumption | omega) dX12_four_27 (fun H locs w13 hw hT k15 c14 => ?_)
  replace hM := hM.wr (sI_up k15 c14)
  have hF := hF.put kM_at0 (k := 1) (by decide) k15
  refine lv_iinc (v := 16) (lv' := [(2, .int 16), (0, .ref (ad 0)), (1, .int a1)]) hx hb dX12_four_30 hl (k := 0) rfl (by decide) (by decide) rfl (fun ls hl => ?_)
  refine lv_goto (tgt := 3) hx hb dX12_four_33 (by decide) ?_
  refine lv_iload_n hx hb dX12_four_3 rfl (lv_at hl 0 rfl) ?_
  refine lv_if_lt (tgt := 36) hx hb dX12_four_4 (by decide) (fun c => absurd c (by decide)) (fun _ => ?_)
  refine lv_aload_n hx hb dX12_four_7 rfl (lv_at hl 1 rfl) ?_
  refine tk_getA hC hK hw hT hinX12 kM_at0 (by decide) rfl 0 (by decide) (List.mem_cons_of_mem _ uw_6_14) rfl rfl dX12_four_8 ?_
  refine lv_aload_n hx hb dX12_four_11 rfl (lv_at hl 1 rfl) ?_
  refine tk_geti hC hK hw hT hinX12 kM_at0 (by decide) rfl 1 (by decide) (List.mem_cons_of_mem _ uw_8_7) rfl rfl dX12_four_12 (fun x16 c17 rx16 tx16 => ?_)
  refine wk_top x12 (c17.symm.trans c14) ?_
  replace hM := hM.rd (sI_at c14)
  refine lv_iload_n hx hb dX12_four_15 rfl (lv_at hl 2 rfl) ?_
  refine lv_iload_n hx hb dX12_four_16 rfl (lv_at hl 0 rfl) ?_
  refine lv_ishr hx hb dX12_four_17 ?_
  refine lv_topi (fun x18 ex18 => ?_)
  have ezx18 := ex18
  replace hM := hM.lt (o32_e (f := fun x y => x >>> (y &&& 31)) ezx18 rfl (by decide))
  refine lv_i2b hx hb dX12_four_18 rfl ?_
  refine lv_topi (fun x19 ex19 => ?_)
  replace hM := hM.lt (mB_e ex19)
  refine tk_bastv hC hK hw hT kM_at1 (by decide) rfl rfl (show 0 ≤ x12.toInt by first | with_reducible assumption | omega) (show x12.toInt < 400 by first | with_reducible assumption | omega) dX12_four_19 (fun H locs w20 hw hT k22 c21 => ?_)
  obtain ⟨z23, ez23⟩ : ∃ z : Int32, z = x19.toInt8.toInt32 := ⟨_, rfl⟩
  have c21 := c21.trans ez23.symm
  replace hM := hM.lt (mB_e ez23)
  replace hM := hM.wr (sI_up k22 c21)
  have hF := hF.put kM_at1 (inE_of (a := 0) (b := 400) (by decide) (show 0 ≤ x12.toInt.toNat by omega) (show x12.toInt.toNat ≤ 400 by omega)) k22
  have c24 := k22.gi (Or.inl (tk_ne kM_at0 kM_at1 (by decide))) c14
  refine lv_aload_n hx hb dX12_four_20 rfl (lv_at hl 1 rfl) ?_
  refine lv_dup hx hb dX12_four_21 rfl ?_
  refine tk_geti hC hK hw hT hinX12 kM_at0 (by decide) rfl 1 (by decide) (List.mem_cons_of_mem _ uw_8_7) rfl rfl dX12_four_22 (fun x25 c26 rx25 tx25 => ?_)
  refine wk_top x12 (c26.symm.trans c24) ?_
  replace hM := hM.rd (sI_at c24)
  refine lv_iconst (v := 1) hx hb dX12_four_25 (by decide) ?_
  refine lv_iadd hx hb dX12_four_26 ?_
  refine lv_topi (fun x27 ex27 => ?_)
  have ezx27 := ex27
  have ex27 : x27.toInt = x12.toInt + (1 : Int) := by rw [ex27]; exact wk_add (show (-2147483648) ≤ x12.toInt + (1 : Int) by omega) (show x12.toInt + (1 : Int) ≤ 2147483647 by omega)
  replace hM := hM.lt ex27.symm
  refine tk_puti hC hK hw hT hinX12 tyX12_ok nmX12 kM_at0 (by decide) rfl rfl 1 (by decide) (List.mem_cons_of_mem _ uw_8_7) rfl rfl rfl rfl (show 0 ≤ x27.toInt by first | with_reducible assumption | omega) (show x27.toInt ≤ 400 by first | with_reducible assumption | omega) dX12_four_27 (fun H locs w28 hw hT k30 c29 => ?_)
  replace hM := hM.wr (sI_up k30 c29)
  have hF := hF.put kM_at0 (k := 1) (by decide) k30
  refine lv_iinc (v := 8) (lv' := [(2, .int 8), (0, .ref (ad 0)), (1, .int a1)]) hx hb dX12_four_30 hl (k := 0) rfl (by decide) (by decide) rfl (fun ls hl => ?_)
  refine lv_goto (tgt := 3) hx hb dX12_four_33 (by decide) ?_
  refine lv_iload_n hx hb dX12_four_3 rfl (lv_at hl 0 rfl) ?_
  refine lv_if_lt (tgt := 36) hx hb dX12_four_4 (by decide) (fun c => absurd c (by decide)) (fun _ => ?_)
  refine lv_aload_n hx hb dX12_four_7 rfl (lv_at hl 1 rfl) ?_
  refine tk_getA hC hK hw hT hinX12 kM_at0 (by decide) rfl 0 (by decide) (List.mem_cons_of_mem _ uw_6_14) rfl rfl dX12_four_8 ?_
  refine lv_aload_n hx hb dX12_four_11 rfl (lv_at hl 1 rfl) ?_
  refine tk_geti hC hK hw hT hinX12 kM_at0 (by decide) rfl 1 (by decide) (List.mem_cons_of_mem _ uw_8_7) rfl rfl dX12_four_12 (fun x31 c32 rx31 tx31 => ?_)
  refine wk_top x27 (c32.symm.trans c29) ?_
  replace hM := hM.rd (sI_at c29)
  refine lv_iload_n hx hb dX12_four_15 rfl (lv_at hl 2 rfl) ?_
  refine lv_iload_n hx hb dX12_four_16 rfl (lv_at hl 0 rfl) ?_
  refine lv_ishr hx hb dX12_four_17 ?_
  refine lv_topi (fun x33 ex33 => ?_)
  have ezx33 := ex33
  replace hM := hM.lt (o32_e (f := fun x y => x >>> (y &&& 31)) ezx33 rfl (by decide))
  refine lv_i2b hx hb dX12_four_18 rfl ?_
  refine lv_topi (fun x34 ex34 => ?_)
  replace hM := hM.lt (mB_e ex34)
  refine tk_bastv hC hK hw hT kM_at1 (by decide) rfl rfl (show 0 ≤ x27.toInt by first | with_reducible assumption | omega) (show x27.toInt < 400 by first | with_reducible assumption | omega) dX12_four_19 (fun H locs w35 hw hT k37 c36 => ?_)
  obtain ⟨z38, ez38⟩ : ∃ z : Int32, z = x34.toInt8.toInt32 := ⟨_, rfl⟩
  have c36 := c36.trans ez38.symm
  replace hM := hM.lt (mB_e ez38)
  replace hM := hM.wr (sI_up k37 c36)
  have hF := hF.put kM_at1 (inE_of (a := 0) (b := 400) (by decide) (show 0 ≤ x27.toInt.toNat by omega) (show x27.toInt.toNat ≤ 400 by omega)) k37
  have c39 := k37.gi (Or.inl (tk_ne kM_at0 kM_at1 (by decide))) c29
  refine lv_aload_n hx hb dX12_four_20 rfl (lv_at hl 1 rfl) ?_
  refine lv_dup hx hb dX12_four_21 rfl ?_
  refine tk_geti hC hK hw hT hinX12 kM_at0 (by decide) rfl 1 (by decide) (List.mem_cons_of_mem _ uw_8_7) rfl rfl dX12_four_22 (fun x40 c41 rx40 tx40 => ?_)
  refine wk_top x27 (c41.symm.trans c39) ?_
  replace hM := hM.rd (sI_at c39)
  refine lv_iconst (v := 1) hx hb dX12_four_25 (by decide) ?_
  refine lv_iadd hx hb dX12_four_26 ?_
  refine lv_topi (fun x42 ex42 => ?_)
  have ezx42 := ex42
  have ex42 : x42.toInt = x27.toInt + (1 : Int) := by rw [ex42]; exact wk_add (show (-2147483648) ≤ x27.toInt + (1 : Int) by omega) (show x27.toInt + (1 : Int) ≤ 2147483647 by omega)
  replace hM := hM.lt ex42.symm
  refine tk_puti hC hK hw hT hinX12 tyX12_ok nmX12 kM_at0 (by decide) rfl rfl 1 (by decide) (List.mem_cons_of_mem _ uw_8_7) rfl rfl rfl rfl (show 0 ≤ x42.toInt by first | with_reducible assumption | omega) (show x42.toInt ≤ 400 by first | with_reducible assumption | omega) dX12_four_27 (fun H locs w43 hw hT k45 c44 => ?_)
  replace hM := hM.wr (sI_up k45 c44)
  have hF := hF.put kM_at0 (k := 1) (by decide) k45
  refine lv_iinc (v := 0) (lv' := [(2, .int 0), (0, .ref (ad 0)), (1, .int a1)]) hx hb dX12_four_30 hl (k := 0) rfl (by decide) (by decide) rfl (fun ls hl => ?_)
  refine lv_goto (tgt := 3) hx hb dX12_four_33 (by decide) ?_
  refine lv_iload_n hx hb dX12_four_3 rfl (lv_at hl 0 rfl) ?_
  refine lv_if_lt (tgt := 36) hx hb dX12_four_4 (by decide) (fun c => absurd c (by decide)) (fun _ => ?_)
  refine lv_aload_n hx hb dX12_four_7 rfl (lv_at hl 1 rfl) ?_
  refine tk_getA hC hK hw hT hinX12 kM_at0 (by decide) rfl 0 (by decide) (List.mem_cons_of_mem _ uw_6_14) rfl rfl dX12_four_8 ?_
  refine lv_aload_n hx hb dX12_four_11 rfl (lv_at hl 1 rfl) ?_
  refine tk_geti hC hK hw hT hinX12 kM_at0 (by decide) rfl 1 (by decide) (List.mem_cons_of_mem _ uw_8_7) rfl rfl dX12_four_12 (fun x46 c47 rx46 tx46 => ?_)
  refine wk_top x42 (c47.symm.trans c44) ?_
  replace hM := hM.rd (sI_at c44)
  refine lv_iload_n hx hb dX12_four_15 rfl (lv_at hl 2 rfl) ?_
  refine lv_iload_n hx hb dX12_four_16 rfl (lv_at hl 0 rfl) ?_
  refine lv_ishr hx hb dX12_four_17 ?_
  refine lv_topi (fun x48 ex48 => ?_)
  have ezx48 := ex48
  replace hM := hM.lt (o32_e (f := fun x y => x >>> (y &&& 31)) ezx48 rfl (by decide))
  refine lv_i2b hx hb dX12_four_18 rfl ?_
  refine lv_topi (fun x49 ex49 => ?_)
  replace hM := hM.lt (mB_e ex49)
  refine tk_bastv hC hK hw hT kM_at1 (by decide) rfl rfl (show 0 ≤ x42.toInt by first | with_reducible assumption | omega) (show x42.toInt < 400 by first | with_reducible assumption | omega) dX12_four_19 (fun H locs w50 hw hT k52 c51 => ?_)
  obtain ⟨z53, ez53⟩ : ∃ z : Int32, z = x49.toInt8.toInt32 := ⟨_, rfl⟩
  have c51 := c51.trans ez53.symm
  replace hM := hM.lt (mB_e ez53)
  replace hM := hM.wr (sI_up k52 c51)
  have hF := hF.put kM_at1 (inE_of (a := 0) (b := 400) (by decide) (show 0 ≤ x42.toInt.toNat by omega) (show x42.toInt.toNat ≤ 400 by omega)) k52
  have c54 := k52.gi (Or.inl (tk_ne kM_at0 kM_at1 (by decide))) c44
  refine lv_aload_n hx hb dX12_four_20 rfl (lv_at hl 1 rfl) ?_
  refine lv_dup hx hb dX12_four_21 rfl ?_
  refine tk_geti hC hK hw hT hinX12 kM_at0 (by decide) rfl 1 (by decide) (List.mem_cons_of_mem _ uw_8_7) rfl rfl dX12_four_22 (fun x55 c56 rx55 tx55 => ?_)
  refine wk_top x42 (c56.symm.trans c54) ?_
  replace hM := hM.rd (sI_at c54)
  refine lv_iconst (v := 1) hx hb dX12_four_25 (by decide) ?_
  refine lv_iadd hx hb dX12_four_26 ?_
  refine lv_topi (fun x57 ex57 => ?_)
  have ezx57 := ex57
  have ex57 : x57.toInt = x42.toInt + (1 : Int) := by rw [ex57]; exact wk_add (show (-2147483648) ≤ x42.toInt + (1 : Int) by omega) (show x42.toInt + (1 : Int) ≤ 2147483647 by omega)
  replace hM := hM.lt ex57.symm
  refine tk_puti hC hK hw hT hinX12 tyX12_ok nmX12 kM_at0 (by decide) rfl rfl 1 (by decide) (List.mem_cons_of_mem _ uw_8_7) rfl rfl rfl rfl (show 0 ≤ x57.toInt by first | with_reducible assumption | omega) (show x57.toInt ≤ 400 by first | with_reducible assumption | omega) dX12_four_27 (fun H locs w58 hw hT k60 c59 => ?_)
  replace hM := hM.wr (sI_up k60 c59)
  have hF := hF.put kM_at0 (k := 1) (by decide) k60
  refine lv_iinc (v := (-8)) (lv' := [(2, .int (-8)), (0, .ref (ad 0)), (1, .int a1)]) hx hb dX12_four_30 hl (k := 0) rfl (by decide) (by decide) rfl (fun ls hl => ?_)
  refine lv_goto (tgt := 3) hx hb dX12_four_33 (by decide) ?_
  refine lv_iload_n hx hb dX12_four_3 rfl (lv_at hl 0 rfl) ?_
  refine lv_if_lt (tgt := 36) hx hb dX12_four_4 (by decide) (fun _ => ?_) (fun c => absurd (by decide) c)
  exact tk_vret hC hr hlocks hK ⟨hT, hF, hM.ret rfl, ⟨x57, c59, (show 4 ≤ x57.toInt by first | with_reducible assumption | omega), (show x57.toInt ≤ 384 by first | with_reducible assumption | omega)⟩⟩ hw dX12_four_36
abbrev Pz_X12_four_2 (ad : Nat → Nat) (cy : Nat → ClassId) (B : Int) (qr : Nat) (s1 : Int) (a1 : Int32) (w0 : va_W) : va_W → Prop := fun u => TW ksM ad cy B qr 12 u ∧ FE ksM [(12, 1, 1), (60, 0, 400)] w0 u ∧ Ev (fun n => m_X12_four n 0 a1.toInt (sI w0)) (0, sI u) ∧ (((∃ y : Int32, gi u 0 1 = y ∧ 8 ≤ y.toInt ∧ y.toInt ≤ 388)))
set_option maxHeartbeats 4000000 in
set_option maxRecDepth 100000 in
theorem kz_X12_four_2 (l : Launch) (adK adV : Nat → Nat) (dC : Nat → ClassId) (dI : Nat → Nat → Nat) (cy : Nat → ClassId) (ad : Nat → Nat) (B : Int) (hB0 : 100000 ≤ B) (hB1 : B ≤ 1073741824) (qr : Nat) (s1 : Int)  (a1 : Int32) (w0 : va_W) (sz : Nat) (hT : TW ksM ad cy B qr 12 w0) (f0_ : Int32) (cf0_ : gi w0 0 1 = f0_) (rf0_ : 4 ≤ f0_.toInt) (tf0_ : f0_.toInt ≤ 384) : Met l yX12_four (wu yX12_four cX12_four 3 none) ({ frames := 1, cells := 0, slots := 0, locals := 12 }) (va_Pc [.ref (ad 0), .int a1] (wpreS adK adV dC dI cy sz w0)) (va_Qv (Pz_X12_four_2 ad cy B qr s1 a1 w0) (fun u : va_W => wpost dC dI cy (va_A w0 sz) u) (va_A w0 sz)) 0 0 (va_A w0 sz) := by
  refine Met.ofW (cc := cX12_four) (maxL := 3) (ret := none) (by decide) rfl ?_
  intro p e s m args below meth c s₁ Bk hml hv
  obtain ⟨rfl, ⟨hsz, hP, hK, hD0⟩, hE, hSR⟩ := hv
  have hx := Bk.exec
  have hb := Bk.bytes
  have hr := Bk.returns
  have hlocks := Bk.notSynchronized
  have hC : CallFix p m c cX12_four 3 s _ (wu yX12_four cX12_four 3 none) RX12 := ⟨hx, hb, hml, findClass_of_methodNamed Bk.named, atoms_spec (ws := (wu yX12_four cX12_four 3 none)) Bk.pre⟩
  subst hsz
  have hD := hD0.self (sz := s.heap.size)
  generalize hAe : va_A w0 s.heap.size = A at hD hE ⊢
  have hA : ∀ q : Nat, s.heap.size ≤ q → A q := fun q h => by rw [← hAe]; exact Or.inr h
  have hw : Wd dC dI A s.heap s.heap [] w0 := ⟨hP, hD, va_S.rf⟩
  have hF : FE ksM [(12, 1, 1), (60, 0, 400)] w0 w0 := FE.rf
  have hl := lv_entry ([.ref (ad 0), .int a1]) (n := 3) (Nat.le_of_ble_eq_true rfl)
  rw [lg_entry_eq]
  generalize (lg_sl ([.ref (ad 0), .int a1]) ++ List.replicate (3 - (lg_sl ([.ref (ad 0), .int a1])).length) Slot.unset).toArray = ls at hl ⊢
  have hl : lv_has ls 3 [(0, .ref (ad 0)), (1, .int a1)] := hl
  generalize hloc : ([] : List Loc) = locs at hw ⊢
  have hinX12 : ∀ w ∈ u_ws RX12 TX12 42, w ∈ (wu yX12_four cX12_four 3 none) := fun _ h => List.mem_cons_of_mem _ (up_71 h)
  have hM : TT (fun n => m_X12_four n 0 a1.toInt (sI w0)) (fun n => m_X12_four n 0 a1.toInt (sI w0)) := TT.rf
  refine lv_bipush (v := 24) hx hb dX12_four_0 (by decide) ?_
  refine lv_istore_n (lv' := [(2, .int 24), (0, .ref (ad 0)), (1, .int a1)]) hx hb dX12_four_2 rfl hl (by decide) rfl (fun ls hl => ?_)
  refine lv_iload_n hx hb dX12_four_3 rfl (lv_at hl 0 rfl) ?_
  refine lv_if_lt (tgt := 36) hx hb dX12_four_4 (by decide) (fun c => absurd c (by decide)) (fun _ => ?_)
  refine lv_aload_n hx hb dX12_four_7 rfl (lv_at hl 1 rfl) ?_
  refine tk_getA hC hK hw hT hinX12 kM_at0 (by decide) rfl 0 (by decide) (List.mem_cons_of_mem _ uw_6_14) rfl rfl dX12_four_8 ?_
  refine lv_aload_n hx hb dX12_four_11 rfl (lv_at hl 1 rfl) ?_
  refine tk_geti hC hK hw hT hinX12 kM_at0 (by decide) rfl 1 (by decide) (List.mem_cons_of_mem _ uw_8_7) rfl rfl dX12_four_12 (fun x1 c2 rx1 tx1 => ?_)
  refine wk_top f0_ (c2.symm.trans cf0_) ?_
  replace hM := hM.rd (sI_at cf0_)
  refine lv_iload_n hx hb dX12_four_15 rfl (lv_at hl 2 rfl) ?_
  refine lv_iload_n hx hb dX12_four_16 rfl (lv_at hl 0 rfl) ?_
  refine lv_ishr hx hb dX12_four_17 ?_
  refine lv_topi (fun x3 ex3 => ?_)
  have ezx3 := ex3
  replace hM := hM.lt (o32_e (f := fun x y => x >>> (y &&& 31)) ezx3 rfl (by decide))
  refine lv_i2b hx hb dX12_four_18 rfl ?_
  refine lv_topi (fun x4 ex4 => ?_)
  replace hM := hM.lt (mB_e ex4)
  refine tk_bastv hC hK hw hT kM_at1 (by decide) rfl rfl (show 0 ≤ f0_.toInt from Int.le_trans (by decide) rf0_) (show f0_.toInt < 400 from Int.lt_of_le_of_lt tf0_ (by decide)) dX12_four_19 (fun H locs w5 hw hT k7 c6 => ?_)
  obtain ⟨z8, ez8⟩ : ∃ z : Int32, z = x4.toInt8.toInt32 := ⟨_, rfl⟩
  have c6 := c6.trans ez8.symm
  replace hM := hM.lt (mB_e ez8)
  replace hM := hM.wr (sI_up k7 c6)
  have hF := hF.put kM_at1 (inE_of (a := 0) (b := 400) (by decide) (show 0 ≤ f0_.toInt.toNat by omega) (show f0_.toInt.toNat ≤ 400 by omega)) k7
  have c9 := k7.gi (Or.inl (tk_ne kM_at0 kM_at1 (by decide))) cf0_
  refine lv_aload_n hx hb dX12_four_20 rfl (lv_at hl 1 rfl) ?_
  refine lv_dup hx hb dX12_four_21 rfl ?_
  refine tk_geti hC hK hw hT hinX12 kM_at0 (by decide) rfl 1 (by decide) (List.mem_cons_of_mem _ uw_8_7) rfl rfl dX12_four_22 (fun x10 c11 rx10 tx10 => ?_)
  refine wk_top f0_ (c11.symm.trans c9) ?_
  replace hM := hM.rd (sI_at c9)
  refine lv_iconst (v := 1) hx hb dX12_four_25 (by decide) ?_
  refine lv_iadd hx hb dX12_four_26 ?_
  refine lv_topi (fun x12 ex12 => ?_)
  have ezx12 := ex12
  have ex12 : x12.toInt = f0_.toInt + (1 : Int) := by rw [ex12]; exact wk_add (show (-2147483648) ≤ f0_.toInt + (1 : Int) by omega) (show f0_.toInt + (1 : Int) ≤ 2147483647 by omega)
  replace hM := hM.lt ex12.symm
  refine tk_puti hC hK hw hT hinX12 tyX12_ok nmX12 kM_at0 (by decide) rfl rfl 1 (by decide) (List.mem_cons_of_mem _ uw_8_7) rfl rfl rfl rfl (show 0 ≤ x12.toInt by first | with_reducible assumption | omega) (show x12.toInt ≤ 400 by first | with_reducible assumption | omega) dX12_four_27 (fun H locs w13 hw hT k15 c14 => ?_)
  replace hM := hM.wr (sI_up k15 c14)
  have hF := hF.put kM_at0 (k := 1) (by decide) k15
  refine lv_iinc (v := 16) (lv' := [(2, .int 16), (0, .ref (ad 0)), (1, .int a1)]) hx hb dX12_four_30 hl (k := 0) rfl (by decide) (by decide) rfl (fun ls hl => ?_)
  refine lv_goto (tgt := 3) hx hb dX12_four_33 (by decide) ?_
  refine lv_iload_n hx hb dX12_four_3 rfl (lv_at hl 0 rfl) ?_
  refine lv_if_lt (tgt := 36) hx hb dX12_four_4 (by decide) (fun c => absurd c (by decide)) (fun _ => ?_)
  refine lv_aload_n hx hb dX12_four_7 rfl (lv_at hl 1 rfl) ?_
  refine tk_getA hC hK hw hT hinX12 kM_at0 (by decide) rfl 0 (by decide) (List.mem_cons_of_mem _ uw_6_14) rfl rfl dX12_four_8 ?_
  refine lv_aload_n hx hb dX12_four_11 rfl (lv_at hl 1 rfl) ?_
  refine tk_geti hC hK hw hT hinX12 kM_at0 (by decide) rfl 1 (by decide) (List.mem_cons_of_mem _ uw_8_7) rfl rfl dX12_four_12 (fun x16 c17 rx16 tx16 => ?_)
  refine wk_top x12 (c17.symm.trans c14) ?_
  replace hM := hM.rd (sI_at c14)
  refine lv_iload_n hx hb dX12_four_15 rfl (lv_at hl 2 rfl) ?_
  refine lv_iload_n hx hb dX12_four_16 rfl (lv_at hl 0 rfl) ?_
  refine lv_ishr hx hb dX12_four_17 ?_
  refine lv_topi (fun x18 ex18 => ?_)
  have ezx18 := ex18
  replace hM := hM.lt (o32_e (f := fun x y => x >>> (y &&& 31)) ezx18 rfl (by decide))
  refine lv_i2b hx hb dX12_four_18 rfl ?_
  refine lv_topi (fun x19 ex19 => ?_)
  replace hM := hM.lt (mB_e ex19)
  refine tk_bastv hC hK hw hT kM_at1 (by decide) rfl rfl (show 0 ≤ x12.toInt by first | with_reducible assumption | omega) (show x12.toInt < 400 by first | with_reducible assumption | omega) dX12_four_19 (fun H locs w20 hw hT k22 c21 => ?_)
  obtain ⟨z23, ez23⟩ : ∃ z : Int32, z = x19.toInt8.toInt32 := ⟨_, rfl⟩
  have c21 := c21.trans ez23.symm
  replace hM := hM.lt (mB_e ez23)
  replace hM := hM.wr (sI_up k22 c21)
  have hF := hF.put kM_at1 (inE_of (a := 0) (b := 400) (by decide) (show 0 ≤ x12.toInt.toNat by omega) (show x12.toInt.toNat ≤ 400 by omega)) k22
  have c24 := k22.gi (Or.inl (tk_ne kM_at0 kM_at1 (by decide))) c14
  refine lv_aload_n hx hb dX12_four_20 rfl (lv_at hl 1 rfl) ?_
  refine lv_dup hx hb dX12_four_21 rfl ?_
  refine tk_geti hC hK hw hT hinX12 kM_at0 (by decide) rfl 1 (by decide) (List.mem_cons_of_mem _ uw_8_7) rfl rfl dX12_four_22 (fun x25 c26 rx25 tx25 => ?_)
  refine wk_top x12 (c26.symm.trans c24) ?_
  replace hM := hM.rd (sI_at c24)
  refine lv_iconst (v := 1) hx hb dX12_four_25 (by decide) ?_
  refine lv_iadd hx hb dX12_four_26 ?_
  refine lv_topi (fun x27 ex27 => ?_)
  have ezx27 := ex27
  have ex27 : x27.toInt = x12.toInt + (1 : Int) := by rw [ex27]; exact wk_add (show (-2147483648) ≤ x12.toInt + (1 : Int) by omega) (show x12.toInt + (1 : Int) ≤ 2147483647 by omega)
  replace hM := hM.lt ex27.symm
  refine tk_puti hC hK hw hT hinX12 tyX12_ok nmX12 kM_at0 (by decide) rfl rfl 1 (by decide) (List.mem_cons_of_mem _ uw_8_7) rfl rfl rfl rfl (show 0 ≤ x27.toInt by first | with_reducible assumption | omega) (show x27.toInt ≤ 400 by first | with_reducible assumption | omega) dX12_four_27 (fun H locs w28 hw hT k30 c29 => ?_)
  replace hM := hM.wr (sI_up k30 c29)
  have hF := hF.put kM_at0 (k := 1) (by decide) k30
  refine lv_iinc (v := 8) (lv' := [(2, .int 8), (0, .ref (ad 0)), (1, .int a1)]) hx hb dX12_four_30 hl (k := 0) rfl (by decide) (by decide) rfl (fun ls hl => ?_)
  refine lv_goto (tgt := 3) hx hb dX12_four_33 (by decide) ?_
  refine lv_iload_n hx hb dX12_four_3 rfl (lv_at hl 0 rfl) ?_
  refine lv_if_lt (tgt := 36) hx hb dX12_four_4 (by decide) (fun c => absurd c (by decide)) (fun _ => ?_)
  refine lv_aload_n hx hb dX12_four_7 rfl (lv_at hl 1 rfl) ?_
  refine tk_getA hC hK hw hT hinX12 kM_at0 (by decide) rfl 0 (by decide) (List.mem_cons_of_mem _ uw_6_14) rfl rfl dX12_four_8 ?_
  refine lv_aload_n hx hb dX12_four_11 rfl (lv_at hl 1 rfl) ?_
  refine tk_geti hC hK hw hT hinX12 kM_at0 (by decide) rfl 1 (by decide) (List.mem_cons_of_mem _ uw_8_7) rfl rfl dX12_four_12 (fun x31 c32 rx31 tx31 => ?_)
  refine wk_top x27 (c32.symm.trans c29) ?_
  replace hM := hM.rd (sI_at c29)
  refine lv_iload_n hx hb dX12_four_15 rfl (lv_at hl 2 rfl) ?_
  refine lv_iload_n hx hb dX12_four_16 rfl (lv_at hl 0 rfl) ?_
  refine lv_ishr hx hb dX12_four_17 ?_
  refine lv_topi (fun x33 ex33 => ?_)
  have ezx33 := ex33
  replace hM := hM.lt (o32_e (f := fun x y => x >>> (y &&& 31)) ezx33 rfl (by decide))
  refine lv_i2b hx hb dX12_four_18 rfl ?_
  refine lv_topi (fun x34 ex34 => ?_)
  replace hM := hM.lt (mB_e ex34)
  refine tk_bastv hC hK hw hT kM_at1 (by decide) rfl rfl (show 0 ≤ x27.toInt by first | with_reducible assumption | omega) (show x27.toInt < 400 by first | with_reducible assumption | omega) dX12_four_19 (fun H locs w35 hw hT k37 c36 => ?_)
  obtain ⟨z38, ez38⟩ : ∃ z : Int32, z = x34.toInt8.toInt32 := ⟨_, rfl⟩
  have c36 := c36.trans ez38.symm
  replace hM := hM.lt (mB_e ez38)
  replace hM := hM.wr (sI_up k37 c36)
  have hF := hF.put kM_at1 (inE_of (a := 0) (b := 400) (by decide) (show 0 ≤ x27.toInt.toNat by omega) (show x27.toInt.toNat ≤ 400 by omega)) k37
  have c39 := k37.gi (Or.inl (tk_ne kM_at0 kM_at1 (by decide))) c29
  refine lv_aload_n hx hb dX12_four_20 rfl (lv_at hl 1 rfl) ?_
  refine lv_dup hx hb dX12_four_21 rfl ?_
  refine tk_geti hC hK hw hT hinX12 kM_at0 (by decide) rfl 1 (by decide) (List.mem_cons_of_mem _ uw_8_7) rfl rfl dX12_four_22 (fun x40 c41 rx40 tx40 => ?_)
  refine wk_top x27 (c41.symm.trans c39) ?_
  replace hM := hM.rd (sI_at c39)
  refine lv_iconst (v := 1) hx hb dX12_four_25 (by decide) ?_
  refine lv_iadd hx hb dX12_four_26 ?_
  refine lv_topi (fun x42 ex42 => ?_)
  have ezx42 := ex42
  have ex42 : x42.toInt = x27.toInt + (1 : Int) := by rw [ex42]; exact wk_add (show (-2147483648) ≤ x27.toInt + (1 : Int) by omega) (show x27.toInt + (1 : Int) ≤ 2147483647 by omega)
  replace hM := hM.lt ex42.symm
  refine tk_puti hC hK hw hT hinX12 tyX12_ok nmX12 kM_at0 (by decide) rfl rfl 1 (by decide) (List.mem_cons_of_mem _ uw_8_7) rfl rfl rfl rfl (show 0 ≤ x42.toInt by first | with_reducible assumption | omega) (show x42.toInt ≤ 400 by first | with_reducible assumption | omega) dX12_four_27 (fun H locs w43 hw hT k45 c44 => ?_)
  replace hM := hM.wr (sI_up k45 c44)
  have hF := hF.put kM_at0 (k := 1) (by decide) k45
  refine lv_iinc (v := 0) (lv' := [(2, .int 0), (0, .ref (ad 0)), (1, .int a1)]) hx hb dX12_four_30 hl (k := 0) rfl (by decide) (by decide) rfl (fun ls hl => ?_)
  refine lv_goto (tgt := 3) hx hb dX12_four_33 (by decide) ?_
  refine lv_iload_n hx hb dX12_four_3 rfl (lv_at hl 0 rfl) ?_
  refine lv_if_lt (tgt := 36) hx hb dX12_four_4 (by decide) (fun c => absurd c (by decide)) (fun _ => ?_)
  refine lv_aload_n hx hb dX12_four_7 rfl (lv_at hl 1 rfl) ?_
  refine tk_getA hC hK hw hT hinX12 kM_at0 (by decide) rfl 0 (by decide) (List.mem_cons_of_mem _ uw_6_14) rfl rfl dX12_four_8 ?_
  refine lv_aload_n hx hb dX12_four_11 rfl (lv_at hl 1 rfl) ?_
  refine tk_geti hC hK hw hT hinX12 kM_at0 (by decide) rfl 1 (by decide) (List.mem_cons_of_mem _ uw_8_7) rfl rfl dX12_four_12 (fun x46 c47 rx46 tx46 => ?_)
  refine wk_top x42 (c47.symm.trans c44) ?_
  replace hM := hM.rd (sI_at c44)
  refine lv_iload_n hx hb dX12_four_15 rfl (lv_at hl 2 rfl) ?_
  refine lv_iload_n hx hb dX12_four_16 rfl (lv_at hl 0 rfl) ?_
  refine lv_ishr hx hb dX12_four_17 ?_
  refine lv_topi (fun x48 ex48 => ?_)
  have ezx48 := ex48
  replace hM := hM.lt (o32_e (f := fun x y => x >>> (y &&& 31)) ezx48 rfl (by decide))
  refine lv_i2b hx hb dX12_four_18 rfl ?_
  refine lv_topi (fun x49 ex49 => ?_)
  replace hM := hM.lt (mB_e ex49)
  refine tk_bastv hC hK hw hT kM_at1 (by decide) rfl rfl (show 0 ≤ x42.toInt by first | with_reducible assumption | omega) (show x42.toInt < 400 by first | with_reducible assumption | omega) dX12_four_19 (fun H locs w50 hw hT k52 c51 => ?_)
  obtain ⟨z53, ez53⟩ : ∃ z : Int32, z = x49.toInt8.toInt32 := ⟨_, rfl⟩
  have c51 := c51.trans ez53.symm
  replace hM := hM.lt (mB_e ez53)
  replace hM := hM.wr (sI_up k52 c51)
  have hF := hF.put kM_at1 (inE_of (a := 0) (b := 400) (by decide) (show 0 ≤ x42.toInt.toNat by omega) (show x42.toInt.toNat ≤ 400 by omega)) k52
  have c54 := k52.gi (Or.inl (tk_ne kM_at0 kM_at1 (by decide))) c44
  refine lv_aload_n hx hb dX12_four_20 rfl (lv_at hl 1 rfl) ?_
  refine lv_dup hx hb dX12_four_21 rfl ?_
  refine tk_geti hC hK hw hT hinX12 kM_at0 (by decide) rfl 1 (by decide) (List.mem_cons_of_mem _ uw_8_7) rfl rfl dX12_four_22 (fun x55 c56 rx55 tx55 => ?_)
  refine wk_top x42 (c56.symm.trans c54) ?_
  replace hM := hM.rd (sI_at c54)
  refine lv_iconst (v := 1) hx hb dX12_four_25 (by decide) ?_
  refine lv_iadd hx hb dX12_four_26 ?_
  refine lv_topi (fun x57 ex57 => ?_)
  have ezx57 := ex57
  have ex57 : x57.toInt = x42.toInt + (1 : Int) := by rw [ex57]; exact wk_add (show (-2147483648) ≤ x42.toInt + (1 : Int) by omega) (show x42.toInt + (1 : Int) ≤ 2147483647 by omega)
  replace hM := hM.lt ex57.symm
  refine tk_puti hC hK hw hT hinX12 tyX12_ok nmX12 kM_at0 (by decide) rfl rfl 1 (by decide) (List.mem_cons_of_mem _ uw_8_7) rfl rfl rfl rfl (show 0 ≤ x57.toInt by first | with_reducible assumption | omega) (show x57.toInt ≤ 400 by first | with_reducible assumption | omega) dX12_four_27 (fun H locs w58 hw hT k60 c59 => ?_)
  replace hM := hM.wr (sI_up k60 c59)
  have hF := hF.put kM_at0 (k := 1) (by decide) k60
  refine lv_iinc (v := (-8)) (lv' := [(2, .int (-8)), (0, .ref (ad 0)), (1, .int a1)]) hx hb dX12_four_30 hl (k := 0) rfl (by decide) (by decide) rfl (fun ls hl => ?_)
  refine lv_goto (tgt := 3) hx hb dX12_four_33 (by decide) ?_
  refine lv_iload_n hx hb dX12_four_3 rfl (lv_at hl 0 rfl) ?_
  refine lv_if_lt (tgt := 36) hx hb dX12_four_4 (by decide) (fun _ => ?_) (fun c => absurd (by decide) c)
  exact tk_vret hC hr hlocks hK ⟨hT, hF, hM.ret rfl, ⟨x57, c59, (show 8 ≤ x57.toInt by first | with_reducible assumption | omega), (show x57.toInt ≤ 388 by first | with_reducible assumption | omega)⟩⟩ hw dX12_four_36
abbrev Pz_X12_four_3 (ad : Nat → Nat) (cy : Nat → ClassId) (B : Int) (qr : Nat) (s1 : Int) (a1 : Int32) (w0 : va_W) : va_W → Prop := fun u => TW ksM ad cy B qr 12 u ∧ FE ksM [(12, 1, 1), (60, 0, 400)] w0 u ∧ Ev (fun n => m_X12_four n 0 a1.toInt (sI w0)) (0, sI u) ∧ (((∃ y : Int32, gi u 0 1 = y ∧ 12 ≤ y.toInt ∧ y.toInt ≤ 392)))
set_option maxHeartbeats 4000000 in
set_option maxRecDepth 100000 in
theorem kz_X12_four_3 (l : Launch) (adK adV : Nat → Nat) (dC : Nat → ClassId) (dI : Nat → Nat → Nat) (cy : Nat → ClassId) (ad : Nat → Nat) (B : Int) (hB0 : 100000 ≤ B) (hB1 : B ≤ 1073741824) (qr : Nat) (s1 : Int)  (a1 : Int32) (w0 : va_W) (sz : Nat) (hT : TW ksM ad cy B qr 12 w0) (f0_ : Int32) (cf0_ : gi w0 0 1 = f0_) (rf0_ : 8 ≤ f0_.toInt) (tf0_ : f0_.toInt ≤ 388) : Met l yX12_four (wu yX12_four cX12_four 3 none) ({ frames := 1, cells := 0, slots := 0, locals := 12 }) (va_Pc [.ref (ad 0), .int a1] (wpreS adK adV dC dI cy sz w0)) (va_Qv (Pz_X12_four_3 ad cy B qr s1 a1 w0) (fun u : va_W => wpost dC dI cy (va_A w0 sz) u) (va_A w0 sz)) 0 0 (va_A w0 sz) := by
  refine Met.ofW (cc := cX12_four) (maxL := 3) (ret := none) (by decide) rfl ?_
  intro p e s m args below meth c s₁ Bk hml hv
  obtain ⟨rfl, ⟨hsz, hP, hK, hD0⟩, hE, hSR⟩ := hv
  have hx := Bk.exec
  have hb := Bk.bytes
  have hr := Bk.returns
  have hlocks := Bk.notSynchronized
  have hC : CallFix p m c cX12_four 3 s _ (wu yX12_four cX12_four 3 none) RX12 := ⟨hx, hb, hml, findClass_of_methodNamed Bk.named, atoms_spec (ws := (wu yX12_four cX12_four 3 none)) Bk.pre⟩
  subst hsz
  have hD := hD0.self (sz := s.heap.size)
  generalize hAe : va_A w0 s.heap.size = A at hD hE ⊢
  have hA : ∀ q : Nat, s.heap.size ≤ q → A q := fun q h => by rw [← hAe]; exact Or.inr h
  have hw : Wd dC dI A s.heap s.heap [] w0 := ⟨hP, hD, va_S.rf⟩
  have hF : FE ksM [(12, 1, 1), (60, 0, 400)] w0 w0 := FE.rf
  have hl := lv_entry ([.ref (ad 0), .int a1]) (n := 3) (Nat.le_of_ble_eq_true rfl)
  rw [lg_entry_eq]
  generalize (lg_sl ([.ref (ad 0), .int a1]) ++ List.replicate (3 - (lg_sl ([.ref (ad 0), .int a1])).length) Slot.unset).toArray = ls at hl ⊢
  have hl : lv_has ls 3 [(0, .ref (ad 0)), (1, .int a1)] := hl
  generalize hloc : ([] : List Loc) = locs at hw ⊢
  have hinX12 : ∀ w ∈ u_ws RX12 TX12 42, w ∈ (wu yX12_four cX12_four 3 none) := fun _ h => List.mem_cons_of_mem _ (up_71 h)
  have hM : TT (fun n => m_X12_four n 0 a1.toInt (sI w0)) (fun n => m_X12_four n 0 a1.toInt (sI w0)) := TT.rf
  refine lv_bipush (v := 24) hx hb dX12_four_0 (by decide) ?_
  refine lv_istore_n (lv' := [(2, .int 24), (0, .ref (ad 0)), (1, .int a1)]) hx hb dX12_four_2 rfl hl (by decide) rfl (fun ls hl => ?_)
  refine lv_iload_n hx hb dX12_four_3 rfl (lv_at hl 0 rfl) ?_
  refine lv_if_lt (tgt := 36) hx hb dX12_four_4 (by decide) (fun c => absurd c (by decide)) (fun _ => ?_)
  refine lv_aload_n hx hb dX12_four_7 rfl (lv_at hl 1 rfl) ?_
  refine tk_getA hC hK hw hT hinX12 kM_at0 (by decide) rfl 0 (by decide) (List.mem_cons_of_mem _ uw_6_14) rfl rfl dX12_four_8 ?_
  refine lv_aload_n hx hb dX12_four_11 rfl (lv_at hl 1 rfl) ?_
  refine tk_geti hC hK hw hT hinX12 kM_at0 (by decide) rfl 1 (by decide) (List.mem_cons_of_mem _ uw_8_7) rfl rfl dX12_four_12 (fun x1 c2 rx1 tx1 => ?_)
  refine wk_top f0_ (c2.symm.trans cf0_) ?_
  replace hM := hM.rd (sI_at cf0_)
  refine lv_iload_n hx hb dX12_four_15 rfl (lv_at hl 2 rfl) ?_
  refine lv_iload_n hx hb dX12_four_16 rfl (lv_at hl 0 rfl) ?_
  refine lv_ishr hx hb dX12_four_17 ?_
  refine lv_topi (fun x3 ex3 => ?_)
  have ezx3 := ex3
  replace hM := hM.lt (o32_e (f := fun x y => x >>> (y &&& 31)) ezx3 rfl (by decide))
  refine lv_i2b hx hb dX12_four_18 rfl ?_
  refine lv_topi (fun x4 ex4 => ?_)
  replace hM := hM.lt (mB_e ex4)
  refine tk_bastv hC hK hw hT kM_at1 (by decide) rfl rfl (show 0 ≤ f0_.toInt from Int.le_trans (by decide) rf0_) (show f0_.toInt < 400 from Int.lt_of_le_of_lt tf0_ (by decide)) dX12_four_19 (fun H locs w5 hw hT k7 c6 => ?_)
  obtain ⟨z8, ez8⟩ : ∃ z : Int32, z = x4.toInt8.toInt32 := ⟨_, rfl⟩
  have c6 := c6.trans ez8.symm
  replace hM := hM.lt (mB_e ez8)
  replace hM := hM.wr (sI_up k7 c6)
  have hF := hF.put kM_at1 (inE_of (a := 0) (b := 400) (by decide) (show 0 ≤ f0_.toInt.toNat by omega) (show f0_.toInt.toNat ≤ 400 by omega)) k7
  have c9 := k7.gi (Or.inl (tk_ne kM_at0 kM_at1 (by decide))) cf0_
  refine lv_aload_n hx hb dX12_four_20 rfl (lv_at hl 1 rfl) ?_
  refine lv_dup hx hb dX12_four_21 rfl ?_
  refine tk_geti hC hK hw hT hinX12 kM_at0 (by decide) rfl 1 (by decide) (List.mem_cons_of_mem _ uw_8_7) rfl rfl dX12_four_22 (fun x10 c11 rx10 tx10 => ?_)
  refine wk_top f0_ (c11.symm.trans c9) ?_
  replace hM := hM.rd (sI_at c9)
  refine lv_iconst (v := 1) hx hb dX12_four_25 (by decide) ?_
  refine lv_iadd hx hb dX12_four_26 ?_
  refine lv_topi (fun x12 ex12 => ?_)
  have ezx12 := ex12
  have ex12 : x12.toInt = f0_.toInt + (1 : Int) := by rw [ex12]; exact wk_add (show (-2147483648) ≤ f0_.toInt + (1 : Int) by omega) (show f0_.toInt + (1 : Int) ≤ 2147483647 by omega)
  replace hM := hM.lt ex12.symm
  refine tk_puti hC hK hw hT hinX12 tyX12_ok nmX12 kM_at0 (by decide) rfl rfl 1 (by decide) (List.mem_cons_of_mem _ uw_8_7) rfl rfl rfl rfl (show 0 ≤ x12.toInt by first | with_reducible assumption | omega) (show x12.toInt ≤ 400 by first | with_reducible assumption | omega) dX12_four_27 (fun H locs w13 hw hT k15 c14 => ?_)
  replace hM := hM.wr (sI_up k15 c14)
  have hF := hF.put kM_at0 (k := 1) (by decide) k15
  refine lv_iinc (v := 16) (lv' := [(2, .int 16), (0, .ref (ad 0)), (1, .int a1)]) hx hb dX12_four_30 hl (k := 0) rfl (by decide) (by decide) rfl (fun ls hl => ?_)
  refine lv_goto (tgt := 3) hx hb dX12_four_33 (by decide) ?_
  refine lv_iload_n hx hb dX12_four_3 rfl (lv_at hl 0 rfl) ?_
  refine lv_if_lt (tgt := 36) hx hb dX12_four_4 (by decide) (fun c => absurd c (by decide)) (fun _ => ?_)
  refine lv_aload_n hx hb dX12_four_7 rfl (lv_at hl 1 rfl) ?_
  refine tk_getA hC hK hw hT hinX12 kM_at0 (by decide) rfl 0 (by decide) (List.mem_cons_of_mem _ uw_6_14) rfl rfl dX12_four_8 ?_
  refine lv_aload_n hx hb dX12_four_11 rfl (lv_at hl 1 rfl) ?_
  refine tk_geti hC hK hw hT hinX12 kM_at0 (by decide) rfl 1 (by decide) (List.mem_cons_of_mem _ uw_8_7) rfl rfl dX12_four_12 (fun x16 c17 rx16 tx16 => ?_)
  refine wk_top x12 (c17.symm.trans c14) ?_
  replace hM := hM.rd (sI_at c14)
  refine lv_iload_n hx hb dX12_four_15 rfl (lv_at hl 2 rfl) ?_
  refine lv_iload_n hx hb dX12_four_16 rfl (lv_at hl 0 rfl) ?_
  refine lv_ishr hx hb dX12_four_17 ?_
  refine lv_topi (fun x18 ex18 => ?_)
  have ezx18 := ex18
  replace hM := hM.lt (o32_e (f := fun x y => x >>> (y &&& 31)) ezx18 rfl (by decide))
  refine lv_i2b hx hb dX12_four_18 rfl ?_
  refine lv_topi (fun x19 ex19 => ?_)
  replace hM := hM.lt (mB_e ex19)
  refine tk_bastv hC hK hw hT kM_at1 (by decide) rfl rfl (show 0 ≤ x12.toInt by first | with_reducible assumption | omega) (show x12.toInt < 400 by first | with_reducible assumption | omega) dX12_four_19 (fun H locs w20 hw hT k22 c21 => ?_)
  obtain ⟨z23, ez23⟩ : ∃ z : Int32, z = x19.toInt8.toInt32 := ⟨_, rfl⟩
  have c21 := c21.trans ez23.symm
  replace hM := hM.lt (mB_e ez23)
  replace hM := hM.wr (sI_up k22 c21)
  have hF := hF.put kM_at1 (inE_of (a := 0) (b := 400) (by decide) (show 0 ≤ x12.toInt.toNat by omega) (show x12.toInt.toNat ≤ 400 by omega)) k22
  have c24 := k22.gi (Or.inl (tk_ne kM_at0 kM_at1 (by decide))) c14
  refine lv_aload_n hx hb dX12_four_20 rfl (lv_at hl 1 rfl) ?_
  refine lv_dup hx hb dX12_four_21 rfl ?_
  refine tk_geti hC hK hw hT hinX12 kM_at0 (by decide) rfl 1 (by decide) (List.mem_cons_of_mem _ uw_8_7) rfl rfl dX12_four_22 (fun x25 c26 rx25 tx25 => ?_)
  refine wk_top x12 (c26.symm.trans c24) ?_
  replace hM := hM.rd (sI_at c24)
  refine lv_iconst (v := 1) hx hb dX12_four_25 (by decide) ?_
  refine lv_iadd hx hb dX12_four_26 ?_
  refine lv_topi (fun x27 ex27 => ?_)
  have ezx27 := ex27
  have ex27 : x27.toInt = x12.toInt + (1 : Int) := by rw [ex27]; exact wk_add (show (-2147483648) ≤ x12.toInt + (1 : Int) by omega) (show x12.toInt + (1 : Int) ≤ 2147483647 by omega)
  replace hM := hM.lt ex27.symm
  refine tk_puti hC hK hw hT hinX12 tyX12_ok nmX12 kM_at0 (by decide) rfl rfl 1 (by decide) (List.mem_cons_of_mem _ uw_8_7) rfl rfl rfl rfl (show 0 ≤ x27.toInt by first | with_reducible assumption | omega) (show x27.toInt ≤ 400 by first | with_reducible assumption | omega) dX12_four_27 (fun H locs w28 hw hT k30 c29 => ?_)
  replace hM := hM.wr (sI_up k30 c29)
  have hF := hF.put kM_at0 (k := 1) (by decide) k30
  refine lv_iinc (v := 8) (lv' := [(2, .int 8), (0, .ref (ad 0)), (1, .int a1)]) hx hb dX12_four_30 hl (k := 0) rfl (by decide) (by decide) rfl (fun ls hl => ?_)
  refine lv_goto (tgt := 3) hx hb dX12_four_33 (by decide) ?_
  refine lv_iload_n hx hb dX12_four_3 rfl (lv_at hl 0 rfl) ?_
  refine lv_if_lt (tgt := 36) hx hb dX12_four_4 (by decide) (fun c => absurd c (by decide)) (fun _ => ?_)
  refine lv_aload_n hx hb dX12_four_7 rfl (lv_at hl 1 rfl) ?_
  refine tk_getA hC hK hw hT hinX12 kM_at0 (by decide) rfl 0 (by decide) (List.mem_cons_of_mem _ uw_6_14) rfl rfl dX12_four_8 ?_
  refine lv_aload_n hx hb dX12_four_11 rfl (lv_at hl 1 rfl) ?_
  refine tk_geti hC hK hw hT hinX12 kM_at0 (by decide) rfl 1 (by decide) (List.mem_cons_of_mem _ uw_8_7) rfl rfl dX12_four_12 (fun x31 c32 rx31 tx31 => ?_)
  refine wk_top x27 (c32.symm.trans c29) ?_
  replace hM := hM.rd (sI_at c29)
  refine lv_iload_n hx hb dX12_four_15 rfl (lv_at hl 2 rfl) ?_
  refine lv_iload_n hx hb dX12_four_16 rfl (lv_at hl 0 rfl) ?_
  refine lv_ishr hx hb dX12_four_17 ?_
  refine lv_topi (fun x33 ex33 => ?_)
  have ezx33 := ex33
  replace hM := hM.lt (o32_e (f := fun x y => x >>> (y &&& 31)) ezx33 rfl (by decide))
  refine lv_i2b hx hb dX12_four_18 rfl ?_
  refine lv_topi (fun x34 ex34 => ?_)
  replace hM := hM.lt (mB_e ex34)
  refine tk_bastv hC hK hw hT kM_at1 (by decide) rfl rfl (show 0 ≤ x27.toInt by first | with_reducible assumption | omega) (show x27.toInt < 400 by first | with_reducible assumption | omega) dX12_four_19 (fun H locs w35 hw hT k37 c36 => ?_)
  obtain ⟨z38, ez38⟩ : ∃ z : Int32, z = x34.toInt8.toInt32 := ⟨_, rfl⟩
  have c36 := c36.trans ez38.symm
  replace hM := hM.lt (mB_e ez38)
  replace hM := hM.wr (sI_up k37 c36)
  have hF := hF.put kM_at1 (inE_of (a := 0) (b := 400) (by decide) (show 0 ≤ x27.toInt.toNat by omega) (show x27.toInt.toNat ≤ 400 by omega)) k37
  have c39 := k37.gi (Or.inl (tk_ne kM_at0 kM_at1 (by decide))) c29
  refine lv_aload_n hx hb dX12_four_20 rfl (lv_at hl 1 rfl) ?_
  refine lv_dup hx hb dX12_four_21 rfl ?_
  refine tk_geti hC hK hw hT hinX12 kM_at0 (by decide) rfl 1 (by decide) (List.mem_cons_of_mem _ uw_8_7) rfl rfl dX12_four_22 (fun x40 c41 rx40 tx40 => ?_)
  refine wk_top x27 (c41.symm.trans c39) ?_
  replace hM := hM.rd (sI_at c39)
  refine lv_iconst (v := 1) hx hb dX12_four_25 (by decide) ?_
  refine lv_iadd hx hb dX12_four_26 ?_
  refine lv_topi (fun x42 ex42 => ?_)
  have ezx42 := ex42
  have ex42 : x42.toInt = x27.toInt + (1 : Int) := by rw [ex42]; exact wk_add (show (-2147483648) ≤ x27.toInt + (1 : Int) by omega) (show x27.toInt + (1 : Int) ≤ 2147483647 by omega)
  replace hM := hM.lt ex42.symm
  refine tk_puti hC hK hw hT hinX12 tyX12_ok nmX12 kM_at0 (by decide) rfl rfl 1 (by decide) (List.mem_cons_of_mem _ uw_8_7) rfl rfl rfl rfl (show 0 ≤ x42.toInt by first | with_reducible assumption | omega) (show x42.toInt ≤ 400 by first | with_reducible assumption | omega) dX12_four_27 (fun H locs w43 hw hT k45 c44 => ?_)
  replace hM := hM.wr (sI_up k45 c44)
  have hF := hF.put kM_at0 (k := 1) (by decide) k45
  refine lv_iinc (v := 0) (lv' := [(2, .int 0), (0, .ref (ad 0)), (1, .int a1)]) hx hb dX12_four_30 hl (k := 0) rfl (by decide) (by decide) rfl (fun ls hl => ?_)
  refine lv_goto (tgt := 3) hx hb dX12_four_33 (by decide) ?_
  refine lv_iload_n hx hb dX12_four_3 rfl (lv_at hl 0 rfl) ?_
  refine lv_if_lt (tgt := 36) hx hb dX12_four_4 (by decide) (fun c => absurd c (by decide)) (fun _ => ?_)
  refine lv_aload_n hx hb dX12_four_7 rfl (lv_at hl 1 rfl) ?_
  refine tk_getA hC hK hw hT hinX12 kM_at0 (by decide) rfl 0 (by decide) (List.mem_cons_of_mem _ uw_6_14) rfl rfl dX12_four_8 ?_
  refine lv_aload_n hx hb dX12_four_11 rfl (lv_at hl 1 rfl) ?_
  refine tk_geti hC hK hw hT hinX12 kM_at0 (by decide) rfl 1 (by decide) (List.mem_cons_of_mem _ uw_8_7) rfl rfl dX12_four_12 (fun x46 c47 rx46 tx46 => ?_)
  refine wk_top x42 (c47.symm.trans c44) ?_
  replace hM := hM.rd (sI_at c44)
  refine lv_iload_n hx hb dX12_four_15 rfl (lv_at hl 2 rfl) ?_
  refine lv_iload_n hx hb dX12_four_16 rfl (lv_at hl 0 rfl) ?_
  refine lv_ishr hx hb dX12_four_17 ?_
  refine lv_topi (fun x48 ex48 => ?_)
  have ezx48 := ex48
  replace hM := hM.lt (o32_e (f := fun x y => x >>> (y &&& 31)) ezx48 rfl (by decide))
  refine lv_i2b hx hb dX12_four_18 rfl ?_
  refine lv_topi (fun x49 ex49 => ?_)
  replace hM := hM.lt (mB_e ex49)
  refine tk_bastv hC hK hw hT kM_at1 (by decide) rfl rfl (show 0 ≤ x42.toInt by first | with_reducible assumption | omega) (show x42.toInt < 400 by first | with_reducible assumption | omega) dX12_four_19 (fun H locs w50 hw hT k52 c51 => ?_)
  obtain ⟨z53, ez53⟩ : ∃ z : Int32, z = x49.toInt8.toInt32 := ⟨_, rfl⟩
  have c51 := c51.trans ez53.symm
  replace hM := hM.lt (mB_e ez53)
  replace hM := hM.wr (sI_up k52 c51)
  have hF := hF.put kM_at1 (inE_of (a := 0) (b := 400) (by decide) (show 0 ≤ x42.toInt.toNat by omega) (show x42.toInt.toNat ≤ 400 by omega)) k52
  have c54 := k52.gi (Or.inl (tk_ne kM_at0 kM_at1 (by decide))) c44
  refine lv_aload_n hx hb dX12_four_20 rfl (lv_at hl 1 rfl) ?_
  refine lv_dup hx hb dX12_four_21 rfl ?_
  refine tk_geti hC hK hw hT hinX12 kM_at0 (by decide) rfl 1 (by decide) (List.mem_cons_of_mem _ uw_8_7) rfl rfl dX12_four_22 (fun x55 c56 rx55 tx55 => ?_)
  refine wk_top x42 (c56.symm.trans c54) ?_
  replace hM := hM.rd (sI_at c54)
  refine lv_iconst (v := 1) hx hb dX12_four_25 (by decide) ?_
  refine lv_iadd hx hb dX12_four_26 ?_
  refine lv_topi (fun x57 ex57 => ?_)
  have ezx57 := ex57
  have ex57 : x57.toInt = x42.toInt + (1 : Int) := by rw [ex57]; exact wk_add (show (-2147483648) ≤ x42.toInt + (1 : Int) by omega) (show x42.toInt + (1 : Int) ≤ 2147483647 by omega)
  replace hM := hM.lt ex57.symm
  refine tk_puti hC hK hw hT hinX12 tyX12_ok nmX12 kM_at0 (by decide) rfl rfl 1 (by decide) (List.mem_cons_of_mem _ uw_8_7) rfl rfl rfl rfl (show 0 ≤ x57.toInt by first | with_reducible assumption | omega) (show x57.toInt ≤ 400 by first | with_reducible assumption | omega) dX12_four_27 (fun H locs w58 hw hT k60 c59 => ?_)
  replace hM := hM.wr (sI_up k60 c59)
  have hF := hF.put kM_at0 (k := 1) (by decide) k60
  refine lv_iinc (v := (-8)) (lv' := [(2, .int (-8)), (0, .ref (ad 0)), (1, .int a1)]) hx hb dX12_four_30 hl (k := 0) rfl (by decide) (by decide) rfl (fun ls hl => ?_)
  refine lv_goto (tgt := 3) hx hb dX12_four_33 (by decide) ?_
  refine lv_iload_n hx hb dX12_four_3 rfl (lv_at hl 0 rfl) ?_
  refine lv_if_lt (tgt := 36) hx hb dX12_four_4 (by decide) (fun _ => ?_) (fun c => absurd (by decide) c)
  exact tk_vret hC hr hlocks hK ⟨hT, hF, hM.ret rfl, ⟨x57, c59, (show 12 ≤ x57.toInt by first | with_reducible assumption | omega), (show x57.toInt ≤ 392 by first | with_reducible assumption | omega)⟩⟩ hw dX12_four_36
abbrev Pz_X12_four_4 (ad : Nat → Nat) (cy : Nat → ClassId) (B : Int) (qr : Nat) (s1 : Int) (a1 : Int32) (w0 : va_W) : va_W → Prop := fun u => TW ksM ad cy B qr 12 u ∧ FE ksM [(12, 1, 1), (60, 0, 400)] w0 u ∧ Ev (fun n => m_X12_four n 0 a1.toInt (sI w0)) (0, sI u) ∧ (((∃ y : Int32, gi u 0 1 = y ∧ 16 ≤ y.toInt ∧ y.toInt ≤ 396)))
set_option maxHeartbeats 4000000 in
set_option maxRecDepth 100000 in
theorem kz_X12_four_4 (l : Launch) (adK adV : Nat → Nat) (dC : Nat → ClassId) (dI : Nat → Nat → Nat) (cy : Nat → ClassId) (ad : Nat → Nat) (B : Int) (hB0 : 100000 ≤ B) (hB1 : B ≤ 1073741824) (qr : Nat) (s1 : Int)  (a1 : Int32) (w0 : va_W) (sz : Nat) (hT : TW ksM ad cy B qr 12 w0) (f0_ : Int32) (cf0_ : gi w0 0 1 = f0_) (rf0_ : 12 ≤ f0_.toInt) (tf0_ : f0_.toInt ≤ 392) : Met l yX12_four (wu yX12_four cX12_four 3 none) ({ frames := 1, cells := 0, slots := 0, locals := 12 }) (va_Pc [.ref (ad 0), .int a1] (wpreS adK adV dC dI cy sz w0)) (va_Qv (Pz_X12_four_4 ad cy B qr s1 a1 w0) (fun u : va_W => wpost dC dI cy (va_A w0 sz) u) (va_A w0 sz)) 0 0 (va_A w0 sz) := by
  refine Met.ofW (cc := cX12_four) (maxL := 3) (ret := none) (by decide) rfl ?_
  intro p e s m args below meth c s₁ Bk hml hv
  obtain ⟨rfl, ⟨hsz, hP, hK, hD0⟩, hE, hSR⟩ := hv
  have hx := Bk.exec
  have hb := Bk.bytes
  have hr := Bk.returns
  have hlocks := Bk.notSynchronized
  have hC : CallFix p m c cX12_four 3 s _ (wu yX12_four cX12_four 3 none) RX12 := ⟨hx, hb, hml, findClass_of_methodNamed Bk.named, atoms_spec (ws := (wu yX12_four cX12_four 3 none)) Bk.pre⟩
  subst hsz
  have hD := hD0.self (sz := s.heap.size)
  generalize hAe : va_A w0 s.heap.size = A at hD hE ⊢
  have hA : ∀ q : Nat, s.heap.size ≤ q → A q := fun q h => by rw [← hAe]; exact Or.inr h
  have hw : Wd dC dI A s.heap s.heap [] w0 := ⟨hP, hD, va_S.rf⟩
  have hF : FE ksM [(12, 1, 1), (60, 0, 400)] w0 w0 := FE.rf
  have hl := lv_entry ([.ref (ad 0), .int a1]) (n := 3) (Nat.le_of_ble_eq_true rfl)
  rw [lg_entry_eq]
  generalize (lg_sl ([.ref (ad 0), .int a1]) ++ List.replicate (3 - (lg_sl ([.ref (ad 0), .int a1])).length) Slot.unset).toArray = ls at hl ⊢
  have hl : lv_has ls 3 [(0, .ref (ad 0)), (1, .int a1)] := hl
  generalize hloc : ([] : List Loc) = locs at hw ⊢
  have hinX12 : ∀ w ∈ u_ws RX12 TX12 42, w ∈ (wu yX12_four cX12_four 3 none) := fun _ h => List.mem_cons_of_mem _ (up_71 h)
  have hM : TT (fun n => m_X12_four n 0 a1.toInt (sI w0)) (fun n => m_X12_four n 0 a1.toInt (sI w0)) := TT.rf
  refine lv_bipush (v := 24) hx hb dX12_four_0 (by decide) ?_
  refine lv_istore_n (lv' := [(2, .int 24), (0, .ref (ad 0)), (1, .int a1)]) hx hb dX12_four_2 rfl hl (by decide) rfl (fun ls hl => ?_)
  refine lv_iload_n hx hb dX12_four_3 rfl (lv_at hl 0 rfl) ?_
  refine lv_if_lt (tgt := 36) hx hb dX12_four_4 (by decide) (fun c => absurd c (by decide)) (fun _ => ?_)
  refine lv_aload_n hx hb dX12_four_7 rfl (lv_at hl 1 rfl) ?_
  refine tk_getA hC hK hw hT hinX12 kM_at0 (by decide) rfl 0 (by decide) (List.mem_cons_of_mem _ uw_6_14) rfl rfl dX12_four_8 ?_
  refine lv_aload_n hx hb dX12_four_11 rfl (lv_at hl 1 rfl) ?_
  refine tk_geti hC hK hw hT hinX12 kM_at0 (by decide) rfl 1 (by decide) (List.mem_cons_of_mem _ uw_8_7) rfl rfl dX12_four_12 (fun x1 c2 rx1 tx1 => ?_)
  refine wk_top f0_ (c2.symm.trans cf0_) ?_
  replace hM := hM.rd (sI_at cf0_)
  refine lv_iload_n hx hb dX12_four_15 rfl (lv_at hl 2 rfl) ?_
  refine lv_iload_n hx hb dX12_four_16 rfl (lv_at hl 0 rfl) ?_
  refine lv_ishr hx hb dX12_four_17 ?_
  refine lv_topi (fun x3 ex3 => ?_)
  have ezx3 := ex3
  replace hM := hM.lt (o32_e (f := fun x y => x >>> (y &&& 31)) ezx3 rfl (by decide))
  refine lv_i2b hx hb dX12_four_18 rfl ?_
  refine lv_topi (fun x4 ex4 => ?_)
  replace hM := hM.lt (mB_e ex4)
  refine tk_bastv hC hK hw hT kM_at1 (by decide) rfl rfl (show 0 ≤ f0_.toInt from Int.le_trans (by decide) rf0_) (show f0_.toInt < 400 from Int.lt_of_le_of_lt tf0_ (by decide)) dX12_four_19 (fun H locs w5 hw hT k7 c6 => ?_)
  obtain ⟨z8, ez8⟩ : ∃ z : Int32, z = x4.toInt8.toInt32 := ⟨_, rfl⟩
  have c6 := c6.trans ez8.symm
  replace hM := hM.lt (mB_e ez8)
  replace hM := hM.wr (sI_up k7 c6)
  have hF := hF.put kM_at1 (inE_of (a := 0) (b := 400) (by decide) (show 0 ≤ f0_.toInt.toNat by omega) (show f0_.toInt.toNat ≤ 400 by omega)) k7
  have c9 := k7.gi (Or.inl (tk_ne kM_at0 kM_at1 (by decide))) cf0_
  refine lv_aload_n hx hb dX12_four_20 rfl (lv_at hl 1 rfl) ?_
  refine lv_dup hx hb dX12_four_21 rfl ?_
  refine tk_geti hC hK hw hT hinX12 kM_at0 (by decide) rfl 1 (by decide) (List.mem_cons_of_mem _ uw_8_7) rfl rfl dX12_four_22 (fun x10 c11 rx10 tx10 => ?_)
  refine wk_top f0_ (c11.symm.trans c9) ?_
  replace hM := hM.rd (sI_at c9)
  refine lv_iconst (v := 1) hx hb dX12_four_25 (by decide) ?_
  refine lv_iadd hx hb dX12_four_26 ?_
  refine lv_topi (fun x12 ex12 => ?_)
  have ezx12 := ex12
  have ex12 : x12.toInt = f0_.toInt + (1 : Int) := by rw [ex12]; exact wk_add (show (-2147483648) ≤ f0_.toInt + (1 : Int) by omega) (show f0_.toInt + (1 : Int) ≤ 2147483647 by omega)
  replace hM := hM.lt ex12.symm
  refine tk_puti hC hK hw hT hinX12 tyX12_ok nmX12 kM_at0 (by decide) rfl rfl 1 (by decide) (List.mem_cons_of_mem _ uw_8_7) rfl rfl rfl rfl (show 0 ≤ x12.toInt by first | with_reducible assumption | omega) (show x12.toInt ≤ 400 by first | with_reducible assumption | omega) dX12_four_27 (fun H locs w13 hw hT k15 c14 => ?_)
  replace hM := hM.wr (sI_up k15 c14)
  have hF := hF.put kM_at0 (k := 1) (by decide) k15
  refine lv_iinc (v := 16) (lv' := [(2, .int 16), (0, .ref (ad 0)), (1, .int a1)]) hx hb dX12_four_30 hl (k := 0) rfl (by decide) (by decide) rfl (fun ls hl => ?_)
  refine lv_goto (tgt := 3) hx hb dX12_four_33 (by decide) ?_
  refine lv_iload_n hx hb dX12_four_3 rfl (lv_at hl 0 rfl) ?_
  refine lv_if_lt (tgt := 36) hx hb dX12_four_4 (by decide) (fun c => absurd c (by decide)) (fun _ => ?_)
  refine lv_aload_n hx hb dX12_four_7 rfl (lv_at hl 1 rfl) ?_
  refine tk_getA hC hK hw hT hinX12 kM_at0 (by decide) rfl 0 (by decide) (List.mem_cons_of_mem _ uw_6_14) rfl rfl dX12_four_8 ?_
  refine lv_aload_n hx hb dX12_four_11 rfl (lv_at hl 1 rfl) ?_
  refine tk_geti hC hK hw hT hinX12 kM_at0 (by decide) rfl 1 (by decide) (List.mem_cons_of_mem _ uw_8_7) rfl rfl dX12_four_12 (fun x16 c17 rx16 tx16 => ?_)
  refine wk_top x12 (c17.symm.trans c14) ?_
  replace hM := hM.rd (sI_at c14)
  refine lv_iload_n hx hb dX12_four_15 rfl (lv_at hl 2 rfl) ?_
  refine lv_iload_n hx hb dX12_four_16 rfl (lv_at hl 0 rfl) ?_
  refine lv_ishr hx hb dX12_four_17 ?_
  refine lv_topi (fun x18 ex18 => ?_)
  have ezx18 := ex18
  replace hM := hM.lt (o32_e (f := fun x y => x >>> (y &&& 31)) ezx18 rfl (by decide))
  refine lv_i2b hx hb dX12_four_18 rfl ?_
  refine lv_topi (fun x19 ex19 => ?_)
  replace hM := hM.lt (mB_e ex19)
  refine tk_bastv hC hK hw hT kM_at1 (by decide) rfl rfl (show 0 ≤ x12.toInt by first | with_reducible assumption | omega) (show x12.toInt < 400 by first | with_reducible assumption | omega) dX12_four_19 (fun H locs w20 hw hT k22 c21 => ?_)
  obtain ⟨z23, ez23⟩ : ∃ z : Int32, z = x19.toInt8.toInt32 := ⟨_, rfl⟩
  have c21 := c21.trans ez23.symm
  replace hM := hM.lt (mB_e ez23)
  replace hM := hM.wr (sI_up k22 c21)
  have hF := hF.put kM_at1 (inE_of (a := 0) (b := 400) (by decide) (show 0 ≤ x12.toInt.toNat by omega) (show x12.toInt.toNat ≤ 400 by omega)) k22
  have c24 := k22.gi (Or.inl (tk_ne kM_at0 kM_at1 (by decide))) c14
  refine lv_aload_n hx hb dX12_four_20 rfl (lv_at hl 1 rfl) ?_
  refine lv_dup hx hb dX12_four_21 rfl ?_
  refine tk_geti hC hK hw hT hinX12 kM_at0 (by decide) rfl 1 (by decide) (List.mem_cons_of_mem _ uw_8_7) rfl rfl dX12_four_22 (fun x25 c26 rx25 tx25 => ?_)
  refine wk_top x12 (c26.symm.trans c24) ?_
  replace hM := hM.rd (sI_at c24)
  refine lv_iconst (v := 1) hx hb dX12_four_25 (by decide) ?_
  refine lv_iadd hx hb dX12_four_26 ?_
  refine lv_topi (fun x27 ex27 => ?_)
  have ezx27 := ex27
  have ex27 : x27.toInt = x12.toInt + (1 : Int) := by rw [ex27]; exact wk_add (show (-2147483648) ≤ x12.toInt + (1 : Int) by omega) (show x12.toInt + (1 : Int) ≤ 2147483647 by omega)
  replace hM := hM.lt ex27.symm
  refine tk_puti hC hK hw hT hinX12 tyX12_ok nmX12 kM_at0 (by decide) rfl rfl 1 (by decide) (List.mem_cons_of_mem _ uw_8_7) rfl rfl rfl rfl (show 0 ≤ x27.toInt by first | with_reducible assumption | omega) (show x27.toInt ≤ 400 by first | with_reducible assumption | omega) dX12_four_27 (fun H locs w28 hw hT k30 c29 => ?_)
  replace hM := hM.wr (sI_up k30 c29)
  have hF := hF.put kM_at0 (k := 1) (by decide) k30
  refine lv_iinc (v := 8) (lv' := [(2, .int 8), (0, .ref (ad 0)), (1, .int a1)]) hx hb dX12_four_30 hl (k := 0) rfl (by decide) (by decide) rfl (fun ls hl => ?_)
  refine lv_goto (tgt := 3) hx hb dX12_four_33 (by decide) ?_
  refine lv_iload_n hx hb dX12_four_3 rfl (lv_at hl 0 rfl) ?_
  refine lv_if_lt (tgt := 36) hx hb dX12_four_4 (by decide) (fun c => absurd c (by decide)) (fun _ => ?_)
  refine lv_aload_n hx hb dX12_four_7 rfl (lv_at hl 1 rfl) ?_
  refine tk_getA hC hK hw hT hinX12 kM_at0 (by decide) rfl 0 (by decide) (List.mem_cons_of_mem _ uw_6_14) rfl rfl dX12_four_8 ?_
  refine lv_aload_n hx hb dX12_four_11 rfl (lv_at hl 1 rfl) ?_
  refine tk_geti hC hK hw hT hinX12 kM_at0 (by decide) rfl 1 (by decide) (List.mem_cons_of_mem _ uw_8_7) rfl rfl dX12_four_12 (fun x31 c32 rx31 tx31 => ?_)
  refine wk_top x27 (c32.symm.trans c29) ?_
  replace hM := hM.rd (sI_at c29)
  refine lv_iload_n hx hb dX12_four_15 rfl (lv_at hl 2 rfl) ?_
  refine lv_iload_n hx hb dX12_four_16 rfl (lv_at hl 0 rfl) ?_
  refine lv_ishr hx hb dX12_four_17 ?_
  refine lv_topi (fun x33 ex33 => ?_)
  have ezx33 := ex33
  replace hM := hM.lt (o32_e (f := fun x y => x >>> (y &&& 31)) ezx33 rfl (by decide))
  refine lv_i2b hx hb dX12_four_18 rfl ?_
  refine lv_topi (fun x34 ex34 => ?_)
  replace hM := hM.lt (mB_e ex34)
  refine tk_bastv hC hK hw hT kM_at1 (by decide) rfl rfl (show 0 ≤ x27.toInt by first | with_reducible assumption | omega) (show x27.toInt < 400 by first | with_reducible assumption | omega) dX12_four_19 (fun H locs w35 hw hT k37 c36 => ?_)
  obtain ⟨z38, ez38⟩ : ∃ z : Int32, z = x34.toInt8.toInt32 := ⟨_, rfl⟩
  have c36 := c36.trans ez38.symm
  replace hM := hM.lt (mB_e ez38)
  replace hM := hM.wr (sI_up k37 c36)
  have hF := hF.put kM_at1 (inE_of (a := 0) (b := 400) (by decide) (show 0 ≤ x27.toInt.toNat by omega) (show x27.toInt.toNat ≤ 400 by omega)) k37
  have c39 := k37.gi (Or.inl (tk_ne kM_at0 kM_at1 (by decide))) c29
  refine lv_aload_n hx hb dX12_four_20 rfl (lv_at hl 1 rfl) ?_
  refine lv_dup hx hb dX12_four_21 rfl ?_
  refine tk_geti hC hK hw hT hinX12 kM_at0 (by decide) rfl 1 (by decide) (List.mem_cons_of_mem _ uw_8_7) rfl rfl dX12_four_22 (fun x40 c41 rx40 tx40 => ?_)
  refine wk_top x27 (c41.symm.trans c39) ?_
  replace hM := hM.rd (sI_at c39)
  refine lv_iconst (v := 1) hx hb dX12_four_25 (by decide) ?_
  refine lv_iadd hx hb dX12_four_26 ?_
  refine lv_topi (fun x42 ex42 => ?_)
  have ezx42 := ex42
  have ex42 : x42.toInt = x27.toInt + (1 : Int) := by rw [ex42]; exact wk_add (show (-2147483648) ≤ x27.toInt + (1 : Int) by omega) (show x27.toInt + (1 : Int) ≤ 2147483647 by omega)
  replace hM := hM.lt ex42.symm
  refine tk_puti hC hK hw hT hinX12 tyX12_ok nmX12 kM_at0 (by decide) rfl rfl 1 (by decide) (List.mem_cons_of_mem _ uw_8_7) rfl rfl rfl rfl (show 0 ≤ x42.toInt by first | with_reducible assumption | omega) (show x42.toInt ≤ 400 by first | with_reducible assumption | omega) dX12_four_27 (fun H locs w43 hw hT k45 c44 => ?_)
  replace hM := hM.wr (sI_up k45 c44)
  have hF := hF.put kM_at0 (k := 1) (by decide) k45
  refine lv_iinc (v := 0) (lv' := [(2, .int 0), (0, .ref (ad 0)), (1, .int a1)]) hx hb dX12_four_30 hl (k := 0) rfl (by decide) (by decide) rfl (fun ls hl => ?_)
  refine lv_goto (tgt := 3) hx hb dX12_four_33 (by decide) ?_
  refine lv_iload_n hx hb dX12_four_3 rfl (lv_at hl 0 rfl) ?_
  refine lv_if_lt (tgt := 36) hx hb dX12_four_4 (by decide) (fun c => absurd c (by decide)) (fun _ => ?_)
  refine lv_aload_n hx hb dX12_four_7 rfl (lv_at hl 1 rfl) ?_
  refine tk_getA hC hK hw hT hinX12 kM_at0 (by decide) rfl 0 (by decide) (List.mem_cons_of_mem _ uw_6_14) rfl rfl dX12_four_8 ?_
  refine lv_aload_n hx hb dX12_four_11 rfl (lv_at hl 1 rfl) ?_
  refine tk_geti hC hK hw hT hinX12 kM_at0 (by decide) rfl 1 (by decide) (List.mem_cons_of_mem _ uw_8_7) rfl rfl dX12_four_12 (fun x46 c47 rx46 tx46 => ?_)
  refine wk_top x42 (c47.symm.trans c44) ?_
  replace hM := hM.rd (sI_at c44)
  refine lv_iload_n hx hb dX12_four_15 rfl (lv_at hl 2 rfl) ?_
  refine lv_iload_n hx hb dX12_four_16 rfl (lv_at hl 0 rfl) ?_
  refine lv_ishr hx hb dX12_four_17 ?_
  refine lv_topi (fun x48 ex48 => ?_)
  have ezx48 := ex48
  replace hM := hM.lt (o32_e (f := fun x y => x >>> (y &&& 31)) ezx48 rfl (by decide))
  refine lv_i2b hx hb dX12_four_18 rfl ?_
  refine lv_topi (fun x49 ex49 => ?_)
  replace hM := hM.lt (mB_e ex49)
  refine tk_bastv hC hK hw hT kM_at1 (by decide) rfl rfl (show 0 ≤ x42.toInt by first | with_reducible assumption | omega) (show x42.toInt < 400 by first | with_reducible assumption | omega) dX12_four_19 (fun H locs w50 hw hT k52 c51 => ?_)
  obtain ⟨z53, ez53⟩ : ∃ z : Int32, z = x49.toInt8.toInt32 := ⟨_, rfl⟩
  have c51 := c51.trans ez53.symm
  replace hM := hM.lt (mB_e ez53)
  replace hM := hM.wr (sI_up k52 c51)
  have hF := hF.put kM_at1 (inE_of (a := 0) (b := 400) (by decide) (show 0 ≤ x42.toInt.toNat by omega) (show x42.toInt.toNat ≤ 400 by omega)) k52
  have c54 := k52.gi (Or.inl (tk_ne kM_at0 kM_at1 (by decide))) c44
  refine lv_aload_n hx hb dX12_four_20 rfl (lv_at hl 1 rfl) ?_
  refine lv_dup hx hb dX12_four_21 rfl ?_
  refine tk_geti hC hK hw hT hinX12 kM_at0 (by decide) rfl 1 (by decide) (List.mem_cons_of_mem _ uw_8_7) rfl rfl dX12_four_22 (fun x55 c56 rx55 tx55 => ?_)
  refine wk_top x42 (c56.symm.trans c54) ?_
  replace hM := hM.rd (sI_at c54)
  refine lv_iconst (v := 1) hx hb dX12_four_25 (by decide) ?_
  refine lv_iadd hx hb dX12_four_26 ?_
  refine lv_topi (fun x57 ex57 => ?_)
  have ezx57 := ex57
  have ex57 : x57.toInt = x42.toInt + (1 : Int) := by rw [ex57]; exact wk_add (show (-2147483648) ≤ x42.toInt + (1 : Int) by omega) (show x42.toInt + (1 : Int) ≤ 2147483647 by omega)
  replace hM := hM.lt ex57.symm
  refine tk_puti hC hK hw hT hinX12 tyX12_ok nmX12 kM_at0 (by decide) rfl rfl 1 (by decide) (List.mem_cons_of_mem _ uw_8_7) rfl rfl rfl rfl (show 0 ≤ x57.toInt by first | with_reducible assumption | omega) (show x57.toInt ≤ 400 by first | with_reducible assumption | omega) dX12_four_27 (fun H locs w58 hw hT k60 c59 => ?_)
  replace hM := hM.wr (sI_up k60 c59)
  have hF := hF.put kM_at0 (k := 1) (by decide) k60
  refine lv_iinc (v := (-8)) (lv' := [(2, .int (-8)), (0, .ref (ad 0)), (1, .int a1)]) hx hb dX12_four_30 hl (k := 0) rfl (by decide) (by decide) rfl (fun ls hl => ?_)
  refine lv_goto (tgt := 3) hx hb dX12_four_33 (by decide) ?_
  refine lv_iload_n hx hb dX12_four_3 rfl (lv_at hl 0 rfl) ?_
  refine lv_if_lt (tgt := 36) hx hb dX12_four_4 (by decide) (fun _ => ?_) (fun c => absurd (by decide) c)
  exact tk_vret hC hr hlocks hK ⟨hT, hF, hM.ret rfl, ⟨x57, c59, (show 16 ≤ x57.toInt by first | with_reducible assumption | omega), (show x57.toInt ≤ 396 by first | with_reducible assumption | omega)⟩⟩ hw dX12_four_36
abbrev Pz_X12_four_5 (ad : Nat → Nat) (cy : Nat → ClassId) (B : Int) (qr : Nat) (s1 : Int) (a1 : Int32) (w0 : va_W) : va_W → Prop := fun u => TW ksM ad cy B qr 12 u ∧ FE ksM [(12, 1, 1), (60, 0, 400)] w0 u ∧ Ev (fun n => m_X12_four n 0 a1.toInt (sI w0)) (0, sI u) ∧ (((∃ y : Int32, gi u 0 1 = y ∧ 20 ≤ y.toInt ∧ y.toInt ≤ 400)))
set_option maxHeartbeats 4000000 in
set_option maxRecDepth 100000 in
theorem kz_X12_four_5 (l : Launch) (adK adV : Nat → Nat) (dC : Nat → ClassId) (dI : Nat → Nat → Nat) (cy : Nat → ClassId) (ad : Nat → Nat) (B : Int) (hB0 : 100000 ≤ B) (hB1 : B ≤ 1073741824) (qr : Nat) (s1 : Int)  (a1 : Int32) (w0 : va_W) (sz : Nat) (hT : TW ksM ad cy B qr 12 w0) (f0_ : Int32) (cf0_ : gi w0 0 1 = f0_) (rf0_ : 16 ≤ f0_.toInt) (tf0_ : f0_.toInt ≤ 396) : Met l yX12_four (wu yX12_four cX12_four 3 none) ({ frames := 1, cells := 0, slots := 0, locals := 12 }) (va_Pc [.ref (ad 0), .int a1] (wpreS adK adV dC dI cy sz w0)) (va_Qv (Pz_X12_four_5 ad cy B qr s1 a1 w0) (fun u : va_W => wpost dC dI cy (va_A w0 sz) u) (va_A w0 sz)) 0 0 (va_A w0 sz) := by
  refine Met.ofW (cc := cX12_four) (maxL := 3) (ret := none) (by decide) rfl ?_
  intro p e s m args below meth c s₁ Bk hml hv
  obtain ⟨rfl, ⟨hsz, hP, hK, hD0⟩, hE, hSR⟩ := hv
  have hx := Bk.exec
  have hb := Bk.bytes
  have hr := Bk.returns
  have hlocks := Bk.notSynchronized
  have hC : CallFix p m c cX12_four 3 s _ (wu yX12_four cX12_four 3 none) RX12 := ⟨hx, hb, hml, findClass_of_methodNamed Bk.named, atoms_spec (ws := (wu yX12_four cX12_four 3 none)) Bk.pre⟩
  subst hsz
  have hD := hD0.self (sz := s.heap.size)
  generalize hAe : va_A w0 s.heap.size = A at hD hE ⊢
  have hA : ∀ q : Nat, s.heap.size ≤ q → A q := fun q h => by rw [← hAe]; exact Or.inr h
  have hw : Wd dC dI A s.heap s.heap [] w0 := ⟨hP, hD, va_S.rf⟩
  have hF : FE ksM [(12, 1, 1), (60, 0, 400)] w0 w0 := FE.rf
  have hl := lv_entry ([.ref (ad 0), .int a1]) (n := 3) (Nat.le_of_ble_eq_true rfl)
  rw [lg_entry_eq]
  generalize (lg_sl ([.ref (ad 0), .int a1]) ++ List.replicate (3 - (lg_sl ([.ref (ad 0), .int a1])).length) Slot.unset).toArray = ls at hl ⊢
  have hl : lv_has ls 3 [(0, .ref (ad 0)), (1, .int a1)] := hl
  generalize hloc : ([] : List Loc) = locs at hw ⊢
  have hinX12 : ∀ w ∈ u_ws RX12 TX12 42, w ∈ (wu yX12_four cX12_four 3 none) := fun _ h => List.mem_cons_of_mem _ (up_71 h)
  have hM : TT (fun n => m_X12_four n 0 a1.toInt (sI w0)) (fun n => m_X12_four n 0 a1.toInt (sI w0)) := TT.rf
  refine lv_bipush (v := 24) hx hb dX12_four_0 (by decide) ?_
  refine lv_istore_n (lv' := [(2, .int 24), (0, .ref (ad 0)), (1, .int a1)]) hx hb dX12_four_2 rfl hl (by decide) rfl (fun ls hl => ?_)
  refine lv_iload_n hx hb dX12_four_3 rfl (lv_at hl 0 rfl) ?_
  refine lv_if_lt (tgt := 36) hx hb dX12_four_4 (by decide) (fun c => absurd c (by decide)) (fun _ => ?_)
  refine lv_aload_n hx hb dX12_four_7 rfl (lv_at hl 1 rfl) ?_
  refine tk_getA hC hK hw hT hinX12 kM_at0 (by decide) rfl 0 (by decide) (List.mem_cons_of_mem _ uw_6_14) rfl rfl dX12_four_8 ?_
  refine lv_aload_n hx hb dX12_four_11 rfl (lv_at hl 1 rfl) ?_
  refine tk_geti hC hK hw hT hinX12 kM_at0 (by decide) rfl 1 (by decide) (List.mem_cons_of_mem _ uw_8_7) rfl rfl dX12_four_12 (fun x1 c2 rx1 tx1 => ?_)
  refine wk_top f0_ (c2.symm.trans cf0_) ?_
  replace hM := hM.rd (sI_at cf0_)
  refine lv_iload_n hx hb dX12_four_15 rfl (lv_at hl 2 rfl) ?_
  refine lv_iload_n hx hb dX12_four_16 rfl (lv_at hl 0 rfl) ?_
  refine lv_ishr hx hb dX12_four_17 ?_
  refine lv_topi (fun x3 ex3 => ?_)
  have ezx3 := ex3
  replace hM := hM.lt (o32_e (f := fun x y => x >>> (y &&& 31)) ezx3 rfl (by decide))
  refine lv_i2b hx hb dX12_four_18 rfl ?_
  refine lv_topi (fun x4 ex4 => ?_)
  replace hM := hM.lt (mB_e ex4)
  refine tk_bastv hC hK hw hT kM_at1 (by decide) rfl rfl (show 0 ≤ f0_.toInt from Int.le_trans (by decide) rf0_) (show f0_.toInt < 400 from Int.lt_of_le_of_lt tf0_ (by decide)) dX12_four_19 (fun H locs w5 hw hT k7 c6 => ?_)
  obtain ⟨z8, ez8⟩ : ∃ z : Int32, z = x4.toInt8.toInt32 := ⟨_, rfl⟩
  have c6 := c6.trans ez8.symm
  replace hM := hM.lt (mB_e ez8)
  replace hM := hM.wr (sI_up k7 c6)
  have hF := hF.put kM_at1 (inE_of (a := 0) (b := 400) (by decide) (show 0 ≤ f0_.toInt.toNat by omega) (show f0_.toInt.toNat ≤ 400 by omega)) k7
  have c9 := k7.gi (Or.inl (tk_ne kM_at0 kM_at1 (by decide))) cf0_
  refine lv_aload_n hx hb dX12_four_20 rfl (lv_at hl 1 rfl) ?_
  refine lv_dup hx hb dX12_four_21 rfl ?_
  refine tk_geti hC hK hw hT hinX12 kM_at0 (by decide) rfl 1 (by decide) (List.mem_cons_of_mem _ uw_8_7) rfl rfl dX12_four_22 (fun x10 c11 rx10 tx10 => ?_)
  refine wk_top f0_ (c11.symm.trans c9) ?_
  replace hM := hM.rd (sI_at c9)
  refine lv_iconst (v := 1) hx hb dX12_four_25 (by decide) ?_
  refine lv_iadd hx hb dX12_four_26 ?_
  refine lv_topi (fun x12 ex12 => ?_)
  have ezx12 := ex12
  have ex12 : x12.toInt = f0_.toInt + (1 : Int) := by rw [ex12]; exact wk_add (show (-2147483648) ≤ f0_.toInt + (1 : Int) by omega) (show f0_.toInt + (1 : Int) ≤ 2147483647 by omega)
  replace hM := hM.lt ex12.symm
  refine tk_puti hC hK hw hT hinX12 tyX12_ok nmX12 kM_at0 (by decide) rfl rfl 1 (by decide) (List.mem_cons_of_mem _ uw_8_7) rfl rfl rfl rfl (show 0 ≤ x12.toInt by first | with_reducible assumption | omega) (show x12.toInt ≤ 400 by first | with_reducible assumption | omega) dX12_four_27 (fun H locs w13 hw hT k15 c14 => ?_)
  replace hM := hM.wr (sI_up k15 c14)
  have hF := hF.put kM_at0 (k := 1) (by decide) k15
  refine lv_iinc (v := 16) (lv' := [(2, .int 16), (0, .ref (ad 0)), (1, .int a1)]) hx hb dX12_four_30 hl (k := 0) rfl (by decide) (by decide) rfl (fun ls hl => ?_)
  refine lv_goto (tgt := 3) hx hb dX12_four_33 (by decide) ?_
  refine lv_iload_n hx hb dX12_four_3 rfl (lv_at hl 0 rfl) ?_
  refine lv_if_lt (tgt := 36) hx hb dX12_four_4 (by decide) (fun c => absurd c (by decide)) (fun _ => ?_)
  refine lv_aload_n hx hb dX12_four_7 rfl (lv_at hl 1 rfl) ?_
  refine tk_getA hC hK hw hT hinX12 kM_at0 (by decide) rfl 0 (by decide) (List.mem_cons_of_mem _ uw_6_14) rfl rfl dX12_four_8 ?_
  refine lv_aload_n hx hb dX12_four_11 rfl (lv_at hl 1 rfl) ?_
  refine tk_geti hC hK hw hT hinX12 kM_at0 (by decide) rfl 1 (by decide) (List.mem_cons_of_mem _ uw_8_7) rfl rfl dX12_four_12 (fun x16 c17 rx16 tx16 => ?_)
  refine wk_top x12 (c17.symm.trans c14) ?_
  replace hM := hM.rd (sI_at c14)
  refine lv_iload_n hx hb dX12_four_15 rfl (lv_at hl 2 rfl) ?_
  refine lv_iload_n hx hb dX12_four_16 rfl (lv_at hl 0 rfl) ?_
  refine lv_ishr hx hb dX12_four_17 ?_
  refine lv_topi (fun x18 ex18 => ?_)
  have ezx18 := ex18
  replace hM := hM.lt (o32_e (f := fun x y => x >>> (y &&& 31)) ezx18 rfl (by decide))
  refine lv_i2b hx hb dX12_four_18 rfl ?_
  refine lv_topi (fun x19 ex19 => ?_)
  replace hM := hM.lt (mB_e ex19)
  refine tk_bastv hC hK hw hT kM_at1 (by decide) rfl rfl (show 0 ≤ x12.toInt by first | with_reducible assumption | omega) (show x12.toInt < 400 by first | with_reducible assumption | omega) dX12_four_19 (fun H locs w20 hw hT k22 c21 => ?_)
  obtain ⟨z23, ez23⟩ : ∃ z : Int32, z = x19.toInt8.toInt32 := ⟨_, rfl⟩
  have c21 := c21.trans ez23.symm
  replace hM := hM.lt (mB_e ez23)
  replace hM := hM.wr (sI_up k22 c21)
  have hF := hF.put kM_at1 (inE_of (a := 0) (b := 400) (by decide) (show 0 ≤ x12.toInt.toNat by omega) (show x12.toInt.toNat ≤ 400 by omega)) k22
  have c24 := k22.gi (Or.inl (tk_ne kM_at0 kM_at1 (by decide))) c14
  refine lv_aload_n hx hb dX12_four_20 rfl (lv_at hl 1 rfl) ?_
  refine lv_dup hx hb dX12_four_21 rfl ?_
  refine tk_geti hC hK hw hT hinX12 kM_at0 (by decide) rfl 1 (by decide) (List.mem_cons_of_mem _ uw_8_7) rfl rfl dX12_four_22 (fun x25 c26 rx25 tx25 => ?_)
  refine wk_top x12 (c26.symm.trans c24) ?_
  replace hM := hM.rd (sI_at c24)
  refine lv_iconst (v := 1) hx hb dX12_four_25 (by decide) ?_
  refine lv_iadd hx hb dX12_four_26 ?_
  refine lv_topi (fun x27 ex27 => ?_)
  have ezx27 := ex27
  have ex27 : x27.toInt = x12.toInt + (1 : Int) := by rw [ex27]; exact wk_add (show (-2147483648) ≤ x12.toInt + (1 : Int) by omega) (show x12.toInt + (1 : Int) ≤ 2147483647 by omega)
  replace hM := hM.lt ex27.symm
  refine tk_puti hC hK hw hT hinX12 tyX12_ok nmX12 kM_at0 (by decide) rfl rfl 1 (by decide) (List.mem_cons_of_mem _ uw_8_7) rfl rfl rfl rfl (show 0 ≤ x27.toInt by first | with_reducible assumption | omega) (show x27.toInt ≤ 400 by first | with_reducible assumption | omega) dX12_four_27 (fun H locs w28 hw hT k30 c29 => ?_)
  replace hM := hM.wr (sI_up k30 c29)
  have hF := hF.put kM_at0 (k := 1) (by decide) k30
  refine lv_iinc (v := 8) (lv' := [(2, .int 8), (0, .ref (ad 0)), (1, .int a1)]) hx hb dX12_four_30 hl (k := 0) rfl (by decide) (by decide) rfl (fun ls hl => ?_)
  refine lv_goto (tgt := 3) hx hb dX12_four_33 (by decide) ?_
  refine lv_iload_n hx hb dX12_four_3 rfl (lv_at hl 0 rfl) ?_
  refine lv_if_lt (tgt := 36) hx hb dX12_four_4 (by decide) (fun c => absurd c (by decide)) (fun _ => ?_)
  refine lv_aload_n hx hb dX12_four_7 rfl (lv_at hl 1 rfl) ?_
  refine tk_getA hC hK hw hT hinX12 kM_at0 (by decide) rfl 0 (by decide) (List.mem_cons_of_mem _ uw_6_14) rfl rfl dX12_four_8 ?_
  refine lv_aload_n hx hb dX12_four_11 rfl (lv_at hl 1 rfl) ?_
  refine tk_geti hC hK hw hT hinX12 kM_at0 (by decide) rfl 1 (by decide) (List.mem_cons_of_mem _ uw_8_7) rfl rfl dX12_four_12 (fun x31 c32 rx31 tx31 => ?_)
  refine wk_top x27 (c32.symm.trans c29) ?_
  replace hM := hM.rd (sI_at c29)
  refine lv_iload_n hx hb dX12_four_15 rfl (lv_at hl 2 rfl) ?_
  refine lv_iload_n hx hb dX12_four_16 rfl (lv_at hl 0 rfl) ?_
  refine lv_ishr hx hb dX12_four_17 ?_
  refine lv_topi (fun x33 ex33 => ?_)
  have ezx33 := ex33
  replace hM := hM.lt (o32_e (f := fun x y => x >>> (y &&& 31)) ezx33 rfl (by decide))
  refine lv_i2b hx hb dX12_four_18 rfl ?_
  refine lv_topi (fun x34 ex34 => ?_)
  replace hM := hM.lt (mB_e ex34)
  refine tk_bastv hC hK hw hT kM_at1 (by decide) rfl rfl (show 0 ≤ x27.toInt by first | with_reducible assumption | omega) (show x27.toInt < 400 by first | with_reducible assumption | omega) dX12_four_19 (fun H locs w35 hw hT k37 c36 => ?_)
  obtain ⟨z38, ez38⟩ : ∃ z : Int32, z = x34.toInt8.toInt32 := ⟨_, rfl⟩
  have c36 := c36.trans ez38.symm
  replace hM := hM.lt (mB_e ez38)
  replace hM := hM.wr (sI_up k37 c36)
  have hF := hF.put kM_at1 (inE_of (a := 0) (b := 400) (by decide) (show 0 ≤ x27.toInt.toNat by omega) (show x27.toInt.toNat ≤ 400 by omega)) k37
  have c39 := k37.gi (Or.inl (tk_ne kM_at0 kM_at1 (by decide))) c29
  refine lv_aload_n hx hb dX12_four_20 rfl (lv_at hl 1 rfl) ?_
  refine lv_dup hx hb dX12_four_21 rfl ?_
  refine tk_geti hC hK hw hT hinX12 kM_at0 (by decide) rfl 1 (by decide) (List.mem_cons_of_mem _ uw_8_7) rfl rfl dX12_four_22 (fun x40 c41 rx40 tx40 => ?_)
  refine wk_top x27 (c41.symm.trans c39) ?_
  replace hM := hM.rd (sI_at c39)
  refine lv_iconst (v := 1) hx hb dX12_four_25 (by decide) ?_
  refine lv_iadd hx hb dX12_four_26 ?_
  refine lv_topi (fun x42 ex42 => ?_)
  have ezx42 := ex42
  have ex42 : x42.toInt = x27.toInt + (1 : Int) := by rw [ex42]; exact wk_add (show (-2147483648) ≤ x27.toInt + (1 : Int) by omega) (show x27.toInt + (1 : Int) ≤ 2147483647 by omega)
  replace hM := hM.lt ex42.symm
  refine tk_puti hC hK hw hT hinX12 tyX12_ok nmX12 kM_at0 (by decide) rfl rfl 1 (by decide) (List.mem_cons_of_mem _ uw_8_7) rfl rfl rfl rfl (show 0 ≤ x42.toInt by first | with_reducible assumption | omega) (show x42.toInt ≤ 400 by first | with_reducible assumption | omega) dX12_four_27 (fun H locs w43 hw hT k45 c44 => ?_)
  replace hM := hM.wr (sI_up k45 c44)
  have hF := hF.put kM_at0 (k := 1) (by decide) k45
  refine lv_iinc (v := 0) (lv' := [(2, .int 0), (0, .ref (ad 0)), (1, .int a1)]) hx hb dX12_four_30 hl (k := 0) rfl (by decide) (by decide) rfl (fun ls hl => ?_)
  refine lv_goto (tgt := 3) hx hb dX12_four_33 (by decide) ?_
  refine lv_iload_n hx hb dX12_four_3 rfl (lv_at hl 0 rfl) ?_
  refine lv_if_lt (tgt := 36) hx hb dX12_four_4 (by decide) (fun c => absurd c (by decide)) (fun _ => ?_)
  refine lv_aload_n hx hb dX12_four_7 rfl (lv_at hl 1 rfl) ?_
  refine tk_getA hC hK hw hT hinX12 kM_at0 (by decide) rfl 0 (by decide) (List.mem_cons_of_mem _ uw_6_14) rfl rfl dX12_four_8 ?_
  refine lv_aload_n hx hb dX12_four_11 rfl (lv_at hl 1 rfl) ?_
  refine tk_geti hC hK hw hT hinX12 kM_at0 (by decide) rfl 1 (by decide) (List.mem_cons_of_mem _ uw_8_7) rfl rfl dX12_four_12 (fun x46 c47 rx46 tx46 => ?_)
  refine wk_top x42 (c47.symm.trans c44) ?_
  replace hM := hM.rd (sI_at c44)
  refine lv_iload_n hx hb dX12_four_15 rfl (lv_at hl 2 rfl) ?_
  refine lv_iload_n hx hb dX12_four_16 rfl (lv_at hl 0 rfl) ?_
  refine lv_ishr hx hb dX12_four_17 ?_
  refine lv_topi (fun x48 ex48 => ?_)
  have ezx48 := ex48
  replace hM := hM.lt (o32_e (f := fun x y => x >>> (y &&& 31)) ezx48 rfl (by decide))
  refine lv_i2b hx hb dX12_four_18 rfl ?_
  refine lv_topi (fun x49 ex49 => ?_)
  replace hM := hM.lt (mB_e ex49)
  refine tk_bastv hC hK hw hT kM_at1 (by decide) rfl rfl (show 0 ≤ x42.toInt by first | with_reducible assumption | omega) (show x42.toInt < 400 by first | with_reducible assumption | omega) dX12_four_19 (fun H locs w50 hw hT k52 c51 => ?_)
  obtain ⟨z53, ez53⟩ : ∃ z : Int32, z = x49.toInt8.toInt32 := ⟨_, rfl⟩
  have c51 := c51.trans ez53.symm
  replace hM := hM.lt (mB_e ez53)
  replace hM := hM.wr (sI_up k52 c51)
  have hF := hF.put kM_at1 (inE_of (a := 0) (b := 400) (by decide) (show 0 ≤ x42.toInt.toNat by omega) (show x42.toInt.toNat ≤ 400 by omega)) k52
  have c54 := k52.gi (Or.inl (tk_ne kM_at0 kM_at1 (by decide))) c44
  refine lv_aload_n hx hb dX12_four_20 rfl (lv_at hl 1 rfl) ?_
  refine lv_dup hx hb dX12_four_21 rfl ?_
  refine tk_geti hC hK hw hT hinX12 kM_at0 (by decide) rfl 1 (by decide) (List.mem_cons_of_mem _ uw_8_7) rfl rfl dX12_four_22 (fun x55 c56 rx55 tx55 => ?_)
  refine wk_top x42 (c56.symm.trans c54) ?_
  replace hM := hM.rd (sI_at c54)
  refine lv_iconst (v := 1) hx hb dX12_four_25 (by decide) ?_
  refine lv_iadd hx hb dX12_four_26 ?_
  refine lv_topi (fun x57 ex57 => ?_)
  have ezx57 := ex57
  have ex57 : x57.toInt = x42.toInt + (1 : Int) := by rw [ex57]; exact wk_add (show (-2147483648) ≤ x42.toInt + (1 : Int) by omega) (show x42.toInt + (1 : Int) ≤ 2147483647 by omega)
  replace hM := hM.lt ex57.symm
  refine tk_puti hC hK hw hT hinX12 tyX12_ok nmX12 kM_at0 (by decide) rfl rfl 1 (by decide) (List.mem_cons_of_mem _ uw_8_7) rfl rfl rfl rfl (show 0 ≤ x57.toInt by first | with_reducible assumption | omega) (show x57.toInt ≤ 400 by first | with_reducible assumption | omega) dX12_four_27 (fun H locs w58 hw hT k60 c59 => ?_)
  replace hM := hM.wr (sI_up k60 c59)
  have hF := hF.put kM_at0 (k := 1) (by decide) k60
  refine lv_iinc (v := (-8)) (lv' := [(2, .int (-8)), (0, .ref (ad 0)), (1, .int a1)]) hx hb dX12_four_30 hl (k := 0) rfl (by decide) (by decide) rfl (fun ls hl => ?_)
  refine lv_goto (tgt := 3) hx hb dX12_four_33 (by decide) ?_
  refine lv_iload_n hx hb dX12_four_3 rfl (lv_at hl 0 rfl) ?_
  refine lv_if_lt (tgt := 36) hx hb dX12_four_4 (by decide) (fun _ => ?_) (fun c => absurd (by decide) c)
  exact tk_vret hC hr hlocks hK ⟨hT, hF, hM.ret rfl, ⟨x57, c59, (show 20 ≤ x57.toInt by first | with_reducible assumption | omega), (show x57.toInt ≤ 400 by first | with_reducible assumption | omega)⟩⟩ hw dX12_four_36
