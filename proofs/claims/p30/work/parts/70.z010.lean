abbrev Pz_X3_readTest_2 (ad : Nat → Nat) (cy : Nat → ClassId) (B : Int) (qr : Nat) (s1 : Int)  (w0 : va_W) : va_W → Prop := fun u => TW ksC ad cy B qr s1 u ∧ FE ksC [(2, 3, 3), (3, 2, 2), (6, 1, 1), (6, 3, 3), (6, 4, 4), (22, 0, 13), (23, 0, 400)] w0 u ∧ Ev (fun n => m_X3_readTest n qr 3 1 (sI w0)) (0, sI u) ∧ ((True))
set_option maxHeartbeats 4000000 in
set_option maxRecDepth 100000 in
theorem kz_X3_readTest_2 (l : Launch) (adK adV : Nat → Nat) (dC : Nat → ClassId) (dI : Nat → Nat → Nat) (cy : Nat → ClassId) (ad : Nat → Nat) (B : Int) (hB0 : 2147483648 ≤ B) (hB1 : B ≤ 1152921504606846976) (qr : Nat) (s1 : Int) (hqr : ksC[qr]? = some 2)  (w0 : va_W) (sz : Nat) (hT : TW ksC ad cy B qr s1 w0) (cf0_ : gi w0 1 4 = 0) : Met l yX3_readTest (wu yX3_readTest cX3_readTest 4 none) ({ frames := 27, cells := 0, slots := 0, locals := 658 }) (va_Pc [.ref (ad 3), .int 1] (wpreS adK adV dC dI cy sz w0)) (va_Qv (Pz_X3_readTest_2 ad cy B qr s1  w0) (fun u : va_W => wpost dC dI cy (va_A w0 sz) u) (va_A w0 sz)) 0 0 (va_A w0 sz) := by
  refine Met.ofW (cc := cX3_readTest) (maxL := 4) (ret := none) (by decide) rfl ?_
  intro p e s m args below meth c s₁ Bk hml hv
  obtain ⟨rfl, ⟨hsz, hP, hK, hD0⟩, hE, hSR⟩ := hv
  have hx := Bk.exec
  have hb := Bk.bytes
  have hr := Bk.returns
  have hlocks := Bk.notSynchronized
  have hC : CallFix p m c cX3_readTest 4 s _ (wu yX3_readTest cX3_readTest 4 none) RX3 := ⟨hx, hb, hml, findClass_of_methodNamed Bk.named, atoms_spec (ws := (wu yX3_readTest cX3_readTest 4 none)) Bk.pre⟩
  subst hsz
  have hD := hD0.self (sz := s.heap.size)
  generalize hAe : va_A w0 s.heap.size = A at hD hE ⊢
  have hA : ∀ q : Nat, s.heap.size ≤ q → A q := fun q h => by rw [← hAe]; exact Or.inr h
  have hw : Wd dC dI A s.heap s.heap [] w0 := ⟨hP, hD, va_S.rf⟩
  have hF : FE ksC [(2, 3, 3), (3, 2, 2), (6, 1, 1), (6, 3, 3), (6, 4, 4), (22, 0, 13), (23, 0, 400)] w0 w0 := FE.rf
  have hl := lv_entry ([.ref (ad 3), .int 1]) (n := 4) (Nat.le_of_ble_eq_true rfl)
  rw [lg_entry_eq]
  generalize (lg_sl ([.ref (ad 3), .int 1]) ++ List.replicate (4 - (lg_sl ([.ref (ad 3), .int 1])).length) Slot.unset).toArray = ls at hl ⊢
  have hl : lv_has ls 4 [(0, .ref (ad 3)), (1, .int 1)] := hl
  generalize hloc : ([] : List Loc) = locs at hw ⊢
  have hinX3 : ∀ w ∈ u_ws RX3 TX3 3, w ∈ (wu yX3_readTest cX3_readTest 4 none) := fun _ h => List.mem_cons_of_mem _ (up_75 h)
  have J86 : ∀ (v86_2 : Int32) (v86_3 : Int32) (H : Heap) (locs : List Loc) (ls : Array Slot) (w1 : va_W), (-1) ≤ v86_2.toInt → v86_2.toInt ≤ 21 → 0 ≤ v86_3.toInt → v86_3.toInt ≤ 400 → Wd dC dI A s.heap H locs w1 → TW ksC ad cy B qr s1 w1 → FE ksC [(2, 3, 3), (3, 2, 2), (6, 1, 1), (6, 3, 3), (6, 4, 4), (22, 0, 13), (23, 0, 400)] w0 w1 → TT (fun n => m_X3_readTest n qr 3 1 (sI w0)) (fun n => b_X3_readTest_86 (j_X3_readFact_X3_readTest qr 3 n) n qr 3 (v86_2.toInt) (sI w1)) → lv_has ls 4 [(0, .ref (ad 3)), (1, .int 1), (2, .int v86_2), (3, .int v86_3)] → W p l e ({ frames := 27, cells := 0, slots := 0, locals := 658 }) s m (List.toArray [.ref (ad 3), .int 1]) below meth c H locs 0 0 (MQ below (va_Qv (Pz_X3_readTest_2 ad cy B qr s1  w0) (fun u : va_W => wpost dC dI cy A u) A) (List.toArray [.ref (ad 3), .int 1]) s 0 0 A) (F0 m 86 ls []) := by
    intro v86_2 v86_3 H locs ls w1 r2 t3 r4 t5 hw hT hF hM hl
    refine lv_aload_n hx hb dX3_readTest_86 rfl (lv_at hl 0 rfl) ?_
    refine lv_iload_n hx hb dX3_readTest_87 rfl (lv_at hl 2 rfl) ?_
    refine tk_Vv hC hK hw hT hA hE hSR kC_at3 (by decide) rfl (kz_X3_addWaiting_1 l adK adV dC dI cy ad B hB0 (Int.le_trans hB1 (by decide)) qr s1 hqr  v86_2 w1 H.size hT ) (cwV 1 hC.2.2.2.2 uV_RX3_79 rfl rfl rfl (by decide +kernel) ⟨Nat.le_of_ble_eq_true rfl, Nat.le_of_ble_eq_true rfl⟩) rfl hl.1 rfl (Nat.le_of_ble_eq_true rfl) dX3_readTest_88 (fun w8 H locs hp7 hw => ?_)
    obtain ⟨hT, k9, hv11, hg10⟩ := hp7
    have hF := hF.tr k9 (by decide)
    clear hg10
    replace hM := hM.call hv11 rfl
    exact tk_vret hC hr hlocks hK ⟨hT, hF, hM.ret rfl, trivial⟩ hw dX3_readTest_91
  have L9 : ∀ (n9 : Nat) (v9_2 : Int32) (v9_3 : Int32) (H : Heap) (locs : List Loc) (ls : Array Slot) (w12 : va_W), (-1) ≤ v9_2.toInt → v9_2.toInt ≤ 21 → 0 ≤ v9_3.toInt → v9_3.toInt ≤ 400 → (400 - v9_3.toInt).toNat < n9 → Wd dC dI A s.heap H locs w12 → TW ksC ad cy B qr s1 w12 → FE ksC [(2, 3, 3), (3, 2, 2), (6, 1, 1), (6, 3, 3), (6, 4, 4), (22, 0, 13), (23, 0, 400)] w0 w12 → TT (fun n => m_X3_readTest n qr 3 1 (sI w0)) (fun n => j_X3_readFact_X3_readTest qr 3 n 2009 [(1 : Int), v9_2.toInt, v9_3.toInt] (sI w12)) → lv_has ls 4 [(0, .ref (ad 3)), (1, .int 1), (2, .int v9_2), (3, .int v9_3)] → W p l e ({ frames := 27, cells := 0, slots := 0, locals := 658 }) s m (List.toArray [.ref (ad 3), .int 1]) below meth c H locs 0 0 (MQ below (va_Qv (Pz_X3_readTest_2 ad cy B qr s1  w0) (fun u : va_W => wpost dC dI cy A u) A) (List.toArray [.ref (ad 3), .int 1]) s 0 0 A) (F0 m 9 ls []) := by
    intro n9
    induction n9 with
    | zero => intro v9_2 v9_3 H locs ls w12 r13 t14 r15 t16 hm9 hw hT hF hM hl; omega
    | succ n9 ih9 =>
      intro v9_2 v9_3 H locs ls w12 r13 t14 r15 t16 hm9 hw hT hF hM hl
      have J80 : ∀ (v80_2 : Int32) (H : Heap) (locs : List Loc) (ls : Array Slot) (w17 : va_W), (-1) ≤ v80_2.toInt → v80_2.toInt ≤ 21 → 0 ≤ v9_3.toInt → v9_3.toInt ≤ 399 → Wd dC dI A s.heap H locs w17 → TW ksC ad cy B qr s1 w17 → FE ksC [(2, 3, 3), (3, 2, 2), (6, 1, 1), (6, 3, 3), (6, 4, 4), (22, 0, 13), (23, 0, 400)] w0 w17 → TT (fun n => m_X3_readTest n qr 3 1 (sI w0)) (fun n => b_X3_readTest_80 (j_X3_readFact_X3_readTest qr 3 n) n qr 3 (1 : Int) (v80_2.toInt) (v9_3.toInt) (sI w17)) → lv_has ls 4 [(0, .ref (ad 3)), (1, .int 1), (2, .int v80_2), (3, .int v9_3)] → W p l e ({ frames := 27, cells := 0, slots := 0, locals := 658 }) s m (List.toArray [.ref (ad 3), .int 1]) below meth c H locs 0 0 (MQ below (va_Qv (Pz_X3_readTest_2 ad cy B qr s1  w0) (fun u : va_W => wpost dC dI cy A u) A) (List.toArray [.ref (ad 3), .int 1]) s 0 0 A) (F0 m 80 ls []) := by
        intro v80_2 H locs ls w17 r18 t19 r20 t21 hw hT hF hM hl
        obtain ⟨x22, ex22⟩ : ∃ y : Int32, y = v9_3 + Int32.ofInt 1 := ⟨_, rfl⟩
        have erx22 := ex22
        refine lv_iinc (v := x22) (lv' := [(3, .int x22), (0, .ref (ad 3)), (1, .int 1), (2, .int v80_2)]) hx hb dX3_readTest_80 hl (k := 3) rfl ex22.symm (by decide) rfl (fun ls hl => ?_)
        have ex22 : x22.toInt = v9_3.toInt + 1 := by rw [ex22]; exact wk_add (y := 1) (show -2147483648 ≤ v9_3.toInt + 1 by omega) (show v9_3.toInt + 1 ≤ 2147483647 by omega)
        replace hM := hM.lt ex22.symm
        refine lv_goto (tgt := 9) hx hb dX3_readTest_83 (by decide) ?_
        exact ih9 v80_2 x22 H locs ls w17 (show (-1) ≤ v80_2.toInt from r18) (show v80_2.toInt ≤ 21 from t19) (show 0 ≤ x22.toInt by first | with_reducible assumption | omega) (show x22.toInt ≤ 400 by first | with_reducible assumption | omega) (show (400 - x22.toInt).toNat < n9 by first | exact tn_lt hm9 (by omega) (by omega) | omega) hw hT hF hM (lv_sub hl [1, 2, 3, 0] rfl)
      replace hM := hM.suc (fun _ => e_X3_readTest_9)
      refine lv_iload_n hx hb dX3_readTest_9 rfl (lv_at hl 3 rfl) ?_
      refine lv_sipush (v := 400) hx hb dX3_readTest_10 (by decide) ?_
      refine lv_icmp_ge (tgt := 86) hx hb dX3_readTest_13 (by decide) (fun c23 => ?_) (fun c23 => ?_)
      · have c23 : (400 : Int) ≤ v9_3.toInt := wk_le.mp c23
        replace hM := hM.pos c23
        exact J86 v9_2 v9_3 H locs ls w12 (show (-1) ≤ v9_2.toInt from r13) (show v9_2.toInt ≤ 21 from t14) (show 0 ≤ v9_3.toInt from r15) (show v9_3.toInt ≤ 400 from t16)  hw hT hF hM (lv_sub hl [0, 1, 2, 3] rfl)
      · have c23 : v9_3.toInt < (400 : Int) := wk_leF c23
        replace hM := hM.neg (Int.not_le.mpr c23)
        refine lv_aload_n hx hb dX3_readTest_16 rfl (lv_at hl 0 rfl) ?_
        refine tk_getA hC hK hw hT hinX3 kC_at3 (by decide) rfl 0 (by decide) (List.mem_cons_of_mem _ uw_3_12) rfl rfl dX3_readTest_17 ?_
        refine tk_Vi hC hK hw hT hA hE hSR kC_at1 (by decide) rfl (kz_X6_isFaulty_1 l adK adV dC dI cy ad B hB0 (Int.le_trans hB1 (by decide)) qr s1    w12 H.size hT ) (cwV 0 hC.2.2.2.2 uV_RX3_54 rfl rfl rfl (by decide +kernel) ⟨Nat.le_of_ble_eq_true rfl, Nat.le_of_ble_eq_true rfl⟩) rfl hl.1 rfl (Nat.le_of_ble_eq_true rfl) dX3_readTest_20 (fun r24 w26 H locs hp25 hw => ?_)
        obtain ⟨hT, k27, hv33, hg32⟩ := hp25
        have hF := hF.tr k27 (by decide)
        rcases hg32 with ⟨rfl, ⟨x28, c29, rx28, tx28⟩⟩ | ⟨rfl, ⟨x30, c31, rx30, tx30⟩⟩
        · replace hM := hM.call (r' := 0) hv33 (by decide)
          refine lv_if_ne (tgt := 86) hx hb dX3_readTest_23 (by decide) (fun c => absurd (by decide) c) (fun _ => ?_)
          replace hM := hM.neg (by decide)
          refine lv_aload_n hx hb dX3_readTest_26 rfl (lv_at hl 0 rfl) ?_
          refine tk_getA hC hK hw hT hinX3 kC_at3 (by decide) rfl 0 (by decide) (List.mem_cons_of_mem _ uw_3_12) rfl rfl dX3_readTest_27 ?_
          refine va_ldcS hx hb hC.2.2.2.1 hSR.2.2.2.2.2.2.1 dX3_readTest_30 ?_
          refine tk_Vi hC hK hw hT hA hE hSR kC_at1 (by decide) rfl (kz_X6_takeWord_2 l adK adV dC dI cy ad B hB0 (Int.le_trans hB1 (by decide)) qr s1    w26 H.size hT ) (cwV 1 hC.2.2.2.2 uV_RX3_59 rfl rfl rfl (by decide +kernel) ⟨Nat.le_of_ble_eq_true rfl, Nat.le_of_ble_eq_true rfl⟩) rfl hl.1 rfl (Nat.le_of_ble_eq_true rfl) dX3_readTest_32 (fun r34 w36 H locs hp35 hw => ?_)
          obtain ⟨hT, k37, hv41, hg40⟩ := hp35
          have hF := hF.tr k37 (by decide)
          have c42 := k37.gi kC_at1 (by decide) c29
          rcases hg40 with rfl | ⟨rfl, ⟨x38, c39, rx38, tx38⟩⟩
          · replace hM := hM.call (r' := 0) hv41 (by decide)
            refine lv_if_eq (tgt := 55) hx hb dX3_readTest_35 (by decide) (fun _ => ?_) (fun c => absurd (by decide) c)
            replace hM := hM.pos (by decide)
            refine lv_aload_n hx hb dX3_readTest_55 rfl (lv_at hl 0 rfl) ?_
            refine tk_getA hC hK hw hT hinX3 kC_at3 (by decide) rfl 0 (by decide) (List.mem_cons_of_mem _ uw_3_12) rfl rfl dX3_readTest_56 ?_
            refine va_ldcS hx hb hC.2.2.2.1 hSR.2.2.2.2.2.2.2 dX3_readTest_59 ?_
            refine tk_Vi hC hK hw hT hA hE hSR kC_at1 (by decide) rfl (kz_X6_takeWord_3 l adK adV dC dI cy ad B hB0 (Int.le_trans hB1 (by decide)) qr s1    w36 H.size hT ) (cwV 1 hC.2.2.2.2 uV_RX3_59 rfl rfl rfl (by decide +kernel) ⟨Nat.le_of_ble_eq_true rfl, Nat.le_of_ble_eq_true rfl⟩) rfl hl.1 rfl (Nat.le_of_ble_eq_true rfl) dX3_readTest_61 (fun r43 w45 H locs hp44 hw => ?_)
            obtain ⟨hT, k46, hv50, hg49⟩ := hp44
            have hF := hF.tr k46 (by decide)
            have c51 := k46.gi kC_at1 (by decide) c42
            rcases hg49 with rfl | ⟨rfl, ⟨x47, c48, rx47, tx47⟩⟩
            · replace hM := hM.call (r' := 0) hv50 (by decide)
              refine lv_if_eq (tgt := 86) hx hb dX3_readTest_64 (by decide) (fun _ => ?_) (fun c => absurd (by decide) c)
              replace hM := hM.pos (by decide)
              exact J86 v9_2 v9_3 H locs ls w45 (show (-1) ≤ v9_2.toInt from r13) (show v9_2.toInt ≤ 21 from t14) (show 0 ≤ v9_3.toInt from r15) (show v9_3.toInt ≤ 400 from t16)  hw hT hF hM (lv_sub hl [0, 1, 2, 3] rfl)
            · replace hM := hM.call (r' := 1) hv50 (by decide)
              refine lv_if_eq (tgt := 86) hx hb dX3_readTest_64 (by decide) (fun c => absurd c (by decide)) (fun _ => ?_)
              replace hM := hM.neg (by decide)
              refine lv_aload_n hx hb dX3_readTest_67 rfl (lv_at hl 0 rfl) ?_
              refine lv_iload_n hx hb dX3_readTest_68 rfl (lv_at hl 2 rfl) ?_
              refine tk_Vv hC hK hw hT hA hE hSR kC_at3 (by decide) rfl (kz_X3_addWaiting_1 l adK adV dC dI cy ad B hB0 (Int.le_trans hB1 (by decide)) qr s1 hqr  v9_2 w45 H.size hT ) (cwV 1 hC.2.2.2.2 uV_RX3_79 rfl rfl rfl (by decide +kernel) ⟨Nat.le_of_ble_eq_true rfl, Nat.le_of_ble_eq_true rfl⟩) rfl hl.1 rfl (Nat.le_of_ble_eq_true rfl) dX3_readTest_69 (fun w54 H locs hp53 hw => ?_)
              obtain ⟨hT, k55, hv57, hg56⟩ := hp53
              have hF := hF.tr k55 (by decide)
              have c58 := k55.gi kC_at1 (by decide) c51
              have c59 := k55.gi kC_at1 (by decide) c48
              clear hg56
              replace hM := hM.call hv57 rfl
              refine lv_bipush (v := 21) hx hb dX3_readTest_72 (by decide) ?_
              refine lv_istore_n (lv' := [(2, .int 21), (0, .ref (ad 3)), (1, .int 1), (3, .int v9_3)]) hx hb dX3_readTest_74 rfl hl (by decide) rfl (fun ls hl => ?_)
              refine lv_aload_n hx hb dX3_readTest_75 rfl (lv_at hl 1 rfl) ?_
              refine lv_iload_n hx hb dX3_readTest_76 rfl (lv_at hl 2 rfl) ?_
              refine tk_Vv hC hK hw hT hA hE hSR kC_at3 (by decide) rfl (kz_X3_readFact_2 l adK adV dC dI cy ad B hB0 (Int.le_trans hB1 (by decide)) qr s1 hqr   w54 H.size hT (c58.trans (wk_eq.mpr (show x28.toInt = 0 by first | exact Int.le_antisymm (by omega) (by omega) | omega)))) (cwV 1 hC.2.2.2.2 uV_RX3_69 rfl rfl rfl (by decide +kernel) ⟨Nat.le_of_ble_eq_true rfl, Nat.le_of_ble_eq_true rfl⟩) rfl hl.1 rfl (Nat.le_of_ble_eq_true rfl) dX3_readTest_77 (fun w62 H locs hp61 hw => ?_)
              obtain ⟨hT, k63, hv65, hg64⟩ := hp61
              have hF := hF.tr k63 (by decide)
              clear hg64
              replace hM := hM.call hv65 rfl
              exact J80 21 H locs ls w62 (by decide) (by decide) (show 0 ≤ v9_3.toInt from r15) (show v9_3.toInt ≤ 399 by first | with_reducible assumption | omega)  hw hT hF hM (lv_sub hl [1, 2, 0, 3] rfl)
          · replace hM := hM.call (r' := 1) hv41 (by decide)
            refine lv_if_eq (tgt := 55) hx hb dX3_readTest_35 (by decide) (fun c => absurd c (by decide)) (fun _ => ?_)
            replace hM := hM.neg (by decide)
            refine lv_aload_n hx hb dX3_readTest_38 rfl (lv_at hl 0 rfl) ?_
            refine lv_iload_n hx hb dX3_readTest_39 rfl (lv_at hl 1 rfl) ?_
            refine tk_Vv hC hK hw hT hA hE hSR kC_at3 (by decide) rfl (kz_X3_readFact_2 l adK adV dC dI cy ad B hB0 (Int.le_trans hB1 (by decide)) qr s1 hqr   w36 H.size hT (c42.trans (wk_eq.mpr (show x28.toInt = 0 by first | exact Int.le_antisymm (by omega) (by omega) | omega)))) (cwV 1 hC.2.2.2.2 uV_RX3_69 rfl rfl rfl (by decide +kernel) ⟨Nat.le_of_ble_eq_true rfl, Nat.le_of_ble_eq_true rfl⟩) rfl hl.1 rfl (Nat.le_of_ble_eq_true rfl) dX3_readTest_40 (fun w68 H locs hp67 hw => ?_)
            obtain ⟨hT, k69, hv71, hg70⟩ := hp67
            have hF := hF.tr k69 (by decide)
            clear hg70
            replace hM := hM.call hv71 rfl
            refine lv_aload_n hx hb dX3_readTest_43 rfl (lv_at hl 0 rfl) ?_
            refine tk_getQ hC hK hw hT hqr (by decide) hinX3 kC_at3 (by decide) rfl 1 (by decide) (List.mem_cons_of_mem _ uw_26_17) rfl rfl dX3_readTest_44 ?_
            refine lv_bipush (v := 20) hx hb dX3_readTest_47 (by decide) ?_
            refine tk_Vv hC hK hw hT hA hE hSR hqr (by decide) rfl (kz_X2_addToken_1 l adK adV dC dI cy ad B hB0 (Int.le_trans hB1 (by decide)) qr s1   qr hqr 20 w68 H.size hT ) (cwV 1 hC.2.2.2.2 uV_RX3_74 rfl rfl rfl (by decide +kernel) ⟨Nat.le_of_ble_eq_true rfl, Nat.le_of_ble_eq_true rfl⟩) rfl hl.1 rfl (Nat.le_of_ble_eq_true rfl) dX3_readTest_49 (fun w74 H locs hp73 hw => ?_)
            obtain ⟨hT, k75, hv79, hg78⟩ := hp73
            try simp only [show (20 : Int32).toInt = 20 by decide] at hv79
            have hF := hF.tr k75 (by decide)
            obtain ⟨x76, c77, rx76, tx76⟩ := hg78
            replace hM := hM.call hv79 rfl
            refine lv_goto (tgt := 80) hx hb dX3_readTest_52 (by decide) ?_
            exact J80 v9_2 H locs ls w74 (show (-1) ≤ v9_2.toInt from r13) (show v9_2.toInt ≤ 21 from t14) (show 0 ≤ v9_3.toInt from r15) (show v9_3.toInt ≤ 399 by first | with_reducible assumption | omega)  hw hT hF hM (lv_sub hl [0, 1, 2, 3] rfl)
        · replace hM := hM.call (r' := 1) hv33 (by decide)
          refine lv_if_ne (tgt := 86) hx hb dX3_readTest_23 (by decide) (fun _ => ?_) (fun c => absurd c (by decide))
          replace hM := hM.pos (by decide)
          exact J86 v9_2 v9_3 H locs ls w26 (show (-1) ≤ v9_2.toInt from r13) (show v9_2.toInt ≤ 21 from t14) (show 0 ≤ v9_3.toInt from r15) (show v9_3.toInt ≤ 400 from t16)  hw hT hF hM (lv_sub hl [0, 1, 2, 3] rfl)
  have hM : TT (fun n => m_X3_readTest n qr 3 1 (sI w0)) (fun n => j_X3_readFact_X3_readTest qr 3 n 2000 [1] (sI w0)) := TT.rf
  replace hM := hM.suc (fun _ => e_X3_readTest_e)
  refine lv_aload_n hx hb dX3_readTest_0 rfl (lv_at hl 0 rfl) ?_
  refine lv_iload_n hx hb dX3_readTest_1 rfl (lv_at hl 1 rfl) ?_
  refine tk_Vv hC hK hw hT hA hE hSR kC_at3 (by decide) rfl (kz_X3_readFact_2 l adK adV dC dI cy ad B hB0 (Int.le_trans hB1 (by decide)) qr s1 hqr   w0 s.heap.size hT cf0_) (cwV 1 hC.2.2.2.2 uV_RX3_69 rfl rfl rfl (by decide +kernel) ⟨Nat.le_of_ble_eq_true rfl, Nat.le_of_ble_eq_true rfl⟩) rfl hl.1 rfl (Nat.le_of_ble_eq_true rfl) dX3_readTest_2 (fun w82 H locs hp81 hw => ?_)
  obtain ⟨hT, k83, hv85, hg84⟩ := hp81
  have hF := hF.tr k83 (by decide)
  clear hg84
  replace hM := hM.call hv85 rfl
  refine lv_iconst (v := (-1)) hx hb dX3_readTest_5 (by decide) ?_
  refine lv_istore_n (lv' := [(2, .int (-1)), (0, .ref (ad 3)), (1, .int 1)]) hx hb dX3_readTest_6 rfl hl (by decide) rfl (fun ls hl => ?_)
  refine lv_iconst (v := 0) hx hb dX3_readTest_7 (by decide) ?_
  refine lv_istore_n (lv' := [(3, .int 0), (2, .int (-1)), (0, .ref (ad 3)), (1, .int 1)]) hx hb dX3_readTest_8 rfl hl (by decide) rfl (fun ls hl => ?_)
  exact L9 ((400 - (0 : Int)).toNat + 1) (-1) 0 H locs ls w82 (by decide) (by decide) (by decide) (by decide) (Nat.lt_succ_self _) hw hT hF hM (lv_sub hl [2, 3, 1, 0] rfl)
abbrev Pz_X3_readFact_1 (ad : Nat → Nat) (cy : Nat → ClassId) (B : Int) (qr : Nat) (s1 : Int)  (w0 : va_W) : va_W → Prop := fun u => TW ksC ad cy B qr s1 u ∧ FE ksC [(2, 3, 3), (3, 2, 2), (6, 1, 1), (6, 3, 3), (6, 4, 4), (22, 0, 13), (23, 0, 400)] w0 u ∧ Ev (fun n => m_X3_readFact n qr 3 0 (sI w0)) (0, sI u) ∧ ((True))
set_option maxHeartbeats 4000000 in
set_option maxRecDepth 100000 in
theorem kz_X3_readFact_1 (l : Launch) (adK adV : Nat → Nat) (dC : Nat → ClassId) (dI : Nat → Nat → Nat) (cy : Nat → ClassId) (ad : Nat → Nat) (B : Int) (hB0 : 2147483648 ≤ B) (hB1 : B ≤ 1152921504606846976) (qr : Nat) (s1 : Int) (hqr : ksC[qr]? = some 2)  (w0 : va_W) (sz : Nat) (hT : TW ksC ad cy B qr s1 w0) (cf0_ : gi w0 1 4 = 0) : Met l yX3_readFact (wu yX3_readFact cX3_readFact 5 none) ({ frames := 28, cells := 0, slots := 0, locals := 681 }) (va_Pc [.ref (ad 3), .int 0] (wpreS adK adV dC dI cy sz w0)) (va_Qv (Pz_X3_readFact_1 ad cy B qr s1  w0) (fun u : va_W => wpost dC dI cy (va_A w0 sz) u) (va_A w0 sz)) 0 0 (va_A w0 sz) := by
  refine Met.ofW (cc := cX3_readFact) (maxL := 5) (ret := none) (by decide) rfl ?_
  intro p e s m args below meth c s₁ Bk hml hv
  obtain ⟨rfl, ⟨hsz, hP, hK, hD0⟩, hE, hSR⟩ := hv
  have hx := Bk.exec
  have hb := Bk.bytes
  have hr := Bk.returns
  have hlocks := Bk.notSynchronized
  have hC : CallFix p m c cX3_readFact 5 s _ (wu yX3_readFact cX3_readFact 5 none) RX3 := ⟨hx, hb, hml, findClass_of_methodNamed Bk.named, atoms_spec (ws := (wu yX3_readFact cX3_readFact 5 none)) Bk.pre⟩
  subst hsz
  have hD := hD0.self (sz := s.heap.size)
  generalize hAe : va_A w0 s.heap.size = A at hD hE ⊢
  have hA : ∀ q : Nat, s.heap.size ≤ q → A q := fun q h => by rw [← hAe]; exact Or.inr h
  have hw : Wd dC dI A s.heap s.heap [] w0 := ⟨hP, hD, va_S.rf⟩
  have hF : FE ksC [(2, 3, 3), (3, 2, 2), (6, 1, 1), (6, 3, 3), (6, 4, 4), (22, 0, 13), (23, 0, 400)] w0 w0 := FE.rf
  have hl := lv_entry ([.ref (ad 3), .int 0]) (n := 5) (Nat.le_of_ble_eq_true rfl)
  rw [lg_entry_eq]
  generalize (lg_sl ([.ref (ad 3), .int 0]) ++ List.replicate (5 - (lg_sl ([.ref (ad 3), .int 0])).length) Slot.unset).toArray = ls at hl ⊢
  have hl : lv_has ls 5 [(0, .ref (ad 3)), (1, .int 0)] := hl
  generalize hloc : ([] : List Loc) = locs at hw ⊢
  have hinX3 : ∀ w ∈ u_ws RX3 TX3 3, w ∈ (wu yX3_readFact cX3_readFact 5 none) := fun _ h => List.mem_cons_of_mem _ (up_75 h)
  have J160 : ∀ (v160_2 : Int32) (v160_3 : Int32) (H : Heap) (locs : List Loc) (ls : Array Slot) (w1 : va_W), 0 ≤ v160_2.toInt → v160_2.toInt ≤ 1 → 0 ≤ v160_3.toInt → v160_3.toInt ≤ 1 → Wd dC dI A s.heap H locs w1 → TW ksC ad cy B qr s1 w1 → FE ksC [(2, 3, 3), (3, 2, 2), (6, 1, 1), (6, 3, 3), (6, 4, 4), (22, 0, 13), (23, 0, 400)] w0 w1 → TT (fun n => m_X3_readFact n qr 3 0 (sI w0)) (fun n => b_X3_readFact_160 (j_X3_readFact_X3_readTest qr 3 n) n qr 3 (sI w1)) → lv_has ls 5 [(0, .ref (ad 3)), (1, .int 0), (2, .int v160_2), (3, .int v160_3)] → W p l e ({ frames := 28, cells := 0, slots := 0, locals := 681 }) s m (List.toArray [.ref (ad 3), .int 0]) below meth c H locs 0 0 (MQ below (va_Qv (Pz_X3_readFact_1 ad cy B qr s1  w0) (fun u : va_W => wpost dC dI cy A u) A) (List.toArray [.ref (ad 3), .int 0]) s 0 0 A) (F0 m 160 ls []) := by
    intro v160_2 v160_3 H locs ls w1 r2 t3 r4 t5 hw hT hF hM hl
    exact tk_vret hC hr hlocks hK ⟨hT, hF, hM.ret rfl, trivial⟩ hw dX3_readFact_160
  have J77 : ∀ (v77_2 : Int32) (v77_3 : Int32) (H : Heap) (locs : List Loc) (ls : Array Slot) (w6 : va_W), 0 ≤ v77_2.toInt → v77_2.toInt ≤ 1 → 0 ≤ v77_3.toInt → v77_3.toInt ≤ 1 → Wd dC dI A s.heap H locs w6 → TW ksC ad cy B qr s1 w6 → FE ksC [(2, 3, 3), (3, 2, 2), (6, 1, 1), (6, 3, 3), (6, 4, 4), (22, 0, 13), (23, 0, 400)] w0 w6 → gi w6 1 4 = 0 → TT (fun n => m_X3_readFact n qr 3 0 (sI w0)) (fun n => b_X3_readFact_77 (j_X3_readFact_X3_readTest qr 3 n) n qr 3 (0 : Int) (v77_2.toInt) (sI w6)) → lv_has ls 5 [(0, .ref (ad 3)), (1, .int 0), (2, .int v77_2), (3, .int v77_3)] → W p l e ({ frames := 28, cells := 0, slots := 0, locals := 681 }) s m (List.toArray [.ref (ad 3), .int 0]) below meth c H locs 0 0 (MQ below (va_Qv (Pz_X3_readFact_1 ad cy B qr s1  w0) (fun u : va_W => wpost dC dI cy A u) A) (List.toArray [.ref (ad 3), .int 0]) s 0 0 A) (F0 m 77 ls []) := by
    intro v77_2 v77_3 H locs ls w6 r7 t8 r9 t10 hw hT hF c11 hM hl
    refine lv_iload_n hx hb dX3_readFact_77 rfl (lv_at hl 1 rfl) ?_
    refine lv_bipush (v := 10) hx hb dX3_readFact_78 (by decide) ?_
    refine lv_icmp_lt (tgt := 101) hx hb dX3_readFact_80 (by decide) (fun _ => ?_) (fun c => absurd (by decide) c)
    replace hM := hM.pos (by decide)
    refine lv_iload_n hx hb dX3_readFact_101 rfl (lv_at hl 2 rfl) ?_
    refine lv_if_eq (tgt := 124) hx hb dX3_readFact_102 (by decide) (fun c12 => ?_) (fun c12 => ?_)
    · have c12 : v77_2.toInt = (0 : Int) := wk_eq.mp c12
      replace hM := hM.pos c12
      refine lv_aload_n hx hb dX3_readFact_124 rfl (lv_at hl 0 rfl) ?_
      refine lv_iload_n hx hb dX3_readFact_125 rfl (lv_at hl 1 rfl) ?_
      refine lv_iconst (v := 1) hx hb dX3_readFact_126 (by decide) ?_
      refine lv_iadd hx hb dX3_readFact_127 ?_
      refine wk_top 1 (by decide) ?_
      replace hM := hM.lt (v := 1) (by decide)
      refine tk_Vv hC hK hw hT hA hE hSR kC_at3 (by decide) rfl (kz_X3_readTest_2 l adK adV dC dI cy ad B hB0 (Int.le_trans hB1 (by decide)) qr s1 hqr   w6 H.size hT c11) (cwV 1 hC.2.2.2.2 uV_RX3_63 rfl rfl rfl (by decide +kernel) ⟨Nat.le_of_ble_eq_true rfl, Nat.le_of_ble_eq_true rfl⟩) rfl hl.1 rfl (Nat.le_of_ble_eq_true rfl) dX3_readFact_128 (fun w15 H locs hp14 hw => ?_)
      obtain ⟨hT, k16, hv18, hg17⟩ := hp14
      have hF := hF.tr k16 (by decide)
      clear hg17
      replace hM := hM.call hv18 rfl
      refine lv_aload_n hx hb dX3_readFact_131 rfl (lv_at hl 0 rfl) ?_
      refine tk_getA hC hK hw hT hinX3 kC_at3 (by decide) rfl 0 (by decide) (List.mem_cons_of_mem _ uw_3_12) rfl rfl dX3_readFact_132 ?_
      refine tk_Vi hC hK hw hT hA hE hSR kC_at1 (by decide) rfl (kz_X6_isFaulty_1 l adK adV dC dI cy ad B hB0 (Int.le_trans hB1 (by decide)) qr s1    w15 H.size hT ) (cwV 0 hC.2.2.2.2 uV_RX3_54 rfl rfl rfl (by decide +kernel) ⟨Nat.le_of_ble_eq_true rfl, Nat.le_of_ble_eq_true rfl⟩) rfl hl.1 rfl (Nat.le_of_ble_eq_true rfl) dX3_readFact_135 (fun r19 w21 H locs hp20 hw => ?_)
      obtain ⟨hT, k22, hv28, hg27⟩ := hp20
      have hF := hF.tr k22 (by decide)
      rcases hg27 with ⟨rfl, ⟨x23, c24, rx23, tx23⟩⟩ | ⟨rfl, ⟨x25, c26, rx25, tx25⟩⟩
      · replace hM := hM.call (r' := 0) hv28 (by decide)
        refine lv_if_ne (tgt := 160) hx hb dX3_readFact_138 (by decide) (fun c => absurd (by decide) c) (fun _ => ?_)
        replace hM := hM.neg (by decide)
        refine lv_aload_n hx hb dX3_readFact_141 rfl (lv_at hl 0 rfl) ?_
        refine tk_getA hC hK hw hT hinX3 kC_at3 (by decide) rfl 0 (by decide) (List.mem_cons_of_mem _ uw_3_12) rfl rfl dX3_readFact_142 ?_
        refine lv_bipush (v := 93) hx hb dX3_readFact_145 (by decide) ?_
        refine tk_Vi hC hK hw hT hA hE hSR kC_at1 (by decide) rfl (kz_X6_takeByte_3 l adK adV dC dI cy ad B hB0 (Int.le_trans hB1 (by decide)) qr s1    w21 H.size hT ) (cwV 1 hC.2.2.2.2 uV_RX3_84 rfl rfl rfl (by decide +kernel) ⟨Nat.le_of_ble_eq_true rfl, Nat.le_of_ble_eq_true rfl⟩) rfl hl.1 rfl (Nat.le_of_ble_eq_true rfl) dX3_readFact_147 (fun r29 w31 H locs hp30 hw => ?_)
        obtain ⟨hT, k32, hv38, hg37⟩ := hp30
        have hF := hF.tr k32 (by decide)
        have c39 := k32.gi kC_at1 (by decide) c24
        rcases hg37 with rfl | ⟨rfl, ⟨x33, c34, rx33, tx33⟩, ⟨x35, c36, rx35, tx35⟩⟩
        · replace hM := hM.call (r' := 0) hv38 (by decide)
          refine lv_if_ne (tgt := 160) hx hb dX3_readFact_150 (by decide) (fun c => absurd (by decide) c) (fun _ => ?_)
          replace hM := hM.neg (by decide)
          refine lv_aload_n hx hb dX3_readFact_153 rfl (lv_at hl 0 rfl) ?_
          refine tk_getA hC hK hw hT hinX3 kC_at3 (by decide) rfl 0 (by decide) (List.mem_cons_of_mem _ uw_3_12) rfl rfl dX3_readFact_154 ?_
          refine tk_Vv hC hK hw hT hA hE hSR kC_at1 (by decide) rfl (kz_X6_blameHere_1 l adK adV dC dI cy ad B hB0 (Int.le_trans hB1 (by decide)) qr s1    w31 H.size hT (c39.trans (wk_eq.mpr (show x23.toInt = 0 by first | exact Int.le_antisymm (by omega) (by omega) | omega)))) (cwV 0 hC.2.2.2.2 uV_RX3_95 rfl rfl rfl (by decide +kernel) ⟨Nat.le_of_ble_eq_true rfl, Nat.le_of_ble_eq_true rfl⟩) rfl hl.1 rfl (Nat.le_of_ble_eq_true rfl) dX3_readFact_157 (fun w42 H locs hp41 hw => ?_)
          obtain ⟨hT, k43, hv47, hg46⟩ := hp41
          have hF := hF.tr k43 (by decide)
          obtain ⟨x44, c45, rx44, tx44⟩ := hg46
          replace hM := hM.call hv47 rfl
          exact J160 v77_2 v77_3 H locs ls w42 (show 0 ≤ v77_2.toInt from r7) (show v77_2.toInt ≤ 1 from t8) (show 0 ≤ v77_3.toInt from r9) (show v77_3.toInt ≤ 1 from t10)  hw hT hF hM (lv_sub hl [0, 1, 2, 3] rfl)
        · replace hM := hM.call (r' := 1) hv38 (by decide)
          refine lv_if_ne (tgt := 160) hx hb dX3_readFact_150 (by decide) (fun _ => ?_) (fun c => absurd c (by decide))
          replace hM := hM.pos (by decide)
          exact J160 v77_2 v77_3 H locs ls w31 (show 0 ≤ v77_2.toInt from r7) (show v77_2.toInt ≤ 1 from t8) (show 0 ≤ v77_3.toInt from r9) (show v77_3.toInt ≤ 1 from t10)  hw hT hF hM (lv_sub hl [0, 1, 2, 3] rfl)
      · replace hM := hM.call (r' := 1) hv28 (by decide)
        refine lv_if_ne (tgt := 160) hx hb dX3_readFact_138 (by decide) (fun _ => ?_) (fun c => absurd c (by decide))
        replace hM := hM.pos (by decide)
        exact J160 v77_2 v77_3 H locs ls w21 (show 0 ≤ v77_2.toInt from r7) (show v77_2.toInt ≤ 1 from t8) (show 0 ≤ v77_3.toInt from r9) (show v77_3.toInt ≤ 1 from t10)  hw hT hF hM (lv_sub hl [0, 1, 2, 3] rfl)
    · have c12 : ¬ v77_2.toInt = (0 : Int) := wk_eqF c12
      replace hM := hM.neg c12
      refine lv_aload_n hx hb dX3_readFact_105 rfl (lv_at hl 0 rfl) ?_
      refine lv_iload_n hx hb dX3_readFact_106 rfl (lv_at hl 1 rfl) ?_
      refine lv_iconst (v := 1) hx hb dX3_readFact_107 (by decide) ?_
      refine lv_iadd hx hb dX3_readFact_108 ?_
      refine wk_top 1 (by decide) ?_
      replace hM := hM.lt (v := 1) (by decide)
      refine tk_Vv hC hK hw hT hA hE hSR kC_at3 (by decide) rfl (kz_X3_readFact_2 l adK adV dC dI cy ad B hB0 (Int.le_trans hB1 (by decide)) qr s1 hqr   w6 H.size hT c11) (cwV 1 hC.2.2.2.2 uV_RX3_69 rfl rfl rfl (by decide +kernel) ⟨Nat.le_of_ble_eq_true rfl, Nat.le_of_ble_eq_true rfl⟩) rfl hl.1 rfl (Nat.le_of_ble_eq_true rfl) dX3_readFact_109 (fun w50 H locs hp49 hw => ?_)
      obtain ⟨hT, k51, hv53, hg52⟩ := hp49
      have hF := hF.tr k51 (by decide)
      clear hg52
      replace hM := hM.call hv53 rfl
      refine lv_aload_n hx hb dX3_readFact_112 rfl (lv_at hl 0 rfl) ?_
      refine tk_getQ hC hK hw hT hqr (by decide) hinX3 kC_at3 (by decide) rfl 1 (by decide) (List.mem_cons_of_mem _ uw_26_17) rfl rfl dX3_readFact_113 ?_
      refine lv_bipush (v := 19) hx hb dX3_readFact_116 (by decide) ?_
      refine tk_Vv hC hK hw hT hA hE hSR hqr (by decide) rfl (kz_X2_addToken_1 l adK adV dC dI cy ad B hB0 (Int.le_trans hB1 (by decide)) qr s1   qr hqr 19 w50 H.size hT ) (cwV 1 hC.2.2.2.2 uV_RX3_74 rfl rfl rfl (by decide +kernel) ⟨Nat.le_of_ble_eq_true rfl, Nat.le_of_ble_eq_true rfl⟩) rfl hl.1 rfl (Nat.le_of_ble_eq_true rfl) dX3_readFact_118 (fun w56 H locs hp55 hw => ?_)
      obtain ⟨hT, k57, hv61, hg60⟩ := hp55
      try simp only [show (19 : Int32).toInt = 19 by decide] at hv61
      have hF := hF.tr k57 (by decide)
      obtain ⟨x58, c59, rx58, tx58⟩ := hg60
      replace hM := hM.call hv61 rfl
      refine lv_goto (tgt := 160) hx hb dX3_readFact_121 (by decide) ?_
      exact J160 v77_2 v77_3 H locs ls w56 (show 0 ≤ v77_2.toInt from r7) (show v77_2.toInt ≤ 1 from t8) (show 0 ≤ v77_3.toInt from r9) (show v77_3.toInt ≤ 1 from t10)  hw hT hF hM (lv_sub hl [0, 1, 2, 3] rfl)
  have J41 : ∀ (v41_2 : Int32) (H : Heap) (locs : List Loc) (ls : Array Slot) (w62 : va_W), 0 ≤ v41_2.toInt → v41_2.toInt ≤ 1 → Wd dC dI A s.heap H locs w62 → TW ksC ad cy B qr s1 w62 → FE ksC [(2, 3, 3), (3, 2, 2), (6, 1, 1), (6, 3, 3), (6, 4, 4), (22, 0, 13), (23, 0, 400)] w0 w62 → gi w62 1 4 = 0 → TT (fun n => m_X3_readFact n qr 3 0 (sI w0)) (fun n => b_X3_readFact_41 (j_X3_readFact_X3_readTest qr 3 n) n qr 3 (0 : Int) (v41_2.toInt) (sI w62)) → lv_has ls 5 [(0, .ref (ad 3)), (1, .int 0), (2, .int v41_2)] → W p l e ({ frames := 28, cells := 0, slots := 0, locals := 681 }) s m (List.toArray [.ref (ad 3), .int 0]) below meth c H locs 0 0 (MQ below (va_Qv (Pz_X3_readFact_1 ad cy B qr s1  w0) (fun u : va_W => wpost dC dI cy A u) A) (List.toArray [.ref (ad 3), .int 0]) s 0 0 A) (F0 m 41 ls []) := by
    intro v41_2 H locs ls w62 r63 t64 hw hT hF c65 hM hl
    refine lv_iconst (v := 0) hx hb dX3_readFact_41 (by decide) ?_
    refine lv_istore_n (lv' := [(3, .int 0), (0, .ref (ad 3)), (1, .int 0), (2, .int v41_2)]) hx hb dX3_readFact_42 rfl hl (by decide) rfl (fun ls hl => ?_)
    refine lv_iload_n hx hb dX3_readFact_43 rfl (lv_at hl 3 rfl) ?_
    refine lv_if_ne (tgt := 77) hx hb dX3_readFact_44 (by decide) (fun c66 => ?_) (fun c66 => ?_)
    · have c66 : ¬ v41_2.toInt = (0 : Int) := wk_eqF c66
      replace hM := hM.pos c66
      exact J77 v41_2 0 H locs ls w62 (show 0 ≤ v41_2.toInt from r63) (show v41_2.toInt ≤ 1 from t64) (by decide) (by decide)  hw hT hF c65 hM (lv_sub hl [1, 2, 3, 0] rfl)
    · have c66 : v41_2.toInt = (0 : Int) := wk_eq.mp c66
      replace hM := hM.neg (fun q => q c66)
      refine lv_iload_n hx hb dX3_readFact_47 rfl (lv_at hl 0 rfl) ?_
      refine lv_if_ne (tgt := 77) hx hb dX3_readFact_48 (by decide) (fun c => absurd (by decide) c) (fun _ => ?_)
      replace hM := hM.neg (by decide)
      refine lv_aload_n hx hb dX3_readFact_51 rfl (lv_at hl 1 rfl) ?_
      refine tk_Vv hC hK hw hT hA hE hSR kC_at3 (by decide) rfl (kz_X3_readSum_1 l adK adV dC dI cy ad B hB0 (Int.le_trans hB1 (by decide)) qr s1 hqr   w62 H.size hT c65) (cwV 0 hC.2.2.2.2 uV_RX3_88 rfl rfl rfl (by decide +kernel) ⟨Nat.le_of_ble_eq_true rfl, Nat.le_of_ble_eq_true rfl⟩) rfl hl.1 rfl (Nat.le_of_ble_eq_true rfl) dX3_readFact_52 (fun w69 H locs hp68 hw => ?_)
      obtain ⟨hT, k70, hv72, hg71⟩ := hp68
      have hF := hF.tr k70 (by decide)
      clear hg71
      replace hM := hM.call hv72 rfl
      refine lv_aload_n hx hb dX3_readFact_55 rfl (lv_at hl 1 rfl) ?_
      refine tk_Vi hC hK hw hT hA hE hSR kC_at3 (by decide) rfl (kz_X3_readSign_1 l adK adV dC dI cy ad B hB0 (Int.le_trans hB1 (by decide)) qr s1    w69 H.size hT ) (cwV 0 hC.2.2.2.2 uV_RX3_91 rfl rfl rfl (by decide +kernel) ⟨Nat.le_of_ble_eq_true rfl, Nat.le_of_ble_eq_true rfl⟩) rfl hl.1 rfl (Nat.le_of_ble_eq_true rfl) dX3_readFact_56 (fun r73 w75 H locs hp74 hw => ?_)
      obtain ⟨hT, k76, hv88, hg87⟩ := hp74
      have hF := hF.tr k76 (by decide)
      rcases hg87 with ⟨rfl, ⟨x77, c78, rx77, tx77⟩⟩ | ⟨g79, g80, ⟨x81, c82, rx81, tx81⟩, ⟨x83, c84, rx83, tx83⟩, ⟨x85, c86, rx85, tx85⟩⟩
      · replace hM := hM.call (r' := 16) hv88 (by decide)
        refine lv_istore (lv' := [(4, .int 16), (3, .int 0), (0, .ref (ad 3)), (1, .int 0), (2, .int v41_2)]) hx hb dX3_readFact_59 hl (by decide) rfl (fun ls hl => ?_)
        refine lv_aload_n hx hb dX3_readFact_61 rfl (lv_at hl 2 rfl) ?_
        refine tk_Vv hC hK hw hT hA hE hSR kC_at3 (by decide) rfl (kz_X3_readSum_2 l adK adV dC dI cy ad B hB0 (Int.le_trans hB1 (by decide)) qr s1 hqr   w75 H.size hT x77 c78 (show 1 ≤ x77.toInt by first | with_reducible assumption | omega) (show x77.toInt ≤ 3205 by first | with_reducible assumption | omega)) (cwV 0 hC.2.2.2.2 uV_RX3_88 rfl rfl rfl (by decide +kernel) ⟨Nat.le_of_ble_eq_true rfl, Nat.le_of_ble_eq_true rfl⟩) rfl hl.1 rfl (Nat.le_of_ble_eq_true rfl) dX3_readFact_62 (fun w91 H locs hp90 hw => ?_)
        obtain ⟨hT, k92, hv96, hg95⟩ := hp90
        have hF := hF.tr k92 (by decide)
        have c97 := k92.gi kC_at1 (by decide) c78
        obtain ⟨x93, c94, rx93, tx93⟩ := hg95
        replace hM := hM.call hv96 rfl
        have ex93 : x93.toInt = x77.toInt := by rw [← c97.symm.trans c94]
        refine lv_aload_n hx hb dX3_readFact_65 rfl (lv_at hl 2 rfl) ?_
        refine tk_getQ hC hK hw hT hqr (by decide) hinX3 kC_at3 (by decide) rfl 1 (by decide) (List.mem_cons_of_mem _ uw_26_17) rfl rfl dX3_readFact_66 ?_
        refine lv_iload hx hb dX3_readFact_69 (lv_at hl 0 rfl) ?_
        refine tk_Vv hC hK hw hT hA hE hSR hqr (by decide) rfl (kz_X2_addToken_1 l adK adV dC dI cy ad B hB0 (Int.le_trans hB1 (by decide)) qr s1   qr hqr 16 w91 H.size hT ) (cwV 1 hC.2.2.2.2 uV_RX3_74 rfl rfl rfl (by decide +kernel) ⟨Nat.le_of_ble_eq_true rfl, Nat.le_of_ble_eq_true rfl⟩) rfl hl.1 rfl (Nat.le_of_ble_eq_true rfl) dX3_readFact_71 (fun w100 H locs hp99 hw => ?_)
        obtain ⟨hT, k101, hv105, hg104⟩ := hp99
        try simp only [show (16 : Int32).toInt = 16 by decide] at hv105
        have hF := hF.tr k101 (by decide)
        have c106 := k101.gi kC_at1 (by decide) c97
        obtain ⟨x102, c103, rx102, tx102⟩ := hg104
        replace hM := hM.call hv105 rfl
        refine lv_goto (tgt := 160) hx hb dX3_readFact_74 (by decide) ?_
        exact J160 v41_2 0 H locs ls w100 (show 0 ≤ v41_2.toInt from r63) (show v41_2.toInt ≤ 1 from t64) (by decide) (by decide)  hw hT hF hM (lv_sub hl [2, 3, 4, 1] rfl)
      · replace hM := hM.call hv88 rfl
        refine lv_istore (lv' := [(4, .int r73), (3, .int 0), (0, .ref (ad 3)), (1, .int 0), (2, .int v41_2)]) hx hb dX3_readFact_59 hl (by decide) rfl (fun ls hl => ?_)
        refine lv_aload_n hx hb dX3_readFact_61 rfl (lv_at hl 2 rfl) ?_
        refine tk_Vv hC hK hw hT hA hE hSR kC_at3 (by decide) rfl (kz_X3_readSum_3 l adK adV dC dI cy ad B hB0 (Int.le_trans hB1 (by decide)) qr s1 hqr   w75 H.size hT ) (cwV 0 hC.2.2.2.2 uV_RX3_88 rfl rfl rfl (by decide +kernel) ⟨Nat.le_of_ble_eq_true rfl, Nat.le_of_ble_eq_true rfl⟩) rfl hl.1 rfl (Nat.le_of_ble_eq_true rfl) dX3_readFact_62 (fun w109 H locs hp108 hw => ?_)
        obtain ⟨hT, k110, hv112, hg111⟩ := hp108
        have hF := hF.tr k110 (by decide)
        have c113 := k110.gi kC_at1 (by decide) c82
        clear hg111
        replace hM := hM.call hv112 rfl
        refine lv_aload_n hx hb dX3_readFact_65 rfl (lv_at hl 2 rfl) ?_
        refine tk_getQ hC hK hw hT hqr (by decide) hinX3 kC_at3 (by decide) rfl 1 (by decide) (List.mem_cons_of_mem _ uw_26_17) rfl rfl dX3_readFact_66 ?_
        refine lv_iload hx hb dX3_readFact_69 (lv_at hl 0 rfl) ?_
        refine tk_Vv hC hK hw hT hA hE hSR hqr (by decide) rfl (kz_X2_addToken_1 l adK adV dC dI cy ad B hB0 (Int.le_trans hB1 (by decide)) qr s1   qr hqr r73 w109 H.size hT ) (cwV 1 hC.2.2.2.2 uV_RX3_74 rfl rfl rfl (by decide +kernel) ⟨Nat.le_of_ble_eq_true rfl, Nat.le_of_ble_eq_true rfl⟩) rfl hl.1 rfl (Nat.le_of_ble_eq_true rfl) dX3_readFact_71 (fun w116 H locs hp115 hw => ?_)
        obtain ⟨hT, k117, hv121, hg120⟩ := hp115
        have hF := hF.tr k117 (by decide)
        have c122 := k117.gi kC_at1 (by decide) c113
        obtain ⟨x118, c119, rx118, tx118⟩ := hg120
        replace hM := hM.call hv121 rfl
        refine lv_goto (tgt := 160) hx hb dX3_readFact_74 (by decide) ?_
        exact J160 v41_2 0 H locs ls w116 (show 0 ≤ v41_2.toInt from r63) (show v41_2.toInt ≤ 1 from t64) (by decide) (by decide)  hw hT hF hM (lv_sub hl [2, 3, 4, 1] rfl)
  have hM : TT (fun n => m_X3_readFact n qr 3 0 (sI w0)) (fun n => j_X3_readFact_X3_readTest qr 3 n 1000 [0] (sI w0)) := TT.rf
  replace hM := hM.suc (fun _ => e_X3_readFact_e)
  refine lv_aload_n hx hb dX3_readFact_0 rfl (lv_at hl 0 rfl) ?_
  refine tk_getA hC hK hw hT hinX3 kC_at3 (by decide) rfl 0 (by decide) (List.mem_cons_of_mem _ uw_3_12) rfl rfl dX3_readFact_1 ?_
  refine tk_Vi hC hK hw hT hA hE hSR kC_at1 (by decide) rfl (kz_X6_isFaulty_2 l adK adV dC dI cy ad B hB0 (Int.le_trans hB1 (by decide)) qr s1    w0 s.heap.size hT cf0_) (cwV 0 hC.2.2.2.2 uV_RX3_54 rfl rfl rfl (by decide +kernel) ⟨Nat.le_of_ble_eq_true rfl, Nat.le_of_ble_eq_true rfl⟩) rfl hl.1 rfl (Nat.le_of_ble_eq_true rfl) dX3_readFact_4 (fun r123 w125 H locs hp124 hw => ?_)
  obtain ⟨hT, k126, hv130, hg129⟩ := hp124
  have hF := hF.tr k126 (by decide)
  have c131 := k126.gi kC_at1 (by decide) cf0_
  obtain ⟨rfl, ⟨x127, c128, rx127, tx127⟩⟩ := hg129
  replace hM := hM.call (r' := 0) hv130 (by decide)
  have ex127 : x127.toInt = (0 : Int) := by rw [show x127 = 0 from c128.symm.trans c131]; decide
  refine lv_if_eq (tgt := 11) hx hb dX3_readFact_7 (by decide) (fun _ => ?_) (fun c => absurd (by decide) c)
  replace hM := hM.pos (by decide)
  refine lv_aload_n hx hb dX3_readFact_11 rfl (lv_at hl 0 rfl) ?_
  refine tk_getA hC hK hw hT hinX3 kC_at3 (by decide) rfl 0 (by decide) (List.mem_cons_of_mem _ uw_3_12) rfl rfl dX3_readFact_12 ?_
  refine va_ldcS hx hb hC.2.2.2.1 hSR.2.2.2.2.1 dX3_readFact_15 ?_
  refine tk_Vi hC hK hw hT hA hE hSR kC_at1 (by decide) rfl (kz_X6_takeWord_4 l adK adV dC dI cy ad B hB0 (Int.le_trans hB1 (by decide)) qr s1    w125 H.size hT ) (cwV 1 hC.2.2.2.2 uV_RX3_59 rfl rfl rfl (by decide +kernel) ⟨Nat.le_of_ble_eq_true rfl, Nat.le_of_ble_eq_true rfl⟩) rfl hl.1 rfl (Nat.le_of_ble_eq_true rfl) dX3_readFact_17 (fun r132 w134 H locs hp133 hw => ?_)
  obtain ⟨hT, k135, hv139, hg138⟩ := hp133
  have hF := hF.tr k135 (by decide)
  have c140 := k135.gi kC_at1 (by decide) c131
  rcases hg138 with rfl | ⟨rfl, ⟨x136, c137, rx136, tx136⟩⟩
  · replace hM := hM.call (r' := 0) hv139 (by decide)
    refine lv_istore_n (lv' := [(2, .int 0), (0, .ref (ad 3)), (1, .int 0)]) hx hb dX3_readFact_20 rfl hl (by decide) rfl (fun ls hl => ?_)
    refine lv_iload_n hx hb dX3_readFact_21 rfl (lv_at hl 0 rfl) ?_
    refine lv_if_ne (tgt := 41) hx hb dX3_readFact_22 (by decide) (fun c => absurd (by decide) c) (fun _ => ?_)
    replace hM := hM.neg (by decide)
    refine lv_aload_n hx hb dX3_readFact_25 rfl (lv_at hl 1 rfl) ?_
    refine tk_getA hC hK hw hT hinX3 kC_at3 (by decide) rfl 0 (by decide) (List.mem_cons_of_mem _ uw_3_12) rfl rfl dX3_readFact_26 ?_
    refine lv_bipush (v := 91) hx hb dX3_readFact_29 (by decide) ?_
    refine tk_Vi hC hK hw hT hA hE hSR kC_at1 (by decide) rfl (kz_X6_takeByte_2 l adK adV dC dI cy ad B hB0 (Int.le_trans hB1 (by decide)) qr s1    w134 H.size hT ) (cwV 1 hC.2.2.2.2 uV_RX3_84 rfl rfl rfl (by decide +kernel) ⟨Nat.le_of_ble_eq_true rfl, Nat.le_of_ble_eq_true rfl⟩) rfl hl.1 rfl (Nat.le_of_ble_eq_true rfl) dX3_readFact_31 (fun r141 w143 H locs hp142 hw => ?_)
    obtain ⟨hT, k144, hv150, hg149⟩ := hp142
    have hF := hF.tr k144 (by decide)
    have c151 := k144.gi kC_at1 (by decide) c140
    rcases hg149 with rfl | ⟨rfl, ⟨x145, c146, rx145, tx145⟩, ⟨x147, c148, rx147, tx147⟩⟩
    · replace hM := hM.call (r' := 0) hv150 (by decide)
      refine lv_if_eq (tgt := 41) hx hb dX3_readFact_34 (by decide) (fun _ => ?_) (fun c => absurd (by decide) c)
      replace hM := hM.pos (by decide)
      exact J41 0 H locs ls w143 (by decide) (by decide)  hw hT hF c151 hM (lv_sub hl [1, 2, 0] rfl)
    · replace hM := hM.call (r' := 1) hv150 (by decide)
      refine lv_if_eq (tgt := 41) hx hb dX3_readFact_34 (by decide) (fun c => absurd c (by decide)) (fun _ => ?_)
      replace hM := hM.neg (by decide)
      refine lv_iconst (v := 1) hx hb dX3_readFact_37 (by decide) ?_
      refine lv_goto (tgt := 42) hx hb dX3_readFact_38 (by decide) ?_
      refine lv_istore_n (lv' := [(3, .int 1), (2, .int 0), (0, .ref (ad 3)), (1, .int 0)]) hx hb dX3_readFact_42 rfl hl (by decide) rfl (fun ls hl => ?_)
      refine lv_iload_n hx hb dX3_readFact_43 rfl (lv_at hl 1 rfl) ?_
      refine lv_if_ne (tgt := 77) hx hb dX3_readFact_44 (by decide) (fun c => absurd (by decide) c) (fun _ => ?_)
      replace hM := hM.neg (by decide)
      refine lv_iload_n hx hb dX3_readFact_47 rfl (lv_at hl 0 rfl) ?_
      refine lv_if_ne (tgt := 77) hx hb dX3_readFact_48 (by decide) (fun _ => ?_) (fun c => absurd c (by decide))
      replace hM := hM.pos (by decide)
      exact J77 0 1 H locs ls w143 (by decide) (by decide) (by decide) (by decide)  hw hT hF c151 hM (lv_sub hl [2, 3, 1, 0] rfl)
  · replace hM := hM.call (r' := 1) hv139 (by decide)
    refine lv_istore_n (lv' := [(2, .int 1), (0, .ref (ad 3)), (1, .int 0)]) hx hb dX3_readFact_20 rfl hl (by decide) rfl (fun ls hl => ?_)
    refine lv_iload_n hx hb dX3_readFact_21 rfl (lv_at hl 0 rfl) ?_
    refine lv_if_ne (tgt := 41) hx hb dX3_readFact_22 (by decide) (fun _ => ?_) (fun c => absurd c (by decide))
    replace hM := hM.pos (by decide)
    exact J41 1 H locs ls w134 (by decide) (by decide)  hw hT hF c140 hM (lv_sub hl [1, 2, 0] rfl)
abbrev Pz_X3_readTest_1 (ad : Nat → Nat) (cy : Nat → ClassId) (B : Int) (qr : Nat) (s1 : Int)  (w0 : va_W) : va_W → Prop := fun u => TW ksC ad cy B qr s1 u ∧ FE ksC [(2, 3, 3), (3, 2, 2), (6, 1, 1), (6, 3, 3), (6, 4, 4), (22, 0, 13), (23, 0, 400)] w0 u ∧ Ev (fun n => m_X3_readTest n qr 3 0 (sI w0)) (0, sI u) ∧ ((True))
set_option maxHeartbeats 4000000 in
set_option maxRecDepth 100000 in
theorem kz_X3_readTest_1 (l : Launch) (adK adV : Nat → Nat) (dC : Nat → ClassId) (dI : Nat → Nat → Nat) (cy : Nat → ClassId) (ad : Nat → Nat) (B : Int) (hB0 : 2147483648 ≤ B) (hB1 : B ≤ 1152921504606846976) (qr : Nat) (s1 : Int) (hqr : ksC[qr]? = some 2)  (w0 : va_W) (sz : Nat) (hT : TW ksC ad cy B qr s1 w0) (cf0_ : gi w0 1 4 = 0) : Met l yX3_readTest (wu yX3_readTest cX3_readTest 4 none) ({ frames := 29, cells := 0, slots := 0, locals := 705 }) (va_Pc [.ref (ad 3), .int 0] (wpreS adK adV dC dI cy sz w0)) (va_Qv (Pz_X3_readTest_1 ad cy B qr s1  w0) (fun u : va_W => wpost dC dI cy (va_A w0 sz) u) (va_A w0 sz)) 0 0 (va_A w0 sz) := by
  refine Met.ofW (cc := cX3_readTest) (maxL := 4) (ret := none) (by decide) rfl ?_
  intro p e s m args below meth c s₁ Bk hml hv
  obtain ⟨rfl, ⟨hsz, hP, hK, hD0⟩, hE, hSR⟩ := hv
  have hx := Bk.exec
  have hb := Bk.bytes
  have hr := Bk.returns
  have hlocks := Bk.notSynchronized
  have hC : CallFix p m c cX3_readTest 4 s _ (wu yX3_readTest cX3_readTest 4 none) RX3 := ⟨hx, hb, hml, findClass_of_methodNamed Bk.named, atoms_spec (ws := (wu yX3_readTest cX3_readTest 4 none)) Bk.pre⟩
  subst hsz
  have hD := hD0.self (sz := s.heap.size)
  generalize hAe : va_A w0 s.heap.size = A at hD hE ⊢
  have hA : ∀ q : Nat, s.heap.size ≤ q → A q := fun q h => by rw [← hAe]; exact Or.inr h
  have hw : Wd dC dI A s.heap s.heap [] w0 := ⟨hP, hD, va_S.rf⟩
  have hF : FE ksC [(2, 3, 3), (3, 2, 2), (6, 1, 1), (6, 3, 3), (6, 4, 4), (22, 0, 13), (23, 0, 400)] w0 w0 := FE.rf
  have hl := lv_entry ([.ref (ad 3), .int 0]) (n := 4) (Nat.le_of_ble_eq_true rfl)
  rw [lg_entry_eq]
  generalize (lg_sl ([.ref (ad 3), .int 0]) ++ List.replicate (4 - (lg_sl ([.ref (ad 3), .int 0])).length) Slot.unset).toArray = ls at hl ⊢
  have hl : lv_has ls 4 [(0, .ref (ad 3)), (1, .int 0)] := hl
  generalize hloc : ([] : List Loc) = locs at hw ⊢
  have hinX3 : ∀ w ∈ u_ws RX3 TX3 3, w ∈ (wu yX3_readTest cX3_readTest 4 none) := fun _ h => List.mem_cons_of_mem _ (up_75 h)
  have J86 : ∀ (v86_2 : Int32) (v86_3 : Int32) (H : Heap) (locs : List Loc) (ls : Array Slot) (w1 : va_W), (-1) ≤ v86_2.toInt → v86_2.toInt ≤ 21 → 0 ≤ v86_3.toInt → v86_3.toInt ≤ 400 → Wd dC dI A s.heap H locs w1 → TW ksC ad cy B qr s1 w1 → FE ksC [(2, 3, 3), (3, 2, 2), (6, 1, 1), (6, 3, 3), (6, 4, 4), (22, 0, 13), (23, 0, 400)] w0 w1 → TT (fun n => m_X3_readTest n qr 3 0 (sI w0)) (fun n => b_X3_readTest_86 (j_X3_readFact_X3_readTest qr 3 n) n qr 3 (v86_2.toInt) (sI w1)) → lv_has ls 4 [(0, .ref (ad 3)), (1, .int 0), (2, .int v86_2), (3, .int v86_3)] → W p l e ({ frames := 29, cells := 0, slots := 0, locals := 705 }) s m (List.toArray [.ref (ad 3), .int 0]) below meth c H locs 0 0 (MQ below (va_Qv (Pz_X3_readTest_1 ad cy B qr s1  w0) (fun u : va_W => wpost dC dI cy A u) A) (List.toArray [.ref (ad 3), .int 0]) s 0 0 A) (F0 m 86 ls []) := by
    intro v86_2 v86_3 H locs ls w1 r2 t3 r4 t5 hw hT hF hM hl
    refine lv_aload_n hx hb dX3_readTest_86 rfl (lv_at hl 0 rfl) ?_
    refine lv_iload_n hx hb dX3_readTest_87 rfl (lv_at hl 2 rfl) ?_
    refine tk_Vv hC hK hw hT hA hE hSR kC_at3 (by decide) rfl (kz_X3_addWaiting_1 l adK adV dC dI cy ad B hB0 (Int.le_trans hB1 (by decide)) qr s1 hqr  v86_2 w1 H.size hT ) (cwV 1 hC.2.2.2.2 uV_RX3_79 rfl rfl rfl (by decide +kernel) ⟨Nat.le_of_ble_eq_true rfl, Nat.le_of_ble_eq_true rfl⟩) rfl hl.1 rfl (Nat.le_of_ble_eq_true rfl) dX3_readTest_88 (fun w8 H locs hp7 hw => ?_)
    obtain ⟨hT, k9, hv11, hg10⟩ := hp7
    have hF := hF.tr k9 (by decide)
    clear hg10
    replace hM := hM.call hv11 rfl
    exact tk_vret hC hr hlocks hK ⟨hT, hF, hM.ret rfl, trivial⟩ hw dX3_readTest_91
  have L9 : ∀ (n9 : Nat) (v9_2 : Int32) (v9_3 : Int32) (H : Heap) (locs : List Loc) (ls : Array Slot) (w12 : va_W), (-1) ≤ v9_2.toInt → v9_2.toInt ≤ 21 → 0 ≤ v9_3.toInt → v9_3.toInt ≤ 400 → (400 - v9_3.toInt).toNat < n9 → Wd dC dI A s.heap H locs w12 → TW ksC ad cy B qr s1 w12 → FE ksC [(2, 3, 3), (3, 2, 2), (6, 1, 1), (6, 3, 3), (6, 4, 4), (22, 0, 13), (23, 0, 400)] w0 w12 → TT (fun n => m_X3_readTest n qr 3 0 (sI w0)) (fun n => j_X3_readFact_X3_readTest qr 3 n 2009 [(0 : Int), v9_2.toInt, v9_3.toInt] (sI w12)) → lv_has ls 4 [(0, .ref (ad 3)), (1, .int 0), (2, .int v9_2), (3, .int v9_3)] → W p l e ({ frames := 29, cells := 0, slots := 0, locals := 705 }) s m (List.toArray [.ref (ad 3), .int 0]) below meth c H locs 0 0 (MQ below (va_Qv (Pz_X3_readTest_1 ad cy B qr s1  w0) (fun u : va_W => wpost dC dI cy A u) A) (List.toArray [.ref (ad 3), .int 0]) s 0 0 A) (F0 m 9 ls []) := by
    intro n9
    induction n9 with
    | zero => intro v9_2 v9_3 H locs ls w12 r13 t14 r15 t16 hm9 hw hT hF hM hl; omega
    | succ n9 ih9 =>
      intro v9_2 v9_3 H locs ls w12 r13 t14 r15 t16 hm9 hw hT hF hM hl
      have J80 : ∀ (v80_2 : Int32) (H : Heap) (locs : List Loc) (ls : Array Slot) (w17 : va_W), (-1) ≤ v80_2.toInt → v80_2.toInt ≤ 21 → 0 ≤ v9_3.toInt → v9_3.toInt ≤ 399 → Wd dC dI A s.heap H locs w17 → TW ksC ad cy B qr s1 w17 → FE ksC [(2, 3, 3), (3, 2, 2), (6, 1, 1), (6, 3, 3), (6, 4, 4), (22, 0, 13), (23, 0, 400)] w0 w17 → TT (fun n => m_X3_readTest n qr 3 0 (sI w0)) (fun n => b_X3_readTest_80 (j_X3_readFact_X3_readTest qr 3 n) n qr 3 (0 : Int) (v80_2.toInt) (v9_3.toInt) (sI w17)) → lv_has ls 4 [(0, .ref (ad 3)), (1, .int 0), (2, .int v80_2), (3, .int v9_3)] → W p l e ({ frames := 29, cells := 0, slots := 0, locals := 705 }) s m (List.toArray [.ref (ad 3), .int 0]) below meth c H locs 0 0 (MQ below (va_Qv (Pz_X3_readTest_1 ad cy B qr s1  w0) (fun u : va_W => wpost dC dI cy A u) A) (List.toArray [.ref (ad 3), .int 0]) s 0 0 A) (F0 m 80 ls []) := by
        intro v80_2 H locs ls w17 r18 t19 r20 t21 hw hT hF hM hl
        obtain ⟨x22, ex22⟩ : ∃ y : Int32, y = v9_3 + Int32.ofInt 1 := ⟨_, rfl⟩
        have erx22 := ex22
        refine lv_iinc (v := x22) (lv' := [(3, .int x22), (0, .ref (ad 3)), (1, .int 0), (2, .int v80_2)]) hx hb dX3_readTest_80 hl (k := 3) rfl ex22.symm (by decide) rfl (fun ls hl => ?_)
        have ex22 : x22.toInt = v9_3.toInt + 1 := by rw [ex22]; exact wk_add (y := 1) (show -2147483648 ≤ v9_3.toInt + 1 by omega) (show v9_3.toInt + 1 ≤ 2147483647 by omega)
        replace hM := hM.lt ex22.symm
        refine lv_goto (tgt := 9) hx hb dX3_readTest_83 (by decide) ?_
        exact ih9 v80_2 x22 H locs ls w17 (show (-1) ≤ v80_2.toInt from r18) (show v80_2.toInt ≤ 21 from t19) (show 0 ≤ x22.toInt by first | with_reducible assumption | omega) (show x22.toInt ≤ 400 by first | with_reducible assumption | omega) (show (400 - x22.toInt).toNat < n9 by first | exact tn_lt hm9 (by omega) (by omega) | omega) hw hT hF hM (lv_sub hl [1, 2, 3, 0] rfl)
      replace hM := hM.suc (fun _ => e_X3_readTest_9)
      refine lv_iload_n hx hb dX3_readTest_9 rfl (lv_at hl 3 rfl) ?_
      refine lv_sipush (v := 400) hx hb dX3_readTest_10 (by decide) ?_
      refine lv_icmp_ge (tgt := 86) hx hb dX3_readTest_13 (by decide) (fun c23 => ?_) (fun c23 => ?_)
      · have c23 : (400 : Int) ≤ v9_3.toInt := wk_le.mp c23
        replace hM := hM.pos c23
        exact J86 v9_2 v9_3 H locs ls w12 (show (-1) ≤ v9_2.toInt from r13) (show v9_2.toInt ≤ 21 from t14) (show 0 ≤ v9_3.toInt from r15) (show v9_3.toInt ≤ 400 from t16)  hw hT hF hM (lv_sub hl [0, 1, 2, 3] rfl)
      · have c23 : v9_3.toInt < (400 : Int) := wk_leF c23
        replace hM := hM.neg (Int.not_le.mpr c23)
        refine lv_aload_n hx hb dX3_readTest_16 rfl (lv_at hl 0 rfl) ?_
        refine tk_getA hC hK hw hT hinX3 kC_at3 (by decide) rfl 0 (by decide) (List.mem_cons_of_mem _ uw_3_12) rfl rfl dX3_readTest_17 ?_
        refine tk_Vi hC hK hw hT hA hE hSR kC_at1 (by decide) rfl (kz_X6_isFaulty_1 l adK adV dC dI cy ad B hB0 (Int.le_trans hB1 (by decide)) qr s1    w12 H.size hT ) (cwV 0 hC.2.2.2.2 uV_RX3_54 rfl rfl rfl (by decide +kernel) ⟨Nat.le_of_ble_eq_true rfl, Nat.le_of_ble_eq_true rfl⟩) rfl hl.1 rfl (Nat.le_of_ble_eq_true rfl) dX3_readTest_20 (fun r24 w26 H locs hp25 hw => ?_)
        obtain ⟨hT, k27, hv33, hg32⟩ := hp25
        have hF := hF.tr k27 (by decide)
        rcases hg32 with ⟨rfl, ⟨x28, c29, rx28, tx28⟩⟩ | ⟨rfl, ⟨x30, c31, rx30, tx30⟩⟩
        · replace hM := hM.call (r' := 0) hv33 (by decide)
          refine lv_if_ne (tgt := 86) hx hb dX3_readTest_23 (by decide) (fun c => absurd (by decide) c) (fun _ => ?_)
          replace hM := hM.neg (by decide)
          refine lv_aload_n hx hb dX3_readTest_26 rfl (lv_at hl 0 rfl) ?_
          refine tk_getA hC hK hw hT hinX3 kC_at3 (by decide) rfl 0 (by decide) (List.mem_cons_of_mem _ uw_3_12) rfl rfl dX3_readTest_27 ?_
          refine va_ldcS hx hb hC.2.2.2.1 hSR.2.2.2.2.2.2.1 dX3_readTest_30 ?_
          refine tk_Vi hC hK hw hT hA hE hSR kC_at1 (by decide) rfl (kz_X6_takeWord_2 l adK adV dC dI cy ad B hB0 (Int.le_trans hB1 (by decide)) qr s1    w26 H.size hT ) (cwV 1 hC.2.2.2.2 uV_RX3_59 rfl rfl rfl (by decide +kernel) ⟨Nat.le_of_ble_eq_true rfl, Nat.le_of_ble_eq_true rfl⟩) rfl hl.1 rfl (Nat.le_of_ble_eq_true rfl) dX3_readTest_32 (fun r34 w36 H locs hp35 hw => ?_)
          obtain ⟨hT, k37, hv41, hg40⟩ := hp35
          have hF := hF.tr k37 (by decide)
          have c42 := k37.gi kC_at1 (by decide) c29
          rcases hg40 with rfl | ⟨rfl, ⟨x38, c39, rx38, tx38⟩⟩
          · replace hM := hM.call (r' := 0) hv41 (by decide)
            refine lv_if_eq (tgt := 55) hx hb dX3_readTest_35 (by decide) (fun _ => ?_) (fun c => absurd (by decide) c)
            replace hM := hM.pos (by decide)
            refine lv_aload_n hx hb dX3_readTest_55 rfl (lv_at hl 0 rfl) ?_
            refine tk_getA hC hK hw hT hinX3 kC_at3 (by decide) rfl 0 (by decide) (List.mem_cons_of_mem _ uw_3_12) rfl rfl dX3_readTest_56 ?_
            refine va_ldcS hx hb hC.2.2.2.1 hSR.2.2.2.2.2.2.2 dX3_readTest_59 ?_
            refine tk_Vi hC hK hw hT hA hE hSR kC_at1 (by decide) rfl (kz_X6_takeWord_3 l adK adV dC dI cy ad B hB0 (Int.le_trans hB1 (by decide)) qr s1    w36 H.size hT ) (cwV 1 hC.2.2.2.2 uV_RX3_59 rfl rfl rfl (by decide +kernel) ⟨Nat.le_of_ble_eq_true rfl, Nat.le_of_ble_eq_true rfl⟩) rfl hl.1 rfl (Nat.le_of_ble_eq_true rfl) dX3_readTest_61 (fun r43 w45 H locs hp44 hw => ?_)
            obtain ⟨hT, k46, hv50, hg49⟩ := hp44
            have hF := hF.tr k46 (by decide)
            have c51 := k46.gi kC_at1 (by decide) c42
            rcases hg49 with rfl | ⟨rfl, ⟨x47, c48, rx47, tx47⟩⟩
            · replace hM := hM.call (r' := 0) hv50 (by decide)
              refine lv_if_eq (tgt := 86) hx hb dX3_readTest_64 (by decide) (fun _ => ?_) (fun c => absurd (by decide) c)
              replace hM := hM.pos (by decide)
              exact J86 v9_2 v9_3 H locs ls w45 (show (-1) ≤ v9_2.toInt from r13) (show v9_2.toInt ≤ 21 from t14) (show 0 ≤ v9_3.toInt from r15) (show v9_3.toInt ≤ 400 from t16)  hw hT hF hM (lv_sub hl [0, 1, 2, 3] rfl)
            · replace hM := hM.call (r' := 1) hv50 (by decide)
              refine lv_if_eq (tgt := 86) hx hb dX3_readTest_64 (by decide) (fun c => absurd c (by decide)) (fun _ => ?_)
              replace hM := hM.neg (by decide)
              refine lv_aload_n hx hb dX3_readTest_67 rfl (lv_at hl 0 rfl) ?_
              refine lv_iload_n hx hb dX3_readTest_68 rfl (lv_at hl 2 rfl) ?_
              refine tk_Vv hC hK hw hT hA hE hSR kC_at3 (by decide) rfl (kz_X3_addWaiting_1 l adK adV dC dI cy ad B hB0 (Int.le_trans hB1 (by decide)) qr s1 hqr  v9_2 w45 H.size hT ) (cwV 1 hC.2.2.2.2 uV_RX3_79 rfl rfl rfl (by decide +kernel) ⟨Nat.le_of_ble_eq_true rfl, Nat.le_of_ble_eq_true rfl⟩) rfl hl.1 rfl (Nat.le_of_ble_eq_true rfl) dX3_readTest_69 (fun w54 H locs hp53 hw => ?_)
              obtain ⟨hT, k55, hv57, hg56⟩ := hp53
              have hF := hF.tr k55 (by decide)
              have c58 := k55.gi kC_at1 (by decide) c51
              have c59 := k55.gi kC_at1 (by decide) c48
              clear hg56
              replace hM := hM.call hv57 rfl
              refine lv_bipush (v := 21) hx hb dX3_readTest_72 (by decide) ?_
              refine lv_istore_n (lv' := [(2, .int 21), (0, .ref (ad 3)), (1, .int 0), (3, .int v9_3)]) hx hb dX3_readTest_74 rfl hl (by decide) rfl (fun ls hl => ?_)
              refine lv_aload_n hx hb dX3_readTest_75 rfl (lv_at hl 1 rfl) ?_
              refine lv_iload_n hx hb dX3_readTest_76 rfl (lv_at hl 2 rfl) ?_
              refine tk_Vv hC hK hw hT hA hE hSR kC_at3 (by decide) rfl (kz_X3_readFact_1 l adK adV dC dI cy ad B hB0 (Int.le_trans hB1 (by decide)) qr s1 hqr   w54 H.size hT (c58.trans (wk_eq.mpr (show x28.toInt = 0 by first | exact Int.le_antisymm (by omega) (by omega) | omega)))) (cwV 1 hC.2.2.2.2 uV_RX3_69 rfl rfl rfl (by decide +kernel) ⟨Nat.le_of_ble_eq_true rfl, Nat.le_of_ble_eq_true rfl⟩) rfl hl.1 rfl (Nat.le_of_ble_eq_true rfl) dX3_readTest_77 (fun w62 H locs hp61 hw => ?_)
              obtain ⟨hT, k63, hv65, hg64⟩ := hp61
              have hF := hF.tr k63 (by decide)
              clear hg64
              replace hM := hM.call hv65 rfl
              exact J80 21 H locs ls w62 (by decide) (by decide) (show 0 ≤ v9_3.toInt from r15) (show v9_3.toInt ≤ 399 by first | with_reducible assumption | omega)  hw hT hF hM (lv_sub hl [1, 2, 0, 3] rfl)
          · replace hM := hM.call (r' := 1) hv41 (by decide)
            refine lv_if_eq (tgt := 55) hx hb dX3_readTest_35 (by decide) (fun c => absurd c (by decide)) (fun _ => ?_)
            replace hM := hM.neg (by decide)
            refine lv_aload_n hx hb dX3_readTest_38 rfl (lv_at hl 0 rfl) ?_
            refine lv_iload_n hx hb dX3_readTest_39 rfl (lv_at hl 1 rfl) ?_
            refine tk_Vv hC hK hw hT hA hE hSR kC_at3 (by decide) rfl (kz_X3_readFact_1 l adK adV dC dI cy ad B hB0 (Int.le_trans hB1 (by decide)) qr s1 hqr   w36 H.size hT (c42.trans (wk_eq.mpr (show x28.toInt = 0 by first | exact Int.le_antisymm (by omega) (by omega) | omega)))) (cwV 1 hC.2.2.2.2 uV_RX3_69 rfl rfl rfl (by decide +kernel) ⟨Nat.le_of_ble_eq_true rfl, Nat.le_of_ble_eq_true rfl⟩) rfl hl.1 rfl (Nat.le_of_ble_eq_true rfl) dX3_readTest_40 (fun w68 H locs hp67 hw => ?_)
            obtain ⟨hT, k69, hv71, hg70⟩ := hp67
            have hF := hF.tr k69 (by decide)
            clear hg70
            replace hM := hM.call hv71 rfl
            refine lv_aload_n hx hb dX3_readTest_43 rfl (lv_at hl 0 rfl) ?_
            refine tk_getQ hC hK hw hT hqr (by decide) hinX3 kC_at3 (by decide) rfl 1 (by decide) (List.mem_cons_of_mem _ uw_26_17) rfl rfl dX3_readTest_44 ?_
            refine lv_bipush (v := 20) hx hb dX3_readTest_47 (by decide) ?_
            refine tk_Vv hC hK hw hT hA hE hSR hqr (by decide) rfl (kz_X2_addToken_1 l adK adV dC dI cy ad B hB0 (Int.le_trans hB1 (by decide)) qr s1   qr hqr 20 w68 H.size hT ) (cwV 1 hC.2.2.2.2 uV_RX3_74 rfl rfl rfl (by decide +kernel) ⟨Nat.le_of_ble_eq_true rfl, Nat.le_of_ble_eq_true rfl⟩) rfl hl.1 rfl (Nat.le_of_ble_eq_true rfl) dX3_readTest_49 (fun w74 H locs hp73 hw => ?_)
            obtain ⟨hT, k75, hv79, hg78⟩ := hp73
            try simp only [show (20 : Int32).toInt = 20 by decide] at hv79
            have hF := hF.tr k75 (by decide)
            obtain ⟨x76, c77, rx76, tx76⟩ := hg78
            replace hM := hM.call hv79 rfl
            refine lv_goto (tgt := 80) hx hb dX3_readTest_52 (by decide) ?_
            exact J80 v9_2 H locs ls w74 (show (-1) ≤ v9_2.toInt from r13) (show v9_2.toInt ≤ 21 from t14) (show 0 ≤ v9_3.toInt from r15) (show v9_3.toInt ≤ 399 by first | with_reducible assumption | omega)  hw hT hF hM (lv_sub hl [0, 1, 2, 3] rfl)
        · replace hM := hM.call (r' := 1) hv33 (by decide)
          refine lv_if_ne (tgt := 86) hx hb dX3_readTest_23 (by decide) (fun _ => ?_) (fun c => absurd c (by decide))
          replace hM := hM.pos (by decide)
          exact J86 v9_2 v9_3 H locs ls w26 (show (-1) ≤ v9_2.toInt from r13) (show v9_2.toInt ≤ 21 from t14) (show 0 ≤ v9_3.toInt from r15) (show v9_3.toInt ≤ 400 from t16)  hw hT hF hM (lv_sub hl [0, 1, 2, 3] rfl)
  have hM : TT (fun n => m_X3_readTest n qr 3 0 (sI w0)) (fun n => j_X3_readFact_X3_readTest qr 3 n 2000 [0] (sI w0)) := TT.rf
  replace hM := hM.suc (fun _ => e_X3_readTest_e)
  refine lv_aload_n hx hb dX3_readTest_0 rfl (lv_at hl 0 rfl) ?_
  refine lv_iload_n hx hb dX3_readTest_1 rfl (lv_at hl 1 rfl) ?_
  refine tk_Vv hC hK hw hT hA hE hSR kC_at3 (by decide) rfl (kz_X3_readFact_1 l adK adV dC dI cy ad B hB0 (Int.le_trans hB1 (by decide)) qr s1 hqr   w0 s.heap.size hT cf0_) (cwV 1 hC.2.2.2.2 uV_RX3_69 rfl rfl rfl (by decide +kernel) ⟨Nat.le_of_ble_eq_true rfl, Nat.le_of_ble_eq_true rfl⟩) rfl hl.1 rfl (Nat.le_of_ble_eq_true rfl) dX3_readTest_2 (fun w82 H locs hp81 hw => ?_)
  obtain ⟨hT, k83, hv85, hg84⟩ := hp81
  have hF := hF.tr k83 (by decide)
  clear hg84
  replace hM := hM.call hv85 rfl
  refine lv_iconst (v := (-1)) hx hb dX3_readTest_5 (by decide) ?_
  refine lv_istore_n (lv' := [(2, .int (-1)), (0, .ref (ad 3)), (1, .int 0)]) hx hb dX3_readTest_6 rfl hl (by decide) rfl (fun ls hl => ?_)
  refine lv_iconst (v := 0) hx hb dX3_readTest_7 (by decide) ?_
  refine lv_istore_n (lv' := [(3, .int 0), (2, .int (-1)), (0, .ref (ad 3)), (1, .int 0)]) hx hb dX3_readTest_8 rfl hl (by decide) rfl (fun ls hl => ?_)
  exact L9 ((400 - (0 : Int)).toNat + 1) (-1) 0 H locs ls w82 (by decide) (by decide) (by decide) (by decide) (Nat.lt_succ_self _) hw hT hF hM (lv_sub hl [2, 3, 1, 0] rfl)
abbrev Pz_X6_readWord_3 (ad : Nat → Nat) (cy : Nat → ClassId) (B : Int) (qr : Nat) (s1 : Int)  (w0 : va_W) : Int32 → va_W → Prop := fun r u => TW ksC ad cy B qr s1 u ∧ FE ksC [(6, 1, 1), (6, 3, 3), (6, 4, 4)] w0 u ∧ Ev (fun n => m_X6_readWord n 1 2 (sI w0)) (r.toInt, sI u) ∧ ((0 ≤ r.toInt ∧ r.toInt ≤ 18) ∨ (r = (-1) ∧ (∃ y : Int32, gi u 1 4 = y ∧ 1 ≤ y.toInt ∧ y.toInt ≤ 3205)))
set_option maxHeartbeats 4000000 in
set_option maxRecDepth 100000 in
theorem kz_X6_readWord_3 (l : Launch) (adK adV : Nat → Nat) (dC : Nat → ClassId) (dI : Nat → Nat → Nat) (cy : Nat → ClassId) (ad : Nat → Nat) (B : Int) (hB0 : 2147483648 ≤ B) (hB1 : B ≤ 1152921504606846976) (qr : Nat) (s1 : Int)   (w0 : va_W) (sz : Nat) (hT : TW ksC ad cy B qr s1 w0)  : Met l yX6_readWord (wu yX6_readWord cX6_readWord 8 (some .int)) ({ frames := 5, cells := 0, slots := 0, locals := 141 }) (va_Pc [.ref (ad 1), .ref (adK 2)] (wpreS adK adV dC dI cy sz w0)) (va_Qi (Pz_X6_readWord_3 ad cy B qr s1  w0) (fun u : va_W => wpost dC dI cy (va_A w0 sz) u) (va_A w0 sz)) 0 0 (va_A w0 sz) := by
  refine Met.ofW (cc := cX6_readWord) (maxL := 8) (ret := (some .int)) (by decide) rfl ?_
  intro p e s m args below meth c s₁ Bk hml hv
  obtain ⟨rfl, ⟨hsz, hP, hK, hD0⟩, hE, hSR⟩ := hv
  have hx := Bk.exec
  have hb := Bk.bytes
  have hr := Bk.returns
  have hlocks := Bk.notSynchronized
  have hC : CallFix p m c cX6_readWord 8 s _ (wu yX6_readWord cX6_readWord 8 (some .int)) RX6 := ⟨hx, hb, hml, findClass_of_methodNamed Bk.named, atoms_spec (ws := (wu yX6_readWord cX6_readWord 8 (some .int))) Bk.pre⟩
  subst hsz
  have hD := hD0.self (sz := s.heap.size)
  generalize hAe : va_A w0 s.heap.size = A at hD hE ⊢
  have hA : ∀ q : Nat, s.heap.size ≤ q → A q := fun q h => by rw [← hAe]; exact Or.inr h
  have hw : Wd dC dI A s.heap s.heap [] w0 := ⟨hP, hD, va_S.rf⟩
  have hF : FE ksC [(6, 1, 1), (6, 3, 3), (6, 4, 4)] w0 w0 := FE.rf
  have hl := lv_entry ([.ref (ad 1), .ref (adK 2)]) (n := 8) (Nat.le_of_ble_eq_true rfl)
  rw [lg_entry_eq]
  generalize (lg_sl ([.ref (ad 1), .ref (adK 2)]) ++ List.replicate (8 - (lg_sl ([.ref (ad 1), .ref (adK 2)])).length) Slot.unset).toArray = ls at hl ⊢
  have hl : lv_has ls 8 [(0, .ref (ad 1)), (1, .ref (adK 2))] := hl
  generalize hloc : ([] : List Loc) = locs at hw ⊢
  have hinX6 : ∀ w ∈ u_ws RX6 TX6 5, w ∈ (wu yX6_readWord cX6_readWord 8 (some .int)) := fun _ h => List.mem_cons_of_mem _ (up_72 h)
  have L24 : ∀ (n24 : Nat) (v24_2 : Int32) (v24_3 : Int32) (v24_4 : Int32) (v24_5 : Int32) (v24_6 : Int32) (f24_1_1 : Int32) (H : Heap) (locs : List Loc) (ls : Array Slot) (w1 : va_W), 0 ≤ v24_2.toInt → v24_2.toInt ≤ 400 → 0 ≤ v24_3.toInt → v24_3.toInt ≤ 18 → 0 ≤ v24_4.toInt → v24_4.toInt ≤ 418 → 0 ≤ v24_5.toInt → v24_5.toInt ≤ 1 → 0 ≤ v24_6.toInt → v24_6.toInt ≤ 18 → 0 ≤ f24_1_1.toInt → f24_1_1.toInt ≤ 400 → v24_4.toInt ≤ v24_6.toInt + 400 → v24_3.toInt ≤ v24_6.toInt + 0 → (18 - v24_6.toInt).toNat < n24 → Wd dC dI A s.heap H locs w1 → TW ksC ad cy B qr s1 w1 → FE ksC [(6, 1, 1), (6, 3, 3), (6, 4, 4)] w0 w1 → gi w1 1 1 = f24_1_1 → TT (fun n => m_X6_readWord n 1 2 (sI w0)) (fun n => j_X6_readWord 1 2 n 24 [v24_2.toInt, v24_3.toInt, v24_4.toInt, v24_5.toInt, v24_6.toInt] (sI w1)) → lv_has ls 8 [(0, .ref (ad 1)), (1, .ref (adK 2)), (2, .int v24_2), (3, .int v24_3), (4, .int v24_4), (5, .int v24_5), (6, .int v24_6)] → W p l e ({ frames := 5, cells := 0, slots := 0, locals := 141 }) s m (List.toArray [.ref (ad 1), .ref (adK 2)]) below meth c H locs 0 0 (MQ below (va_Qi (Pz_X6_readWord_3 ad cy B qr s1  w0) (fun u : va_W => wpost dC dI cy A u) A) (List.toArray [.ref (ad 1), .ref (adK 2)]) s 0 0 A) (F0 m 24 ls []) := by
    intro n24
    induction n24 with
    | zero => intro v24_2 v24_3 v24_4 v24_5 v24_6 f24_1_1 H locs ls w1 r2 t3 r4 t5 r6 t7 r8 t9 r10 t11 r12 t13 i15 i16 hm24 hw hT hF c14 hM hl; omega
    | succ n24 ih24 =>
      intro v24_2 v24_3 v24_4 v24_5 v24_6 f24_1_1 H locs ls w1 r2 t3 r4 t5 r6 t7 r8 t9 r10 t11 r12 t13 i15 i16 hm24 hw hT hF c14 hM hl
      have J114 : ∀ (v114_3 : Int32) (v114_4 : Int32) (v114_5 : Int32) (v114_7 : Int32) (H : Heap) (locs : List Loc) (ls : Array Slot) (w17 : va_W), 0 ≤ v24_2.toInt → v24_2.toInt ≤ 400 → 0 ≤ v114_3.toInt → v114_3.toInt ≤ 18 → 0 ≤ v114_4.toInt → v114_4.toInt ≤ 418 → 0 ≤ v114_5.toInt → v114_5.toInt ≤ 1 → 0 ≤ v24_6.toInt → v24_6.toInt ≤ 17 → 0 ≤ f24_1_1.toInt → f24_1_1.toInt ≤ 400 → v114_4.toInt ≤ v24_6.toInt + 401 → v114_3.toInt ≤ v24_6.toInt + 1 → Wd dC dI A s.heap H locs w17 → TW ksC ad cy B qr s1 w17 → FE ksC [(6, 1, 1), (6, 3, 3), (6, 4, 4)] w0 w17 → gi w17 1 1 = f24_1_1 → TT (fun n => m_X6_readWord n 1 2 (sI w0)) (fun n => b_X6_readWord_114 (j_X6_readWord 1 2 n) n 1 2 (v24_2.toInt) (v114_3.toInt) (v114_4.toInt) (v114_5.toInt) (v24_6.toInt) (sI w17)) → lv_has ls 8 [(0, .ref (ad 1)), (1, .ref (adK 2)), (2, .int v24_2), (3, .int v114_3), (4, .int v114_4), (5, .int v114_5), (6, .int v24_6), (7, .int v114_7)] → W p l e ({ frames := 5, cells := 0, slots := 0, locals := 141 }) s m (List.toArray [.ref (ad 1), .ref (adK 2)]) below meth c H locs 0 0 (MQ below (va_Qi (Pz_X6_readWord_3 ad cy B qr s1  w0) (fun u : va_W => wpost dC dI cy A u) A) (List.toArray [.ref (ad 1), .ref (adK 2)]) s 0 0 A) (F0 m 114 ls []) := by
        intro v114_3 v114_4 v114_5 v114_7 H locs ls w17 r18 t19 r20 t21 r22 t23 r24 t25 r26 t27 r28 t29 i31 i32 hw hT hF c30 hM hl
        obtain ⟨x33, ex33⟩ : ∃ y : Int32, y = v24_6 + Int32.ofInt 1 := ⟨_, rfl⟩
        have erx33 := ex33
        refine lv_iinc (v := x33) (lv' := [(6, .int x33), (0, .ref (ad 1)), (1, .ref (adK 2)), (2, .int v24_2), (3, .int v114_3), (4, .int v114_4), (5, .int v114_5), (7, .int v114_7)]) hx hb dX6_readWord_114 hl (k := 6) rfl ex33.symm (by decide) rfl (fun ls hl => ?_)
        have ex33 : x33.toInt = v24_6.toInt + 1 := by rw [ex33]; exact wk_add (y := 1) (show -2147483648 ≤ v24_6.toInt + 1 by omega) (show v24_6.toInt + 1 ≤ 2147483647 by omega)
        replace hM := hM.lt ex33.symm
        refine lv_goto (tgt := 24) hx hb dX6_readWord_117 (by decide) ?_
        exact ih24 v24_2 v114_3 v114_4 v114_5 x33 f24_1_1 H locs ls w17 (show 0 ≤ v24_2.toInt from r18) (show v24_2.toInt ≤ 400 from t19) (show 0 ≤ v114_3.toInt from r20) (show v114_3.toInt ≤ 18 from t21) (show 0 ≤ v114_4.toInt from r22) (show v114_4.toInt ≤ 418 from t23) (show 0 ≤ v114_5.toInt from r24) (show v114_5.toInt ≤ 1 from t25) (show 0 ≤ x33.toInt by first | with_reducible assumption | omega) (show x33.toInt ≤ 18 by first | with_reducible assumption | omega) (show 0 ≤ f24_1_1.toInt from r28) (show f24_1_1.toInt ≤ 400 from t29) (show v114_4.toInt ≤ x33.toInt + 400 by omega) (show v114_3.toInt ≤ x33.toInt + 0 by omega) (show (18 - x33.toInt).toNat < n24 by first | exact tn_lt hm24 (by omega) (by omega) | omega) hw hT hF c30 hM (lv_sub hl [1, 2, 3, 4, 5, 6, 0] rfl)
      have J75 : ∀ (v75_7 : Int32) (H : Heap) (locs : List Loc) (ls : Array Slot) (w34 : va_W), 0 ≤ v24_2.toInt → v24_2.toInt ≤ 400 → 0 ≤ v24_3.toInt → v24_3.toInt ≤ 18 → 0 ≤ v24_4.toInt → v24_4.toInt ≤ 418 → 0 ≤ v24_5.toInt → v24_5.toInt ≤ 1 → 0 ≤ v24_6.toInt → v24_6.toInt ≤ 17 → 0 ≤ f24_1_1.toInt → f24_1_1.toInt ≤ 400 → v24_4.toInt ≤ v24_6.toInt + 401 → v24_3.toInt ≤ v24_6.toInt + 1 → Wd dC dI A s.heap H locs w34 → TW ksC ad cy B qr s1 w34 → FE ksC [(6, 1, 1), (6, 3, 3), (6, 4, 4)] w0 w34 → gi w34 1 1 = f24_1_1 → TT (fun n => m_X6_readWord n 1 2 (sI w0)) (fun n => b_X6_readWord_75 (j_X6_readWord 1 2 n) n 1 2 (v24_2.toInt) (v24_3.toInt) (v24_4.toInt) (v24_6.toInt) (sI w34)) → lv_has ls 8 [(0, .ref (ad 1)), (1, .ref (adK 2)), (2, .int v24_2), (3, .int v24_3), (4, .int v24_4), (5, .int v24_5), (6, .int v24_6), (7, .int v75_7)] → W p l e ({ frames := 5, cells := 0, slots := 0, locals := 141 }) s m (List.toArray [.ref (ad 1), .ref (adK 2)]) below meth c H locs 0 0 (MQ below (va_Qi (Pz_X6_readWord_3 ad cy B qr s1  w0) (fun u : va_W => wpost dC dI cy A u) A) (List.toArray [.ref (ad 1), .ref (adK 2)]) s 0 0 A) (F0 m 75 ls []) := by
        intro v75_7 H locs ls w34 r35 t36 r37 t38 r39 t40 r41 t42 r43 t44 r45 t46 i48 i49 hw hT hF c47 hM hl
        refine lv_iconst (v := 0) hx hb dX6_readWord_75 (by decide) ?_
        refine lv_istore (lv' := [(5, .int 0), (0, .ref (ad 1)), (1, .ref (adK 2)), (2, .int v24_2), (3, .int v24_3), (4, .int v24_4), (6, .int v24_6), (7, .int v75_7)]) hx hb dX6_readWord_76 hl (by decide) rfl (fun ls hl => ?_)
        obtain ⟨x50, ex50⟩ : ∃ y : Int32, y = v24_4 + Int32.ofInt 1 := ⟨_, rfl⟩
        have erx50 := ex50
        refine lv_iinc (v := x50) (lv' := [(4, .int x50), (5, .int 0), (0, .ref (ad 1)), (1, .ref (adK 2)), (2, .int v24_2), (3, .int v24_3), (6, .int v24_6), (7, .int v75_7)]) hx hb dX6_readWord_78 hl (k := 5) rfl ex50.symm (by decide) rfl (fun ls hl => ?_)
        have ex50 : x50.toInt = v24_4.toInt + 1 := by rw [ex50]; exact wk_add (y := 1) (show -2147483648 ≤ v24_4.toInt + 1 by omega) (show v24_4.toInt + 1 ≤ 2147483647 by omega)
        replace hM := hM.lt ex50.symm
        refine lv_goto (tgt := 114) hx hb dX6_readWord_81 (by decide) ?_
        exact J114 v24_3 x50 0 v75_7 H locs ls w34 (show 0 ≤ v24_2.toInt from r35) (show v24_2.toInt ≤ 400 from t36) (show 0 ≤ v24_3.toInt from r37) (show v24_3.toInt ≤ 18 from t38) (show 0 ≤ x50.toInt by first | with_reducible assumption | omega) (show x50.toInt ≤ 418 by first | with_reducible assumption | omega) (by decide) (by decide) (show 0 ≤ v24_6.toInt from r43) (show v24_6.toInt ≤ 17 from t44) (show 0 ≤ f24_1_1.toInt from r45) (show f24_1_1.toInt ≤ 400 from t46) (show x50.toInt ≤ v24_6.toInt + 401 by omega) (show v24_3.toInt ≤ v24_6.toInt + 1 from i49)  hw hT hF c47 hM (lv_sub hl [2, 3, 4, 5, 0, 1, 6, 7] rfl)
      have J102 : ∀ (H : Heap) (locs : List Loc) (ls : Array Slot) (w51 : va_W), 0 ≤ v24_2.toInt → v24_2.toInt ≤ 400 → 0 ≤ v24_3.toInt → v24_3.toInt ≤ 18 → 0 ≤ v24_4.toInt → v24_4.toInt ≤ 418 → 0 ≤ v24_5.toInt → v24_5.toInt ≤ 1 → 0 ≤ v24_6.toInt → v24_6.toInt ≤ 17 → 0 ≤ f24_1_1.toInt → f24_1_1.toInt ≤ 400 → v24_4.toInt ≤ v24_6.toInt + 401 → v24_3.toInt ≤ v24_6.toInt + 1 → Wd dC dI A s.heap H locs w51 → TW ksC ad cy B qr s1 w51 → FE ksC [(6, 1, 1), (6, 3, 3), (6, 4, 4)] w0 w51 → gi w51 1 1 = f24_1_1 → TT (fun n => m_X6_readWord n 1 2 (sI w0)) (fun n => b_X6_readWord_102 (j_X6_readWord 1 2 n) n 1 2 (v24_2.toInt) (v24_3.toInt) (v24_6.toInt) (sI w51)) → lv_has ls 8 [(0, .ref (ad 1)), (1, .ref (adK 2)), (2, .int v24_2), (3, .int v24_3), (4, .int v24_4), (5, .int v24_5), (6, .int v24_6), (7, .int 32)] → W p l e ({ frames := 5, cells := 0, slots := 0, locals := 141 }) s m (List.toArray [.ref (ad 1), .ref (adK 2)]) below meth c H locs 0 0 (MQ below (va_Qi (Pz_X6_readWord_3 ad cy B qr s1  w0) (fun u : va_W => wpost dC dI cy A u) A) (List.toArray [.ref (ad 1), .ref (adK 2)]) s 0 0 A) (F0 m 102 ls []) := by
        intro H locs ls w51 r52 t53 r54 t55 r56 t57 r58 t59 r60 t61 r62 t63 i65 i66 hw hT hF c64 hM hl
        obtain ⟨x67, ex67⟩ : ∃ y : Int32, y = v24_3 + Int32.ofInt 1 := ⟨_, rfl⟩
        have erx67 := ex67
        refine lv_iinc (v := x67) (lv' := [(3, .int x67), (0, .ref (ad 1)), (1, .ref (adK 2)), (2, .int v24_2), (4, .int v24_4), (5, .int v24_5), (6, .int v24_6), (7, .int 32)]) hx hb dX6_readWord_102 hl (k := 3) rfl ex67.symm (by decide) rfl (fun ls hl => ?_)
        have ex67 : x67.toInt = v24_3.toInt + 1 := by rw [ex67]; exact wk_add (y := 1) (show -2147483648 ≤ v24_3.toInt + 1 by omega) (show v24_3.toInt + 1 ≤ 2147483647 by omega)
        replace hM := hM.lt ex67.symm
        refine lv_aload_n hx hb dX6_readWord_105 rfl (lv_at hl 1 rfl) ?_
        refine tk_geti hC hK hw hT hinX6 kC_at1 (by decide) rfl 1 (by decide) (List.mem_cons_of_mem _ uw_9_16) rfl rfl dX6_readWord_106 (fun x68 c69 rx68 tx68 => ?_)
        refine wk_top f24_1_1 (c69.symm.trans c64) ?_
        replace hM := hM.rd (sI_at c64)
        refine lv_istore (lv' := [(4, .int f24_1_1), (3, .int x67), (0, .ref (ad 1)), (1, .ref (adK 2)), (2, .int v24_2), (5, .int v24_5), (6, .int v24_6), (7, .int 32)]) hx hb dX6_readWord_109 hl (by decide) rfl (fun ls hl => ?_)
        refine lv_iconst (v := 1) hx hb dX6_readWord_111 (by decide) ?_
        refine lv_istore (lv' := [(5, .int 1), (4, .int f24_1_1), (3, .int x67), (0, .ref (ad 1)), (1, .ref (adK 2)), (2, .int v24_2), (6, .int v24_6), (7, .int 32)]) hx hb dX6_readWord_112 hl (by decide) rfl (fun ls hl => ?_)
        exact J114 x67 f24_1_1 1 32 H locs ls w51 (show 0 ≤ v24_2.toInt from r52) (show v24_2.toInt ≤ 400 from t53) (show 0 ≤ x67.toInt by first | with_reducible assumption | omega) (show x67.toInt ≤ 18 by first | with_reducible assumption | omega) (show 0 ≤ f24_1_1.toInt from r62) (show f24_1_1.toInt ≤ 418 from Int.le_trans t63 (by decide)) (by decide) (by decide) (show 0 ≤ v24_6.toInt from r60) (show v24_6.toInt ≤ 17 from t61) (show 0 ≤ f24_1_1.toInt from r62) (show f24_1_1.toInt ≤ 400 from t63) (show f24_1_1.toInt ≤ v24_6.toInt + 401 by omega) (show x67.toInt ≤ v24_6.toInt + 1 by omega)  hw hT hF c64 hM (lv_sub hl [3, 4, 5, 2, 1, 0, 6, 7] rfl)
      replace hM := hM.suc (fun _ => e_X6_readWord_24)
      refine lv_iload hx hb dX6_readWord_24 (lv_at hl 6 rfl) ?_
      refine lv_aload_n hx hb dX6_readWord_26 rfl (lv_at hl 1 rfl) ?_
      refine tk_ViT hC hK hw hA hE hSR (s_length l adK adV dC dI cy 2 (by decide) H.size) (cwV 0 hC.2.2.2.2 uV_RX6_56 rfl rfl rfl (by decide +kernel) ⟨Nat.le_of_ble_eq_true rfl, Nat.le_of_ble_eq_true rfl⟩) 2 (by decide) rfl rfl rfl hl.1 rfl (Nat.le_of_ble_eq_true rfl) dX6_readWord_27 (fun r70 H locs hp71 hw => ?_)
      obtain ⟨-, hp71⟩ := hp71
      obtain rfl : r70 = 18 := hp71
      replace hM := hM.lt (v := 18) (by decide)
      refine lv_icmp_ge (tgt := 120) hx hb dX6_readWord_30 (by decide) (fun c72 => ?_) (fun c72 => ?_)
      · have c72 : (18 : Int) ≤ v24_6.toInt := wk_le.mp c72
        replace hM := hM.pos c72
        refine lv_aload_n hx hb dX6_readWord_120 rfl (lv_at hl 0 rfl) ?_
        refine lv_aload_n hx hb dX6_readWord_121 rfl (lv_at hl 0 rfl) ?_
        refine tk_geti hC hK hw hT hinX6 kC_at1 (by decide) rfl 3 (by decide) (List.mem_cons_of_mem _ uw_9_17) rfl rfl dX6_readWord_122 (fun x73 c74 rx73 tx73 => ?_)
        replace hM := hM.rd (sI_at c74)
        refine lv_iconst (v := 0) hx hb dX6_readWord_125 (by decide) ?_
        refine tk_Vv hC hK hw hT hA hE hSR kC_at1 (by decide) rfl (kz_X6_blame_1 l adK adV dC dI cy ad B hB0 (Int.le_trans hB1 (by decide)) qr s1   x73 (show 0 ≤ x73.toInt from rx73) (show x73.toInt ≤ 400 from tx73) 0 (by decide) (by decide) w1 H.size hT ) (cwV 2 hC.2.2.2.2 uV_RX6_35 rfl rfl rfl (by decide +kernel) ⟨Nat.le_of_ble_eq_true rfl, Nat.le_of_ble_eq_true rfl⟩) rfl hl.1 rfl (Nat.le_of_ble_eq_true rfl) dX6_readWord_126 (fun w77 H locs hp76 hw => ?_)
        obtain ⟨hT, k78, hv82, hg81⟩ := hp76
        try simp only [show (0 : Int32).toInt = 0 by decide] at hv82
        have hF := hF.tr k78 (by decide)
        have c83 := k78.gi kC_at1 (by decide) c14
        have c84 := k78.gi kC_at1 (by decide) c74
        obtain ⟨x79, c80, rx79, tx79⟩ := hg81
        replace hM := hM.call hv82 rfl
        refine lv_iconst (v := (-1)) hx hb dX6_readWord_129 (by decide) ?_
        exact tk_iret hC hr hlocks hK ⟨hT, hF, hM.ret (by decide), (Or.inr ⟨rfl, ⟨x79, c80, (show 1 ≤ x79.toInt by first | with_reducible assumption | omega), (show x79.toInt ≤ 3205 by first | with_reducible assumption | omega)⟩⟩)⟩ hw dX6_readWord_130
      · have c72 : v24_6.toInt < (18 : Int) := wk_leF c72
        replace hM := hM.neg (Int.not_le.mpr c72)
        refine lv_aload_n hx hb dX6_readWord_33 rfl (lv_at hl 1 rfl) ?_
        refine lv_iload hx hb dX6_readWord_34 (lv_at hl 6 rfl) ?_
        refine tk_ViT hC hK hw hA hE hSR (s_charAt l adK adV dC dI cy 2 (by decide) v24_6 (show 0 ≤ v24_6.toInt from r10) (show v24_6.toInt < 18 by first | with_reducible assumption | omega) H.size) (cwV 1 hC.2.2.2.2 uV_RX6_60 rfl rfl rfl (by decide +kernel) ⟨Nat.le_of_ble_eq_true rfl, Nat.le_of_ble_eq_true rfl⟩) 2 (by decide) rfl rfl rfl hl.1 rfl (Nat.le_of_ble_eq_true rfl) dX6_readWord_36 (fun r85 H locs hp86 hw => ?_)
        obtain ⟨-, hp86⟩ := hp86
        replace hM := hM.lt (chS_e hp86 rfl)
        refine lv_istore (lv' := [(7, .int r85), (0, .ref (ad 1)), (1, .ref (adK 2)), (2, .int v24_2), (3, .int v24_3), (4, .int v24_4), (5, .int v24_5), (6, .int v24_6)]) hx hb dX6_readWord_39 hl (by decide) rfl (fun ls hl => ?_)
        refine lv_iload hx hb dX6_readWord_41 (lv_at hl 0 rfl) ?_
        refine lv_bipush (v := 32) hx hb dX6_readWord_43 (by decide) ?_
        refine lv_icmp_eq (tgt := 84) hx hb dX6_readWord_45 (by decide) (fun c87 => ?_) (fun c87 => ?_)
        · have c87 : r85.toInt = (32 : Int) := wk_eq.mp c87
          replace hM := hM.pos c87
          refine lv_iload hx hb dX6_readWord_84 (lv_at hl 6 rfl) ?_
          refine lv_if_eq (tgt := 102) hx hb dX6_readWord_86 (by decide) (fun c88 => ?_) (fun c88 => ?_)
          · have c88 : v24_5.toInt = (0 : Int) := wk_eq.mp c88
            replace hM := hM.pos c88
            obtain rfl : r85 = 32 := wk_eq.mpr (show r85.toInt = 32 by first | exact Int.le_antisymm (by omega) (by omega) | omega)
            try simp only [show (32 : Int32).toInt = 32 by decide] at hM
            exact J102  H locs ls w1 (show 0 ≤ v24_2.toInt from r2) (show v24_2.toInt ≤ 400 from t3) (show 0 ≤ v24_3.toInt from r4) (show v24_3.toInt ≤ 18 from t5) (show 0 ≤ v24_4.toInt from r6) (show v24_4.toInt ≤ 418 from t7) (show 0 ≤ v24_5.toInt from r8) (show v24_5.toInt ≤ 1 from t9) (show 0 ≤ v24_6.toInt from r10) (show v24_6.toInt ≤ 17 by first | with_reducible assumption | omega) (show 0 ≤ f24_1_1.toInt from r12) (show f24_1_1.toInt ≤ 400 from t13) (show v24_4.toInt ≤ v24_6.toInt + 401 by omega) (show v24_3.toInt ≤ v24_6.toInt + 1 by omega)  hw hT hF c14 hM (lv_sub hl [1, 2, 3, 4, 5, 6, 7, 0] rfl)
          · have c88 : ¬ v24_5.toInt = (0 : Int) := wk_eqF c88
            replace hM := hM.neg c88
            refine lv_iload hx hb dX6_readWord_89 (lv_at hl 5 rfl) ?_
            refine lv_iload_n hx hb dX6_readWord_91 rfl (lv_at hl 3 rfl) ?_
            refine lv_icmp_ne (tgt := 102) hx hb dX6_readWord_92 (by decide) (fun c89 => ?_) (fun c89 => ?_)
            · have c89 : ¬ v24_4.toInt = v24_2.toInt := wk_eqF c89
              replace hM := hM.pos c89
              obtain rfl : r85 = 32 := wk_eq.mpr (show r85.toInt = 32 by first | exact Int.le_antisymm (by omega) (by omega) | omega)
              try simp only [show (32 : Int32).toInt = 32 by decide] at hM
              exact J102  H locs ls w1 (show 0 ≤ v24_2.toInt from r2) (show v24_2.toInt ≤ 400 from t3) (show 0 ≤ v24_3.toInt from r4) (show v24_3.toInt ≤ 18 from t5) (show 0 ≤ v24_4.toInt from r6) (show v24_4.toInt ≤ 418 from t7) (show 0 ≤ v24_5.toInt from r8) (show v24_5.toInt ≤ 1 from t9) (show 0 ≤ v24_6.toInt from r10) (show v24_6.toInt ≤ 17 by first | with_reducible assumption | omega) (show 0 ≤ f24_1_1.toInt from r12) (show f24_1_1.toInt ≤ 400 from t13) (show v24_4.toInt ≤ v24_6.toInt + 401 by omega) (show v24_3.toInt ≤ v24_6.toInt + 1 by omega)  hw hT hF c14 hM (lv_sub hl [1, 2, 3, 4, 5, 6, 7, 0] rfl)
            · have c89 : v24_4.toInt = v24_2.toInt := wk_eq.mp c89
              replace hM := hM.neg (fun q => q c89)
              refine lv_aload_n hx hb dX6_readWord_95 rfl (lv_at hl 1 rfl) ?_
              refine lv_iload_n hx hb dX6_readWord_96 rfl (lv_at hl 3 rfl) ?_
              refine tk_puti hC hK hw hT hinX6 tyX6_ok nmX6 kC_at1 (by decide) rfl rfl 1 (by decide) (List.mem_cons_of_mem _ uw_9_16) rfl rfl rfl rfl (show 0 ≤ v24_2.toInt from r2) (show v24_2.toInt ≤ 400 from t3) dX6_readWord_97 (fun H locs w90 hw hT k92 c91 => ?_)
              replace hM := hM.wr (sI_up k92 c91)
              have hF := hF.put kC_at1 (k := 1) (by decide) k92
              refine lv_iload_n hx hb dX6_readWord_100 rfl (lv_at hl 4 rfl) ?_
              exact tk_iret hC hr hlocks hK ⟨hT, hF, hM.ret rfl, (Or.inl ⟨(show 0 ≤ v24_3.toInt from r4), (show v24_3.toInt ≤ 18 from t5)⟩)⟩ hw dX6_readWord_101
        · have c87 : ¬ r85.toInt = (32 : Int) := wk_eqF c87
          replace hM := hM.neg c87
          refine lv_iload hx hb dX6_readWord_48 (lv_at hl 6 rfl) ?_
          refine lv_if_eq (tgt := 75) hx hb dX6_readWord_50 (by decide) (fun c93 => ?_) (fun c93 => ?_)
          · have c93 : v24_5.toInt = (0 : Int) := wk_eq.mp c93
            replace hM := hM.pos c93
            exact J75 r85 H locs ls w1 (show 0 ≤ v24_2.toInt from r2) (show v24_2.toInt ≤ 400 from t3) (show 0 ≤ v24_3.toInt from r4) (show v24_3.toInt ≤ 18 from t5) (show 0 ≤ v24_4.toInt from r6) (show v24_4.toInt ≤ 418 from t7) (show 0 ≤ v24_5.toInt from r8) (show v24_5.toInt ≤ 1 from t9) (show 0 ≤ v24_6.toInt from r10) (show v24_6.toInt ≤ 17 by first | with_reducible assumption | omega) (show 0 ≤ f24_1_1.toInt from r12) (show f24_1_1.toInt ≤ 400 from t13) (show v24_4.toInt ≤ v24_6.toInt + 401 by omega) (show v24_3.toInt ≤ v24_6.toInt + 1 by omega)  hw hT hF c14 hM (lv_sub hl [1, 2, 3, 4, 5, 6, 7, 0] rfl)
          · have c93 : ¬ v24_5.toInt = (0 : Int) := wk_eqF c93
            replace hM := hM.neg c93
            refine lv_iload hx hb dX6_readWord_53 (lv_at hl 5 rfl) ?_
            refine lv_iload_n hx hb dX6_readWord_55 rfl (lv_at hl 3 rfl) ?_
            refine lv_icmp_ge (tgt := 75) hx hb dX6_readWord_56 (by decide) (fun c94 => ?_) (fun c94 => ?_)
            · have c94 : v24_2.toInt ≤ v24_4.toInt := wk_le.mp c94
              replace hM := hM.pos c94
              exact J75 r85 H locs ls w1 (show 0 ≤ v24_2.toInt from r2) (show v24_2.toInt ≤ 400 from t3) (show 0 ≤ v24_3.toInt from r4) (show v24_3.toInt ≤ 18 from t5) (show 0 ≤ v24_4.toInt from r6) (show v24_4.toInt ≤ 418 from t7) (show 0 ≤ v24_5.toInt from r8) (show v24_5.toInt ≤ 1 from t9) (show 0 ≤ v24_6.toInt from r10) (show v24_6.toInt ≤ 17 by first | with_reducible assumption | omega) (show 0 ≤ f24_1_1.toInt from r12) (show f24_1_1.toInt ≤ 400 from t13) (show v24_4.toInt ≤ v24_6.toInt + 401 by omega) (show v24_3.toInt ≤ v24_6.toInt + 1 by omega)  hw hT hF c14 hM (lv_sub hl [1, 2, 3, 4, 5, 6, 7, 0] rfl)
            · have c94 : v24_4.toInt < v24_2.toInt := wk_leF c94
              replace hM := hM.neg (Int.not_le.mpr c94)
              refine lv_aload_n hx hb dX6_readWord_59 rfl (lv_at hl 1 rfl) ?_
              refine tk_getA hC hK hw hT hinX6 kC_at1 (by decide) rfl 0 (by decide) (List.mem_cons_of_mem _ uw_2_12) rfl rfl dX6_readWord_60 ?_
              refine lv_iload hx hb dX6_readWord_63 (lv_at hl 5 rfl) ?_
              refine tk_iald hC hK hw hT kC_at2 rfl rfl (show 0 ≤ v24_4.toInt from r6) (show v24_4.toInt < 400 by first | with_reducible assumption | omega) dX6_readWord_65 (fun x95 c96 rx95 tx95 => ?_)
              have hox95 := c96
              replace hM := hM.rd (sI_at hox95)
              refine lv_iload hx hb dX6_readWord_66 (lv_at hl 0 rfl) ?_
              refine lv_icmp_ne (tgt := 75) hx hb dX6_readWord_68 (by decide) (fun c97 => ?_) (fun c97 => ?_)
              · have c97 : ¬ x95.toInt = r85.toInt := wk_eqF c97
                replace hM := hM.pos c97
                exact J75 r85 H locs ls w1 (show 0 ≤ v24_2.toInt from r2) (show v24_2.toInt ≤ 400 from t3) (show 0 ≤ v24_3.toInt from r4) (show v24_3.toInt ≤ 18 from t5) (show 0 ≤ v24_4.toInt from r6) (show v24_4.toInt ≤ 418 from t7) (show 0 ≤ v24_5.toInt from r8) (show v24_5.toInt ≤ 1 from t9) (show 0 ≤ v24_6.toInt from r10) (show v24_6.toInt ≤ 17 by first | with_reducible assumption | omega) (show 0 ≤ f24_1_1.toInt from r12) (show f24_1_1.toInt ≤ 400 from t13) (show v24_4.toInt ≤ v24_6.toInt + 401 by omega) (show v24_3.toInt ≤ v24_6.toInt + 1 by omega)  hw hT hF c14 hM (lv_sub hl [1, 2, 3, 4, 5, 6, 7, 0] rfl)
              · have c97 : x95.toInt = r85.toInt := wk_eq.mp c97
                replace hM := hM.neg (fun q => q c97)
                refine lv_iconst (v := 1) hx hb dX6_readWord_71 (by decide) ?_
                refine lv_goto (tgt := 76) hx hb dX6_readWord_72 (by decide) ?_
                refine lv_istore (lv' := [(5, .int 1), (7, .int r85), (0, .ref (ad 1)), (1, .ref (adK 2)), (2, .int v24_2), (3, .int v24_3), (4, .int v24_4), (6, .int v24_6)]) hx hb dX6_readWord_76 hl (by decide) rfl (fun ls hl => ?_)
                obtain ⟨x98, ex98⟩ : ∃ y : Int32, y = v24_4 + Int32.ofInt 1 := ⟨_, rfl⟩
                have erx98 := ex98
                refine lv_iinc (v := x98) (lv' := [(4, .int x98), (5, .int 1), (7, .int r85), (0, .ref (ad 1)), (1, .ref (adK 2)), (2, .int v24_2), (3, .int v24_3), (6, .int v24_6)]) hx hb dX6_readWord_78 hl (k := 6) rfl ex98.symm (by decide) rfl (fun ls hl => ?_)
                have ex98 : x98.toInt = v24_4.toInt + 1 := by rw [ex98]; exact wk_add (y := 1) (show -2147483648 ≤ v24_4.toInt + 1 by omega) (show v24_4.toInt + 1 ≤ 2147483647 by omega)
                replace hM := hM.lt ex98.symm
                refine lv_goto (tgt := 114) hx hb dX6_readWord_81 (by decide) ?_
                exact J114 v24_3 x98 1 r85 H locs ls w1 (show 0 ≤ v24_2.toInt from r2) (show v24_2.toInt ≤ 400 from t3) (show 0 ≤ v24_3.toInt from r4) (show v24_3.toInt ≤ 18 from t5) (show 0 ≤ x98.toInt by first | with_reducible assumption | omega) (show x98.toInt ≤ 418 by first | with_reducible assumption | omega) (by decide) (by decide) (show 0 ≤ v24_6.toInt from r10) (show v24_6.toInt ≤ 17 by first | with_reducible assumption | omega) (show 0 ≤ f24_1_1.toInt from r12) (show f24_1_1.toInt ≤ 400 from t13) (show x98.toInt ≤ v24_6.toInt + 401 by omega) (show v24_3.toInt ≤ v24_6.toInt + 1 by omega)  hw hT hF c14 hM (lv_sub hl [3, 4, 5, 6, 0, 1, 7, 2] rfl)
  have hM : TT (fun n => m_X6_readWord n 1 2 (sI w0)) (fun n => m_X6_readWord n 1 2 (sI w0)) := TT.rf
  refine lv_aload_n hx hb dX6_readWord_0 rfl (lv_at hl 0 rfl) ?_
  refine tk_Vi hC hK hw hT hA hE hSR kC_at1 (by decide) rfl (kz_X6_lookBehindBlanks_1 l adK adV dC dI cy ad B hB0 (Int.le_trans hB1 (by decide)) qr s1    w0 s.heap.size hT ) (cwV 0 hC.2.2.2.2 uV_RX6_28 rfl rfl rfl (by decide +kernel) ⟨Nat.le_of_ble_eq_true rfl, Nat.le_of_ble_eq_true rfl⟩) rfl hl.1 rfl (Nat.le_of_ble_eq_true rfl) dX6_readWord_1 (fun r99 w101 H locs hp100 hw => ?_)
  obtain ⟨hT, k102, hv112, hg111⟩ := hp100
  have hF := hF.tr k102 (by decide)
  rcases hg111 with ⟨g103, g104, ⟨x105, c106, rx105, tx105⟩, ⟨x107, c108, rx107, tx107⟩, ⟨x109, c110, rx109, tx109⟩⟩ | rfl
  · replace hM := hM.call hv112 rfl
    refine lv_pop hx hb dX6_readWord_4 rfl ?_
    refine lv_aload_n hx hb dX6_readWord_5 rfl (lv_at hl 0 rfl) ?_
    refine tk_Vi hC hK hw hT hA hE hSR kC_at1 (by decide) rfl (kz_X6_endOfWord_1 l adK adV dC dI cy ad B hB0 (Int.le_trans hB1 (by decide)) qr s1    w101 H.size hT ) (cwV 0 hC.2.2.2.2 uV_RX6_53 rfl rfl rfl (by decide +kernel) ⟨Nat.le_of_ble_eq_true rfl, Nat.le_of_ble_eq_true rfl⟩) rfl hl.1 rfl (Nat.le_of_ble_eq_true rfl) dX6_readWord_6 (fun r113 w115 H locs hp114 hw => ?_)
    obtain ⟨hT, k116, hv120, hg119⟩ := hp114
    have hF := hF.tr k116 (by decide)
    have c121 := k116.gi kC_at1 (by decide) c106
    have c122 := k116.gi kC_at1 (by decide) c108
    have c123 := k116.gi kC_at1 (by decide) c110
    obtain ⟨g117, g118⟩ := hg119
    replace hM := hM.call hv120 rfl
    refine lv_istore_n (lv' := [(2, .int r113), (0, .ref (ad 1)), (1, .ref (adK 2))]) hx hb dX6_readWord_9 rfl hl (by decide) rfl (fun ls hl => ?_)
    refine lv_iconst (v := 0) hx hb dX6_readWord_10 (by decide) ?_
    refine lv_istore_n (lv' := [(3, .int 0), (2, .int r113), (0, .ref (ad 1)), (1, .ref (adK 2))]) hx hb dX6_readWord_11 rfl hl (by decide) rfl (fun ls hl => ?_)
    refine lv_aload_n hx hb dX6_readWord_12 rfl (lv_at hl 2 rfl) ?_
    refine tk_geti hC hK hw hT hinX6 kC_at1 (by decide) rfl 1 (by decide) (List.mem_cons_of_mem _ uw_9_16) rfl rfl dX6_readWord_13 (fun x124 c125 rx124 tx124 => ?_)
    refine wk_top x105 (c125.symm.trans c121) ?_
    replace hM := hM.rd (sI_at c121)
    refine lv_istore (lv' := [(4, .int x105), (3, .int 0), (2, .int r113), (0, .ref (ad 1)), (1, .ref (adK 2))]) hx hb dX6_readWord_16 hl (by decide) rfl (fun ls hl => ?_)
    refine lv_iconst (v := 1) hx hb dX6_readWord_18 (by decide) ?_
    refine lv_istore (lv' := [(5, .int 1), (4, .int x105), (3, .int 0), (2, .int r113), (0, .ref (ad 1)), (1, .ref (adK 2))]) hx hb dX6_readWord_19 hl (by decide) rfl (fun ls hl => ?_)
    refine lv_iconst (v := 0) hx hb dX6_readWord_21 (by decide) ?_
    refine lv_istore (lv' := [(6, .int 0), (5, .int 1), (4, .int x105), (3, .int 0), (2, .int r113), (0, .ref (ad 1)), (1, .ref (adK 2))]) hx hb dX6_readWord_22 hl (by decide) rfl (fun ls hl => ?_)
    exact L24 ((18 - (0 : Int)).toNat + 1) r113 0 x105 1 0 x105 H locs ls w115 (show 0 ≤ r113.toInt by first | with_reducible assumption | omega) (show r113.toInt ≤ 400 by first | with_reducible assumption | omega) (by decide) (by decide) (show 0 ≤ x105.toInt by first | with_reducible assumption | omega) (show x105.toInt ≤ 418 by first | with_reducible assumption | omega) (by decide) (by decide) (by decide) (by decide) (show 0 ≤ x105.toInt by first | with_reducible assumption | omega) (show x105.toInt ≤ 400 by first | with_reducible assumption | omega) (show x105.toInt ≤ (0 : Int) + 400 by omega) (show (0 : Int) ≤ (0 : Int) + 0 by omega) (Nat.lt_succ_self _) hw hT hF c121 hM (lv_sub hl [5, 6, 4, 3, 2, 1, 0] rfl)
  · replace hM := hM.call (r' := (-1)) hv112 (by decide)
    refine lv_pop hx hb dX6_readWord_4 rfl ?_
    refine lv_aload_n hx hb dX6_readWord_5 rfl (lv_at hl 0 rfl) ?_
    refine tk_Vi hC hK hw hT hA hE hSR kC_at1 (by decide) rfl (kz_X6_endOfWord_1 l adK adV dC dI cy ad B hB0 (Int.le_trans hB1 (by decide)) qr s1    w101 H.size hT ) (cwV 0 hC.2.2.2.2 uV_RX6_53 rfl rfl rfl (by decide +kernel) ⟨Nat.le_of_ble_eq_true rfl, Nat.le_of_ble_eq_true rfl⟩) rfl hl.1 rfl (Nat.le_of_ble_eq_true rfl) dX6_readWord_6 (fun r126 w128 H locs hp127 hw => ?_)
    obtain ⟨hT, k129, hv133, hg132⟩ := hp127
    have hF := hF.tr k129 (by decide)
    obtain ⟨g130, g131⟩ := hg132
    replace hM := hM.call hv133 rfl
    refine lv_istore_n (lv' := [(2, .int r126), (0, .ref (ad 1)), (1, .ref (adK 2))]) hx hb dX6_readWord_9 rfl hl (by decide) rfl (fun ls hl => ?_)
    refine lv_iconst (v := 0) hx hb dX6_readWord_10 (by decide) ?_
    refine lv_istore_n (lv' := [(3, .int 0), (2, .int r126), (0, .ref (ad 1)), (1, .ref (adK 2))]) hx hb dX6_readWord_11 rfl hl (by decide) rfl (fun ls hl => ?_)
    refine lv_aload_n hx hb dX6_readWord_12 rfl (lv_at hl 2 rfl) ?_
    refine tk_geti hC hK hw hT hinX6 kC_at1 (by decide) rfl 1 (by decide) (List.mem_cons_of_mem _ uw_9_16) rfl rfl dX6_readWord_13 (fun x134 c135 rx134 tx134 => ?_)
    replace hM := hM.rd (sI_at c135)
    refine lv_istore (lv' := [(4, .int x134), (3, .int 0), (2, .int r126), (0, .ref (ad 1)), (1, .ref (adK 2))]) hx hb dX6_readWord_16 hl (by decide) rfl (fun ls hl => ?_)
    refine lv_iconst (v := 1) hx hb dX6_readWord_18 (by decide) ?_
    refine lv_istore (lv' := [(5, .int 1), (4, .int x134), (3, .int 0), (2, .int r126), (0, .ref (ad 1)), (1, .ref (adK 2))]) hx hb dX6_readWord_19 hl (by decide) rfl (fun ls hl => ?_)
    refine lv_iconst (v := 0) hx hb dX6_readWord_21 (by decide) ?_
    refine lv_istore (lv' := [(6, .int 0), (5, .int 1), (4, .int x134), (3, .int 0), (2, .int r126), (0, .ref (ad 1)), (1, .ref (adK 2))]) hx hb dX6_readWord_22 hl (by decide) rfl (fun ls hl => ?_)
    exact L24 ((18 - (0 : Int)).toNat + 1) r126 0 x134 1 0 x134 H locs ls w128 (show 0 ≤ r126.toInt by first | with_reducible assumption | omega) (show r126.toInt ≤ 400 by first | with_reducible assumption | omega) (by decide) (by decide) (show 0 ≤ x134.toInt from rx134) (show x134.toInt ≤ 418 from Int.le_trans tx134 (by decide)) (by decide) (by decide) (by decide) (by decide) (show 0 ≤ x134.toInt from rx134) (show x134.toInt ≤ 400 from tx134) (show x134.toInt ≤ (0 : Int) + 400 by omega) (show (0 : Int) ≤ (0 : Int) + 0 by omega) (Nat.lt_succ_self _) hw hT hF c135 hM (lv_sub hl [5, 6, 4, 3, 2, 1, 0] rfl)
abbrev Pz_X2_clear_1 (ad : Nat → Nat) (cy : Nat → ClassId) (B : Int) (qr : Nat) (s1 : Int) (q0_ : Nat) (w0 : va_W) : va_W → Prop := fun u => TW ksC ad cy B qr s1 u ∧ FE ksC [(2, 3, 3), (2, 4, 4), (2, 5, 5)] w0 u ∧ Ev (fun n => m_X2_clear n q0_ (sI w0)) (0, sI u) ∧ (((∃ y : Int32, gi u q0_ 3 = y ∧ 0 ≤ y.toInt ∧ y.toInt ≤ 0) ∧ (∃ y : Int32, gi u q0_ 4 = y ∧ 0 ≤ y.toInt ∧ y.toInt ≤ 0) ∧ (∃ y : Int32, gi u q0_ 5 = y ∧ 0 ≤ y.toInt ∧ y.toInt ≤ 0)))
set_option maxHeartbeats 4000000 in
set_option maxRecDepth 100000 in
theorem kz_X2_clear_1 (l : Launch) (adK adV : Nat → Nat) (dC : Nat → ClassId) (dI : Nat → Nat → Nat) (cy : Nat → ClassId) (ad : Nat → Nat) (B : Int) (hB0 : 2147483648 ≤ B) (hB1 : B ≤ 1152921504606846976) (qr : Nat) (s1 : Int)  (q0_ : Nat) (hkq0_ : ksC[q0_]? = some 2) (w0 : va_W) (sz : Nat) (hT : TW ksC ad cy B qr s1 w0)  : Met l yX2_clear (wu yX2_clear cX2_clear 1 none) ({ frames := 1, cells := 0, slots := 0, locals := 12 }) (va_Pc [.ref (ad q0_)] (wpreS adK adV dC dI cy sz w0)) (va_Qv (Pz_X2_clear_1 ad cy B qr s1 q0_ w0) (fun u : va_W => wpost dC dI cy (va_A w0 sz) u) (va_A w0 sz)) 0 0 (va_A w0 sz) := by
  refine Met.ofW (cc := cX2_clear) (maxL := 1) (ret := none) (by decide) rfl ?_
  intro p e s m args below meth c s₁ Bk hml hv
  obtain ⟨rfl, ⟨hsz, hP, hK, hD0⟩, hE, hSR⟩ := hv
  have hx := Bk.exec
  have hb := Bk.bytes
  have hr := Bk.returns
  have hlocks := Bk.notSynchronized
  have hC : CallFix p m c cX2_clear 1 s _ (wu yX2_clear cX2_clear 1 none) RX2 := ⟨hx, hb, hml, findClass_of_methodNamed Bk.named, atoms_spec (ws := (wu yX2_clear cX2_clear 1 none)) Bk.pre⟩
  subst hsz
  have hD := hD0.self (sz := s.heap.size)
  generalize hAe : va_A w0 s.heap.size = A at hD hE ⊢
  have hA : ∀ q : Nat, s.heap.size ≤ q → A q := fun q h => by rw [← hAe]; exact Or.inr h
  have hw : Wd dC dI A s.heap s.heap [] w0 := ⟨hP, hD, va_S.rf⟩
  have hF : FE ksC [(2, 3, 3), (2, 4, 4), (2, 5, 5)] w0 w0 := FE.rf
  have hl := lv_entry ([.ref (ad q0_)]) (n := 1) (Nat.le_of_ble_eq_true rfl)
  rw [lg_entry_eq]
  generalize (lg_sl ([.ref (ad q0_)]) ++ List.replicate (1 - (lg_sl ([.ref (ad q0_)])).length) Slot.unset).toArray = ls at hl ⊢
  have hl : lv_has ls 1 [(0, .ref (ad q0_))] := hl
  generalize hloc : ([] : List Loc) = locs at hw ⊢
  have hinX2 : ∀ w ∈ u_ws RX2 TX2 6, w ∈ (wu yX2_clear cX2_clear 1 none) := fun _ h => List.mem_cons_of_mem _ (up_74 h)
  have hM : TT (fun n => m_X2_clear n q0_ (sI w0)) (fun n => m_X2_clear n q0_ (sI w0)) := TT.rf
  refine lv_aload_n hx hb dX2_clear_0 rfl (lv_at hl 0 rfl) ?_
  refine lv_iconst (v := 0) hx hb dX2_clear_1 (by decide) ?_
  refine tk_puti hC hK hw hT hinX2 tyX2_ok nmX2 hkq0_ (by decide) rfl rfl 4 (by decide) (List.mem_cons_of_mem _ uw_27_0) rfl rfl rfl rfl (by decide) (by decide) dX2_clear_2 (fun H locs w1 hw hT k3 c2 => ?_)
  replace hM := hM.wr (sI_upc k3 c2 (by decide))
  have hF := hF.put hkq0_ (k := 4) (by decide) k3
  refine lv_aload_n hx hb dX2_clear_5 rfl (lv_at hl 0 rfl) ?_
  refine lv_iconst (v := 0) hx hb dX2_clear_6 (by decide) ?_
  refine tk_puti hC hK hw hT hinX2 tyX2_ok nmX2 hkq0_ (by decide) rfl rfl 3 (by decide) (List.mem_cons_of_mem _ uw_27_1) rfl rfl rfl rfl (by decide) (by decide) dX2_clear_7 (fun H locs w4 hw hT k6 c5 => ?_)
  replace hM := hM.wr (sI_upc k6 c5 (by decide))
  have hF := hF.put hkq0_ (k := 3) (by decide) k6
  have c7 := k6.gi (Or.inr (by decide)) c2
  refine lv_aload_n hx hb dX2_clear_10 rfl (lv_at hl 0 rfl) ?_
  refine lv_iconst (v := 0) hx hb dX2_clear_11 (by decide) ?_
  refine tk_putz hC hK hw hT hinX2 tyX2_ok nmX2 hkq0_ (by decide) rfl rfl 5 (by decide) (List.mem_cons_of_mem _ uw_27_2) rfl rfl rfl rfl (by decide) (by decide) dX2_clear_12 (fun H locs w8 hw hT k10 c9 => ?_)
  replace hM := hM.wr (sI_upc k10 c9 (by decide))
  have hF := hF.put hkq0_ (k := 5) (by decide) k10
  have c11 := k10.gi (Or.inr (by decide)) c7
  have c12 := k10.gi (Or.inr (by decide)) c5
  exact tk_vret hC hr hlocks hK ⟨hT, hF, hM.ret rfl, ⟨⟨0, c12, (by decide), (by decide)⟩, ⟨0, c11, (by decide), (by decide)⟩, ⟨0, c9, (by decide), (by decide)⟩⟩⟩ hw dX2_clear_15
abbrev Pz_X3_readInto_1 (ad : Nat → Nat) (cy : Nat → ClassId) (B : Int) (qr : Nat) (s1 : Int) (q1_ : Nat) (w0 : va_W) : va_W → Prop := fun u => TW ksC ad cy B q1_ s1 u ∧ FE ksC [(2, 3, 3), (2, 4, 4), (2, 5, 5), (3, 1, 1), (3, 2, 2), (6, 1, 1), (6, 3, 3), (6, 4, 4), (21, 0, 12), (22, 0, 13), (23, 0, 400)] w0 u ∧ Ev (fun n => m_X3_readInto n 3 q1_ (sI w0)) (0, sI u) ∧ (((∃ y : Int32, gi u 1 4 = y ∧ 0 ≤ y.toInt ∧ y.toInt ≤ 3205)))
set_option maxHeartbeats 4000000 in
set_option maxRecDepth 100000 in
theorem kz_X3_readInto_1 (l : Launch) (adK adV : Nat → Nat) (dC : Nat → ClassId) (dI : Nat → Nat → Nat) (cy : Nat → ClassId) (ad : Nat → Nat) (B : Int) (hB0 : 2147483648 ≤ B) (hB1 : B ≤ 1152921504606846976) (qr : Nat) (s1 : Int)  (q1_ : Nat) (hkq1_ : ksC[q1_]? = some 2) (w0 : va_W) (sz : Nat) (hT : TW ksC ad cy B qr s1 w0)  : Met l yX3_readInto (wu yX3_readInto cX3_readInto 5 none) ({ frames := 30, cells := 0, slots := 0, locals := 728 }) (va_Pc [.ref (ad 3), .ref (ad q1_)] (wpreS adK adV dC dI cy sz w0)) (va_Qv (Pz_X3_readInto_1 ad cy B qr s1 q1_ w0) (fun u : va_W => wpost dC dI cy (va_A w0 sz) u) (va_A w0 sz)) 0 0 (va_A w0 sz) := by
  refine Met.ofW (cc := cX3_readInto) (maxL := 5) (ret := none) (by decide) rfl ?_
  intro p e s m args below meth c s₁ Bk hml hv
  obtain ⟨rfl, ⟨hsz, hP, hK, hD0⟩, hE, hSR⟩ := hv
  have hx := Bk.exec
  have hb := Bk.bytes
  have hr := Bk.returns
  have hlocks := Bk.notSynchronized
  have hC : CallFix p m c cX3_readInto 5 s _ (wu yX3_readInto cX3_readInto 5 none) RX3 := ⟨hx, hb, hml, findClass_of_methodNamed Bk.named, atoms_spec (ws := (wu yX3_readInto cX3_readInto 5 none)) Bk.pre⟩
  subst hsz
  have hD := hD0.self (sz := s.heap.size)
  generalize hAe : va_A w0 s.heap.size = A at hD hE ⊢
  have hA : ∀ q : Nat, s.heap.size ≤ q → A q := fun q h => by rw [← hAe]; exact Or.inr h
  have hw : Wd dC dI A s.heap s.heap [] w0 := ⟨hP, hD, va_S.rf⟩
  have hF : FE ksC [(2, 3, 3), (2, 4, 4), (2, 5, 5), (3, 1, 1), (3, 2, 2), (6, 1, 1), (6, 3, 3), (6, 4, 4), (21, 0, 12), (22, 0, 13), (23, 0, 400)] w0 w0 := FE.rf
  have hl := lv_entry ([.ref (ad 3), .ref (ad q1_)]) (n := 5) (Nat.le_of_ble_eq_true rfl)
  rw [lg_entry_eq]
  generalize (lg_sl ([.ref (ad 3), .ref (ad q1_)]) ++ List.replicate (5 - (lg_sl ([.ref (ad 3), .ref (ad q1_)])).length) Slot.unset).toArray = ls at hl ⊢
  have hl : lv_has ls 5 [(0, .ref (ad 3)), (1, .ref (ad q1_))] := hl
  generalize hloc : ([] : List Loc) = locs at hw ⊢
  have hinX3 : ∀ w ∈ u_ws RX3 TX3 3, w ∈ (wu yX3_readInto cX3_readInto 5 none) := fun _ h => List.mem_cons_of_mem _ (up_75 h)
  have hinX6 : ∀ w ∈ u_ws RX6 TX6 5, w ∈ (wu yX3_readInto cX3_readInto 5 none) := fun _ h => List.mem_cons_of_mem _ (up_72 h)
  have J124 : ∀ (v124_2 : Int32) (v124_3 : Int32) (f124_1_4 : Int32) (f124_q1__4 : Int32) (H : Heap) (locs : List Loc) (ls : Array Slot) (w1 : va_W), 0 ≤ v124_2.toInt → v124_2.toInt ≤ 1 → 0 ≤ v124_3.toInt → v124_3.toInt ≤ 13 → 0 ≤ f124_1_4.toInt → f124_1_4.toInt ≤ 3205 → 0 ≤ f124_q1__4.toInt → f124_q1__4.toInt ≤ 12 → Wd dC dI A s.heap H locs w1 → TW ksC ad cy B q1_ s1 w1 → FE ksC [(2, 3, 3), (2, 4, 4), (2, 5, 5), (3, 1, 1), (3, 2, 2), (6, 1, 1), (6, 3, 3), (6, 4, 4), (21, 0, 12), (22, 0, 13), (23, 0, 400)] w0 w1 → gi w1 1 4 = f124_1_4 → gi w1 q1_ 4 = f124_q1__4 → TT (fun n => m_X3_readInto n 3 q1_ (sI w0)) (fun n => b_X3_readInto_124 (j_X3_readInto 3 q1_ n) n 3 q1_ (sI w1)) → lv_has ls 5 [(0, .ref (ad 3)), (1, .ref (ad q1_)), (2, .int v124_2), (3, .int v124_3)] → W p l e ({ frames := 30, cells := 0, slots := 0, locals := 728 }) s m (List.toArray [.ref (ad 3), .ref (ad q1_)]) below meth c H locs 0 0 (MQ below (va_Qv (Pz_X3_readInto_1 ad cy B qr s1 q1_ w0) (fun u : va_W => wpost dC dI cy A u) A) (List.toArray [.ref (ad 3), .ref (ad q1_)]) s 0 0 A) (F0 m 124 ls []) := by
    intro v124_2 v124_3 f124_1_4 f124_q1__4 H locs ls w1 r2 t3 r4 t5 r6 t7 r9 t10 hw hT hF c8 c11 hM hl
    exact tk_vret hC hr hlocks hK ⟨hT, hF, hM.ret rfl, ⟨f124_1_4, c8, (show 0 ≤ f124_1_4.toInt from r6), (show f124_1_4.toInt ≤ 3205 from t7)⟩⟩ hw dX3_readInto_124
  have L28 : ∀ (n28 : Nat) (v28_2 : Int32) (v28_3 : Int32) (f28_1_4 : Int32) (f28_q1__4 : Int32) (H : Heap) (locs : List Loc) (ls : Array Slot) (w12 : va_W), 0 ≤ v28_2.toInt → v28_2.toInt ≤ 1 → 0 ≤ v28_3.toInt → v28_3.toInt ≤ 13 → 0 ≤ f28_1_4.toInt → f28_1_4.toInt ≤ 3205 → 0 ≤ f28_q1__4.toInt → f28_q1__4.toInt ≤ 12 → (13 - v28_3.toInt).toNat < n28 → Wd dC dI A s.heap H locs w12 → TW ksC ad cy B q1_ s1 w12 → FE ksC [(2, 3, 3), (2, 4, 4), (2, 5, 5), (3, 1, 1), (3, 2, 2), (6, 1, 1), (6, 3, 3), (6, 4, 4), (21, 0, 12), (22, 0, 13), (23, 0, 400)] w0 w12 → gi w12 1 4 = f28_1_4 → gi w12 q1_ 4 = f28_q1__4 → TT (fun n => m_X3_readInto n 3 q1_ (sI w0)) (fun n => j_X3_readInto 3 q1_ n 28 [v28_2.toInt, v28_3.toInt] (sI w12)) → lv_has ls 5 [(0, .ref (ad 3)), (1, .ref (ad q1_)), (2, .int v28_2), (3, .int v28_3)] → W p l e ({ frames := 30, cells := 0, slots := 0, locals := 728 }) s m (List.toArray [.ref (ad 3), .ref (ad q1_)]) below meth c H locs 0 0 (MQ below (va_Qv (Pz_X3_readInto_1 ad cy B qr s1 q1_ w0) (fun u : va_W => wpost dC dI cy A u) A) (List.toArray [.ref (ad 3), .ref (ad q1_)]) s 0 0 A) (F0 m 28 ls []) := by
    intro n28
    induction n28 with
    | zero => intro v28_2 v28_3 f28_1_4 f28_q1__4 H locs ls w12 r13 t14 r15 t16 r17 t18 r20 t21 hm28 hw hT hF c19 c22 hM hl; omega
    | succ n28 ih28 =>
      intro v28_2 v28_3 f28_1_4 f28_q1__4 H locs ls w12 r13 t14 r15 t16 r17 t18 r20 t21 hm28 hw hT hF c19 c22 hM hl
      have J110 : ∀ (v110_4 : Int32) (f110_q1__4 : Int32) (H : Heap) (locs : List Loc) (ls : Array Slot) (w23 : va_W), 0 ≤ v28_3.toInt → v28_3.toInt ≤ 12 → (-1) ≤ v110_4.toInt → v110_4.toInt ≤ 18 → 1 ≤ f110_q1__4.toInt → f110_q1__4.toInt ≤ 12 → Wd dC dI A s.heap H locs w23 → TW ksC ad cy B q1_ s1 w23 → FE ksC [(2, 3, 3), (2, 4, 4), (2, 5, 5), (3, 1, 1), (3, 2, 2), (6, 1, 1), (6, 3, 3), (6, 4, 4), (21, 0, 12), (22, 0, 13), (23, 0, 400)] w0 w23 → gi w23 q1_ 4 = f110_q1__4 → TT (fun n => m_X3_readInto n 3 q1_ (sI w0)) (fun n => b_X3_readInto_110 (j_X3_readInto 3 q1_ n) n 3 q1_ (v28_3.toInt) (sI w23)) → lv_has ls 5 [(0, .ref (ad 3)), (1, .ref (ad q1_)), (2, .int 1), (3, .int v28_3), (4, .int v110_4)] → W p l e ({ frames := 30, cells := 0, slots := 0, locals := 728 }) s m (List.toArray [.ref (ad 3), .ref (ad q1_)]) below meth c H locs 0 0 (MQ below (va_Qv (Pz_X3_readInto_1 ad cy B qr s1 q1_ w0) (fun u : va_W => wpost dC dI cy A u) A) (List.toArray [.ref (ad 3), .ref (ad q1_)]) s 0 0 A) (F0 m 110 ls []) := by
        intro v110_4 f110_q1__4 H locs ls w23 r24 t25 r26 t27 r28 t29 hw hT hF c30 hM hl
        refine lv_aload_n hx hb dX3_readInto_110 rfl (lv_at hl 0 rfl) ?_
        refine tk_getA hC hK hw hT hinX3 kC_at3 (by decide) rfl 0 (by decide) (List.mem_cons_of_mem _ uw_3_12) rfl rfl dX3_readInto_111 ?_
        refine tk_Vi hC hK hw hT hA hE hSR kC_at1 (by decide) rfl (kz_X6_takeSemicolon_2 l adK adV dC dI cy ad B hB0 (Int.le_trans hB1 (by decide)) q1_ s1    w23 H.size hT ) (cwV 0 hC.2.2.2.2 uV_RX3_66 rfl rfl rfl (by decide +kernel) ⟨Nat.le_of_ble_eq_true rfl, Nat.le_of_ble_eq_true rfl⟩) rfl hl.1 rfl (Nat.le_of_ble_eq_true rfl) dX3_readInto_114 (fun r31 w33 H locs hp32 hw => ?_)
        obtain ⟨hT, k34, hv46, hg45⟩ := hp32
        have hF := hF.tr k34 (by decide)
        have c47 := k34.gi hkq1_ (by decide) c30
        rcases hg45 with ⟨rfl, ⟨x35, c36, rx35, tx35⟩⟩ | ⟨rfl, ⟨x37, c38, rx37, tx37⟩⟩ | ⟨rfl, ⟨x39, c40, rx39, tx39⟩, ⟨x41, c42, rx41, tx41⟩, ⟨x43, c44, rx43, tx43⟩⟩
        · replace hM := hM.call (r' := 0) hv46 (by decide)
          refine lv_istore_n (lv' := [(2, .int 0), (0, .ref (ad 3)), (1, .ref (ad q1_)), (3, .int v28_3), (4, .int v110_4)]) hx hb dX3_readInto_117 rfl hl (by decide) rfl (fun ls hl => ?_)
          obtain ⟨x48, ex48⟩ : ∃ y : Int32, y = v28_3 + Int32.ofInt 1 := ⟨_, rfl⟩
          have erx48 := ex48
          refine lv_iinc (v := x48) (lv' := [(3, .int x48), (2, .int 0), (0, .ref (ad 3)), (1, .ref (ad q1_)), (4, .int v110_4)]) hx hb dX3_readInto_118 hl (k := 3) rfl ex48.symm (by decide) rfl (fun ls hl => ?_)
          have ex48 : x48.toInt = v28_3.toInt + 1 := by rw [ex48]; exact wk_add (y := 1) (show -2147483648 ≤ v28_3.toInt + 1 by omega) (show v28_3.toInt + 1 ≤ 2147483647 by omega)
          replace hM := hM.lt ex48.symm
          refine lv_goto (tgt := 28) hx hb dX3_readInto_121 (by decide) ?_
          exact ih28 0 x48 x35 f110_q1__4 H locs ls w33 (by decide) (by decide) (show 0 ≤ x48.toInt by first | with_reducible assumption | omega) (show x48.toInt ≤ 13 by first | with_reducible assumption | omega) (show 0 ≤ x35.toInt by first | with_reducible assumption | omega) (show x35.toInt ≤ 3205 by first | with_reducible assumption | omega) (show 0 ≤ f110_q1__4.toInt from Int.le_trans (by decide) r28) (show f110_q1__4.toInt ≤ 12 from t29) (show (13 - x48.toInt).toNat < n28 by first | exact tn_lt hm28 (by omega) (by omega) | omega) hw hT hF c36 c47 hM (lv_sub hl [2, 3, 1, 0] rfl)
        · replace hM := hM.call (r' := 0) hv46 (by decide)
          refine lv_istore_n (lv' := [(2, .int 0), (0, .ref (ad 3)), (1, .ref (ad q1_)), (3, .int v28_3), (4, .int v110_4)]) hx hb dX3_readInto_117 rfl hl (by decide) rfl (fun ls hl => ?_)
          obtain ⟨x49, ex49⟩ : ∃ y : Int32, y = v28_3 + Int32.ofInt 1 := ⟨_, rfl⟩
          have erx49 := ex49
          refine lv_iinc (v := x49) (lv' := [(3, .int x49), (2, .int 0), (0, .ref (ad 3)), (1, .ref (ad q1_)), (4, .int v110_4)]) hx hb dX3_readInto_118 hl (k := 3) rfl ex49.symm (by decide) rfl (fun ls hl => ?_)
          have ex49 : x49.toInt = v28_3.toInt + 1 := by rw [ex49]; exact wk_add (y := 1) (show -2147483648 ≤ v28_3.toInt + 1 by omega) (show v28_3.toInt + 1 ≤ 2147483647 by omega)
          replace hM := hM.lt ex49.symm
          refine lv_goto (tgt := 28) hx hb dX3_readInto_121 (by decide) ?_
          exact ih28 0 x49 x37 f110_q1__4 H locs ls w33 (by decide) (by decide) (show 0 ≤ x49.toInt by first | with_reducible assumption | omega) (show x49.toInt ≤ 13 by first | with_reducible assumption | omega) (show 0 ≤ x37.toInt by first | with_reducible assumption | omega) (show x37.toInt ≤ 3205 by first | with_reducible assumption | omega) (show 0 ≤ f110_q1__4.toInt from Int.le_trans (by decide) r28) (show f110_q1__4.toInt ≤ 12 from t29) (show (13 - x49.toInt).toNat < n28 by first | exact tn_lt hm28 (by omega) (by omega) | omega) hw hT hF c38 c47 hM (lv_sub hl [2, 3, 1, 0] rfl)
        · replace hM := hM.call (r' := 1) hv46 (by decide)
          refine lv_istore_n (lv' := [(2, .int 1), (0, .ref (ad 3)), (1, .ref (ad q1_)), (3, .int v28_3), (4, .int v110_4)]) hx hb dX3_readInto_117 rfl hl (by decide) rfl (fun ls hl => ?_)
          obtain ⟨x50, ex50⟩ : ∃ y : Int32, y = v28_3 + Int32.ofInt 1 := ⟨_, rfl⟩
          have erx50 := ex50
          refine lv_iinc (v := x50) (lv' := [(3, .int x50), (2, .int 1), (0, .ref (ad 3)), (1, .ref (ad q1_)), (4, .int v110_4)]) hx hb dX3_readInto_118 hl (k := 3) rfl ex50.symm (by decide) rfl (fun ls hl => ?_)
          have ex50 : x50.toInt = v28_3.toInt + 1 := by rw [ex50]; exact wk_add (y := 1) (show -2147483648 ≤ v28_3.toInt + 1 by omega) (show v28_3.toInt + 1 ≤ 2147483647 by omega)
          replace hM := hM.lt ex50.symm
          refine lv_goto (tgt := 28) hx hb dX3_readInto_121 (by decide) ?_
          exact ih28 1 x50 x43 f110_q1__4 H locs ls w33 (by decide) (by decide) (show 0 ≤ x50.toInt by first | with_reducible assumption | omega) (show x50.toInt ≤ 13 by first | with_reducible assumption | omega) (show 0 ≤ x43.toInt by first | with_reducible assumption | omega) (show x43.toInt ≤ 3205 by first | with_reducible assumption | omega) (show 0 ≤ f110_q1__4.toInt from Int.le_trans (by decide) r28) (show f110_q1__4.toInt ≤ 12 from t29) (show (13 - x50.toInt).toNat < n28 by first | exact tn_lt hm28 (by omega) (by omega) | omega) hw hT hF c44 c47 hM (lv_sub hl [2, 3, 1, 0] rfl)
      have J74 : ∀ (v74_4 : Int32) (H : Heap) (locs : List Loc) (ls : Array Slot) (w51 : va_W), 0 ≤ v28_3.toInt → v28_3.toInt ≤ 12 → (-1) ≤ v74_4.toInt → v74_4.toInt ≤ 18 → 0 ≤ f28_q1__4.toInt → f28_q1__4.toInt ≤ 12 → Wd dC dI A s.heap H locs w51 → TW ksC ad cy B q1_ s1 w51 → FE ksC [(2, 3, 3), (2, 4, 4), (2, 5, 5), (3, 1, 1), (3, 2, 2), (6, 1, 1), (6, 3, 3), (6, 4, 4), (21, 0, 12), (22, 0, 13), (23, 0, 400)] w0 w51 → gi w51 q1_ 4 = f28_q1__4 → TT (fun n => m_X3_readInto n 3 q1_ (sI w0)) (fun n => b_X3_readInto_74 (j_X3_readInto 3 q1_ n) n 3 q1_ (v28_3.toInt) (v74_4.toInt) (sI w51)) → lv_has ls 5 [(0, .ref (ad 3)), (1, .ref (ad q1_)), (2, .int 1), (3, .int v28_3), (4, .int v74_4)] → W p l e ({ frames := 30, cells := 0, slots := 0, locals := 728 }) s m (List.toArray [.ref (ad 3), .ref (ad q1_)]) below meth c H locs 0 0 (MQ below (va_Qv (Pz_X3_readInto_1 ad cy B qr s1 q1_ w0) (fun u : va_W => wpost dC dI cy A u) A) (List.toArray [.ref (ad 3), .ref (ad q1_)]) s 0 0 A) (F0 m 74 ls []) := by
        intro v74_4 H locs ls w51 r52 t53 r54 t55 r56 t57 hw hT hF c58 hM hl
        refine lv_aload_n hx hb dX3_readInto_74 rfl (lv_at hl 0 rfl) ?_
        refine tk_getQ hC hK hw hT hkq1_ (by decide) hinX3 kC_at3 (by decide) rfl 1 (by decide) (List.mem_cons_of_mem _ uw_26_17) rfl rfl dX3_readInto_75 ?_
        refine lv_iload hx hb dX3_readInto_78 (lv_at hl 4 rfl) ?_
        refine tk_Vv hC hK hw hT hA hE hSR hkq1_ (by decide) rfl (kz_X2_addClause_1 l adK adV dC dI cy ad B hB0 (Int.le_trans hB1 (by decide)) q1_ s1   q1_ hkq1_ v74_4 (show (-1) ≤ v74_4.toInt from r54) (show v74_4.toInt ≤ 18 from t55) w51 H.size hT ) (cwV 1 hC.2.2.2.2 uV_RX3_50 rfl rfl rfl (by decide +kernel) ⟨Nat.le_of_ble_eq_true rfl, Nat.le_of_ble_eq_true rfl⟩) rfl hl.1 rfl (Nat.le_of_ble_eq_true rfl) dX3_readInto_80 (fun w61 H locs hp60 hw => ?_)
        obtain ⟨hT, k62, hv66, hg65⟩ := hp60
        have hF := hF.tr k62 (by decide)
        obtain ⟨x63, c64, rx63, tx63⟩ := hg65
        replace hM := hM.call hv66 rfl
        refine lv_aload_n hx hb dX3_readInto_83 rfl (lv_at hl 0 rfl) ?_
        refine tk_getA hC hK hw hT hinX3 kC_at3 (by decide) rfl 0 (by decide) (List.mem_cons_of_mem _ uw_3_12) rfl rfl dX3_readInto_84 ?_
        refine tk_Vi hC hK hw hT hA hE hSR kC_at1 (by decide) rfl (kz_X6_isFaulty_1 l adK adV dC dI cy ad B hB0 (Int.le_trans hB1 (by decide)) q1_ s1    w61 H.size hT ) (cwV 0 hC.2.2.2.2 uV_RX3_54 rfl rfl rfl (by decide +kernel) ⟨Nat.le_of_ble_eq_true rfl, Nat.le_of_ble_eq_true rfl⟩) rfl hl.1 rfl (Nat.le_of_ble_eq_true rfl) dX3_readInto_87 (fun r67 w69 H locs hp68 hw => ?_)
        obtain ⟨hT, k70, hv76, hg75⟩ := hp68
        have hF := hF.tr k70 (by decide)
        have c77 := k70.gi hkq1_ (by decide) c64
        rcases hg75 with ⟨rfl, ⟨x71, c72, rx71, tx71⟩⟩ | ⟨rfl, ⟨x73, c74, rx73, tx73⟩⟩
        · replace hM := hM.call (r' := 0) hv76 (by decide)
          refine lv_if_ne (tgt := 110) hx hb dX3_readInto_90 (by decide) (fun c => absurd (by decide) c) (fun _ => ?_)
          replace hM := hM.neg (by decide)
          refine lv_aload_n hx hb dX3_readInto_93 rfl (lv_at hl 0 rfl) ?_
          refine tk_getA hC hK hw hT hinX3 kC_at3 (by decide) rfl 0 (by decide) (List.mem_cons_of_mem _ uw_3_12) rfl rfl dX3_readInto_94 ?_
          refine va_ldcS hx hb hC.2.2.2.1 hSR.2.2.2.1 dX3_readInto_97 ?_
          refine tk_Vi hC hK hw hT hA hE hSR kC_at1 (by decide) rfl (kz_X6_takeWord_1 l adK adV dC dI cy ad B hB0 (Int.le_trans hB1 (by decide)) q1_ s1    w69 H.size hT ) (cwV 1 hC.2.2.2.2 uV_RX3_59 rfl rfl rfl (by decide +kernel) ⟨Nat.le_of_ble_eq_true rfl, Nat.le_of_ble_eq_true rfl⟩) rfl hl.1 rfl (Nat.le_of_ble_eq_true rfl) dX3_readInto_99 (fun r78 w80 H locs hp79 hw => ?_)
          obtain ⟨hT, k81, hv85, hg84⟩ := hp79
          have hF := hF.tr k81 (by decide)
          have c86 := k81.gi hkq1_ (by decide) c77
          have c87 := k81.gi kC_at1 (by decide) c72
          rcases hg84 with rfl | ⟨rfl, ⟨x82, c83, rx82, tx82⟩⟩
          · replace hM := hM.call (r' := 0) hv85 (by decide)
            refine lv_if_eq (tgt := 110) hx hb dX3_readInto_102 (by decide) (fun _ => ?_) (fun c => absurd (by decide) c)
            replace hM := hM.pos (by decide)
            exact J110 v74_4 x63 H locs ls w80 (show 0 ≤ v28_3.toInt from r52) (show v28_3.toInt ≤ 12 from t53) (show (-1) ≤ v74_4.toInt from r54) (show v74_4.toInt ≤ 18 from t55) (show 1 ≤ x63.toInt by first | with_reducible assumption | omega) (show x63.toInt ≤ 12 by first | with_reducible assumption | omega)  hw hT hF c86 hM (lv_sub hl [0, 1, 2, 3, 4] rfl)
          · replace hM := hM.call (r' := 1) hv85 (by decide)
            refine lv_if_eq (tgt := 110) hx hb dX3_readInto_102 (by decide) (fun c => absurd c (by decide)) (fun _ => ?_)
            replace hM := hM.neg (by decide)
            refine lv_aload_n hx hb dX3_readInto_105 rfl (lv_at hl 0 rfl) ?_
            refine lv_iconst (v := 0) hx hb dX3_readInto_106 (by decide) ?_
            refine tk_Vv hC hK hw hT hA hE hSR kC_at3 (by decide) rfl (kz_X3_readTest_1 l adK adV dC dI cy ad B hB0 (Int.le_trans hB1 (by decide)) q1_ s1 hkq1_   w80 H.size hT (c87.trans (wk_eq.mpr (show x71.toInt = 0 by first | exact Int.le_antisymm (by omega) (by omega) | omega)))) (cwV 1 hC.2.2.2.2 uV_RX3_63 rfl rfl rfl (by decide +kernel) ⟨Nat.le_of_ble_eq_true rfl, Nat.le_of_ble_eq_true rfl⟩) rfl hl.1 rfl (Nat.le_of_ble_eq_true rfl) dX3_readInto_107 (fun w90 H locs hp89 hw => ?_)
            obtain ⟨hT, k91, hv93, hg92⟩ := hp89
            have hF := hF.tr k91 (by decide)
            have c94 := k91.gi hkq1_ (by decide) c86
            clear hg92
            replace hM := hM.call hv93 rfl
            exact J110 v74_4 x63 H locs ls w90 (show 0 ≤ v28_3.toInt from r52) (show v28_3.toInt ≤ 12 from t53) (show (-1) ≤ v74_4.toInt from r54) (show v74_4.toInt ≤ 18 from t55) (show 1 ≤ x63.toInt by first | with_reducible assumption | omega) (show x63.toInt ≤ 12 by first | with_reducible assumption | omega)  hw hT hF c94 hM (lv_sub hl [0, 1, 2, 3, 4] rfl)
        · replace hM := hM.call (r' := 1) hv76 (by decide)
          refine lv_if_ne (tgt := 110) hx hb dX3_readInto_90 (by decide) (fun _ => ?_) (fun c => absurd c (by decide))
          replace hM := hM.pos (by decide)
          exact J110 v74_4 x63 H locs ls w69 (show 0 ≤ v28_3.toInt from r52) (show v28_3.toInt ≤ 12 from t53) (show (-1) ≤ v74_4.toInt from r54) (show v74_4.toInt ≤ 18 from t55) (show 1 ≤ x63.toInt by first | with_reducible assumption | omega) (show x63.toInt ≤ 12 by first | with_reducible assumption | omega)  hw hT hF c77 hM (lv_sub hl [0, 1, 2, 3, 4] rfl)
      replace hM := hM.suc (fun _ => e_X3_readInto_28)
      refine lv_iload_n hx hb dX3_readInto_28 rfl (lv_at hl 2 rfl) ?_
      refine lv_if_eq (tgt := 124) hx hb dX3_readInto_29 (by decide) (fun c95 => ?_) (fun c95 => ?_)
      · have c95 : v28_2.toInt = (0 : Int) := wk_eq.mp c95
        replace hM := hM.pos c95
        exact J124 v28_2 v28_3 f28_1_4 f28_q1__4 H locs ls w12 (show 0 ≤ v28_2.toInt from r13) (show v28_2.toInt ≤ 1 from t14) (show 0 ≤ v28_3.toInt from r15) (show v28_3.toInt ≤ 13 from t16) (show 0 ≤ f28_1_4.toInt from r17) (show f28_1_4.toInt ≤ 3205 from t18) (show 0 ≤ f28_q1__4.toInt from r20) (show f28_q1__4.toInt ≤ 12 from t21)  hw hT hF c19 c22 hM (lv_sub hl [0, 1, 2, 3] rfl)
      · have c95 : ¬ v28_2.toInt = (0 : Int) := wk_eqF c95
        replace hM := hM.neg c95
        refine lv_iload_n hx hb dX3_readInto_32 rfl (lv_at hl 3 rfl) ?_
        refine lv_bipush (v := 12) hx hb dX3_readInto_33 (by decide) ?_
        refine lv_icmp_gt (tgt := 124) hx hb dX3_readInto_35 (by decide) (fun c96 => ?_) (fun c96 => ?_)
        · have c96 : (12 : Int) < v28_3.toInt := wk_lt.mp c96
          replace hM := hM.pos c96
          exact J124 v28_2 v28_3 f28_1_4 f28_q1__4 H locs ls w12 (show 0 ≤ v28_2.toInt from r13) (show v28_2.toInt ≤ 1 from t14) (show 0 ≤ v28_3.toInt from r15) (show v28_3.toInt ≤ 13 from t16) (show 0 ≤ f28_1_4.toInt from r17) (show f28_1_4.toInt ≤ 3205 from t18) (show 0 ≤ f28_q1__4.toInt from r20) (show f28_q1__4.toInt ≤ 12 from t21)  hw hT hF c19 c22 hM (lv_sub hl [0, 1, 2, 3] rfl)
        · have c96 : v28_3.toInt ≤ (12 : Int) := wk_ltF c96
          replace hM := hM.neg (Int.not_lt.mpr c96)
          refine lv_aload_n hx hb dX3_readInto_38 rfl (lv_at hl 0 rfl) ?_
          refine tk_getA hC hK hw hT hinX3 kC_at3 (by decide) rfl 0 (by decide) (List.mem_cons_of_mem _ uw_3_12) rfl rfl dX3_readInto_39 ?_
          refine va_ldcS hx hb hC.2.2.2.1 hSR.2.2.1 dX3_readInto_42 ?_
          refine tk_Vi hC hK hw hT hA hE hSR kC_at1 (by decide) rfl (kz_X6_readWord_3 l adK adV dC dI cy ad B hB0 (Int.le_trans hB1 (by decide)) q1_ s1    w12 H.size hT ) (cwV 1 hC.2.2.2.2 uV_RX3_35 rfl rfl rfl (by decide +kernel) ⟨Nat.le_of_ble_eq_true rfl, Nat.le_of_ble_eq_true rfl⟩) rfl hl.1 rfl (Nat.le_of_ble_eq_true rfl) dX3_readInto_44 (fun r97 w99 H locs hp98 hw => ?_)
          obtain ⟨hT, k100, hv106, hg105⟩ := hp98
          have hF := hF.tr k100 (by decide)
          have c107 := k100.gi hkq1_ (by decide) c22
          rcases hg105 with ⟨g101, g102⟩ | ⟨rfl, ⟨x103, c104, rx103, tx103⟩⟩
          · replace hM := hM.call hv106 rfl
            refine lv_istore (lv' := [(4, .int r97), (0, .ref (ad 3)), (1, .ref (ad q1_)), (2, .int v28_2), (3, .int v28_3)]) hx hb dX3_readInto_47 hl (by decide) rfl (fun ls hl => ?_)
            refine lv_aload_n hx hb dX3_readInto_49 rfl (lv_at hl 1 rfl) ?_
            refine tk_getQ hC hK hw hT hkq1_ (by decide) hinX3 kC_at3 (by decide) rfl 1 (by decide) (List.mem_cons_of_mem _ uw_26_17) rfl rfl dX3_readInto_50 ?_
            refine tk_Vi hC hK hw hT hA hE hSR hkq1_ (by decide) rfl (kz_X2_isFull_1 l adK adV dC dI cy ad B hB0 (Int.le_trans hB1 (by decide)) q1_ s1   q1_ hkq1_ w99 H.size hT ) (cwV 0 hC.2.2.2.2 uV_RX3_39 rfl rfl rfl (by decide +kernel) ⟨Nat.le_of_ble_eq_true rfl, Nat.le_of_ble_eq_true rfl⟩) rfl hl.1 rfl (Nat.le_of_ble_eq_true rfl) dX3_readInto_53 (fun r108 w110 H locs hp109 hw => ?_)
            obtain ⟨hT, k111, hv117, hg116⟩ := hp109
            have hF := hF.tr k111 (by decide)
            have c118 := k111.gi hkq1_ (by decide) c107
            rcases hg116 with ⟨rfl, ⟨x112, c113, rx112, tx112⟩⟩ | ⟨rfl, ⟨x114, c115, rx114, tx114⟩⟩
            · replace hM := hM.call (r' := 0) hv117 (by decide)
              have ex112 : x112.toInt = f28_q1__4.toInt := by rw [← c118.symm.trans c113]
              refine lv_if_eq (tgt := 74) hx hb dX3_readInto_56 (by decide) (fun _ => ?_) (fun c => absurd (by decide) c)
              replace hM := hM.pos (by decide)
              obtain rfl : v28_2 = 1 := wk_eq.mpr (show v28_2.toInt = 1 by first | exact Int.le_antisymm (by omega) (by omega) | omega)
              try simp only [show (1 : Int32).toInt = 1 by decide] at hM
              exact J74 r97 H locs ls w110 (show 0 ≤ v28_3.toInt from r15) (show v28_3.toInt ≤ 12 by first | with_reducible assumption | omega) (show (-1) ≤ r97.toInt by first | with_reducible assumption | omega) (show r97.toInt ≤ 18 by first | with_reducible assumption | omega) (show 0 ≤ f28_q1__4.toInt from r20) (show f28_q1__4.toInt ≤ 12 from t21)  hw hT hF c118 hM (lv_sub hl [1, 2, 3, 4, 0] rfl)
            · replace hM := hM.call (r' := 1) hv117 (by decide)
              have ex114 : x114.toInt = f28_q1__4.toInt := by rw [← c118.symm.trans c115]
              refine lv_if_eq (tgt := 74) hx hb dX3_readInto_56 (by decide) (fun c => absurd c (by decide)) (fun _ => ?_)
              replace hM := hM.neg (by decide)
              refine lv_aload_n hx hb dX3_readInto_59 rfl (lv_at hl 1 rfl) ?_
              refine tk_getA hC hK hw hT hinX3 kC_at3 (by decide) rfl 0 (by decide) (List.mem_cons_of_mem _ uw_3_12) rfl rfl dX3_readInto_60 ?_
              refine lv_aload_n hx hb dX3_readInto_63 rfl (lv_at hl 1 rfl) ?_
              refine tk_getA hC hK hw hT hinX3 kC_at3 (by decide) rfl 0 (by decide) (List.mem_cons_of_mem _ uw_3_12) rfl rfl dX3_readInto_64 ?_
              refine tk_geti hC hK hw hT hinX6 kC_at1 (by decide) rfl 3 (by decide) (List.mem_cons_of_mem _ uw_26_19) rfl rfl dX3_readInto_67 (fun x119 c120 rx119 tx119 => ?_)
              replace hM := hM.rd (sI_at c120)
              refine lv_iconst (v := 4) hx hb dX3_readInto_70 (by decide) ?_
              refine tk_Vv hC hK hw hT hA hE hSR kC_at1 (by decide) rfl (kz_X6_blame_1 l adK adV dC dI cy ad B hB0 (Int.le_trans hB1 (by decide)) q1_ s1   x119 (show 0 ≤ x119.toInt from rx119) (show x119.toInt ≤ 400 from tx119) 4 (by decide) (by decide) w110 H.size hT ) (cwV 2 hC.2.2.2.2 uV_RX3_46 rfl rfl rfl (by decide +kernel) ⟨Nat.le_of_ble_eq_true rfl, Nat.le_of_ble_eq_true rfl⟩) rfl hl.1 rfl (Nat.le_of_ble_eq_true rfl) dX3_readInto_71 (fun w123 H locs hp122 hw => ?_)
              obtain ⟨hT, k124, hv128, hg127⟩ := hp122
              try simp only [show (4 : Int32).toInt = 4 by decide] at hv128
              have hF := hF.tr k124 (by decide)
              have c129 := k124.gi hkq1_ (by decide) c118
              have c130 := k124.gi kC_at1 (by decide) c120
              obtain ⟨x125, c126, rx125, tx125⟩ := hg127
              replace hM := hM.call hv128 rfl
              obtain rfl : v28_2 = 1 := wk_eq.mpr (show v28_2.toInt = 1 by first | exact Int.le_antisymm (by omega) (by omega) | omega)
              try simp only [show (1 : Int32).toInt = 1 by decide] at hM
              exact J74 r97 H locs ls w123 (show 0 ≤ v28_3.toInt from r15) (show v28_3.toInt ≤ 12 by first | with_reducible assumption | omega) (show (-1) ≤ r97.toInt by first | with_reducible assumption | omega) (show r97.toInt ≤ 18 by first | with_reducible assumption | omega) (show 0 ≤ f28_q1__4.toInt from r20) (show f28_q1__4.toInt ≤ 12 from t21)  hw hT hF c129 hM (lv_sub hl [1, 2, 3, 4, 0] rfl)
          · replace hM := hM.call (r' := (-1)) hv106 (by decide)
            refine lv_istore (lv' := [(4, .int (-1)), (0, .ref (ad 3)), (1, .ref (ad q1_)), (2, .int v28_2), (3, .int v28_3)]) hx hb dX3_readInto_47 hl (by decide) rfl (fun ls hl => ?_)
            refine lv_aload_n hx hb dX3_readInto_49 rfl (lv_at hl 1 rfl) ?_
            refine tk_getQ hC hK hw hT hkq1_ (by decide) hinX3 kC_at3 (by decide) rfl 1 (by decide) (List.mem_cons_of_mem _ uw_26_17) rfl rfl dX3_readInto_50 ?_
            refine tk_Vi hC hK hw hT hA hE hSR hkq1_ (by decide) rfl (kz_X2_isFull_1 l adK adV dC dI cy ad B hB0 (Int.le_trans hB1 (by decide)) q1_ s1   q1_ hkq1_ w99 H.size hT ) (cwV 0 hC.2.2.2.2 uV_RX3_39 rfl rfl rfl (by decide +kernel) ⟨Nat.le_of_ble_eq_true rfl, Nat.le_of_ble_eq_true rfl⟩) rfl hl.1 rfl (Nat.le_of_ble_eq_true rfl) dX3_readInto_53 (fun r131 w133 H locs hp132 hw => ?_)
            obtain ⟨hT, k134, hv140, hg139⟩ := hp132
            have hF := hF.tr k134 (by decide)
            have c141 := k134.gi hkq1_ (by decide) c107
            have c142 := k134.gi kC_at1 (by decide) c104
            rcases hg139 with ⟨rfl, ⟨x135, c136, rx135, tx135⟩⟩ | ⟨rfl, ⟨x137, c138, rx137, tx137⟩⟩
            · replace hM := hM.call (r' := 0) hv140 (by decide)
              have ex135 : x135.toInt = f28_q1__4.toInt := by rw [← c141.symm.trans c136]
              refine lv_if_eq (tgt := 74) hx hb dX3_readInto_56 (by decide) (fun _ => ?_) (fun c => absurd (by decide) c)
              replace hM := hM.pos (by decide)
              obtain rfl : v28_2 = 1 := wk_eq.mpr (show v28_2.toInt = 1 by first | exact Int.le_antisymm (by omega) (by omega) | omega)
              try simp only [show (1 : Int32).toInt = 1 by decide] at hM
              exact J74 (-1) H locs ls w133 (show 0 ≤ v28_3.toInt from r15) (show v28_3.toInt ≤ 12 by first | with_reducible assumption | omega) (by decide) (by decide) (show 0 ≤ f28_q1__4.toInt from r20) (show f28_q1__4.toInt ≤ 12 from t21)  hw hT hF c141 hM (lv_sub hl [1, 2, 3, 4, 0] rfl)
            · replace hM := hM.call (r' := 1) hv140 (by decide)
              have ex137 : x137.toInt = f28_q1__4.toInt := by rw [← c141.symm.trans c138]
              refine lv_if_eq (tgt := 74) hx hb dX3_readInto_56 (by decide) (fun c => absurd c (by decide)) (fun _ => ?_)
              replace hM := hM.neg (by decide)
              refine lv_aload_n hx hb dX3_readInto_59 rfl (lv_at hl 1 rfl) ?_
              refine tk_getA hC hK hw hT hinX3 kC_at3 (by decide) rfl 0 (by decide) (List.mem_cons_of_mem _ uw_3_12) rfl rfl dX3_readInto_60 ?_
              refine lv_aload_n hx hb dX3_readInto_63 rfl (lv_at hl 1 rfl) ?_
              refine tk_getA hC hK hw hT hinX3 kC_at3 (by decide) rfl 0 (by decide) (List.mem_cons_of_mem _ uw_3_12) rfl rfl dX3_readInto_64 ?_
              refine tk_geti hC hK hw hT hinX6 kC_at1 (by decide) rfl 3 (by decide) (List.mem_cons_of_mem _ uw_26_19) rfl rfl dX3_readInto_67 (fun x143 c144 rx143 tx143 => ?_)
              replace hM := hM.rd (sI_at c144)
              refine lv_iconst (v := 4) hx hb dX3_readInto_70 (by decide) ?_
              refine tk_Vv hC hK hw hT hA hE hSR kC_at1 (by decide) rfl (kz_X6_blame_3 l adK adV dC dI cy ad B hB0 (Int.le_trans hB1 (by decide)) q1_ s1   x143 (show 0 ≤ x143.toInt from rx143) (show x143.toInt ≤ 400 from tx143) 4 (by decide) (by decide) w133 H.size hT x103 c142 (show 1 ≤ x103.toInt by first | with_reducible assumption | omega) (show x103.toInt ≤ 3205 by first | with_reducible assumption | omega)) (cwV 2 hC.2.2.2.2 uV_RX3_46 rfl rfl rfl (by decide +kernel) ⟨Nat.le_of_ble_eq_true rfl, Nat.le_of_ble_eq_true rfl⟩) rfl hl.1 rfl (Nat.le_of_ble_eq_true rfl) dX3_readInto_71 (fun w147 H locs hp146 hw => ?_)
              obtain ⟨hT, k148, hv152, hg151⟩ := hp146
              try simp only [show (4 : Int32).toInt = 4 by decide] at hv152
              have hF := hF.tr k148 (by decide)
              have c153 := k148.gi hkq1_ (by decide) c141
              have c154 := k148.gi kC_at1 (by decide) c142
              have c155 := k148.gi kC_at1 (by decide) c144
              obtain ⟨x149, c150, rx149, tx149⟩ := hg151
              replace hM := hM.call hv152 rfl
              have ex149 : x149.toInt = x103.toInt := by rw [← c154.symm.trans c150]
              obtain rfl : v28_2 = 1 := wk_eq.mpr (show v28_2.toInt = 1 by first | exact Int.le_antisymm (by omega) (by omega) | omega)
              try simp only [show (1 : Int32).toInt = 1 by decide] at hM
              exact J74 (-1) H locs ls w147 (show 0 ≤ v28_3.toInt from r15) (show v28_3.toInt ≤ 12 by first | with_reducible assumption | omega) (by decide) (by decide) (show 0 ≤ f28_q1__4.toInt from r20) (show f28_q1__4.toInt ≤ 12 from t21)  hw hT hF c153 hM (lv_sub hl [1, 2, 3, 4, 0] rfl)
  have hM : TT (fun n => m_X3_readInto n 3 q1_ (sI w0)) (fun n => m_X3_readInto n 3 q1_ (sI w0)) := TT.rf
  refine lv_aload_n hx hb dX3_readInto_0 rfl (lv_at hl 0 rfl) ?_
  refine lv_aload_n hx hb dX3_readInto_1 rfl (lv_at hl 1 rfl) ?_
  have hTq := hT
  refine tk_putQ hC hK hw hT hkq1_ hinX3 tyX3_ok nmX3 rfl (by decide) (List.mem_cons_of_mem _ uw_26_17) rfl rfl rfl rfl rfl dX3_readInto_2 (fun H locs w156 hw hT k158 => ?_)
  replace hM := hM.st (sI_ref hTq hT k158 kC_at3 (by decide) rfl)
  have hF := hF.put kC_at3 (k := 1) (by decide) k158
  refine lv_aload_n hx hb dX3_readInto_5 rfl (lv_at hl 0 rfl) ?_
  refine tk_getQ hC hK hw hT hkq1_ (by decide) hinX3 kC_at3 (by decide) rfl 1 (by decide) (List.mem_cons_of_mem _ uw_26_17) rfl rfl dX3_readInto_6 ?_
  refine tk_Vv hC hK hw hT hA hE hSR hkq1_ (by decide) rfl (kz_X2_clear_1 l adK adV dC dI cy ad B hB0 (Int.le_trans hB1 (by decide)) q1_ s1   q1_ hkq1_ w156 H.size hT ) (cwV 0 hC.2.2.2.2 uV_RX3_19 rfl rfl rfl (by decide +kernel) ⟨Nat.le_of_ble_eq_true rfl, Nat.le_of_ble_eq_true rfl⟩) rfl hl.1 rfl (Nat.le_of_ble_eq_true rfl) dX3_readInto_9 (fun w161 H locs hp160 hw => ?_)
  obtain ⟨hT, k162, hv170, hg169⟩ := hp160
  have hF := hF.tr k162 (by decide)
  obtain ⟨⟨x163, c164, rx163, tx163⟩, ⟨x165, c166, rx165, tx165⟩, ⟨x167, c168, rx167, tx167⟩⟩ := hg169
  replace hM := hM.call hv170 rfl
  refine lv_aload_n hx hb dX3_readInto_12 rfl (lv_at hl 0 rfl) ?_
  refine lv_iconst (v := 0) hx hb dX3_readInto_13 (by decide) ?_
  refine tk_puti hC hK hw hT hinX3 tyX3_ok nmX3 kC_at3 (by decide) rfl rfl 2 (by decide) (List.mem_cons_of_mem _ uw_26_18) rfl rfl rfl rfl (by decide) (by decide) dX3_readInto_14 (fun H locs w171 hw hT k173 c172 => ?_)
  replace hM := hM.wr (sI_upc k173 c172 (by decide))
  have hF := hF.put kC_at3 (k := 2) (by decide) k173
  have c174 := k173.gi (Or.inr (by decide)) c164
  have c175 := k173.gi (Or.inr (by decide)) c166
  have c176 := k173.gi (Or.inr (by decide)) c168
  refine lv_aload_n hx hb dX3_readInto_17 rfl (lv_at hl 0 rfl) ?_
  refine tk_getA hC hK hw hT hinX3 kC_at3 (by decide) rfl 0 (by decide) (List.mem_cons_of_mem _ uw_3_12) rfl rfl dX3_readInto_18 ?_
  refine tk_Vv hC hK hw hT hA hE hSR kC_at1 (by decide) rfl (kz_X6_startReading_1 l adK adV dC dI cy ad B hB0 (Int.le_trans hB1 (by decide)) q1_ s1    w171 H.size hT ) (cwV 0 hC.2.2.2.2 uV_RX3_28 rfl rfl rfl (by decide +kernel) ⟨Nat.le_of_ble_eq_true rfl, Nat.le_of_ble_eq_true rfl⟩) rfl hl.1 rfl (Nat.le_of_ble_eq_true rfl) dX3_readInto_21 (fun w179 H locs hp178 hw => ?_)
  obtain ⟨hT, k180, hv188, hg187⟩ := hp178
  have hF := hF.tr k180 (by decide)
  have c189 := k180.gi hkq1_ (by decide) c174
  have c190 := k180.gi hkq1_ (by decide) c175
  have c191 := k180.gi hkq1_ (by decide) c176
  have c192 := k180.gi kC_at3 (by decide) c172
  obtain ⟨⟨x181, c182, rx181, tx181⟩, ⟨x183, c184, rx183, tx183⟩, ⟨x185, c186, rx185, tx185⟩⟩ := hg187
  replace hM := hM.call hv188 rfl
  refine lv_iconst (v := 1) hx hb dX3_readInto_24 (by decide) ?_
  refine lv_istore_n (lv' := [(2, .int 1), (0, .ref (ad 3)), (1, .ref (ad q1_))]) hx hb dX3_readInto_25 rfl hl (by decide) rfl (fun ls hl => ?_)
  refine lv_iconst (v := 0) hx hb dX3_readInto_26 (by decide) ?_
  refine lv_istore_n (lv' := [(3, .int 0), (2, .int 1), (0, .ref (ad 3)), (1, .ref (ad q1_))]) hx hb dX3_readInto_27 rfl hl (by decide) rfl (fun ls hl => ?_)
  exact L28 ((13 - (0 : Int)).toNat + 1) 1 0 x185 x165 H locs ls w179 (by decide) (by decide) (by decide) (by decide) (show 0 ≤ x185.toInt by first | with_reducible assumption | omega) (show x185.toInt ≤ 3205 by first | with_reducible assumption | omega) (show 0 ≤ x165.toInt by first | with_reducible assumption | omega) (show x165.toInt ≤ 12 by first | with_reducible assumption | omega) (Nat.lt_succ_self _) hw hT hF c186 c190 hM (lv_sub hl [2, 3, 1, 0] rfl)
abbrev Pz_X11_rule_1 (ad : Nat → Nat) (cy : Nat → ClassId) (B : Int) (qr : Nat) (s1 : Int)  (w0 : va_W) : Int32 → va_W → Prop := fun r u => (∃ qn : Nat, TW ksC ad cy B qn s1 u) ∧ FE ksC [(2, 3, 3), (2, 4, 4), (2, 5, 5), (3, 1, 1), (3, 2, 2), (6, 1, 1), (6, 2, 2), (6, 3, 3), (6, 4, 4), (11, 12, 12), (21, 0, 12), (22, 0, 13), (23, 0, 400)] w0 u ∧ Ev (fun n => m_X11_rule n 0 (sI w0)) (r.toInt, sI u) ∧ (((-3207) ≤ r.toInt ∧ r.toInt ≤ (-3) ∧ (∃ y : Int32, gi u 0 12 = y ∧ 0 ≤ y.toInt ∧ y.toInt ≤ 5) ∧ (∃ y : Int32, gi u 1 2 = y ∧ 0 ≤ y.toInt ∧ y.toInt ≤ 0) ∧ (∃ y : Int32, gi u 1 4 = y ∧ 1 ≤ y.toInt ∧ y.toInt ≤ 3205)) ∨ (0 ≤ r.toInt ∧ r.toInt ≤ 5 ∧ (∃ y : Int32, gi u 0 12 = y ∧ 1 ≤ y.toInt ∧ y.toInt ≤ 6) ∧ (∃ y : Int32, gi u 1 2 = y ∧ 0 ≤ y.toInt ∧ y.toInt ≤ 0) ∧ (∃ y : Int32, gi u 1 4 = y ∧ 0 ≤ y.toInt ∧ y.toInt ≤ 0)) ∨ (r = (-1) ∧ (∃ y : Int32, gi u 0 12 = y ∧ 6 ≤ y.toInt ∧ y.toInt ≤ 6)))
set_option maxHeartbeats 4000000 in
set_option maxRecDepth 100000 in
theorem kz_X11_rule_1 (l : Launch) (adK adV : Nat → Nat) (dC : Nat → ClassId) (dI : Nat → Nat → Nat) (cy : Nat → ClassId) (ad : Nat → Nat) (B : Int) (hB0 : 2147483648 ≤ B) (hB1 : B ≤ 1152921504606846976) (qr : Nat) (s1 : Int)   (w0 : va_W) (sz : Nat) (hT : TW ksC ad cy B qr s1 w0)  : Met l yX11_rule (wu yX11_rule cX11_rule 2 (some .int)) ({ frames := 31, cells := 0, slots := 0, locals := 752 }) (va_Pc [.ref (ad 0)] (wpreS adK adV dC dI cy sz w0)) (va_Qi (Pz_X11_rule_1 ad cy B qr s1  w0) (fun u : va_W => wpost dC dI cy (va_A w0 sz) u) (va_A w0 sz)) 0 0 (va_A w0 sz) := by
  refine Met.ofW (cc := cX11_rule) (maxL := 2) (ret := (some .int)) (by decide) rfl ?_
  intro p e s m args below meth c s₁ Bk hml hv
  obtain ⟨rfl, ⟨hsz, hP, hK, hD0⟩, hE, hSR⟩ := hv
  have hx := Bk.exec
  have hb := Bk.bytes
  have hr := Bk.returns
  have hlocks := Bk.notSynchronized
  have hC : CallFix p m c cX11_rule 2 s _ (wu yX11_rule cX11_rule 2 (some .int)) RX11 := ⟨hx, hb, hml, findClass_of_methodNamed Bk.named, atoms_spec (ws := (wu yX11_rule cX11_rule 2 (some .int))) Bk.pre⟩
  subst hsz
  have hD := hD0.self (sz := s.heap.size)
  generalize hAe : va_A w0 s.heap.size = A at hD hE ⊢
  have hA : ∀ q : Nat, s.heap.size ≤ q → A q := fun q h => by rw [← hAe]; exact Or.inr h
  have hw : Wd dC dI A s.heap s.heap [] w0 := ⟨hP, hD, va_S.rf⟩
  have hF : FE ksC [(2, 3, 3), (2, 4, 4), (2, 5, 5), (3, 1, 1), (3, 2, 2), (6, 1, 1), (6, 2, 2), (6, 3, 3), (6, 4, 4), (11, 12, 12), (21, 0, 12), (22, 0, 13), (23, 0, 400)] w0 w0 := FE.rf
  have hl := lv_entry ([.ref (ad 0)]) (n := 2) (Nat.le_of_ble_eq_true rfl)
  rw [lg_entry_eq]
  generalize (lg_sl ([.ref (ad 0)]) ++ List.replicate (2 - (lg_sl ([.ref (ad 0)])).length) Slot.unset).toArray = ls at hl ⊢
  have hl : lv_has ls 2 [(0, .ref (ad 0))] := hl
  generalize hloc : ([] : List Loc) = locs at hw ⊢
  have hinX11 : ∀ w ∈ u_ws RX11 TX11 13, w ∈ (wu yX11_rule cX11_rule 2 (some .int)) := fun _ h => List.mem_cons_of_mem _ (up_70 h)
  have hinX6 : ∀ w ∈ u_ws RX6 TX6 5, w ∈ (wu yX11_rule cX11_rule 2 (some .int)) := fun _ h => List.mem_cons_of_mem _ (up_72 h)
  have hM : TT (fun n => m_X11_rule n 0 (sI w0)) (fun n => m_X11_rule n 0 (sI w0)) := TT.rf
  refine lv_aload_n hx hb dX11_rule_0 rfl (lv_at hl 0 rfl) ?_
  refine tk_geti hC hK hw hT hinX11 kC_at0 (by decide) rfl 12 (by decide) (List.mem_cons_of_mem _ uw_26_12) rfl rfl dX11_rule_1 (fun x1 c2 rx1 tx1 => ?_)
  replace hM := hM.rd (sI_at c2)
  refine lv_bipush (v := 6) hx hb dX11_rule_4 (by decide) ?_
  refine lv_icmp_lt (tgt := 11) hx hb dX11_rule_6 (by decide) (fun c3 => ?_) (fun c3 => ?_)
  · have c3 : x1.toInt < (6 : Int) := wk_lt.mp c3
    replace hM := hM.pos c3
    refine lv_aload_n hx hb dX11_rule_11 rfl (lv_at hl 0 rfl) ?_
    refine tk_getA hC hK hw hT hinX11 kC_at0 (by decide) rfl 3 (by decide) (List.mem_cons_of_mem _ uw_1_3) rfl rfl dX11_rule_12 ?_
    refine lv_aload_n hx hb dX11_rule_15 rfl (lv_at hl 0 rfl) ?_
    refine tk_getA hC hK hw hT hinX11 kC_at0 (by decide) rfl 2 (by decide) (List.mem_cons_of_mem _ uw_0_21) rfl rfl dX11_rule_16 ?_
    refine lv_aload_n hx hb dX11_rule_19 rfl (lv_at hl 0 rfl) ?_
    refine tk_geti hC hK hw hT hinX11 kC_at0 (by decide) rfl 12 (by decide) (List.mem_cons_of_mem _ uw_26_12) rfl rfl dX11_rule_20 (fun x4 c5 rx4 tx4 => ?_)
    refine wk_top x1 (c5.symm.trans c2) ?_
    replace hM := hM.rd (sI_at c2)
    refine tk_aald hC hK hw hT kC_at4 rfl (by decide) rfl (show 0 ≤ x1.toInt from rx1) (show x1.toInt < 6 by first | with_reducible assumption | omega) dX11_rule_23 (fun j6 hj6 gj6 => ?_)
    replace hM := hM.ix gj6
    refine tk_Vv hC hK hw hT hA hE hSR kC_at3 (by decide) rfl (kz_X3_readInto_1 l adK adV dC dI cy ad B hB0 (Int.le_trans hB1 (by decide)) qr s1   (el 39 4 j6) (kC_el39 kC_at4 hj6) w0 s.heap.size hT ) (cwV 1 hC.2.2.2.2 uV_RX11_129 rfl rfl rfl (by decide +kernel) ⟨Nat.le_of_ble_eq_true rfl, Nat.le_of_ble_eq_true rfl⟩) rfl hl.1 rfl (Nat.le_of_ble_eq_true rfl) dX11_rule_24 (fun w9 H locs hp8 hw => ?_)
    obtain ⟨hT, k10, hv14, hg13⟩ := hp8
    have hF := hF.tr k10 (by decide)
    have c15 := k10.gi kC_at0 (by decide) c2
    obtain ⟨x11, c12, rx11, tx11⟩ := hg13
    replace hM := hM.call hv14 rfl
    refine lv_aload_n hx hb dX11_rule_27 rfl (lv_at hl 0 rfl) ?_
    refine tk_getA hC hK hw hT hinX11 kC_at0 (by decide) rfl 0 (by decide) (List.mem_cons_of_mem _ uw_0_15) rfl rfl dX11_rule_28 ?_
    refine tk_geti hC hK hw hT hinX6 kC_at1 (by decide) rfl 4 (by decide) (List.mem_cons_of_mem _ uw_9_0) rfl rfl dX11_rule_31 (fun x16 c17 rx16 tx16 => ?_)
    refine wk_top x11 (c17.symm.trans c12) ?_
    replace hM := hM.rd (sI_at c12)
    refine lv_istore_n (lv' := [(1, .int x11), (0, .ref (ad 0))]) hx hb dX11_rule_34 rfl hl (by decide) rfl (fun ls hl => ?_)
    refine lv_aload_n hx hb dX11_rule_35 rfl (lv_at hl 1 rfl) ?_
    refine tk_getA hC hK hw hT hinX11 kC_at0 (by decide) rfl 0 (by decide) (List.mem_cons_of_mem _ uw_0_15) rfl rfl dX11_rule_36 ?_
    refine lv_iconst (v := 0) hx hb dX11_rule_39 (by decide) ?_
    refine tk_puti hC hK hw hT hinX6 tyX6_ok nmX6 kC_at1 (by decide) rfl rfl 2 (by decide) (List.mem_cons_of_mem _ uw_7_17) rfl rfl rfl rfl (by decide) (by decide) dX11_rule_40 (fun H locs w18 hw hT k20 c19 => ?_)
    replace hM := hM.wr (sI_upc k20 c19 (by decide))
    have hF := hF.put kC_at1 (k := 2) (by decide) k20
    have c21 := k20.gi (Or.inr (by decide)) c15
    have c22 := k20.gi (Or.inr (by decide)) c12
    refine lv_iload_n hx hb dX11_rule_43 rfl (lv_at hl 0 rfl) ?_
    refine lv_if_eq (tgt := 52) hx hb dX11_rule_44 (by decide) (fun c23 => ?_) (fun c23 => ?_)
    · have c23 : x11.toInt = (0 : Int) := wk_eq.mp c23
      replace hM := hM.pos c23
      refine lv_aload_n hx hb dX11_rule_52 rfl (lv_at hl 1 rfl) ?_
      refine lv_dup hx hb dX11_rule_53 rfl ?_
      refine tk_geti hC hK hw hT hinX11 kC_at0 (by decide) rfl 12 (by decide) (List.mem_cons_of_mem _ uw_26_12) rfl rfl dX11_rule_54 (fun x24 c25 rx24 tx24 => ?_)
      refine wk_top x1 (c25.symm.trans c21) ?_
      replace hM := hM.rd (sI_at c21)
      refine lv_iconst (v := 1) hx hb dX11_rule_57 (by decide) ?_
      refine lv_iadd hx hb dX11_rule_58 ?_
      refine lv_topi (fun x26 ex26 => ?_)
      have ezx26 := ex26
      have ex26 : x26.toInt = x1.toInt + (1 : Int) := by rw [ex26]; exact wk_add (show (-2147483648) ≤ x1.toInt + (1 : Int) by omega) (show x1.toInt + (1 : Int) ≤ 2147483647 by omega)
      replace hM := hM.lt ex26.symm
      refine tk_puti hC hK hw hT hinX11 tyX11_ok nmX11 kC_at0 (by decide) rfl rfl 12 (by decide) (List.mem_cons_of_mem _ uw_26_12) rfl rfl rfl rfl (show 0 ≤ x26.toInt by first | with_reducible assumption | omega) (show x26.toInt ≤ 6 by first | with_reducible assumption | omega) dX11_rule_59 (fun H locs w27 hw hT k29 c28 => ?_)
      replace hM := hM.wr (sI_up k29 c28)
      have hF := hF.put kC_at0 (k := 12) (by decide) k29
      have c30 := k29.gi (Or.inr (by decide)) c22
      have c31 := k29.gi (Or.inr (by decide)) c19
      refine lv_aload_n hx hb dX11_rule_62 rfl (lv_at hl 1 rfl) ?_
      refine tk_geti hC hK hw hT hinX11 kC_at0 (by decide) rfl 12 (by decide) (List.mem_cons_of_mem _ uw_26_12) rfl rfl dX11_rule_63 (fun x32 c33 rx32 tx32 => ?_)
      refine wk_top x26 (c33.symm.trans c28) ?_
      replace hM := hM.rd (sI_at c28)
      refine lv_iconst (v := 1) hx hb dX11_rule_66 (by decide) ?_
      refine lv_isub hx hb dX11_rule_67 ?_
      refine lv_topi (fun x34 ex34 => ?_)
      have ezx34 := ex34
      have ex34 : x34.toInt = x26.toInt - (1 : Int) := by rw [ex34]; exact wk_sub (show (-2147483648) ≤ x26.toInt - (1 : Int) by omega) (show x26.toInt - (1 : Int) ≤ 2147483647 by omega)
      replace hM := hM.lt ex34.symm
      exact tk_iret hC hr hlocks hK ⟨⟨_, hT⟩, hF, hM.ret rfl, (Or.inr (Or.inl ⟨(show 0 ≤ x34.toInt by first | with_reducible assumption | omega), (show x34.toInt ≤ 5 by first | with_reducible assumption | omega), ⟨x26, c28, (show 1 ≤ x26.toInt by first | with_reducible assumption | omega), (show x26.toInt ≤ 6 by first | with_reducible assumption | omega)⟩, ⟨0, c31, (by decide), (by decide)⟩, ⟨x11, c30, (show 0 ≤ x11.toInt by first | with_reducible assumption | omega), (show x11.toInt ≤ 0 by first | with_reducible assumption | omega)⟩⟩))⟩ hw dX11_rule_68
    · have c23 : ¬ x11.toInt = (0 : Int) := wk_eqF c23
      replace hM := hM.neg c23
      refine lv_bipush (v := (-2)) hx hb dX11_rule_47 (by decide) ?_
      refine lv_iload_n hx hb dX11_rule_49 rfl (lv_at hl 0 rfl) ?_
      refine lv_isub hx hb dX11_rule_50 ?_
      refine lv_topi (fun x35 ex35 => ?_)
      have ezx35 := ex35
      have ex35 : x35.toInt = (-2 : Int) - x11.toInt := by rw [ex35]; exact wk_sub (show (-2147483648) ≤ (-2 : Int) - x11.toInt by omega) (show (-2 : Int) - x11.toInt ≤ 2147483647 by omega)
      replace hM := hM.lt ex35.symm
      exact tk_iret hC hr hlocks hK ⟨⟨_, hT⟩, hF, hM.ret rfl, (Or.inl ⟨(show (-3207) ≤ x35.toInt by first | with_reducible assumption | omega), (show x35.toInt ≤ (-3) by first | with_reducible assumption | omega), ⟨x1, c21, (show 0 ≤ x1.toInt from rx1), (show x1.toInt ≤ 5 by first | with_reducible assumption | omega)⟩, ⟨0, c19, (by decide), (by decide)⟩, ⟨x11, c22, (show 1 ≤ x11.toInt by first | with_reducible assumption | omega), (show x11.toInt ≤ 3205 by first | with_reducible assumption | omega)⟩⟩)⟩ hw dX11_rule_51
  · have c3 : (6 : Int) ≤ x1.toInt := wk_ltF c3
    replace hM := hM.neg (Int.not_lt.mpr c3)
    refine lv_iconst (v := (-1)) hx hb dX11_rule_9 (by decide) ?_
    exact tk_iret hC hr hlocks hK ⟨⟨_, hT⟩, hF, hM.ret (by decide), (Or.inr (Or.inr ⟨rfl, ⟨x1, c2, (show 6 ≤ x1.toInt by first | with_reducible assumption | omega), (show x1.toInt ≤ 6 from tx1)⟩⟩))⟩ hw dX11_rule_10
