abbrev Pz_X3_readFact_5 (ad : Nat → Nat) (cy : Nat → ClassId) (B : Int) (qr : Nat) (s1 : Int)  (w0 : va_W) : va_W → Prop := fun u => TW ksC ad cy B qr s1 u ∧ FE ksC [(2, 3, 3), (3, 2, 2), (6, 1, 1), (6, 3, 3), (6, 4, 4), (22, 0, 13), (23, 0, 400)] w0 u ∧ Ev (fun n => m_X3_readFact n qr 3 4 (sI w0)) (0, sI u) ∧ ((True))
set_option maxHeartbeats 4000000 in
set_option maxRecDepth 100000 in
theorem kz_X3_readFact_5 (l : Launch) (adK adV : Nat → Nat) (dC : Nat → ClassId) (dI : Nat → Nat → Nat) (cy : Nat → ClassId) (ad : Nat → Nat) (B : Int) (hB0 : 2147483648 ≤ B) (hB1 : B ≤ 1152921504606846976) (qr : Nat) (s1 : Int) (hqr : ksC[qr]? = some 2)  (w0 : va_W) (sz : Nat) (hT : TW ksC ad cy B qr s1 w0) (cf0_ : gi w0 1 4 = 0) : Met l yX3_readFact (wu yX3_readFact cX3_readFact 5 none) ({ frames := 20, cells := 0, slots := 0, locals := 493 }) (va_Pc [.ref (ad 3), .int 4] (wpreS adK adV dC dI cy sz w0)) (va_Qv (Pz_X3_readFact_5 ad cy B qr s1  w0) (fun u : va_W => wpost dC dI cy (va_A w0 sz) u) (va_A w0 sz)) 0 0 (va_A w0 sz) := by
  refine Met.ofW (cc := cX3_readFact) (maxL := 5) (ret := none) (by decide) rfl ?_
  intro p e s m args below meth c s₁ Bk hml hv
  obtain ⟨rfl, ⟨hsz, hP, hK, hD0⟩, hE, hSR⟩ := hv
  have hx := Bk.exec
  have hb := Bk.bytes
  have hr := Bk.returns
  have hlocks := Bk.notSynchronized
  have hC : CallFix p m c cX3_readFact 5 s _ (wu yX3_readFact cX3_readFact 5 none) RX3 := ⟨hx, hb, hml, findClass_of_methodNamed Bk.named, atoms_spec (ws := (wu yX3_readFact cX3_readFact 5 none)) Bk.pre⟩
  subst hsz
  have hD := hD0.self (sz := s.heap.size)
  generalize hAe : va_A w0 s.heap.size = A at hD hE ⊢
  have hA : ∀ q : Nat, s.heap.size ≤ q → A q := fun q h => by rw [← hAe]; exact Or.inr h
  have hw : Wd dC dI A s.heap s.heap [] w0 := ⟨hP, hD, va_S.rf⟩
  have hF : FE ksC [(2, 3, 3), (3, 2, 2), (6, 1, 1), (6, 3, 3), (6, 4, 4), (22, 0, 13), (23, 0, 400)] w0 w0 := FE.rf
  have hl := lv_entry ([.ref (ad 3), .int 4]) (n := 5) (Nat.le_of_ble_eq_true rfl)
  rw [lg_entry_eq]
  generalize (lg_sl ([.ref (ad 3), .int 4]) ++ List.replicate (5 - (lg_sl ([.ref (ad 3), .int 4])).length) Slot.unset).toArray = ls at hl ⊢
  have hl : lv_has ls 5 [(0, .ref (ad 3)), (1, .int 4)] := hl
  generalize hloc : ([] : List Loc) = locs at hw ⊢
  have hinX3 : ∀ w ∈ u_ws RX3 TX3 3, w ∈ (wu yX3_readFact cX3_readFact 5 none) := fun _ h => List.mem_cons_of_mem _ (up_75 h)
  have J160 : ∀ (v160_2 : Int32) (v160_3 : Int32) (H : Heap) (locs : List Loc) (ls : Array Slot) (w1 : va_W), 0 ≤ v160_2.toInt → v160_2.toInt ≤ 1 → 0 ≤ v160_3.toInt → v160_3.toInt ≤ 1 → Wd dC dI A s.heap H locs w1 → TW ksC ad cy B qr s1 w1 → FE ksC [(2, 3, 3), (3, 2, 2), (6, 1, 1), (6, 3, 3), (6, 4, 4), (22, 0, 13), (23, 0, 400)] w0 w1 → TT (fun n => m_X3_readFact n qr 3 4 (sI w0)) (fun n => b_X3_readFact_160 (j_X3_readFact_X3_readTest qr 3 n) n qr 3 (sI w1)) → lv_has ls 5 [(0, .ref (ad 3)), (1, .int 4), (2, .int v160_2), (3, .int v160_3)] → W p l e ({ frames := 20, cells := 0, slots := 0, locals := 493 }) s m (List.toArray [.ref (ad 3), .int 4]) below meth c H locs 0 0 (MQ below (va_Qv (Pz_X3_readFact_5 ad cy B qr s1  w0) (fun u : va_W => wpost dC dI cy A u) A) (List.toArray [.ref (ad 3), .int 4]) s 0 0 A) (F0 m 160 ls []) := by
    intro v160_2 v160_3 H locs ls w1 r2 t3 r4 t5 hw hT hF hM hl
    exact tk_vret hC hr hlocks hK ⟨hT, hF, hM.ret rfl, trivial⟩ hw dX3_readFact_160
  have J77 : ∀ (v77_2 : Int32) (v77_3 : Int32) (H : Heap) (locs : List Loc) (ls : Array Slot) (w6 : va_W), 0 ≤ v77_2.toInt → v77_2.toInt ≤ 1 → 0 ≤ v77_3.toInt → v77_3.toInt ≤ 1 → Wd dC dI A s.heap H locs w6 → TW ksC ad cy B qr s1 w6 → FE ksC [(2, 3, 3), (3, 2, 2), (6, 1, 1), (6, 3, 3), (6, 4, 4), (22, 0, 13), (23, 0, 400)] w0 w6 → gi w6 1 4 = 0 → TT (fun n => m_X3_readFact n qr 3 4 (sI w0)) (fun n => b_X3_readFact_77 (j_X3_readFact_X3_readTest qr 3 n) n qr 3 (4 : Int) (v77_2.toInt) (sI w6)) → lv_has ls 5 [(0, .ref (ad 3)), (1, .int 4), (2, .int v77_2), (3, .int v77_3)] → W p l e ({ frames := 20, cells := 0, slots := 0, locals := 493 }) s m (List.toArray [.ref (ad 3), .int 4]) below meth c H locs 0 0 (MQ below (va_Qv (Pz_X3_readFact_5 ad cy B qr s1  w0) (fun u : va_W => wpost dC dI cy A u) A) (List.toArray [.ref (ad 3), .int 4]) s 0 0 A) (F0 m 77 ls []) := by
    intro v77_2 v77_3 H locs ls w6 r7 t8 r9 t10 hw hT hF c11 hM hl
    refine lv_iload_n hx hb dX3_readFact_77 rfl (lv_at hl 1 rfl) ?_
    refine lv_bipush (v := 10) hx hb dX3_readFact_78 (by decide) ?_
    refine lv_icmp_lt (tgt := 101) hx hb dX3_readFact_80 (by decide) (fun _ => ?_) (fun c => absurd (by decide) c)
    replace hM := hM.pos (by decide)
    refine lv_iload_n hx hb dX3_readFact_101 rfl (lv_at hl 2 rfl) ?_
    refine lv_if_eq (tgt := 124) hx hb dX3_readFact_102 (by decide) (fun c12 => ?_) (fun c12 => ?_)
    · have c12 : v77_2.toInt = (0 : Int) := wk_eq.mp c12
      replace hM := hM.pos c12
      refine lv_aload_n hx hb dX3_readFact_124 rfl (lv_at hl 0 rfl) ?_
      refine lv_iload_n hx hb dX3_readFact_125 rfl (lv_at hl 1 rfl) ?_
      refine lv_iconst (v := 1) hx hb dX3_readFact_126 (by decide) ?_
      refine lv_iadd hx hb dX3_readFact_127 ?_
      refine wk_top 5 (by decide) ?_
      replace hM := hM.lt (v := 5) (by decide)
      refine tk_Vv hC hK hw hT hA hE hSR kC_at3 (by decide) rfl (kz_X3_readTest_6 l adK adV dC dI cy ad B hB0 (Int.le_trans hB1 (by decide)) qr s1 hqr   w6 H.size hT c11) (cwV 1 hC.2.2.2.2 uV_RX3_63 rfl rfl rfl (by decide +kernel) ⟨Nat.le_of_ble_eq_true rfl, Nat.le_of_ble_eq_true rfl⟩) rfl hl.1 rfl (Nat.le_of_ble_eq_true rfl) dX3_readFact_128 (fun w15 H locs hp14 hw => ?_)
      obtain ⟨hT, k16, hv18, hg17⟩ := hp14
      have hF := hF.tr k16 (by decide)
      clear hg17
      replace hM := hM.call hv18 rfl
      refine lv_aload_n hx hb dX3_readFact_131 rfl (lv_at hl 0 rfl) ?_
      refine tk_getA hC hK hw hT hinX3 kC_at3 (by decide) rfl 0 (by decide) (List.mem_cons_of_mem _ uw_3_12) rfl rfl dX3_readFact_132 ?_
      refine tk_Vi hC hK hw hT hA hE hSR kC_at1 (by decide) rfl (kz_X6_isFaulty_1 l adK adV dC dI cy ad B hB0 (Int.le_trans hB1 (by decide)) qr s1    w15 H.size hT ) (cwV 0 hC.2.2.2.2 uV_RX3_54 rfl rfl rfl (by decide +kernel) ⟨Nat.le_of_ble_eq_true rfl, Nat.le_of_ble_eq_true rfl⟩) rfl hl.1 rfl (Nat.le_of_ble_eq_true rfl) dX3_readFact_135 (fun r19 w21 H locs hp20 hw => ?_)
      obtain ⟨hT, k22, hv28, hg27⟩ := hp20
      have hF := hF.tr k22 (by decide)
      rcases hg27 with ⟨rfl, ⟨x23, c24, rx23, tx23⟩⟩ | ⟨rfl, ⟨x25, c26, rx25, tx25⟩⟩
      · replace hM := hM.call (r' := 0) hv28 (by decide)
        refine lv_if_ne (tgt := 160) hx hb dX3_readFact_138 (by decide) (fun c => absurd (by decide) c) (fun _ => ?_)
        replace hM := hM.neg (by decide)
        refine lv_aload_n hx hb dX3_readFact_141 rfl (lv_at hl 0 rfl) ?_
        refine tk_getA hC hK hw hT hinX3 kC_at3 (by decide) rfl 0 (by decide) (List.mem_cons_of_mem _ uw_3_12) rfl rfl dX3_readFact_142 ?_
        refine lv_bipush (v := 93) hx hb dX3_readFact_145 (by decide) ?_
        refine tk_Vi hC hK hw hT hA hE hSR kC_at1 (by decide) rfl (kz_X6_takeByte_3 l adK adV dC dI cy ad B hB0 (Int.le_trans hB1 (by decide)) qr s1    w21 H.size hT ) (cwV 1 hC.2.2.2.2 uV_RX3_84 rfl rfl rfl (by decide +kernel) ⟨Nat.le_of_ble_eq_true rfl, Nat.le_of_ble_eq_true rfl⟩) rfl hl.1 rfl (Nat.le_of_ble_eq_true rfl) dX3_readFact_147 (fun r29 w31 H locs hp30 hw => ?_)
        obtain ⟨hT, k32, hv38, hg37⟩ := hp30
        have hF := hF.tr k32 (by decide)
        have c39 := k32.gi kC_at1 (by decide) c24
        rcases hg37 with rfl | ⟨rfl, ⟨x33, c34, rx33, tx33⟩, ⟨x35, c36, rx35, tx35⟩⟩
        · replace hM := hM.call (r' := 0) hv38 (by decide)
          refine lv_if_ne (tgt := 160) hx hb dX3_readFact_150 (by decide) (fun c => absurd (by decide) c) (fun _ => ?_)
          replace hM := hM.neg (by decide)
          refine lv_aload_n hx hb dX3_readFact_153 rfl (lv_at hl 0 rfl) ?_
          refine tk_getA hC hK hw hT hinX3 kC_at3 (by decide) rfl 0 (by decide) (List.mem_cons_of_mem _ uw_3_12) rfl rfl dX3_readFact_154 ?_
          refine tk_Vv hC hK hw hT hA hE hSR kC_at1 (by decide) rfl (kz_X6_blameHere_1 l adK adV dC dI cy ad B hB0 (Int.le_trans hB1 (by decide)) qr s1    w31 H.size hT (c39.trans (wk_eq.mpr (show x23.toInt = 0 by first | exact Int.le_antisymm (by omega) (by omega) | omega)))) (cwV 0 hC.2.2.2.2 uV_RX3_95 rfl rfl rfl (by decide +kernel) ⟨Nat.le_of_ble_eq_true rfl, Nat.le_of_ble_eq_true rfl⟩) rfl hl.1 rfl (Nat.le_of_ble_eq_true rfl) dX3_readFact_157 (fun w42 H locs hp41 hw => ?_)
          obtain ⟨hT, k43, hv47, hg46⟩ := hp41
          have hF := hF.tr k43 (by decide)
          obtain ⟨x44, c45, rx44, tx44⟩ := hg46
          replace hM := hM.call hv47 rfl
          exact J160 v77_2 v77_3 H locs ls w42 (show 0 ≤ v77_2.toInt from r7) (show v77_2.toInt ≤ 1 from t8) (show 0 ≤ v77_3.toInt from r9) (show v77_3.toInt ≤ 1 from t10)  hw hT hF hM (lv_sub hl [0, 1, 2, 3] rfl)
        · replace hM := hM.call (r' := 1) hv38 (by decide)
          refine lv_if_ne (tgt := 160) hx hb dX3_readFact_150 (by decide) (fun _ => ?_) (fun c => absurd c (by decide))
          replace hM := hM.pos (by decide)
          exact J160 v77_2 v77_3 H locs ls w31 (show 0 ≤ v77_2.toInt from r7) (show v77_2.toInt ≤ 1 from t8) (show 0 ≤ v77_3.toInt from r9) (show v77_3.toInt ≤ 1 from t10)  hw hT hF hM (lv_sub hl [0, 1, 2, 3] rfl)
      · replace hM := hM.call (r' := 1) hv28 (by decide)
        refine lv_if_ne (tgt := 160) hx hb dX3_readFact_138 (by decide) (fun _ => ?_) (fun c => absurd c (by decide))
        replace hM := hM.pos (by decide)
        exact J160 v77_2 v77_3 H locs ls w21 (show 0 ≤ v77_2.toInt from r7) (show v77_2.toInt ≤ 1 from t8) (show 0 ≤ v77_3.toInt from r9) (show v77_3.toInt ≤ 1 from t10)  hw hT hF hM (lv_sub hl [0, 1, 2, 3] rfl)
    · have c12 : ¬ v77_2.toInt = (0 : Int) := wk_eqF c12
      replace hM := hM.neg c12
      refine lv_aload_n hx hb dX3_readFact_105 rfl (lv_at hl 0 rfl) ?_
      refine lv_iload_n hx hb dX3_readFact_106 rfl (lv_at hl 1 rfl) ?_
      refine lv_iconst (v := 1) hx hb dX3_readFact_107 (by decide) ?_
      refine lv_iadd hx hb dX3_readFact_108 ?_
      refine wk_top 5 (by decide) ?_
      replace hM := hM.lt (v := 5) (by decide)
      refine tk_Vv hC hK hw hT hA hE hSR kC_at3 (by decide) rfl (kz_X3_readFact_6 l adK adV dC dI cy ad B hB0 (Int.le_trans hB1 (by decide)) qr s1 hqr   w6 H.size hT c11) (cwV 1 hC.2.2.2.2 uV_RX3_69 rfl rfl rfl (by decide +kernel) ⟨Nat.le_of_ble_eq_true rfl, Nat.le_of_ble_eq_true rfl⟩) rfl hl.1 rfl (Nat.le_of_ble_eq_true rfl) dX3_readFact_109 (fun w50 H locs hp49 hw => ?_)
      obtain ⟨hT, k51, hv53, hg52⟩ := hp49
      have hF := hF.tr k51 (by decide)
      clear hg52
      replace hM := hM.call hv53 rfl
      refine lv_aload_n hx hb dX3_readFact_112 rfl (lv_at hl 0 rfl) ?_
      refine tk_getQ hC hK hw hT hqr (by decide) hinX3 kC_at3 (by decide) rfl 1 (by decide) (List.mem_cons_of_mem _ uw_26_17) rfl rfl dX3_readFact_113 ?_
      refine lv_bipush (v := 19) hx hb dX3_readFact_116 (by decide) ?_
      refine tk_Vv hC hK hw hT hA hE hSR hqr (by decide) rfl (kz_X2_addToken_1 l adK adV dC dI cy ad B hB0 (Int.le_trans hB1 (by decide)) qr s1   qr hqr 19 w50 H.size hT ) (cwV 1 hC.2.2.2.2 uV_RX3_74 rfl rfl rfl (by decide +kernel) ⟨Nat.le_of_ble_eq_true rfl, Nat.le_of_ble_eq_true rfl⟩) rfl hl.1 rfl (Nat.le_of_ble_eq_true rfl) dX3_readFact_118 (fun w56 H locs hp55 hw => ?_)
      obtain ⟨hT, k57, hv61, hg60⟩ := hp55
      try simp only [show (19 : Int32).toInt = 19 by decide] at hv61
      have hF := hF.tr k57 (by decide)
      obtain ⟨x58, c59, rx58, tx58⟩ := hg60
      replace hM := hM.call hv61 rfl
      refine lv_goto (tgt := 160) hx hb dX3_readFact_121 (by decide) ?_
      exact J160 v77_2 v77_3 H locs ls w56 (show 0 ≤ v77_2.toInt from r7) (show v77_2.toInt ≤ 1 from t8) (show 0 ≤ v77_3.toInt from r9) (show v77_3.toInt ≤ 1 from t10)  hw hT hF hM (lv_sub hl [0, 1, 2, 3] rfl)
  have J41 : ∀ (v41_2 : Int32) (H : Heap) (locs : List Loc) (ls : Array Slot) (w62 : va_W), 0 ≤ v41_2.toInt → v41_2.toInt ≤ 1 → Wd dC dI A s.heap H locs w62 → TW ksC ad cy B qr s1 w62 → FE ksC [(2, 3, 3), (3, 2, 2), (6, 1, 1), (6, 3, 3), (6, 4, 4), (22, 0, 13), (23, 0, 400)] w0 w62 → gi w62 1 4 = 0 → TT (fun n => m_X3_readFact n qr 3 4 (sI w0)) (fun n => b_X3_readFact_41 (j_X3_readFact_X3_readTest qr 3 n) n qr 3 (4 : Int) (v41_2.toInt) (sI w62)) → lv_has ls 5 [(0, .ref (ad 3)), (1, .int 4), (2, .int v41_2)] → W p l e ({ frames := 20, cells := 0, slots := 0, locals := 493 }) s m (List.toArray [.ref (ad 3), .int 4]) below meth c H locs 0 0 (MQ below (va_Qv (Pz_X3_readFact_5 ad cy B qr s1  w0) (fun u : va_W => wpost dC dI cy A u) A) (List.toArray [.ref (ad 3), .int 4]) s 0 0 A) (F0 m 41 ls []) := by
    intro v41_2 H locs ls w62 r63 t64 hw hT hF c65 hM hl
    refine lv_iconst (v := 0) hx hb dX3_readFact_41 (by decide) ?_
    refine lv_istore_n (lv' := [(3, .int 0), (0, .ref (ad 3)), (1, .int 4), (2, .int v41_2)]) hx hb dX3_readFact_42 rfl hl (by decide) rfl (fun ls hl => ?_)
    refine lv_iload_n hx hb dX3_readFact_43 rfl (lv_at hl 3 rfl) ?_
    refine lv_if_ne (tgt := 77) hx hb dX3_readFact_44 (by decide) (fun c66 => ?_) (fun c66 => ?_)
    · have c66 : ¬ v41_2.toInt = (0 : Int) := wk_eqF c66
      replace hM := hM.pos c66
      exact J77 v41_2 0 H locs ls w62 (show 0 ≤ v41_2.toInt from r63) (show v41_2.toInt ≤ 1 from t64) (by decide) (by decide)  hw hT hF c65 hM (lv_sub hl [1, 2, 3, 0] rfl)
    · have c66 : v41_2.toInt = (0 : Int) := wk_eq.mp c66
      replace hM := hM.neg (fun q => q c66)
      refine lv_iload_n hx hb dX3_readFact_47 rfl (lv_at hl 0 rfl) ?_
      refine lv_if_ne (tgt := 77) hx hb dX3_readFact_48 (by decide) (fun c => absurd (by decide) c) (fun _ => ?_)
      replace hM := hM.neg (by decide)
      refine lv_aload_n hx hb dX3_readFact_51 rfl (lv_at hl 1 rfl) ?_
      refine tk_Vv hC hK hw hT hA hE hSR kC_at3 (by decide) rfl (kz_X3_readSum_1 l adK adV dC dI cy ad B hB0 (Int.le_trans hB1 (by decide)) qr s1 hqr   w62 H.size hT c65) (cwV 0 hC.2.2.2.2 uV_RX3_88 rfl rfl rfl (by decide +kernel) ⟨Nat.le_of_ble_eq_true rfl, Nat.le_of_ble_eq_true rfl⟩) rfl hl.1 rfl (Nat.le_of_ble_eq_true rfl) dX3_readFact_52 (fun w69 H locs hp68 hw => ?_)
      obtain ⟨hT, k70, hv72, hg71⟩ := hp68
      have hF := hF.tr k70 (by decide)
      clear hg71
      replace hM := hM.call hv72 rfl
      refine lv_aload_n hx hb dX3_readFact_55 rfl (lv_at hl 1 rfl) ?_
      refine tk_Vi hC hK hw hT hA hE hSR kC_at3 (by decide) rfl (kz_X3_readSign_1 l adK adV dC dI cy ad B hB0 (Int.le_trans hB1 (by decide)) qr s1    w69 H.size hT ) (cwV 0 hC.2.2.2.2 uV_RX3_91 rfl rfl rfl (by decide +kernel) ⟨Nat.le_of_ble_eq_true rfl, Nat.le_of_ble_eq_true rfl⟩) rfl hl.1 rfl (Nat.le_of_ble_eq_true rfl) dX3_readFact_56 (fun r73 w75 H locs hp74 hw => ?_)
      obtain ⟨hT, k76, hv88, hg87⟩ := hp74
      have hF := hF.tr k76 (by decide)
      rcases hg87 with ⟨rfl, ⟨x77, c78, rx77, tx77⟩⟩ | ⟨g79, g80, ⟨x81, c82, rx81, tx81⟩, ⟨x83, c84, rx83, tx83⟩, ⟨x85, c86, rx85, tx85⟩⟩
      · replace hM := hM.call (r' := 16) hv88 (by decide)
        refine lv_istore (lv' := [(4, .int 16), (3, .int 0), (0, .ref (ad 3)), (1, .int 4), (2, .int v41_2)]) hx hb dX3_readFact_59 hl (by decide) rfl (fun ls hl => ?_)
        refine lv_aload_n hx hb dX3_readFact_61 rfl (lv_at hl 2 rfl) ?_
        refine tk_Vv hC hK hw hT hA hE hSR kC_at3 (by decide) rfl (kz_X3_readSum_2 l adK adV dC dI cy ad B hB0 (Int.le_trans hB1 (by decide)) qr s1 hqr   w75 H.size hT x77 c78 (show 1 ≤ x77.toInt by first | with_reducible assumption | omega) (show x77.toInt ≤ 3205 by first | with_reducible assumption | omega)) (cwV 0 hC.2.2.2.2 uV_RX3_88 rfl rfl rfl (by decide +kernel) ⟨Nat.le_of_ble_eq_true rfl, Nat.le_of_ble_eq_true rfl⟩) rfl hl.1 rfl (Nat.le_of_ble_eq_true rfl) dX3_readFact_62 (fun w91 H locs hp90 hw => ?_)
        obtain ⟨hT, k92, hv96, hg95⟩ := hp90
        have hF := hF.tr k92 (by decide)
        have c97 := k92.gi kC_at1 (by decide) c78
        obtain ⟨x93, c94, rx93, tx93⟩ := hg95
        replace hM := hM.call hv96 rfl
        have ex93 : x93.toInt = x77.toInt := by rw [← c97.symm.trans c94]
        refine lv_aload_n hx hb dX3_readFact_65 rfl (lv_at hl 2 rfl) ?_
        refine tk_getQ hC hK hw hT hqr (by decide) hinX3 kC_at3 (by decide) rfl 1 (by decide) (List.mem_cons_of_mem _ uw_26_17) rfl rfl dX3_readFact_66 ?_
        refine lv_iload hx hb dX3_readFact_69 (lv_at hl 0 rfl) ?_
        refine tk_Vv hC hK hw hT hA hE hSR hqr (by decide) rfl (kz_X2_addToken_1 l adK adV dC dI cy ad B hB0 (Int.le_trans hB1 (by decide)) qr s1   qr hqr 16 w91 H.size hT ) (cwV 1 hC.2.2.2.2 uV_RX3_74 rfl rfl rfl (by decide +kernel) ⟨Nat.le_of_ble_eq_true rfl, Nat.le_of_ble_eq_true rfl⟩) rfl hl.1 rfl (Nat.le_of_ble_eq_true rfl) dX3_readFact_71 (fun w100 H locs hp99 hw => ?_)
        obtain ⟨hT, k101, hv105, hg104⟩ := hp99
        try simp only [show (16 : Int32).toInt = 16 by decide] at hv105
        have hF := hF.tr k101 (by decide)
        have c106 := k101.gi kC_at1 (by decide) c97
        obtain ⟨x102, c103, rx102, tx102⟩ := hg104
        replace hM := hM.call hv105 rfl
        refine lv_goto (tgt := 160) hx hb dX3_readFact_74 (by decide) ?_
        exact J160 v41_2 0 H locs ls w100 (show 0 ≤ v41_2.toInt from r63) (show v41_2.toInt ≤ 1 from t64) (by decide) (by decide)  hw hT hF hM (lv_sub hl [2, 3, 4, 1] rfl)
      · replace hM := hM.call hv88 rfl
        refine lv_istore (lv' := [(4, .int r73), (3, .int 0), (0, .ref (ad 3)), (1, .int 4), (2, .int v41_2)]) hx hb dX3_readFact_59 hl (by decide) rfl (fun ls hl => ?_)
        refine lv_aload_n hx hb dX3_readFact_61 rfl (lv_at hl 2 rfl) ?_
        refine tk_Vv hC hK hw hT hA hE hSR kC_at3 (by decide) rfl (kz_X3_readSum_3 l adK adV dC dI cy ad B hB0 (Int.le_trans hB1 (by decide)) qr s1 hqr   w75 H.size hT ) (cwV 0 hC.2.2.2.2 uV_RX3_88 rfl rfl rfl (by decide +kernel) ⟨Nat.le_of_ble_eq_true rfl, Nat.le_of_ble_eq_true rfl⟩) rfl hl.1 rfl (Nat.le_of_ble_eq_true rfl) dX3_readFact_62 (fun w109 H locs hp108 hw => ?_)
        obtain ⟨hT, k110, hv112, hg111⟩ := hp108
        have hF := hF.tr k110 (by decide)
        have c113 := k110.gi kC_at1 (by decide) c82
        clear hg111
        replace hM := hM.call hv112 rfl
        refine lv_aload_n hx hb dX3_readFact_65 rfl (lv_at hl 2 rfl) ?_
        refine tk_getQ hC hK hw hT hqr (by decide) hinX3 kC_at3 (by decide) rfl 1 (by decide) (List.mem_cons_of_mem _ uw_26_17) rfl rfl dX3_readFact_66 ?_
        refine lv_iload hx hb dX3_readFact_69 (lv_at hl 0 rfl) ?_
        refine tk_Vv hC hK hw hT hA hE hSR hqr (by decide) rfl (kz_X2_addToken_1 l adK adV dC dI cy ad B hB0 (Int.le_trans hB1 (by decide)) qr s1   qr hqr r73 w109 H.size hT ) (cwV 1 hC.2.2.2.2 uV_RX3_74 rfl rfl rfl (by decide +kernel) ⟨Nat.le_of_ble_eq_true rfl, Nat.le_of_ble_eq_true rfl⟩) rfl hl.1 rfl (Nat.le_of_ble_eq_true rfl) dX3_readFact_71 (fun w116 H locs hp115 hw => ?_)
        obtain ⟨hT, k117, hv121, hg120⟩ := hp115
        have hF := hF.tr k117 (by decide)
        have c122 := k117.gi kC_at1 (by decide) c113
        obtain ⟨x118, c119, rx118, tx118⟩ := hg120
        replace hM := hM.call hv121 rfl
        refine lv_goto (tgt := 160) hx hb dX3_readFact_74 (by decide) ?_
        exact J160 v41_2 0 H locs ls w116 (show 0 ≤ v41_2.toInt from r63) (show v41_2.toInt ≤ 1 from t64) (by decide) (by decide)  hw hT hF hM (lv_sub hl [2, 3, 4, 1] rfl)
  have hM : TT (fun n => m_X3_readFact n qr 3 4 (sI w0)) (fun n => j_X3_readFact_X3_readTest qr 3 n 1000 [4] (sI w0)) := TT.rf
  replace hM := hM.suc (fun _ => e_X3_readFact_e)
  refine lv_aload_n hx hb dX3_readFact_0 rfl (lv_at hl 0 rfl) ?_
  refine tk_getA hC hK hw hT hinX3 kC_at3 (by decide) rfl 0 (by decide) (List.mem_cons_of_mem _ uw_3_12) rfl rfl dX3_readFact_1 ?_
  refine tk_Vi hC hK hw hT hA hE hSR kC_at1 (by decide) rfl (kz_X6_isFaulty_2 l adK adV dC dI cy ad B hB0 (Int.le_trans hB1 (by decide)) qr s1    w0 s.heap.size hT cf0_) (cwV 0 hC.2.2.2.2 uV_RX3_54 rfl rfl rfl (by decide +kernel) ⟨Nat.le_of_ble_eq_true rfl, Nat.le_of_ble_eq_true rfl⟩) rfl hl.1 rfl (Nat.le_of_ble_eq_true rfl) dX3_readFact_4 (fun r123 w125 H locs hp124 hw => ?_)
  obtain ⟨hT, k126, hv130, hg129⟩ := hp124
  have hF := hF.tr k126 (by decide)
  have c131 := k126.gi kC_at1 (by decide) cf0_
  obtain ⟨rfl, ⟨x127, c128, rx127, tx127⟩⟩ := hg129
  replace hM := hM.call (r' := 0) hv130 (by decide)
  have ex127 : x127.toInt = (0 : Int) := by rw [show x127 = 0 from c128.symm.trans c131]; decide
  refine lv_if_eq (tgt := 11) hx hb dX3_readFact_7 (by decide) (fun _ => ?_) (fun c => absurd (by decide) c)
  replace hM := hM.pos (by decide)
  refine lv_aload_n hx hb dX3_readFact_11 rfl (lv_at hl 0 rfl) ?_
  refine tk_getA hC hK hw hT hinX3 kC_at3 (by decide) rfl 0 (by decide) (List.mem_cons_of_mem _ uw_3_12) rfl rfl dX3_readFact_12 ?_
  refine va_ldcS hx hb hC.2.2.2.1 hSR.2.2.2.2.1 dX3_readFact_15 ?_
  refine tk_Vi hC hK hw hT hA hE hSR kC_at1 (by decide) rfl (kz_X6_takeWord_4 l adK adV dC dI cy ad B hB0 (Int.le_trans hB1 (by decide)) qr s1    w125 H.size hT ) (cwV 1 hC.2.2.2.2 uV_RX3_59 rfl rfl rfl (by decide +kernel) ⟨Nat.le_of_ble_eq_true rfl, Nat.le_of_ble_eq_true rfl⟩) rfl hl.1 rfl (Nat.le_of_ble_eq_true rfl) dX3_readFact_17 (fun r132 w134 H locs hp133 hw => ?_)
  obtain ⟨hT, k135, hv139, hg138⟩ := hp133
  have hF := hF.tr k135 (by decide)
  have c140 := k135.gi kC_at1 (by decide) c131
  rcases hg138 with rfl | ⟨rfl, ⟨x136, c137, rx136, tx136⟩⟩
  · replace hM := hM.call (r' := 0) hv139 (by decide)
    refine lv_istore_n (lv' := [(2, .int 0), (0, .ref (ad 3)), (1, .int 4)]) hx hb dX3_readFact_20 rfl hl (by decide) rfl (fun ls hl => ?_)
    refine lv_iload_n hx hb dX3_readFact_21 rfl (lv_at hl 0 rfl) ?_
    refine lv_if_ne (tgt := 41) hx hb dX3_readFact_22 (by decide) (fun c => absurd (by decide) c) (fun _ => ?_)
    replace hM := hM.neg (by decide)
    refine lv_aload_n hx hb dX3_readFact_25 rfl (lv_at hl 1 rfl) ?_
    refine tk_getA hC hK hw hT hinX3 kC_at3 (by decide) rfl 0 (by decide) (List.mem_cons_of_mem _ uw_3_12) rfl rfl dX3_readFact_26 ?_
    refine lv_bipush (v := 91) hx hb dX3_readFact_29 (by decide) ?_
    refine tk_Vi hC hK hw hT hA hE hSR kC_at1 (by decide) rfl (kz_X6_takeByte_2 l adK adV dC dI cy ad B hB0 (Int.le_trans hB1 (by decide)) qr s1    w134 H.size hT ) (cwV 1 hC.2.2.2.2 uV_RX3_84 rfl rfl rfl (by decide +kernel) ⟨Nat.le_of_ble_eq_true rfl, Nat.le_of_ble_eq_true rfl⟩) rfl hl.1 rfl (Nat.le_of_ble_eq_true rfl) dX3_readFact_31 (fun r141 w143 H locs hp142 hw => ?_)
    obtain ⟨hT, k144, hv150, hg149⟩ := hp142
    have hF := hF.tr k144 (by decide)
    have c151 := k144.gi kC_at1 (by decide) c140
    rcases hg149 with rfl | ⟨rfl, ⟨x145, c146, rx145, tx145⟩, ⟨x147, c148, rx147, tx147⟩⟩
    · replace hM := hM.call (r' := 0) hv150 (by decide)
      refine lv_if_eq (tgt := 41) hx hb dX3_readFact_34 (by decide) (fun _ => ?_) (fun c => absurd (by decide) c)
      replace hM := hM.pos (by decide)
      exact J41 0 H locs ls w143 (by decide) (by decide)  hw hT hF c151 hM (lv_sub hl [1, 2, 0] rfl)
    · replace hM := hM.call (r' := 1) hv150 (by decide)
      refine lv_if_eq (tgt := 41) hx hb dX3_readFact_34 (by decide) (fun c => absurd c (by decide)) (fun _ => ?_)
      replace hM := hM.neg (by decide)
      refine lv_iconst (v := 1) hx hb dX3_readFact_37 (by decide) ?_
      refine lv_goto (tgt := 42) hx hb dX3_readFact_38 (by decide) ?_
      refine lv_istore_n (lv' := [(3, .int 1), (2, .int 0), (0, .ref (ad 3)), (1, .int 4)]) hx hb dX3_readFact_42 rfl hl (by decide) rfl (fun ls hl => ?_)
      refine lv_iload_n hx hb dX3_readFact_43 rfl (lv_at hl 1 rfl) ?_
      refine lv_if_ne (tgt := 77) hx hb dX3_readFact_44 (by decide) (fun c => absurd (by decide) c) (fun _ => ?_)
      replace hM := hM.neg (by decide)
      refine lv_iload_n hx hb dX3_readFact_47 rfl (lv_at hl 0 rfl) ?_
      refine lv_if_ne (tgt := 77) hx hb dX3_readFact_48 (by decide) (fun _ => ?_) (fun c => absurd c (by decide))
      replace hM := hM.pos (by decide)
      exact J77 0 1 H locs ls w143 (by decide) (by decide) (by decide) (by decide)  hw hT hF c151 hM (lv_sub hl [2, 3, 1, 0] rfl)
  · replace hM := hM.call (r' := 1) hv139 (by decide)
    refine lv_istore_n (lv' := [(2, .int 1), (0, .ref (ad 3)), (1, .int 4)]) hx hb dX3_readFact_20 rfl hl (by decide) rfl (fun ls hl => ?_)
    refine lv_iload_n hx hb dX3_readFact_21 rfl (lv_at hl 0 rfl) ?_
    refine lv_if_ne (tgt := 41) hx hb dX3_readFact_22 (by decide) (fun _ => ?_) (fun c => absurd c (by decide))
    replace hM := hM.pos (by decide)
    exact J41 1 H locs ls w134 (by decide) (by decide)  hw hT hF c140 hM (lv_sub hl [1, 2, 0] rfl)
abbrev Pz_X3_readTest_5 (ad : Nat → Nat) (cy : Nat → ClassId) (B : Int) (qr : Nat) (s1 : Int)  (w0 : va_W) : va_W → Prop := fun u => TW ksC ad cy B qr s1 u ∧ FE ksC [(2, 3, 3), (3, 2, 2), (6, 1, 1), (6, 3, 3), (6, 4, 4), (22, 0, 13), (23, 0, 400)] w0 u ∧ Ev (fun n => m_X3_readTest n qr 3 4 (sI w0)) (0, sI u) ∧ ((True))
set_option maxHeartbeats 4000000 in
set_option maxRecDepth 100000 in
theorem kz_X3_readTest_5 (l : Launch) (adK adV : Nat → Nat) (dC : Nat → ClassId) (dI : Nat → Nat → Nat) (cy : Nat → ClassId) (ad : Nat → Nat) (B : Int) (hB0 : 2147483648 ≤ B) (hB1 : B ≤ 1152921504606846976) (qr : Nat) (s1 : Int) (hqr : ksC[qr]? = some 2)  (w0 : va_W) (sz : Nat) (hT : TW ksC ad cy B qr s1 w0) (cf0_ : gi w0 1 4 = 0) : Met l yX3_readTest (wu yX3_readTest cX3_readTest 4 none) ({ frames := 21, cells := 0, slots := 0, locals := 517 }) (va_Pc [.ref (ad 3), .int 4] (wpreS adK adV dC dI cy sz w0)) (va_Qv (Pz_X3_readTest_5 ad cy B qr s1  w0) (fun u : va_W => wpost dC dI cy (va_A w0 sz) u) (va_A w0 sz)) 0 0 (va_A w0 sz) := by
  refine Met.ofW (cc := cX3_readTest) (maxL := 4) (ret := none) (by decide) rfl ?_
  intro p e s m args below meth c s₁ Bk hml hv
  obtain ⟨rfl, ⟨hsz, hP, hK, hD0⟩, hE, hSR⟩ := hv
  have hx := Bk.exec
  have hb := Bk.bytes
  have hr := Bk.returns
  have hlocks := Bk.notSynchronized
  have hC : CallFix p m c cX3_readTest 4 s _ (wu yX3_readTest cX3_readTest 4 none) RX3 := ⟨hx, hb, hml, findClass_of_methodNamed Bk.named, atoms_spec (ws := (wu yX3_readTest cX3_readTest 4 none)) Bk.pre⟩
  subst hsz
  have hD := hD0.self (sz := s.heap.size)
  generalize hAe : va_A w0 s.heap.size = A at hD hE ⊢
  have hA : ∀ q : Nat, s.heap.size ≤ q → A q := fun q h => by rw [← hAe]; exact Or.inr h
  have hw : Wd dC dI A s.heap s.heap [] w0 := ⟨hP, hD, va_S.rf⟩
  have hF : FE ksC [(2, 3, 3), (3, 2, 2), (6, 1, 1), (6, 3, 3), (6, 4, 4), (22, 0, 13), (23, 0, 400)] w0 w0 := FE.rf
  have hl := lv_entry ([.ref (ad 3), .int 4]) (n := 4) (Nat.le_of_ble_eq_true rfl)
  rw [lg_entry_eq]
  generalize (lg_sl ([.ref (ad 3), .int 4]) ++ List.replicate (4 - (lg_sl ([.ref (ad 3), .int 4])).length) Slot.unset).toArray = ls at hl ⊢
  have hl : lv_has ls 4 [(0, .ref (ad 3)), (1, .int 4)] := hl
  generalize hloc : ([] : List Loc) = locs at hw ⊢
  have hinX3 : ∀ w ∈ u_ws RX3 TX3 3, w ∈ (wu yX3_readTest cX3_readTest 4 none) := fun _ h => List.mem_cons_of_mem _ (up_75 h)
  have J86 : ∀ (v86_2 : Int32) (v86_3 : Int32) (H : Heap) (locs : List Loc) (ls : Array Slot) (w1 : va_W), (-1) ≤ v86_2.toInt → v86_2.toInt ≤ 21 → 0 ≤ v86_3.toInt → v86_3.toInt ≤ 400 → Wd dC dI A s.heap H locs w1 → TW ksC ad cy B qr s1 w1 → FE ksC [(2, 3, 3), (3, 2, 2), (6, 1, 1), (6, 3, 3), (6, 4, 4), (22, 0, 13), (23, 0, 400)] w0 w1 → TT (fun n => m_X3_readTest n qr 3 4 (sI w0)) (fun n => b_X3_readTest_86 (j_X3_readFact_X3_readTest qr 3 n) n qr 3 (v86_2.toInt) (sI w1)) → lv_has ls 4 [(0, .ref (ad 3)), (1, .int 4), (2, .int v86_2), (3, .int v86_3)] → W p l e ({ frames := 21, cells := 0, slots := 0, locals := 517 }) s m (List.toArray [.ref (ad 3), .int 4]) below meth c H locs 0 0 (MQ below (va_Qv (Pz_X3_readTest_5 ad cy B qr s1  w0) (fun u : va_W => wpost dC dI cy A u) A) (List.toArray [.ref (ad 3), .int 4]) s 0 0 A) (F0 m 86 ls []) := by
    intro v86_2 v86_3 H locs ls w1 r2 t3 r4 t5 hw hT hF hM hl
    refine lv_aload_n hx hb dX3_readTest_86 rfl (lv_at hl 0 rfl) ?_
    refine lv_iload_n hx hb dX3_readTest_87 rfl (lv_at hl 2 rfl) ?_
    refine tk_Vv hC hK hw hT hA hE hSR kC_at3 (by decide) rfl (kz_X3_addWaiting_1 l adK adV dC dI cy ad B hB0 (Int.le_trans hB1 (by decide)) qr s1 hqr  v86_2 w1 H.size hT ) (cwV 1 hC.2.2.2.2 uV_RX3_79 rfl rfl rfl (by decide +kernel) ⟨Nat.le_of_ble_eq_true rfl, Nat.le_of_ble_eq_true rfl⟩) rfl hl.1 rfl (Nat.le_of_ble_eq_true rfl) dX3_readTest_88 (fun w8 H locs hp7 hw => ?_)
    obtain ⟨hT, k9, hv11, hg10⟩ := hp7
    have hF := hF.tr k9 (by decide)
    clear hg10
    replace hM := hM.call hv11 rfl
    exact tk_vret hC hr hlocks hK ⟨hT, hF, hM.ret rfl, trivial⟩ hw dX3_readTest_91
  have L9 : ∀ (n9 : Nat) (v9_2 : Int32) (v9_3 : Int32) (H : Heap) (locs : List Loc) (ls : Array Slot) (w12 : va_W), (-1) ≤ v9_2.toInt → v9_2.toInt ≤ 21 → 0 ≤ v9_3.toInt → v9_3.toInt ≤ 400 → (400 - v9_3.toInt).toNat < n9 → Wd dC dI A s.heap H locs w12 → TW ksC ad cy B qr s1 w12 → FE ksC [(2, 3, 3), (3, 2, 2), (6, 1, 1), (6, 3, 3), (6, 4, 4), (22, 0, 13), (23, 0, 400)] w0 w12 → TT (fun n => m_X3_readTest n qr 3 4 (sI w0)) (fun n => j_X3_readFact_X3_readTest qr 3 n 2009 [(4 : Int), v9_2.toInt, v9_3.toInt] (sI w12)) → lv_has ls 4 [(0, .ref (ad 3)), (1, .int 4), (2, .int v9_2), (3, .int v9_3)] → W p l e ({ frames := 21, cells := 0, slots := 0, locals := 517 }) s m (List.toArray [.ref (ad 3), .int 4]) below meth c H locs 0 0 (MQ below (va_Qv (Pz_X3_readTest_5 ad cy B qr s1  w0) (fun u : va_W => wpost dC dI cy A u) A) (List.toArray [.ref (ad 3), .int 4]) s 0 0 A) (F0 m 9 ls []) := by
    intro n9
    induction n9 with
    | zero => intro v9_2 v9_3 H locs ls w12 r13 t14 r15 t16 hm9 hw hT hF hM hl; omega
    | succ n9 ih9 =>
      intro v9_2 v9_3 H locs ls w12 r13 t14 r15 t16 hm9 hw hT hF hM hl
      have J80 : ∀ (v80_2 : Int32) (H : Heap) (locs : List Loc) (ls : Array Slot) (w17 : va_W), (-1) ≤ v80_2.toInt → v80_2.toInt ≤ 21 → 0 ≤ v9_3.toInt → v9_3.toInt ≤ 399 → Wd dC dI A s.heap H locs w17 → TW ksC ad cy B qr s1 w17 → FE ksC [(2, 3, 3), (3, 2, 2), (6, 1, 1), (6, 3, 3), (6, 4, 4), (22, 0, 13), (23, 0, 400)] w0 w17 → TT (fun n => m_X3_readTest n qr 3 4 (sI w0)) (fun n => b_X3_readTest_80 (j_X3_readFact_X3_readTest qr 3 n) n qr 3 (4 : Int) (v80_2.toInt) (v9_3.toInt) (sI w17)) → lv_has ls 4 [(0, .ref (ad 3)), (1, .int 4), (2, .int v80_2), (3, .int v9_3)] → W p l e ({ frames := 21, cells := 0, slots := 0, locals := 517 }) s m (List.toArray [.ref (ad 3), .int 4]) below meth c H locs 0 0 (MQ below (va_Qv (Pz_X3_readTest_5 ad cy B qr s1  w0) (fun u : va_W => wpost dC dI cy A u) A) (List.toArray [.ref (ad 3), .int 4]) s 0 0 A) (F0 m 80 ls []) := by
        intro v80_2 H locs ls w17 r18 t19 r20 t21 hw hT hF hM hl
        obtain ⟨x22, ex22⟩ : ∃ y : Int32, y = v9_3 + Int32.ofInt 1 := ⟨_, rfl⟩
        have erx22 := ex22
        refine lv_iinc (v := x22) (lv' := [(3, .int x22), (0, .ref (ad 3)), (1, .int 4), (2, .int v80_2)]) hx hb dX3_readTest_80 hl (k := 3) rfl ex22.symm (by decide) rfl (fun ls hl => ?_)
        have ex22 : x22.toInt = v9_3.toInt + 1 := by rw [ex22]; exact wk_add (y := 1) (show -2147483648 ≤ v9_3.toInt + 1 by omega) (show v9_3.toInt + 1 ≤ 2147483647 by omega)
        replace hM := hM.lt ex22.symm
        refine lv_goto (tgt := 9) hx hb dX3_readTest_83 (by decide) ?_
        exact ih9 v80_2 x22 H locs ls w17 (show (-1) ≤ v80_2.toInt from r18) (show v80_2.toInt ≤ 21 from t19) (show 0 ≤ x22.toInt by first | with_reducible assumption | omega) (show x22.toInt ≤ 400 by first | with_reducible assumption | omega) (show (400 - x22.toInt).toNat < n9 by first | exact tn_lt hm9 (by omega) (by omega) | omega) hw hT hF hM (lv_sub hl [1, 2, 3, 0] rfl)
      replace hM := hM.suc (fun _ => e_X3_readTest_9)
      refine lv_iload_n hx hb dX3_readTest_9 rfl (lv_at hl 3 rfl) ?_
      refine lv_sipush (v := 400) hx hb dX3_readTest_10 (by decide) ?_
      refine lv_icmp_ge (tgt := 86) hx hb dX3_readTest_13 (by decide) (fun c23 => ?_) (fun c23 => ?_)
      · have c23 : (400 : Int) ≤ v9_3.toInt := wk_le.mp c23
        replace hM := hM.pos c23
        exact J86 v9_2 v9_3 H locs ls w12 (show (-1) ≤ v9_2.toInt from r13) (show v9_2.toInt ≤ 21 from t14) (show 0 ≤ v9_3.toInt from r15) (show v9_3.toInt ≤ 400 from t16)  hw hT hF hM (lv_sub hl [0, 1, 2, 3] rfl)
      · have c23 : v9_3.toInt < (400 : Int) := wk_leF c23
        replace hM := hM.neg (Int.not_le.mpr c23)
        refine lv_aload_n hx hb dX3_readTest_16 rfl (lv_at hl 0 rfl) ?_
        refine tk_getA hC hK hw hT hinX3 kC_at3 (by decide) rfl 0 (by decide) (List.mem_cons_of_mem _ uw_3_12) rfl rfl dX3_readTest_17 ?_
        refine tk_Vi hC hK hw hT hA hE hSR kC_at1 (by decide) rfl (kz_X6_isFaulty_1 l adK adV dC dI cy ad B hB0 (Int.le_trans hB1 (by decide)) qr s1    w12 H.size hT ) (cwV 0 hC.2.2.2.2 uV_RX3_54 rfl rfl rfl (by decide +kernel) ⟨Nat.le_of_ble_eq_true rfl, Nat.le_of_ble_eq_true rfl⟩) rfl hl.1 rfl (Nat.le_of_ble_eq_true rfl) dX3_readTest_20 (fun r24 w26 H locs hp25 hw => ?_)
        obtain ⟨hT, k27, hv33, hg32⟩ := hp25
        have hF := hF.tr k27 (by decide)
        rcases hg32 with ⟨rfl, ⟨x28, c29, rx28, tx28⟩⟩ | ⟨rfl, ⟨x30, c31, rx30, tx30⟩⟩
        · replace hM := hM.call (r' := 0) hv33 (by decide)
          refine lv_if_ne (tgt := 86) hx hb dX3_readTest_23 (by decide) (fun c => absurd (by decide) c) (fun _ => ?_)
          replace hM := hM.neg (by decide)
          refine lv_aload_n hx hb dX3_readTest_26 rfl (lv_at hl 0 rfl) ?_
          refine tk_getA hC hK hw hT hinX3 kC_at3 (by decide) rfl 0 (by decide) (List.mem_cons_of_mem _ uw_3_12) rfl rfl dX3_readTest_27 ?_
          refine va_ldcS hx hb hC.2.2.2.1 hSR.2.2.2.2.2.2.1 dX3_readTest_30 ?_
          refine tk_Vi hC hK hw hT hA hE hSR kC_at1 (by decide) rfl (kz_X6_takeWord_2 l adK adV dC dI cy ad B hB0 (Int.le_trans hB1 (by decide)) qr s1    w26 H.size hT ) (cwV 1 hC.2.2.2.2 uV_RX3_59 rfl rfl rfl (by decide +kernel) ⟨Nat.le_of_ble_eq_true rfl, Nat.le_of_ble_eq_true rfl⟩) rfl hl.1 rfl (Nat.le_of_ble_eq_true rfl) dX3_readTest_32 (fun r34 w36 H locs hp35 hw => ?_)
          obtain ⟨hT, k37, hv41, hg40⟩ := hp35
          have hF := hF.tr k37 (by decide)
          have c42 := k37.gi kC_at1 (by decide) c29
          rcases hg40 with rfl | ⟨rfl, ⟨x38, c39, rx38, tx38⟩⟩
          · replace hM := hM.call (r' := 0) hv41 (by decide)
            refine lv_if_eq (tgt := 55) hx hb dX3_readTest_35 (by decide) (fun _ => ?_) (fun c => absurd (by decide) c)
            replace hM := hM.pos (by decide)
            refine lv_aload_n hx hb dX3_readTest_55 rfl (lv_at hl 0 rfl) ?_
            refine tk_getA hC hK hw hT hinX3 kC_at3 (by decide) rfl 0 (by decide) (List.mem_cons_of_mem _ uw_3_12) rfl rfl dX3_readTest_56 ?_
            refine va_ldcS hx hb hC.2.2.2.1 hSR.2.2.2.2.2.2.2 dX3_readTest_59 ?_
            refine tk_Vi hC hK hw hT hA hE hSR kC_at1 (by decide) rfl (kz_X6_takeWord_3 l adK adV dC dI cy ad B hB0 (Int.le_trans hB1 (by decide)) qr s1    w36 H.size hT ) (cwV 1 hC.2.2.2.2 uV_RX3_59 rfl rfl rfl (by decide +kernel) ⟨Nat.le_of_ble_eq_true rfl, Nat.le_of_ble_eq_true rfl⟩) rfl hl.1 rfl (Nat.le_of_ble_eq_true rfl) dX3_readTest_61 (fun r43 w45 H locs hp44 hw => ?_)
            obtain ⟨hT, k46, hv50, hg49⟩ := hp44
            have hF := hF.tr k46 (by decide)
            have c51 := k46.gi kC_at1 (by decide) c42
            rcases hg49 with rfl | ⟨rfl, ⟨x47, c48, rx47, tx47⟩⟩
            · replace hM := hM.call (r' := 0) hv50 (by decide)
              refine lv_if_eq (tgt := 86) hx hb dX3_readTest_64 (by decide) (fun _ => ?_) (fun c => absurd (by decide) c)
              replace hM := hM.pos (by decide)
              exact J86 v9_2 v9_3 H locs ls w45 (show (-1) ≤ v9_2.toInt from r13) (show v9_2.toInt ≤ 21 from t14) (show 0 ≤ v9_3.toInt from r15) (show v9_3.toInt ≤ 400 from t16)  hw hT hF hM (lv_sub hl [0, 1, 2, 3] rfl)
            · replace hM := hM.call (r' := 1) hv50 (by decide)
              refine lv_if_eq (tgt := 86) hx hb dX3_readTest_64 (by decide) (fun c => absurd c (by decide)) (fun _ => ?_)
              replace hM := hM.neg (by decide)
              refine lv_aload_n hx hb dX3_readTest_67 rfl (lv_at hl 0 rfl) ?_
              refine lv_iload_n hx hb dX3_readTest_68 rfl (lv_at hl 2 rfl) ?_
              refine tk_Vv hC hK hw hT hA hE hSR kC_at3 (by decide) rfl (kz_X3_addWaiting_1 l adK adV dC dI cy ad B hB0 (Int.le_trans hB1 (by decide)) qr s1 hqr  v9_2 w45 H.size hT ) (cwV 1 hC.2.2.2.2 uV_RX3_79 rfl rfl rfl (by decide +kernel) ⟨Nat.le_of_ble_eq_true rfl, Nat.le_of_ble_eq_true rfl⟩) rfl hl.1 rfl (Nat.le_of_ble_eq_true rfl) dX3_readTest_69 (fun w54 H locs hp53 hw => ?_)
              obtain ⟨hT, k55, hv57, hg56⟩ := hp53
              have hF := hF.tr k55 (by decide)
              have c58 := k55.gi kC_at1 (by decide) c51
              have c59 := k55.gi kC_at1 (by decide) c48
              clear hg56
              replace hM := hM.call hv57 rfl
              refine lv_bipush (v := 21) hx hb dX3_readTest_72 (by decide) ?_
              refine lv_istore_n (lv' := [(2, .int 21), (0, .ref (ad 3)), (1, .int 4), (3, .int v9_3)]) hx hb dX3_readTest_74 rfl hl (by decide) rfl (fun ls hl => ?_)
              refine lv_aload_n hx hb dX3_readTest_75 rfl (lv_at hl 1 rfl) ?_
              refine lv_iload_n hx hb dX3_readTest_76 rfl (lv_at hl 2 rfl) ?_
              refine tk_Vv hC hK hw hT hA hE hSR kC_at3 (by decide) rfl (kz_X3_readFact_5 l adK adV dC dI cy ad B hB0 (Int.le_trans hB1 (by decide)) qr s1 hqr   w54 H.size hT (c58.trans (wk_eq.mpr (show x28.toInt = 0 by first | exact Int.le_antisymm (by omega) (by omega) | omega)))) (cwV 1 hC.2.2.2.2 uV_RX3_69 rfl rfl rfl (by decide +kernel) ⟨Nat.le_of_ble_eq_true rfl, Nat.le_of_ble_eq_true rfl⟩) rfl hl.1 rfl (Nat.le_of_ble_eq_true rfl) dX3_readTest_77 (fun w62 H locs hp61 hw => ?_)
              obtain ⟨hT, k63, hv65, hg64⟩ := hp61
              have hF := hF.tr k63 (by decide)
              clear hg64
              replace hM := hM.call hv65 rfl
              exact J80 21 H locs ls w62 (by decide) (by decide) (show 0 ≤ v9_3.toInt from r15) (show v9_3.toInt ≤ 399 by first | with_reducible assumption | omega)  hw hT hF hM (lv_sub hl [1, 2, 0, 3] rfl)
          · replace hM := hM.call (r' := 1) hv41 (by decide)
            refine lv_if_eq (tgt := 55) hx hb dX3_readTest_35 (by decide) (fun c => absurd c (by decide)) (fun _ => ?_)
            replace hM := hM.neg (by decide)
            refine lv_aload_n hx hb dX3_readTest_38 rfl (lv_at hl 0 rfl) ?_
            refine lv_iload_n hx hb dX3_readTest_39 rfl (lv_at hl 1 rfl) ?_
            refine tk_Vv hC hK hw hT hA hE hSR kC_at3 (by decide) rfl (kz_X3_readFact_5 l adK adV dC dI cy ad B hB0 (Int.le_trans hB1 (by decide)) qr s1 hqr   w36 H.size hT (c42.trans (wk_eq.mpr (show x28.toInt = 0 by first | exact Int.le_antisymm (by omega) (by omega) | omega)))) (cwV 1 hC.2.2.2.2 uV_RX3_69 rfl rfl rfl (by decide +kernel) ⟨Nat.le_of_ble_eq_true rfl, Nat.le_of_ble_eq_true rfl⟩) rfl hl.1 rfl (Nat.le_of_ble_eq_true rfl) dX3_readTest_40 (fun w68 H locs hp67 hw => ?_)
            obtain ⟨hT, k69, hv71, hg70⟩ := hp67
            have hF := hF.tr k69 (by decide)
            clear hg70
            replace hM := hM.call hv71 rfl
            refine lv_aload_n hx hb dX3_readTest_43 rfl (lv_at hl 0 rfl) ?_
            refine tk_getQ hC hK hw hT hqr (by decide) hinX3 kC_at3 (by decide) rfl 1 (by decide) (List.mem_cons_of_mem _ uw_26_17) rfl rfl dX3_readTest_44 ?_
            refine lv_bipush (v := 20) hx hb dX3_readTest_47 (by decide) ?_
            refine tk_Vv hC hK hw hT hA hE hSR hqr (by decide) rfl (kz_X2_addToken_1 l adK adV dC dI cy ad B hB0 (Int.le_trans hB1 (by decide)) qr s1   qr hqr 20 w68 H.size hT ) (cwV 1 hC.2.2.2.2 uV_RX3_74 rfl rfl rfl (by decide +kernel) ⟨Nat.le_of_ble_eq_true rfl, Nat.le_of_ble_eq_true rfl⟩) rfl hl.1 rfl (Nat.le_of_ble_eq_true rfl) dX3_readTest_49 (fun w74 H locs hp73 hw => ?_)
            obtain ⟨hT, k75, hv79, hg78⟩ := hp73
            try simp only [show (20 : Int32).toInt = 20 by decide] at hv79
            have hF := hF.tr k75 (by decide)
            obtain ⟨x76, c77, rx76, tx76⟩ := hg78
            replace hM := hM.call hv79 rfl
            refine lv_goto (tgt := 80) hx hb dX3_readTest_52 (by decide) ?_
            exact J80 v9_2 H locs ls w74 (show (-1) ≤ v9_2.toInt from r13) (show v9_2.toInt ≤ 21 from t14) (show 0 ≤ v9_3.toInt from r15) (show v9_3.toInt ≤ 399 by first | with_reducible assumption | omega)  hw hT hF hM (lv_sub hl [0, 1, 2, 3] rfl)
        · replace hM := hM.call (r' := 1) hv33 (by decide)
          refine lv_if_ne (tgt := 86) hx hb dX3_readTest_23 (by decide) (fun _ => ?_) (fun c => absurd c (by decide))
          replace hM := hM.pos (by decide)
          exact J86 v9_2 v9_3 H locs ls w26 (show (-1) ≤ v9_2.toInt from r13) (show v9_2.toInt ≤ 21 from t14) (show 0 ≤ v9_3.toInt from r15) (show v9_3.toInt ≤ 400 from t16)  hw hT hF hM (lv_sub hl [0, 1, 2, 3] rfl)
  have hM : TT (fun n => m_X3_readTest n qr 3 4 (sI w0)) (fun n => j_X3_readFact_X3_readTest qr 3 n 2000 [4] (sI w0)) := TT.rf
  replace hM := hM.suc (fun _ => e_X3_readTest_e)
  refine lv_aload_n hx hb dX3_readTest_0 rfl (lv_at hl 0 rfl) ?_
  refine lv_iload_n hx hb dX3_readTest_1 rfl (lv_at hl 1 rfl) ?_
  refine tk_Vv hC hK hw hT hA hE hSR kC_at3 (by decide) rfl (kz_X3_readFact_5 l adK adV dC dI cy ad B hB0 (Int.le_trans hB1 (by decide)) qr s1 hqr   w0 s.heap.size hT cf0_) (cwV 1 hC.2.2.2.2 uV_RX3_69 rfl rfl rfl (by decide +kernel) ⟨Nat.le_of_ble_eq_true rfl, Nat.le_of_ble_eq_true rfl⟩) rfl hl.1 rfl (Nat.le_of_ble_eq_true rfl) dX3_readTest_2 (fun w82 H locs hp81 hw => ?_)
  obtain ⟨hT, k83, hv85, hg84⟩ := hp81
  have hF := hF.tr k83 (by decide)
  clear hg84
  replace hM := hM.call hv85 rfl
  refine lv_iconst (v := (-1)) hx hb dX3_readTest_5 (by decide) ?_
  refine lv_istore_n (lv' := [(2, .int (-1)), (0, .ref (ad 3)), (1, .int 4)]) hx hb dX3_readTest_6 rfl hl (by decide) rfl (fun ls hl => ?_)
  refine lv_iconst (v := 0) hx hb dX3_readTest_7 (by decide) ?_
  refine lv_istore_n (lv' := [(3, .int 0), (2, .int (-1)), (0, .ref (ad 3)), (1, .int 4)]) hx hb dX3_readTest_8 rfl hl (by decide) rfl (fun ls hl => ?_)
  exact L9 ((400 - (0 : Int)).toNat + 1) (-1) 0 H locs ls w82 (by decide) (by decide) (by decide) (by decide) (Nat.lt_succ_self _) hw hT hF hM (lv_sub hl [2, 3, 1, 0] rfl)
abbrev Pz_X3_readFact_4 (ad : Nat → Nat) (cy : Nat → ClassId) (B : Int) (qr : Nat) (s1 : Int)  (w0 : va_W) : va_W → Prop := fun u => TW ksC ad cy B qr s1 u ∧ FE ksC [(2, 3, 3), (3, 2, 2), (6, 1, 1), (6, 3, 3), (6, 4, 4), (22, 0, 13), (23, 0, 400)] w0 u ∧ Ev (fun n => m_X3_readFact n qr 3 3 (sI w0)) (0, sI u) ∧ ((True))
set_option maxHeartbeats 4000000 in
set_option maxRecDepth 100000 in
theorem kz_X3_readFact_4 (l : Launch) (adK adV : Nat → Nat) (dC : Nat → ClassId) (dI : Nat → Nat → Nat) (cy : Nat → ClassId) (ad : Nat → Nat) (B : Int) (hB0 : 2147483648 ≤ B) (hB1 : B ≤ 1152921504606846976) (qr : Nat) (s1 : Int) (hqr : ksC[qr]? = some 2)  (w0 : va_W) (sz : Nat) (hT : TW ksC ad cy B qr s1 w0) (cf0_ : gi w0 1 4 = 0) : Met l yX3_readFact (wu yX3_readFact cX3_readFact 5 none) ({ frames := 22, cells := 0, slots := 0, locals := 540 }) (va_Pc [.ref (ad 3), .int 3] (wpreS adK adV dC dI cy sz w0)) (va_Qv (Pz_X3_readFact_4 ad cy B qr s1  w0) (fun u : va_W => wpost dC dI cy (va_A w0 sz) u) (va_A w0 sz)) 0 0 (va_A w0 sz) := by
  refine Met.ofW (cc := cX3_readFact) (maxL := 5) (ret := none) (by decide) rfl ?_
  intro p e s m args below meth c s₁ Bk hml hv
  obtain ⟨rfl, ⟨hsz, hP, hK, hD0⟩, hE, hSR⟩ := hv
  have hx := Bk.exec
  have hb := Bk.bytes
  have hr := Bk.returns
  have hlocks := Bk.notSynchronized
  have hC : CallFix p m c cX3_readFact 5 s _ (wu yX3_readFact cX3_readFact 5 none) RX3 := ⟨hx, hb, hml, findClass_of_methodNamed Bk.named, atoms_spec (ws := (wu yX3_readFact cX3_readFact 5 none)) Bk.pre⟩
  subst hsz
  have hD := hD0.self (sz := s.heap.size)
  generalize hAe : va_A w0 s.heap.size = A at hD hE ⊢
  have hA : ∀ q : Nat, s.heap.size ≤ q → A q := fun q h => by rw [← hAe]; exact Or.inr h
  have hw : Wd dC dI A s.heap s.heap [] w0 := ⟨hP, hD, va_S.rf⟩
  have hF : FE ksC [(2, 3, 3), (3, 2, 2), (6, 1, 1), (6, 3, 3), (6, 4, 4), (22, 0, 13), (23, 0, 400)] w0 w0 := FE.rf
  have hl := lv_entry ([.ref (ad 3), .int 3]) (n := 5) (Nat.le_of_ble_eq_true rfl)
  rw [lg_entry_eq]
  generalize (lg_sl ([.ref (ad 3), .int 3]) ++ List.replicate (5 - (lg_sl ([.ref (ad 3), .int 3])).length) Slot.unset).toArray = ls at hl ⊢
  have hl : lv_has ls 5 [(0, .ref (ad 3)), (1, .int 3)] := hl
  generalize hloc : ([] : List Loc) = locs at hw ⊢
  have hinX3 : ∀ w ∈ u_ws RX3 TX3 3, w ∈ (wu yX3_readFact cX3_readFact 5 none) := fun _ h => List.mem_cons_of_mem _ (up_75 h)
  have J160 : ∀ (v160_2 : Int32) (v160_3 : Int32) (H : Heap) (locs : List Loc) (ls : Array Slot) (w1 : va_W), 0 ≤ v160_2.toInt → v160_2.toInt ≤ 1 → 0 ≤ v160_3.toInt → v160_3.toInt ≤ 1 → Wd dC dI A s.heap H locs w1 → TW ksC ad cy B qr s1 w1 → FE ksC [(2, 3, 3), (3, 2, 2), (6, 1, 1), (6, 3, 3), (6, 4, 4), (22, 0, 13), (23, 0, 400)] w0 w1 → TT (fun n => m_X3_readFact n qr 3 3 (sI w0)) (fun n => b_X3_readFact_160 (j_X3_readFact_X3_readTest qr 3 n) n qr 3 (sI w1)) → lv_has ls 5 [(0, .ref (ad 3)), (1, .int 3), (2, .int v160_2), (3, .int v160_3)] → W p l e ({ frames := 22, cells := 0, slots := 0, locals := 540 }) s m (List.toArray [.ref (ad 3), .int 3]) below meth c H locs 0 0 (MQ below (va_Qv (Pz_X3_readFact_4 ad cy B qr s1  w0) (fun u : va_W => wpost dC dI cy A u) A) (List.toArray [.ref (ad 3), .int 3]) s 0 0 A) (F0 m 160 ls []) := by
    intro v160_2 v160_3 H locs ls w1 r2 t3 r4 t5 hw hT hF hM hl
    exact tk_vret hC hr hlocks hK ⟨hT, hF, hM.ret rfl, trivial⟩ hw dX3_readFact_160
  have J77 : ∀ (v77_2 : Int32) (v77_3 : Int32) (H : Heap) (locs : List Loc) (ls : Array Slot) (w6 : va_W), 0 ≤ v77_2.toInt → v77_2.toInt ≤ 1 → 0 ≤ v77_3.toInt → v77_3.toInt ≤ 1 → Wd dC dI A s.heap H locs w6 → TW ksC ad cy B qr s1 w6 → FE ksC [(2, 3, 3), (3, 2, 2), (6, 1, 1), (6, 3, 3), (6, 4, 4), (22, 0, 13), (23, 0, 400)] w0 w6 → gi w6 1 4 = 0 → TT (fun n => m_X3_readFact n qr 3 3 (sI w0)) (fun n => b_X3_readFact_77 (j_X3_readFact_X3_readTest qr 3 n) n qr 3 (3 : Int) (v77_2.toInt) (sI w6)) → lv_has ls 5 [(0, .ref (ad 3)), (1, .int 3), (2, .int v77_2), (3, .int v77_3)] → W p l e ({ frames := 22, cells := 0, slots := 0, locals := 540 }) s m (List.toArray [.ref (ad 3), .int 3]) below meth c H locs 0 0 (MQ below (va_Qv (Pz_X3_readFact_4 ad cy B qr s1  w0) (fun u : va_W => wpost dC dI cy A u) A) (List.toArray [.ref (ad 3), .int 3]) s 0 0 A) (F0 m 77 ls []) := by
    intro v77_2 v77_3 H locs ls w6 r7 t8 r9 t10 hw hT hF c11 hM hl
    refine lv_iload_n hx hb dX3_readFact_77 rfl (lv_at hl 1 rfl) ?_
    refine lv_bipush (v := 10) hx hb dX3_readFact_78 (by decide) ?_
    refine lv_icmp_lt (tgt := 101) hx hb dX3_readFact_80 (by decide) (fun _ => ?_) (fun c => absurd (by decide) c)
    replace hM := hM.pos (by decide)
    refine lv_iload_n hx hb dX3_readFact_101 rfl (lv_at hl 2 rfl) ?_
    refine lv_if_eq (tgt := 124) hx hb dX3_readFact_102 (by decide) (fun c12 => ?_) (fun c12 => ?_)
    · have c12 : v77_2.toInt = (0 : Int) := wk_eq.mp c12
      replace hM := hM.pos c12
      refine lv_aload_n hx hb dX3_readFact_124 rfl (lv_at hl 0 rfl) ?_
      refine lv_iload_n hx hb dX3_readFact_125 rfl (lv_at hl 1 rfl) ?_
      refine lv_iconst (v := 1) hx hb dX3_readFact_126 (by decide) ?_
      refine lv_iadd hx hb dX3_readFact_127 ?_
      refine wk_top 4 (by decide) ?_
      replace hM := hM.lt (v := 4) (by decide)
      refine tk_Vv hC hK hw hT hA hE hSR kC_at3 (by decide) rfl (kz_X3_readTest_5 l adK adV dC dI cy ad B hB0 (Int.le_trans hB1 (by decide)) qr s1 hqr   w6 H.size hT c11) (cwV 1 hC.2.2.2.2 uV_RX3_63 rfl rfl rfl (by decide +kernel) ⟨Nat.le_of_ble_eq_true rfl, Nat.le_of_ble_eq_true rfl⟩) rfl hl.1 rfl (Nat.le_of_ble_eq_true rfl) dX3_readFact_128 (fun w15 H locs hp14 hw => ?_)
      obtain ⟨hT, k16, hv18, hg17⟩ := hp14
      have hF := hF.tr k16 (by decide)
      clear hg17
      replace hM := hM.call hv18 rfl
      refine lv_aload_n hx hb dX3_readFact_131 rfl (lv_at hl 0 rfl) ?_
      refine tk_getA hC hK hw hT hinX3 kC_at3 (by decide) rfl 0 (by decide) (List.mem_cons_of_mem _ uw_3_12) rfl rfl dX3_readFact_132 ?_
      refine tk_Vi hC hK hw hT hA hE hSR kC_at1 (by decide) rfl (kz_X6_isFaulty_1 l adK adV dC dI cy ad B hB0 (Int.le_trans hB1 (by decide)) qr s1    w15 H.size hT ) (cwV 0 hC.2.2.2.2 uV_RX3_54 rfl rfl rfl (by decide +kernel) ⟨Nat.le_of_ble_eq_true rfl, Nat.le_of_ble_eq_true rfl⟩) rfl hl.1 rfl (Nat.le_of_ble_eq_true rfl) dX3_readFact_135 (fun r19 w21 H locs hp20 hw => ?_)
      obtain ⟨hT, k22, hv28, hg27⟩ := hp20
      have hF := hF.tr k22 (by decide)
      rcases hg27 with ⟨rfl, ⟨x23, c24, rx23, tx23⟩⟩ | ⟨rfl, ⟨x25, c26, rx25, tx25⟩⟩
      · replace hM := hM.call (r' := 0) hv28 (by decide)
        refine lv_if_ne (tgt := 160) hx hb dX3_readFact_138 (by decide) (fun c => absurd (by decide) c) (fun _ => ?_)
        replace hM := hM.neg (by decide)
        refine lv_aload_n hx hb dX3_readFact_141 rfl (lv_at hl 0 rfl) ?_
        refine tk_getA hC hK hw hT hinX3 kC_at3 (by decide) rfl 0 (by decide) (List.mem_cons_of_mem _ uw_3_12) rfl rfl dX3_readFact_142 ?_
        refine lv_bipush (v := 93) hx hb dX3_readFact_145 (by decide) ?_
        refine tk_Vi hC hK hw hT hA hE hSR kC_at1 (by decide) rfl (kz_X6_takeByte_3 l adK adV dC dI cy ad B hB0 (Int.le_trans hB1 (by decide)) qr s1    w21 H.size hT ) (cwV 1 hC.2.2.2.2 uV_RX3_84 rfl rfl rfl (by decide +kernel) ⟨Nat.le_of_ble_eq_true rfl, Nat.le_of_ble_eq_true rfl⟩) rfl hl.1 rfl (Nat.le_of_ble_eq_true rfl) dX3_readFact_147 (fun r29 w31 H locs hp30 hw => ?_)
        obtain ⟨hT, k32, hv38, hg37⟩ := hp30
        have hF := hF.tr k32 (by decide)
        have c39 := k32.gi kC_at1 (by decide) c24
        rcases hg37 with rfl | ⟨rfl, ⟨x33, c34, rx33, tx33⟩, ⟨x35, c36, rx35, tx35⟩⟩
        · replace hM := hM.call (r' := 0) hv38 (by decide)
          refine lv_if_ne (tgt := 160) hx hb dX3_readFact_150 (by decide) (fun c => absurd (by decide) c) (fun _ => ?_)
          replace hM := hM.neg (by decide)
          refine lv_aload_n hx hb dX3_readFact_153 rfl (lv_at hl 0 rfl) ?_
          refine tk_getA hC hK hw hT hinX3 kC_at3 (by decide) rfl 0 (by decide) (List.mem_cons_of_mem _ uw_3_12) rfl rfl dX3_readFact_154 ?_
          refine tk_Vv hC hK hw hT hA hE hSR kC_at1 (by decide) rfl (kz_X6_blameHere_1 l adK adV dC dI cy ad B hB0 (Int.le_trans hB1 (by decide)) qr s1    w31 H.size hT (c39.trans (wk_eq.mpr (show x23.toInt = 0 by first | exact Int.le_antisymm (by omega) (by omega) | omega)))) (cwV 0 hC.2.2.2.2 uV_RX3_95 rfl rfl rfl (by decide +kernel) ⟨Nat.le_of_ble_eq_true rfl, Nat.le_of_ble_eq_true rfl⟩) rfl hl.1 rfl (Nat.le_of_ble_eq_true rfl) dX3_readFact_157 (fun w42 H locs hp41 hw => ?_)
          obtain ⟨hT, k43, hv47, hg46⟩ := hp41
          have hF := hF.tr k43 (by decide)
          obtain ⟨x44, c45, rx44, tx44⟩ := hg46
          replace hM := hM.call hv47 rfl
          exact J160 v77_2 v77_3 H locs ls w42 (show 0 ≤ v77_2.toInt from r7) (show v77_2.toInt ≤ 1 from t8) (show 0 ≤ v77_3.toInt from r9) (show v77_3.toInt ≤ 1 from t10)  hw hT hF hM (lv_sub hl [0, 1, 2, 3] rfl)
        · replace hM := hM.call (r' := 1) hv38 (by decide)
          refine lv_if_ne (tgt := 160) hx hb dX3_readFact_150 (by decide) (fun _ => ?_) (fun c => absurd c (by decide))
          replace hM := hM.pos (by decide)
          exact J160 v77_2 v77_3 H locs ls w31 (show 0 ≤ v77_2.toInt from r7) (show v77_2.toInt ≤ 1 from t8) (show 0 ≤ v77_3.toInt from r9) (show v77_3.toInt ≤ 1 from t10)  hw hT hF hM (lv_sub hl [0, 1, 2, 3] rfl)
      · replace hM := hM.call (r' := 1) hv28 (by decide)
        refine lv_if_ne (tgt := 160) hx hb dX3_readFact_138 (by decide) (fun _ => ?_) (fun c => absurd c (by decide))
        replace hM := hM.pos (by decide)
        exact J160 v77_2 v77_3 H locs ls w21 (show 0 ≤ v77_2.toInt from r7) (show v77_2.toInt ≤ 1 from t8) (show 0 ≤ v77_3.toInt from r9) (show v77_3.toInt ≤ 1 from t10)  hw hT hF hM (lv_sub hl [0, 1, 2, 3] rfl)
    · have c12 : ¬ v77_2.toInt = (0 : Int) := wk_eqF c12
      replace hM := hM.neg c12
      refine lv_aload_n hx hb dX3_readFact_105 rfl (lv_at hl 0 rfl) ?_
      refine lv_iload_n hx hb dX3_readFact_106 rfl (lv_at hl 1 rfl) ?_
      refine lv_iconst (v := 1) hx hb dX3_readFact_107 (by decide) ?_
      refine lv_iadd hx hb dX3_readFact_108 ?_
      refine wk_top 4 (by decide) ?_
      replace hM := hM.lt (v := 4) (by decide)
      refine tk_Vv hC hK hw hT hA hE hSR kC_at3 (by decide) rfl (kz_X3_readFact_5 l adK adV dC dI cy ad B hB0 (Int.le_trans hB1 (by decide)) qr s1 hqr   w6 H.size hT c11) (cwV 1 hC.2.2.2.2 uV_RX3_69 rfl rfl rfl (by decide +kernel) ⟨Nat.le_of_ble_eq_true rfl, Nat.le_of_ble_eq_true rfl⟩) rfl hl.1 rfl (Nat.le_of_ble_eq_true rfl) dX3_readFact_109 (fun w50 H locs hp49 hw => ?_)
      obtain ⟨hT, k51, hv53, hg52⟩ := hp49
      have hF := hF.tr k51 (by decide)
      clear hg52
      replace hM := hM.call hv53 rfl
      refine lv_aload_n hx hb dX3_readFact_112 rfl (lv_at hl 0 rfl) ?_
      refine tk_getQ hC hK hw hT hqr (by decide) hinX3 kC_at3 (by decide) rfl 1 (by decide) (List.mem_cons_of_mem _ uw_26_17) rfl rfl dX3_readFact_113 ?_
      refine lv_bipush (v := 19) hx hb dX3_readFact_116 (by decide) ?_
      refine tk_Vv hC hK hw hT hA hE hSR hqr (by decide) rfl (kz_X2_addToken_1 l adK adV dC dI cy ad B hB0 (Int.le_trans hB1 (by decide)) qr s1   qr hqr 19 w50 H.size hT ) (cwV 1 hC.2.2.2.2 uV_RX3_74 rfl rfl rfl (by decide +kernel) ⟨Nat.le_of_ble_eq_true rfl, Nat.le_of_ble_eq_true rfl⟩) rfl hl.1 rfl (Nat.le_of_ble_eq_true rfl) dX3_readFact_118 (fun w56 H locs hp55 hw => ?_)
      obtain ⟨hT, k57, hv61, hg60⟩ := hp55
      try simp only [show (19 : Int32).toInt = 19 by decide] at hv61
      have hF := hF.tr k57 (by decide)
      obtain ⟨x58, c59, rx58, tx58⟩ := hg60
      replace hM := hM.call hv61 rfl
      refine lv_goto (tgt := 160) hx hb dX3_readFact_121 (by decide) ?_
      exact J160 v77_2 v77_3 H locs ls w56 (show 0 ≤ v77_2.toInt from r7) (show v77_2.toInt ≤ 1 from t8) (show 0 ≤ v77_3.toInt from r9) (show v77_3.toInt ≤ 1 from t10)  hw hT hF hM (lv_sub hl [0, 1, 2, 3] rfl)
  have J41 : ∀ (v41_2 : Int32) (H : Heap) (locs : List Loc) (ls : Array Slot) (w62 : va_W), 0 ≤ v41_2.toInt → v41_2.toInt ≤ 1 → Wd dC dI A s.heap H locs w62 → TW ksC ad cy B qr s1 w62 → FE ksC [(2, 3, 3), (3, 2, 2), (6, 1, 1), (6, 3, 3), (6, 4, 4), (22, 0, 13), (23, 0, 400)] w0 w62 → gi w62 1 4 = 0 → TT (fun n => m_X3_readFact n qr 3 3 (sI w0)) (fun n => b_X3_readFact_41 (j_X3_readFact_X3_readTest qr 3 n) n qr 3 (3 : Int) (v41_2.toInt) (sI w62)) → lv_has ls 5 [(0, .ref (ad 3)), (1, .int 3), (2, .int v41_2)] → W p l e ({ frames := 22, cells := 0, slots := 0, locals := 540 }) s m (List.toArray [.ref (ad 3), .int 3]) below meth c H locs 0 0 (MQ below (va_Qv (Pz_X3_readFact_4 ad cy B qr s1  w0) (fun u : va_W => wpost dC dI cy A u) A) (List.toArray [.ref (ad 3), .int 3]) s 0 0 A) (F0 m 41 ls []) := by
    intro v41_2 H locs ls w62 r63 t64 hw hT hF c65 hM hl
    refine lv_iconst (v := 0) hx hb dX3_readFact_41 (by decide) ?_
    refine lv_istore_n (lv' := [(3, .int 0), (0, .ref (ad 3)), (1, .int 3), (2, .int v41_2)]) hx hb dX3_readFact_42 rfl hl (by decide) rfl (fun ls hl => ?_)
    refine lv_iload_n hx hb dX3_readFact_43 rfl (lv_at hl 3 rfl) ?_
    refine lv_if_ne (tgt := 77) hx hb dX3_readFact_44 (by decide) (fun c66 => ?_) (fun c66 => ?_)
    · have c66 : ¬ v41_2.toInt = (0 : Int) := wk_eqF c66
      replace hM := hM.pos c66
      exact J77 v41_2 0 H locs ls w62 (show 0 ≤ v41_2.toInt from r63) (show v41_2.toInt ≤ 1 from t64) (by decide) (by decide)  hw hT hF c65 hM (lv_sub hl [1, 2, 3, 0] rfl)
    · have c66 : v41_2.toInt = (0 : Int) := wk_eq.mp c66
      replace hM := hM.neg (fun q => q c66)
      refine lv_iload_n hx hb dX3_readFact_47 rfl (lv_at hl 0 rfl) ?_
      refine lv_if_ne (tgt := 77) hx hb dX3_readFact_48 (by decide) (fun c => absurd (by decide) c) (fun _ => ?_)
      replace hM := hM.neg (by decide)
      refine lv_aload_n hx hb dX3_readFact_51 rfl (lv_at hl 1 rfl) ?_
      refine tk_Vv hC hK hw hT hA hE hSR kC_at3 (by decide) rfl (kz_X3_readSum_1 l adK adV dC dI cy ad B hB0 (Int.le_trans hB1 (by decide)) qr s1 hqr   w62 H.size hT c65) (cwV 0 hC.2.2.2.2 uV_RX3_88 rfl rfl rfl (by decide +kernel) ⟨Nat.le_of_ble_eq_true rfl, Nat.le_of_ble_eq_true rfl⟩) rfl hl.1 rfl (Nat.le_of_ble_eq_true rfl) dX3_readFact_52 (fun w69 H locs hp68 hw => ?_)
      obtain ⟨hT, k70, hv72, hg71⟩ := hp68
      have hF := hF.tr k70 (by decide)
      clear hg71
      replace hM := hM.call hv72 rfl
      refine lv_aload_n hx hb dX3_readFact_55 rfl (lv_at hl 1 rfl) ?_
      refine tk_Vi hC hK hw hT hA hE hSR kC_at3 (by decide) rfl (kz_X3_readSign_1 l adK adV dC dI cy ad B hB0 (Int.le_trans hB1 (by decide)) qr s1    w69 H.size hT ) (cwV 0 hC.2.2.2.2 uV_RX3_91 rfl rfl rfl (by decide +kernel) ⟨Nat.le_of_ble_eq_true rfl, Nat.le_of_ble_eq_true rfl⟩) rfl hl.1 rfl (Nat.le_of_ble_eq_true rfl) dX3_readFact_56 (fun r73 w75 H locs hp74 hw => ?_)
      obtain ⟨hT, k76, hv88, hg87⟩ := hp74
      have hF := hF.tr k76 (by decide)
      rcases hg87 with ⟨rfl, ⟨x77, c78, rx77, tx77⟩⟩ | ⟨g79, g80, ⟨x81, c82, rx81, tx81⟩, ⟨x83, c84, rx83, tx83⟩, ⟨x85, c86, rx85, tx85⟩⟩
      · replace hM := hM.call (r' := 16) hv88 (by decide)
        refine lv_istore (lv' := [(4, .int 16), (3, .int 0), (0, .ref (ad 3)), (1, .int 3), (2, .int v41_2)]) hx hb dX3_readFact_59 hl (by decide) rfl (fun ls hl => ?_)
        refine lv_aload_n hx hb dX3_readFact_61 rfl (lv_at hl 2 rfl) ?_
        refine tk_Vv hC hK hw hT hA hE hSR kC_at3 (by decide) rfl (kz_X3_readSum_2 l adK adV dC dI cy ad B hB0 (Int.le_trans hB1 (by decide)) qr s1 hqr   w75 H.size hT x77 c78 (show 1 ≤ x77.toInt by first | with_reducible assumption | omega) (show x77.toInt ≤ 3205 by first | with_reducible assumption | omega)) (cwV 0 hC.2.2.2.2 uV_RX3_88 rfl rfl rfl (by decide +kernel) ⟨Nat.le_of_ble_eq_true rfl, Nat.le_of_ble_eq_true rfl⟩) rfl hl.1 rfl (Nat.le_of_ble_eq_true rfl) dX3_readFact_62 (fun w91 H locs hp90 hw => ?_)
        obtain ⟨hT, k92, hv96, hg95⟩ := hp90
        have hF := hF.tr k92 (by decide)
        have c97 := k92.gi kC_at1 (by decide) c78
        obtain ⟨x93, c94, rx93, tx93⟩ := hg95
        replace hM := hM.call hv96 rfl
        have ex93 : x93.toInt = x77.toInt := by rw [← c97.symm.trans c94]
        refine lv_aload_n hx hb dX3_readFact_65 rfl (lv_at hl 2 rfl) ?_
        refine tk_getQ hC hK hw hT hqr (by decide) hinX3 kC_at3 (by decide) rfl 1 (by decide) (List.mem_cons_of_mem _ uw_26_17) rfl rfl dX3_readFact_66 ?_
        refine lv_iload hx hb dX3_readFact_69 (lv_at hl 0 rfl) ?_
        refine tk_Vv hC hK hw hT hA hE hSR hqr (by decide) rfl (kz_X2_addToken_1 l adK adV dC dI cy ad B hB0 (Int.le_trans hB1 (by decide)) qr s1   qr hqr 16 w91 H.size hT ) (cwV 1 hC.2.2.2.2 uV_RX3_74 rfl rfl rfl (by decide +kernel) ⟨Nat.le_of_ble_eq_true rfl, Nat.le_of_ble_eq_true rfl⟩) rfl hl.1 rfl (Nat.le_of_ble_eq_true rfl) dX3_readFact_71 (fun w100 H locs hp99 hw => ?_)
        obtain ⟨hT, k101, hv105, hg104⟩ := hp99
        try simp only [show (16 : Int32).toInt = 16 by decide] at hv105
        have hF := hF.tr k101 (by decide)
        have c106 := k101.gi kC_at1 (by decide) c97
        obtain ⟨x102, c103, rx102, tx102⟩ := hg104
        replace hM := hM.call hv105 rfl
        refine lv_goto (tgt := 160) hx hb dX3_readFact_74 (by decide) ?_
        exact J160 v41_2 0 H locs ls w100 (show 0 ≤ v41_2.toInt from r63) (show v41_2.toInt ≤ 1 from t64) (by decide) (by decide)  hw hT hF hM (lv_sub hl [2, 3, 4, 1] rfl)
      · replace hM := hM.call hv88 rfl
        refine lv_istore (lv' := [(4, .int r73), (3, .int 0), (0, .ref (ad 3)), (1, .int 3), (2, .int v41_2)]) hx hb dX3_readFact_59 hl (by decide) rfl (fun ls hl => ?_)
        refine lv_aload_n hx hb dX3_readFact_61 rfl (lv_at hl 2 rfl) ?_
        refine tk_Vv hC hK hw hT hA hE hSR kC_at3 (by decide) rfl (kz_X3_readSum_3 l adK adV dC dI cy ad B hB0 (Int.le_trans hB1 (by decide)) qr s1 hqr   w75 H.size hT ) (cwV 0 hC.2.2.2.2 uV_RX3_88 rfl rfl rfl (by decide +kernel) ⟨Nat.le_of_ble_eq_true rfl, Nat.le_of_ble_eq_true rfl⟩) rfl hl.1 rfl (Nat.le_of_ble_eq_true rfl) dX3_readFact_62 (fun w109 H locs hp108 hw => ?_)
        obtain ⟨hT, k110, hv112, hg111⟩ := hp108
        have hF := hF.tr k110 (by decide)
        have c113 := k110.gi kC_at1 (by decide) c82
        clear hg111
        replace hM := hM.call hv112 rfl
        refine lv_aload_n hx hb dX3_readFact_65 rfl (lv_at hl 2 rfl) ?_
        refine tk_getQ hC hK hw hT hqr (by decide) hinX3 kC_at3 (by decide) rfl 1 (by decide) (List.mem_cons_of_mem _ uw_26_17) rfl rfl dX3_readFact_66 ?_
        refine lv_iload hx hb dX3_readFact_69 (lv_at hl 0 rfl) ?_
        refine tk_Vv hC hK hw hT hA hE hSR hqr (by decide) rfl (kz_X2_addToken_1 l adK adV dC dI cy ad B hB0 (Int.le_trans hB1 (by decide)) qr s1   qr hqr r73 w109 H.size hT ) (cwV 1 hC.2.2.2.2 uV_RX3_74 rfl rfl rfl (by decide +kernel) ⟨Nat.le_of_ble_eq_true rfl, Nat.le_of_ble_eq_true rfl⟩) rfl hl.1 rfl (Nat.le_of_ble_eq_true rfl) dX3_readFact_71 (fun w116 H locs hp115 hw => ?_)
        obtain ⟨hT, k117, hv121, hg120⟩ := hp115
        have hF := hF.tr k117 (by decide)
        have c122 := k117.gi kC_at1 (by decide) c113
        obtain ⟨x118, c119, rx118, tx118⟩ := hg120
        replace hM := hM.call hv121 rfl
        refine lv_goto (tgt := 160) hx hb dX3_readFact_74 (by decide) ?_
        exact J160 v41_2 0 H locs ls w116 (show 0 ≤ v41_2.toInt from r63) (show v41_2.toInt ≤ 1 from t64) (by decide) (by decide)  hw hT hF hM (lv_sub hl [2, 3, 4, 1] rfl)
  have hM : TT (fun n => m_X3_readFact n qr 3 3 (sI w0)) (fun n => j_X3_readFact_X3_readTest qr 3 n 1000 [3] (sI w0)) := TT.rf
  replace hM := hM.suc (fun _ => e_X3_readFact_e)
  refine lv_aload_n hx hb dX3_readFact_0 rfl (lv_at hl 0 rfl) ?_
  refine tk_getA hC hK hw hT hinX3 kC_at3 (by decide) rfl 0 (by decide) (List.mem_cons_of_mem _ uw_3_12) rfl rfl dX3_readFact_1 ?_
  refine tk_Vi hC hK hw hT hA hE hSR kC_at1 (by decide) rfl (kz_X6_isFaulty_2 l adK adV dC dI cy ad B hB0 (Int.le_trans hB1 (by decide)) qr s1    w0 s.heap.size hT cf0_) (cwV 0 hC.2.2.2.2 uV_RX3_54 rfl rfl rfl (by decide +kernel) ⟨Nat.le_of_ble_eq_true rfl, Nat.le_of_ble_eq_true rfl⟩) rfl hl.1 rfl (Nat.le_of_ble_eq_true rfl) dX3_readFact_4 (fun r123 w125 H locs hp124 hw => ?_)
  obtain ⟨hT, k126, hv130, hg129⟩ := hp124
  have hF := hF.tr k126 (by decide)
  have c131 := k126.gi kC_at1 (by decide) cf0_
  obtain ⟨rfl, ⟨x127, c128, rx127, tx127⟩⟩ := hg129
  replace hM := hM.call (r' := 0) hv130 (by decide)
  have ex127 : x127.toInt = (0 : Int) := by rw [show x127 = 0 from c128.symm.trans c131]; decide
  refine lv_if_eq (tgt := 11) hx hb dX3_readFact_7 (by decide) (fun _ => ?_) (fun c => absurd (by decide) c)
  replace hM := hM.pos (by decide)
  refine lv_aload_n hx hb dX3_readFact_11 rfl (lv_at hl 0 rfl) ?_
  refine tk_getA hC hK hw hT hinX3 kC_at3 (by decide) rfl 0 (by decide) (List.mem_cons_of_mem _ uw_3_12) rfl rfl dX3_readFact_12 ?_
  refine va_ldcS hx hb hC.2.2.2.1 hSR.2.2.2.2.1 dX3_readFact_15 ?_
  refine tk_Vi hC hK hw hT hA hE hSR kC_at1 (by decide) rfl (kz_X6_takeWord_4 l adK adV dC dI cy ad B hB0 (Int.le_trans hB1 (by decide)) qr s1    w125 H.size hT ) (cwV 1 hC.2.2.2.2 uV_RX3_59 rfl rfl rfl (by decide +kernel) ⟨Nat.le_of_ble_eq_true rfl, Nat.le_of_ble_eq_true rfl⟩) rfl hl.1 rfl (Nat.le_of_ble_eq_true rfl) dX3_readFact_17 (fun r132 w134 H locs hp133 hw => ?_)
  obtain ⟨hT, k135, hv139, hg138⟩ := hp133
  have hF := hF.tr k135 (by decide)
  have c140 := k135.gi kC_at1 (by decide) c131
  rcases hg138 with rfl | ⟨rfl, ⟨x136, c137, rx136, tx136⟩⟩
  · replace hM := hM.call (r' := 0) hv139 (by decide)
    refine lv_istore_n (lv' := [(2, .int 0), (0, .ref (ad 3)), (1, .int 3)]) hx hb dX3_readFact_20 rfl hl (by decide) rfl (fun ls hl => ?_)
    refine lv_iload_n hx hb dX3_readFact_21 rfl (lv_at hl 0 rfl) ?_
    refine lv_if_ne (tgt := 41) hx hb dX3_readFact_22 (by decide) (fun c => absurd (by decide) c) (fun _ => ?_)
    replace hM := hM.neg (by decide)
    refine lv_aload_n hx hb dX3_readFact_25 rfl (lv_at hl 1 rfl) ?_
    refine tk_getA hC hK hw hT hinX3 kC_at3 (by decide) rfl 0 (by decide) (List.mem_cons_of_mem _ uw_3_12) rfl rfl dX3_readFact_26 ?_
    refine lv_bipush (v := 91) hx hb dX3_readFact_29 (by decide) ?_
    refine tk_Vi hC hK hw hT hA hE hSR kC_at1 (by decide) rfl (kz_X6_takeByte_2 l adK adV dC dI cy ad B hB0 (Int.le_trans hB1 (by decide)) qr s1    w134 H.size hT ) (cwV 1 hC.2.2.2.2 uV_RX3_84 rfl rfl rfl (by decide +kernel) ⟨Nat.le_of_ble_eq_true rfl, Nat.le_of_ble_eq_true rfl⟩) rfl hl.1 rfl (Nat.le_of_ble_eq_true rfl) dX3_readFact_31 (fun r141 w143 H locs hp142 hw => ?_)
    obtain ⟨hT, k144, hv150, hg149⟩ := hp142
    have hF := hF.tr k144 (by decide)
    have c151 := k144.gi kC_at1 (by decide) c140
    rcases hg149 with rfl | ⟨rfl, ⟨x145, c146, rx145, tx145⟩, ⟨x147, c148, rx147, tx147⟩⟩
    · replace hM := hM.call (r' := 0) hv150 (by decide)
      refine lv_if_eq (tgt := 41) hx hb dX3_readFact_34 (by decide) (fun _ => ?_) (fun c => absurd (by decide) c)
      replace hM := hM.pos (by decide)
      exact J41 0 H locs ls w143 (by decide) (by decide)  hw hT hF c151 hM (lv_sub hl [1, 2, 0] rfl)
    · replace hM := hM.call (r' := 1) hv150 (by decide)
      refine lv_if_eq (tgt := 41) hx hb dX3_readFact_34 (by decide) (fun c => absurd c (by decide)) (fun _ => ?_)
      replace hM := hM.neg (by decide)
      refine lv_iconst (v := 1) hx hb dX3_readFact_37 (by decide) ?_
      refine lv_goto (tgt := 42) hx hb dX3_readFact_38 (by decide) ?_
      refine lv_istore_n (lv' := [(3, .int 1), (2, .int 0), (0, .ref (ad 3)), (1, .int 3)]) hx hb dX3_readFact_42 rfl hl (by decide) rfl (fun ls hl => ?_)
      refine lv_iload_n hx hb dX3_readFact_43 rfl (lv_at hl 1 rfl) ?_
      refine lv_if_ne (tgt := 77) hx hb dX3_readFact_44 (by decide) (fun c => absurd (by decide) c) (fun _ => ?_)
      replace hM := hM.neg (by decide)
      refine lv_iload_n hx hb dX3_readFact_47 rfl (lv_at hl 0 rfl) ?_
      refine lv_if_ne (tgt := 77) hx hb dX3_readFact_48 (by decide) (fun _ => ?_) (fun c => absurd c (by decide))
      replace hM := hM.pos (by decide)
      exact J77 0 1 H locs ls w143 (by decide) (by decide) (by decide) (by decide)  hw hT hF c151 hM (lv_sub hl [2, 3, 1, 0] rfl)
  · replace hM := hM.call (r' := 1) hv139 (by decide)
    refine lv_istore_n (lv' := [(2, .int 1), (0, .ref (ad 3)), (1, .int 3)]) hx hb dX3_readFact_20 rfl hl (by decide) rfl (fun ls hl => ?_)
    refine lv_iload_n hx hb dX3_readFact_21 rfl (lv_at hl 0 rfl) ?_
    refine lv_if_ne (tgt := 41) hx hb dX3_readFact_22 (by decide) (fun _ => ?_) (fun c => absurd c (by decide))
    replace hM := hM.pos (by decide)
    exact J41 1 H locs ls w134 (by decide) (by decide)  hw hT hF c140 hM (lv_sub hl [1, 2, 0] rfl)
abbrev Pz_X3_readTest_4 (ad : Nat → Nat) (cy : Nat → ClassId) (B : Int) (qr : Nat) (s1 : Int)  (w0 : va_W) : va_W → Prop := fun u => TW ksC ad cy B qr s1 u ∧ FE ksC [(2, 3, 3), (3, 2, 2), (6, 1, 1), (6, 3, 3), (6, 4, 4), (22, 0, 13), (23, 0, 400)] w0 u ∧ Ev (fun n => m_X3_readTest n qr 3 3 (sI w0)) (0, sI u) ∧ ((True))
set_option maxHeartbeats 4000000 in
set_option maxRecDepth 100000 in
theorem kz_X3_readTest_4 (l : Launch) (adK adV : Nat → Nat) (dC : Nat → ClassId) (dI : Nat → Nat → Nat) (cy : Nat → ClassId) (ad : Nat → Nat) (B : Int) (hB0 : 2147483648 ≤ B) (hB1 : B ≤ 1152921504606846976) (qr : Nat) (s1 : Int) (hqr : ksC[qr]? = some 2)  (w0 : va_W) (sz : Nat) (hT : TW ksC ad cy B qr s1 w0) (cf0_ : gi w0 1 4 = 0) : Met l yX3_readTest (wu yX3_readTest cX3_readTest 4 none) ({ frames := 23, cells := 0, slots := 0, locals := 564 }) (va_Pc [.ref (ad 3), .int 3] (wpreS adK adV dC dI cy sz w0)) (va_Qv (Pz_X3_readTest_4 ad cy B qr s1  w0) (fun u : va_W => wpost dC dI cy (va_A w0 sz) u) (va_A w0 sz)) 0 0 (va_A w0 sz) := by
  refine Met.ofW (cc := cX3_readTest) (maxL := 4) (ret := none) (by decide) rfl ?_
  intro p e s m args below meth c s₁ Bk hml hv
  obtain ⟨rfl, ⟨hsz, hP, hK, hD0⟩, hE, hSR⟩ := hv
  have hx := Bk.exec
  have hb := Bk.bytes
  have hr := Bk.returns
  have hlocks := Bk.notSynchronized
  have hC : CallFix p m c cX3_readTest 4 s _ (wu yX3_readTest cX3_readTest 4 none) RX3 := ⟨hx, hb, hml, findClass_of_methodNamed Bk.named, atoms_spec (ws := (wu yX3_readTest cX3_readTest 4 none)) Bk.pre⟩
  subst hsz
  have hD := hD0.self (sz := s.heap.size)
  generalize hAe : va_A w0 s.heap.size = A at hD hE ⊢
  have hA : ∀ q : Nat, s.heap.size ≤ q → A q := fun q h => by rw [← hAe]; exact Or.inr h
  have hw : Wd dC dI A s.heap s.heap [] w0 := ⟨hP, hD, va_S.rf⟩
  have hF : FE ksC [(2, 3, 3), (3, 2, 2), (6, 1, 1), (6, 3, 3), (6, 4, 4), (22, 0, 13), (23, 0, 400)] w0 w0 := FE.rf
  have hl := lv_entry ([.ref (ad 3), .int 3]) (n := 4) (Nat.le_of_ble_eq_true rfl)
  rw [lg_entry_eq]
  generalize (lg_sl ([.ref (ad 3), .int 3]) ++ List.replicate (4 - (lg_sl ([.ref (ad 3), .int 3])).length) Slot.unset).toArray = ls at hl ⊢
  have hl : lv_has ls 4 [(0, .ref (ad 3)), (1, .int 3)] := hl
  generalize hloc : ([] : List Loc) = locs at hw ⊢
  have hinX3 : ∀ w ∈ u_ws RX3 TX3 3, w ∈ (wu yX3_readTest cX3_readTest 4 none) := fun _ h => List.mem_cons_of_mem _ (up_75 h)
  have J86 : ∀ (v86_2 : Int32) (v86_3 : Int32) (H : Heap) (locs : List Loc) (ls : Array Slot) (w1 : va_W), (-1) ≤ v86_2.toInt → v86_2.toInt ≤ 21 → 0 ≤ v86_3.toInt → v86_3.toInt ≤ 400 → Wd dC dI A s.heap H locs w1 → TW ksC ad cy B qr s1 w1 → FE ksC [(2, 3, 3), (3, 2, 2), (6, 1, 1), (6, 3, 3), (6, 4, 4), (22, 0, 13), (23, 0, 400)] w0 w1 → TT (fun n => m_X3_readTest n qr 3 3 (sI w0)) (fun n => b_X3_readTest_86 (j_X3_readFact_X3_readTest qr 3 n) n qr 3 (v86_2.toInt) (sI w1)) → lv_has ls 4 [(0, .ref (ad 3)), (1, .int 3), (2, .int v86_2), (3, .int v86_3)] → W p l e ({ frames := 23, cells := 0, slots := 0, locals := 564 }) s m (List.toArray [.ref (ad 3), .int 3]) below meth c H locs 0 0 (MQ below (va_Qv (Pz_X3_readTest_4 ad cy B qr s1  w0) (fun u : va_W => wpost dC dI cy A u) A) (List.toArray [.ref (ad 3), .int 3]) s 0 0 A) (F0 m 86 ls []) := by
    intro v86_2 v86_3 H locs ls w1 r2 t3 r4 t5 hw hT hF hM hl
    refine lv_aload_n hx hb dX3_readTest_86 rfl (lv_at hl 0 rfl) ?_
    refine lv_iload_n hx hb dX3_readTest_87 rfl (lv_at hl 2 rfl) ?_
    refine tk_Vv hC hK hw hT hA hE hSR kC_at3 (by decide) rfl (kz_X3_addWaiting_1 l adK adV dC dI cy ad B hB0 (Int.le_trans hB1 (by decide)) qr s1 hqr  v86_2 w1 H.size hT ) (cwV 1 hC.2.2.2.2 uV_RX3_79 rfl rfl rfl (by decide +kernel) ⟨Nat.le_of_ble_eq_true rfl, Nat.le_of_ble_eq_true rfl⟩) rfl hl.1 rfl (Nat.le_of_ble_eq_true rfl) dX3_readTest_88 (fun w8 H locs hp7 hw => ?_)
    obtain ⟨hT, k9, hv11, hg10⟩ := hp7
    have hF := hF.tr k9 (by decide)
    clear hg10
    replace hM := hM.call hv11 rfl
    exact tk_vret hC hr hlocks hK ⟨hT, hF, hM.ret rfl, trivial⟩ hw dX3_readTest_91
  have L9 : ∀ (n9 : Nat) (v9_2 : Int32) (v9_3 : Int32) (H : Heap) (locs : List Loc) (ls : Array Slot) (w12 : va_W), (-1) ≤ v9_2.toInt → v9_2.toInt ≤ 21 → 0 ≤ v9_3.toInt → v9_3.toInt ≤ 400 → (400 - v9_3.toInt).toNat < n9 → Wd dC dI A s.heap H locs w12 → TW ksC ad cy B qr s1 w12 → FE ksC [(2, 3, 3), (3, 2, 2), (6, 1, 1), (6, 3, 3), (6, 4, 4), (22, 0, 13), (23, 0, 400)] w0 w12 → TT (fun n => m_X3_readTest n qr 3 3 (sI w0)) (fun n => j_X3_readFact_X3_readTest qr 3 n 2009 [(3 : Int), v9_2.toInt, v9_3.toInt] (sI w12)) → lv_has ls 4 [(0, .ref (ad 3)), (1, .int 3), (2, .int v9_2), (3, .int v9_3)] → W p l e ({ frames := 23, cells := 0, slots := 0, locals := 564 }) s m (List.toArray [.ref (ad 3), .int 3]) below meth c H locs 0 0 (MQ below (va_Qv (Pz_X3_readTest_4 ad cy B qr s1  w0) (fun u : va_W => wpost dC dI cy A u) A) (List.toArray [.ref (ad 3), .int 3]) s 0 0 A) (F0 m 9 ls []) := by
    intro n9
    induction n9 with
    | zero => intro v9_2 v9_3 H locs ls w12 r13 t14 r15 t16 hm9 hw hT hF hM hl; omega
    | succ n9 ih9 =>
      intro v9_2 v9_3 H locs ls w12 r13 t14 r15 t16 hm9 hw hT hF hM hl
      have J80 : ∀ (v80_2 : Int32) (H : Heap) (locs : List Loc) (ls : Array Slot) (w17 : va_W), (-1) ≤ v80_2.toInt → v80_2.toInt ≤ 21 → 0 ≤ v9_3.toInt → v9_3.toInt ≤ 399 → Wd dC dI A s.heap H locs w17 → TW ksC ad cy B qr s1 w17 → FE ksC [(2, 3, 3), (3, 2, 2), (6, 1, 1), (6, 3, 3), (6, 4, 4), (22, 0, 13), (23, 0, 400)] w0 w17 → TT (fun n => m_X3_readTest n qr 3 3 (sI w0)) (fun n => b_X3_readTest_80 (j_X3_readFact_X3_readTest qr 3 n) n qr 3 (3 : Int) (v80_2.toInt) (v9_3.toInt) (sI w17)) → lv_has ls 4 [(0, .ref (ad 3)), (1, .int 3), (2, .int v80_2), (3, .int v9_3)] → W p l e ({ frames := 23, cells := 0, slots := 0, locals := 564 }) s m (List.toArray [.ref (ad 3), .int 3]) below meth c H locs 0 0 (MQ below (va_Qv (Pz_X3_readTest_4 ad cy B qr s1  w0) (fun u : va_W => wpost dC dI cy A u) A) (List.toArray [.ref (ad 3), .int 3]) s 0 0 A) (F0 m 80 ls []) := by
        intro v80_2 H locs ls w17 r18 t19 r20 t21 hw hT hF hM hl
        obtain ⟨x22, ex22⟩ : ∃ y : Int32, y = v9_3 + Int32.ofInt 1 := ⟨_, rfl⟩
        have erx22 := ex22
        refine lv_iinc (v := x22) (lv' := [(3, .int x22), (0, .ref (ad 3)), (1, .int 3), (2, .int v80_2)]) hx hb dX3_readTest_80 hl (k := 3) rfl ex22.symm (by decide) rfl (fun ls hl => ?_)
        have ex22 : x22.toInt = v9_3.toInt + 1 := by rw [ex22]; exact wk_add (y := 1) (show -2147483648 ≤ v9_3.toInt + 1 by omega) (show v9_3.toInt + 1 ≤ 2147483647 by omega)
        replace hM := hM.lt ex22.symm
        refine lv_goto (tgt := 9) hx hb dX3_readTest_83 (by decide) ?_
        exact ih9 v80_2 x22 H locs ls w17 (show (-1) ≤ v80_2.toInt from r18) (show v80_2.toInt ≤ 21 from t19) (show 0 ≤ x22.toInt by first | with_reducible assumption | omega) (show x22.toInt ≤ 400 by first | with_reducible assumption | omega) (show (400 - x22.toInt).toNat < n9 by first | exact tn_lt hm9 (by omega) (by omega) | omega) hw hT hF hM (lv_sub hl [1, 2, 3, 0] rfl)
      replace hM := hM.suc (fun _ => e_X3_readTest_9)
      refine lv_iload_n hx hb dX3_readTest_9 rfl (lv_at hl 3 rfl) ?_
      refine lv_sipush (v := 400) hx hb dX3_readTest_10 (by decide) ?_
      refine lv_icmp_ge (tgt := 86) hx hb dX3_readTest_13 (by decide) (fun c23 => ?_) (fun c23 => ?_)
      · have c23 : (400 : Int) ≤ v9_3.toInt := wk_le.mp c23
        replace hM := hM.pos c23
        exact J86 v9_2 v9_3 H locs ls w12 (show (-1) ≤ v9_2.toInt from r13) (show v9_2.toInt ≤ 21 from t14) (show 0 ≤ v9_3.toInt from r15) (show v9_3.toInt ≤ 400 from t16)  hw hT hF hM (lv_sub hl [0, 1, 2, 3] rfl)
      · have c23 : v9_3.toInt < (400 : Int) := wk_leF c23
        replace hM := hM.neg (Int.not_le.mpr c23)
        refine lv_aload_n hx hb dX3_readTest_16 rfl (lv_at hl 0 rfl) ?_
        refine tk_getA hC hK hw hT hinX3 kC_at3 (by decide) rfl 0 (by decide) (List.mem_cons_of_mem _ uw_3_12) rfl rfl dX3_readTest_17 ?_
        refine tk_Vi hC hK hw hT hA hE hSR kC_at1 (by decide) rfl (kz_X6_isFaulty_1 l adK adV dC dI cy ad B hB0 (Int.le_trans hB1 (by decide)) qr s1    w12 H.size hT ) (cwV 0 hC.2.2.2.2 uV_RX3_54 rfl rfl rfl (by decide +kernel) ⟨Nat.le_of_ble_eq_true rfl, Nat.le_of_ble_eq_true rfl⟩) rfl hl.1 rfl (Nat.le_of_ble_eq_true rfl) dX3_readTest_20 (fun r24 w26 H locs hp25 hw => ?_)
        obtain ⟨hT, k27, hv33, hg32⟩ := hp25
        have hF := hF.tr k27 (by decide)
        rcases hg32 with ⟨rfl, ⟨x28, c29, rx28, tx28⟩⟩ | ⟨rfl, ⟨x30, c31, rx30, tx30⟩⟩
        · replace hM := hM.call (r' := 0) hv33 (by decide)
          refine lv_if_ne (tgt := 86) hx hb dX3_readTest_23 (by decide) (fun c => absurd (by decide) c) (fun _ => ?_)
          replace hM := hM.neg (by decide)
          refine lv_aload_n hx hb dX3_readTest_26 rfl (lv_at hl 0 rfl) ?_
          refine tk_getA hC hK hw hT hinX3 kC_at3 (by decide) rfl 0 (by decide) (List.mem_cons_of_mem _ uw_3_12) rfl rfl dX3_readTest_27 ?_
          refine va_ldcS hx hb hC.2.2.2.1 hSR.2.2.2.2.2.2.1 dX3_readTest_30 ?_
          refine tk_Vi hC hK hw hT hA hE hSR kC_at1 (by decide) rfl (kz_X6_takeWord_2 l adK adV dC dI cy ad B hB0 (Int.le_trans hB1 (by decide)) qr s1    w26 H.size hT ) (cwV 1 hC.2.2.2.2 uV_RX3_59 rfl rfl rfl (by decide +kernel) ⟨Nat.le_of_ble_eq_true rfl, Nat.le_of_ble_eq_true rfl⟩) rfl hl.1 rfl (Nat.le_of_ble_eq_true rfl) dX3_readTest_32 (fun r34 w36 H locs hp35 hw => ?_)
          obtain ⟨hT, k37, hv41, hg40⟩ := hp35
          have hF := hF.tr k37 (by decide)
          have c42 := k37.gi kC_at1 (by decide) c29
          rcases hg40 with rfl | ⟨rfl, ⟨x38, c39, rx38, tx38⟩⟩
          · replace hM := hM.call (r' := 0) hv41 (by decide)
            refine lv_if_eq (tgt := 55) hx hb dX3_readTest_35 (by decide) (fun _ => ?_) (fun c => absurd (by decide) c)
            replace hM := hM.pos (by decide)
            refine lv_aload_n hx hb dX3_readTest_55 rfl (lv_at hl 0 rfl) ?_
            refine tk_getA hC hK hw hT hinX3 kC_at3 (by decide) rfl 0 (by decide) (List.mem_cons_of_mem _ uw_3_12) rfl rfl dX3_readTest_56 ?_
            refine va_ldcS hx hb hC.2.2.2.1 hSR.2.2.2.2.2.2.2 dX3_readTest_59 ?_
            refine tk_Vi hC hK hw hT hA hE hSR kC_at1 (by decide) rfl (kz_X6_takeWord_3 l adK adV dC dI cy ad B hB0 (Int.le_trans hB1 (by decide)) qr s1    w36 H.size hT ) (cwV 1 hC.2.2.2.2 uV_RX3_59 rfl rfl rfl (by decide +kernel) ⟨Nat.le_of_ble_eq_true rfl, Nat.le_of_ble_eq_true rfl⟩) rfl hl.1 rfl (Nat.le_of_ble_eq_true rfl) dX3_readTest_61 (fun r43 w45 H locs hp44 hw => ?_)
            obtain ⟨hT, k46, hv50, hg49⟩ := hp44
            have hF := hF.tr k46 (by decide)
            have c51 := k46.gi kC_at1 (by decide) c42
            rcases hg49 with rfl | ⟨rfl, ⟨x47, c48, rx47, tx47⟩⟩
            · replace hM := hM.call (r' := 0) hv50 (by decide)
              refine lv_if_eq (tgt := 86) hx hb dX3_readTest_64 (by decide) (fun _ => ?_) (fun c => absurd (by decide) c)
              replace hM := hM.pos (by decide)
              exact J86 v9_2 v9_3 H locs ls w45 (show (-1) ≤ v9_2.toInt from r13) (show v9_2.toInt ≤ 21 from t14) (show 0 ≤ v9_3.toInt from r15) (show v9_3.toInt ≤ 400 from t16)  hw hT hF hM (lv_sub hl [0, 1, 2, 3] rfl)
            · replace hM := hM.call (r' := 1) hv50 (by decide)
              refine lv_if_eq (tgt := 86) hx hb dX3_readTest_64 (by decide) (fun c => absurd c (by decide)) (fun _ => ?_)
              replace hM := hM.neg (by decide)
              refine lv_aload_n hx hb dX3_readTest_67 rfl (lv_at hl 0 rfl) ?_
              refine lv_iload_n hx hb dX3_readTest_68 rfl (lv_at hl 2 rfl) ?_
              refine tk_Vv hC hK hw hT hA hE hSR kC_at3 (by decide) rfl (kz_X3_addWaiting_1 l adK adV dC dI cy ad B hB0 (Int.le_trans hB1 (by decide)) qr s1 hqr  v9_2 w45 H.size hT ) (cwV 1 hC.2.2.2.2 uV_RX3_79 rfl rfl rfl (by decide +kernel) ⟨Nat.le_of_ble_eq_true rfl, Nat.le_of_ble_eq_true rfl⟩) rfl hl.1 rfl (Nat.le_of_ble_eq_true rfl) dX3_readTest_69 (fun w54 H locs hp53 hw => ?_)
              obtain ⟨hT, k55, hv57, hg56⟩ := hp53
              have hF := hF.tr k55 (by decide)
              have c58 := k55.gi kC_at1 (by decide) c51
              have c59 := k55.gi kC_at1 (by decide) c48
              clear hg56
              replace hM := hM.call hv57 rfl
              refine lv_bipush (v := 21) hx hb dX3_readTest_72 (by decide) ?_
              refine lv_istore_n (lv' := [(2, .int 21), (0, .ref (ad 3)), (1, .int 3), (3, .int v9_3)]) hx hb dX3_readTest_74 rfl hl (by decide) rfl (fun ls hl => ?_)
              refine lv_aload_n hx hb dX3_readTest_75 rfl (lv_at hl 1 rfl) ?_
              refine lv_iload_n hx hb dX3_readTest_76 rfl (lv_at hl 2 rfl) ?_
              refine tk_Vv hC hK hw hT hA hE hSR kC_at3 (by decide) rfl (kz_X3_readFact_4 l adK adV dC dI cy ad B hB0 (Int.le_trans hB1 (by decide)) qr s1 hqr   w54 H.size hT (c58.trans (wk_eq.mpr (show x28.toInt = 0 by first | exact Int.le_antisymm (by omega) (by omega) | omega)))) (cwV 1 hC.2.2.2.2 uV_RX3_69 rfl rfl rfl (by decide +kernel) ⟨Nat.le_of_ble_eq_true rfl, Nat.le_of_ble_eq_true rfl⟩) rfl hl.1 rfl (Nat.le_of_ble_eq_true rfl) dX3_readTest_77 (fun w62 H locs hp61 hw => ?_)
              obtain ⟨hT, k63, hv65, hg64⟩ := hp61
              have hF := hF.tr k63 (by decide)
              clear hg64
              replace hM := hM.call hv65 rfl
              exact J80 21 H locs ls w62 (by decide) (by decide) (show 0 ≤ v9_3.toInt from r15) (show v9_3.toInt ≤ 399 by first | with_reducible assumption | omega)  hw hT hF hM (lv_sub hl [1, 2, 0, 3] rfl)
          · replace hM := hM.call (r' := 1) hv41 (by decide)
            refine lv_if_eq (tgt := 55) hx hb dX3_readTest_35 (by decide) (fun c => absurd c (by decide)) (fun _ => ?_)
            replace hM := hM.neg (by decide)
            refine lv_aload_n hx hb dX3_readTest_38 rfl (lv_at hl 0 rfl) ?_
            refine lv_iload_n hx hb dX3_readTest_39 rfl (lv_at hl 1 rfl) ?_
            refine tk_Vv hC hK hw hT hA hE hSR kC_at3 (by decide) rfl (kz_X3_readFact_4 l adK adV dC dI cy ad B hB0 (Int.le_trans hB1 (by decide)) qr s1 hqr   w36 H.size hT (c42.trans (wk_eq.mpr (show x28.toInt = 0 by first | exact Int.le_antisymm (by omega) (by omega) | omega)))) (cwV 1 hC.2.2.2.2 uV_RX3_69 rfl rfl rfl (by decide +kernel) ⟨Nat.le_of_ble_eq_true rfl, Nat.le_of_ble_eq_true rfl⟩) rfl hl.1 rfl (Nat.le_of_ble_eq_true rfl) dX3_readTest_40 (fun w68 H locs hp67 hw => ?_)
            obtain ⟨hT, k69, hv71, hg70⟩ := hp67
            have hF := hF.tr k69 (by decide)
            clear hg70
            replace hM := hM.call hv71 rfl
            refine lv_aload_n hx hb dX3_readTest_43 rfl (lv_at hl 0 rfl) ?_
            refine tk_getQ hC hK hw hT hqr (by decide) hinX3 kC_at3 (by decide) rfl 1 (by decide) (List.mem_cons_of_mem _ uw_26_17) rfl rfl dX3_readTest_44 ?_
            refine lv_bipush (v := 20) hx hb dX3_readTest_47 (by decide) ?_
            refine tk_Vv hC hK hw hT hA hE hSR hqr (by decide) rfl (kz_X2_addToken_1 l adK adV dC dI cy ad B hB0 (Int.le_trans hB1 (by decide)) qr s1   qr hqr 20 w68 H.size hT ) (cwV 1 hC.2.2.2.2 uV_RX3_74 rfl rfl rfl (by decide +kernel) ⟨Nat.le_of_ble_eq_true rfl, Nat.le_of_ble_eq_true rfl⟩) rfl hl.1 rfl (Nat.le_of_ble_eq_true rfl) dX3_readTest_49 (fun w74 H locs hp73 hw => ?_)
            obtain ⟨hT, k75, hv79, hg78⟩ := hp73
            try simp only [show (20 : Int32).toInt = 20 by decide] at hv79
            have hF := hF.tr k75 (by decide)
            obtain ⟨x76, c77, rx76, tx76⟩ := hg78
            replace hM := hM.call hv79 rfl
            refine lv_goto (tgt := 80) hx hb dX3_readTest_52 (by decide) ?_
            exact J80 v9_2 H locs ls w74 (show (-1) ≤ v9_2.toInt from r13) (show v9_2.toInt ≤ 21 from t14) (show 0 ≤ v9_3.toInt from r15) (show v9_3.toInt ≤ 399 by first | with_reducible assumption | omega)  hw hT hF hM (lv_sub hl [0, 1, 2, 3] rfl)
        · replace hM := hM.call (r' := 1) hv33 (by decide)
          refine lv_if_ne (tgt := 86) hx hb dX3_readTest_23 (by decide) (fun _ => ?_) (fun c => absurd c (by decide))
          replace hM := hM.pos (by decide)
          exact J86 v9_2 v9_3 H locs ls w26 (show (-1) ≤ v9_2.toInt from r13) (show v9_2.toInt ≤ 21 from t14) (show 0 ≤ v9_3.toInt from r15) (show v9_3.toInt ≤ 400 from t16)  hw hT hF hM (lv_sub hl [0, 1, 2, 3] rfl)
  have hM : TT (fun n => m_X3_readTest n qr 3 3 (sI w0)) (fun n => j_X3_readFact_X3_readTest qr 3 n 2000 [3] (sI w0)) := TT.rf
  replace hM := hM.suc (fun _ => e_X3_readTest_e)
  refine lv_aload_n hx hb dX3_readTest_0 rfl (lv_at hl 0 rfl) ?_
  refine lv_iload_n hx hb dX3_readTest_1 rfl (lv_at hl 1 rfl) ?_
  refine tk_Vv hC hK hw hT hA hE hSR kC_at3 (by decide) rfl (kz_X3_readFact_4 l adK adV dC dI cy ad B hB0 (Int.le_trans hB1 (by decide)) qr s1 hqr   w0 s.heap.size hT cf0_) (cwV 1 hC.2.2.2.2 uV_RX3_69 rfl rfl rfl (by decide +kernel) ⟨Nat.le_of_ble_eq_true rfl, Nat.le_of_ble_eq_true rfl⟩) rfl hl.1 rfl (Nat.le_of_ble_eq_true rfl) dX3_readTest_2 (fun w82 H locs hp81 hw => ?_)
  obtain ⟨hT, k83, hv85, hg84⟩ := hp81
  have hF := hF.tr k83 (by decide)
  clear hg84
  replace hM := hM.call hv85 rfl
  refine lv_iconst (v := (-1)) hx hb dX3_readTest_5 (by decide) ?_
  refine lv_istore_n (lv' := [(2, .int (-1)), (0, .ref (ad 3)), (1, .int 3)]) hx hb dX3_readTest_6 rfl hl (by decide) rfl (fun ls hl => ?_)
  refine lv_iconst (v := 0) hx hb dX3_readTest_7 (by decide) ?_
  refine lv_istore_n (lv' := [(3, .int 0), (2, .int (-1)), (0, .ref (ad 3)), (1, .int 3)]) hx hb dX3_readTest_8 rfl hl (by decide) rfl (fun ls hl => ?_)
  exact L9 ((400 - (0 : Int)).toNat + 1) (-1) 0 H locs ls w82 (by decide) (by decide) (by decide) (by decide) (Nat.lt_succ_self _) hw hT hF hM (lv_sub hl [2, 3, 1, 0] rfl)
abbrev Pz_X3_readFact_3 (ad : Nat → Nat) (cy : Nat → ClassId) (B : Int) (qr : Nat) (s1 : Int)  (w0 : va_W) : va_W → Prop := fun u => TW ksC ad cy B qr s1 u ∧ FE ksC [(2, 3, 3), (3, 2, 2), (6, 1, 1), (6, 3, 3), (6, 4, 4), (22, 0, 13), (23, 0, 400)] w0 u ∧ Ev (fun n => m_X3_readFact n qr 3 2 (sI w0)) (0, sI u) ∧ ((True))
set_option maxHeartbeats 4000000 in
set_option maxRecDepth 100000 in
theorem kz_X3_readFact_3 (l : Launch) (adK adV : Nat → Nat) (dC : Nat → ClassId) (dI : Nat → Nat → Nat) (cy : Nat → ClassId) (ad : Nat → Nat) (B : Int) (hB0 : 2147483648 ≤ B) (hB1 : B ≤ 1152921504606846976) (qr : Nat) (s1 : Int) (hqr : ksC[qr]? = some 2)  (w0 : va_W) (sz : Nat) (hT : TW ksC ad cy B qr s1 w0) (cf0_ : gi w0 1 4 = 0) : Met l yX3_readFact (wu yX3_readFact cX3_readFact 5 none) ({ frames := 24, cells := 0, slots := 0, locals := 587 }) (va_Pc [.ref (ad 3), .int 2] (wpreS adK adV dC dI cy sz w0)) (va_Qv (Pz_X3_readFact_3 ad cy B qr s1  w0) (fun u : va_W => wpost dC dI cy (va_A w0 sz) u) (va_A w0 sz)) 0 0 (va_A w0 sz) := by
  refine Met.ofW (cc := cX3_readFact) (maxL := 5) (ret := none) (by decide) rfl ?_
  intro p e s m args below meth c s₁ Bk hml hv
  obtain ⟨rfl, ⟨hsz, hP, hK, hD0⟩, hE, hSR⟩ := hv
  have hx := Bk.exec
  have hb := Bk.bytes
  have hr := Bk.returns
  have hlocks := Bk.notSynchronized
  have hC : CallFix p m c cX3_readFact 5 s _ (wu yX3_readFact cX3_readFact 5 none) RX3 := ⟨hx, hb, hml, findClass_of_methodNamed Bk.named, atoms_spec (ws := (wu yX3_readFact cX3_readFact 5 none)) Bk.pre⟩
  subst hsz
  have hD := hD0.self (sz := s.heap.size)
  generalize hAe : va_A w0 s.heap.size = A at hD hE ⊢
  have hA : ∀ q : Nat, s.heap.size ≤ q → A q := fun q h => by rw [← hAe]; exact Or.inr h
  have hw : Wd dC dI A s.heap s.heap [] w0 := ⟨hP, hD, va_S.rf⟩
  have hF : FE ksC [(2, 3, 3), (3, 2, 2), (6, 1, 1), (6, 3, 3), (6, 4, 4), (22, 0, 13), (23, 0, 400)] w0 w0 := FE.rf
  have hl := lv_entry ([.ref (ad 3), .int 2]) (n := 5) (Nat.le_of_ble_eq_true rfl)
  rw [lg_entry_eq]
  generalize (lg_sl ([.ref (ad 3), .int 2]) ++ List.replicate (5 - (lg_sl ([.ref (ad 3), .int 2])).length) Slot.unset).toArray = ls at hl ⊢
  have hl : lv_has ls 5 [(0, .ref (ad 3)), (1, .int 2)] := hl
  generalize hloc : ([] : List Loc) = locs at hw ⊢
  have hinX3 : ∀ w ∈ u_ws RX3 TX3 3, w ∈ (wu yX3_readFact cX3_readFact 5 none) := fun _ h => List.mem_cons_of_mem _ (up_75 h)
  have J160 : ∀ (v160_2 : Int32) (v160_3 : Int32) (H : Heap) (locs : List Loc) (ls : Array Slot) (w1 : va_W), 0 ≤ v160_2.toInt → v160_2.toInt ≤ 1 → 0 ≤ v160_3.toInt → v160_3.toInt ≤ 1 → Wd dC dI A s.heap H locs w1 → TW ksC ad cy B qr s1 w1 → FE ksC [(2, 3, 3), (3, 2, 2), (6, 1, 1), (6, 3, 3), (6, 4, 4), (22, 0, 13), (23, 0, 400)] w0 w1 → TT (fun n => m_X3_readFact n qr 3 2 (sI w0)) (fun n => b_X3_readFact_160 (j_X3_readFact_X3_readTest qr 3 n) n qr 3 (sI w1)) → lv_has ls 5 [(0, .ref (ad 3)), (1, .int 2), (2, .int v160_2), (3, .int v160_3)] → W p l e ({ frames := 24, cells := 0, slots := 0, locals := 587 }) s m (List.toArray [.ref (ad 3), .int 2]) below meth c H locs 0 0 (MQ below (va_Qv (Pz_X3_readFact_3 ad cy B qr s1  w0) (fun u : va_W => wpost dC dI cy A u) A) (List.toArray [.ref (ad 3), .int 2]) s 0 0 A) (F0 m 160 ls []) := by
    intro v160_2 v160_3 H locs ls w1 r2 t3 r4 t5 hw hT hF hM hl
    exact tk_vret hC hr hlocks hK ⟨hT, hF, hM.ret rfl, trivial⟩ hw dX3_readFact_160
  have J77 : ∀ (v77_2 : Int32) (v77_3 : Int32) (H : Heap) (locs : List Loc) (ls : Array Slot) (w6 : va_W), 0 ≤ v77_2.toInt → v77_2.toInt ≤ 1 → 0 ≤ v77_3.toInt → v77_3.toInt ≤ 1 → Wd dC dI A s.heap H locs w6 → TW ksC ad cy B qr s1 w6 → FE ksC [(2, 3, 3), (3, 2, 2), (6, 1, 1), (6, 3, 3), (6, 4, 4), (22, 0, 13), (23, 0, 400)] w0 w6 → gi w6 1 4 = 0 → TT (fun n => m_X3_readFact n qr 3 2 (sI w0)) (fun n => b_X3_readFact_77 (j_X3_readFact_X3_readTest qr 3 n) n qr 3 (2 : Int) (v77_2.toInt) (sI w6)) → lv_has ls 5 [(0, .ref (ad 3)), (1, .int 2), (2, .int v77_2), (3, .int v77_3)] → W p l e ({ frames := 24, cells := 0, slots := 0, locals := 587 }) s m (List.toArray [.ref (ad 3), .int 2]) below meth c H locs 0 0 (MQ below (va_Qv (Pz_X3_readFact_3 ad cy B qr s1  w0) (fun u : va_W => wpost dC dI cy A u) A) (List.toArray [.ref (ad 3), .int 2]) s 0 0 A) (F0 m 77 ls []) := by
    intro v77_2 v77_3 H locs ls w6 r7 t8 r9 t10 hw hT hF c11 hM hl
    refine lv_iload_n hx hb dX3_readFact_77 rfl (lv_at hl 1 rfl) ?_
    refine lv_bipush (v := 10) hx hb dX3_readFact_78 (by decide) ?_
    refine lv_icmp_lt (tgt := 101) hx hb dX3_readFact_80 (by decide) (fun _ => ?_) (fun c => absurd (by decide) c)
    replace hM := hM.pos (by decide)
    refine lv_iload_n hx hb dX3_readFact_101 rfl (lv_at hl 2 rfl) ?_
    refine lv_if_eq (tgt := 124) hx hb dX3_readFact_102 (by decide) (fun c12 => ?_) (fun c12 => ?_)
    · have c12 : v77_2.toInt = (0 : Int) := wk_eq.mp c12
      replace hM := hM.pos c12
      refine lv_aload_n hx hb dX3_readFact_124 rfl (lv_at hl 0 rfl) ?_
      refine lv_iload_n hx hb dX3_readFact_125 rfl (lv_at hl 1 rfl) ?_
      refine lv_iconst (v := 1) hx hb dX3_readFact_126 (by decide) ?_
      refine lv_iadd hx hb dX3_readFact_127 ?_
      refine wk_top 3 (by decide) ?_
      replace hM := hM.lt (v := 3) (by decide)
      refine tk_Vv hC hK hw hT hA hE hSR kC_at3 (by decide) rfl (kz_X3_readTest_4 l adK adV dC dI cy ad B hB0 (Int.le_trans hB1 (by decide)) qr s1 hqr   w6 H.size hT c11) (cwV 1 hC.2.2.2.2 uV_RX3_63 rfl rfl rfl (by decide +kernel) ⟨Nat.le_of_ble_eq_true rfl, Nat.le_of_ble_eq_true rfl⟩) rfl hl.1 rfl (Nat.le_of_ble_eq_true rfl) dX3_readFact_128 (fun w15 H locs hp14 hw => ?_)
      obtain ⟨hT, k16, hv18, hg17⟩ := hp14
      have hF := hF.tr k16 (by decide)
      clear hg17
      replace hM := hM.call hv18 rfl
      refine lv_aload_n hx hb dX3_readFact_131 rfl (lv_at hl 0 rfl) ?_
      refine tk_getA hC hK hw hT hinX3 kC_at3 (by decide) rfl 0 (by decide) (List.mem_cons_of_mem _ uw_3_12) rfl rfl dX3_readFact_132 ?_
      refine tk_Vi hC hK hw hT hA hE hSR kC_at1 (by decide) rfl (kz_X6_isFaulty_1 l adK adV dC dI cy ad B hB0 (Int.le_trans hB1 (by decide)) qr s1    w15 H.size hT ) (cwV 0 hC.2.2.2.2 uV_RX3_54 rfl rfl rfl (by decide +kernel) ⟨Nat.le_of_ble_eq_true rfl, Nat.le_of_ble_eq_true rfl⟩) rfl hl.1 rfl (Nat.le_of_ble_eq_true rfl) dX3_readFact_135 (fun r19 w21 H locs hp20 hw => ?_)
      obtain ⟨hT, k22, hv28, hg27⟩ := hp20
      have hF := hF.tr k22 (by decide)
      rcases hg27 with ⟨rfl, ⟨x23, c24, rx23, tx23⟩⟩ | ⟨rfl, ⟨x25, c26, rx25, tx25⟩⟩
      · replace hM := hM.call (r' := 0) hv28 (by decide)
        refine lv_if_ne (tgt := 160) hx hb dX3_readFact_138 (by decide) (fun c => absurd (by decide) c) (fun _ => ?_)
        replace hM := hM.neg (by decide)
        refine lv_aload_n hx hb dX3_readFact_141 rfl (lv_at hl 0 rfl) ?_
        refine tk_getA hC hK hw hT hinX3 kC_at3 (by decide) rfl 0 (by decide) (List.mem_cons_of_mem _ uw_3_12) rfl rfl dX3_readFact_142 ?_
        refine lv_bipush (v := 93) hx hb dX3_readFact_145 (by decide) ?_
        refine tk_Vi hC hK hw hT hA hE hSR kC_at1 (by decide) rfl (kz_X6_takeByte_3 l adK adV dC dI cy ad B hB0 (Int.le_trans hB1 (by decide)) qr s1    w21 H.size hT ) (cwV 1 hC.2.2.2.2 uV_RX3_84 rfl rfl rfl (by decide +kernel) ⟨Nat.le_of_ble_eq_true rfl, Nat.le_of_ble_eq_true rfl⟩) rfl hl.1 rfl (Nat.le_of_ble_eq_true rfl) dX3_readFact_147 (fun r29 w31 H locs hp30 hw => ?_)
        obtain ⟨hT, k32, hv38, hg37⟩ := hp30
        have hF := hF.tr k32 (by decide)
        have c39 := k32.gi kC_at1 (by decide) c24
        rcases hg37 with rfl | ⟨rfl, ⟨x33, c34, rx33, tx33⟩, ⟨x35, c36, rx35, tx35⟩⟩
        · replace hM := hM.call (r' := 0) hv38 (by decide)
          refine lv_if_ne (tgt := 160) hx hb dX3_readFact_150 (by decide) (fun c => absurd (by decide) c) (fun _ => ?_)
          replace hM := hM.neg (by decide)
          refine lv_aload_n hx hb dX3_readFact_153 rfl (lv_at hl 0 rfl) ?_
          refine tk_getA hC hK hw hT hinX3 kC_at3 (by decide) rfl 0 (by decide) (List.mem_cons_of_mem _ uw_3_12) rfl rfl dX3_readFact_154 ?_
          refine tk_Vv hC hK hw hT hA hE hSR kC_at1 (by decide) rfl (kz_X6_blameHere_1 l adK adV dC dI cy ad B hB0 (Int.le_trans hB1 (by decide)) qr s1    w31 H.size hT (c39.trans (wk_eq.mpr (show x23.toInt = 0 by first | exact Int.le_antisymm (by omega) (by omega) | omega)))) (cwV 0 hC.2.2.2.2 uV_RX3_95 rfl rfl rfl (by decide +kernel) ⟨Nat.le_of_ble_eq_true rfl, Nat.le_of_ble_eq_true rfl⟩) rfl hl.1 rfl (Nat.le_of_ble_eq_true rfl) dX3_readFact_157 (fun w42 H locs hp41 hw => ?_)
          obtain ⟨hT, k43, hv47, hg46⟩ := hp41
          have hF := hF.tr k43 (by decide)
          obtain ⟨x44, c45, rx44, tx44⟩ := hg46
          replace hM := hM.call hv47 rfl
          exact J160 v77_2 v77_3 H locs ls w42 (show 0 ≤ v77_2.toInt from r7) (show v77_2.toInt ≤ 1 from t8) (show 0 ≤ v77_3.toInt from r9) (show v77_3.toInt ≤ 1 from t10)  hw hT hF hM (lv_sub hl [0, 1, 2, 3] rfl)
        · replace hM := hM.call (r' := 1) hv38 (by decide)
          refine lv_if_ne (tgt := 160) hx hb dX3_readFact_150 (by decide) (fun _ => ?_) (fun c => absurd c (by decide))
          replace hM := hM.pos (by decide)
          exact J160 v77_2 v77_3 H locs ls w31 (show 0 ≤ v77_2.toInt from r7) (show v77_2.toInt ≤ 1 from t8) (show 0 ≤ v77_3.toInt from r9) (show v77_3.toInt ≤ 1 from t10)  hw hT hF hM (lv_sub hl [0, 1, 2, 3] rfl)
      · replace hM := hM.call (r' := 1) hv28 (by decide)
        refine lv_if_ne (tgt := 160) hx hb dX3_readFact_138 (by decide) (fun _ => ?_) (fun c => absurd c (by decide))
        replace hM := hM.pos (by decide)
        exact J160 v77_2 v77_3 H locs ls w21 (show 0 ≤ v77_2.toInt from r7) (show v77_2.toInt ≤ 1 from t8) (show 0 ≤ v77_3.toInt from r9) (show v77_3.toInt ≤ 1 from t10)  hw hT hF hM (lv_sub hl [0, 1, 2, 3] rfl)
    · have c12 : ¬ v77_2.toInt = (0 : Int) := wk_eqF c12
      replace hM := hM.neg c12
      refine lv_aload_n hx hb dX3_readFact_105 rfl (lv_at hl 0 rfl) ?_
      refine lv_iload_n hx hb dX3_readFact_106 rfl (lv_at hl 1 rfl) ?_
      refine lv_iconst (v := 1) hx hb dX3_readFact_107 (by decide) ?_
      refine lv_iadd hx hb dX3_readFact_108 ?_
      refine wk_top 3 (by decide) ?_
      replace hM := hM.lt (v := 3) (by decide)
      refine tk_Vv hC hK hw hT hA hE hSR kC_at3 (by decide) rfl (kz_X3_readFact_4 l adK adV dC dI cy ad B hB0 (Int.le_trans hB1 (by decide)) qr s1 hqr   w6 H.size hT c11) (cwV 1 hC.2.2.2.2 uV_RX3_69 rfl rfl rfl (by decide +kernel) ⟨Nat.le_of_ble_eq_true rfl, Nat.le_of_ble_eq_true rfl⟩) rfl hl.1 rfl (Nat.le_of_ble_eq_true rfl) dX3_readFact_109 (fun w50 H locs hp49 hw => ?_)
      obtain ⟨hT, k51, hv53, hg52⟩ := hp49
      have hF := hF.tr k51 (by decide)
      clear hg52
      replace hM := hM.call hv53 rfl
      refine lv_aload_n hx hb dX3_readFact_112 rfl (lv_at hl 0 rfl) ?_
      refine tk_getQ hC hK hw hT hqr (by decide) hinX3 kC_at3 (by decide) rfl 1 (by decide) (List.mem_cons_of_mem _ uw_26_17) rfl rfl dX3_readFact_113 ?_
      refine lv_bipush (v := 19) hx hb dX3_readFact_116 (by decide) ?_
      refine tk_Vv hC hK hw hT hA hE hSR hqr (by decide) rfl (kz_X2_addToken_1 l adK adV dC dI cy ad B hB0 (Int.le_trans hB1 (by decide)) qr s1   qr hqr 19 w50 H.size hT ) (cwV 1 hC.2.2.2.2 uV_RX3_74 rfl rfl rfl (by decide +kernel) ⟨Nat.le_of_ble_eq_true rfl, Nat.le_of_ble_eq_true rfl⟩) rfl hl.1 rfl (Nat.le_of_ble_eq_true rfl) dX3_readFact_118 (fun w56 H locs hp55 hw => ?_)
      obtain ⟨hT, k57, hv61, hg60⟩ := hp55
      try simp only [show (19 : Int32).toInt = 19 by decide] at hv61
      have hF := hF.tr k57 (by decide)
      obtain ⟨x58, c59, rx58, tx58⟩ := hg60
      replace hM := hM.call hv61 rfl
      refine lv_goto (tgt := 160) hx hb dX3_readFact_121 (by decide) ?_
      exact J160 v77_2 v77_3 H locs ls w56 (show 0 ≤ v77_2.toInt from r7) (show v77_2.toInt ≤ 1 from t8) (show 0 ≤ v77_3.toInt from r9) (show v77_3.toInt ≤ 1 from t10)  hw hT hF hM (lv_sub hl [0, 1, 2, 3] rfl)
  have J41 : ∀ (v41_2 : Int32) (H : Heap) (locs : List Loc) (ls : Array Slot) (w62 : va_W), 0 ≤ v41_2.toInt → v41_2.toInt ≤ 1 → Wd dC dI A s.heap H locs w62 → TW ksC ad cy B qr s1 w62 → FE ksC [(2, 3, 3), (3, 2, 2), (6, 1, 1), (6, 3, 3), (6, 4, 4), (22, 0, 13), (23, 0, 400)] w0 w62 → gi w62 1 4 = 0 → TT (fun n => m_X3_readFact n qr 3 2 (sI w0)) (fun n => b_X3_readFact_41 (j_X3_readFact_X3_readTest qr 3 n) n qr 3 (2 : Int) (v41_2.toInt) (sI w62)) → lv_has ls 5 [(0, .ref (ad 3)), (1, .int 2), (2, .int v41_2)] → W p l e ({ frames := 24, cells := 0, slots := 0, locals := 587 }) s m (List.toArray [.ref (ad 3), .int 2]) below meth c H locs 0 0 (MQ below (va_Qv (Pz_X3_readFact_3 ad cy B qr s1  w0) (fun u : va_W => wpost dC dI cy A u) A) (List.toArray [.ref (ad 3), .int 2]) s 0 0 A) (F0 m 41 ls []) := by
    intro v41_2 H locs ls w62 r63 t64 hw hT hF c65 hM hl
    refine lv_iconst (v := 0) hx hb dX3_readFact_41 (by decide) ?_
    refine lv_istore_n (lv' := [(3, .int 0), (0, .ref (ad 3)), (1, .int 2), (2, .int v41_2)]) hx hb dX3_readFact_42 rfl hl (by decide) rfl (fun ls hl => ?_)
    refine lv_iload_n hx hb dX3_readFact_43 rfl (lv_at hl 3 rfl) ?_
    refine lv_if_ne (tgt := 77) hx hb dX3_readFact_44 (by decide) (fun c66 => ?_) (fun c66 => ?_)
    · have c66 : ¬ v41_2.toInt = (0 : Int) := wk_eqF c66
      replace hM := hM.pos c66
      exact J77 v41_2 0 H locs ls w62 (show 0 ≤ v41_2.toInt from r63) (show v41_2.toInt ≤ 1 from t64) (by decide) (by decide)  hw hT hF c65 hM (lv_sub hl [1, 2, 3, 0] rfl)
    · have c66 : v41_2.toInt = (0 : Int) := wk_eq.mp c66
      replace hM := hM.neg (fun q => q c66)
      refine lv_iload_n hx hb dX3_readFact_47 rfl (lv_at hl 0 rfl) ?_
      refine lv_if_ne (tgt := 77) hx hb dX3_readFact_48 (by decide) (fun c => absurd (by decide) c) (fun _ => ?_)
      replace hM := hM.neg (by decide)
      refine lv_aload_n hx hb dX3_readFact_51 rfl (lv_at hl 1 rfl) ?_
      refine tk_Vv hC hK hw hT hA hE hSR kC_at3 (by decide) rfl (kz_X3_readSum_1 l adK adV dC dI cy ad B hB0 (Int.le_trans hB1 (by decide)) qr s1 hqr   w62 H.size hT c65) (cwV 0 hC.2.2.2.2 uV_RX3_88 rfl rfl rfl (by decide +kernel) ⟨Nat.le_of_ble_eq_true rfl, Nat.le_of_ble_eq_true rfl⟩) rfl hl.1 rfl (Nat.le_of_ble_eq_true rfl) dX3_readFact_52 (fun w69 H locs hp68 hw => ?_)
      obtain ⟨hT, k70, hv72, hg71⟩ := hp68
      have hF := hF.tr k70 (by decide)
      clear hg71
      replace hM := hM.call hv72 rfl
      refine lv_aload_n hx hb dX3_readFact_55 rfl (lv_at hl 1 rfl) ?_
      refine tk_Vi hC hK hw hT hA hE hSR kC_at3 (by decide) rfl (kz_X3_readSign_1 l adK adV dC dI cy ad B hB0 (Int.le_trans hB1 (by decide)) qr s1    w69 H.size hT ) (cwV 0 hC.2.2.2.2 uV_RX3_91 rfl rfl rfl (by decide +kernel) ⟨Nat.le_of_ble_eq_true rfl, Nat.le_of_ble_eq_true rfl⟩) rfl hl.1 rfl (Nat.le_of_ble_eq_true rfl) dX3_readFact_56 (fun r73 w75 H locs hp74 hw => ?_)
      obtain ⟨hT, k76, hv88, hg87⟩ := hp74
      have hF := hF.tr k76 (by decide)
      rcases hg87 with ⟨rfl, ⟨x77, c78, rx77, tx77⟩⟩ | ⟨g79, g80, ⟨x81, c82, rx81, tx81⟩, ⟨x83, c84, rx83, tx83⟩, ⟨x85, c86, rx85, tx85⟩⟩
      · replace hM := hM.call (r' := 16) hv88 (by decide)
        refine lv_istore (lv' := [(4, .int 16), (3, .int 0), (0, .ref (ad 3)), (1, .int 2), (2, .int v41_2)]) hx hb dX3_readFact_59 hl (by decide) rfl (fun ls hl => ?_)
        refine lv_aload_n hx hb dX3_readFact_61 rfl (lv_at hl 2 rfl) ?_
        refine tk_Vv hC hK hw hT hA hE hSR kC_at3 (by decide) rfl (kz_X3_readSum_2 l adK adV dC dI cy ad B hB0 (Int.le_trans hB1 (by decide)) qr s1 hqr   w75 H.size hT x77 c78 (show 1 ≤ x77.toInt by first | with_reducible assumption | omega) (show x77.toInt ≤ 3205 by first | with_reducible assumption | omega)) (cwV 0 hC.2.2.2.2 uV_RX3_88 rfl rfl rfl (by decide +kernel) ⟨Nat.le_of_ble_eq_true rfl, Nat.le_of_ble_eq_true rfl⟩) rfl hl.1 rfl (Nat.le_of_ble_eq_true rfl) dX3_readFact_62 (fun w91 H locs hp90 hw => ?_)
        obtain ⟨hT, k92, hv96, hg95⟩ := hp90
        have hF := hF.tr k92 (by decide)
        have c97 := k92.gi kC_at1 (by decide) c78
        obtain ⟨x93, c94, rx93, tx93⟩ := hg95
        replace hM := hM.call hv96 rfl
        have ex93 : x93.toInt = x77.toInt := by rw [← c97.symm.trans c94]
        refine lv_aload_n hx hb dX3_readFact_65 rfl (lv_at hl 2 rfl) ?_
        refine tk_getQ hC hK hw hT hqr (by decide) hinX3 kC_at3 (by decide) rfl 1 (by decide) (List.mem_cons_of_mem _ uw_26_17) rfl rfl dX3_readFact_66 ?_
        refine lv_iload hx hb dX3_readFact_69 (lv_at hl 0 rfl) ?_
        refine tk_Vv hC hK hw hT hA hE hSR hqr (by decide) rfl (kz_X2_addToken_1 l adK adV dC dI cy ad B hB0 (Int.le_trans hB1 (by decide)) qr s1   qr hqr 16 w91 H.size hT ) (cwV 1 hC.2.2.2.2 uV_RX3_74 rfl rfl rfl (by decide +kernel) ⟨Nat.le_of_ble_eq_true rfl, Nat.le_of_ble_eq_true rfl⟩) rfl hl.1 rfl (Nat.le_of_ble_eq_true rfl) dX3_readFact_71 (fun w100 H locs hp99 hw => ?_)
        obtain ⟨hT, k101, hv105, hg104⟩ := hp99
        try simp only [show (16 : Int32).toInt = 16 by decide] at hv105
        have hF := hF.tr k101 (by decide)
        have c106 := k101.gi kC_at1 (by decide) c97
        obtain ⟨x102, c103, rx102, tx102⟩ := hg104
        replace hM := hM.call hv105 rfl
        refine lv_goto (tgt := 160) hx hb dX3_readFact_74 (by decide) ?_
        exact J160 v41_2 0 H locs ls w100 (show 0 ≤ v41_2.toInt from r63) (show v41_2.toInt ≤ 1 from t64) (by decide) (by decide)  hw hT hF hM (lv_sub hl [2, 3, 4, 1] rfl)
      · replace hM := hM.call hv88 rfl
        refine lv_istore (lv' := [(4, .int r73), (3, .int 0), (0, .ref (ad 3)), (1, .int 2), (2, .int v41_2)]) hx hb dX3_readFact_59 hl (by decide) rfl (fun ls hl => ?_)
        refine lv_aload_n hx hb dX3_readFact_61 rfl (lv_at hl 2 rfl) ?_
        refine tk_Vv hC hK hw hT hA hE hSR kC_at3 (by decide) rfl (kz_X3_readSum_3 l adK adV dC dI cy ad B hB0 (Int.le_trans hB1 (by decide)) qr s1 hqr   w75 H.size hT ) (cwV 0 hC.2.2.2.2 uV_RX3_88 rfl rfl rfl (by decide +kernel) ⟨Nat.le_of_ble_eq_true rfl, Nat.le_of_ble_eq_true rfl⟩) rfl hl.1 rfl (Nat.le_of_ble_eq_true rfl) dX3_readFact_62 (fun w109 H locs hp108 hw => ?_)
        obtain ⟨hT, k110, hv112, hg111⟩ := hp108
        have hF := hF.tr k110 (by decide)
        have c113 := k110.gi kC_at1 (by decide) c82
        clear hg111
        replace hM := hM.call hv112 rfl
        refine lv_aload_n hx hb dX3_readFact_65 rfl (lv_at hl 2 rfl) ?_
        refine tk_getQ hC hK hw hT hqr (by decide) hinX3 kC_at3 (by decide) rfl 1 (by decide) (List.mem_cons_of_mem _ uw_26_17) rfl rfl dX3_readFact_66 ?_
        refine lv_iload hx hb dX3_readFact_69 (lv_at hl 0 rfl) ?_
        refine tk_Vv hC hK hw hT hA hE hSR hqr (by decide) rfl (kz_X2_addToken_1 l adK adV dC dI cy ad B hB0 (Int.le_trans hB1 (by decide)) qr s1   qr hqr r73 w109 H.size hT ) (cwV 1 hC.2.2.2.2 uV_RX3_74 rfl rfl rfl (by decide +kernel) ⟨Nat.le_of_ble_eq_true rfl, Nat.le_of_ble_eq_true rfl⟩) rfl hl.1 rfl (Nat.le_of_ble_eq_true rfl) dX3_readFact_71 (fun w116 H locs hp115 hw => ?_)
        obtain ⟨hT, k117, hv121, hg120⟩ := hp115
        have hF := hF.tr k117 (by decide)
        have c122 := k117.gi kC_at1 (by decide) c113
        obtain ⟨x118, c119, rx118, tx118⟩ := hg120
        replace hM := hM.call hv121 rfl
        refine lv_goto (tgt := 160) hx hb dX3_readFact_74 (by decide) ?_
        exact J160 v41_2 0 H locs ls w116 (show 0 ≤ v41_2.toInt from r63) (show v41_2.toInt ≤ 1 from t64) (by decide) (by decide)  hw hT hF hM (lv_sub hl [2, 3, 4, 1] rfl)
  have hM : TT (fun n => m_X3_readFact n qr 3 2 (sI w0)) (fun n => j_X3_readFact_X3_readTest qr 3 n 1000 [2] (sI w0)) := TT.rf
  replace hM := hM.suc (fun _ => e_X3_readFact_e)
  refine lv_aload_n hx hb dX3_readFact_0 rfl (lv_at hl 0 rfl) ?_
  refine tk_getA hC hK hw hT hinX3 kC_at3 (by decide) rfl 0 (by decide) (List.mem_cons_of_mem _ uw_3_12) rfl rfl dX3_readFact_1 ?_
  refine tk_Vi hC hK hw hT hA hE hSR kC_at1 (by decide) rfl (kz_X6_isFaulty_2 l adK adV dC dI cy ad B hB0 (Int.le_trans hB1 (by decide)) qr s1    w0 s.heap.size hT cf0_) (cwV 0 hC.2.2.2.2 uV_RX3_54 rfl rfl rfl (by decide +kernel) ⟨Nat.le_of_ble_eq_true rfl, Nat.le_of_ble_eq_true rfl⟩) rfl hl.1 rfl (Nat.le_of_ble_eq_true rfl) dX3_readFact_4 (fun r123 w125 H locs hp124 hw => ?_)
  obtain ⟨hT, k126, hv130, hg129⟩ := hp124
  have hF := hF.tr k126 (by decide)
  have c131 := k126.gi kC_at1 (by decide) cf0_
  obtain ⟨rfl, ⟨x127, c128, rx127, tx127⟩⟩ := hg129
  replace hM := hM.call (r' := 0) hv130 (by decide)
  have ex127 : x127.toInt = (0 : Int) := by rw [show x127 = 0 from c128.symm.trans c131]; decide
  refine lv_if_eq (tgt := 11) hx hb dX3_readFact_7 (by decide) (fun _ => ?_) (fun c => absurd (by decide) c)
  replace hM := hM.pos (by decide)
  refine lv_aload_n hx hb dX3_readFact_11 rfl (lv_at hl 0 rfl) ?_
  refine tk_getA hC hK hw hT hinX3 kC_at3 (by decide) rfl 0 (by decide) (List.mem_cons_of_mem _ uw_3_12) rfl rfl dX3_readFact_12 ?_
  refine va_ldcS hx hb hC.2.2.2.1 hSR.2.2.2.2.1 dX3_readFact_15 ?_
  refine tk_Vi hC hK hw hT hA hE hSR kC_at1 (by decide) rfl (kz_X6_takeWord_4 l adK adV dC dI cy ad B hB0 (Int.le_trans hB1 (by decide)) qr s1    w125 H.size hT ) (cwV 1 hC.2.2.2.2 uV_RX3_59 rfl rfl rfl (by decide +kernel) ⟨Nat.le_of_ble_eq_true rfl, Nat.le_of_ble_eq_true rfl⟩) rfl hl.1 rfl (Nat.le_of_ble_eq_true rfl) dX3_readFact_17 (fun r132 w134 H locs hp133 hw => ?_)
  obtain ⟨hT, k135, hv139, hg138⟩ := hp133
  have hF := hF.tr k135 (by decide)
  have c140 := k135.gi kC_at1 (by decide) c131
  rcases hg138 with rfl | ⟨rfl, ⟨x136, c137, rx136, tx136⟩⟩
  · replace hM := hM.call (r' := 0) hv139 (by decide)
    refine lv_istore_n (lv' := [(2, .int 0), (0, .ref (ad 3)), (1, .int 2)]) hx hb dX3_readFact_20 rfl hl (by decide) rfl (fun ls hl => ?_)
    refine lv_iload_n hx hb dX3_readFact_21 rfl (lv_at hl 0 rfl) ?_
    refine lv_if_ne (tgt := 41) hx hb dX3_readFact_22 (by decide) (fun c => absurd (by decide) c) (fun _ => ?_)
    replace hM := hM.neg (by decide)
    refine lv_aload_n hx hb dX3_readFact_25 rfl (lv_at hl 1 rfl) ?_
    refine tk_getA hC hK hw hT hinX3 kC_at3 (by decide) rfl 0 (by decide) (List.mem_cons_of_mem _ uw_3_12) rfl rfl dX3_readFact_26 ?_
    refine lv_bipush (v := 91) hx hb dX3_readFact_29 (by decide) ?_
    refine tk_Vi hC hK hw hT hA hE hSR kC_at1 (by decide) rfl (kz_X6_takeByte_2 l adK adV dC dI cy ad B hB0 (Int.le_trans hB1 (by decide)) qr s1    w134 H.size hT ) (cwV 1 hC.2.2.2.2 uV_RX3_84 rfl rfl rfl (by decide +kernel) ⟨Nat.le_of_ble_eq_true rfl, Nat.le_of_ble_eq_true rfl⟩) rfl hl.1 rfl (Nat.le_of_ble_eq_true rfl) dX3_readFact_31 (fun r141 w143 H locs hp142 hw => ?_)
    obtain ⟨hT, k144, hv150, hg149⟩ := hp142
    have hF := hF.tr k144 (by decide)
    have c151 := k144.gi kC_at1 (by decide) c140
    rcases hg149 with rfl | ⟨rfl, ⟨x145, c146, rx145, tx145⟩, ⟨x147, c148, rx147, tx147⟩⟩
    · replace hM := hM.call (r' := 0) hv150 (by decide)
      refine lv_if_eq (tgt := 41) hx hb dX3_readFact_34 (by decide) (fun _ => ?_) (fun c => absurd (by decide) c)
      replace hM := hM.pos (by decide)
      exact J41 0 H locs ls w143 (by decide) (by decide)  hw hT hF c151 hM (lv_sub hl [1, 2, 0] rfl)
    · replace hM := hM.call (r' := 1) hv150 (by decide)
      refine lv_if_eq (tgt := 41) hx hb dX3_readFact_34 (by decide) (fun c => absurd c (by decide)) (fun _ => ?_)
      replace hM := hM.neg (by decide)
      refine lv_iconst (v := 1) hx hb dX3_readFact_37 (by decide) ?_
      refine lv_goto (tgt := 42) hx hb dX3_readFact_38 (by decide) ?_
      refine lv_istore_n (lv' := [(3, .int 1), (2, .int 0), (0, .ref (ad 3)), (1, .int 2)]) hx hb dX3_readFact_42 rfl hl (by decide) rfl (fun ls hl => ?_)
      refine lv_iload_n hx hb dX3_readFact_43 rfl (lv_at hl 1 rfl) ?_
      refine lv_if_ne (tgt := 77) hx hb dX3_readFact_44 (by decide) (fun c => absurd (by decide) c) (fun _ => ?_)
      replace hM := hM.neg (by decide)
      refine lv_iload_n hx hb dX3_readFact_47 rfl (lv_at hl 0 rfl) ?_
      refine lv_if_ne (tgt := 77) hx hb dX3_readFact_48 (by decide) (fun _ => ?_) (fun c => absurd c (by decide))
      replace hM := hM.pos (by decide)
      exact J77 0 1 H locs ls w143 (by decide) (by decide) (by decide) (by decide)  hw hT hF c151 hM (lv_sub hl [2, 3, 1, 0] rfl)
  · replace hM := hM.call (r' := 1) hv139 (by decide)
    refine lv_istore_n (lv' := [(2, .int 1), (0, .ref (ad 3)), (1, .int 2)]) hx hb dX3_readFact_20 rfl hl (by decide) rfl (fun ls hl => ?_)
    refine lv_iload_n hx hb dX3_readFact_21 rfl (lv_at hl 0 rfl) ?_
    refine lv_if_ne (tgt := 41) hx hb dX3_readFact_22 (by decide) (fun _ => ?_) (fun c => absurd c (by decide))
    replace hM := hM.pos (by decide)
    exact J41 1 H locs ls w134 (by decide) (by decide)  hw hT hF c140 hM (lv_sub hl [1, 2, 0] rfl)
abbrev Pz_X3_readTest_3 (ad : Nat → Nat) (cy : Nat → ClassId) (B : Int) (qr : Nat) (s1 : Int)  (w0 : va_W) : va_W → Prop := fun u => TW ksC ad cy B qr s1 u ∧ FE ksC [(2, 3, 3), (3, 2, 2), (6, 1, 1), (6, 3, 3), (6, 4, 4), (22, 0, 13), (23, 0, 400)] w0 u ∧ Ev (fun n => m_X3_readTest n qr 3 2 (sI w0)) (0, sI u) ∧ ((True))
set_option maxHeartbeats 4000000 in
set_option maxRecDepth 100000 in
theorem kz_X3_readTest_3 (l : Launch) (adK adV : Nat → Nat) (dC : Nat → ClassId) (dI : Nat → Nat → Nat) (cy : Nat → ClassId) (ad : Nat → Nat) (B : Int) (hB0 : 2147483648 ≤ B) (hB1 : B ≤ 1152921504606846976) (qr : Nat) (s1 : Int) (hqr : ksC[qr]? = some 2)  (w0 : va_W) (sz : Nat) (hT : TW ksC ad cy B qr s1 w0) (cf0_ : gi w0 1 4 = 0) : Met l yX3_readTest (wu yX3_readTest cX3_readTest 4 none) ({ frames := 25, cells := 0, slots := 0, locals := 611 }) (va_Pc [.ref (ad 3), .int 2] (wpreS adK adV dC dI cy sz w0)) (va_Qv (Pz_X3_readTest_3 ad cy B qr s1  w0) (fun u : va_W => wpost dC dI cy (va_A w0 sz) u) (va_A w0 sz)) 0 0 (va_A w0 sz) := by
  refine Met.ofW (cc := cX3_readTest) (maxL := 4) (ret := none) (by decide) rfl ?_
  intro p e s m args below meth c s₁ Bk hml hv
  obtain ⟨rfl, ⟨hsz, hP, hK, hD0⟩, hE, hSR⟩ := hv
  have hx := Bk.exec
  have hb := Bk.bytes
  have hr := Bk.returns
  have hlocks := Bk.notSynchronized
  have hC : CallFix p m c cX3_readTest 4 s _ (wu yX3_readTest cX3_readTest 4 none) RX3 := ⟨hx, hb, hml, findClass_of_methodNamed Bk.named, atoms_spec (ws := (wu yX3_readTest cX3_readTest 4 none)) Bk.pre⟩
  subst hsz
  have hD := hD0.self (sz := s.heap.size)
  generalize hAe : va_A w0 s.heap.size = A at hD hE ⊢
  have hA : ∀ q : Nat, s.heap.size ≤ q → A q := fun q h => by rw [← hAe]; exact Or.inr h
  have hw : Wd dC dI A s.heap s.heap [] w0 := ⟨hP, hD, va_S.rf⟩
  have hF : FE ksC [(2, 3, 3), (3, 2, 2), (6, 1, 1), (6, 3, 3), (6, 4, 4), (22, 0, 13), (23, 0, 400)] w0 w0 := FE.rf
  have hl := lv_entry ([.ref (ad 3), .int 2]) (n := 4) (Nat.le_of_ble_eq_true rfl)
  rw [lg_entry_eq]
  generalize (lg_sl ([.ref (ad 3), .int 2]) ++ List.replicate (4 - (lg_sl ([.ref (ad 3), .int 2])).length) Slot.unset).toArray = ls at hl ⊢
  have hl : lv_has ls 4 [(0, .ref (ad 3)), (1, .int 2)] := hl
  generalize hloc : ([] : List Loc) = locs at hw ⊢
  have hinX3 : ∀ w ∈ u_ws RX3 TX3 3, w ∈ (wu yX3_readTest cX3_readTest 4 none) := fun _ h => List.mem_cons_of_mem _ (up_75 h)
  have J86 : ∀ (v86_2 : Int32) (v86_3 : Int32) (H : Heap) (locs : List Loc) (ls : Array Slot) (w1 : va_W), (-1) ≤ v86_2.toInt → v86_2.toInt ≤ 21 → 0 ≤ v86_3.toInt → v86_3.toInt ≤ 400 → Wd dC dI A s.heap H locs w1 → TW ksC ad cy B qr s1 w1 → FE ksC [(2, 3, 3), (3, 2, 2), (6, 1, 1), (6, 3, 3), (6, 4, 4), (22, 0, 13), (23, 0, 400)] w0 w1 → TT (fun n => m_X3_readTest n qr 3 2 (sI w0)) (fun n => b_X3_readTest_86 (j_X3_readFact_X3_readTest qr 3 n) n qr 3 (v86_2.toInt) (sI w1)) → lv_has ls 4 [(0, .ref (ad 3)), (1, .int 2), (2, .int v86_2), (3, .int v86_3)] → W p l e ({ frames := 25, cells := 0, slots := 0, locals := 611 }) s m (List.toArray [.ref (ad 3), .int 2]) below meth c H locs 0 0 (MQ below (va_Qv (Pz_X3_readTest_3 ad cy B qr s1  w0) (fun u : va_W => wpost dC dI cy A u) A) (List.toArray [.ref (ad 3), .int 2]) s 0 0 A) (F0 m 86 ls []) := by
    intro v86_2 v86_3 H locs ls w1 r2 t3 r4 t5 hw hT hF hM hl
    refine lv_aload_n hx hb dX3_readTest_86 rfl (lv_at hl 0 rfl) ?_
    refine lv_iload_n hx hb dX3_readTest_87 rfl (lv_at hl 2 rfl) ?_
    refine tk_Vv hC hK hw hT hA hE hSR kC_at3 (by decide) rfl (kz_X3_addWaiting_1 l adK adV dC dI cy ad B hB0 (Int.le_trans hB1 (by decide)) qr s1 hqr  v86_2 w1 H.size hT ) (cwV 1 hC.2.2.2.2 uV_RX3_79 rfl rfl rfl (by decide +kernel) ⟨Nat.le_of_ble_eq_true rfl, Nat.le_of_ble_eq_true rfl⟩) rfl hl.1 rfl (Nat.le_of_ble_eq_true rfl) dX3_readTest_88 (fun w8 H locs hp7 hw => ?_)
    obtain ⟨hT, k9, hv11, hg10⟩ := hp7
    have hF := hF.tr k9 (by decide)
    clear hg10
    replace hM := hM.call hv11 rfl
    exact tk_vret hC hr hlocks hK ⟨hT, hF, hM.ret rfl, trivial⟩ hw dX3_readTest_91
  have L9 : ∀ (n9 : Nat) (v9_2 : Int32) (v9_3 : Int32) (H : Heap) (locs : List Loc) (ls : Array Slot) (w12 : va_W), (-1) ≤ v9_2.toInt → v9_2.toInt ≤ 21 → 0 ≤ v9_3.toInt → v9_3.toInt ≤ 400 → (400 - v9_3.toInt).toNat < n9 → Wd dC dI A s.heap H locs w12 → TW ksC ad cy B qr s1 w12 → FE ksC [(2, 3, 3), (3, 2, 2), (6, 1, 1), (6, 3, 3), (6, 4, 4), (22, 0, 13), (23, 0, 400)] w0 w12 → TT (fun n => m_X3_readTest n qr 3 2 (sI w0)) (fun n => j_X3_readFact_X3_readTest qr 3 n 2009 [(2 : Int), v9_2.toInt, v9_3.toInt] (sI w12)) → lv_has ls 4 [(0, .ref (ad 3)), (1, .int 2), (2, .int v9_2), (3, .int v9_3)] → W p l e ({ frames := 25, cells := 0, slots := 0, locals := 611 }) s m (List.toArray [.ref (ad 3), .int 2]) below meth c H locs 0 0 (MQ below (va_Qv (Pz_X3_readTest_3 ad cy B qr s1  w0) (fun u : va_W => wpost dC dI cy A u) A) (List.toArray [.ref (ad 3), .int 2]) s 0 0 A) (F0 m 9 ls []) := by
    intro n9
    induction n9 with
    | zero => intro v9_2 v9_3 H locs ls w12 r13 t14 r15 t16 hm9 hw hT hF hM hl; omega
    | succ n9 ih9 =>
      intro v9_2 v9_3 H locs ls w12 r13 t14 r15 t16 hm9 hw hT hF hM hl
      have J80 : ∀ (v80_2 : Int32) (H : Heap) (locs : List Loc) (ls : Array Slot) (w17 : va_W), (-1) ≤ v80_2.toInt → v80_2.toInt ≤ 21 → 0 ≤ v9_3.toInt → v9_3.toInt ≤ 399 → Wd dC dI A s.heap H locs w17 → TW ksC ad cy B qr s1 w17 → FE ksC [(2, 3, 3), (3, 2, 2), (6, 1, 1), (6, 3, 3), (6, 4, 4), (22, 0, 13), (23, 0, 400)] w0 w17 → TT (fun n => m_X3_readTest n qr 3 2 (sI w0)) (fun n => b_X3_readTest_80 (j_X3_readFact_X3_readTest qr 3 n) n qr 3 (2 : Int) (v80_2.toInt) (v9_3.toInt) (sI w17)) → lv_has ls 4 [(0, .ref (ad 3)), (1, .int 2), (2, .int v80_2), (3, .int v9_3)] → W p l e ({ frames := 25, cells := 0, slots := 0, locals := 611 }) s m (List.toArray [.ref (ad 3), .int 2]) below meth c H locs 0 0 (MQ below (va_Qv (Pz_X3_readTest_3 ad cy B qr s1  w0) (fun u : va_W => wpost dC dI cy A u) A) (List.toArray [.ref (ad 3), .int 2]) s 0 0 A) (F0 m 80 ls []) := by
        intro v80_2 H locs ls w17 r18 t19 r20 t21 hw hT hF hM hl
        obtain ⟨x22, ex22⟩ : ∃ y : Int32, y = v9_3 + Int32.ofInt 1 := ⟨_, rfl⟩
        have erx22 := ex22
        refine lv_iinc (v := x22) (lv' := [(3, .int x22), (0, .ref (ad 3)), (1, .int 2), (2, .int v80_2)]) hx hb dX3_readTest_80 hl (k := 3) rfl ex22.symm (by decide) rfl (fun ls hl => ?_)
        have ex22 : x22.toInt = v9_3.toInt + 1 := by rw [ex22]; exact wk_add (y := 1) (show -2147483648 ≤ v9_3.toInt + 1 by omega) (show v9_3.toInt + 1 ≤ 2147483647 by omega)
        replace hM := hM.lt ex22.symm
        refine lv_goto (tgt := 9) hx hb dX3_readTest_83 (by decide) ?_
        exact ih9 v80_2 x22 H locs ls w17 (show (-1) ≤ v80_2.toInt from r18) (show v80_2.toInt ≤ 21 from t19) (show 0 ≤ x22.toInt by first | with_reducible assumption | omega) (show x22.toInt ≤ 400 by first | with_reducible assumption | omega) (show (400 - x22.toInt).toNat < n9 by first | exact tn_lt hm9 (by omega) (by omega) | omega) hw hT hF hM (lv_sub hl [1, 2, 3, 0] rfl)
      replace hM := hM.suc (fun _ => e_X3_readTest_9)
      refine lv_iload_n hx hb dX3_readTest_9 rfl (lv_at hl 3 rfl) ?_
      refine lv_sipush (v := 400) hx hb dX3_readTest_10 (by decide) ?_
      refine lv_icmp_ge (tgt := 86) hx hb dX3_readTest_13 (by decide) (fun c23 => ?_) (fun c23 => ?_)
      · have c23 : (400 : Int) ≤ v9_3.toInt := wk_le.mp c23
        replace hM := hM.pos c23
        exact J86 v9_2 v9_3 H locs ls w12 (show (-1) ≤ v9_2.toInt from r13) (show v9_2.toInt ≤ 21 from t14) (show 0 ≤ v9_3.toInt from r15) (show v9_3.toInt ≤ 400 from t16)  hw hT hF hM (lv_sub hl [0, 1, 2, 3] rfl)
      · have c23 : v9_3.toInt < (400 : Int) := wk_leF c23
        replace hM := hM.neg (Int.not_le.mpr c23)
        refine lv_aload_n hx hb dX3_readTest_16 rfl (lv_at hl 0 rfl) ?_
        refine tk_getA hC hK hw hT hinX3 kC_at3 (by decide) rfl 0 (by decide) (List.mem_cons_of_mem _ uw_3_12) rfl rfl dX3_readTest_17 ?_
        refine tk_Vi hC hK hw hT hA hE hSR kC_at1 (by decide) rfl (kz_X6_isFaulty_1 l adK adV dC dI cy ad B hB0 (Int.le_trans hB1 (by decide)) qr s1    w12 H.size hT ) (cwV 0 hC.2.2.2.2 uV_RX3_54 rfl rfl rfl (by decide +kernel) ⟨Nat.le_of_ble_eq_true rfl, Nat.le_of_ble_eq_true rfl⟩) rfl hl.1 rfl (Nat.le_of_ble_eq_true rfl) dX3_readTest_20 (fun r24 w26 H locs hp25 hw => ?_)
        obtain ⟨hT, k27, hv33, hg32⟩ := hp25
        have hF := hF.tr k27 (by decide)
        rcases hg32 with ⟨rfl, ⟨x28, c29, rx28, tx28⟩⟩ | ⟨rfl, ⟨x30, c31, rx30, tx30⟩⟩
        · replace hM := hM.call (r' := 0) hv33 (by decide)
          refine lv_if_ne (tgt := 86) hx hb dX3_readTest_23 (by decide) (fun c => absurd (by decide) c) (fun _ => ?_)
          replace hM := hM.neg (by decide)
          refine lv_aload_n hx hb dX3_readTest_26 rfl (lv_at hl 0 rfl) ?_
          refine tk_getA hC hK hw hT hinX3 kC_at3 (by decide) rfl 0 (by decide) (List.mem_cons_of_mem _ uw_3_12) rfl rfl dX3_readTest_27 ?_
          refine va_ldcS hx hb hC.2.2.2.1 hSR.2.2.2.2.2.2.1 dX3_readTest_30 ?_
          refine tk_Vi hC hK hw hT hA hE hSR kC_at1 (by decide) rfl (kz_X6_takeWord_2 l adK adV dC dI cy ad B hB0 (Int.le_trans hB1 (by decide)) qr s1    w26 H.size hT ) (cwV 1 hC.2.2.2.2 uV_RX3_59 rfl rfl rfl (by decide +kernel) ⟨Nat.le_of_ble_eq_true rfl, Nat.le_of_ble_eq_true rfl⟩) rfl hl.1 rfl (Nat.le_of_ble_eq_true rfl) dX3_readTest_32 (fun r34 w36 H locs hp35 hw => ?_)
          obtain ⟨hT, k37, hv41, hg40⟩ := hp35
          have hF := hF.tr k37 (by decide)
          have c42 := k37.gi kC_at1 (by decide) c29
          rcases hg40 with rfl | ⟨rfl, ⟨x38, c39, rx38, tx38⟩⟩
          · replace hM := hM.call (r' := 0) hv41 (by decide)
            refine lv_if_eq (tgt := 55) hx hb dX3_readTest_35 (by decide) (fun _ => ?_) (fun c => absurd (by decide) c)
            replace hM := hM.pos (by decide)
            refine lv_aload_n hx hb dX3_readTest_55 rfl (lv_at hl 0 rfl) ?_
            refine tk_getA hC hK hw hT hinX3 kC_at3 (by decide) rfl 0 (by decide) (List.mem_cons_of_mem _ uw_3_12) rfl rfl dX3_readTest_56 ?_
            refine va_ldcS hx hb hC.2.2.2.1 hSR.2.2.2.2.2.2.2 dX3_readTest_59 ?_
            refine tk_Vi hC hK hw hT hA hE hSR kC_at1 (by decide) rfl (kz_X6_takeWord_3 l adK adV dC dI cy ad B hB0 (Int.le_trans hB1 (by decide)) qr s1    w36 H.size hT ) (cwV 1 hC.2.2.2.2 uV_RX3_59 rfl rfl rfl (by decide +kernel) ⟨Nat.le_of_ble_eq_true rfl, Nat.le_of_ble_eq_true rfl⟩) rfl hl.1 rfl (Nat.le_of_ble_eq_true rfl) dX3_readTest_61 (fun r43 w45 H locs hp44 hw => ?_)
            obtain ⟨hT, k46, hv50, hg49⟩ := hp44
            have hF := hF.tr k46 (by decide)
            have c51 := k46.gi kC_at1 (by decide) c42
            rcases hg49 with rfl | ⟨rfl, ⟨x47, c48, rx47, tx47⟩⟩
            · replace hM := hM.call (r' := 0) hv50 (by decide)
              refine lv_if_eq (tgt := 86) hx hb dX3_readTest_64 (by decide) (fun _ => ?_) (fun c => absurd (by decide) c)
              replace hM := hM.pos (by decide)
              exact J86 v9_2 v9_3 H locs ls w45 (show (-1) ≤ v9_2.toInt from r13) (show v9_2.toInt ≤ 21 from t14) (show 0 ≤ v9_3.toInt from r15) (show v9_3.toInt ≤ 400 from t16)  hw hT hF hM (lv_sub hl [0, 1, 2, 3] rfl)
            · replace hM := hM.call (r' := 1) hv50 (by decide)
              refine lv_if_eq (tgt := 86) hx hb dX3_readTest_64 (by decide) (fun c => absurd c (by decide)) (fun _ => ?_)
              replace hM := hM.neg (by decide)
              refine lv_aload_n hx hb dX3_readTest_67 rfl (lv_at hl 0 rfl) ?_
              refine lv_iload_n hx hb dX3_readTest_68 rfl (lv_at hl 2 rfl) ?_
              refine tk_Vv hC hK hw hT hA hE hSR kC_at3 (by decide) rfl (kz_X3_addWaiting_1 l adK adV dC dI cy ad B hB0 (Int.le_trans hB1 (by decide)) qr s1 hqr  v9_2 w45 H.size hT ) (cwV 1 hC.2.2.2.2 uV_RX3_79 rfl rfl rfl (by decide +kernel) ⟨Nat.le_of_ble_eq_true rfl, Nat.le_of_ble_eq_true rfl⟩) rfl hl.1 rfl (Nat.le_of_ble_eq_true rfl) dX3_readTest_69 (fun w54 H locs hp53 hw => ?_)
              obtain ⟨hT, k55, hv57, hg56⟩ := hp53
              have hF := hF.tr k55 (by decide)
              have c58 := k55.gi kC_at1 (by decide) c51
              have c59 := k55.gi kC_at1 (by decide) c48
              clear hg56
              replace hM := hM.call hv57 rfl
              refine lv_bipush (v := 21) hx hb dX3_readTest_72 (by decide) ?_
              refine lv_istore_n (lv' := [(2, .int 21), (0, .ref (ad 3)), (1, .int 2), (3, .int v9_3)]) hx hb dX3_readTest_74 rfl hl (by decide) rfl (fun ls hl => ?_)
              refine lv_aload_n hx hb dX3_readTest_75 rfl (lv_at hl 1 rfl) ?_
              refine lv_iload_n hx hb dX3_readTest_76 rfl (lv_at hl 2 rfl) ?_
              refine tk_Vv hC hK hw hT hA hE hSR kC_at3 (by decide) rfl (kz_X3_readFact_3 l adK adV dC dI cy ad B hB0 (Int.le_trans hB1 (by decide)) qr s1 hqr   w54 H.size hT (c58.trans (wk_eq.mpr (show x28.toInt = 0 by first | exact Int.le_antisymm (by omega) (by omega) | omega)))) (cwV 1 hC.2.2.2.2 uV_RX3_69 rfl rfl rfl (by decide +kernel) ⟨Nat.le_of_ble_eq_true rfl, Nat.le_of_ble_eq_true rfl⟩) rfl hl.1 rfl (Nat.le_of_ble_eq_true rfl) dX3_readTest_77 (fun w62 H locs hp61 hw => ?_)
              obtain ⟨hT, k63, hv65, hg64⟩ := hp61
              have hF := hF.tr k63 (by decide)
              clear hg64
              replace hM := hM.call hv65 rfl
              exact J80 21 H locs ls w62 (by decide) (by decide) (show 0 ≤ v9_3.toInt from r15) (show v9_3.toInt ≤ 399 by first | with_reducible assumption | omega)  hw hT hF hM (lv_sub hl [1, 2, 0, 3] rfl)
          · replace hM := hM.call (r' := 1) hv41 (by decide)
            refine lv_if_eq (tgt := 55) hx hb dX3_readTest_35 (by decide) (fun c => absurd c (by decide)) (fun _ => ?_)
            replace hM := hM.neg (by decide)
            refine lv_aload_n hx hb dX3_readTest_38 rfl (lv_at hl 0 rfl) ?_
            refine lv_iload_n hx hb dX3_readTest_39 rfl (lv_at hl 1 rfl) ?_
            refine tk_Vv hC hK hw hT hA hE hSR kC_at3 (by decide) rfl (kz_X3_readFact_3 l adK adV dC dI cy ad B hB0 (Int.le_trans hB1 (by decide)) qr s1 hqr   w36 H.size hT (c42.trans (wk_eq.mpr (show x28.toInt = 0 by first | exact Int.le_antisymm (by omega) (by omega) | omega)))) (cwV 1 hC.2.2.2.2 uV_RX3_69 rfl rfl rfl (by decide +kernel) ⟨Nat.le_of_ble_eq_true rfl, Nat.le_of_ble_eq_true rfl⟩) rfl hl.1 rfl (Nat.le_of_ble_eq_true rfl) dX3_readTest_40 (fun w68 H locs hp67 hw => ?_)
            obtain ⟨hT, k69, hv71, hg70⟩ := hp67
            have hF := hF.tr k69 (by decide)
            clear hg70
            replace hM := hM.call hv71 rfl
            refine lv_aload_n hx hb dX3_readTest_43 rfl (lv_at hl 0 rfl) ?_
            refine tk_getQ hC hK hw hT hqr (by decide) hinX3 kC_at3 (by decide) rfl 1 (by decide) (List.mem_cons_of_mem _ uw_26_17) rfl rfl dX3_readTest_44 ?_
            refine lv_bipush (v := 20) hx hb dX3_readTest_47 (by decide) ?_
            refine tk_Vv hC hK hw hT hA hE hSR hqr (by decide) rfl (kz_X2_addToken_1 l adK adV dC dI cy ad B hB0 (Int.le_trans hB1 (by decide)) qr s1   qr hqr 20 w68 H.size hT ) (cwV 1 hC.2.2.2.2 uV_RX3_74 rfl rfl rfl (by decide +kernel) ⟨Nat.le_of_ble_eq_true rfl, Nat.le_of_ble_eq_true rfl⟩) rfl hl.1 rfl (Nat.le_of_ble_eq_true rfl) dX3_readTest_49 (fun w74 H locs hp73 hw => ?_)
            obtain ⟨hT, k75, hv79, hg78⟩ := hp73
            try simp only [show (20 : Int32).toInt = 20 by decide] at hv79
            have hF := hF.tr k75 (by decide)
            obtain ⟨x76, c77, rx76, tx76⟩ := hg78
            replace hM := hM.call hv79 rfl
            refine lv_goto (tgt := 80) hx hb dX3_readTest_52 (by decide) ?_
            exact J80 v9_2 H locs ls w74 (show (-1) ≤ v9_2.toInt from r13) (show v9_2.toInt ≤ 21 from t14) (show 0 ≤ v9_3.toInt from r15) (show v9_3.toInt ≤ 399 by first | with_reducible assumption | omega)  hw hT hF hM (lv_sub hl [0, 1, 2, 3] rfl)
        · replace hM := hM.call (r' := 1) hv33 (by decide)
          refine lv_if_ne (tgt := 86) hx hb dX3_readTest_23 (by decide) (fun _ => ?_) (fun c => absurd c (by decide))
          replace hM := hM.pos (by decide)
          exact J86 v9_2 v9_3 H locs ls w26 (show (-1) ≤ v9_2.toInt from r13) (show v9_2.toInt ≤ 21 from t14) (show 0 ≤ v9_3.toInt from r15) (show v9_3.toInt ≤ 400 from t16)  hw hT hF hM (lv_sub hl [0, 1, 2, 3] rfl)
  have hM : TT (fun n => m_X3_readTest n qr 3 2 (sI w0)) (fun n => j_X3_readFact_X3_readTest qr 3 n 2000 [2] (sI w0)) := TT.rf
  replace hM := hM.suc (fun _ => e_X3_readTest_e)
  refine lv_aload_n hx hb dX3_readTest_0 rfl (lv_at hl 0 rfl) ?_
  refine lv_iload_n hx hb dX3_readTest_1 rfl (lv_at hl 1 rfl) ?_
  refine tk_Vv hC hK hw hT hA hE hSR kC_at3 (by decide) rfl (kz_X3_readFact_3 l adK adV dC dI cy ad B hB0 (Int.le_trans hB1 (by decide)) qr s1 hqr   w0 s.heap.size hT cf0_) (cwV 1 hC.2.2.2.2 uV_RX3_69 rfl rfl rfl (by decide +kernel) ⟨Nat.le_of_ble_eq_true rfl, Nat.le_of_ble_eq_true rfl⟩) rfl hl.1 rfl (Nat.le_of_ble_eq_true rfl) dX3_readTest_2 (fun w82 H locs hp81 hw => ?_)
  obtain ⟨hT, k83, hv85, hg84⟩ := hp81
  have hF := hF.tr k83 (by decide)
  clear hg84
  replace hM := hM.call hv85 rfl
  refine lv_iconst (v := (-1)) hx hb dX3_readTest_5 (by decide) ?_
  refine lv_istore_n (lv' := [(2, .int (-1)), (0, .ref (ad 3)), (1, .int 2)]) hx hb dX3_readTest_6 rfl hl (by decide) rfl (fun ls hl => ?_)
  refine lv_iconst (v := 0) hx hb dX3_readTest_7 (by decide) ?_
  refine lv_istore_n (lv' := [(3, .int 0), (2, .int (-1)), (0, .ref (ad 3)), (1, .int 2)]) hx hb dX3_readTest_8 rfl hl (by decide) rfl (fun ls hl => ?_)
  exact L9 ((400 - (0 : Int)).toNat + 1) (-1) 0 H locs ls w82 (by decide) (by decide) (by decide) (by decide) (Nat.lt_succ_self _) hw hT hF hM (lv_sub hl [2, 3, 1, 0] rfl)
abbrev Pz_X3_readFact_2 (ad : Nat → Nat) (cy : Nat → ClassId) (B : Int) (qr : Nat) (s1 : Int)  (w0 : va_W) : va_W → Prop := fun u => TW ksC ad cy B qr s1 u ∧ FE ksC [(2, 3, 3), (3, 2, 2), (6, 1, 1), (6, 3, 3), (6, 4, 4), (22, 0, 13), (23, 0, 400)] w0 u ∧ Ev (fun n => m_X3_readFact n qr 3 1 (sI w0)) (0, sI u) ∧ ((True))
set_option maxHeartbeats 4000000 in
set_option maxRecDepth 100000 in
theorem kz_X3_readFact_2 (l : Launch) (adK adV : Nat → Nat) (dC : Nat → ClassId) (dI : Nat → Nat → Nat) (cy : Nat → ClassId) (ad : Nat → Nat) (B : Int) (hB0 : 2147483648 ≤ B) (hB1 : B ≤ 1152921504606846976) (qr : Nat) (s1 : Int) (hqr : ksC[qr]? = some 2)  (w0 : va_W) (sz : Nat) (hT : TW ksC ad cy B qr s1 w0) (cf0_ : gi w0 1 4 = 0) : Met l yX3_readFact (wu yX3_readFact cX3_readFact 5 none) ({ frames := 26, cells := 0, slots := 0, locals := 634 }) (va_Pc [.ref (ad 3), .int 1] (wpreS adK adV dC dI cy sz w0)) (va_Qv (Pz_X3_readFact_2 ad cy B qr s1  w0) (fun u : va_W => wpost dC dI cy (va_A w0 sz) u) (va_A w0 sz)) 0 0 (va_A w0 sz) := by
  refine Met.ofW (cc := cX3_readFact) (maxL := 5) (ret := none) (by decide) rfl ?_
  intro p e s m args below meth c s₁ Bk hml hv
  obtain ⟨rfl, ⟨hsz, hP, hK, hD0⟩, hE, hSR⟩ := hv
  have hx := Bk.exec
  have hb := Bk.bytes
  have hr := Bk.returns
  have hlocks := Bk.notSynchronized
  have hC : CallFix p m c cX3_readFact 5 s _ (wu yX3_readFact cX3_readFact 5 none) RX3 := ⟨hx, hb, hml, findClass_of_methodNamed Bk.named, atoms_spec (ws := (wu yX3_readFact cX3_readFact 5 none)) Bk.pre⟩
  subst hsz
  have hD := hD0.self (sz := s.heap.size)
  generalize hAe : va_A w0 s.heap.size = A at hD hE ⊢
  have hA : ∀ q : Nat, s.heap.size ≤ q → A q := fun q h => by rw [← hAe]; exact Or.inr h
  have hw : Wd dC dI A s.heap s.heap [] w0 := ⟨hP, hD, va_S.rf⟩
  have hF : FE ksC [(2, 3, 3), (3, 2, 2), (6, 1, 1), (6, 3, 3), (6, 4, 4), (22, 0, 13), (23, 0, 400)] w0 w0 := FE.rf
  have hl := lv_entry ([.ref (ad 3), .int 1]) (n := 5) (Nat.le_of_ble_eq_true rfl)
  rw [lg_entry_eq]
  generalize (lg_sl ([.ref (ad 3), .int 1]) ++ List.replicate (5 - (lg_sl ([.ref (ad 3), .int 1])).length) Slot.unset).toArray = ls at hl ⊢
  have hl : lv_has ls 5 [(0, .ref (ad 3)), (1, .int 1)] := hl
  generalize hloc : ([] : List Loc) = locs at hw ⊢
  have hinX3 : ∀ w ∈ u_ws RX3 TX3 3, w ∈ (wu yX3_readFact cX3_readFact 5 none) := fun _ h => List.mem_cons_of_mem _ (up_75 h)
  have J160 : ∀ (v160_2 : Int32) (v160_3 : Int32) (H : Heap) (locs : List Loc) (ls : Array Slot) (w1 : va_W), 0 ≤ v160_2.toInt → v160_2.toInt ≤ 1 → 0 ≤ v160_3.toInt → v160_3.toInt ≤ 1 → Wd dC dI A s.heap H locs w1 → TW ksC ad cy B qr s1 w1 → FE ksC [(2, 3, 3), (3, 2, 2), (6, 1, 1), (6, 3, 3), (6, 4, 4), (22, 0, 13), (23, 0, 400)] w0 w1 → TT (fun n => m_X3_readFact n qr 3 1 (sI w0)) (fun n => b_X3_readFact_160 (j_X3_readFact_X3_readTest qr 3 n) n qr 3 (sI w1)) → lv_has ls 5 [(0, .ref (ad 3)), (1, .int 1), (2, .int v160_2), (3, .int v160_3)] → W p l e ({ frames := 26, cells := 0, slots := 0, locals := 634 }) s m (List.toArray [.ref (ad 3), .int 1]) below meth c H locs 0 0 (MQ below (va_Qv (Pz_X3_readFact_2 ad cy B qr s1  w0) (fun u : va_W => wpost dC dI cy A u) A) (List.toArray [.ref (ad 3), .int 1]) s 0 0 A) (F0 m 160 ls []) := by
    intro v160_2 v160_3 H locs ls w1 r2 t3 r4 t5 hw hT hF hM hl
    exact tk_vret hC hr hlocks hK ⟨hT, hF, hM.ret rfl, trivial⟩ hw dX3_readFact_160
  have J77 : ∀ (v77_2 : Int32) (v77_3 : Int32) (H : Heap) (locs : List Loc) (ls : Array Slot) (w6 : va_W), 0 ≤ v77_2.toInt → v77_2.toInt ≤ 1 → 0 ≤ v77_3.toInt → v77_3.toInt ≤ 1 → Wd dC dI A s.heap H locs w6 → TW ksC ad cy B qr s1 w6 → FE ksC [(2, 3, 3), (3, 2, 2), (6, 1, 1), (6, 3, 3), (6, 4, 4), (22, 0, 13), (23, 0, 400)] w0 w6 → gi w6 1 4 = 0 → TT (fun n => m_X3_readFact n qr 3 1 (sI w0)) (fun n => b_X3_readFact_77 (j_X3_readFact_X3_readTest qr 3 n) n qr 3 (1 : Int) (v77_2.toInt) (sI w6)) → lv_has ls 5 [(0, .ref (ad 3)), (1, .int 1), (2, .int v77_2), (3, .int v77_3)] → W p l e ({ frames := 26, cells := 0, slots := 0, locals := 634 }) s m (List.toArray [.ref (ad 3), .int 1]) below meth c H locs 0 0 (MQ below (va_Qv (Pz_X3_readFact_2 ad cy B qr s1  w0) (fun u : va_W => wpost dC dI cy A u) A) (List.toArray [.ref (ad 3), .int 1]) s 0 0 A) (F0 m 77 ls []) := by
    intro v77_2 v77_3 H locs ls w6 r7 t8 r9 t10 hw hT hF c11 hM hl
    refine lv_iload_n hx hb dX3_readFact_77 rfl (lv_at hl 1 rfl) ?_
    refine lv_bipush (v := 10) hx hb dX3_readFact_78 (by decide) ?_
    refine lv_icmp_lt (tgt := 101) hx hb dX3_readFact_80 (by decide) (fun _ => ?_) (fun c => absurd (by decide) c)
    replace hM := hM.pos (by decide)
    refine lv_iload_n hx hb dX3_readFact_101 rfl (lv_at hl 2 rfl) ?_
    refine lv_if_eq (tgt := 124) hx hb dX3_readFact_102 (by decide) (fun c12 => ?_) (fun c12 => ?_)
    · have c12 : v77_2.toInt = (0 : Int) := wk_eq.mp c12
      replace hM := hM.pos c12
      refine lv_aload_n hx hb dX3_readFact_124 rfl (lv_at hl 0 rfl) ?_
      refine lv_iload_n hx hb dX3_readFact_125 rfl (lv_at hl 1 rfl) ?_
      refine lv_iconst (v := 1) hx hb dX3_readFact_126 (by decide) ?_
      refine lv_iadd hx hb dX3_readFact_127 ?_
      refine wk_top 2 (by decide) ?_
      replace hM := hM.lt (v := 2) (by decide)
      refine tk_Vv hC hK hw hT hA hE hSR kC_at3 (by decide) rfl (kz_X3_readTest_3 l adK adV dC dI cy ad B hB0 (Int.le_trans hB1 (by decide)) qr s1 hqr   w6 H.size hT c11) (cwV 1 hC.2.2.2.2 uV_RX3_63 rfl rfl rfl (by decide +kernel) ⟨Nat.le_of_ble_eq_true rfl, Nat.le_of_ble_eq_true rfl⟩) rfl hl.1 rfl (Nat.le_of_ble_eq_true rfl) dX3_readFact_128 (fun w15 H locs hp14 hw => ?_)
      obtain ⟨hT, k16, hv18, hg17⟩ := hp14
      have hF := hF.tr k16 (by decide)
      clear hg17
      replace hM := hM.call hv18 rfl
      refine lv_aload_n hx hb dX3_readFact_131 rfl (lv_at hl 0 rfl) ?_
      refine tk_getA hC hK hw hT hinX3 kC_at3 (by decide) rfl 0 (by decide) (List.mem_cons_of_mem _ uw_3_12) rfl rfl dX3_readFact_132 ?_
      refine tk_Vi hC hK hw hT hA hE hSR kC_at1 (by decide) rfl (kz_X6_isFaulty_1 l adK adV dC dI cy ad B hB0 (Int.le_trans hB1 (by decide)) qr s1    w15 H.size hT ) (cwV 0 hC.2.2.2.2 uV_RX3_54 rfl rfl rfl (by decide +kernel) ⟨Nat.le_of_ble_eq_true rfl, Nat.le_of_ble_eq_true rfl⟩) rfl hl.1 rfl (Nat.le_of_ble_eq_true rfl) dX3_readFact_135 (fun r19 w21 H locs hp20 hw => ?_)
      obtain ⟨hT, k22, hv28, hg27⟩ := hp20
      have hF := hF.tr k22 (by decide)
      rcases hg27 with ⟨rfl, ⟨x23, c24, rx23, tx23⟩⟩ | ⟨rfl, ⟨x25, c26, rx25, tx25⟩⟩
      · replace hM := hM.call (r' := 0) hv28 (by decide)
        refine lv_if_ne (tgt := 160) hx hb dX3_readFact_138 (by decide) (fun c => absurd (by decide) c) (fun _ => ?_)
        replace hM := hM.neg (by decide)
        refine lv_aload_n hx hb dX3_readFact_141 rfl (lv_at hl 0 rfl) ?_
        refine tk_getA hC hK hw hT hinX3 kC_at3 (by decide) rfl 0 (by decide) (List.mem_cons_of_mem _ uw_3_12) rfl rfl dX3_readFact_142 ?_
        refine lv_bipush (v := 93) hx hb dX3_readFact_145 (by decide) ?_
        refine tk_Vi hC hK hw hT hA hE hSR kC_at1 (by decide) rfl (kz_X6_takeByte_3 l adK adV dC dI cy ad B hB0 (Int.le_trans hB1 (by decide)) qr s1    w21 H.size hT ) (cwV 1 hC.2.2.2.2 uV_RX3_84 rfl rfl rfl (by decide +kernel) ⟨Nat.le_of_ble_eq_true rfl, Nat.le_of_ble_eq_true rfl⟩) rfl hl.1 rfl (Nat.le_of_ble_eq_true rfl) dX3_readFact_147 (fun r29 w31 H locs hp30 hw => ?_)
        obtain ⟨hT, k32, hv38, hg37⟩ := hp30
        have hF := hF.tr k32 (by decide)
        have c39 := k32.gi kC_at1 (by decide) c24
        rcases hg37 with rfl | ⟨rfl, ⟨x33, c34, rx33, tx33⟩, ⟨x35, c36, rx35, tx35⟩⟩
        · replace hM := hM.call (r' := 0) hv38 (by decide)
          refine lv_if_ne (tgt := 160) hx hb dX3_readFact_150 (by decide) (fun c => absurd (by decide) c) (fun _ => ?_)
          replace hM := hM.neg (by decide)
          refine lv_aload_n hx hb dX3_readFact_153 rfl (lv_at hl 0 rfl) ?_
          refine tk_getA hC hK hw hT hinX3 kC_at3 (by decide) rfl 0 (by decide) (List.mem_cons_of_mem _ uw_3_12) rfl rfl dX3_readFact_154 ?_
          refine tk_Vv hC hK hw hT hA hE hSR kC_at1 (by decide) rfl (kz_X6_blameHere_1 l adK adV dC dI cy ad B hB0 (Int.le_trans hB1 (by decide)) qr s1    w31 H.size hT (c39.trans (wk_eq.mpr (show x23.toInt = 0 by first | exact Int.le_antisymm (by omega) (by omega) | omega)))) (cwV 0 hC.2.2.2.2 uV_RX3_95 rfl rfl rfl (by decide +kernel) ⟨Nat.le_of_ble_eq_true rfl, Nat.le_of_ble_eq_true rfl⟩) rfl hl.1 rfl (Nat.le_of_ble_eq_true rfl) dX3_readFact_157 (fun w42 H locs hp41 hw => ?_)
          obtain ⟨hT, k43, hv47, hg46⟩ := hp41
          have hF := hF.tr k43 (by decide)
          obtain ⟨x44, c45, rx44, tx44⟩ := hg46
          replace hM := hM.call hv47 rfl
          exact J160 v77_2 v77_3 H locs ls w42 (show 0 ≤ v77_2.toInt from r7) (show v77_2.toInt ≤ 1 from t8) (show 0 ≤ v77_3.toInt from r9) (show v77_3.toInt ≤ 1 from t10)  hw hT hF hM (lv_sub hl [0, 1, 2, 3] rfl)
        · replace hM := hM.call (r' := 1) hv38 (by decide)
          refine lv_if_ne (tgt := 160) hx hb dX3_readFact_150 (by decide) (fun _ => ?_) (fun c => absurd c (by decide))
          replace hM := hM.pos (by decide)
          exact J160 v77_2 v77_3 H locs ls w31 (show 0 ≤ v77_2.toInt from r7) (show v77_2.toInt ≤ 1 from t8) (show 0 ≤ v77_3.toInt from r9) (show v77_3.toInt ≤ 1 from t10)  hw hT hF hM (lv_sub hl [0, 1, 2, 3] rfl)
      · replace hM := hM.call (r' := 1) hv28 (by decide)
        refine lv_if_ne (tgt := 160) hx hb dX3_readFact_138 (by decide) (fun _ => ?_) (fun c => absurd c (by decide))
        replace hM := hM.pos (by decide)
        exact J160 v77_2 v77_3 H locs ls w21 (show 0 ≤ v77_2.toInt from r7) (show v77_2.toInt ≤ 1 from t8) (show 0 ≤ v77_3.toInt from r9) (show v77_3.toInt ≤ 1 from t10)  hw hT hF hM (lv_sub hl [0, 1, 2, 3] rfl)
    · have c12 : ¬ v77_2.toInt = (0 : Int) := wk_eqF c12
      replace hM := hM.neg c12
      refine lv_aload_n hx hb dX3_readFact_105 rfl (lv_at hl 0 rfl) ?_
      refine lv_iload_n hx hb dX3_readFact_106 rfl (lv_at hl 1 rfl) ?_
      refine lv_iconst (v := 1) hx hb dX3_readFact_107 (by decide) ?_
      refine lv_iadd hx hb dX3_readFact_108 ?_
      refine wk_top 2 (by decide) ?_
      replace hM := hM.lt (v := 2) (by decide)
      refine tk_Vv hC hK hw hT hA hE hSR kC_at3 (by decide) rfl (kz_X3_readFact_3 l adK adV dC dI cy ad B hB0 (Int.le_trans hB1 (by decide)) qr s1 hqr   w6 H.size hT c11) (cwV 1 hC.2.2.2.2 uV_RX3_69 rfl rfl rfl (by decide +kernel) ⟨Nat.le_of_ble_eq_true rfl, Nat.le_of_ble_eq_true rfl⟩) rfl hl.1 rfl (Nat.le_of_ble_eq_true rfl) dX3_readFact_109 (fun w50 H locs hp49 hw => ?_)
      obtain ⟨hT, k51, hv53, hg52⟩ := hp49
      have hF := hF.tr k51 (by decide)
      clear hg52
      replace hM := hM.call hv53 rfl
      refine lv_aload_n hx hb dX3_readFact_112 rfl (lv_at hl 0 rfl) ?_
      refine tk_getQ hC hK hw hT hqr (by decide) hinX3 kC_at3 (by decide) rfl 1 (by decide) (List.mem_cons_of_mem _ uw_26_17) rfl rfl dX3_readFact_113 ?_
      refine lv_bipush (v := 19) hx hb dX3_readFact_116 (by decide) ?_
      refine tk_Vv hC hK hw hT hA hE hSR hqr (by decide) rfl (kz_X2_addToken_1 l adK adV dC dI cy ad B hB0 (Int.le_trans hB1 (by decide)) qr s1   qr hqr 19 w50 H.size hT ) (cwV 1 hC.2.2.2.2 uV_RX3_74 rfl rfl rfl (by decide +kernel) ⟨Nat.le_of_ble_eq_true rfl, Nat.le_of_ble_eq_true rfl⟩) rfl hl.1 rfl (Nat.le_of_ble_eq_true rfl) dX3_readFact_118 (fun w56 H locs hp55 hw => ?_)
      obtain ⟨hT, k57, hv61, hg60⟩ := hp55
      try simp only [show (19 : Int32).toInt = 19 by decide] at hv61
      have hF := hF.tr k57 (by decide)
      obtain ⟨x58, c59, rx58, tx58⟩ := hg60
      replace hM := hM.call hv61 rfl
      refine lv_goto (tgt := 160) hx hb dX3_readFact_121 (by decide) ?_
      exact J160 v77_2 v77_3 H locs ls w56 (show 0 ≤ v77_2.toInt from r7) (show v77_2.toInt ≤ 1 from t8) (show 0 ≤ v77_3.toInt from r9) (show v77_3.toInt ≤ 1 from t10)  hw hT hF hM (lv_sub hl [0, 1, 2, 3] rfl)
  have J41 : ∀ (v41_2 : Int32) (H : Heap) (locs : List Loc) (ls : Array Slot) (w62 : va_W), 0 ≤ v41_2.toInt → v41_2.toInt ≤ 1 → Wd dC dI A s.heap H locs w62 → TW ksC ad cy B qr s1 w62 → FE ksC [(2, 3, 3), (3, 2, 2), (6, 1, 1), (6, 3, 3), (6, 4, 4), (22, 0, 13), (23, 0, 400)] w0 w62 → gi w62 1 4 = 0 → TT (fun n => m_X3_readFact n qr 3 1 (sI w0)) (fun n => b_X3_readFact_41 (j_X3_readFact_X3_readTest qr 3 n) n qr 3 (1 : Int) (v41_2.toInt) (sI w62)) → lv_has ls 5 [(0, .ref (ad 3)), (1, .int 1), (2, .int v41_2)] → W p l e ({ frames := 26, cells := 0, slots := 0, locals := 634 }) s m (List.toArray [.ref (ad 3), .int 1]) below meth c H locs 0 0 (MQ below (va_Qv (Pz_X3_readFact_2 ad cy B qr s1  w0) (fun u : va_W => wpost dC dI cy A u) A) (List.toArray [.ref (ad 3), .int 1]) s 0 0 A) (F0 m 41 ls []) := by
    intro v41_2 H locs ls w62 r63 t64 hw hT hF c65 hM hl
    refine lv_iconst (v := 0) hx hb dX3_readFact_41 (by decide) ?_
    refine lv_istore_n (lv' := [(3, .int 0), (0, .ref (ad 3)), (1, .int 1), (2, .int v41_2)]) hx hb dX3_readFact_42 rfl hl (by decide) rfl (fun ls hl => ?_)
    refine lv_iload_n hx hb dX3_readFact_43 rfl (lv_at hl 3 rfl) ?_
    refine lv_if_ne (tgt := 77) hx hb dX3_readFact_44 (by decide) (fun c66 => ?_) (fun c66 => ?_)
    · have c66 : ¬ v41_2.toInt = (0 : Int) := wk_eqF c66
      replace hM := hM.pos c66
      exact J77 v41_2 0 H locs ls w62 (show 0 ≤ v41_2.toInt from r63) (show v41_2.toInt ≤ 1 from t64) (by decide) (by decide)  hw hT hF c65 hM (lv_sub hl [1, 2, 3, 0] rfl)
    · have c66 : v41_2.toInt = (0 : Int) := wk_eq.mp c66
      replace hM := hM.neg (fun q => q c66)
      refine lv_iload_n hx hb dX3_readFact_47 rfl (lv_at hl 0 rfl) ?_
      refine lv_if_ne (tgt := 77) hx hb dX3_readFact_48 (by decide) (fun c => absurd (by decide) c) (fun _ => ?_)
      replace hM := hM.neg (by decide)
      refine lv_aload_n hx hb dX3_readFact_51 rfl (lv_at hl 1 rfl) ?_
      refine tk_Vv hC hK hw hT hA hE hSR kC_at3 (by decide) rfl (kz_X3_readSum_1 l adK adV dC dI cy ad B hB0 (Int.le_trans hB1 (by decide)) qr s1 hqr   w62 H.size hT c65) (cwV 0 hC.2.2.2.2 uV_RX3_88 rfl rfl rfl (by decide +kernel) ⟨Nat.le_of_ble_eq_true rfl, Nat.le_of_ble_eq_true rfl⟩) rfl hl.1 rfl (Nat.le_of_ble_eq_true rfl) dX3_readFact_52 (fun w69 H locs hp68 hw => ?_)
      obtain ⟨hT, k70, hv72, hg71⟩ := hp68
      have hF := hF.tr k70 (by decide)
      clear hg71
      replace hM := hM.call hv72 rfl
      refine lv_aload_n hx hb dX3_readFact_55 rfl (lv_at hl 1 rfl) ?_
      refine tk_Vi hC hK hw hT hA hE hSR kC_at3 (by decide) rfl (kz_X3_readSign_1 l adK adV dC dI cy ad B hB0 (Int.le_trans hB1 (by decide)) qr s1    w69 H.size hT ) (cwV 0 hC.2.2.2.2 uV_RX3_91 rfl rfl rfl (by decide +kernel) ⟨Nat.le_of_ble_eq_true rfl, Nat.le_of_ble_eq_true rfl⟩) rfl hl.1 rfl (Nat.le_of_ble_eq_true rfl) dX3_readFact_56 (fun r73 w75 H locs hp74 hw => ?_)
      obtain ⟨hT, k76, hv88, hg87⟩ := hp74
      have hF := hF.tr k76 (by decide)
      rcases hg87 with ⟨rfl, ⟨x77, c78, rx77, tx77⟩⟩ | ⟨g79, g80, ⟨x81, c82, rx81, tx81⟩, ⟨x83, c84, rx83, tx83⟩, ⟨x85, c86, rx85, tx85⟩⟩
      · replace hM := hM.call (r' := 16) hv88 (by decide)
        refine lv_istore (lv' := [(4, .int 16), (3, .int 0), (0, .ref (ad 3)), (1, .int 1), (2, .int v41_2)]) hx hb dX3_readFact_59 hl (by decide) rfl (fun ls hl => ?_)
        refine lv_aload_n hx hb dX3_readFact_61 rfl (lv_at hl 2 rfl) ?_
        refine tk_Vv hC hK hw hT hA hE hSR kC_at3 (by decide) rfl (kz_X3_readSum_2 l adK adV dC dI cy ad B hB0 (Int.le_trans hB1 (by decide)) qr s1 hqr   w75 H.size hT x77 c78 (show 1 ≤ x77.toInt by first | with_reducible assumption | omega) (show x77.toInt ≤ 3205 by first | with_reducible assumption | omega)) (cwV 0 hC.2.2.2.2 uV_RX3_88 rfl rfl rfl (by decide +kernel) ⟨Nat.le_of_ble_eq_true rfl, Nat.le_of_ble_eq_true rfl⟩) rfl hl.1 rfl (Nat.le_of_ble_eq_true rfl) dX3_readFact_62 (fun w91 H locs hp90 hw => ?_)
        obtain ⟨hT, k92, hv96, hg95⟩ := hp90
        have hF := hF.tr k92 (by decide)
        have c97 := k92.gi kC_at1 (by decide) c78
        obtain ⟨x93, c94, rx93, tx93⟩ := hg95
        replace hM := hM.call hv96 rfl
        have ex93 : x93.toInt = x77.toInt := by rw [← c97.symm.trans c94]
        refine lv_aload_n hx hb dX3_readFact_65 rfl (lv_at hl 2 rfl) ?_
        refine tk_getQ hC hK hw hT hqr (by decide) hinX3 kC_at3 (by decide) rfl 1 (by decide) (List.mem_cons_of_mem _ uw_26_17) rfl rfl dX3_readFact_66 ?_
        refine lv_iload hx hb dX3_readFact_69 (lv_at hl 0 rfl) ?_
        refine tk_Vv hC hK hw hT hA hE hSR hqr (by decide) rfl (kz_X2_addToken_1 l adK adV dC dI cy ad B hB0 (Int.le_trans hB1 (by decide)) qr s1   qr hqr 16 w91 H.size hT ) (cwV 1 hC.2.2.2.2 uV_RX3_74 rfl rfl rfl (by decide +kernel) ⟨Nat.le_of_ble_eq_true rfl, Nat.le_of_ble_eq_true rfl⟩) rfl hl.1 rfl (Nat.le_of_ble_eq_true rfl) dX3_readFact_71 (fun w100 H locs hp99 hw => ?_)
        obtain ⟨hT, k101, hv105, hg104⟩ := hp99
        try simp only [show (16 : Int32).toInt = 16 by decide] at hv105
        have hF := hF.tr k101 (by decide)
        have c106 := k101.gi kC_at1 (by decide) c97
        obtain ⟨x102, c103, rx102, tx102⟩ := hg104
        replace hM := hM.call hv105 rfl
        refine lv_goto (tgt := 160) hx hb dX3_readFact_74 (by decide) ?_
        exact J160 v41_2 0 H locs ls w100 (show 0 ≤ v41_2.toInt from r63) (show v41_2.toInt ≤ 1 from t64) (by decide) (by decide)  hw hT hF hM (lv_sub hl [2, 3, 4, 1] rfl)
      · replace hM := hM.call hv88 rfl
        refine lv_istore (lv' := [(4, .int r73), (3, .int 0), (0, .ref (ad 3)), (1, .int 1), (2, .int v41_2)]) hx hb dX3_readFact_59 hl (by decide) rfl (fun ls hl => ?_)
        refine lv_aload_n hx hb dX3_readFact_61 rfl (lv_at hl 2 rfl) ?_
        refine tk_Vv hC hK hw hT hA hE hSR kC_at3 (by decide) rfl (kz_X3_readSum_3 l adK adV dC dI cy ad B hB0 (Int.le_trans hB1 (by decide)) qr s1 hqr   w75 H.size hT ) (cwV 0 hC.2.2.2.2 uV_RX3_88 rfl rfl rfl (by decide +kernel) ⟨Nat.le_of_ble_eq_true rfl, Nat.le_of_ble_eq_true rfl⟩) rfl hl.1 rfl (Nat.le_of_ble_eq_true rfl) dX3_readFact_62 (fun w109 H locs hp108 hw => ?_)
        obtain ⟨hT, k110, hv112, hg111⟩ := hp108
        have hF := hF.tr k110 (by decide)
        have c113 := k110.gi kC_at1 (by decide) c82
        clear hg111
        replace hM := hM.call hv112 rfl
        refine lv_aload_n hx hb dX3_readFact_65 rfl (lv_at hl 2 rfl) ?_
        refine tk_getQ hC hK hw hT hqr (by decide) hinX3 kC_at3 (by decide) rfl 1 (by decide) (List.mem_cons_of_mem _ uw_26_17) rfl rfl dX3_readFact_66 ?_
        refine lv_iload hx hb dX3_readFact_69 (lv_at hl 0 rfl) ?_
        refine tk_Vv hC hK hw hT hA hE hSR hqr (by decide) rfl (kz_X2_addToken_1 l adK adV dC dI cy ad B hB0 (Int.le_trans hB1 (by decide)) qr s1   qr hqr r73 w109 H.size hT ) (cwV 1 hC.2.2.2.2 uV_RX3_74 rfl rfl rfl (by decide +kernel) ⟨Nat.le_of_ble_eq_true rfl, Nat.le_of_ble_eq_true rfl⟩) rfl hl.1 rfl (Nat.le_of_ble_eq_true rfl) dX3_readFact_71 (fun w116 H locs hp115 hw => ?_)
        obtain ⟨hT, k117, hv121, hg120⟩ := hp115
        have hF := hF.tr k117 (by decide)
        have c122 := k117.gi kC_at1 (by decide) c113
        obtain ⟨x118, c119, rx118, tx118⟩ := hg120
        replace hM := hM.call hv121 rfl
        refine lv_goto (tgt := 160) hx hb dX3_readFact_74 (by decide) ?_
        exact J160 v41_2 0 H locs ls w116 (show 0 ≤ v41_2.toInt from r63) (show v41_2.toInt ≤ 1 from t64) (by decide) (by decide)  hw hT hF hM (lv_sub hl [2, 3, 4, 1] rfl)
  have hM : TT (fun n => m_X3_readFact n qr 3 1 (sI w0)) (fun n => j_X3_readFact_X3_readTest qr 3 n 1000 [1] (sI w0)) := TT.rf
  replace hM := hM.suc (fun _ => e_X3_readFact_e)
  refine lv_aload_n hx hb dX3_readFact_0 rfl (lv_at hl 0 rfl) ?_
  refine tk_getA hC hK hw hT hinX3 kC_at3 (by decide) rfl 0 (by decide) (List.mem_cons_of_mem _ uw_3_12) rfl rfl dX3_readFact_1 ?_
  refine tk_Vi hC hK hw hT hA hE hSR kC_at1 (by decide) rfl (kz_X6_isFaulty_2 l adK adV dC dI cy ad B hB0 (Int.le_trans hB1 (by decide)) qr s1    w0 s.heap.size hT cf0_) (cwV 0 hC.2.2.2.2 uV_RX3_54 rfl rfl rfl (by decide +kernel) ⟨Nat.le_of_ble_eq_true rfl, Nat.le_of_ble_eq_true rfl⟩) rfl hl.1 rfl (Nat.le_of_ble_eq_true rfl) dX3_readFact_4 (fun r123 w125 H locs hp124 hw => ?_)
  obtain ⟨hT, k126, hv130, hg129⟩ := hp124
  have hF := hF.tr k126 (by decide)
  have c131 := k126.gi kC_at1 (by decide) cf0_
  obtain ⟨rfl, ⟨x127, c128, rx127, tx127⟩⟩ := hg129
  replace hM := hM.call (r' := 0) hv130 (by decide)
  have ex127 : x127.toInt = (0 : Int) := by rw [show x127 = 0 from c128.symm.trans c131]; decide
  refine lv_if_eq (tgt := 11) hx hb dX3_readFact_7 (by decide) (fun _ => ?_) (fun c => absurd (by decide) c)
  replace hM := hM.pos (by decide)
  refine lv_aload_n hx hb dX3_readFact_11 rfl (lv_at hl 0 rfl) ?_
  refine tk_getA hC hK hw hT hinX3 kC_at3 (by decide) rfl 0 (by decide) (List.mem_cons_of_mem _ uw_3_12) rfl rfl dX3_readFact_12 ?_
  refine va_ldcS hx hb hC.2.2.2.1 hSR.2.2.2.2.1 dX3_readFact_15 ?_
  refine tk_Vi hC hK hw hT hA hE hSR kC_at1 (by decide) rfl (kz_X6_takeWord_4 l adK adV dC dI cy ad B hB0 (Int.le_trans hB1 (by decide)) qr s1    w125 H.size hT ) (cwV 1 hC.2.2.2.2 uV_RX3_59 rfl rfl rfl (by decide +kernel) ⟨Nat.le_of_ble_eq_true rfl, Nat.le_of_ble_eq_true rfl⟩) rfl hl.1 rfl (Nat.le_of_ble_eq_true rfl) dX3_readFact_17 (fun r132 w134 H locs hp133 hw => ?_)
  obtain ⟨hT, k135, hv139, hg138⟩ := hp133
  have hF := hF.tr k135 (by decide)
  have c140 := k135.gi kC_at1 (by decide) c131
  rcases hg138 with rfl | ⟨rfl, ⟨x136, c137, rx136, tx136⟩⟩
  · replace hM := hM.call (r' := 0) hv139 (by decide)
    refine lv_istore_n (lv' := [(2, .int 0), (0, .ref (ad 3)), (1, .int 1)]) hx hb dX3_readFact_20 rfl hl (by decide) rfl (fun ls hl => ?_)
    refine lv_iload_n hx hb dX3_readFact_21 rfl (lv_at hl 0 rfl) ?_
    refine lv_if_ne (tgt := 41) hx hb dX3_readFact_22 (by decide) (fun c => absurd (by decide) c) (fun _ => ?_)
    replace hM := hM.neg (by decide)
    refine lv_aload_n hx hb dX3_readFact_25 rfl (lv_at hl 1 rfl) ?_
    refine tk_getA hC hK hw hT hinX3 kC_at3 (by decide) rfl 0 (by decide) (List.mem_cons_of_mem _ uw_3_12) rfl rfl dX3_readFact_26 ?_
    refine lv_bipush (v := 91) hx hb dX3_readFact_29 (by decide) ?_
    refine tk_Vi hC hK hw hT hA hE hSR kC_at1 (by decide) rfl (kz_X6_takeByte_2 l adK adV dC dI cy ad B hB0 (Int.le_trans hB1 (by decide)) qr s1    w134 H.size hT ) (cwV 1 hC.2.2.2.2 uV_RX3_84 rfl rfl rfl (by decide +kernel) ⟨Nat.le_of_ble_eq_true rfl, Nat.le_of_ble_eq_true rfl⟩) rfl hl.1 rfl (Nat.le_of_ble_eq_true rfl) dX3_readFact_31 (fun r141 w143 H locs hp142 hw => ?_)
    obtain ⟨hT, k144, hv150, hg149⟩ := hp142
    have hF := hF.tr k144 (by decide)
    have c151 := k144.gi kC_at1 (by decide) c140
    rcases hg149 with rfl | ⟨rfl, ⟨x145, c146, rx145, tx145⟩, ⟨x147, c148, rx147, tx147⟩⟩
    · replace hM := hM.call (r' := 0) hv150 (by decide)
      refine lv_if_eq (tgt := 41) hx hb dX3_readFact_34 (by decide) (fun _ => ?_) (fun c => absurd (by decide) c)
      replace hM := hM.pos (by decide)
      exact J41 0 H locs ls w143 (by decide) (by decide)  hw hT hF c151 hM (lv_sub hl [1, 2, 0] rfl)
    · replace hM := hM.call (r' := 1) hv150 (by decide)
      refine lv_if_eq (tgt := 41) hx hb dX3_readFact_34 (by decide) (fun c => absurd c (by decide)) (fun _ => ?_)
      replace hM := hM.neg (by decide)
      refine lv_iconst (v := 1) hx hb dX3_readFact_37 (by decide) ?_
      refine lv_goto (tgt := 42) hx hb dX3_readFact_38 (by decide) ?_
      refine lv_istore_n (lv' := [(3, .int 1), (2, .int 0), (0, .ref (ad 3)), (1, .int 1)]) hx hb dX3_readFact_42 rfl hl (by decide) rfl (fun ls hl => ?_)
      refine lv_iload_n hx hb dX3_readFact_43 rfl (lv_at hl 1 rfl) ?_
      refine lv_if_ne (tgt := 77) hx hb dX3_readFact_44 (by decide) (fun c => absurd (by decide) c) (fun _ => ?_)
      replace hM := hM.neg (by decide)
      refine lv_iload_n hx hb dX3_readFact_47 rfl (lv_at hl 0 rfl) ?_
      refine lv_if_ne (tgt := 77) hx hb dX3_readFact_48 (by decide) (fun _ => ?_) (fun c => absurd c (by decide))
      replace hM := hM.pos (by decide)
      exact J77 0 1 H locs ls w143 (by decide) (by decide) (by decide) (by decide)  hw hT hF c151 hM (lv_sub hl [2, 3, 1, 0] rfl)
  · replace hM := hM.call (r' := 1) hv139 (by decide)
    refine lv_istore_n (lv' := [(2, .int 1), (0, .ref (ad 3)), (1, .int 1)]) hx hb dX3_readFact_20 rfl hl (by decide) rfl (fun ls hl => ?_)
    refine lv_iload_n hx hb dX3_readFact_21 rfl (lv_at hl 0 rfl) ?_
    refine lv_if_ne (tgt := 41) hx hb dX3_readFact_22 (by decide) (fun _ => ?_) (fun c => absurd c (by decide))
    replace hM := hM.pos (by decide)
    exact J41 1 H locs ls w134 (by decide) (by decide)  hw hT hF c140 hM (lv_sub hl [1, 2, 0] rfl)
