abbrev Pz_X10_leastBelow_5 (ad : Nat → Nat) (cy : Nat → ClassId) (B : Int) (qr : Nat) (s1 : Int) (a1 : Int32) (a2 : Int32) (w0 : va_W) : Int32 → va_W → Prop := fun r u => TW ksC ad cy B qr s1 u ∧ FE ksC [(51, 0, 10)] w0 u ∧ Ev (fun n => m_X10_leastBelow n 158 a1.toInt a2.toInt (sI w0)) (r.toInt, sI u) ∧ ((0 ≤ r.toInt ∧ r.toInt ≤ 8191) ∨ (r = (-1) ∧ (∃ y : Int32, gi u 38 10 = y ∧ 1 ≤ y.toInt ∧ y.toInt ≤ 6)))
set_option maxHeartbeats 4000000 in
set_option maxRecDepth 100000 in
theorem kz_X10_leastBelow_5 (l : Launch) (adK adV : Nat → Nat) (dC : Nat → ClassId) (dI : Nat → Nat → Nat) (cy : Nat → ClassId) (ad : Nat → Nat) (B : Int) (hB0 : 2147483648 ≤ B) (hB1 : B ≤ 1152921504606846976) (qr : Nat) (s1 : Int)  (a1 : Int32) (ra1 : 0 ≤ a1.toInt) (ta1 : a1.toInt ≤ 8) (a2 : Int32) (ra2 : 0 ≤ a2.toInt) (ta2 : a2.toInt ≤ 8191) (w0 : va_W) (sz : Nat) (hT : TW ksC ad cy B qr s1 w0)  : Met l yX10_leastBelow (wu yX10_leastBelow cX10_leastBelow 4 (some .int)) ({ frames := 11, cells := 0, slots := 0, locals := 243 }) (va_Pc [.ref (ad 158), .int a1, .int a2] (wpreS adK adV dC dI cy sz w0)) (va_Qi (Pz_X10_leastBelow_5 ad cy B qr s1 a1 a2 w0) (fun u : va_W => wpost dC dI cy (va_A w0 sz) u) (va_A w0 sz)) 0 0 (va_A w0 sz) := by
  refine Met.ofW (cc := cX10_leastBelow) (maxL := 4) (ret := (some .int)) (by decide) rfl ?_
  intro p e s m args below meth c s₁ Bk hml hv
  obtain ⟨rfl, ⟨hsz, hP, hK, hD0⟩, hE, hSR⟩ := hv
  have hx := Bk.exec
  have hb := Bk.bytes
  have hr := Bk.returns
  have hlocks := Bk.notSynchronized
  have hC : CallFix p m c cX10_leastBelow 4 s _ (wu yX10_leastBelow cX10_leastBelow 4 (some .int)) RX10 := ⟨hx, hb, hml, findClass_of_methodNamed Bk.named, atoms_spec (ws := (wu yX10_leastBelow cX10_leastBelow 4 (some .int))) Bk.pre⟩
  subst hsz
  have hD := hD0.self (sz := s.heap.size)
  generalize hAe : va_A w0 s.heap.size = A at hD hE ⊢
  have hA : ∀ q : Nat, s.heap.size ≤ q → A q := fun q h => by rw [← hAe]; exact Or.inr h
  have hw : Wd dC dI A s.heap s.heap [] w0 := ⟨hP, hD, va_S.rf⟩
  have hF : FE ksC [(51, 0, 10)] w0 w0 := FE.rf
  have hl := lv_entry ([.ref (ad 158), .int a1, .int a2]) (n := 4) (Nat.le_of_ble_eq_true rfl)
  rw [lg_entry_eq]
  generalize (lg_sl ([.ref (ad 158), .int a1, .int a2]) ++ List.replicate (4 - (lg_sl ([.ref (ad 158), .int a1, .int a2])).length) Slot.unset).toArray = ls at hl ⊢
  have hl : lv_has ls 4 [(0, .ref (ad 158)), (1, .int a1), (2, .int a2)] := hl
  generalize hloc : ([] : List Loc) = locs at hw ⊢
  have hinX10 : ∀ w ∈ u_ws RX10 TX10 5, w ∈ (wu yX10_leastBelow cX10_leastBelow 4 (some .int)) := fun _ h => List.mem_cons_of_mem _ (up_81 h)
  have hinX5 : ∀ w ∈ u_ws RX5 TX5 14, w ∈ (wu yX10_leastBelow cX10_leastBelow 4 (some .int)) := fun _ h => List.mem_cons_of_mem _ (up_76 h)
  have L9 : ∀ (n9 : Nat) (v9_3 : Int32) (H : Heap) (locs : List Loc) (ls : Array Slot) (w1 : va_W), 0 ≤ a1.toInt → a1.toInt ≤ 8 → 0 ≤ a2.toInt → a2.toInt ≤ 8191 → 0 ≤ v9_3.toInt → v9_3.toInt ≤ 6 → (6 - v9_3.toInt).toNat < n9 → Wd dC dI A s.heap H locs w1 → TW ksC ad cy B qr s1 w1 → FE ksC [(51, 0, 10)] w0 w1 → TT (fun n => m_X10_leastBelow n 158 a1.toInt a2.toInt (sI w0)) (fun n => j_X10_leastBelow 158 n 1009 [a1.toInt, a2.toInt, v9_3.toInt] (sI w1)) → lv_has ls 4 [(0, .ref (ad 158)), (1, .int a1), (2, .int a2), (3, .int v9_3)] → W p l e ({ frames := 11, cells := 0, slots := 0, locals := 243 }) s m (List.toArray [.ref (ad 158), .int a1, .int a2]) below meth c H locs 0 0 (MQ below (va_Qi (Pz_X10_leastBelow_5 ad cy B qr s1 a1 a2 w0) (fun u : va_W => wpost dC dI cy A u) A) (List.toArray [.ref (ad 158), .int a1, .int a2]) s 0 0 A) (F0 m 9 ls []) := by
    intro n9
    induction n9 with
    | zero => intro v9_3 H locs ls w1 r2 t3 r4 t5 r6 t7 hm9 hw hT hF hM hl; omega
    | succ n9 ih9 =>
      intro v9_3 H locs ls w1 r2 t3 r4 t5 r6 t7 hm9 hw hT hF hM hl
      replace hM := hM.suc (fun _ => e_X10_leastBelow_9)
      refine lv_iload_n hx hb dX10_leastBelow_9 rfl (lv_at hl 3 rfl) ?_
      refine lv_aload_n hx hb dX10_leastBelow_10 rfl (lv_at hl 0 rfl) ?_
      refine tk_getA hC hK hw hT hinX10 kC_at158 (by decide) rfl 0 (by decide) (List.mem_cons_of_mem _ uw_6_6) rfl rfl dX10_leastBelow_11 ?_
      refine tk_geti hC hK hw hT hinX5 kC_at38 (by decide) rfl 10 (by decide) (List.mem_cons_of_mem _ uw_60_6) rfl rfl dX10_leastBelow_14 (fun x8 c9 rx8 tx8 => ?_)
      replace hM := hM.rd (sI_at c9)
      refine lv_icmp_ge (tgt := 36) hx hb dX10_leastBelow_17 (by decide) (fun c10 => ?_) (fun c10 => ?_)
      · have c10 : x8.toInt ≤ v9_3.toInt := wk_le.mp c10
        replace hM := hM.pos c10
        refine lv_iload_n hx hb dX10_leastBelow_36 rfl (lv_at hl 1 rfl) ?_
        refine lv_if_gt (tgt := 42) hx hb dX10_leastBelow_37 (by decide) (fun c11 => ?_) (fun c11 => ?_)
        · have c11 : (0 : Int) < a1.toInt := wk_lt.mp c11
          replace hM := hM.pos c11
          refine lv_aload_n hx hb dX10_leastBelow_42 rfl (lv_at hl 0 rfl) ?_
          refine lv_iload_n hx hb dX10_leastBelow_43 rfl (lv_at hl 1 rfl) ?_
          refine lv_iconst (v := 1) hx hb dX10_leastBelow_44 (by decide) ?_
          refine lv_isub hx hb dX10_leastBelow_45 ?_
          refine lv_topi (fun x12 ex12 => ?_)
          have ezx12 := ex12
          have ex12 : x12.toInt = a1.toInt - (1 : Int) := by rw [ex12]; exact wk_sub (show (-2147483648) ≤ a1.toInt - (1 : Int) by omega) (show a1.toInt - (1 : Int) ≤ 2147483647 by omega)
          replace hM := hM.lt ex12.symm
          refine lv_iload_n hx hb dX10_leastBelow_46 rfl (lv_at hl 2 rfl) ?_
          refine tk_Vi hC hK hw hT hA hE hSR kC_at158 (by decide) rfl (kz_X10_leastBelow_6 l adK adV dC dI cy ad B hB0 (Int.le_trans hB1 (by decide)) qr s1   x12 (show 0 ≤ x12.toInt by first | with_reducible assumption | omega) (show x12.toInt ≤ 7 by first | with_reducible assumption | omega) a2 (show 0 ≤ a2.toInt from r4) (show a2.toInt ≤ 8191 from t5) w1 H.size hT ) (cwV 2 hC.2.2.2.2 uV_RX10_72 rfl rfl rfl (by decide +kernel) ⟨Nat.le_of_ble_eq_true rfl, Nat.le_of_ble_eq_true rfl⟩) rfl hl.1 rfl (Nat.le_of_ble_eq_true rfl) dX10_leastBelow_47 (fun r13 w15 H locs hp14 hw => ?_)
          obtain ⟨hT, k16, hv22, hg21⟩ := hp14
          have hF := hF.tr k16 (by decide)
          have c23 := k16.gi kC_at38 (by decide) c9
          rcases hg21 with ⟨g17, g18⟩ | ⟨rfl, ⟨x19, c20, rx19, tx19⟩⟩
          · replace hM := hM.call hv22 rfl
            refine lv_istore_n (lv' := [(3, .int r13), (0, .ref (ad 158)), (1, .int a1), (2, .int a2)]) hx hb dX10_leastBelow_50 rfl hl (by decide) rfl (fun ls hl => ?_)
            refine lv_iload_n hx hb dX10_leastBelow_51 rfl (lv_at hl 0 rfl) ?_
            refine lv_iconst (v := (-1)) hx hb dX10_leastBelow_52 (by decide) ?_
            refine lv_icmp_eq (tgt := 60) hx hb dX10_leastBelow_53 (by decide) (fun c => absurd c (fun h => absurd (show r13.toInt = (-1 : Int) from wk_eq.mp h) (by omega))) (fun _ => ?_)
            replace hM := hM.neg (by omega)
            refine lv_iload_n hx hb dX10_leastBelow_56 rfl (lv_at hl 0 rfl) ?_
            refine lv_goto (tgt := 74) hx hb dX10_leastBelow_57 (by decide) ?_
            exact tk_iret hC hr hlocks hK ⟨hT, hF, hM.ret rfl, (Or.inl ⟨(show 0 ≤ r13.toInt by first | with_reducible assumption | omega), (show r13.toInt ≤ 8191 by first | with_reducible assumption | omega)⟩)⟩ hw dX10_leastBelow_74
          · replace hM := hM.call (r' := (-1)) hv22 (by decide)
            have ex19 : x19.toInt = x8.toInt := by rw [← c23.symm.trans c20]
            refine lv_istore_n (lv' := [(3, .int (-1)), (0, .ref (ad 158)), (1, .int a1), (2, .int a2)]) hx hb dX10_leastBelow_50 rfl hl (by decide) rfl (fun ls hl => ?_)
            refine lv_iload_n hx hb dX10_leastBelow_51 rfl (lv_at hl 0 rfl) ?_
            refine lv_iconst (v := (-1)) hx hb dX10_leastBelow_52 (by decide) ?_
            refine lv_icmp_eq (tgt := 60) hx hb dX10_leastBelow_53 (by decide) (fun _ => ?_) (fun c => absurd (by decide) c)
            replace hM := hM.pos (by decide)
            refine lv_aload_n hx hb dX10_leastBelow_60 rfl (lv_at hl 1 rfl) ?_
            refine lv_iload_n hx hb dX10_leastBelow_61 rfl (lv_at hl 2 rfl) ?_
            refine lv_iconst (v := 1) hx hb dX10_leastBelow_62 (by decide) ?_
            refine lv_isub hx hb dX10_leastBelow_63 ?_
            refine lv_topi (fun x24 ex24 => ?_)
            have ezx24 := ex24
            have ex24 : x24.toInt = a1.toInt - (1 : Int) := by rw [ex24]; exact wk_sub (show (-2147483648) ≤ a1.toInt - (1 : Int) by omega) (show a1.toInt - (1 : Int) ≤ 2147483647 by omega)
            replace hM := hM.lt ex24.symm
            refine lv_iload_n hx hb dX10_leastBelow_64 rfl (lv_at hl 3 rfl) ?_
            refine lv_iconst (v := 1) hx hb dX10_leastBelow_65 (by decide) ?_
            refine lv_iload_n hx hb dX10_leastBelow_66 rfl (lv_at hl 2 rfl) ?_
            refine lv_iconst (v := 1) hx hb dX10_leastBelow_67 (by decide) ?_
            refine lv_isub hx hb dX10_leastBelow_68 ?_
            refine lv_topi (fun x25 ex25 => ?_)
            have ezx25 := ex25
            have ex25 : x25.toInt = a1.toInt - (1 : Int) := by rw [ex25]; exact wk_sub (show (-2147483648) ≤ a1.toInt - (1 : Int) by omega) (show a1.toInt - (1 : Int) ≤ 2147483647 by omega)
            replace hM := hM.lt ex25.symm
            refine lv_ishl hx hb dX10_leastBelow_69 ?_
            refine lv_topi (fun x26 ex26 => ?_)
            have ezx26 := ex26
            have bx26 : 1 ≤ x26.toInt ∧ x26.toInt ≤ 128 := by rw [ex26]; exact wk_shl1 7 (by decide) (by omega) (by omega)
            replace hM := hM.lt (o32_e (f := fun x y => x <<< (y &&& 31)) ezx26 (by decide) rfl)
            refine lv_ior hx hb dX10_leastBelow_70 ?_
            refine lv_topi (fun x27 ex27 => ?_)
            have ezx27 := ex27
            have bx27 : 0 ≤ x27.toInt ∧ x27.toInt < 8192 := by rw [ex27]; exact wk_or 13 (by decide) (by omega) (by omega) (by omega) (by omega)
            have mx27 : a2.toInt ≤ x27.toInt ∧ x26.toInt ≤ x27.toInt := by rw [ex27]; exact wk_orL 13 (by decide) (by omega) (by omega) (by omega) (by omega)
            replace hM := hM.lt (o32_e (f := fun x y => x ||| y) ezx27 rfl rfl)
            refine tk_Vi hC hK hw hT hA hE hSR kC_at158 (by decide) rfl (kz_X10_leastBelow_6 l adK adV dC dI cy ad B hB0 (Int.le_trans hB1 (by decide)) qr s1   x24 (show 0 ≤ x24.toInt by first | with_reducible assumption | omega) (show x24.toInt ≤ 7 by first | with_reducible assumption | omega) x27 (show 0 ≤ x27.toInt by first | with_reducible assumption | omega) (show x27.toInt ≤ 8191 by first | with_reducible assumption | omega) w15 H.size hT ) (cwV 2 hC.2.2.2.2 uV_RX10_72 rfl rfl rfl (by decide +kernel) ⟨Nat.le_of_ble_eq_true rfl, Nat.le_of_ble_eq_true rfl⟩) rfl hl.1 rfl (Nat.le_of_ble_eq_true rfl) dX10_leastBelow_71 (fun r28 w30 H locs hp29 hw => ?_)
            obtain ⟨hT, k31, hv37, hg36⟩ := hp29
            have hF := hF.tr k31 (by decide)
            have c38 := k31.gi kC_at38 (by decide) c23
            rcases hg36 with ⟨g32, g33⟩ | ⟨rfl, ⟨x34, c35, rx34, tx34⟩⟩
            · replace hM := hM.call hv37 rfl
              exact tk_iret hC hr hlocks hK ⟨hT, hF, hM.ret rfl, (Or.inl ⟨(show 0 ≤ r28.toInt by first | with_reducible assumption | omega), (show r28.toInt ≤ 8191 by first | with_reducible assumption | omega)⟩)⟩ hw dX10_leastBelow_74
            · replace hM := hM.call (r' := (-1)) hv37 (by decide)
              have ex34 : x34.toInt = x8.toInt := by rw [← c38.symm.trans c35]
              exact tk_iret hC hr hlocks hK ⟨hT, hF, hM.ret (by decide), (Or.inr ⟨rfl, ⟨x8, c38, (show 1 ≤ x8.toInt by first | with_reducible assumption | omega), (show x8.toInt ≤ 6 from tx8)⟩⟩)⟩ hw dX10_leastBelow_74
        · have c11 : a1.toInt ≤ (0 : Int) := wk_ltF c11
          replace hM := hM.neg (Int.not_lt.mpr c11)
          refine lv_iload_n hx hb dX10_leastBelow_40 rfl (lv_at hl 2 rfl) ?_
          exact tk_iret hC hr hlocks hK ⟨hT, hF, hM.ret rfl, (Or.inl ⟨(show 0 ≤ a2.toInt from r4), (show a2.toInt ≤ 8191 from t5)⟩)⟩ hw dX10_leastBelow_41
      · have c10 : v9_3.toInt < x8.toInt := wk_leF c10
        replace hM := hM.neg (Int.not_le.mpr c10)
        refine lv_aload_n hx hb dX10_leastBelow_20 rfl (lv_at hl 0 rfl) ?_
        refine lv_iload_n hx hb dX10_leastBelow_21 rfl (lv_at hl 3 rfl) ?_
        refine tk_Vi hC hK hw hT hA hE hSR kC_at158 (by decide) rfl (kz_X10_canDo_1 l adK adV dC dI cy ad B hB0 (Int.le_trans hB1 (by decide)) qr s1   v9_3 (show 0 ≤ v9_3.toInt from r6) (show v9_3.toInt ≤ 5 by first | with_reducible assumption | omega) w1 H.size hT ) (cwV 1 hC.2.2.2.2 uV_RX10_49 rfl rfl rfl (by decide +kernel) ⟨Nat.le_of_ble_eq_true rfl, Nat.le_of_ble_eq_true rfl⟩) rfl hl.1 rfl (Nat.le_of_ble_eq_true rfl) dX10_leastBelow_22 (fun r39 w41 H locs hp40 hw => ?_)
        obtain ⟨hT, k42, hv44, hg43⟩ := hp40
        have hF := hF.tr k42 (by decide)
        have c45 := k42.gi kC_at38 (by decide) c9
        rcases hg43 with rfl | rfl
        · replace hM := hM.call (r' := 0) hv44 (by decide)
          refine lv_if_ne (tgt := 30) hx hb dX10_leastBelow_25 (by decide) (fun c => absurd (by decide) c) (fun _ => ?_)
          replace hM := hM.neg (by decide)
          refine lv_iconst (v := (-1)) hx hb dX10_leastBelow_28 (by decide) ?_
          exact tk_iret hC hr hlocks hK ⟨hT, hF, hM.ret (by decide), (Or.inr ⟨rfl, ⟨x8, c45, (show 1 ≤ x8.toInt by first | with_reducible assumption | omega), (show x8.toInt ≤ 6 from tx8)⟩⟩)⟩ hw dX10_leastBelow_29
        · replace hM := hM.call (r' := 1) hv44 (by decide)
          refine lv_if_ne (tgt := 30) hx hb dX10_leastBelow_25 (by decide) (fun _ => ?_) (fun c => absurd c (by decide))
          replace hM := hM.pos (by decide)
          obtain ⟨x46, ex46⟩ : ∃ y : Int32, y = v9_3 + Int32.ofInt 1 := ⟨_, rfl⟩
          have erx46 := ex46
          refine lv_iinc (v := x46) (lv' := [(3, .int x46), (0, .ref (ad 158)), (1, .int a1), (2, .int a2)]) hx hb dX10_leastBelow_30 hl (k := 3) rfl ex46.symm (by decide) rfl (fun ls hl => ?_)
          have ex46 : x46.toInt = v9_3.toInt + 1 := by rw [ex46]; exact wk_add (y := 1) (show -2147483648 ≤ v9_3.toInt + 1 by omega) (show v9_3.toInt + 1 ≤ 2147483647 by omega)
          replace hM := hM.lt ex46.symm
          refine lv_goto (tgt := 9) hx hb dX10_leastBelow_33 (by decide) ?_
          exact ih9 x46 H locs ls w41 (show 0 ≤ a1.toInt from r2) (show a1.toInt ≤ 8 from t3) (show 0 ≤ a2.toInt from r4) (show a2.toInt ≤ 8191 from t5) (show 0 ≤ x46.toInt by first | with_reducible assumption | omega) (show x46.toInt ≤ 6 by first | with_reducible assumption | omega) (show (6 - x46.toInt).toNat < n9 by first | exact tn_lt hm9 (by omega) (by omega) | omega) hw hT hF hM (lv_sub hl [1, 2, 3, 0] rfl)
  have hM : TT (fun n => m_X10_leastBelow n 158 a1.toInt a2.toInt (sI w0)) (fun n => j_X10_leastBelow 158 n 1000 [a1.toInt, a2.toInt] (sI w0)) := TT.rf
  replace hM := hM.suc (fun _ => e_X10_leastBelow_e)
  refine lv_aload_n hx hb dX10_leastBelow_0 rfl (lv_at hl 0 rfl) ?_
  refine lv_iload_n hx hb dX10_leastBelow_1 rfl (lv_at hl 1 rfl) ?_
  refine lv_iload_n hx hb dX10_leastBelow_2 rfl (lv_at hl 2 rfl) ?_
  refine lv_iconst (v := (-1)) hx hb dX10_leastBelow_3 (by decide) ?_
  refine tk_Vv hC hK hw hT hA hE hSR kC_at158 (by decide) rfl (kz_X10_layRoads_1 l adK adV dC dI cy ad B hB0 (Int.le_trans hB1 (by decide)) qr s1   a1 (show 0 ≤ a1.toInt from ra1) (show a1.toInt ≤ 12 from Int.le_trans ta1 (by decide)) a2 (show 0 ≤ a2.toInt from ra2) (show a2.toInt ≤ 8191 from ta2) ((-1)) (by decide) (by decide) w0 s.heap.size hT ) (cwV 3 hC.2.2.2.2 uV_RX10_42 rfl rfl rfl (by decide +kernel) ⟨Nat.le_of_ble_eq_true rfl, Nat.le_of_ble_eq_true rfl⟩) rfl hl.1 rfl (Nat.le_of_ble_eq_true rfl) dX10_leastBelow_4 (fun w49 H locs hp48 hw => ?_)
  obtain ⟨hT, k50, hv52, hg51⟩ := hp48
  try simp only [show ((-1) : Int32).toInt = (-1) by decide] at hv52
  have hF := hF.tr k50 (by decide)
  clear hg51
  replace hM := hM.call hv52 rfl
  refine lv_iconst (v := 0) hx hb dX10_leastBelow_7 (by decide) ?_
  refine lv_istore_n (lv' := [(3, .int 0), (0, .ref (ad 158)), (1, .int a1), (2, .int a2)]) hx hb dX10_leastBelow_8 rfl hl (by decide) rfl (fun ls hl => ?_)
  exact L9 ((6 - (0 : Int)).toNat + 1) 0 H locs ls w49 (show 0 ≤ a1.toInt from ra1) (show a1.toInt ≤ 8 from ta1) (show 0 ≤ a2.toInt from ra2) (show a2.toInt ≤ 8191 from ta2) (by decide) (by decide) (Nat.lt_succ_self _) hw hT hF hM (lv_sub hl [1, 2, 3, 0] rfl)
abbrev Pz_X10_leastBelow_4 (ad : Nat → Nat) (cy : Nat → ClassId) (B : Int) (qr : Nat) (s1 : Int) (a1 : Int32) (a2 : Int32) (w0 : va_W) : Int32 → va_W → Prop := fun r u => TW ksC ad cy B qr s1 u ∧ FE ksC [(51, 0, 10)] w0 u ∧ Ev (fun n => m_X10_leastBelow n 158 a1.toInt a2.toInt (sI w0)) (r.toInt, sI u) ∧ ((0 ≤ r.toInt ∧ r.toInt ≤ 8191) ∨ (r = (-1) ∧ (∃ y : Int32, gi u 38 10 = y ∧ 1 ≤ y.toInt ∧ y.toInt ≤ 6)))
set_option maxHeartbeats 4000000 in
set_option maxRecDepth 100000 in
theorem kz_X10_leastBelow_4 (l : Launch) (adK adV : Nat → Nat) (dC : Nat → ClassId) (dI : Nat → Nat → Nat) (cy : Nat → ClassId) (ad : Nat → Nat) (B : Int) (hB0 : 2147483648 ≤ B) (hB1 : B ≤ 1152921504606846976) (qr : Nat) (s1 : Int)  (a1 : Int32) (ra1 : 0 ≤ a1.toInt) (ta1 : a1.toInt ≤ 9) (a2 : Int32) (ra2 : 0 ≤ a2.toInt) (ta2 : a2.toInt ≤ 8191) (w0 : va_W) (sz : Nat) (hT : TW ksC ad cy B qr s1 w0)  : Met l yX10_leastBelow (wu yX10_leastBelow cX10_leastBelow 4 (some .int)) ({ frames := 12, cells := 0, slots := 0, locals := 266 }) (va_Pc [.ref (ad 158), .int a1, .int a2] (wpreS adK adV dC dI cy sz w0)) (va_Qi (Pz_X10_leastBelow_4 ad cy B qr s1 a1 a2 w0) (fun u : va_W => wpost dC dI cy (va_A w0 sz) u) (va_A w0 sz)) 0 0 (va_A w0 sz) := by
  refine Met.ofW (cc := cX10_leastBelow) (maxL := 4) (ret := (some .int)) (by decide) rfl ?_
  intro p e s m args below meth c s₁ Bk hml hv
  obtain ⟨rfl, ⟨hsz, hP, hK, hD0⟩, hE, hSR⟩ := hv
  have hx := Bk.exec
  have hb := Bk.bytes
  have hr := Bk.returns
  have hlocks := Bk.notSynchronized
  have hC : CallFix p m c cX10_leastBelow 4 s _ (wu yX10_leastBelow cX10_leastBelow 4 (some .int)) RX10 := ⟨hx, hb, hml, findClass_of_methodNamed Bk.named, atoms_spec (ws := (wu yX10_leastBelow cX10_leastBelow 4 (some .int))) Bk.pre⟩
  subst hsz
  have hD := hD0.self (sz := s.heap.size)
  generalize hAe : va_A w0 s.heap.size = A at hD hE ⊢
  have hA : ∀ q : Nat, s.heap.size ≤ q → A q := fun q h => by rw [← hAe]; exact Or.inr h
  have hw : Wd dC dI A s.heap s.heap [] w0 := ⟨hP, hD, va_S.rf⟩
  have hF : FE ksC [(51, 0, 10)] w0 w0 := FE.rf
  have hl := lv_entry ([.ref (ad 158), .int a1, .int a2]) (n := 4) (Nat.le_of_ble_eq_true rfl)
  rw [lg_entry_eq]
  generalize (lg_sl ([.ref (ad 158), .int a1, .int a2]) ++ List.replicate (4 - (lg_sl ([.ref (ad 158), .int a1, .int a2])).length) Slot.unset).toArray = ls at hl ⊢
  have hl : lv_has ls 4 [(0, .ref (ad 158)), (1, .int a1), (2, .int a2)] := hl
  generalize hloc : ([] : List Loc) = locs at hw ⊢
  have hinX10 : ∀ w ∈ u_ws RX10 TX10 5, w ∈ (wu yX10_leastBelow cX10_leastBelow 4 (some .int)) := fun _ h => List.mem_cons_of_mem _ (up_81 h)
  have hinX5 : ∀ w ∈ u_ws RX5 TX5 14, w ∈ (wu yX10_leastBelow cX10_leastBelow 4 (some .int)) := fun _ h => List.mem_cons_of_mem _ (up_76 h)
  have L9 : ∀ (n9 : Nat) (v9_3 : Int32) (H : Heap) (locs : List Loc) (ls : Array Slot) (w1 : va_W), 0 ≤ a1.toInt → a1.toInt ≤ 9 → 0 ≤ a2.toInt → a2.toInt ≤ 8191 → 0 ≤ v9_3.toInt → v9_3.toInt ≤ 6 → (6 - v9_3.toInt).toNat < n9 → Wd dC dI A s.heap H locs w1 → TW ksC ad cy B qr s1 w1 → FE ksC [(51, 0, 10)] w0 w1 → TT (fun n => m_X10_leastBelow n 158 a1.toInt a2.toInt (sI w0)) (fun n => j_X10_leastBelow 158 n 1009 [a1.toInt, a2.toInt, v9_3.toInt] (sI w1)) → lv_has ls 4 [(0, .ref (ad 158)), (1, .int a1), (2, .int a2), (3, .int v9_3)] → W p l e ({ frames := 12, cells := 0, slots := 0, locals := 266 }) s m (List.toArray [.ref (ad 158), .int a1, .int a2]) below meth c H locs 0 0 (MQ below (va_Qi (Pz_X10_leastBelow_4 ad cy B qr s1 a1 a2 w0) (fun u : va_W => wpost dC dI cy A u) A) (List.toArray [.ref (ad 158), .int a1, .int a2]) s 0 0 A) (F0 m 9 ls []) := by
    intro n9
    induction n9 with
    | zero => intro v9_3 H locs ls w1 r2 t3 r4 t5 r6 t7 hm9 hw hT hF hM hl; omega
    | succ n9 ih9 =>
      intro v9_3 H locs ls w1 r2 t3 r4 t5 r6 t7 hm9 hw hT hF hM hl
      replace hM := hM.suc (fun _ => e_X10_leastBelow_9)
      refine lv_iload_n hx hb dX10_leastBelow_9 rfl (lv_at hl 3 rfl) ?_
      refine lv_aload_n hx hb dX10_leastBelow_10 rfl (lv_at hl 0 rfl) ?_
      refine tk_getA hC hK hw hT hinX10 kC_at158 (by decide) rfl 0 (by decide) (List.mem_cons_of_mem _ uw_6_6) rfl rfl dX10_leastBelow_11 ?_
      refine tk_geti hC hK hw hT hinX5 kC_at38 (by decide) rfl 10 (by decide) (List.mem_cons_of_mem _ uw_60_6) rfl rfl dX10_leastBelow_14 (fun x8 c9 rx8 tx8 => ?_)
      replace hM := hM.rd (sI_at c9)
      refine lv_icmp_ge (tgt := 36) hx hb dX10_leastBelow_17 (by decide) (fun c10 => ?_) (fun c10 => ?_)
      · have c10 : x8.toInt ≤ v9_3.toInt := wk_le.mp c10
        replace hM := hM.pos c10
        refine lv_iload_n hx hb dX10_leastBelow_36 rfl (lv_at hl 1 rfl) ?_
        refine lv_if_gt (tgt := 42) hx hb dX10_leastBelow_37 (by decide) (fun c11 => ?_) (fun c11 => ?_)
        · have c11 : (0 : Int) < a1.toInt := wk_lt.mp c11
          replace hM := hM.pos c11
          refine lv_aload_n hx hb dX10_leastBelow_42 rfl (lv_at hl 0 rfl) ?_
          refine lv_iload_n hx hb dX10_leastBelow_43 rfl (lv_at hl 1 rfl) ?_
          refine lv_iconst (v := 1) hx hb dX10_leastBelow_44 (by decide) ?_
          refine lv_isub hx hb dX10_leastBelow_45 ?_
          refine lv_topi (fun x12 ex12 => ?_)
          have ezx12 := ex12
          have ex12 : x12.toInt = a1.toInt - (1 : Int) := by rw [ex12]; exact wk_sub (show (-2147483648) ≤ a1.toInt - (1 : Int) by omega) (show a1.toInt - (1 : Int) ≤ 2147483647 by omega)
          replace hM := hM.lt ex12.symm
          refine lv_iload_n hx hb dX10_leastBelow_46 rfl (lv_at hl 2 rfl) ?_
          refine tk_Vi hC hK hw hT hA hE hSR kC_at158 (by decide) rfl (kz_X10_leastBelow_5 l adK adV dC dI cy ad B hB0 (Int.le_trans hB1 (by decide)) qr s1   x12 (show 0 ≤ x12.toInt by first | with_reducible assumption | omega) (show x12.toInt ≤ 8 by first | with_reducible assumption | omega) a2 (show 0 ≤ a2.toInt from r4) (show a2.toInt ≤ 8191 from t5) w1 H.size hT ) (cwV 2 hC.2.2.2.2 uV_RX10_72 rfl rfl rfl (by decide +kernel) ⟨Nat.le_of_ble_eq_true rfl, Nat.le_of_ble_eq_true rfl⟩) rfl hl.1 rfl (Nat.le_of_ble_eq_true rfl) dX10_leastBelow_47 (fun r13 w15 H locs hp14 hw => ?_)
          obtain ⟨hT, k16, hv22, hg21⟩ := hp14
          have hF := hF.tr k16 (by decide)
          have c23 := k16.gi kC_at38 (by decide) c9
          rcases hg21 with ⟨g17, g18⟩ | ⟨rfl, ⟨x19, c20, rx19, tx19⟩⟩
          · replace hM := hM.call hv22 rfl
            refine lv_istore_n (lv' := [(3, .int r13), (0, .ref (ad 158)), (1, .int a1), (2, .int a2)]) hx hb dX10_leastBelow_50 rfl hl (by decide) rfl (fun ls hl => ?_)
            refine lv_iload_n hx hb dX10_leastBelow_51 rfl (lv_at hl 0 rfl) ?_
            refine lv_iconst (v := (-1)) hx hb dX10_leastBelow_52 (by decide) ?_
            refine lv_icmp_eq (tgt := 60) hx hb dX10_leastBelow_53 (by decide) (fun c => absurd c (fun h => absurd (show r13.toInt = (-1 : Int) from wk_eq.mp h) (by omega))) (fun _ => ?_)
            replace hM := hM.neg (by omega)
            refine lv_iload_n hx hb dX10_leastBelow_56 rfl (lv_at hl 0 rfl) ?_
            refine lv_goto (tgt := 74) hx hb dX10_leastBelow_57 (by decide) ?_
            exact tk_iret hC hr hlocks hK ⟨hT, hF, hM.ret rfl, (Or.inl ⟨(show 0 ≤ r13.toInt by first | with_reducible assumption | omega), (show r13.toInt ≤ 8191 by first | with_reducible assumption | omega)⟩)⟩ hw dX10_leastBelow_74
          · replace hM := hM.call (r' := (-1)) hv22 (by decide)
            have ex19 : x19.toInt = x8.toInt := by rw [← c23.symm.trans c20]
            refine lv_istore_n (lv' := [(3, .int (-1)), (0, .ref (ad 158)), (1, .int a1), (2, .int a2)]) hx hb dX10_leastBelow_50 rfl hl (by decide) rfl (fun ls hl => ?_)
            refine lv_iload_n hx hb dX10_leastBelow_51 rfl (lv_at hl 0 rfl) ?_
            refine lv_iconst (v := (-1)) hx hb dX10_leastBelow_52 (by decide) ?_
            refine lv_icmp_eq (tgt := 60) hx hb dX10_leastBelow_53 (by decide) (fun _ => ?_) (fun c => absurd (by decide) c)
            replace hM := hM.pos (by decide)
            refine lv_aload_n hx hb dX10_leastBelow_60 rfl (lv_at hl 1 rfl) ?_
            refine lv_iload_n hx hb dX10_leastBelow_61 rfl (lv_at hl 2 rfl) ?_
            refine lv_iconst (v := 1) hx hb dX10_leastBelow_62 (by decide) ?_
            refine lv_isub hx hb dX10_leastBelow_63 ?_
            refine lv_topi (fun x24 ex24 => ?_)
            have ezx24 := ex24
            have ex24 : x24.toInt = a1.toInt - (1 : Int) := by rw [ex24]; exact wk_sub (show (-2147483648) ≤ a1.toInt - (1 : Int) by omega) (show a1.toInt - (1 : Int) ≤ 2147483647 by omega)
            replace hM := hM.lt ex24.symm
            refine lv_iload_n hx hb dX10_leastBelow_64 rfl (lv_at hl 3 rfl) ?_
            refine lv_iconst (v := 1) hx hb dX10_leastBelow_65 (by decide) ?_
            refine lv_iload_n hx hb dX10_leastBelow_66 rfl (lv_at hl 2 rfl) ?_
            refine lv_iconst (v := 1) hx hb dX10_leastBelow_67 (by decide) ?_
            refine lv_isub hx hb dX10_leastBelow_68 ?_
            refine lv_topi (fun x25 ex25 => ?_)
            have ezx25 := ex25
            have ex25 : x25.toInt = a1.toInt - (1 : Int) := by rw [ex25]; exact wk_sub (show (-2147483648) ≤ a1.toInt - (1 : Int) by omega) (show a1.toInt - (1 : Int) ≤ 2147483647 by omega)
            replace hM := hM.lt ex25.symm
            refine lv_ishl hx hb dX10_leastBelow_69 ?_
            refine lv_topi (fun x26 ex26 => ?_)
            have ezx26 := ex26
            have bx26 : 1 ≤ x26.toInt ∧ x26.toInt ≤ 256 := by rw [ex26]; exact wk_shl1 8 (by decide) (by omega) (by omega)
            replace hM := hM.lt (o32_e (f := fun x y => x <<< (y &&& 31)) ezx26 (by decide) rfl)
            refine lv_ior hx hb dX10_leastBelow_70 ?_
            refine lv_topi (fun x27 ex27 => ?_)
            have ezx27 := ex27
            have bx27 : 0 ≤ x27.toInt ∧ x27.toInt < 8192 := by rw [ex27]; exact wk_or 13 (by decide) (by omega) (by omega) (by omega) (by omega)
            have mx27 : a2.toInt ≤ x27.toInt ∧ x26.toInt ≤ x27.toInt := by rw [ex27]; exact wk_orL 13 (by decide) (by omega) (by omega) (by omega) (by omega)
            replace hM := hM.lt (o32_e (f := fun x y => x ||| y) ezx27 rfl rfl)
            refine tk_Vi hC hK hw hT hA hE hSR kC_at158 (by decide) rfl (kz_X10_leastBelow_5 l adK adV dC dI cy ad B hB0 (Int.le_trans hB1 (by decide)) qr s1   x24 (show 0 ≤ x24.toInt by first | with_reducible assumption | omega) (show x24.toInt ≤ 8 by first | with_reducible assumption | omega) x27 (show 0 ≤ x27.toInt by first | with_reducible assumption | omega) (show x27.toInt ≤ 8191 by first | with_reducible assumption | omega) w15 H.size hT ) (cwV 2 hC.2.2.2.2 uV_RX10_72 rfl rfl rfl (by decide +kernel) ⟨Nat.le_of_ble_eq_true rfl, Nat.le_of_ble_eq_true rfl⟩) rfl hl.1 rfl (Nat.le_of_ble_eq_true rfl) dX10_leastBelow_71 (fun r28 w30 H locs hp29 hw => ?_)
            obtain ⟨hT, k31, hv37, hg36⟩ := hp29
            have hF := hF.tr k31 (by decide)
            have c38 := k31.gi kC_at38 (by decide) c23
            rcases hg36 with ⟨g32, g33⟩ | ⟨rfl, ⟨x34, c35, rx34, tx34⟩⟩
            · replace hM := hM.call hv37 rfl
              exact tk_iret hC hr hlocks hK ⟨hT, hF, hM.ret rfl, (Or.inl ⟨(show 0 ≤ r28.toInt by first | with_reducible assumption | omega), (show r28.toInt ≤ 8191 by first | with_reducible assumption | omega)⟩)⟩ hw dX10_leastBelow_74
            · replace hM := hM.call (r' := (-1)) hv37 (by decide)
              have ex34 : x34.toInt = x8.toInt := by rw [← c38.symm.trans c35]
              exact tk_iret hC hr hlocks hK ⟨hT, hF, hM.ret (by decide), (Or.inr ⟨rfl, ⟨x8, c38, (show 1 ≤ x8.toInt by first | with_reducible assumption | omega), (show x8.toInt ≤ 6 from tx8)⟩⟩)⟩ hw dX10_leastBelow_74
        · have c11 : a1.toInt ≤ (0 : Int) := wk_ltF c11
          replace hM := hM.neg (Int.not_lt.mpr c11)
          refine lv_iload_n hx hb dX10_leastBelow_40 rfl (lv_at hl 2 rfl) ?_
          exact tk_iret hC hr hlocks hK ⟨hT, hF, hM.ret rfl, (Or.inl ⟨(show 0 ≤ a2.toInt from r4), (show a2.toInt ≤ 8191 from t5)⟩)⟩ hw dX10_leastBelow_41
      · have c10 : v9_3.toInt < x8.toInt := wk_leF c10
        replace hM := hM.neg (Int.not_le.mpr c10)
        refine lv_aload_n hx hb dX10_leastBelow_20 rfl (lv_at hl 0 rfl) ?_
        refine lv_iload_n hx hb dX10_leastBelow_21 rfl (lv_at hl 3 rfl) ?_
        refine tk_Vi hC hK hw hT hA hE hSR kC_at158 (by decide) rfl (kz_X10_canDo_1 l adK adV dC dI cy ad B hB0 (Int.le_trans hB1 (by decide)) qr s1   v9_3 (show 0 ≤ v9_3.toInt from r6) (show v9_3.toInt ≤ 5 by first | with_reducible assumption | omega) w1 H.size hT ) (cwV 1 hC.2.2.2.2 uV_RX10_49 rfl rfl rfl (by decide +kernel) ⟨Nat.le_of_ble_eq_true rfl, Nat.le_of_ble_eq_true rfl⟩) rfl hl.1 rfl (Nat.le_of_ble_eq_true rfl) dX10_leastBelow_22 (fun r39 w41 H locs hp40 hw => ?_)
        obtain ⟨hT, k42, hv44, hg43⟩ := hp40
        have hF := hF.tr k42 (by decide)
        have c45 := k42.gi kC_at38 (by decide) c9
        rcases hg43 with rfl | rfl
        · replace hM := hM.call (r' := 0) hv44 (by decide)
          refine lv_if_ne (tgt := 30) hx hb dX10_leastBelow_25 (by decide) (fun c => absurd (by decide) c) (fun _ => ?_)
          replace hM := hM.neg (by decide)
          refine lv_iconst (v := (-1)) hx hb dX10_leastBelow_28 (by decide) ?_
          exact tk_iret hC hr hlocks hK ⟨hT, hF, hM.ret (by decide), (Or.inr ⟨rfl, ⟨x8, c45, (show 1 ≤ x8.toInt by first | with_reducible assumption | omega), (show x8.toInt ≤ 6 from tx8)⟩⟩)⟩ hw dX10_leastBelow_29
        · replace hM := hM.call (r' := 1) hv44 (by decide)
          refine lv_if_ne (tgt := 30) hx hb dX10_leastBelow_25 (by decide) (fun _ => ?_) (fun c => absurd c (by decide))
          replace hM := hM.pos (by decide)
          obtain ⟨x46, ex46⟩ : ∃ y : Int32, y = v9_3 + Int32.ofInt 1 := ⟨_, rfl⟩
          have erx46 := ex46
          refine lv_iinc (v := x46) (lv' := [(3, .int x46), (0, .ref (ad 158)), (1, .int a1), (2, .int a2)]) hx hb dX10_leastBelow_30 hl (k := 3) rfl ex46.symm (by decide) rfl (fun ls hl => ?_)
          have ex46 : x46.toInt = v9_3.toInt + 1 := by rw [ex46]; exact wk_add (y := 1) (show -2147483648 ≤ v9_3.toInt + 1 by omega) (show v9_3.toInt + 1 ≤ 2147483647 by omega)
          replace hM := hM.lt ex46.symm
          refine lv_goto (tgt := 9) hx hb dX10_leastBelow_33 (by decide) ?_
          exact ih9 x46 H locs ls w41 (show 0 ≤ a1.toInt from r2) (show a1.toInt ≤ 9 from t3) (show 0 ≤ a2.toInt from r4) (show a2.toInt ≤ 8191 from t5) (show 0 ≤ x46.toInt by first | with_reducible assumption | omega) (show x46.toInt ≤ 6 by first | with_reducible assumption | omega) (show (6 - x46.toInt).toNat < n9 by first | exact tn_lt hm9 (by omega) (by omega) | omega) hw hT hF hM (lv_sub hl [1, 2, 3, 0] rfl)
  have hM : TT (fun n => m_X10_leastBelow n 158 a1.toInt a2.toInt (sI w0)) (fun n => j_X10_leastBelow 158 n 1000 [a1.toInt, a2.toInt] (sI w0)) := TT.rf
  replace hM := hM.suc (fun _ => e_X10_leastBelow_e)
  refine lv_aload_n hx hb dX10_leastBelow_0 rfl (lv_at hl 0 rfl) ?_
  refine lv_iload_n hx hb dX10_leastBelow_1 rfl (lv_at hl 1 rfl) ?_
  refine lv_iload_n hx hb dX10_leastBelow_2 rfl (lv_at hl 2 rfl) ?_
  refine lv_iconst (v := (-1)) hx hb dX10_leastBelow_3 (by decide) ?_
  refine tk_Vv hC hK hw hT hA hE hSR kC_at158 (by decide) rfl (kz_X10_layRoads_1 l adK adV dC dI cy ad B hB0 (Int.le_trans hB1 (by decide)) qr s1   a1 (show 0 ≤ a1.toInt from ra1) (show a1.toInt ≤ 12 from Int.le_trans ta1 (by decide)) a2 (show 0 ≤ a2.toInt from ra2) (show a2.toInt ≤ 8191 from ta2) ((-1)) (by decide) (by decide) w0 s.heap.size hT ) (cwV 3 hC.2.2.2.2 uV_RX10_42 rfl rfl rfl (by decide +kernel) ⟨Nat.le_of_ble_eq_true rfl, Nat.le_of_ble_eq_true rfl⟩) rfl hl.1 rfl (Nat.le_of_ble_eq_true rfl) dX10_leastBelow_4 (fun w49 H locs hp48 hw => ?_)
  obtain ⟨hT, k50, hv52, hg51⟩ := hp48
  try simp only [show ((-1) : Int32).toInt = (-1) by decide] at hv52
  have hF := hF.tr k50 (by decide)
  clear hg51
  replace hM := hM.call hv52 rfl
  refine lv_iconst (v := 0) hx hb dX10_leastBelow_7 (by decide) ?_
  refine lv_istore_n (lv' := [(3, .int 0), (0, .ref (ad 158)), (1, .int a1), (2, .int a2)]) hx hb dX10_leastBelow_8 rfl hl (by decide) rfl (fun ls hl => ?_)
  exact L9 ((6 - (0 : Int)).toNat + 1) 0 H locs ls w49 (show 0 ≤ a1.toInt from ra1) (show a1.toInt ≤ 9 from ta1) (show 0 ≤ a2.toInt from ra2) (show a2.toInt ≤ 8191 from ta2) (by decide) (by decide) (Nat.lt_succ_self _) hw hT hF hM (lv_sub hl [1, 2, 3, 0] rfl)
abbrev Pz_X10_leastBelow_3 (ad : Nat → Nat) (cy : Nat → ClassId) (B : Int) (qr : Nat) (s1 : Int) (a1 : Int32) (a2 : Int32) (w0 : va_W) : Int32 → va_W → Prop := fun r u => TW ksC ad cy B qr s1 u ∧ FE ksC [(51, 0, 10)] w0 u ∧ Ev (fun n => m_X10_leastBelow n 158 a1.toInt a2.toInt (sI w0)) (r.toInt, sI u) ∧ ((0 ≤ r.toInt ∧ r.toInt ≤ 8191) ∨ (r = (-1) ∧ (∃ y : Int32, gi u 38 10 = y ∧ 1 ≤ y.toInt ∧ y.toInt ≤ 6)))
set_option maxHeartbeats 4000000 in
set_option maxRecDepth 100000 in
theorem kz_X10_leastBelow_3 (l : Launch) (adK adV : Nat → Nat) (dC : Nat → ClassId) (dI : Nat → Nat → Nat) (cy : Nat → ClassId) (ad : Nat → Nat) (B : Int) (hB0 : 2147483648 ≤ B) (hB1 : B ≤ 1152921504606846976) (qr : Nat) (s1 : Int)  (a1 : Int32) (ra1 : 0 ≤ a1.toInt) (ta1 : a1.toInt ≤ 10) (a2 : Int32) (ra2 : 0 ≤ a2.toInt) (ta2 : a2.toInt ≤ 8191) (w0 : va_W) (sz : Nat) (hT : TW ksC ad cy B qr s1 w0)  : Met l yX10_leastBelow (wu yX10_leastBelow cX10_leastBelow 4 (some .int)) ({ frames := 13, cells := 0, slots := 0, locals := 289 }) (va_Pc [.ref (ad 158), .int a1, .int a2] (wpreS adK adV dC dI cy sz w0)) (va_Qi (Pz_X10_leastBelow_3 ad cy B qr s1 a1 a2 w0) (fun u : va_W => wpost dC dI cy (va_A w0 sz) u) (va_A w0 sz)) 0 0 (va_A w0 sz) := by
  refine Met.ofW (cc := cX10_leastBelow) (maxL := 4) (ret := (some .int)) (by decide) rfl ?_
  intro p e s m args below meth c s₁ Bk hml hv
  obtain ⟨rfl, ⟨hsz, hP, hK, hD0⟩, hE, hSR⟩ := hv
  have hx := Bk.exec
  have hb := Bk.bytes
  have hr := Bk.returns
  have hlocks := Bk.notSynchronized
  have hC : CallFix p m c cX10_leastBelow 4 s _ (wu yX10_leastBelow cX10_leastBelow 4 (some .int)) RX10 := ⟨hx, hb, hml, findClass_of_methodNamed Bk.named, atoms_spec (ws := (wu yX10_leastBelow cX10_leastBelow 4 (some .int))) Bk.pre⟩
  subst hsz
  have hD := hD0.self (sz := s.heap.size)
  generalize hAe : va_A w0 s.heap.size = A at hD hE ⊢
  have hA : ∀ q : Nat, s.heap.size ≤ q → A q := fun q h => by rw [← hAe]; exact Or.inr h
  have hw : Wd dC dI A s.heap s.heap [] w0 := ⟨hP, hD, va_S.rf⟩
  have hF : FE ksC [(51, 0, 10)] w0 w0 := FE.rf
  have hl := lv_entry ([.ref (ad 158), .int a1, .int a2]) (n := 4) (Nat.le_of_ble_eq_true rfl)
  rw [lg_entry_eq]
  generalize (lg_sl ([.ref (ad 158), .int a1, .int a2]) ++ List.replicate (4 - (lg_sl ([.ref (ad 158), .int a1, .int a2])).length) Slot.unset).toArray = ls at hl ⊢
  have hl : lv_has ls 4 [(0, .ref (ad 158)), (1, .int a1), (2, .int a2)] := hl
  generalize hloc : ([] : List Loc) = locs at hw ⊢
  have hinX10 : ∀ w ∈ u_ws RX10 TX10 5, w ∈ (wu yX10_leastBelow cX10_leastBelow 4 (some .int)) := fun _ h => List.mem_cons_of_mem _ (up_81 h)
  have hinX5 : ∀ w ∈ u_ws RX5 TX5 14, w ∈ (wu yX10_leastBelow cX10_leastBelow 4 (some .int)) := fun _ h => List.mem_cons_of_mem _ (up_76 h)
  have L9 : ∀ (n9 : Nat) (v9_3 : Int32) (H : Heap) (locs : List Loc) (ls : Array Slot) (w1 : va_W), 0 ≤ a1.toInt → a1.toInt ≤ 10 → 0 ≤ a2.toInt → a2.toInt ≤ 8191 → 0 ≤ v9_3.toInt → v9_3.toInt ≤ 6 → (6 - v9_3.toInt).toNat < n9 → Wd dC dI A s.heap H locs w1 → TW ksC ad cy B qr s1 w1 → FE ksC [(51, 0, 10)] w0 w1 → TT (fun n => m_X10_leastBelow n 158 a1.toInt a2.toInt (sI w0)) (fun n => j_X10_leastBelow 158 n 1009 [a1.toInt, a2.toInt, v9_3.toInt] (sI w1)) → lv_has ls 4 [(0, .ref (ad 158)), (1, .int a1), (2, .int a2), (3, .int v9_3)] → W p l e ({ frames := 13, cells := 0, slots := 0, locals := 289 }) s m (List.toArray [.ref (ad 158), .int a1, .int a2]) below meth c H locs 0 0 (MQ below (va_Qi (Pz_X10_leastBelow_3 ad cy B qr s1 a1 a2 w0) (fun u : va_W => wpost dC dI cy A u) A) (List.toArray [.ref (ad 158), .int a1, .int a2]) s 0 0 A) (F0 m 9 ls []) := by
    intro n9
    induction n9 with
    | zero => intro v9_3 H locs ls w1 r2 t3 r4 t5 r6 t7 hm9 hw hT hF hM hl; omega
    | succ n9 ih9 =>
      intro v9_3 H locs ls w1 r2 t3 r4 t5 r6 t7 hm9 hw hT hF hM hl
      replace hM := hM.suc (fun _ => e_X10_leastBelow_9)
      refine lv_iload_n hx hb dX10_leastBelow_9 rfl (lv_at hl 3 rfl) ?_
      refine lv_aload_n hx hb dX10_leastBelow_10 rfl (lv_at hl 0 rfl) ?_
      refine tk_getA hC hK hw hT hinX10 kC_at158 (by decide) rfl 0 (by decide) (List.mem_cons_of_mem _ uw_6_6) rfl rfl dX10_leastBelow_11 ?_
      refine tk_geti hC hK hw hT hinX5 kC_at38 (by decide) rfl 10 (by decide) (List.mem_cons_of_mem _ uw_60_6) rfl rfl dX10_leastBelow_14 (fun x8 c9 rx8 tx8 => ?_)
      replace hM := hM.rd (sI_at c9)
      refine lv_icmp_ge (tgt := 36) hx hb dX10_leastBelow_17 (by decide) (fun c10 => ?_) (fun c10 => ?_)
      · have c10 : x8.toInt ≤ v9_3.toInt := wk_le.mp c10
        replace hM := hM.pos c10
        refine lv_iload_n hx hb dX10_leastBelow_36 rfl (lv_at hl 1 rfl) ?_
        refine lv_if_gt (tgt := 42) hx hb dX10_leastBelow_37 (by decide) (fun c11 => ?_) (fun c11 => ?_)
        · have c11 : (0 : Int) < a1.toInt := wk_lt.mp c11
          replace hM := hM.pos c11
          refine lv_aload_n hx hb dX10_leastBelow_42 rfl (lv_at hl 0 rfl) ?_
          refine lv_iload_n hx hb dX10_leastBelow_43 rfl (lv_at hl 1 rfl) ?_
          refine lv_iconst (v := 1) hx hb dX10_leastBelow_44 (by decide) ?_
          refine lv_isub hx hb dX10_leastBelow_45 ?_
          refine lv_topi (fun x12 ex12 => ?_)
          have ezx12 := ex12
          have ex12 : x12.toInt = a1.toInt - (1 : Int) := by rw [ex12]; exact wk_sub (show (-2147483648) ≤ a1.toInt - (1 : Int) by omega) (show a1.toInt - (1 : Int) ≤ 2147483647 by omega)
          replace hM := hM.lt ex12.symm
          refine lv_iload_n hx hb dX10_leastBelow_46 rfl (lv_at hl 2 rfl) ?_
          refine tk_Vi hC hK hw hT hA hE hSR kC_at158 (by decide) rfl (kz_X10_leastBelow_4 l adK adV dC dI cy ad B hB0 (Int.le_trans hB1 (by decide)) qr s1   x12 (show 0 ≤ x12.toInt by first | with_reducible assumption | omega) (show x12.toInt ≤ 9 by first | with_reducible assumption | omega) a2 (show 0 ≤ a2.toInt from r4) (show a2.toInt ≤ 8191 from t5) w1 H.size hT ) (cwV 2 hC.2.2.2.2 uV_RX10_72 rfl rfl rfl (by decide +kernel) ⟨Nat.le_of_ble_eq_true rfl, Nat.le_of_ble_eq_true rfl⟩) rfl hl.1 rfl (Nat.le_of_ble_eq_true rfl) dX10_leastBelow_47 (fun r13 w15 H locs hp14 hw => ?_)
          obtain ⟨hT, k16, hv22, hg21⟩ := hp14
          have hF := hF.tr k16 (by decide)
          have c23 := k16.gi kC_at38 (by decide) c9
          rcases hg21 with ⟨g17, g18⟩ | ⟨rfl, ⟨x19, c20, rx19, tx19⟩⟩
          · replace hM := hM.call hv22 rfl
            refine lv_istore_n (lv' := [(3, .int r13), (0, .ref (ad 158)), (1, .int a1), (2, .int a2)]) hx hb dX10_leastBelow_50 rfl hl (by decide) rfl (fun ls hl => ?_)
            refine lv_iload_n hx hb dX10_leastBelow_51 rfl (lv_at hl 0 rfl) ?_
            refine lv_iconst (v := (-1)) hx hb dX10_leastBelow_52 (by decide) ?_
            refine lv_icmp_eq (tgt := 60) hx hb dX10_leastBelow_53 (by decide) (fun c => absurd c (fun h => absurd (show r13.toInt = (-1 : Int) from wk_eq.mp h) (by omega))) (fun _ => ?_)
            replace hM := hM.neg (by omega)
            refine lv_iload_n hx hb dX10_leastBelow_56 rfl (lv_at hl 0 rfl) ?_
            refine lv_goto (tgt := 74) hx hb dX10_leastBelow_57 (by decide) ?_
            exact tk_iret hC hr hlocks hK ⟨hT, hF, hM.ret rfl, (Or.inl ⟨(show 0 ≤ r13.toInt by first | with_reducible assumption | omega), (show r13.toInt ≤ 8191 by first | with_reducible assumption | omega)⟩)⟩ hw dX10_leastBelow_74
          · replace hM := hM.call (r' := (-1)) hv22 (by decide)
            have ex19 : x19.toInt = x8.toInt := by rw [← c23.symm.trans c20]
            refine lv_istore_n (lv' := [(3, .int (-1)), (0, .ref (ad 158)), (1, .int a1), (2, .int a2)]) hx hb dX10_leastBelow_50 rfl hl (by decide) rfl (fun ls hl => ?_)
            refine lv_iload_n hx hb dX10_leastBelow_51 rfl (lv_at hl 0 rfl) ?_
            refine lv_iconst (v := (-1)) hx hb dX10_leastBelow_52 (by decide) ?_
            refine lv_icmp_eq (tgt := 60) hx hb dX10_leastBelow_53 (by decide) (fun _ => ?_) (fun c => absurd (by decide) c)
            replace hM := hM.pos (by decide)
            refine lv_aload_n hx hb dX10_leastBelow_60 rfl (lv_at hl 1 rfl) ?_
            refine lv_iload_n hx hb dX10_leastBelow_61 rfl (lv_at hl 2 rfl) ?_
            refine lv_iconst (v := 1) hx hb dX10_leastBelow_62 (by decide) ?_
            refine lv_isub hx hb dX10_leastBelow_63 ?_
            refine lv_topi (fun x24 ex24 => ?_)
            have ezx24 := ex24
            have ex24 : x24.toInt = a1.toInt - (1 : Int) := by rw [ex24]; exact wk_sub (show (-2147483648) ≤ a1.toInt - (1 : Int) by omega) (show a1.toInt - (1 : Int) ≤ 2147483647 by omega)
            replace hM := hM.lt ex24.symm
            refine lv_iload_n hx hb dX10_leastBelow_64 rfl (lv_at hl 3 rfl) ?_
            refine lv_iconst (v := 1) hx hb dX10_leastBelow_65 (by decide) ?_
            refine lv_iload_n hx hb dX10_leastBelow_66 rfl (lv_at hl 2 rfl) ?_
            refine lv_iconst (v := 1) hx hb dX10_leastBelow_67 (by decide) ?_
            refine lv_isub hx hb dX10_leastBelow_68 ?_
            refine lv_topi (fun x25 ex25 => ?_)
            have ezx25 := ex25
            have ex25 : x25.toInt = a1.toInt - (1 : Int) := by rw [ex25]; exact wk_sub (show (-2147483648) ≤ a1.toInt - (1 : Int) by omega) (show a1.toInt - (1 : Int) ≤ 2147483647 by omega)
            replace hM := hM.lt ex25.symm
            refine lv_ishl hx hb dX10_leastBelow_69 ?_
            refine lv_topi (fun x26 ex26 => ?_)
            have ezx26 := ex26
            have bx26 : 1 ≤ x26.toInt ∧ x26.toInt ≤ 512 := by rw [ex26]; exact wk_shl1 9 (by decide) (by omega) (by omega)
            replace hM := hM.lt (o32_e (f := fun x y => x <<< (y &&& 31)) ezx26 (by decide) rfl)
            refine lv_ior hx hb dX10_leastBelow_70 ?_
            refine lv_topi (fun x27 ex27 => ?_)
            have ezx27 := ex27
            have bx27 : 0 ≤ x27.toInt ∧ x27.toInt < 8192 := by rw [ex27]; exact wk_or 13 (by decide) (by omega) (by omega) (by omega) (by omega)
            have mx27 : a2.toInt ≤ x27.toInt ∧ x26.toInt ≤ x27.toInt := by rw [ex27]; exact wk_orL 13 (by decide) (by omega) (by omega) (by omega) (by omega)
            replace hM := hM.lt (o32_e (f := fun x y => x ||| y) ezx27 rfl rfl)
            refine tk_Vi hC hK hw hT hA hE hSR kC_at158 (by decide) rfl (kz_X10_leastBelow_4 l adK adV dC dI cy ad B hB0 (Int.le_trans hB1 (by decide)) qr s1   x24 (show 0 ≤ x24.toInt by first | with_reducible assumption | omega) (show x24.toInt ≤ 9 by first | with_reducible assumption | omega) x27 (show 0 ≤ x27.toInt by first | with_reducible assumption | omega) (show x27.toInt ≤ 8191 by first | with_reducible assumption | omega) w15 H.size hT ) (cwV 2 hC.2.2.2.2 uV_RX10_72 rfl rfl rfl (by decide +kernel) ⟨Nat.le_of_ble_eq_true rfl, Nat.le_of_ble_eq_true rfl⟩) rfl hl.1 rfl (Nat.le_of_ble_eq_true rfl) dX10_leastBelow_71 (fun r28 w30 H locs hp29 hw => ?_)
            obtain ⟨hT, k31, hv37, hg36⟩ := hp29
            have hF := hF.tr k31 (by decide)
            have c38 := k31.gi kC_at38 (by decide) c23
            rcases hg36 with ⟨g32, g33⟩ | ⟨rfl, ⟨x34, c35, rx34, tx34⟩⟩
            · replace hM := hM.call hv37 rfl
              exact tk_iret hC hr hlocks hK ⟨hT, hF, hM.ret rfl, (Or.inl ⟨(show 0 ≤ r28.toInt by first | with_reducible assumption | omega), (show r28.toInt ≤ 8191 by first | with_reducible assumption | omega)⟩)⟩ hw dX10_leastBelow_74
            · replace hM := hM.call (r' := (-1)) hv37 (by decide)
              have ex34 : x34.toInt = x8.toInt := by rw [← c38.symm.trans c35]
              exact tk_iret hC hr hlocks hK ⟨hT, hF, hM.ret (by decide), (Or.inr ⟨rfl, ⟨x8, c38, (show 1 ≤ x8.toInt by first | with_reducible assumption | omega), (show x8.toInt ≤ 6 from tx8)⟩⟩)⟩ hw dX10_leastBelow_74
        · have c11 : a1.toInt ≤ (0 : Int) := wk_ltF c11
          replace hM := hM.neg (Int.not_lt.mpr c11)
          refine lv_iload_n hx hb dX10_leastBelow_40 rfl (lv_at hl 2 rfl) ?_
          exact tk_iret hC hr hlocks hK ⟨hT, hF, hM.ret rfl, (Or.inl ⟨(show 0 ≤ a2.toInt from r4), (show a2.toInt ≤ 8191 from t5)⟩)⟩ hw dX10_leastBelow_41
      · have c10 : v9_3.toInt < x8.toInt := wk_leF c10
        replace hM := hM.neg (Int.not_le.mpr c10)
        refine lv_aload_n hx hb dX10_leastBelow_20 rfl (lv_at hl 0 rfl) ?_
        refine lv_iload_n hx hb dX10_leastBelow_21 rfl (lv_at hl 3 rfl) ?_
        refine tk_Vi hC hK hw hT hA hE hSR kC_at158 (by decide) rfl (kz_X10_canDo_1 l adK adV dC dI cy ad B hB0 (Int.le_trans hB1 (by decide)) qr s1   v9_3 (show 0 ≤ v9_3.toInt from r6) (show v9_3.toInt ≤ 5 by first | with_reducible assumption | omega) w1 H.size hT ) (cwV 1 hC.2.2.2.2 uV_RX10_49 rfl rfl rfl (by decide +kernel) ⟨Nat.le_of_ble_eq_true rfl, Nat.le_of_ble_eq_true rfl⟩) rfl hl.1 rfl (Nat.le_of_ble_eq_true rfl) dX10_leastBelow_22 (fun r39 w41 H locs hp40 hw => ?_)
        obtain ⟨hT, k42, hv44, hg43⟩ := hp40
        have hF := hF.tr k42 (by decide)
        have c45 := k42.gi kC_at38 (by decide) c9
        rcases hg43 with rfl | rfl
        · replace hM := hM.call (r' := 0) hv44 (by decide)
          refine lv_if_ne (tgt := 30) hx hb dX10_leastBelow_25 (by decide) (fun c => absurd (by decide) c) (fun _ => ?_)
          replace hM := hM.neg (by decide)
          refine lv_iconst (v := (-1)) hx hb dX10_leastBelow_28 (by decide) ?_
          exact tk_iret hC hr hlocks hK ⟨hT, hF, hM.ret (by decide), (Or.inr ⟨rfl, ⟨x8, c45, (show 1 ≤ x8.toInt by first | with_reducible assumption | omega), (show x8.toInt ≤ 6 from tx8)⟩⟩)⟩ hw dX10_leastBelow_29
        · replace hM := hM.call (r' := 1) hv44 (by decide)
          refine lv_if_ne (tgt := 30) hx hb dX10_leastBelow_25 (by decide) (fun _ => ?_) (fun c => absurd c (by decide))
          replace hM := hM.pos (by decide)
          obtain ⟨x46, ex46⟩ : ∃ y : Int32, y = v9_3 + Int32.ofInt 1 := ⟨_, rfl⟩
          have erx46 := ex46
          refine lv_iinc (v := x46) (lv' := [(3, .int x46), (0, .ref (ad 158)), (1, .int a1), (2, .int a2)]) hx hb dX10_leastBelow_30 hl (k := 3) rfl ex46.symm (by decide) rfl (fun ls hl => ?_)
          have ex46 : x46.toInt = v9_3.toInt + 1 := by rw [ex46]; exact wk_add (y := 1) (show -2147483648 ≤ v9_3.toInt + 1 by omega) (show v9_3.toInt + 1 ≤ 2147483647 by omega)
          replace hM := hM.lt ex46.symm
          refine lv_goto (tgt := 9) hx hb dX10_leastBelow_33 (by decide) ?_
          exact ih9 x46 H locs ls w41 (show 0 ≤ a1.toInt from r2) (show a1.toInt ≤ 10 from t3) (show 0 ≤ a2.toInt from r4) (show a2.toInt ≤ 8191 from t5) (show 0 ≤ x46.toInt by first | with_reducible assumption | omega) (show x46.toInt ≤ 6 by first | with_reducible assumption | omega) (show (6 - x46.toInt).toNat < n9 by first | exact tn_lt hm9 (by omega) (by omega) | omega) hw hT hF hM (lv_sub hl [1, 2, 3, 0] rfl)
  have hM : TT (fun n => m_X10_leastBelow n 158 a1.toInt a2.toInt (sI w0)) (fun n => j_X10_leastBelow 158 n 1000 [a1.toInt, a2.toInt] (sI w0)) := TT.rf
  replace hM := hM.suc (fun _ => e_X10_leastBelow_e)
  refine lv_aload_n hx hb dX10_leastBelow_0 rfl (lv_at hl 0 rfl) ?_
  refine lv_iload_n hx hb dX10_leastBelow_1 rfl (lv_at hl 1 rfl) ?_
  refine lv_iload_n hx hb dX10_leastBelow_2 rfl (lv_at hl 2 rfl) ?_
  refine lv_iconst (v := (-1)) hx hb dX10_leastBelow_3 (by decide) ?_
  refine tk_Vv hC hK hw hT hA hE hSR kC_at158 (by decide) rfl (kz_X10_layRoads_1 l adK adV dC dI cy ad B hB0 (Int.le_trans hB1 (by decide)) qr s1   a1 (show 0 ≤ a1.toInt from ra1) (show a1.toInt ≤ 12 from Int.le_trans ta1 (by decide)) a2 (show 0 ≤ a2.toInt from ra2) (show a2.toInt ≤ 8191 from ta2) ((-1)) (by decide) (by decide) w0 s.heap.size hT ) (cwV 3 hC.2.2.2.2 uV_RX10_42 rfl rfl rfl (by decide +kernel) ⟨Nat.le_of_ble_eq_true rfl, Nat.le_of_ble_eq_true rfl⟩) rfl hl.1 rfl (Nat.le_of_ble_eq_true rfl) dX10_leastBelow_4 (fun w49 H locs hp48 hw => ?_)
  obtain ⟨hT, k50, hv52, hg51⟩ := hp48
  try simp only [show ((-1) : Int32).toInt = (-1) by decide] at hv52
  have hF := hF.tr k50 (by decide)
  clear hg51
  replace hM := hM.call hv52 rfl
  refine lv_iconst (v := 0) hx hb dX10_leastBelow_7 (by decide) ?_
  refine lv_istore_n (lv' := [(3, .int 0), (0, .ref (ad 158)), (1, .int a1), (2, .int a2)]) hx hb dX10_leastBelow_8 rfl hl (by decide) rfl (fun ls hl => ?_)
  exact L9 ((6 - (0 : Int)).toNat + 1) 0 H locs ls w49 (show 0 ≤ a1.toInt from ra1) (show a1.toInt ≤ 10 from ta1) (show 0 ≤ a2.toInt from ra2) (show a2.toInt ≤ 8191 from ta2) (by decide) (by decide) (Nat.lt_succ_self _) hw hT hF hM (lv_sub hl [1, 2, 3, 0] rfl)
abbrev Pz_X10_leastBelow_2 (ad : Nat → Nat) (cy : Nat → ClassId) (B : Int) (qr : Nat) (s1 : Int) (a1 : Int32) (a2 : Int32) (w0 : va_W) : Int32 → va_W → Prop := fun r u => TW ksC ad cy B qr s1 u ∧ FE ksC [(51, 0, 10)] w0 u ∧ Ev (fun n => m_X10_leastBelow n 158 a1.toInt a2.toInt (sI w0)) (r.toInt, sI u) ∧ ((0 ≤ r.toInt ∧ r.toInt ≤ 8191) ∨ (r = (-1) ∧ (∃ y : Int32, gi u 38 10 = y ∧ 1 ≤ y.toInt ∧ y.toInt ≤ 6)))
set_option maxHeartbeats 4000000 in
set_option maxRecDepth 100000 in
theorem kz_X10_leastBelow_2 (l : Launch) (adK adV : Nat → Nat) (dC : Nat → ClassId) (dI : Nat → Nat → Nat) (cy : Nat → ClassId) (ad : Nat → Nat) (B : Int) (hB0 : 2147483648 ≤ B) (hB1 : B ≤ 1152921504606846976) (qr : Nat) (s1 : Int)  (a1 : Int32) (ra1 : 0 ≤ a1.toInt) (ta1 : a1.toInt ≤ 11) (a2 : Int32) (ra2 : 0 ≤ a2.toInt) (ta2 : a2.toInt ≤ 8191) (w0 : va_W) (sz : Nat) (hT : TW ksC ad cy B qr s1 w0)  : Met l yX10_leastBelow (wu yX10_leastBelow cX10_leastBelow 4 (some .int)) ({ frames := 14, cells := 0, slots := 0, locals := 312 }) (va_Pc [.ref (ad 158), .int a1, .int a2] (wpreS adK adV dC dI cy sz w0)) (va_Qi (Pz_X10_leastBelow_2 ad cy B qr s1 a1 a2 w0) (fun u : va_W => wpost dC dI cy (va_A w0 sz) u) (va_A w0 sz)) 0 0 (va_A w0 sz) := by
  refine Met.ofW (cc := cX10_leastBelow) (maxL := 4) (ret := (some .int)) (by decide) rfl ?_
  intro p e s m args below meth c s₁ Bk hml hv
  obtain ⟨rfl, ⟨hsz, hP, hK, hD0⟩, hE, hSR⟩ := hv
  have hx := Bk.exec
  have hb := Bk.bytes
  have hr := Bk.returns
  have hlocks := Bk.notSynchronized
  have hC : CallFix p m c cX10_leastBelow 4 s _ (wu yX10_leastBelow cX10_leastBelow 4 (some .int)) RX10 := ⟨hx, hb, hml, findClass_of_methodNamed Bk.named, atoms_spec (ws := (wu yX10_leastBelow cX10_leastBelow 4 (some .int))) Bk.pre⟩
  subst hsz
  have hD := hD0.self (sz := s.heap.size)
  generalize hAe : va_A w0 s.heap.size = A at hD hE ⊢
  have hA : ∀ q : Nat, s.heap.size ≤ q → A q := fun q h => by rw [← hAe]; exact Or.inr h
  have hw : Wd dC dI A s.heap s.heap [] w0 := ⟨hP, hD, va_S.rf⟩
  have hF : FE ksC [(51, 0, 10)] w0 w0 := FE.rf
  have hl := lv_entry ([.ref (ad 158), .int a1, .int a2]) (n := 4) (Nat.le_of_ble_eq_true rfl)
  rw [lg_entry_eq]
  generalize (lg_sl ([.ref (ad 158), .int a1, .int a2]) ++ List.replicate (4 - (lg_sl ([.ref (ad 158), .int a1, .int a2])).length) Slot.unset).toArray = ls at hl ⊢
  have hl : lv_has ls 4 [(0, .ref (ad 158)), (1, .int a1), (2, .int a2)] := hl
  generalize hloc : ([] : List Loc) = locs at hw ⊢
  have hinX10 : ∀ w ∈ u_ws RX10 TX10 5, w ∈ (wu yX10_leastBelow cX10_leastBelow 4 (some .int)) := fun _ h => List.mem_cons_of_mem _ (up_81 h)
  have hinX5 : ∀ w ∈ u_ws RX5 TX5 14, w ∈ (wu yX10_leastBelow cX10_leastBelow 4 (some .int)) := fun _ h => List.mem_cons_of_mem _ (up_76 h)
  have L9 : ∀ (n9 : Nat) (v9_3 : Int32) (H : Heap) (locs : List Loc) (ls : Array Slot) (w1 : va_W), 0 ≤ a1.toInt → a1.toInt ≤ 11 → 0 ≤ a2.toInt → a2.toInt ≤ 8191 → 0 ≤ v9_3.toInt → v9_3.toInt ≤ 6 → (6 - v9_3.toInt).toNat < n9 → Wd dC dI A s.heap H locs w1 → TW ksC ad cy B qr s1 w1 → FE ksC [(51, 0, 10)] w0 w1 → TT (fun n => m_X10_leastBelow n 158 a1.toInt a2.toInt (sI w0)) (fun n => j_X10_leastBelow 158 n 1009 [a1.toInt, a2.toInt, v9_3.toInt] (sI w1)) → lv_has ls 4 [(0, .ref (ad 158)), (1, .int a1), (2, .int a2), (3, .int v9_3)] → W p l e ({ frames := 14, cells := 0, slots := 0, locals := 312 }) s m (List.toArray [.ref (ad 158), .int a1, .int a2]) below meth c H locs 0 0 (MQ below (va_Qi (Pz_X10_leastBelow_2 ad cy B qr s1 a1 a2 w0) (fun u : va_W => wpost dC dI cy A u) A) (List.toArray [.ref (ad 158), .int a1, .int a2]) s 0 0 A) (F0 m 9 ls []) := by
    intro n9
    induction n9 with
    | zero => intro v9_3 H locs ls w1 r2 t3 r4 t5 r6 t7 hm9 hw hT hF hM hl; omega
    | succ n9 ih9 =>
      intro v9_3 H locs ls w1 r2 t3 r4 t5 r6 t7 hm9 hw hT hF hM hl
      replace hM := hM.suc (fun _ => e_X10_leastBelow_9)
      refine lv_iload_n hx hb dX10_leastBelow_9 rfl (lv_at hl 3 rfl) ?_
      refine lv_aload_n hx hb dX10_leastBelow_10 rfl (lv_at hl 0 rfl) ?_
      refine tk_getA hC hK hw hT hinX10 kC_at158 (by decide) rfl 0 (by decide) (List.mem_cons_of_mem _ uw_6_6) rfl rfl dX10_leastBelow_11 ?_
      refine tk_geti hC hK hw hT hinX5 kC_at38 (by decide) rfl 10 (by decide) (List.mem_cons_of_mem _ uw_60_6) rfl rfl dX10_leastBelow_14 (fun x8 c9 rx8 tx8 => ?_)
      replace hM := hM.rd (sI_at c9)
      refine lv_icmp_ge (tgt := 36) hx hb dX10_leastBelow_17 (by decide) (fun c10 => ?_) (fun c10 => ?_)
      · have c10 : x8.toInt ≤ v9_3.toInt := wk_le.mp c10
        replace hM := hM.pos c10
        refine lv_iload_n hx hb dX10_leastBelow_36 rfl (lv_at hl 1 rfl) ?_
        refine lv_if_gt (tgt := 42) hx hb dX10_leastBelow_37 (by decide) (fun c11 => ?_) (fun c11 => ?_)
        · have c11 : (0 : Int) < a1.toInt := wk_lt.mp c11
          replace hM := hM.pos c11
          refine lv_aload_n hx hb dX10_leastBelow_42 rfl (lv_at hl 0 rfl) ?_
          refine lv_iload_n hx hb dX10_leastBelow_43 rfl (lv_at hl 1 rfl) ?_
          refine lv_iconst (v := 1) hx hb dX10_leastBelow_44 (by decide) ?_
          refine lv_isub hx hb dX10_leastBelow_45 ?_
          refine lv_topi (fun x12 ex12 => ?_)
          have ezx12 := ex12
          have ex12 : x12.toInt = a1.toInt - (1 : Int) := by rw [ex12]; exact wk_sub (show (-2147483648) ≤ a1.toInt - (1 : Int) by omega) (show a1.toInt - (1 : Int) ≤ 2147483647 by omega)
          replace hM := hM.lt ex12.symm
          refine lv_iload_n hx hb dX10_leastBelow_46 rfl (lv_at hl 2 rfl) ?_
          refine tk_Vi hC hK hw hT hA hE hSR kC_at158 (by decide) rfl (kz_X10_leastBelow_3 l adK adV dC dI cy ad B hB0 (Int.le_trans hB1 (by decide)) qr s1   x12 (show 0 ≤ x12.toInt by first | with_reducible assumption | omega) (show x12.toInt ≤ 10 by first | with_reducible assumption | omega) a2 (show 0 ≤ a2.toInt from r4) (show a2.toInt ≤ 8191 from t5) w1 H.size hT ) (cwV 2 hC.2.2.2.2 uV_RX10_72 rfl rfl rfl (by decide +kernel) ⟨Nat.le_of_ble_eq_true rfl, Nat.le_of_ble_eq_true rfl⟩) rfl hl.1 rfl (Nat.le_of_ble_eq_true rfl) dX10_leastBelow_47 (fun r13 w15 H locs hp14 hw => ?_)
          obtain ⟨hT, k16, hv22, hg21⟩ := hp14
          have hF := hF.tr k16 (by decide)
          have c23 := k16.gi kC_at38 (by decide) c9
          rcases hg21 with ⟨g17, g18⟩ | ⟨rfl, ⟨x19, c20, rx19, tx19⟩⟩
          · replace hM := hM.call hv22 rfl
            refine lv_istore_n (lv' := [(3, .int r13), (0, .ref (ad 158)), (1, .int a1), (2, .int a2)]) hx hb dX10_leastBelow_50 rfl hl (by decide) rfl (fun ls hl => ?_)
            refine lv_iload_n hx hb dX10_leastBelow_51 rfl (lv_at hl 0 rfl) ?_
            refine lv_iconst (v := (-1)) hx hb dX10_leastBelow_52 (by decide) ?_
            refine lv_icmp_eq (tgt := 60) hx hb dX10_leastBelow_53 (by decide) (fun c => absurd c (fun h => absurd (show r13.toInt = (-1 : Int) from wk_eq.mp h) (by omega))) (fun _ => ?_)
            replace hM := hM.neg (by omega)
            refine lv_iload_n hx hb dX10_leastBelow_56 rfl (lv_at hl 0 rfl) ?_
            refine lv_goto (tgt := 74) hx hb dX10_leastBelow_57 (by decide) ?_
            exact tk_iret hC hr hlocks hK ⟨hT, hF, hM.ret rfl, (Or.inl ⟨(show 0 ≤ r13.toInt by first | with_reducible assumption | omega), (show r13.toInt ≤ 8191 by first | with_reducible assumption | omega)⟩)⟩ hw dX10_leastBelow_74
          · replace hM := hM.call (r' := (-1)) hv22 (by decide)
            have ex19 : x19.toInt = x8.toInt := by rw [← c23.symm.trans c20]
            refine lv_istore_n (lv' := [(3, .int (-1)), (0, .ref (ad 158)), (1, .int a1), (2, .int a2)]) hx hb dX10_leastBelow_50 rfl hl (by decide) rfl (fun ls hl => ?_)
            refine lv_iload_n hx hb dX10_leastBelow_51 rfl (lv_at hl 0 rfl) ?_
            refine lv_iconst (v := (-1)) hx hb dX10_leastBelow_52 (by decide) ?_
            refine lv_icmp_eq (tgt := 60) hx hb dX10_leastBelow_53 (by decide) (fun _ => ?_) (fun c => absurd (by decide) c)
            replace hM := hM.pos (by decide)
            refine lv_aload_n hx hb dX10_leastBelow_60 rfl (lv_at hl 1 rfl) ?_
            refine lv_iload_n hx hb dX10_leastBelow_61 rfl (lv_at hl 2 rfl) ?_
            refine lv_iconst (v := 1) hx hb dX10_leastBelow_62 (by decide) ?_
            refine lv_isub hx hb dX10_leastBelow_63 ?_
            refine lv_topi (fun x24 ex24 => ?_)
            have ezx24 := ex24
            have ex24 : x24.toInt = a1.toInt - (1 : Int) := by rw [ex24]; exact wk_sub (show (-2147483648) ≤ a1.toInt - (1 : Int) by omega) (show a1.toInt - (1 : Int) ≤ 2147483647 by omega)
            replace hM := hM.lt ex24.symm
            refine lv_iload_n hx hb dX10_leastBelow_64 rfl (lv_at hl 3 rfl) ?_
            refine lv_iconst (v := 1) hx hb dX10_leastBelow_65 (by decide) ?_
            refine lv_iload_n hx hb dX10_leastBelow_66 rfl (lv_at hl 2 rfl) ?_
            refine lv_iconst (v := 1) hx hb dX10_leastBelow_67 (by decide) ?_
            refine lv_isub hx hb dX10_leastBelow_68 ?_
            refine lv_topi (fun x25 ex25 => ?_)
            have ezx25 := ex25
            have ex25 : x25.toInt = a1.toInt - (1 : Int) := by rw [ex25]; exact wk_sub (show (-2147483648) ≤ a1.toInt - (1 : Int) by omega) (show a1.toInt - (1 : Int) ≤ 2147483647 by omega)
            replace hM := hM.lt ex25.symm
            refine lv_ishl hx hb dX10_leastBelow_69 ?_
            refine lv_topi (fun x26 ex26 => ?_)
            have ezx26 := ex26
            have bx26 : 1 ≤ x26.toInt ∧ x26.toInt ≤ 1024 := by rw [ex26]; exact wk_shl1 10 (by decide) (by omega) (by omega)
            replace hM := hM.lt (o32_e (f := fun x y => x <<< (y &&& 31)) ezx26 (by decide) rfl)
            refine lv_ior hx hb dX10_leastBelow_70 ?_
            refine lv_topi (fun x27 ex27 => ?_)
            have ezx27 := ex27
            have bx27 : 0 ≤ x27.toInt ∧ x27.toInt < 8192 := by rw [ex27]; exact wk_or 13 (by decide) (by omega) (by omega) (by omega) (by omega)
            have mx27 : a2.toInt ≤ x27.toInt ∧ x26.toInt ≤ x27.toInt := by rw [ex27]; exact wk_orL 13 (by decide) (by omega) (by omega) (by omega) (by omega)
            replace hM := hM.lt (o32_e (f := fun x y => x ||| y) ezx27 rfl rfl)
            refine tk_Vi hC hK hw hT hA hE hSR kC_at158 (by decide) rfl (kz_X10_leastBelow_3 l adK adV dC dI cy ad B hB0 (Int.le_trans hB1 (by decide)) qr s1   x24 (show 0 ≤ x24.toInt by first | with_reducible assumption | omega) (show x24.toInt ≤ 10 by first | with_reducible assumption | omega) x27 (show 0 ≤ x27.toInt by first | with_reducible assumption | omega) (show x27.toInt ≤ 8191 by first | with_reducible assumption | omega) w15 H.size hT ) (cwV 2 hC.2.2.2.2 uV_RX10_72 rfl rfl rfl (by decide +kernel) ⟨Nat.le_of_ble_eq_true rfl, Nat.le_of_ble_eq_true rfl⟩) rfl hl.1 rfl (Nat.le_of_ble_eq_true rfl) dX10_leastBelow_71 (fun r28 w30 H locs hp29 hw => ?_)
            obtain ⟨hT, k31, hv37, hg36⟩ := hp29
            have hF := hF.tr k31 (by decide)
            have c38 := k31.gi kC_at38 (by decide) c23
            rcases hg36 with ⟨g32, g33⟩ | ⟨rfl, ⟨x34, c35, rx34, tx34⟩⟩
            · replace hM := hM.call hv37 rfl
              exact tk_iret hC hr hlocks hK ⟨hT, hF, hM.ret rfl, (Or.inl ⟨(show 0 ≤ r28.toInt by first | with_reducible assumption | omega), (show r28.toInt ≤ 8191 by first | with_reducible assumption | omega)⟩)⟩ hw dX10_leastBelow_74
            · replace hM := hM.call (r' := (-1)) hv37 (by decide)
              have ex34 : x34.toInt = x8.toInt := by rw [← c38.symm.trans c35]
              exact tk_iret hC hr hlocks hK ⟨hT, hF, hM.ret (by decide), (Or.inr ⟨rfl, ⟨x8, c38, (show 1 ≤ x8.toInt by first | with_reducible assumption | omega), (show x8.toInt ≤ 6 from tx8)⟩⟩)⟩ hw dX10_leastBelow_74
        · have c11 : a1.toInt ≤ (0 : Int) := wk_ltF c11
          replace hM := hM.neg (Int.not_lt.mpr c11)
          refine lv_iload_n hx hb dX10_leastBelow_40 rfl (lv_at hl 2 rfl) ?_
          exact tk_iret hC hr hlocks hK ⟨hT, hF, hM.ret rfl, (Or.inl ⟨(show 0 ≤ a2.toInt from r4), (show a2.toInt ≤ 8191 from t5)⟩)⟩ hw dX10_leastBelow_41
      · have c10 : v9_3.toInt < x8.toInt := wk_leF c10
        replace hM := hM.neg (Int.not_le.mpr c10)
        refine lv_aload_n hx hb dX10_leastBelow_20 rfl (lv_at hl 0 rfl) ?_
        refine lv_iload_n hx hb dX10_leastBelow_21 rfl (lv_at hl 3 rfl) ?_
        refine tk_Vi hC hK hw hT hA hE hSR kC_at158 (by decide) rfl (kz_X10_canDo_1 l adK adV dC dI cy ad B hB0 (Int.le_trans hB1 (by decide)) qr s1   v9_3 (show 0 ≤ v9_3.toInt from r6) (show v9_3.toInt ≤ 5 by first | with_reducible assumption | omega) w1 H.size hT ) (cwV 1 hC.2.2.2.2 uV_RX10_49 rfl rfl rfl (by decide +kernel) ⟨Nat.le_of_ble_eq_true rfl, Nat.le_of_ble_eq_true rfl⟩) rfl hl.1 rfl (Nat.le_of_ble_eq_true rfl) dX10_leastBelow_22 (fun r39 w41 H locs hp40 hw => ?_)
        obtain ⟨hT, k42, hv44, hg43⟩ := hp40
        have hF := hF.tr k42 (by decide)
        have c45 := k42.gi kC_at38 (by decide) c9
        rcases hg43 with rfl | rfl
        · replace hM := hM.call (r' := 0) hv44 (by decide)
          refine lv_if_ne (tgt := 30) hx hb dX10_leastBelow_25 (by decide) (fun c => absurd (by decide) c) (fun _ => ?_)
          replace hM := hM.neg (by decide)
          refine lv_iconst (v := (-1)) hx hb dX10_leastBelow_28 (by decide) ?_
          exact tk_iret hC hr hlocks hK ⟨hT, hF, hM.ret (by decide), (Or.inr ⟨rfl, ⟨x8, c45, (show 1 ≤ x8.toInt by first | with_reducible assumption | omega), (show x8.toInt ≤ 6 from tx8)⟩⟩)⟩ hw dX10_leastBelow_29
        · replace hM := hM.call (r' := 1) hv44 (by decide)
          refine lv_if_ne (tgt := 30) hx hb dX10_leastBelow_25 (by decide) (fun _ => ?_) (fun c => absurd c (by decide))
          replace hM := hM.pos (by decide)
          obtain ⟨x46, ex46⟩ : ∃ y : Int32, y = v9_3 + Int32.ofInt 1 := ⟨_, rfl⟩
          have erx46 := ex46
          refine lv_iinc (v := x46) (lv' := [(3, .int x46), (0, .ref (ad 158)), (1, .int a1), (2, .int a2)]) hx hb dX10_leastBelow_30 hl (k := 3) rfl ex46.symm (by decide) rfl (fun ls hl => ?_)
          have ex46 : x46.toInt = v9_3.toInt + 1 := by rw [ex46]; exact wk_add (y := 1) (show -2147483648 ≤ v9_3.toInt + 1 by omega) (show v9_3.toInt + 1 ≤ 2147483647 by omega)
          replace hM := hM.lt ex46.symm
          refine lv_goto (tgt := 9) hx hb dX10_leastBelow_33 (by decide) ?_
          exact ih9 x46 H locs ls w41 (show 0 ≤ a1.toInt from r2) (show a1.toInt ≤ 11 from t3) (show 0 ≤ a2.toInt from r4) (show a2.toInt ≤ 8191 from t5) (show 0 ≤ x46.toInt by first | with_reducible assumption | omega) (show x46.toInt ≤ 6 by first | with_reducible assumption | omega) (show (6 - x46.toInt).toNat < n9 by first | exact tn_lt hm9 (by omega) (by omega) | omega) hw hT hF hM (lv_sub hl [1, 2, 3, 0] rfl)
  have hM : TT (fun n => m_X10_leastBelow n 158 a1.toInt a2.toInt (sI w0)) (fun n => j_X10_leastBelow 158 n 1000 [a1.toInt, a2.toInt] (sI w0)) := TT.rf
  replace hM := hM.suc (fun _ => e_X10_leastBelow_e)
  refine lv_aload_n hx hb dX10_leastBelow_0 rfl (lv_at hl 0 rfl) ?_
  refine lv_iload_n hx hb dX10_leastBelow_1 rfl (lv_at hl 1 rfl) ?_
  refine lv_iload_n hx hb dX10_leastBelow_2 rfl (lv_at hl 2 rfl) ?_
  refine lv_iconst (v := (-1)) hx hb dX10_leastBelow_3 (by decide) ?_
  refine tk_Vv hC hK hw hT hA hE hSR kC_at158 (by decide) rfl (kz_X10_layRoads_1 l adK adV dC dI cy ad B hB0 (Int.le_trans hB1 (by decide)) qr s1   a1 (show 0 ≤ a1.toInt from ra1) (show a1.toInt ≤ 12 from Int.le_trans ta1 (by decide)) a2 (show 0 ≤ a2.toInt from ra2) (show a2.toInt ≤ 8191 from ta2) ((-1)) (by decide) (by decide) w0 s.heap.size hT ) (cwV 3 hC.2.2.2.2 uV_RX10_42 rfl rfl rfl (by decide +kernel) ⟨Nat.le_of_ble_eq_true rfl, Nat.le_of_ble_eq_true rfl⟩) rfl hl.1 rfl (Nat.le_of_ble_eq_true rfl) dX10_leastBelow_4 (fun w49 H locs hp48 hw => ?_)
  obtain ⟨hT, k50, hv52, hg51⟩ := hp48
  try simp only [show ((-1) : Int32).toInt = (-1) by decide] at hv52
  have hF := hF.tr k50 (by decide)
  clear hg51
  replace hM := hM.call hv52 rfl
  refine lv_iconst (v := 0) hx hb dX10_leastBelow_7 (by decide) ?_
  refine lv_istore_n (lv' := [(3, .int 0), (0, .ref (ad 158)), (1, .int a1), (2, .int a2)]) hx hb dX10_leastBelow_8 rfl hl (by decide) rfl (fun ls hl => ?_)
  exact L9 ((6 - (0 : Int)).toNat + 1) 0 H locs ls w49 (show 0 ≤ a1.toInt from ra1) (show a1.toInt ≤ 11 from ta1) (show 0 ≤ a2.toInt from ra2) (show a2.toInt ≤ 8191 from ta2) (by decide) (by decide) (Nat.lt_succ_self _) hw hT hF hM (lv_sub hl [1, 2, 3, 0] rfl)
abbrev Pz_X10_leastBelow_1 (ad : Nat → Nat) (cy : Nat → ClassId) (B : Int) (qr : Nat) (s1 : Int) (a1 : Int32) (a2 : Int32) (w0 : va_W) : Int32 → va_W → Prop := fun r u => TW ksC ad cy B qr s1 u ∧ FE ksC [(51, 0, 10)] w0 u ∧ Ev (fun n => m_X10_leastBelow n 158 a1.toInt a2.toInt (sI w0)) (r.toInt, sI u) ∧ ((0 ≤ r.toInt ∧ r.toInt ≤ 8191) ∨ (r = (-1) ∧ (∃ y : Int32, gi u 38 10 = y ∧ 1 ≤ y.toInt ∧ y.toInt ≤ 6)))
set_option maxHeartbeats 4000000 in
set_option maxRecDepth 100000 in
theorem kz_X10_leastBelow_1 (l : Launch) (adK adV : Nat → Nat) (dC : Nat → ClassId) (dI : Nat → Nat → Nat) (cy : Nat → ClassId) (ad : Nat → Nat) (B : Int) (hB0 : 2147483648 ≤ B) (hB1 : B ≤ 1152921504606846976) (qr : Nat) (s1 : Int)  (a1 : Int32) (ra1 : 0 ≤ a1.toInt) (ta1 : a1.toInt ≤ 12) (a2 : Int32) (ra2 : 0 ≤ a2.toInt) (ta2 : a2.toInt ≤ 8191) (w0 : va_W) (sz : Nat) (hT : TW ksC ad cy B qr s1 w0)  : Met l yX10_leastBelow (wu yX10_leastBelow cX10_leastBelow 4 (some .int)) ({ frames := 15, cells := 0, slots := 0, locals := 335 }) (va_Pc [.ref (ad 158), .int a1, .int a2] (wpreS adK adV dC dI cy sz w0)) (va_Qi (Pz_X10_leastBelow_1 ad cy B qr s1 a1 a2 w0) (fun u : va_W => wpost dC dI cy (va_A w0 sz) u) (va_A w0 sz)) 0 0 (va_A w0 sz) := by
  refine Met.ofW (cc := cX10_leastBelow) (maxL := 4) (ret := (some .int)) (by decide) rfl ?_
  intro p e s m args below meth c s₁ Bk hml hv
  obtain ⟨rfl, ⟨hsz, hP, hK, hD0⟩, hE, hSR⟩ := hv
  have hx := Bk.exec
  have hb := Bk.bytes
  have hr := Bk.returns
  have hlocks := Bk.notSynchronized
  have hC : CallFix p m c cX10_leastBelow 4 s _ (wu yX10_leastBelow cX10_leastBelow 4 (some .int)) RX10 := ⟨hx, hb, hml, findClass_of_methodNamed Bk.named, atoms_spec (ws := (wu yX10_leastBelow cX10_leastBelow 4 (some .int))) Bk.pre⟩
  subst hsz
  have hD := hD0.self (sz := s.heap.size)
  generalize hAe : va_A w0 s.heap.size = A at hD hE ⊢
  have hA : ∀ q : Nat, s.heap.size ≤ q → A q := fun q h => by rw [← hAe]; exact Or.inr h
  have hw : Wd dC dI A s.heap s.heap [] w0 := ⟨hP, hD, va_S.rf⟩
  have hF : FE ksC [(51, 0, 10)] w0 w0 := FE.rf
  have hl := lv_entry ([.ref (ad 158), .int a1, .int a2]) (n := 4) (Nat.le_of_ble_eq_true rfl)
  rw [lg_entry_eq]
  generalize (lg_sl ([.ref (ad 158), .int a1, .int a2]) ++ List.replicate (4 - (lg_sl ([.ref (ad 158), .int a1, .int a2])).length) Slot.unset).toArray = ls at hl ⊢
  have hl : lv_has ls 4 [(0, .ref (ad 158)), (1, .int a1), (2, .int a2)] := hl
  generalize hloc : ([] : List Loc) = locs at hw ⊢
  have hinX10 : ∀ w ∈ u_ws RX10 TX10 5, w ∈ (wu yX10_leastBelow cX10_leastBelow 4 (some .int)) := fun _ h => List.mem_cons_of_mem _ (up_81 h)
  have hinX5 : ∀ w ∈ u_ws RX5 TX5 14, w ∈ (wu yX10_leastBelow cX10_leastBelow 4 (some .int)) := fun _ h => List.mem_cons_of_mem _ (up_76 h)
  have L9 : ∀ (n9 : Nat) (v9_3 : Int32) (H : Heap) (locs : List Loc) (ls : Array Slot) (w1 : va_W), 0 ≤ a1.toInt → a1.toInt ≤ 12 → 0 ≤ a2.toInt → a2.toInt ≤ 8191 → 0 ≤ v9_3.toInt → v9_3.toInt ≤ 6 → (6 - v9_3.toInt).toNat < n9 → Wd dC dI A s.heap H locs w1 → TW ksC ad cy B qr s1 w1 → FE ksC [(51, 0, 10)] w0 w1 → TT (fun n => m_X10_leastBelow n 158 a1.toInt a2.toInt (sI w0)) (fun n => j_X10_leastBelow 158 n 1009 [a1.toInt, a2.toInt, v9_3.toInt] (sI w1)) → lv_has ls 4 [(0, .ref (ad 158)), (1, .int a1), (2, .int a2), (3, .int v9_3)] → W p l e ({ frames := 15, cells := 0, slots := 0, locals := 335 }) s m (List.toArray [.ref (ad 158), .int a1, .int a2]) below meth c H locs 0 0 (MQ below (va_Qi (Pz_X10_leastBelow_1 ad cy B qr s1 a1 a2 w0) (fun u : va_W => wpost dC dI cy A u) A) (List.toArray [.ref (ad 158), .int a1, .int a2]) s 0 0 A) (F0 m 9 ls []) := by
    intro n9
    induction n9 with
    | zero => intro v9_3 H locs ls w1 r2 t3 r4 t5 r6 t7 hm9 hw hT hF hM hl; omega
    | succ n9 ih9 =>
      intro v9_3 H locs ls w1 r2 t3 r4 t5 r6 t7 hm9 hw hT hF hM hl
      replace hM := hM.suc (fun _ => e_X10_leastBelow_9)
      refine lv_iload_n hx hb dX10_leastBelow_9 rfl (lv_at hl 3 rfl) ?_
      refine lv_aload_n hx hb dX10_leastBelow_10 rfl (lv_at hl 0 rfl) ?_
      refine tk_getA hC hK hw hT hinX10 kC_at158 (by decide) rfl 0 (by decide) (List.mem_cons_of_mem _ uw_6_6) rfl rfl dX10_leastBelow_11 ?_
      refine tk_geti hC hK hw hT hinX5 kC_at38 (by decide) rfl 10 (by decide) (List.mem_cons_of_mem _ uw_60_6) rfl rfl dX10_leastBelow_14 (fun x8 c9 rx8 tx8 => ?_)
      replace hM := hM.rd (sI_at c9)
      refine lv_icmp_ge (tgt := 36) hx hb dX10_leastBelow_17 (by decide) (fun c10 => ?_) (fun c10 => ?_)
      · have c10 : x8.toInt ≤ v9_3.toInt := wk_le.mp c10
        replace hM := hM.pos c10
        refine lv_iload_n hx hb dX10_leastBelow_36 rfl (lv_at hl 1 rfl) ?_
        refine lv_if_gt (tgt := 42) hx hb dX10_leastBelow_37 (by decide) (fun c11 => ?_) (fun c11 => ?_)
        · have c11 : (0 : Int) < a1.toInt := wk_lt.mp c11
          replace hM := hM.pos c11
          refine lv_aload_n hx hb dX10_leastBelow_42 rfl (lv_at hl 0 rfl) ?_
          refine lv_iload_n hx hb dX10_leastBelow_43 rfl (lv_at hl 1 rfl) ?_
          refine lv_iconst (v := 1) hx hb dX10_leastBelow_44 (by decide) ?_
          refine lv_isub hx hb dX10_leastBelow_45 ?_
          refine lv_topi (fun x12 ex12 => ?_)
          have ezx12 := ex12
          have ex12 : x12.toInt = a1.toInt - (1 : Int) := by rw [ex12]; exact wk_sub (show (-2147483648) ≤ a1.toInt - (1 : Int) by omega) (show a1.toInt - (1 : Int) ≤ 2147483647 by omega)
          replace hM := hM.lt ex12.symm
          refine lv_iload_n hx hb dX10_leastBelow_46 rfl (lv_at hl 2 rfl) ?_
          refine tk_Vi hC hK hw hT hA hE hSR kC_at158 (by decide) rfl (kz_X10_leastBelow_2 l adK adV dC dI cy ad B hB0 (Int.le_trans hB1 (by decide)) qr s1   x12 (show 0 ≤ x12.toInt by first | with_reducible assumption | omega) (show x12.toInt ≤ 11 by first | with_reducible assumption | omega) a2 (show 0 ≤ a2.toInt from r4) (show a2.toInt ≤ 8191 from t5) w1 H.size hT ) (cwV 2 hC.2.2.2.2 uV_RX10_72 rfl rfl rfl (by decide +kernel) ⟨Nat.le_of_ble_eq_true rfl, Nat.le_of_ble_eq_true rfl⟩) rfl hl.1 rfl (Nat.le_of_ble_eq_true rfl) dX10_leastBelow_47 (fun r13 w15 H locs hp14 hw => ?_)
          obtain ⟨hT, k16, hv22, hg21⟩ := hp14
          have hF := hF.tr k16 (by decide)
          have c23 := k16.gi kC_at38 (by decide) c9
          rcases hg21 with ⟨g17, g18⟩ | ⟨rfl, ⟨x19, c20, rx19, tx19⟩⟩
          · replace hM := hM.call hv22 rfl
            refine lv_istore_n (lv' := [(3, .int r13), (0, .ref (ad 158)), (1, .int a1), (2, .int a2)]) hx hb dX10_leastBelow_50 rfl hl (by decide) rfl (fun ls hl => ?_)
            refine lv_iload_n hx hb dX10_leastBelow_51 rfl (lv_at hl 0 rfl) ?_
            refine lv_iconst (v := (-1)) hx hb dX10_leastBelow_52 (by decide) ?_
            refine lv_icmp_eq (tgt := 60) hx hb dX10_leastBelow_53 (by decide) (fun c => absurd c (fun h => absurd (show r13.toInt = (-1 : Int) from wk_eq.mp h) (by omega))) (fun _ => ?_)
            replace hM := hM.neg (by omega)
            refine lv_iload_n hx hb dX10_leastBelow_56 rfl (lv_at hl 0 rfl) ?_
            refine lv_goto (tgt := 74) hx hb dX10_leastBelow_57 (by decide) ?_
            exact tk_iret hC hr hlocks hK ⟨hT, hF, hM.ret rfl, (Or.inl ⟨(show 0 ≤ r13.toInt by first | with_reducible assumption | omega), (show r13.toInt ≤ 8191 by first | with_reducible assumption | omega)⟩)⟩ hw dX10_leastBelow_74
          · replace hM := hM.call (r' := (-1)) hv22 (by decide)
            have ex19 : x19.toInt = x8.toInt := by rw [← c23.symm.trans c20]
            refine lv_istore_n (lv' := [(3, .int (-1)), (0, .ref (ad 158)), (1, .int a1), (2, .int a2)]) hx hb dX10_leastBelow_50 rfl hl (by decide) rfl (fun ls hl => ?_)
            refine lv_iload_n hx hb dX10_leastBelow_51 rfl (lv_at hl 0 rfl) ?_
            refine lv_iconst (v := (-1)) hx hb dX10_leastBelow_52 (by decide) ?_
            refine lv_icmp_eq (tgt := 60) hx hb dX10_leastBelow_53 (by decide) (fun _ => ?_) (fun c => absurd (by decide) c)
            replace hM := hM.pos (by decide)
            refine lv_aload_n hx hb dX10_leastBelow_60 rfl (lv_at hl 1 rfl) ?_
            refine lv_iload_n hx hb dX10_leastBelow_61 rfl (lv_at hl 2 rfl) ?_
            refine lv_iconst (v := 1) hx hb dX10_leastBelow_62 (by decide) ?_
            refine lv_isub hx hb dX10_leastBelow_63 ?_
            refine lv_topi (fun x24 ex24 => ?_)
            have ezx24 := ex24
            have ex24 : x24.toInt = a1.toInt - (1 : Int) := by rw [ex24]; exact wk_sub (show (-2147483648) ≤ a1.toInt - (1 : Int) by omega) (show a1.toInt - (1 : Int) ≤ 2147483647 by omega)
            replace hM := hM.lt ex24.symm
            refine lv_iload_n hx hb dX10_leastBelow_64 rfl (lv_at hl 3 rfl) ?_
            refine lv_iconst (v := 1) hx hb dX10_leastBelow_65 (by decide) ?_
            refine lv_iload_n hx hb dX10_leastBelow_66 rfl (lv_at hl 2 rfl) ?_
            refine lv_iconst (v := 1) hx hb dX10_leastBelow_67 (by decide) ?_
            refine lv_isub hx hb dX10_leastBelow_68 ?_
            refine lv_topi (fun x25 ex25 => ?_)
            have ezx25 := ex25
            have ex25 : x25.toInt = a1.toInt - (1 : Int) := by rw [ex25]; exact wk_sub (show (-2147483648) ≤ a1.toInt - (1 : Int) by omega) (show a1.toInt - (1 : Int) ≤ 2147483647 by omega)
            replace hM := hM.lt ex25.symm
            refine lv_ishl hx hb dX10_leastBelow_69 ?_
            refine lv_topi (fun x26 ex26 => ?_)
            have ezx26 := ex26
            have bx26 : 1 ≤ x26.toInt ∧ x26.toInt ≤ 2048 := by rw [ex26]; exact wk_shl1 11 (by decide) (by omega) (by omega)
            replace hM := hM.lt (o32_e (f := fun x y => x <<< (y &&& 31)) ezx26 (by decide) rfl)
            refine lv_ior hx hb dX10_leastBelow_70 ?_
            refine lv_topi (fun x27 ex27 => ?_)
            have ezx27 := ex27
            have bx27 : 0 ≤ x27.toInt ∧ x27.toInt < 8192 := by rw [ex27]; exact wk_or 13 (by decide) (by omega) (by omega) (by omega) (by omega)
            have mx27 : a2.toInt ≤ x27.toInt ∧ x26.toInt ≤ x27.toInt := by rw [ex27]; exact wk_orL 13 (by decide) (by omega) (by omega) (by omega) (by omega)
            replace hM := hM.lt (o32_e (f := fun x y => x ||| y) ezx27 rfl rfl)
            refine tk_Vi hC hK hw hT hA hE hSR kC_at158 (by decide) rfl (kz_X10_leastBelow_2 l adK adV dC dI cy ad B hB0 (Int.le_trans hB1 (by decide)) qr s1   x24 (show 0 ≤ x24.toInt by first | with_reducible assumption | omega) (show x24.toInt ≤ 11 by first | with_reducible assumption | omega) x27 (show 0 ≤ x27.toInt by first | with_reducible assumption | omega) (show x27.toInt ≤ 8191 by first | with_reducible assumption | omega) w15 H.size hT ) (cwV 2 hC.2.2.2.2 uV_RX10_72 rfl rfl rfl (by decide +kernel) ⟨Nat.le_of_ble_eq_true rfl, Nat.le_of_ble_eq_true rfl⟩) rfl hl.1 rfl (Nat.le_of_ble_eq_true rfl) dX10_leastBelow_71 (fun r28 w30 H locs hp29 hw => ?_)
            obtain ⟨hT, k31, hv37, hg36⟩ := hp29
            have hF := hF.tr k31 (by decide)
            have c38 := k31.gi kC_at38 (by decide) c23
            rcases hg36 with ⟨g32, g33⟩ | ⟨rfl, ⟨x34, c35, rx34, tx34⟩⟩
            · replace hM := hM.call hv37 rfl
              exact tk_iret hC hr hlocks hK ⟨hT, hF, hM.ret rfl, (Or.inl ⟨(show 0 ≤ r28.toInt by first | with_reducible assumption | omega), (show r28.toInt ≤ 8191 by first | with_reducible assumption | omega)⟩)⟩ hw dX10_leastBelow_74
            · replace hM := hM.call (r' := (-1)) hv37 (by decide)
              have ex34 : x34.toInt = x8.toInt := by rw [← c38.symm.trans c35]
              exact tk_iret hC hr hlocks hK ⟨hT, hF, hM.ret (by decide), (Or.inr ⟨rfl, ⟨x8, c38, (show 1 ≤ x8.toInt by first | with_reducible assumption | omega), (show x8.toInt ≤ 6 from tx8)⟩⟩)⟩ hw dX10_leastBelow_74
        · have c11 : a1.toInt ≤ (0 : Int) := wk_ltF c11
          replace hM := hM.neg (Int.not_lt.mpr c11)
          refine lv_iload_n hx hb dX10_leastBelow_40 rfl (lv_at hl 2 rfl) ?_
          exact tk_iret hC hr hlocks hK ⟨hT, hF, hM.ret rfl, (Or.inl ⟨(show 0 ≤ a2.toInt from r4), (show a2.toInt ≤ 8191 from t5)⟩)⟩ hw dX10_leastBelow_41
      · have c10 : v9_3.toInt < x8.toInt := wk_leF c10
        replace hM := hM.neg (Int.not_le.mpr c10)
        refine lv_aload_n hx hb dX10_leastBelow_20 rfl (lv_at hl 0 rfl) ?_
        refine lv_iload_n hx hb dX10_leastBelow_21 rfl (lv_at hl 3 rfl) ?_
        refine tk_Vi hC hK hw hT hA hE hSR kC_at158 (by decide) rfl (kz_X10_canDo_1 l adK adV dC dI cy ad B hB0 (Int.le_trans hB1 (by decide)) qr s1   v9_3 (show 0 ≤ v9_3.toInt from r6) (show v9_3.toInt ≤ 5 by first | with_reducible assumption | omega) w1 H.size hT ) (cwV 1 hC.2.2.2.2 uV_RX10_49 rfl rfl rfl (by decide +kernel) ⟨Nat.le_of_ble_eq_true rfl, Nat.le_of_ble_eq_true rfl⟩) rfl hl.1 rfl (Nat.le_of_ble_eq_true rfl) dX10_leastBelow_22 (fun r39 w41 H locs hp40 hw => ?_)
        obtain ⟨hT, k42, hv44, hg43⟩ := hp40
        have hF := hF.tr k42 (by decide)
        have c45 := k42.gi kC_at38 (by decide) c9
        rcases hg43 with rfl | rfl
        · replace hM := hM.call (r' := 0) hv44 (by decide)
          refine lv_if_ne (tgt := 30) hx hb dX10_leastBelow_25 (by decide) (fun c => absurd (by decide) c) (fun _ => ?_)
          replace hM := hM.neg (by decide)
          refine lv_iconst (v := (-1)) hx hb dX10_leastBelow_28 (by decide) ?_
          exact tk_iret hC hr hlocks hK ⟨hT, hF, hM.ret (by decide), (Or.inr ⟨rfl, ⟨x8, c45, (show 1 ≤ x8.toInt by first | with_reducible assumption | omega), (show x8.toInt ≤ 6 from tx8)⟩⟩)⟩ hw dX10_leastBelow_29
        · replace hM := hM.call (r' := 1) hv44 (by decide)
          refine lv_if_ne (tgt := 30) hx hb dX10_leastBelow_25 (by decide) (fun _ => ?_) (fun c => absurd c (by decide))
          replace hM := hM.pos (by decide)
          obtain ⟨x46, ex46⟩ : ∃ y : Int32, y = v9_3 + Int32.ofInt 1 := ⟨_, rfl⟩
          have erx46 := ex46
          refine lv_iinc (v := x46) (lv' := [(3, .int x46), (0, .ref (ad 158)), (1, .int a1), (2, .int a2)]) hx hb dX10_leastBelow_30 hl (k := 3) rfl ex46.symm (by decide) rfl (fun ls hl => ?_)
          have ex46 : x46.toInt = v9_3.toInt + 1 := by rw [ex46]; exact wk_add (y := 1) (show -2147483648 ≤ v9_3.toInt + 1 by omega) (show v9_3.toInt + 1 ≤ 2147483647 by omega)
          replace hM := hM.lt ex46.symm
          refine lv_goto (tgt := 9) hx hb dX10_leastBelow_33 (by decide) ?_
          exact ih9 x46 H locs ls w41 (show 0 ≤ a1.toInt from r2) (show a1.toInt ≤ 12 from t3) (show 0 ≤ a2.toInt from r4) (show a2.toInt ≤ 8191 from t5) (show 0 ≤ x46.toInt by first | with_reducible assumption | omega) (show x46.toInt ≤ 6 by first | with_reducible assumption | omega) (show (6 - x46.toInt).toNat < n9 by first | exact tn_lt hm9 (by omega) (by omega) | omega) hw hT hF hM (lv_sub hl [1, 2, 3, 0] rfl)
  have hM : TT (fun n => m_X10_leastBelow n 158 a1.toInt a2.toInt (sI w0)) (fun n => j_X10_leastBelow 158 n 1000 [a1.toInt, a2.toInt] (sI w0)) := TT.rf
  replace hM := hM.suc (fun _ => e_X10_leastBelow_e)
  refine lv_aload_n hx hb dX10_leastBelow_0 rfl (lv_at hl 0 rfl) ?_
  refine lv_iload_n hx hb dX10_leastBelow_1 rfl (lv_at hl 1 rfl) ?_
  refine lv_iload_n hx hb dX10_leastBelow_2 rfl (lv_at hl 2 rfl) ?_
  refine lv_iconst (v := (-1)) hx hb dX10_leastBelow_3 (by decide) ?_
  refine tk_Vv hC hK hw hT hA hE hSR kC_at158 (by decide) rfl (kz_X10_layRoads_1 l adK adV dC dI cy ad B hB0 (Int.le_trans hB1 (by decide)) qr s1   a1 (show 0 ≤ a1.toInt from ra1) (show a1.toInt ≤ 12 from ta1) a2 (show 0 ≤ a2.toInt from ra2) (show a2.toInt ≤ 8191 from ta2) ((-1)) (by decide) (by decide) w0 s.heap.size hT ) (cwV 3 hC.2.2.2.2 uV_RX10_42 rfl rfl rfl (by decide +kernel) ⟨Nat.le_of_ble_eq_true rfl, Nat.le_of_ble_eq_true rfl⟩) rfl hl.1 rfl (Nat.le_of_ble_eq_true rfl) dX10_leastBelow_4 (fun w49 H locs hp48 hw => ?_)
  obtain ⟨hT, k50, hv52, hg51⟩ := hp48
  try simp only [show ((-1) : Int32).toInt = (-1) by decide] at hv52
  have hF := hF.tr k50 (by decide)
  clear hg51
  replace hM := hM.call hv52 rfl
  refine lv_iconst (v := 0) hx hb dX10_leastBelow_7 (by decide) ?_
  refine lv_istore_n (lv' := [(3, .int 0), (0, .ref (ad 158)), (1, .int a1), (2, .int a2)]) hx hb dX10_leastBelow_8 rfl hl (by decide) rfl (fun ls hl => ?_)
  exact L9 ((6 - (0 : Int)).toNat + 1) 0 H locs ls w49 (show 0 ≤ a1.toInt from ra1) (show a1.toInt ≤ 12 from ta1) (show 0 ≤ a2.toInt from ra2) (show a2.toInt ≤ 8191 from ta2) (by decide) (by decide) (Nat.lt_succ_self _) hw hT hF hM (lv_sub hl [1, 2, 3, 0] rfl)
abbrev Pz_X10_findLeast_1 (ad : Nat → Nat) (cy : Nat → ClassId) (B : Int) (qr : Nat) (s1 : Int)  (w0 : va_W) : Int32 → va_W → Prop := fun r u => TW ksC ad cy B qr s1 u ∧ FE ksC [(51, 0, 10)] w0 u ∧ Ev (fun n => m_X10_findLeast n 158 (sI w0)) (r.toInt, sI u) ∧ ((0 ≤ r.toInt ∧ r.toInt ≤ 8191) ∨ (r = (-1) ∧ (∃ y : Int32, gi u 38 10 = y ∧ 1 ≤ y.toInt ∧ y.toInt ≤ 6)))
set_option maxHeartbeats 4000000 in
set_option maxRecDepth 100000 in
theorem kz_X10_findLeast_1 (l : Launch) (adK adV : Nat → Nat) (dC : Nat → ClassId) (dI : Nat → Nat → Nat) (cy : Nat → ClassId) (ad : Nat → Nat) (B : Int) (hB0 : 2147483648 ≤ B) (hB1 : B ≤ 1152921504606846976) (qr : Nat) (s1 : Int)   (w0 : va_W) (sz : Nat) (hT : TW ksC ad cy B qr s1 w0)  : Met l yX10_findLeast (wu yX10_findLeast cX10_findLeast 1 (some .int)) ({ frames := 16, cells := 0, slots := 0, locals := 358 }) (va_Pc [.ref (ad 158)] (wpreS adK adV dC dI cy sz w0)) (va_Qi (Pz_X10_findLeast_1 ad cy B qr s1  w0) (fun u : va_W => wpost dC dI cy (va_A w0 sz) u) (va_A w0 sz)) 0 0 (va_A w0 sz) := by
  refine Met.ofW (cc := cX10_findLeast) (maxL := 1) (ret := (some .int)) (by decide) rfl ?_
  intro p e s m args below meth c s₁ Bk hml hv
  obtain ⟨rfl, ⟨hsz, hP, hK, hD0⟩, hE, hSR⟩ := hv
  have hx := Bk.exec
  have hb := Bk.bytes
  have hr := Bk.returns
  have hlocks := Bk.notSynchronized
  have hC : CallFix p m c cX10_findLeast 1 s _ (wu yX10_findLeast cX10_findLeast 1 (some .int)) RX10 := ⟨hx, hb, hml, findClass_of_methodNamed Bk.named, atoms_spec (ws := (wu yX10_findLeast cX10_findLeast 1 (some .int))) Bk.pre⟩
  subst hsz
  have hD := hD0.self (sz := s.heap.size)
  generalize hAe : va_A w0 s.heap.size = A at hD hE ⊢
  have hA : ∀ q : Nat, s.heap.size ≤ q → A q := fun q h => by rw [← hAe]; exact Or.inr h
  have hw : Wd dC dI A s.heap s.heap [] w0 := ⟨hP, hD, va_S.rf⟩
  have hF : FE ksC [(51, 0, 10)] w0 w0 := FE.rf
  have hl := lv_entry ([.ref (ad 158)]) (n := 1) (Nat.le_of_ble_eq_true rfl)
  rw [lg_entry_eq]
  generalize (lg_sl ([.ref (ad 158)]) ++ List.replicate (1 - (lg_sl ([.ref (ad 158)])).length) Slot.unset).toArray = ls at hl ⊢
  have hl : lv_has ls 1 [(0, .ref (ad 158))] := hl
  generalize hloc : ([] : List Loc) = locs at hw ⊢
  have hinX10 : ∀ w ∈ u_ws RX10 TX10 5, w ∈ (wu yX10_findLeast cX10_findLeast 1 (some .int)) := fun _ h => List.mem_cons_of_mem _ (up_81 h)
  have hM : TT (fun n => m_X10_findLeast n 158 (sI w0)) (fun n => m_X10_findLeast n 158 (sI w0)) := TT.rf
  refine lv_aload_n hx hb dX10_findLeast_0 rfl (lv_at hl 0 rfl) ?_
  refine lv_aload_n hx hb dX10_findLeast_1 rfl (lv_at hl 0 rfl) ?_
  refine tk_geti hC hK hw hT hinX10 kC_at158 (by decide) rfl 4 (by decide) (List.mem_cons_of_mem _ uw_59_23) rfl rfl dX10_findLeast_2 (fun x1 c2 rx1 tx1 => ?_)
  replace hM := hM.rd (sI_at c2)
  refine lv_iconst (v := 0) hx hb dX10_findLeast_5 (by decide) ?_
  refine tk_Vi hC hK hw hT hA hE hSR kC_at158 (by decide) rfl (kz_X10_leastBelow_1 l adK adV dC dI cy ad B hB0 (Int.le_trans hB1 (by decide)) qr s1   x1 (show 0 ≤ x1.toInt from rx1) (show x1.toInt ≤ 12 from tx1) 0 (by decide) (by decide) w0 s.heap.size hT ) (cwV 2 hC.2.2.2.2 uV_RX10_72 rfl rfl rfl (by decide +kernel) ⟨Nat.le_of_ble_eq_true rfl, Nat.le_of_ble_eq_true rfl⟩) rfl hl.1 rfl (Nat.le_of_ble_eq_true rfl) dX10_findLeast_6 (fun r3 w5 H locs hp4 hw => ?_)
  obtain ⟨hT, k6, hv12, hg11⟩ := hp4
  try simp only [show (0 : Int32).toInt = 0 by decide] at hv12
  have hF := hF.tr k6 (by decide)
  have c13 := k6.gi kC_at158 (by decide) c2
  rcases hg11 with ⟨g7, g8⟩ | ⟨rfl, ⟨x9, c10, rx9, tx9⟩⟩
  · replace hM := hM.call hv12 rfl
    exact tk_iret hC hr hlocks hK ⟨hT, hF, hM.ret rfl, (Or.inl ⟨(show 0 ≤ r3.toInt by first | with_reducible assumption | omega), (show r3.toInt ≤ 8191 by first | with_reducible assumption | omega)⟩)⟩ hw dX10_findLeast_9
  · replace hM := hM.call (r' := (-1)) hv12 (by decide)
    exact tk_iret hC hr hlocks hK ⟨hT, hF, hM.ret (by decide), (Or.inr ⟨rfl, ⟨x9, c10, (show 1 ≤ x9.toInt by first | with_reducible assumption | omega), (show x9.toInt ≤ 6 by first | with_reducible assumption | omega)⟩⟩)⟩ hw dX10_findLeast_9
abbrev Pz_X11_ways_1 (ad : Nat → Nat) (cy : Nat → ClassId) (B : Int) (qr : Nat) (s1 : Int) (a1 : Int32) (a2 : Int32) (w0 : va_W) : Int32 → va_W → Prop := fun r u => TW ksC ad cy B qr s1 u ∧ FE ksC [(10, 4, 4), (50, 0, 12), (51, 0, 10)] w0 u ∧ Ev (fun n => m_X11_ways n 0 a1.toInt a2.toInt (sI w0)) (r.toInt, sI u) ∧ ((r = (-2) ∧ 0 ≤ a1.toInt ∧ a1.toInt ≤ 6 ∧ 0 ≤ a2.toInt ∧ a2.toInt ≤ 0 ∧ (∃ y : Int32, gi u 39 8 = y ∧ 1 ≤ y.toInt ∧ y.toInt ≤ 10)) ∨ (0 ≤ r.toInt ∧ r.toInt ≤ 8191 ∧ 0 ≤ a1.toInt ∧ a1.toInt ≤ 6 ∧ 0 ≤ a2.toInt ∧ a2.toInt ≤ 1 ∧ (∃ y : Int32, gi u 39 8 = y ∧ 1 ≤ y.toInt ∧ y.toInt ≤ 10)) ∨ (r = (-1)))
set_option maxHeartbeats 4000000 in
set_option maxRecDepth 100000 in
theorem kz_X11_ways_1 (l : Launch) (adK adV : Nat → Nat) (dC : Nat → ClassId) (dI : Nat → Nat → Nat) (cy : Nat → ClassId) (ad : Nat → Nat) (B : Int) (hB0 : 2147483648 ≤ B) (hB1 : B ≤ 1152921504606846976) (qr : Nat) (s1 : Int)  (a1 : Int32) (a2 : Int32) (w0 : va_W) (sz : Nat) (hT : TW ksC ad cy B qr s1 w0)  : Met l yX11_ways (wu yX11_ways cX11_ways 4 (some .int)) ({ frames := 17, cells := 0, slots := 0, locals := 378 }) (va_Pc [.ref (ad 0), .int a1, .int a2] (wpreS adK adV dC dI cy sz w0)) (va_Qi (Pz_X11_ways_1 ad cy B qr s1 a1 a2 w0) (fun u : va_W => wpost dC dI cy (va_A w0 sz) u) (va_A w0 sz)) 0 0 (va_A w0 sz) := by
  refine Met.ofW (cc := cX11_ways) (maxL := 4) (ret := (some .int)) (by decide) rfl ?_
  intro p e s m args below meth c s₁ Bk hml hv
  obtain ⟨rfl, ⟨hsz, hP, hK, hD0⟩, hE, hSR⟩ := hv
  have hx := Bk.exec
  have hb := Bk.bytes
  have hr := Bk.returns
  have hlocks := Bk.notSynchronized
  have hC : CallFix p m c cX11_ways 4 s _ (wu yX11_ways cX11_ways 4 (some .int)) RX11 := ⟨hx, hb, hml, findClass_of_methodNamed Bk.named, atoms_spec (ws := (wu yX11_ways cX11_ways 4 (some .int))) Bk.pre⟩
  subst hsz
  have hD := hD0.self (sz := s.heap.size)
  generalize hAe : va_A w0 s.heap.size = A at hD hE ⊢
  have hA : ∀ q : Nat, s.heap.size ≤ q → A q := fun q h => by rw [← hAe]; exact Or.inr h
  have hw : Wd dC dI A s.heap s.heap [] w0 := ⟨hP, hD, va_S.rf⟩
  have hF : FE ksC [(10, 4, 4), (50, 0, 12), (51, 0, 10)] w0 w0 := FE.rf
  have hl := lv_entry ([.ref (ad 0), .int a1, .int a2]) (n := 4) (Nat.le_of_ble_eq_true rfl)
  rw [lg_entry_eq]
  generalize (lg_sl ([.ref (ad 0), .int a1, .int a2]) ++ List.replicate (4 - (lg_sl ([.ref (ad 0), .int a1, .int a2])).length) Slot.unset).toArray = ls at hl ⊢
  have hl : lv_has ls 4 [(0, .ref (ad 0)), (1, .int a1), (2, .int a2)] := hl
  generalize hloc : ([] : List Loc) = locs at hw ⊢
  have hinX11 : ∀ w ∈ u_ws RX11 TX11 13, w ∈ (wu yX11_ways cX11_ways 4 (some .int)) := fun _ h => List.mem_cons_of_mem _ (up_70 h)
  have J26 : ∀ (f26_39_8 : Int32) (H : Heap) (locs : List Loc) (ls : Array Slot) (w1 : va_W), (-1) ≤ f26_39_8.toInt → f26_39_8.toInt ≤ 10 → Wd dC dI A s.heap H locs w1 → TW ksC ad cy B qr s1 w1 → FE ksC [(10, 4, 4), (50, 0, 12), (51, 0, 10)] w0 w1 → gi w1 39 8 = f26_39_8 → TT (fun n => m_X11_ways n 0 a1.toInt a2.toInt (sI w0)) (fun n => b_X11_ways_26 n 0 (sI w1)) → lv_has ls 4 [(0, .ref (ad 0)), (1, .int a1), (2, .int a2)] → W p l e ({ frames := 17, cells := 0, slots := 0, locals := 378 }) s m (List.toArray [.ref (ad 0), .int a1, .int a2]) below meth c H locs 0 0 (MQ below (va_Qi (Pz_X11_ways_1 ad cy B qr s1 a1 a2 w0) (fun u : va_W => wpost dC dI cy A u) A) (List.toArray [.ref (ad 0), .int a1, .int a2]) s 0 0 A) (F0 m 26 ls []) := by
    intro f26_39_8 H locs ls w1 r2 t3 hw hT hF c4 hM hl
    refine lv_iconst (v := (-1)) hx hb dX11_ways_26 (by decide) ?_
    exact tk_iret hC hr hlocks hK ⟨hT, hF, hM.ret (by decide), (Or.inr (Or.inr rfl))⟩ hw dX11_ways_27
  have hM : TT (fun n => m_X11_ways n 0 a1.toInt a2.toInt (sI w0)) (fun n => m_X11_ways n 0 a1.toInt a2.toInt (sI w0)) := TT.rf
  refine lv_aload_n hx hb dX11_ways_0 rfl (lv_at hl 0 rfl) ?_
  refine tk_getA hC hK hw hT hinX11 kC_at0 (by decide) rfl 4 (by decide) (List.mem_cons_of_mem _ uw_1_7) rfl rfl dX11_ways_1 ?_
  refine tk_Vi hC hK hw hT hA hE hSR kC_at38 (by decide) rfl (kz_X5_hasTown_1 l adK adV dC dI cy ad B hB0 (Int.le_trans hB1 (by decide)) qr s1    w0 s.heap.size hT ) (cwV 0 hC.2.2.2.2 uV_RX11_158 rfl rfl rfl (by decide +kernel) ⟨Nat.le_of_ble_eq_true rfl, Nat.le_of_ble_eq_true rfl⟩) rfl hl.1 rfl (Nat.le_of_ble_eq_true rfl) dX11_ways_4 (fun r5 w7 H locs hp6 hw => ?_)
  obtain ⟨hT, k8, hv14, hg13⟩ := hp6
  have hF := hF.tr k8 (by decide)
  rcases hg13 with ⟨rfl, ⟨x9, c10, rx9, tx9⟩⟩ | ⟨rfl, ⟨x11, c12, rx11, tx11⟩⟩
  · replace hM := hM.call (r' := 0) hv14 (by decide)
    refine lv_if_eq (tgt := 26) hx hb dX11_ways_7 (by decide) (fun _ => ?_) (fun c => absurd (by decide) c)
    replace hM := hM.pos (by decide)
    exact J26 x9 H locs ls w7 (show (-1) ≤ x9.toInt by first | with_reducible assumption | omega) (show x9.toInt ≤ 10 by first | with_reducible assumption | omega)  hw hT hF c10 hM (lv_sub hl [0, 1, 2] rfl)
  · replace hM := hM.call (r' := 1) hv14 (by decide)
    refine lv_if_eq (tgt := 26) hx hb dX11_ways_7 (by decide) (fun c => absurd c (by decide)) (fun _ => ?_)
    replace hM := hM.neg (by decide)
    refine lv_iload_n hx hb dX11_ways_10 rfl (lv_at hl 1 rfl) ?_
    refine tk_Si hC hK hw hT hA hE hSR (kz_X11_isWeekday_1 l adK adV dC dI cy ad B hB0 (Int.le_trans hB1 (by decide)) qr s1   a1 w7 H.size hT ) (va_cwS 1 hC.2.2.2.2 uS_RX11_155 rfl rfl rfl (by decide +kernel) ⟨Nat.le_of_ble_eq_true rfl, Nat.le_of_ble_eq_true rfl⟩) rfl hl.1 rfl (Nat.le_of_ble_eq_true rfl) dX11_ways_11 (fun r15 w17 H locs hp16 hw => ?_)
    obtain ⟨hT, k18, hv22, hg21⟩ := hp16
    have hF := hF.tr k18 (by decide)
    have c23 := k18.gi kC_at39 (by decide) c12
    rcases hg21 with rfl | ⟨rfl, g19, g20⟩
    · replace hM := hM.call (r' := 0) hv22 (by decide)
      refine lv_if_eq (tgt := 26) hx hb dX11_ways_14 (by decide) (fun _ => ?_) (fun c => absurd (by decide) c)
      replace hM := hM.pos (by decide)
      exact J26 x11 H locs ls w17 (show (-1) ≤ x11.toInt by first | with_reducible assumption | omega) (show x11.toInt ≤ 10 by first | with_reducible assumption | omega)  hw hT hF c23 hM (lv_sub hl [0, 1, 2] rfl)
    · replace hM := hM.call (r' := 1) hv22 (by decide)
      refine lv_if_eq (tgt := 26) hx hb dX11_ways_14 (by decide) (fun c => absurd c (by decide)) (fun _ => ?_)
      replace hM := hM.neg (by decide)
      refine lv_iload_n hx hb dX11_ways_17 rfl (lv_at hl 2 rfl) ?_
      refine lv_if_lt (tgt := 26) hx hb dX11_ways_18 (by decide) (fun c24 => ?_) (fun c24 => ?_)
      · have c24 : a2.toInt < (0 : Int) := wk_lt.mp c24
        replace hM := hM.pos c24
        exact J26 x11 H locs ls w17 (show (-1) ≤ x11.toInt by first | with_reducible assumption | omega) (show x11.toInt ≤ 10 by first | with_reducible assumption | omega)  hw hT hF c23 hM (lv_sub hl [0, 1, 2] rfl)
      · have c24 : (0 : Int) ≤ a2.toInt := wk_ltF c24
        replace hM := hM.neg (Int.not_lt.mpr c24)
        refine lv_iload_n hx hb dX11_ways_21 rfl (lv_at hl 2 rfl) ?_
        refine lv_iconst (v := 1) hx hb dX11_ways_22 (by decide) ?_
        refine lv_icmp_le (tgt := 28) hx hb dX11_ways_23 (by decide) (fun c25 => ?_) (fun c25 => ?_)
        · have c25 : a2.toInt ≤ (1 : Int) := wk_le.mp c25
          replace hM := hM.pos c25
          refine lv_aload_n hx hb dX11_ways_28 rfl (lv_at hl 0 rfl) ?_
          refine tk_getA hC hK hw hT hinX11 kC_at0 (by decide) rfl 11 (by decide) (List.mem_cons_of_mem _ uw_2_6) rfl rfl dX11_ways_29 ?_
          refine lv_iload_n hx hb dX11_ways_32 rfl (lv_at hl 1 rfl) ?_
          refine tk_Vv hC hK hw hT hA hE hSR kC_at158 (by decide) rfl (kz_X10_takeDay_1 l adK adV dC dI cy ad B hB0 (Int.le_trans hB1 (by decide)) qr s1   a1 (show 0 ≤ a1.toInt by first | with_reducible assumption | omega) (show a1.toInt ≤ 6 by first | with_reducible assumption | omega) w17 H.size hT ) (cwV 1 hC.2.2.2.2 uV_RX11_257 rfl rfl rfl (by decide +kernel) ⟨Nat.le_of_ble_eq_true rfl, Nat.le_of_ble_eq_true rfl⟩) rfl hl.1 rfl (Nat.le_of_ble_eq_true rfl) dX11_ways_33 (fun w28 H locs hp27 hw => ?_)
          obtain ⟨hT, k29, hv31, hg30⟩ := hp27
          have hF := hF.tr k29 (by decide)
          have c32 := k29.gi kC_at39 (by decide) c23
          clear hg30
          replace hM := hM.call hv31 rfl
          refine lv_aload_n hx hb dX11_ways_36 rfl (lv_at hl 0 rfl) ?_
          refine tk_getA hC hK hw hT hinX11 kC_at0 (by decide) rfl 11 (by decide) (List.mem_cons_of_mem _ uw_2_6) rfl rfl dX11_ways_37 ?_
          refine tk_Vi hC hK hw hT hA hE hSR kC_at158 (by decide) rfl (kz_X10_findClash_1 l adK adV dC dI cy ad B hB0 (Int.le_trans hB1 (by decide)) qr s1    w28 H.size hT ) (cwV 0 hC.2.2.2.2 uV_RX11_260 rfl rfl rfl (by decide +kernel) ⟨Nat.le_of_ble_eq_true rfl, Nat.le_of_ble_eq_true rfl⟩) rfl hl.1 rfl (Nat.le_of_ble_eq_true rfl) dX11_ways_40 (fun r33 w35 H locs hp34 hw => ?_)
          obtain ⟨hT, k36, hv40, hg39⟩ := hp34
          have hF := hF.tr k36 (by decide)
          have c41 := k36.gi kC_at39 (by decide) c32
          obtain ⟨g37, g38⟩ := hg39
          replace hM := hM.call hv40 rfl
          refine lv_istore_n (lv' := [(3, .int r33), (0, .ref (ad 0)), (1, .int a1), (2, .int a2)]) hx hb dX11_ways_43 rfl hl (by decide) rfl (fun ls hl => ?_)
          refine lv_iload_n hx hb dX11_ways_44 rfl (lv_at hl 3 rfl) ?_
          refine lv_iconst (v := 1) hx hb dX11_ways_45 (by decide) ?_
          refine lv_icmp_ne (tgt := 51) hx hb dX11_ways_46 (by decide) (fun c42 => ?_) (fun c42 => ?_)
          · have c42 : ¬ a2.toInt = (1 : Int) := wk_eqF c42
            replace hM := hM.pos c42
            refine lv_iload_n hx hb dX11_ways_51 rfl (lv_at hl 0 rfl) ?_
            refine lv_if_eq (tgt := 60) hx hb dX11_ways_52 (by decide) (fun c43 => ?_) (fun c43 => ?_)
            · have c43 : r33.toInt = (0 : Int) := wk_eq.mp c43
              replace hM := hM.pos c43
              refine lv_aload_n hx hb dX11_ways_60 rfl (lv_at hl 1 rfl) ?_
              refine tk_getA hC hK hw hT hinX11 kC_at0 (by decide) rfl 11 (by decide) (List.mem_cons_of_mem _ uw_2_6) rfl rfl dX11_ways_61 ?_
              refine tk_Vi hC hK hw hT hA hE hSR kC_at158 (by decide) rfl (kz_X10_findLeast_1 l adK adV dC dI cy ad B hB0 (Int.le_trans hB1 (by decide)) qr s1    w35 H.size hT ) (cwV 0 hC.2.2.2.2 uV_RX11_264 rfl rfl rfl (by decide +kernel) ⟨Nat.le_of_ble_eq_true rfl, Nat.le_of_ble_eq_true rfl⟩) rfl hl.1 rfl (Nat.le_of_ble_eq_true rfl) dX11_ways_64 (fun r44 w46 H locs hp45 hw => ?_)
              obtain ⟨hT, k47, hv53, hg52⟩ := hp45
              have hF := hF.tr k47 (by decide)
              have c54 := k47.gi kC_at39 (by decide) c41
              rcases hg52 with ⟨g48, g49⟩ | ⟨rfl, ⟨x50, c51, rx50, tx50⟩⟩
              · replace hM := hM.call hv53 rfl
                exact tk_iret hC hr hlocks hK ⟨hT, hF, hM.ret rfl, (Or.inr (Or.inl ⟨(show 0 ≤ r44.toInt by first | with_reducible assumption | omega), (show r44.toInt ≤ 8191 by first | with_reducible assumption | omega), (show 0 ≤ a1.toInt by first | with_reducible assumption | omega), (show a1.toInt ≤ 6 by first | with_reducible assumption | omega), (show 0 ≤ a2.toInt by first | with_reducible assumption | omega), (show a2.toInt ≤ 1 by first | with_reducible assumption | omega), ⟨x11, c54, (show 1 ≤ x11.toInt by first | with_reducible assumption | omega), (show x11.toInt ≤ 10 by first | with_reducible assumption | omega)⟩⟩))⟩ hw dX11_ways_67
              · replace hM := hM.call (r' := (-1)) hv53 (by decide)
                exact tk_iret hC hr hlocks hK ⟨hT, hF, hM.ret (by decide), (Or.inr (Or.inr rfl))⟩ hw dX11_ways_67
            · have c43 : ¬ r33.toInt = (0 : Int) := wk_eqF c43
              replace hM := hM.neg c43
              refine lv_bipush (v := (-2)) hx hb dX11_ways_55 (by decide) ?_
              refine lv_goto (tgt := 67) hx hb dX11_ways_57 (by decide) ?_
              exact tk_iret hC hr hlocks hK ⟨hT, hF, hM.ret (by decide), (Or.inl ⟨rfl, (show 0 ≤ a1.toInt by first | with_reducible assumption | omega), (show a1.toInt ≤ 6 by first | with_reducible assumption | omega), (show 0 ≤ a2.toInt by first | with_reducible assumption | omega), (show a2.toInt ≤ 0 by first | with_reducible assumption | omega), ⟨x11, c41, (show 1 ≤ x11.toInt by first | with_reducible assumption | omega), (show x11.toInt ≤ 10 by first | with_reducible assumption | omega)⟩⟩)⟩ hw dX11_ways_67
          · have c42 : a2.toInt = (1 : Int) := wk_eq.mp c42
            replace hM := hM.neg (fun q => q c42)
            refine lv_iload_n hx hb dX11_ways_49 rfl (lv_at hl 0 rfl) ?_
            exact tk_iret hC hr hlocks hK ⟨hT, hF, hM.ret rfl, (Or.inr (Or.inl ⟨(show 0 ≤ r33.toInt by first | with_reducible assumption | omega), (show r33.toInt ≤ 8191 by first | with_reducible assumption | omega), (show 0 ≤ a1.toInt by first | with_reducible assumption | omega), (show a1.toInt ≤ 6 by first | with_reducible assumption | omega), (show 0 ≤ a2.toInt by first | with_reducible assumption | omega), (show a2.toInt ≤ 1 by first | with_reducible assumption | omega), ⟨x11, c41, (show 1 ≤ x11.toInt by first | with_reducible assumption | omega), (show x11.toInt ≤ 10 by first | with_reducible assumption | omega)⟩⟩))⟩ hw dX11_ways_50
        · have c25 : (1 : Int) < a2.toInt := wk_leF c25
          replace hM := hM.neg (Int.not_le.mpr c25)
          exact J26 x11 H locs ls w17 (show (-1) ≤ x11.toInt by first | with_reducible assumption | omega) (show x11.toInt ≤ 10 by first | with_reducible assumption | omega)  hw hT hF c23 hM (lv_sub hl [0, 1, 2] rfl)
abbrev Pz_X12_four_1 (ad : Nat → Nat) (cy : Nat → ClassId) (B : Int) (qr : Nat) (s1 : Int) (a1 : Int32) (w0 : va_W) : va_W → Prop := fun u => TW ksM ad cy B qr 12 u ∧ FE ksM [(12, 1, 1), (60, 0, 400)] w0 u ∧ Ev (fun n => m_X12_four n 0 a1.toInt (sI w0)) (0, sI u) ∧ (((∃ y : Int32, gi u 0 1 = y ∧ 4 ≤ y.toInt ∧ y.toInt ≤ 384)))
set_option maxHeartbeats 4000000 in
set_option maxRecDepth 100000 in
theorem kz_X12_four_1 (l : Launch) (adK adV : Nat → Nat) (dC : Nat → ClassId) (dI : Nat → Nat → Nat) (cy : Nat → ClassId) (ad : Nat → Nat) (B : Int) (hB0 : 100000 ≤ B) (hB1 : B ≤ 1073741824) (qr : Nat) (s1 : Int)  (a1 : Int32) (w0 : va_W) (sz : Nat) (hT : TW ksM ad cy B qr 12 w0) (f0_ : Int32) (cf0_ : gi w0 0 1 = f0_) (rf0_ : 0 ≤ f0_.toInt) (tf0_ : f0_.toInt ≤ 380) : Met l yX12_four (wu yX12_four cX12_four 3 none) ({ frames := 1, cells := 0, slots := 0, locals := 12 }) (va_Pc [.ref (ad 0), .int a1] (wpreS adK adV dC dI cy sz w0)) (va_Qv (Pz_X12_four_1 ad cy B qr s1 a1 w0) (fun u : va_W => wpost dC dI cy (va_A w0 sz) u) (va_A w0 sz)) 0 0 (va_A w0 sz) := by
  refine Met.ofW (cc := cX12_four) (maxL := 3) (ret := none) (by decide) rfl ?_
  intro p e s m args below meth c s₁ Bk hml hv
  obtain ⟨rfl, ⟨hsz, hP, hK, hD0⟩, hE, hSR⟩ := hv
  have hx := Bk.exec
  have hb := Bk.bytes
  have hr := Bk.returns
  have hlocks := Bk.notSynchronized
  have hC : CallFix p m c cX12_four 3 s _ (wu yX12_four cX12_four 3 none) RX12 := ⟨hx, hb, hml, findClass_of_methodNamed Bk.named, atoms_spec (ws := (wu yX12_four cX12_four 3 none)) Bk.pre⟩
  subst hsz
  have hD := hD0.self (sz := s.heap.size)
  generalize hAe : va_A w0 s.heap.size = A at hD hE ⊢
  have hA : ∀ q : Nat, s.heap.size ≤ q → A q := fun q h => by rw [← hAe]; exact Or.inr h
  have hw : Wd dC dI A s.heap s.heap [] w0 := ⟨hP, hD, va_S.rf⟩
  have hF : FE ksM [(12, 1, 1), (60, 0, 400)] w0 w0 := FE.rf
  have hl := lv_entry ([.ref (ad 0), .int a1]) (n := 3) (Nat.le_of_ble_eq_true rfl)
  rw [lg_entry_eq]
  generalize (lg_sl ([.ref (ad 0), .int a1]) ++ List.replicate (3 - (lg_sl ([.ref (ad 0), .int a1])).length) Slot.unset).toArray = ls at hl ⊢
  have hl : lv_has ls 3 [(0, .ref (ad 0)), (1, .int a1)] := hl
  generalize hloc : ([] : List Loc) = locs at hw ⊢
  have hinX12 : ∀ w ∈ u_ws RX12 TX12 42, w ∈ (wu yX12_four cX12_four 3 none) := fun _ h => List.mem_cons_of_mem _ (up_71 h)
  have hM : TT (fun n => m_X12_four n 0 a1.toInt (sI w0)) (fun n => m_X12_four n 0 a1.toInt (sI w0)) := TT.rf
  refine lv_bipush (v := 24) hx hb dX12_four_0 (by decide) ?_
  refine lv_istore_n (lv' := [(2, .int 24), (0, .ref (ad 0)), (1, .int a1)]) hx hb dX12_four_2 rfl hl (by decide) rfl (fun ls hl => ?_)
  refine lv_iload_n hx hb dX12_four_3 rfl (lv_at hl 0 rfl) ?_
  refine lv_if_lt (tgt := 36) hx hb dX12_four_4 (by decide) (fun c => absurd c (by decide)) (fun _ => ?_)
  refine lv_aload_n hx hb dX12_four_7 rfl (lv_at hl 1 rfl) ?_
  refine tk_getA hC hK hw hT hinX12 kM_at0 (by decide) rfl 0 (by decide) (List.mem_cons_of_mem _ uw_6_14) rfl rfl dX12_four_8 ?_
  refine lv_aload_n hx hb dX12_four_11 rfl (lv_at hl 1 rfl) ?_
  refine tk_geti hC hK hw hT hinX12 kM_at0 (by decide) rfl 1 (by decide) (List.mem_cons_of_mem _ uw_8_7) rfl rfl dX12_four_12 (fun x1 c2 rx1 tx1 => ?_)
  refine wk_top f0_ (c2.symm.trans cf0_) ?_
  replace hM := hM.rd (sI_at cf0_)
  refine lv_iload_n hx hb dX12_four_15 rfl (lv_at hl 2 rfl) ?_
  refine lv_iload_n hx hb dX12_four_16 rfl (lv_at hl 0 rfl) ?_
  refine lv_ishr hx hb dX12_four_17 ?_
  refine lv_topi (fun x3 ex3 => ?_)
  have ezx3 := ex3
  replace hM := hM.lt (o32_e (f := fun x y => x >>> (y &&& 31)) ezx3 rfl (by decide))
  refine lv_i2b hx hb dX12_four_18 rfl ?_
  refine lv_topi (fun x4 ex4 => ?_)
  replace hM := hM.lt (mB_e ex4)
  refine tk_bastv hC hK hw hT kM_at1 (by decide) rfl rfl (show 0 ≤ f0_.toInt from rf0_) (show f0_.toInt < 400 from Int.lt_of_le_of_lt tf0_ (by decide)) dX12_four_19 (fun H locs w5 hw hT k7 c6 => ?_)
  obtain ⟨z8, ez8⟩ : ∃ z : Int32, z = x4.toInt8.toInt32 := ⟨_, rfl⟩
  have c6 := c6.trans ez8.symm
  replace hM := hM.lt (mB_e ez8)
  replace hM := hM.wr (sI_up k7 c6)
  have hF := hF.put kM_at1 (inE_of (a := 0) (b := 400) (by decide) (show 0 ≤ f0_.toInt.toNat by omega) (show f0_.toInt.toNat ≤ 400 by omega)) k7
  have c9 := k7.gi (Or.inl (tk_ne kM_at0 kM_at1 (by decide))) cf0_
  refine lv_aload_n hx hb dX12_four_20 rfl (lv_at hl 1 rfl) ?_
  refine lv_dup hx hb dX12_four_21 rfl ?_
  refine tk_geti hC hK hw hT hinX12 kM_at0 (by decide) rfl 1 (by decide) (List.mem_cons_of_mem _ uw_8_7) rfl rfl dX12_four_22 (fun x10 c11 rx10 tx10 => ?_)
  refine wk_top f0_ (c11.symm.trans c9) ?_
  replace hM := hM.rd (sI_at c9)
  refine lv_iconst (v := 1) hx hb dX12_four_25 (by decide) ?_
  refine lv_iadd hx hb dX12_four_26 ?_
  refine lv_topi (fun x12 ex12 => ?_)
  have ezx12 := ex12
  have ex12 : x12.toInt = f0_.toInt + (1 : Int) := by rw [ex12]; exact wk_add (show (-2147483648) ≤ f0_.toInt + (1 : Int) by omega) (show f0_.toInt + (1 : Int) ≤ 2147483647 by omega)
  replace hM := hM.lt ex12.symm
  refine tk_puti hC hK hw hT hinX12 tyX12_ok nmX12 kM_at0 (by decide) rfl rfl 1 (by decide) (List.mem_cons_of_mem _ uw_8_7) rfl rfl rfl rfl (show 0 ≤ x12.toInt by first | with_reducible assumption | omega) (show x12.toInt ≤ 400 by first | with_reducible assumption | omega) dX12_four_27 (fun H locs w13 hw hT k15 c14 => ?_)
  replace hM := hM.wr (sI_up k15 c14)
  have hF := hF.put kM_at0 (k := 1) (by decide) k15
  refine lv_iinc (v := 16) (lv' := [(2, .int 16), (0, .ref (ad 0)), (1, .int a1)]) hx hb dX12_four_30 hl (k := 0) rfl (by decide) (by decide) rfl (fun ls hl => ?_)
  refine lv_goto (tgt := 3) hx hb dX12_four_33 (by decide) ?_
  refine lv_iload_n hx hb dX12_four_3 rfl (lv_at hl 0 rfl) ?_
  refine lv_if_lt (tgt := 36) hx hb dX12_four_4 (by decide) (fun c => absurd c (by decide)) (fun _ => ?_)
  refine lv_aload_n hx hb dX12_four_7 rfl (lv_at hl 1 rfl) ?_
  refine tk_getA hC hK hw hT hinX12 kM_at0 (by decide) rfl 0 (by decide) (List.mem_cons_of_mem _ uw_6_14) rfl rfl dX12_four_8 ?_
  refine lv_aload_n hx hb dX12_four_11 rfl (lv_at hl 1 rfl) ?_
  refine tk_geti hC hK hw hT hinX12 kM_at0 (by decide) rfl 1 (by decide) (List.mem_cons_of_mem _ uw_8_7) rfl rfl dX12_four_12 (fun x16 c17 rx16 tx16 => ?_)
  refine wk_top x12 (c17.symm.trans c14) ?_
  replace hM := hM.rd (sI_at c14)
  refine lv_iload_n hx hb dX12_four_15 rfl (lv_at hl 2 rfl) ?_
  refine lv_iload_n hx hb dX12_four_16 rfl (lv_at hl 0 rfl) ?_
  refine lv_ishr hx hb dX12_four_17 ?_
  refine lv_topi (fun x18 ex18 => ?_)
  have ezx18 := ex18
  replace hM := hM.lt (o32_e (f := fun x y => x >>> (y &&& 31)) ezx18 rfl (by decide))
  refine lv_i2b hx hb dX12_four_18 rfl ?_
  refine lv_topi (fun x19 ex19 => ?_)
  replace hM := hM.lt (mB_e ex19)
  refine tk_bastv hC hK hw hT kM_at1 (by decide) rfl rfl (show 0 ≤ x12.toInt by first | with_reducible assumption | omega) (show x12.toInt < 400 by first | with_reducible assumption | omega) dX12_four_19 (fun H locs w20 hw hT k22 c21 => ?_)
  obtain ⟨z23, ez23⟩ : ∃ z : Int32, z = x19.toInt8.toInt32 := ⟨_, rfl⟩
  have c21 := c21.trans ez23.symm
  replace hM := hM.lt (mB_e ez23)
  replace hM := hM.wr (sI_up k22 c21)
  have hF := hF.put kM_at1 (inE_of (a := 0) (b := 400) (by decide) (show 0 ≤ x12.toInt.toNat by omega) (show x12.toInt.toNat ≤ 400 by omega)) k22
  have c24 := k22.gi (Or.inl (tk_ne kM_at0 kM_at1 (by decide))) c14
  refine lv_aload_n hx hb dX12_four_20 rfl (lv_at hl 1 rfl) ?_
  refine lv_dup hx hb dX12_four_21 rfl ?_
  refine tk_geti hC hK hw hT hinX12 kM_at0 (by decide) rfl 1 (by decide) (List.mem_cons_of_mem _ uw_8_7) rfl rfl dX12_four_22 (fun x25 c26 rx25 tx25 => ?_)
  refine wk_top x12 (c26.symm.trans c24) ?_
  replace hM := hM.rd (sI_at c24)
  refine lv_iconst (v := 1) hx hb dX12_four_25 (by decide) ?_
  refine lv_iadd hx hb dX12_four_26 ?_
  refine lv_topi (fun x27 ex27 => ?_)
  have ezx27 := ex27
  have ex27 : x27.toInt = x12.toInt + (1 : Int) := by rw [ex27]; exact wk_add (show (-2147483648) ≤ x12.toInt + (1 : Int) by omega) (show x12.toInt + (1 : Int) ≤ 2147483647 by omega)
  replace hM := hM.lt ex27.symm
  refine tk_puti hC hK hw hT hinX12 tyX12_ok nmX12 kM_at0 (by decide) rfl rfl 1 (by decide) (List.mem_cons_of_mem _ uw_8_7) rfl rfl rfl rfl (show 0 ≤ x27.toInt by first | with_reducible assumption | omega) (show x27.toInt ≤ 400 by first | with_reducible assumption | omega) dX12_four_27 (fun H locs w28 hw hT k30 c29 => ?_)
  replace hM := hM.wr (sI_up k30 c29)
  have hF := hF.put kM_at0 (k := 1) (by decide) k30
  refine lv_iinc (v := 8) (lv' := [(2, .int 8), (0, .ref (ad 0)), (1, .int a1)]) hx hb dX12_four_30 hl (k := 0) rfl (by decide) (by decide) rfl (fun ls hl => ?_)
  refine lv_goto (tgt := 3) hx hb dX12_four_33 (by decide) ?_
  refine lv_iload_n hx hb dX12_four_3 rfl (lv_at hl 0 rfl) ?_
  refine lv_if_lt (tgt := 36) hx hb dX12_four_4 (by decide) (fun c => absurd c (by decide)) (fun _ => ?_)
  refine lv_aload_n hx hb dX12_four_7 rfl (lv_at hl 1 rfl) ?_
  refine tk_getA hC hK hw hT hinX12 kM_at0 (by decide) rfl 0 (by decide) (List.mem_cons_of_mem _ uw_6_14) rfl rfl dX12_four_8 ?_
  refine lv_aload_n hx hb dX12_four_11 rfl (lv_at hl 1 rfl) ?_
  refine tk_geti hC hK hw hT hinX12 kM_at0 (by decide) rfl 1 (by decide) (List.mem_cons_of_mem _ uw_8_7) rfl rfl dX12_four_12 (fun x31 c32 rx31 tx31 => ?_)
  refine wk_top x27 (c32.symm.trans c29) ?_
  replace hM := hM.rd (sI_at c29)
  refine lv_iload_n hx hb dX12_four_15 rfl (lv_at hl 2 rfl) ?_
  refine lv_iload_n hx hb dX12_four_16 rfl (lv_at hl 0 rfl) ?_
  refine lv_ishr hx hb dX12_four_17 ?_
  refine lv_topi (fun x33 ex33 => ?_)
  have ezx33 := ex33
  replace hM := hM.lt (o32_e (f := fun x y => x >>> (y &&& 31)) ezx33 rfl (by decide))
  refine lv_i2b hx hb dX12_four_18 rfl ?_
  refine lv_topi (fun x34 ex34 => ?_)
  replace hM := hM.lt (mB_e ex34)
  refine tk_bastv hC hK hw hT kM_at1 (by decide) rfl rfl (show 0 ≤ x27.toInt by first | with_reducible assumption | omega) (show x27.toInt < 400 by first | with_reducible assumption | omega) dX12_four_19 (fun H locs w35 hw hT k37 c36 => ?_)
  obtain ⟨z38, ez38⟩ : ∃ z : Int32, z = x34.toInt8.toInt32 := ⟨_, rfl⟩
  have c36 := c36.trans ez38.symm
  replace hM := hM.lt (mB_e ez38)
  replace hM := hM.wr (sI_up k37 c36)
  have hF := hF.put kM_at1 (inE_of (a := 0) (b := 400) (by decide) (show 0 ≤ x27.toInt.toNat by omega) (show x27.toInt.toNat ≤ 400 by omega)) k37
  have c39 := k37.gi (Or.inl (tk_ne kM_at0 kM_at1 (by decide))) c29
  refine lv_aload_n hx hb dX12_four_20 rfl (lv_at hl 1 rfl) ?_
  refine lv_dup hx hb dX12_four_21 rfl ?_
  refine tk_geti hC hK hw hT hinX12 kM_at0 (by decide) rfl 1 (by decide) (List.mem_cons_of_mem _ uw_8_7) rfl rfl dX12_four_22 (fun x40 c41 rx40 tx40 => ?_)
  refine wk_top x27 (c41.symm.trans c39) ?_
  replace hM := hM.rd (sI_at c39)
  refine lv_iconst (v := 1) hx hb dX12_four_25 (by decide) ?_
  refine lv_iadd hx hb dX12_four_26 ?_
  refine lv_topi (fun x42 ex42 => ?_)
  have ezx42 := ex42
  have ex42 : x42.toInt = x27.toInt + (1 : Int) := by rw [ex42]; exact wk_add (show (-2147483648) ≤ x27.toInt + (1 : Int) by omega) (show x27.toInt + (1 : Int) ≤ 2147483647 by omega)
  replace hM := hM.lt ex42.symm
  refine tk_puti hC hK hw hT hinX12 tyX12_ok nmX12 kM_at0 (by decide) rfl rfl 1 (by decide) (List.mem_cons_of_mem _ uw_8_7) rfl rfl rfl rfl (show 0 ≤ x42.toInt by first | with_reducible assumption | omega) (show x42.toInt ≤ 400 by first | with_reducible assumption | omega) dX12_four_27 (fun H locs w43 hw hT k45 c44 => ?_)
  replace hM := hM.wr (sI_up k45 c44)
  have hF := hF.put kM_at0 (k := 1) (by decide) k45
  refine lv_iinc (v := 0) (lv' := [(2, .int 0), (0, .ref (ad 0)), (1, .int a1)]) hx hb dX12_four_30 hl (k := 0) rfl (by decide) (by decide) rfl (fun ls hl => ?_)
  refine lv_goto (tgt := 3) hx hb dX12_four_33 (by decide) ?_
  refine lv_iload_n hx hb dX12_four_3 rfl (lv_at hl 0 rfl) ?_
  refine lv_if_lt (tgt := 36) hx hb dX12_four_4 (by decide) (fun c => absurd c (by decide)) (fun _ => ?_)
  refine lv_aload_n hx hb dX12_four_7 rfl (lv_at hl 1 rfl) ?_
  refine tk_getA hC hK hw hT hinX12 kM_at0 (by decide) rfl 0 (by decide) (List.mem_cons_of_mem _ uw_6_14) rfl rfl dX12_four_8 ?_
  refine lv_aload_n hx hb dX12_four_11 rfl (lv_at hl 1 rfl) ?_
  refine tk_geti hC hK hw hT hinX12 kM_at0 (by decide) rfl 1 (by decide) (List.mem_cons_of_mem _ uw_8_7) rfl rfl dX12_four_12 (fun x46 c47 rx46 tx46 => ?_)
  refine wk_top x42 (c47.symm.trans c44) ?_
  replace hM := hM.rd (sI_at c44)
  refine lv_iload_n hx hb dX12_four_15 rfl (lv_at hl 2 rfl) ?_
  refine lv_iload_n hx hb dX12_four_16 rfl (lv_at hl 0 rfl) ?_
  refine lv_ishr hx hb dX12_four_17 ?_
  refine lv_topi (fun x48 ex48 => ?_)
  have ezx48 := ex48
  replace hM := hM.lt (o32_e (f := fun x y => x >>> (y &&& 31)) ezx48 rfl (by decide))
  refine lv_i2b hx hb dX12_four_18 rfl ?_
  refine lv_topi (fun x49 ex49 => ?_)
  replace hM := hM.lt (mB_e ex49)
  refine tk_bastv hC hK hw hT kM_at1 (by decide) rfl rfl (show 0 ≤ x42.toInt by first | with_reducible assumption | omega) (show x42.toInt < 400 by first | with_reducible assumption | omega) dX12_four_19 (fun H locs w50 hw hT k52 c51 => ?_)
  obtain ⟨z53, ez53⟩ : ∃ z : Int32, z = x49.toInt8.toInt32 := ⟨_, rfl⟩
  have c51 := c51.trans ez53.symm
  replace hM := hM.lt (mB_e ez53)
  replace hM := hM.wr (sI_up k52 c51)
  have hF := hF.put kM_at1 (inE_of (a := 0) (b := 400) (by decide) (show 0 ≤ x42.toInt.toNat by omega) (show x42.toInt.toNat ≤ 400 by omega)) k52
  have c54 := k52.gi (Or.inl (tk_ne kM_at0 kM_at1 (by decide))) c44
  refine lv_aload_n hx hb dX12_four_20 rfl (lv_at hl 1 rfl) ?_
  refine lv_dup hx hb dX12_four_21 rfl ?_
  refine tk_geti hC hK hw hT hinX12 kM_at0 (by decide) rfl 1 (by decide) (List.mem_cons_of_mem _ uw_8_7) rfl rfl dX12_four_22 (fun x55 c56 rx55 tx55 => ?_)
  refine wk_top x42 (c56.symm.trans c54) ?_
  replace hM := hM.rd (sI_at c54)
  refine lv_iconst (v := 1) hx hb dX12_four_25 (by decide) ?_
  refine lv_iadd hx hb dX12_four_26 ?_
  refine lv_topi (fun x57 ex57 => ?_)
  have ezx57 := ex57
  have ex57 : x57.toInt = x42.toInt + (1 : Int) := by rw [ex57]; exact wk_add (show (-2147483648) ≤ x42.toInt + (1 : Int) by omega) (show x42.toInt + (1 : Int) ≤ 2147483647 by omega)
  replace hM := hM.lt ex57.symm
  refine tk_puti hC hK hw hT hinX12 tyX12_ok nmX12 kM_at0 (by decide) rfl rfl 1 (by decide) (List.mem_cons_of_mem _ uw_8_7) rfl rfl rfl rfl (show 0 ≤ x57.toInt by first | with_reducible assumption | omega) (show x57.toInt ≤ 400 by first | with_reducible assumption | omega) dX12_four_27 (fun H locs w58 hw hT k60 c59 => ?_)
  replace hM := hM.wr (sI_up k60 c59)
  have hF := hF.put kM_at0 (k := 1) (by decide) k60
  refine lv_iinc (v := (-8)) (lv' := [(2, .int (-8)), (0, .ref (ad 0)), (1, .int a1)]) hx hb dX12_four_30 hl (k := 0) rfl (by decide) (by decide) rfl (fun ls hl => ?_)
  refine lv_goto (tgt := 3) hx hb dX12_four_33 (by decide) ?_
  refine lv_iload_n hx hb dX12_four_3 rfl (lv_at hl 0 rfl) ?_
  refine lv_if_lt (tgt := 36) hx hb dX12_four_4 (by decide) (fun _ => ?_) (fun c => absurd (by decide) c)
  exact tk_vret hC hr hlocks hK ⟨hT, hF, hM.ret rfl, ⟨x57, c59, (show 4 ≤ x57.toInt by first | with_reducible assumption | omega), (show x57.toInt ≤ 384 by first | with_reducible assumption | omega)⟩⟩ hw dX12_four_36
abbrev Pz_X12_four_2 (ad : Nat → Nat) (cy : Nat → ClassId) (B : Int) (qr : Nat) (s1 : Int) (a1 : Int32) (w0 : va_W) : va_W → Prop := fun u => TW ksM ad cy B qr 12 u ∧ FE ksM [(12, 1, 1), (60, 0, 400)] w0 u ∧ Ev (fun n => m_X12_four n 0 a1.toInt (sI w0)) (0, sI u) ∧ (((∃ y : Int32, gi u 0 1 = y ∧ 8 ≤ y.toInt ∧ y.toInt ≤ 388)))
set_option maxHeartbeats 4000000 in
set_option maxRecDepth 100000 in
theorem kz_X12_four_2 (l : Launch) (adK adV : Nat → Nat) (dC : Nat → ClassId) (dI : Nat → Nat → Nat) (cy : Nat → ClassId) (ad : Nat → Nat) (B : Int) (hB0 : 100000 ≤ B) (hB1 : B ≤ 1073741824) (qr : Nat) (s1 : Int)  (a1 : Int32) (w0 : va_W) (sz : Nat) (hT : TW ksM ad cy B qr 12 w0) (f0_ : Int32) (cf0_ : gi w0 0 1 = f0_) (rf0_ : 4 ≤ f0_.toInt) (tf0_ : f0_.toInt ≤ 384) : Met l yX12_four (wu yX12_four cX12_four 3 none) ({ frames := 1, cells := 0, slots := 0, locals := 12 }) (va_Pc [.ref (ad 0), .int a1] (wpreS adK adV dC dI cy sz w0)) (va_Qv (Pz_X12_four_2 ad cy B qr s1 a1 w0) (fun u : va_W => wpost dC dI cy (va_A w0 sz) u) (va_A w0 sz)) 0 0 (va_A w0 sz) := by
  refine Met.ofW (cc := cX12_four) (maxL := 3) (ret := none) (by decide) rfl ?_
  intro p e s m args below meth c s₁ Bk hml hv
  obtain ⟨rfl, ⟨hsz, hP, hK, hD0⟩, hE, hSR⟩ := hv
  have hx := Bk.exec
  have hb := Bk.bytes
  have hr := Bk.returns
  have hlocks := Bk.notSynchronized
  have hC : CallFix p m c cX12_four 3 s _ (wu yX12_four cX12_four 3 none) RX12 := ⟨hx, hb, hml, findClass_of_methodNamed Bk.named, atoms_spec (ws := (wu yX12_four cX12_four 3 none)) Bk.pre⟩
  subst hsz
  have hD := hD0.self (sz := s.heap.size)
  generalize hAe : va_A w0 s.heap.size = A at hD hE ⊢
  have hA : ∀ q : Nat, s.heap.size ≤ q → A q := fun q h => by rw [← hAe]; exact Or.inr h
  have hw : Wd dC dI A s.heap s.heap [] w0 := ⟨hP, hD, va_S.rf⟩
  have hF : FE ksM [(12, 1, 1), (60, 0, 400)] w0 w0 := FE.rf
  have hl := lv_entry ([.ref (ad 0), .int a1]) (n := 3) (Nat.le_of_ble_eq_true rfl)
  rw [lg_entry_eq]
  generalize (lg_sl ([.ref (ad 0), .int a1]) ++ List.replicate (3 - (lg_sl ([.ref (ad 0), .int a1])).length) Slot.unset).toArray = ls at hl ⊢
  have hl : lv_has ls 3 [(0, .ref (ad 0)), (1, .int a1)] := hl
  generalize hloc : ([] : List Loc) = locs at hw ⊢
  have hinX12 : ∀ w ∈ u_ws RX12 TX12 42, w ∈ (wu yX12_four cX12_four 3 none) := fun _ h => List.mem_cons_of_mem _ (up_71 h)
  have hM : TT (fun n => m_X12_four n 0 a1.toInt (sI w0)) (fun n => m_X12_four n 0 a1.toInt (sI w0)) := TT.rf
  refine lv_bipush (v := 24) hx hb dX12_four_0 (by decide) ?_
  refine lv_istore_n (lv' := [(2, .int 24), (0, .ref (ad 0)), (1, .int a1)]) hx hb dX12_four_2 rfl hl (by decide) rfl (fun ls hl => ?_)
  refine lv_iload_n hx hb dX12_four_3 rfl (lv_at hl 0 rfl) ?_
  refine lv_if_lt (tgt := 36) hx hb dX12_four_4 (by decide) (fun c => absurd c (by decide)) (fun _ => ?_)
  refine lv_aload_n hx hb dX12_four_7 rfl (lv_at hl 1 rfl) ?_
  refine tk_getA hC hK hw hT hinX12 kM_at0 (by decide) rfl 0 (by decide) (List.mem_cons_of_mem _ uw_6_14) rfl rfl dX12_four_8 ?_
  refine lv_aload_n hx hb dX12_four_11 rfl (lv_at hl 1 rfl) ?_
  refine tk_geti hC hK hw hT hinX12 kM_at0 (by decide) rfl 1 (by decide) (List.mem_cons_of_mem _ uw_8_7) rfl rfl dX12_four_12 (fun x1 c2 rx1 tx1 => ?_)
  refine wk_top f0_ (c2.symm.trans cf0_) ?_
  replace hM := hM.rd (sI_at cf0_)
  refine lv_iload_n hx hb dX12_four_15 rfl (lv_at hl 2 rfl) ?_
  refine lv_iload_n hx hb dX12_four_16 rfl (lv_at hl 0 rfl) ?_
  refine lv_ishr hx hb dX12_four_17 ?_
  refine lv_topi (fun x3 ex3 => ?_)
  have ezx3 := ex3
  replace hM := hM.lt (o32_e (f := fun x y => x >>> (y &&& 31)) ezx3 rfl (by decide))
  refine lv_i2b hx hb dX12_four_18 rfl ?_
  refine lv_topi (fun x4 ex4 => ?_)
  replace hM := hM.lt (mB_e ex4)
  refine tk_bastv hC hK hw hT kM_at1 (by decide) rfl rfl (show 0 ≤ f0_.toInt from Int.le_trans (by decide) rf0_) (show f0_.toInt < 400 from Int.lt_of_le_of_lt tf0_ (by decide)) dX12_four_19 (fun H locs w5 hw hT k7 c6 => ?_)
  obtain ⟨z8, ez8⟩ : ∃ z : Int32, z = x4.toInt8.toInt32 := ⟨_, rfl⟩
  have c6 := c6.trans ez8.symm
  replace hM := hM.lt (mB_e ez8)
  replace hM := hM.wr (sI_up k7 c6)
  have hF := hF.put kM_at1 (inE_of (a := 0) (b := 400) (by decide) (show 0 ≤ f0_.toInt.toNat by omega) (show f0_.toInt.toNat ≤ 400 by omega)) k7
  have c9 := k7.gi (Or.inl (tk_ne kM_at0 kM_at1 (by decide))) cf0_
  refine lv_aload_n hx hb dX12_four_20 rfl (lv_at hl 1 rfl) ?_
  refine lv_dup hx hb dX12_four_21 rfl ?_
  refine tk_geti hC hK hw hT hinX12 kM_at0 (by decide) rfl 1 (by decide) (List.mem_cons_of_mem _ uw_8_7) rfl rfl dX12_four_22 (fun x10 c11 rx10 tx10 => ?_)
  refine wk_top f0_ (c11.symm.trans c9) ?_
  replace hM := hM.rd (sI_at c9)
  refine lv_iconst (v := 1) hx hb dX12_four_25 (by decide) ?_
  refine lv_iadd hx hb dX12_four_26 ?_
  refine lv_topi (fun x12 ex12 => ?_)
  have ezx12 := ex12
  have ex12 : x12.toInt = f0_.toInt + (1 : Int) := by rw [ex12]; exact wk_add (show (-2147483648) ≤ f0_.toInt + (1 : Int) by omega) (show f0_.toInt + (1 : Int) ≤ 2147483647 by omega)
  replace hM := hM.lt ex12.symm
  refine tk_puti hC hK hw hT hinX12 tyX12_ok nmX12 kM_at0 (by decide) rfl rfl 1 (by decide) (List.mem_cons_of_mem _ uw_8_7) rfl rfl rfl rfl (show 0 ≤ x12.toInt by first | with_reducible assumption | omega) (show x12.toInt ≤ 400 by first | with_reducible assumption | omega) dX12_four_27 (fun H locs w13 hw hT k15 c14 => ?_)
  replace hM := hM.wr (sI_up k15 c14)
  have hF := hF.put kM_at0 (k := 1) (by decide) k15
  refine lv_iinc (v := 16) (lv' := [(2, .int 16), (0, .ref (ad 0)), (1, .int a1)]) hx hb dX12_four_30 hl (k := 0) rfl (by decide) (by decide) rfl (fun ls hl => ?_)
  refine lv_goto (tgt := 3) hx hb dX12_four_33 (by decide) ?_
  refine lv_iload_n hx hb dX12_four_3 rfl (lv_at hl 0 rfl) ?_
  refine lv_if_lt (tgt := 36) hx hb dX12_four_4 (by decide) (fun c => absurd c (by decide)) (fun _ => ?_)
  refine lv_aload_n hx hb dX12_four_7 rfl (lv_at hl 1 rfl) ?_
  refine tk_getA hC hK hw hT hinX12 kM_at0 (by decide) rfl 0 (by decide) (List.mem_cons_of_mem _ uw_6_14) rfl rfl dX12_four_8 ?_
  refine lv_aload_n hx hb dX12_four_11 rfl (lv_at hl 1 rfl) ?_
  refine tk_geti hC hK hw hT hinX12 kM_at0 (by decide) rfl 1 (by decide) (List.mem_cons_of_mem _ uw_8_7) rfl rfl dX12_four_12 (fun x16 c17 rx16 tx16 => ?_)
  refine wk_top x12 (c17.symm.trans c14) ?_
  replace hM := hM.rd (sI_at c14)
  refine lv_iload_n hx hb dX12_four_15 rfl (lv_at hl 2 rfl) ?_
  refine lv_iload_n hx hb dX12_four_16 rfl (lv_at hl 0 rfl) ?_
  refine lv_ishr hx hb dX12_four_17 ?_
  refine lv_topi (fun x18 ex18 => ?_)
  have ezx18 := ex18
  replace hM := hM.lt (o32_e (f := fun x y => x >>> (y &&& 31)) ezx18 rfl (by decide))
  refine lv_i2b hx hb dX12_four_18 rfl ?_
  refine lv_topi (fun x19 ex19 => ?_)
  replace hM := hM.lt (mB_e ex19)
  refine tk_bastv hC hK hw hT kM_at1 (by decide) rfl rfl (show 0 ≤ x12.toInt by first | with_reducible assumption | omega) (show x12.toInt < 400 by first | with_reducible assumption | omega) dX12_four_19 (fun H locs w20 hw hT k22 c21 => ?_)
  obtain ⟨z23, ez23⟩ : ∃ z : Int32, z = x19.toInt8.toInt32 := ⟨_, rfl⟩
  have c21 := c21.trans ez23.symm
  replace hM := hM.lt (mB_e ez23)
  replace hM := hM.wr (sI_up k22 c21)
  have hF := hF.put kM_at1 (inE_of (a := 0) (b := 400) (by decide) (show 0 ≤ x12.toInt.toNat by omega) (show x12.toInt.toNat ≤ 400 by omega)) k22
  have c24 := k22.gi (Or.inl (tk_ne kM_at0 kM_at1 (by decide))) c14
  refine lv_aload_n hx hb dX12_four_20 rfl (lv_at hl 1 rfl) ?_
  refine lv_dup hx hb dX12_four_21 rfl ?_
  refine tk_geti hC hK hw hT hinX12 kM_at0 (by decide) rfl 1 (by decide) (List.mem_cons_of_mem _ uw_8_7) rfl rfl dX12_four_22 (fun x25 c26 rx25 tx25 => ?_)
  refine wk_top x12 (c26.symm.trans c24) ?_
  replace hM := hM.rd (sI_at c24)
  refine lv_iconst (v := 1) hx hb dX12_four_25 (by decide) ?_
  refine lv_iadd hx hb dX12_four_26 ?_
  refine lv_topi (fun x27 ex27 => ?_)
  have ezx27 := ex27
  have ex27 : x27.toInt = x12.toInt + (1 : Int) := by rw [ex27]; exact wk_add (show (-2147483648) ≤ x12.toInt + (1 : Int) by omega) (show x12.toInt + (1 : Int) ≤ 2147483647 by omega)
  replace hM := hM.lt ex27.symm
  refine tk_puti hC hK hw hT hinX12 tyX12_ok nmX12 kM_at0 (by decide) rfl rfl 1 (by decide) (List.mem_cons_of_mem _ uw_8_7) rfl rfl rfl rfl (show 0 ≤ x27.toInt by first | with_reducible assumption | omega) (show x27.toInt ≤ 400 by first | with_reducible assumption | omega) dX12_four_27 (fun H locs w28 hw hT k30 c29 => ?_)
  replace hM := hM.wr (sI_up k30 c29)
  have hF := hF.put kM_at0 (k := 1) (by decide) k30
  refine lv_iinc (v := 8) (lv' := [(2, .int 8), (0, .ref (ad 0)), (1, .int a1)]) hx hb dX12_four_30 hl (k := 0) rfl (by decide) (by decide) rfl (fun ls hl => ?_)
  refine lv_goto (tgt := 3) hx hb dX12_four_33 (by decide) ?_
  refine lv_iload_n hx hb dX12_four_3 rfl (lv_at hl 0 rfl) ?_
  refine lv_if_lt (tgt := 36) hx hb dX12_four_4 (by decide) (fun c => absurd c (by decide)) (fun _ => ?_)
  refine lv_aload_n hx hb dX12_four_7 rfl (lv_at hl 1 rfl) ?_
  refine tk_getA hC hK hw hT hinX12 kM_at0 (by decide) rfl 0 (by decide) (List.mem_cons_of_mem _ uw_6_14) rfl rfl dX12_four_8 ?_
  refine lv_aload_n hx hb dX12_four_11 rfl (lv_at hl 1 rfl) ?_
  refine tk_geti hC hK hw hT hinX12 kM_at0 (by decide) rfl 1 (by decide) (List.mem_cons_of_mem _ uw_8_7) rfl rfl dX12_four_12 (fun x31 c32 rx31 tx31 => ?_)
  refine wk_top x27 (c32.symm.trans c29) ?_
  replace hM := hM.rd (sI_at c29)
  refine lv_iload_n hx hb dX12_four_15 rfl (lv_at hl 2 rfl) ?_
  refine lv_iload_n hx hb dX12_four_16 rfl (lv_at hl 0 rfl) ?_
  refine lv_ishr hx hb dX12_four_17 ?_
  refine lv_topi (fun x33 ex33 => ?_)
  have ezx33 := ex33
  replace hM := hM.lt (o32_e (f := fun x y => x >>> (y &&& 31)) ezx33 rfl (by decide))
  refine lv_i2b hx hb dX12_four_18 rfl ?_
  refine lv_topi (fun x34 ex34 => ?_)
  replace hM := hM.lt (mB_e ex34)
  refine tk_bastv hC hK hw hT kM_at1 (by decide) rfl rfl (show 0 ≤ x27.toInt by first | with_reducible assumption | omega) (show x27.toInt < 400 by first | with_reducible assumption | omega) dX12_four_19 (fun H locs w35 hw hT k37 c36 => ?_)
  obtain ⟨z38, ez38⟩ : ∃ z : Int32, z = x34.toInt8.toInt32 := ⟨_, rfl⟩
  have c36 := c36.trans ez38.symm
  replace hM := hM.lt (mB_e ez38)
  replace hM := hM.wr (sI_up k37 c36)
  have hF := hF.put kM_at1 (inE_of (a := 0) (b := 400) (by decide) (show 0 ≤ x27.toInt.toNat by omega) (show x27.toInt.toNat ≤ 400 by omega)) k37
  have c39 := k37.gi (Or.inl (tk_ne kM_at0 kM_at1 (by decide))) c29
  refine lv_aload_n hx hb dX12_four_20 rfl (lv_at hl 1 rfl) ?_
  refine lv_dup hx hb dX12_four_21 rfl ?_
  refine tk_geti hC hK hw hT hinX12 kM_at0 (by decide) rfl 1 (by decide) (List.mem_cons_of_mem _ uw_8_7) rfl rfl dX12_four_22 (fun x40 c41 rx40 tx40 => ?_)
  refine wk_top x27 (c41.symm.trans c39) ?_
  replace hM := hM.rd (sI_at c39)
  refine lv_iconst (v := 1) hx hb dX12_four_25 (by decide) ?_
  refine lv_iadd hx hb dX12_four_26 ?_
  refine lv_topi (fun x42 ex42 => ?_)
  have ezx42 := ex42
  have ex42 : x42.toInt = x27.toInt + (1 : Int) := by rw [ex42]; exact wk_add (show (-2147483648) ≤ x27.toInt + (1 : Int) by omega) (show x27.toInt + (1 : Int) ≤ 2147483647 by omega)
  replace hM := hM.lt ex42.symm
  refine tk_puti hC hK hw hT hinX12 tyX12_ok nmX12 kM_at0 (by decide) rfl rfl 1 (by decide) (List.mem_cons_of_mem _ uw_8_7) rfl rfl rfl rfl (show 0 ≤ x42.toInt by first | with_reducible assumption | omega) (show x42.toInt ≤ 400 by first | with_reducible assumption | omega) dX12_four_27 (fun H locs w43 hw hT k45 c44 => ?_)
  replace hM := hM.wr (sI_up k45 c44)
  have hF := hF.put kM_at0 (k := 1) (by decide) k45
  refine lv_iinc (v := 0) (lv' := [(2, .int 0), (0, .ref (ad 0)), (1, .int a1)]) hx hb dX12_four_30 hl (k := 0) rfl (by decide) (by decide) rfl (fun ls hl => ?_)
  refine lv_goto (tgt := 3) hx hb dX12_four_33 (by decide) ?_
  refine lv_iload_n hx hb dX12_four_3 rfl (lv_at hl 0 rfl) ?_
  refine lv_if_lt (tgt := 36) hx hb dX12_four_4 (by decide) (fun c => absurd c (by decide)) (fun _ => ?_)
  refine lv_aload_n hx hb dX12_four_7 rfl (lv_at hl 1 rfl) ?_
  refine tk_getA hC hK hw hT hinX12 kM_at0 (by decide) rfl 0 (by decide) (List.mem_cons_of_mem _ uw_6_14) rfl rfl dX12_four_8 ?_
  refine lv_aload_n hx hb dX12_four_11 rfl (lv_at hl 1 rfl) ?_
  refine tk_geti hC hK hw hT hinX12 kM_at0 (by decide) rfl 1 (by decide) (List.mem_cons_of_mem _ uw_8_7) rfl rfl dX12_four_12 (fun x46 c47 rx46 tx46 => ?_)
  refine wk_top x42 (c47.symm.trans c44) ?_
  replace hM := hM.rd (sI_at c44)
  refine lv_iload_n hx hb dX12_four_15 rfl (lv_at hl 2 rfl) ?_
  refine lv_iload_n hx hb dX12_four_16 rfl (lv_at hl 0 rfl) ?_
  refine lv_ishr hx hb dX12_four_17 ?_
  refine lv_topi (fun x48 ex48 => ?_)
  have ezx48 := ex48
  replace hM := hM.lt (o32_e (f := fun x y => x >>> (y &&& 31)) ezx48 rfl (by decide))
  refine lv_i2b hx hb dX12_four_18 rfl ?_
  refine lv_topi (fun x49 ex49 => ?_)
  replace hM := hM.lt (mB_e ex49)
  refine tk_bastv hC hK hw hT kM_at1 (by decide) rfl rfl (show 0 ≤ x42.toInt by first | with_reducible assumption | omega) (show x42.toInt < 400 by first | with_reducible assumption | omega) dX12_four_19 (fun H locs w50 hw hT k52 c51 => ?_)
  obtain ⟨z53, ez53⟩ : ∃ z : Int32, z = x49.toInt8.toInt32 := ⟨_, rfl⟩
  have c51 := c51.trans ez53.symm
  replace hM := hM.lt (mB_e ez53)
  replace hM := hM.wr (sI_up k52 c51)
  have hF := hF.put kM_at1 (inE_of (a := 0) (b := 400) (by decide) (show 0 ≤ x42.toInt.toNat by omega) (show x42.toInt.toNat ≤ 400 by omega)) k52
  have c54 := k52.gi (Or.inl (tk_ne kM_at0 kM_at1 (by decide))) c44
  refine lv_aload_n hx hb dX12_four_20 rfl (lv_at hl 1 rfl) ?_
  refine lv_dup hx hb dX12_four_21 rfl ?_
  refine tk_geti hC hK hw hT hinX12 kM_at0 (by decide) rfl 1 (by decide) (List.mem_cons_of_mem _ uw_8_7) rfl rfl dX12_four_22 (fun x55 c56 rx55 tx55 => ?_)
  refine wk_top x42 (c56.symm.trans c54) ?_
  replace hM := hM.rd (sI_at c54)
  refine lv_iconst (v := 1) hx hb dX12_four_25 (by decide) ?_
  refine lv_iadd hx hb dX12_four_26 ?_
  refine lv_topi (fun x57 ex57 => ?_)
  have ezx57 := ex57
  have ex57 : x57.toInt = x42.toInt + (1 : Int) := by rw [ex57]; exact wk_add (show (-2147483648) ≤ x42.toInt + (1 : Int) by omega) (show x42.toInt + (1 : Int) ≤ 2147483647 by omega)
  replace hM := hM.lt ex57.symm
  refine tk_puti hC hK hw hT hinX12 tyX12_ok nmX12 kM_at0 (by decide) rfl rfl 1 (by decide) (List.mem_cons_of_mem _ uw_8_7) rfl rfl rfl rfl (show 0 ≤ x57.toInt by first | with_reducible assumption | omega) (show x57.toInt ≤ 400 by first | with_reducible assumption | omega) dX12_four_27 (fun H locs w58 hw hT k60 c59 => ?_)
  replace hM := hM.wr (sI_up k60 c59)
  have hF := hF.put kM_at0 (k := 1) (by decide) k60
  refine lv_iinc (v := (-8)) (lv' := [(2, .int (-8)), (0, .ref (ad 0)), (1, .int a1)]) hx hb dX12_four_30 hl (k := 0) rfl (by decide) (by decide) rfl (fun ls hl => ?_)
  refine lv_goto (tgt := 3) hx hb dX12_four_33 (by decide) ?_
  refine lv_iload_n hx hb dX12_four_3 rfl (lv_at hl 0 rfl) ?_
  refine lv_if_lt (tgt := 36) hx hb dX12_four_4 (by decide) (fun _ => ?_) (fun c => absurd (by decide) c)
  exact tk_vret hC hr hlocks hK ⟨hT, hF, hM.ret rfl, ⟨x57, c59, (show 8 ≤ x57.toInt by first | with_reducible assumption | omega), (show x57.toInt ≤ 388 by first | with_reducible assumption | omega)⟩⟩ hw dX12_four_36
abbrev Pz_X12_four_3 (ad : Nat → Nat) (cy : Nat → ClassId) (B : Int) (qr : Nat) (s1 : Int) (a1 : Int32) (w0 : va_W) : va_W → Prop := fun u => TW ksM ad cy B qr 12 u ∧ FE ksM [(12, 1, 1), (60, 0, 400)] w0 u ∧ Ev (fun n => m_X12_four n 0 a1.toInt (sI w0)) (0, sI u) ∧ (((∃ y : Int32, gi u 0 1 = y ∧ 12 ≤ y.toInt ∧ y.toInt ≤ 392)))
set_option maxHeartbeats 4000000 in
set_option maxRecDepth 100000 in
theorem kz_X12_four_3 (l : Launch) (adK adV : Nat → Nat) (dC : Nat → ClassId) (dI : Nat → Nat → Nat) (cy : Nat → ClassId) (ad : Nat → Nat) (B : Int) (hB0 : 100000 ≤ B) (hB1 : B ≤ 1073741824) (qr : Nat) (s1 : Int)  (a1 : Int32) (w0 : va_W) (sz : Nat) (hT : TW ksM ad cy B qr 12 w0) (f0_ : Int32) (cf0_ : gi w0 0 1 = f0_) (rf0_ : 8 ≤ f0_.toInt) (tf0_ : f0_.toInt ≤ 388) : Met l yX12_four (wu yX12_four cX12_four 3 none) ({ frames := 1, cells := 0, slots := 0, locals := 12 }) (va_Pc [.ref (ad 0), .int a1] (wpreS adK adV dC dI cy sz w0)) (va_Qv (Pz_X12_four_3 ad cy B qr s1 a1 w0) (fun u : va_W => wpost dC dI cy (va_A w0 sz) u) (va_A w0 sz)) 0 0 (va_A w0 sz) := by
  refine Met.ofW (cc := cX12_four) (maxL := 3) (ret := none) (by decide) rfl ?_
  intro p e s m args below meth c s₁ Bk hml hv
  obtain ⟨rfl, ⟨hsz, hP, hK, hD0⟩, hE, hSR⟩ := hv
  have hx := Bk.exec
  have hb := Bk.bytes
  have hr := Bk.returns
  have hlocks := Bk.notSynchronized
  have hC : CallFix p m c cX12_four 3 s _ (wu yX12_four cX12_four 3 none) RX12 := ⟨hx, hb, hml, findClass_of_methodNamed Bk.named, atoms_spec (ws := (wu yX12_four cX12_four 3 none)) Bk.pre⟩
  subst hsz
  have hD := hD0.self (sz := s.heap.size)
  generalize hAe : va_A w0 s.heap.size = A at hD hE ⊢
  have hA : ∀ q : Nat, s.heap.size ≤ q → A q := fun q h => by rw [← hAe]; exact Or.inr h
  have hw : Wd dC dI A s.heap s.heap [] w0 := ⟨hP, hD, va_S.rf⟩
  have hF : FE ksM [(12, 1, 1), (60, 0, 400)] w0 w0 := FE.rf
  have hl := lv_entry ([.ref (ad 0), .int a1]) (n := 3) (Nat.le_of_ble_eq_true rfl)
  rw [lg_entry_eq]
  generalize (lg_sl ([.ref (ad 0), .int a1]) ++ List.replicate (3 - (lg_sl ([.ref (ad 0), .int a1])).length) Slot.unset).toArray = ls at hl ⊢
  have hl : lv_has ls 3 [(0, .ref (ad 0)), (1, .int a1)] := hl
  generalize hloc : ([] : List Loc) = locs at hw ⊢
  have hinX12 : ∀ w ∈ u_ws RX12 TX12 42, w ∈ (wu yX12_four cX12_four 3 none) := fun _ h => List.mem_cons_of_mem _ (up_71 h)
  have hM : TT (fun n => m_X12_four n 0 a1.toInt (sI w0)) (fun n => m_X12_four n 0 a1.toInt (sI w0)) := TT.rf
  refine lv_bipush (v := 24) hx hb dX12_four_0 (by decide) ?_
  refine lv_istore_n (lv' := [(2, .int 24), (0, .ref (ad 0)), (1, .int a1)]) hx hb dX12_four_2 rfl hl (by decide) rfl (fun ls hl => ?_)
  refine lv_iload_n hx hb dX12_four_3 rfl (lv_at hl 0 rfl) ?_
  refine lv_if_lt (tgt := 36) hx hb dX12_four_4 (by decide) (fun c => absurd c (by decide)) (fun _ => ?_)
  refine lv_aload_n hx hb dX12_four_7 rfl (lv_at hl 1 rfl) ?_
  refine tk_getA hC hK hw hT hinX12 kM_at0 (by decide) rfl 0 (by decide) (List.mem_cons_of_mem _ uw_6_14) rfl rfl dX12_four_8 ?_
  refine lv_aload_n hx hb dX12_four_11 rfl (lv_at hl 1 rfl) ?_
  refine tk_geti hC hK hw hT hinX12 kM_at0 (by decide) rfl 1 (by decide) (List.mem_cons_of_mem _ uw_8_7) rfl rfl dX12_four_12 (fun x1 c2 rx1 tx1 => ?_)
  refine wk_top f0_ (c2.symm.trans cf0_) ?_
  replace hM := hM.rd (sI_at cf0_)
  refine lv_iload_n hx hb dX12_four_15 rfl (lv_at hl 2 rfl) ?_
  refine lv_iload_n hx hb dX12_four_16 rfl (lv_at hl 0 rfl) ?_
  refine lv_ishr hx hb dX12_four_17 ?_
  refine lv_topi (fun x3 ex3 => ?_)
  have ezx3 := ex3
  replace hM := hM.lt (o32_e (f := fun x y => x >>> (y &&& 31)) ezx3 rfl (by decide))
  refine lv_i2b hx hb dX12_four_18 rfl ?_
  refine lv_topi (fun x4 ex4 => ?_)
  replace hM := hM.lt (mB_e ex4)
  refine tk_bastv hC hK hw hT kM_at1 (by decide) rfl rfl (show 0 ≤ f0_.toInt from Int.le_trans (by decide) rf0_) (show f0_.toInt < 400 from Int.lt_of_le_of_lt tf0_ (by decide)) dX12_four_19 (fun H locs w5 hw hT k7 c6 => ?_)
  obtain ⟨z8, ez8⟩ : ∃ z : Int32, z = x4.toInt8.toInt32 := ⟨_, rfl⟩
  have c6 := c6.trans ez8.symm
  replace hM := hM.lt (mB_e ez8)
  replace hM := hM.wr (sI_up k7 c6)
  have hF := hF.put kM_at1 (inE_of (a := 0) (b := 400) (by decide) (show 0 ≤ f0_.toInt.toNat by omega) (show f0_.toInt.toNat ≤ 400 by omega)) k7
  have c9 := k7.gi (Or.inl (tk_ne kM_at0 kM_at1 (by decide))) cf0_
  refine lv_aload_n hx hb dX12_four_20 rfl (lv_at hl 1 rfl) ?_
  refine lv_dup hx hb dX12_four_21 rfl ?_
  refine tk_geti hC hK hw hT hinX12 kM_at0 (by decide) rfl 1 (by decide) (List.mem_cons_of_mem _ uw_8_7) rfl rfl dX12_four_22 (fun x10 c11 rx10 tx10 => ?_)
  refine wk_top f0_ (c11.symm.trans c9) ?_
  replace hM := hM.rd (sI_at c9)
  refine lv_iconst (v := 1) hx hb dX12_four_25 (by decide) ?_
  refine lv_iadd hx hb dX12_four_26 ?_
  refine lv_topi (fun x12 ex12 => ?_)
  have ezx12 := ex12
  have ex12 : x12.toInt = f0_.toInt + (1 : Int) := by rw [ex12]; exact wk_add (show (-2147483648) ≤ f0_.toInt + (1 : Int) by omega) (show f0_.toInt + (1 : Int) ≤ 2147483647 by omega)
  replace hM := hM.lt ex12.symm
  refine tk_puti hC hK hw hT hinX12 tyX12_ok nmX12 kM_at0 (by decide) rfl rfl 1 (by decide) (List.mem_cons_of_mem _ uw_8_7) rfl rfl rfl rfl (show 0 ≤ x12.toInt by first | with_reducible assumption | omega) (show x12.toInt ≤ 400 by first | with_reducible assumption | omega) dX12_four_27 (fun H locs w13 hw hT k15 c14 => ?_)
  replace hM := hM.wr (sI_up k15 c14)
  have hF := hF.put kM_at0 (k := 1) (by decide) k15
  refine lv_iinc (v := 16) (lv' := [(2, .int 16), (0, .ref (ad 0)), (1, .int a1)]) hx hb dX12_four_30 hl (k := 0) rfl (by decide) (by decide) rfl (fun ls hl => ?_)
  refine lv_goto (tgt := 3) hx hb dX12_four_33 (by decide) ?_
  refine lv_iload_n hx hb dX12_four_3 rfl (lv_at hl 0 rfl) ?_
  refine lv_if_lt (tgt := 36) hx hb dX12_four_4 (by decide) (fun c => absurd c (by decide)) (fun _ => ?_)
  refine lv_aload_n hx hb dX12_four_7 rfl (lv_at hl 1 rfl) ?_
  refine tk_getA hC hK hw hT hinX12 kM_at0 (by decide) rfl 0 (by decide) (List.mem_cons_of_mem _ uw_6_14) rfl rfl dX12_four_8 ?_
  refine lv_aload_n hx hb dX12_four_11 rfl (lv_at hl 1 rfl) ?_
  refine tk_geti hC hK hw hT hinX12 kM_at0 (by decide) rfl 1 (by decide) (List.mem_cons_of_mem _ uw_8_7) rfl rfl dX12_four_12 (fun x16 c17 rx16 tx16 => ?_)
  refine wk_top x12 (c17.symm.trans c14) ?_
  replace hM := hM.rd (sI_at c14)
  refine lv_iload_n hx hb dX12_four_15 rfl (lv_at hl 2 rfl) ?_
  refine lv_iload_n hx hb dX12_four_16 rfl (lv_at hl 0 rfl) ?_
  refine lv_ishr hx hb dX12_four_17 ?_
  refine lv_topi (fun x18 ex18 => ?_)
  have ezx18 := ex18
  replace hM := hM.lt (o32_e (f := fun x y => x >>> (y &&& 31)) ezx18 rfl (by decide))
  refine lv_i2b hx hb dX12_four_18 rfl ?_
  refine lv_topi (fun x19 ex19 => ?_)
  replace hM := hM.lt (mB_e ex19)
  refine tk_bastv hC hK hw hT kM_at1 (by decide) rfl rfl (show 0 ≤ x12.toInt by first | with_reducible assumption | omega) (show x12.toInt < 400 by first | with_reducible assumption | omega) dX12_four_19 (fun H locs w20 hw hT k22 c21 => ?_)
  obtain ⟨z23, ez23⟩ : ∃ z : Int32, z = x19.toInt8.toInt32 := ⟨_, rfl⟩
  have c21 := c21.trans ez23.symm
  replace hM := hM.lt (mB_e ez23)
  replace hM := hM.wr (sI_up k22 c21)
  have hF := hF.put kM_at1 (inE_of (a := 0) (b := 400) (by decide) (show 0 ≤ x12.toInt.toNat by omega) (show x12.toInt.toNat ≤ 400 by omega)) k22
  have c24 := k22.gi (Or.inl (tk_ne kM_at0 kM_at1 (by decide))) c14
  refine lv_aload_n hx hb dX12_four_20 rfl (lv_at hl 1 rfl) ?_
  refine lv_dup hx hb dX12_four_21 rfl ?_
  refine tk_geti hC hK hw hT hinX12 kM_at0 (by decide) rfl 1 (by decide) (List.mem_cons_of_mem _ uw_8_7) rfl rfl dX12_four_22 (fun x25 c26 rx25 tx25 => ?_)
  refine wk_top x12 (c26.symm.trans c24) ?_
  replace hM := hM.rd (sI_at c24)
  refine lv_iconst (v := 1) hx hb dX12_four_25 (by decide) ?_
  refine lv_iadd hx hb dX12_four_26 ?_
  refine lv_topi (fun x27 ex27 => ?_)
  have ezx27 := ex27
  have ex27 : x27.toInt = x12.toInt + (1 : Int) := by rw [ex27]; exact wk_add (show (-2147483648) ≤ x12.toInt + (1 : Int) by omega) (show x12.toInt + (1 : Int) ≤ 2147483647 by omega)
  replace hM := hM.lt ex27.symm
  refine tk_puti hC hK hw hT hinX12 tyX12_ok nmX12 kM_at0 (by decide) rfl rfl 1 (by decide) (List.mem_cons_of_mem _ uw_8_7) rfl rfl rfl rfl (show 0 ≤ x27.toInt by first | with_reducible assumption | omega) (show x27.toInt ≤ 400 by first | with_reducible assumption | omega) dX12_four_27 (fun H locs w28 hw hT k30 c29 => ?_)
  replace hM := hM.wr (sI_up k30 c29)
  have hF := hF.put kM_at0 (k := 1) (by decide) k30
  refine lv_iinc (v := 8) (lv' := [(2, .int 8), (0, .ref (ad 0)), (1, .int a1)]) hx hb dX12_four_30 hl (k := 0) rfl (by decide) (by decide) rfl (fun ls hl => ?_)
  refine lv_goto (tgt := 3) hx hb dX12_four_33 (by decide) ?_
  refine lv_iload_n hx hb dX12_four_3 rfl (lv_at hl 0 rfl) ?_
  refine lv_if_lt (tgt := 36) hx hb dX12_four_4 (by decide) (fun c => absurd c (by decide)) (fun _ => ?_)
  refine lv_aload_n hx hb dX12_four_7 rfl (lv_at hl 1 rfl) ?_
  refine tk_getA hC hK hw hT hinX12 kM_at0 (by decide) rfl 0 (by decide) (List.mem_cons_of_mem _ uw_6_14) rfl rfl dX12_four_8 ?_
  refine lv_aload_n hx hb dX12_four_11 rfl (lv_at hl 1 rfl) ?_
  refine tk_geti hC hK hw hT hinX12 kM_at0 (by decide) rfl 1 (by decide) (List.mem_cons_of_mem _ uw_8_7) rfl rfl dX12_four_12 (fun x31 c32 rx31 tx31 => ?_)
  refine wk_top x27 (c32.symm.trans c29) ?_
  replace hM := hM.rd (sI_at c29)
  refine lv_iload_n hx hb dX12_four_15 rfl (lv_at hl 2 rfl) ?_
  refine lv_iload_n hx hb dX12_four_16 rfl (lv_at hl 0 rfl) ?_
  refine lv_ishr hx hb dX12_four_17 ?_
  refine lv_topi (fun x33 ex33 => ?_)
  have ezx33 := ex33
  replace hM := hM.lt (o32_e (f := fun x y => x >>> (y &&& 31)) ezx33 rfl (by decide))
  refine lv_i2b hx hb dX12_four_18 rfl ?_
  refine lv_topi (fun x34 ex34 => ?_)
  replace hM := hM.lt (mB_e ex34)
  refine tk_bastv hC hK hw hT kM_at1 (by decide) rfl rfl (show 0 ≤ x27.toInt by first | with_reducible assumption | omega) (show x27.toInt < 400 by first | with_reducible assumption | omega) dX12_four_19 (fun H locs w35 hw hT k37 c36 => ?_)
  obtain ⟨z38, ez38⟩ : ∃ z : Int32, z = x34.toInt8.toInt32 := ⟨_, rfl⟩
  have c36 := c36.trans ez38.symm
  replace hM := hM.lt (mB_e ez38)
  replace hM := hM.wr (sI_up k37 c36)
  have hF := hF.put kM_at1 (inE_of (a := 0) (b := 400) (by decide) (show 0 ≤ x27.toInt.toNat by omega) (show x27.toInt.toNat ≤ 400 by omega)) k37
  have c39 := k37.gi (Or.inl (tk_ne kM_at0 kM_at1 (by decide))) c29
  refine lv_aload_n hx hb dX12_four_20 rfl (lv_at hl 1 rfl) ?_
  refine lv_dup hx hb dX12_four_21 rfl ?_
  refine tk_geti hC hK hw hT hinX12 kM_at0 (by decide) rfl 1 (by decide) (List.mem_cons_of_mem _ uw_8_7) rfl rfl dX12_four_22 (fun x40 c41 rx40 tx40 => ?_)
  refine wk_top x27 (c41.symm.trans c39) ?_
  replace hM := hM.rd (sI_at c39)
  refine lv_iconst (v := 1) hx hb dX12_four_25 (by decide) ?_
  refine lv_iadd hx hb dX12_four_26 ?_
  refine lv_topi (fun x42 ex42 => ?_)
  have ezx42 := ex42
  have ex42 : x42.toInt = x27.toInt + (1 : Int) := by rw [ex42]; exact wk_add (show (-2147483648) ≤ x27.toInt + (1 : Int) by omega) (show x27.toInt + (1 : Int) ≤ 2147483647 by omega)
  replace hM := hM.lt ex42.symm
  refine tk_puti hC hK hw hT hinX12 tyX12_ok nmX12 kM_at0 (by decide) rfl rfl 1 (by decide) (List.mem_cons_of_mem _ uw_8_7) rfl rfl rfl rfl (show 0 ≤ x42.toInt by first | with_reducible assumption | omega) (show x42.toInt ≤ 400 by first | with_reducible assumption | omega) dX12_four_27 (fun H locs w43 hw hT k45 c44 => ?_)
  replace hM := hM.wr (sI_up k45 c44)
  have hF := hF.put kM_at0 (k := 1) (by decide) k45
  refine lv_iinc (v := 0) (lv' := [(2, .int 0), (0, .ref (ad 0)), (1, .int a1)]) hx hb dX12_four_30 hl (k := 0) rfl (by decide) (by decide) rfl (fun ls hl => ?_)
  refine lv_goto (tgt := 3) hx hb dX12_four_33 (by decide) ?_
  refine lv_iload_n hx hb dX12_four_3 rfl (lv_at hl 0 rfl) ?_
  refine lv_if_lt (tgt := 36) hx hb dX12_four_4 (by decide) (fun c => absurd c (by decide)) (fun _ => ?_)
  refine lv_aload_n hx hb dX12_four_7 rfl (lv_at hl 1 rfl) ?_
  refine tk_getA hC hK hw hT hinX12 kM_at0 (by decide) rfl 0 (by decide) (List.mem_cons_of_mem _ uw_6_14) rfl rfl dX12_four_8 ?_
  refine lv_aload_n hx hb dX12_four_11 rfl (lv_at hl 1 rfl) ?_
  refine tk_geti hC hK hw hT hinX12 kM_at0 (by decide) rfl 1 (by decide) (List.mem_cons_of_mem _ uw_8_7) rfl rfl dX12_four_12 (fun x46 c47 rx46 tx46 => ?_)
  refine wk_top x42 (c47.symm.trans c44) ?_
  replace hM := hM.rd (sI_at c44)
  refine lv_iload_n hx hb dX12_four_15 rfl (lv_at hl 2 rfl) ?_
  refine lv_iload_n hx hb dX12_four_16 rfl (lv_at hl 0 rfl) ?_
  refine lv_ishr hx hb dX12_four_17 ?_
  refine lv_topi (fun x48 ex48 => ?_)
  have ezx48 := ex48
  replace hM := hM.lt (o32_e (f := fun x y => x >>> (y &&& 31)) ezx48 rfl (by decide))
  refine lv_i2b hx hb dX12_four_18 rfl ?_
  refine lv_topi (fun x49 ex49 => ?_)
  replace hM := hM.lt (mB_e ex49)
  refine tk_bastv hC hK hw hT kM_at1 (by decide) rfl rfl (show 0 ≤ x42.toInt by first | with_reducible assumption | omega) (show x42.toInt < 400 by first | with_reducible assumption | omega) dX12_four_19 (fun H locs w50 hw hT k52 c51 => ?_)
  obtain ⟨z53, ez53⟩ : ∃ z : Int32, z = x49.toInt8.toInt32 := ⟨_, rfl⟩
  have c51 := c51.trans ez53.symm
  replace hM := hM.lt (mB_e ez53)
  replace hM := hM.wr (sI_up k52 c51)
  have hF := hF.put kM_at1 (inE_of (a := 0) (b := 400) (by decide) (show 0 ≤ x42.toInt.toNat by omega) (show x42.toInt.toNat ≤ 400 by omega)) k52
  have c54 := k52.gi (Or.inl (tk_ne kM_at0 kM_at1 (by decide))) c44
  refine lv_aload_n hx hb dX12_four_20 rfl (lv_at hl 1 rfl) ?_
  refine lv_dup hx hb dX12_four_21 rfl ?_
  refine tk_geti hC hK hw hT hinX12 kM_at0 (by decide) rfl 1 (by decide) (List.mem_cons_of_mem _ uw_8_7) rfl rfl dX12_four_22 (fun x55 c56 rx55 tx55 => ?_)
  refine wk_top x42 (c56.symm.trans c54) ?_
  replace hM := hM.rd (sI_at c54)
  refine lv_iconst (v := 1) hx hb dX12_four_25 (by decide) ?_
  refine lv_iadd hx hb dX12_four_26 ?_
  refine lv_topi (fun x57 ex57 => ?_)
  have ezx57 := ex57
  have ex57 : x57.toInt = x42.toInt + (1 : Int) := by rw [ex57]; exact wk_add (show (-2147483648) ≤ x42.toInt + (1 : Int) by omega) (show x42.toInt + (1 : Int) ≤ 2147483647 by omega)
  replace hM := hM.lt ex57.symm
  refine tk_puti hC hK hw hT hinX12 tyX12_ok nmX12 kM_at0 (by decide) rfl rfl 1 (by decide) (List.mem_cons_of_mem _ uw_8_7) rfl rfl rfl rfl (show 0 ≤ x57.toInt by first | with_reducible assumption | omega) (show x57.toInt ≤ 400 by first | with_reducible assumption | omega) dX12_four_27 (fun H locs w58 hw hT k60 c59 => ?_)
  replace hM := hM.wr (sI_up k60 c59)
  have hF := hF.put kM_at0 (k := 1) (by decide) k60
  refine lv_iinc (v := (-8)) (lv' := [(2, .int (-8)), (0, .ref (ad 0)), (1, .int a1)]) hx hb dX12_four_30 hl (k := 0) rfl (by decide) (by decide) rfl (fun ls hl => ?_)
  refine lv_goto (tgt := 3) hx hb dX12_four_33 (by decide) ?_
  refine lv_iload_n hx hb dX12_four_3 rfl (lv_at hl 0 rfl) ?_
  refine lv_if_lt (tgt := 36) hx hb dX12_four_4 (by decide) (fun _ => ?_) (fun c => absurd (by decide) c)
  exact tk_vret hC hr hlocks hK ⟨hT, hF, hM.ret rfl, ⟨x57, c59, (show 12 ≤ x57.toInt by first | with_reducible assumption | omega), (show x57.toInt ≤ 392 by first | with_reducible assumption | omega)⟩⟩ hw dX12_four_36
