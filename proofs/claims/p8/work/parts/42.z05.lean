abbrev Pz_X4_sumOfErrands_1 (ad : Nat → Nat) (cy : Nat → ClassId) (B : Int) (qr : Nat) (s1 : Int) (a1 : Int32) (a2 : Int32) (w0 : va_W) : Int32 → va_W → Prop := fun r u => TW ksC ad cy B qr s1 u ∧ FE ksC [(48, 0, 10), (49, 0, 10)] w0 u ∧ Ev (fun n => m_X4_sumOfErrands n 155 a1.toInt a2.toInt (sI w0)) (r.toInt, sI u) ∧ ((True))
set_option maxHeartbeats 4000000 in
set_option maxRecDepth 100000 in
theorem kz_X4_sumOfErrands_1 (l : Launch) (adK adV : Nat → Nat) (dC : Nat → ClassId) (dI : Nat → Nat → Nat) (cy : Nat → ClassId) (ad : Nat → Nat) (B : Int) (hB0 : 2147483648 ≤ B) (hB1 : B ≤ 1152921504606846976) (qr : Nat) (s1 : Int)  (a1 : Int32) (ra1 : 0 ≤ a1.toInt) (ta1 : a1.toInt ≤ 99999) (a2 : Int32) (ta2 : a2.toInt ≤ 14007) (w0 : va_W) (sz : Nat) (hT : TW ksC ad cy B qr s1 w0)  : Met l yX4_sumOfErrands (wu yX4_sumOfErrands cX4_sumOfErrands 6 (some .int)) ({ frames := 5, cells := 0, slots := 0, locals := 122 }) (va_Pc [.ref (ad 155), .int a1, .int a2] (wpreS adK adV dC dI cy sz w0)) (va_Qi (Pz_X4_sumOfErrands_1 ad cy B qr s1 a1 a2 w0) (fun u : va_W => wpost dC dI cy (va_A w0 sz) u) (va_A w0 sz)) 0 0 (va_A w0 sz) := by
  refine Met.ofW (cc := cX4_sumOfErrands) (maxL := 6) (ret := (some .int)) (by decide) rfl ?_
  intro p e s m args below meth c s₁ Bk hml hv
  obtain ⟨rfl, ⟨hsz, hP, hK, hD0⟩, hE, hSR⟩ := hv
  have hx := Bk.exec
  have hb := Bk.bytes
  have hr := Bk.returns
  have hlocks := Bk.notSynchronized
  have hC : CallFix p m c cX4_sumOfErrands 6 s _ (wu yX4_sumOfErrands cX4_sumOfErrands 6 (some .int)) RX4 := ⟨hx, hb, hml, findClass_of_methodNamed Bk.named, atoms_spec (ws := (wu yX4_sumOfErrands cX4_sumOfErrands 6 (some .int))) Bk.pre⟩
  subst hsz
  have hD := hD0.self (sz := s.heap.size)
  generalize hAe : va_A w0 s.heap.size = A at hD hE ⊢
  have hA : ∀ q : Nat, s.heap.size ≤ q → A q := fun q h => by rw [← hAe]; exact Or.inr h
  have hw : Wd dC dI A s.heap s.heap [] w0 := ⟨hP, hD, va_S.rf⟩
  have hF : FE ksC [(48, 0, 10), (49, 0, 10)] w0 w0 := FE.rf
  have hl := lv_entry ([.ref (ad 155), .int a1, .int a2]) (n := 6) (Nat.le_of_ble_eq_true rfl)
  rw [lg_entry_eq]
  generalize (lg_sl ([.ref (ad 155), .int a1, .int a2]) ++ List.replicate (6 - (lg_sl ([.ref (ad 155), .int a1, .int a2])).length) Slot.unset).toArray = ls at hl ⊢
  have hl : lv_has ls 6 [(0, .ref (ad 155)), (1, .int a1), (2, .int a2)] := hl
  generalize hloc : ([] : List Loc) = locs at hw ⊢
  have hinX4 : ∀ w ∈ u_ws RX4 TX4 4, w ∈ (wu yX4_sumOfErrands cX4_sumOfErrands 6 (some .int)) := fun _ h => List.mem_cons_of_mem _ (up_80 h)
  have hinX5 : ∀ w ∈ u_ws RX5 TX5 14, w ∈ (wu yX4_sumOfErrands cX4_sumOfErrands 6 (some .int)) := fun _ h => List.mem_cons_of_mem _ (up_76 h)
  have hinX7 : ∀ w ∈ u_ws RX7 TX7 12, w ∈ (wu yX4_sumOfErrands cX4_sumOfErrands 6 (some .int)) := fun _ h => List.mem_cons_of_mem _ (up_73 h)
  have J83 : ∀ (v83_3 : Int32) (v83_4 : Int32) (f83_38_10 : Int32) (H : Heap) (locs : List Loc) (ls : Array Slot) (w1 : va_W), 0 ≤ a1.toInt → a1.toInt ≤ 99999 → a2.toInt ≤ 14007 → 0 ≤ v83_4.toInt → v83_4.toInt ≤ 6 → 0 ≤ f83_38_10.toInt → f83_38_10.toInt ≤ 6 → Wd dC dI A s.heap H locs w1 → TW ksC ad cy B qr s1 w1 → FE ksC [(48, 0, 10), (49, 0, 10)] w0 w1 → gi w1 38 10 = f83_38_10 → TT (fun n => m_X4_sumOfErrands n 155 a1.toInt a2.toInt (sI w0)) (fun n => b_X4_sumOfErrands_83 (j_X4_sumOfErrands 155 n) n 155 (v83_3.toInt) (sI w1)) → lv_has ls 6 [(0, .ref (ad 155)), (1, .int a1), (2, .int a2), (3, .int v83_3), (4, .int v83_4)] → W p l e ({ frames := 5, cells := 0, slots := 0, locals := 122 }) s m (List.toArray [.ref (ad 155), .int a1, .int a2]) below meth c H locs 0 0 (MQ below (va_Qi (Pz_X4_sumOfErrands_1 ad cy B qr s1 a1 a2 w0) (fun u : va_W => wpost dC dI cy A u) A) (List.toArray [.ref (ad 155), .int a1, .int a2]) s 0 0 A) (F0 m 83 ls []) := by
    intro v83_3 v83_4 f83_38_10 H locs ls w1 r2 t3 t4 r5 t6 r7 t8 hw hT hF c9 hM hl
    refine lv_iload_n hx hb dX4_sumOfErrands_83 rfl (lv_at hl 3 rfl) ?_
    exact tk_iret hC hr hlocks hK ⟨hT, hF, hM.ret rfl, trivial⟩ hw dX4_sumOfErrands_84
  have L5 : ∀ (n5 : Nat) (v5_3 : Int32) (v5_4 : Int32) (H : Heap) (locs : List Loc) (ls : Array Slot) (w10 : va_W), 0 ≤ a1.toInt → a1.toInt ≤ 99999 → a2.toInt ≤ 14007 → 0 ≤ v5_4.toInt → v5_4.toInt ≤ 6 → (6 - v5_4.toInt).toNat < n5 → Wd dC dI A s.heap H locs w10 → TW ksC ad cy B qr s1 w10 → FE ksC [(48, 0, 10), (49, 0, 10)] w0 w10 → TT (fun n => m_X4_sumOfErrands n 155 a1.toInt a2.toInt (sI w0)) (fun n => j_X4_sumOfErrands 155 n 5 [a1.toInt, a2.toInt, v5_3.toInt, v5_4.toInt] (sI w10)) → lv_has ls 6 [(0, .ref (ad 155)), (1, .int a1), (2, .int a2), (3, .int v5_3), (4, .int v5_4)] → W p l e ({ frames := 5, cells := 0, slots := 0, locals := 122 }) s m (List.toArray [.ref (ad 155), .int a1, .int a2]) below meth c H locs 0 0 (MQ below (va_Qi (Pz_X4_sumOfErrands_1 ad cy B qr s1 a1 a2 w0) (fun u : va_W => wpost dC dI cy A u) A) (List.toArray [.ref (ad 155), .int a1, .int a2]) s 0 0 A) (F0 m 5 ls []) := by
    intro n5
    induction n5 with
    | zero => intro v5_3 v5_4 H locs ls w10 r11 t12 t13 r14 t15 hm5 hw hT hF hM hl; omega
    | succ n5 ih5 =>
      intro v5_3 v5_4 H locs ls w10 r11 t12 t13 r14 t15 hm5 hw hT hF hM hl
      replace hM := hM.suc (fun _ => e_X4_sumOfErrands_5)
      refine lv_iload hx hb dX4_sumOfErrands_5 (lv_at hl 4 rfl) ?_
      refine lv_aload_n hx hb dX4_sumOfErrands_7 rfl (lv_at hl 0 rfl) ?_
      refine tk_getA hC hK hw hT hinX4 kC_at155 (by decide) rfl 0 (by decide) (List.mem_cons_of_mem _ uw_5_21) rfl rfl dX4_sumOfErrands_8 ?_
      refine tk_geti hC hK hw hT hinX5 kC_at38 (by decide) rfl 10 (by decide) (List.mem_cons_of_mem _ uw_66_9) rfl rfl dX4_sumOfErrands_11 (fun x16 c17 rx16 tx16 => ?_)
      replace hM := hM.rd (sI_at c17)
      refine lv_icmp_ge (tgt := 83) hx hb dX4_sumOfErrands_14 (by decide) (fun c18 => ?_) (fun c18 => ?_)
      · have c18 : x16.toInt ≤ v5_4.toInt := wk_le.mp c18
        replace hM := hM.pos c18
        exact J83 v5_3 v5_4 x16 H locs ls w10 (show 0 ≤ a1.toInt from r11) (show a1.toInt ≤ 99999 from t12) (show a2.toInt ≤ 14007 from t13) (show 0 ≤ v5_4.toInt from r14) (show v5_4.toInt ≤ 6 from t15) (show 0 ≤ x16.toInt from rx16) (show x16.toInt ≤ 6 from tx16)  hw hT hF c17 hM (lv_sub hl [0, 1, 2, 3, 4] rfl)
      · have c18 : v5_4.toInt < x16.toInt := wk_leF c18
        replace hM := hM.neg (Int.not_le.mpr c18)
        refine lv_iload_n hx hb dX4_sumOfErrands_17 rfl (lv_at hl 3 rfl) ?_
        refine lv_iload_n hx hb dX4_sumOfErrands_18 rfl (lv_at hl 2 rfl) ?_
        refine lv_icmp_ge (tgt := 83) hx hb dX4_sumOfErrands_19 (by decide) (fun c19 => ?_) (fun c19 => ?_)
        · have c19 : a2.toInt ≤ v5_3.toInt := wk_le.mp c19
          replace hM := hM.pos c19
          exact J83 v5_3 v5_4 x16 H locs ls w10 (show 0 ≤ a1.toInt from r11) (show a1.toInt ≤ 99999 from t12) (show a2.toInt ≤ 14007 from t13) (show 0 ≤ v5_4.toInt from r14) (show v5_4.toInt ≤ 6 from t15) (show 0 ≤ x16.toInt from rx16) (show x16.toInt ≤ 6 from tx16)  hw hT hF c17 hM (lv_sub hl [0, 1, 2, 3, 4] rfl)
        · have c19 : v5_3.toInt < a2.toInt := wk_leF c19
          replace hM := hM.neg (Int.not_le.mpr c19)
          refine lv_aload_n hx hb dX4_sumOfErrands_22 rfl (lv_at hl 0 rfl) ?_
          refine lv_aload_n hx hb dX4_sumOfErrands_23 rfl (lv_at hl 0 rfl) ?_
          refine tk_getA hC hK hw hT hinX4 kC_at155 (by decide) rfl 1 (by decide) (List.mem_cons_of_mem _ uw_5_23) rfl rfl dX4_sumOfErrands_24 ?_
          refine tk_geti hC hK hw hT hinX7 kC_at39 (by decide) rfl 9 (by decide) (List.mem_cons_of_mem _ uw_51_18) rfl rfl dX4_sumOfErrands_27 (fun x20 c21 rx20 tx20 => ?_)
          replace hM := hM.rd (sI_at c21)
          refine lv_iconst (v := 1) hx hb dX4_sumOfErrands_30 (by decide) ?_
          refine lv_iadd hx hb dX4_sumOfErrands_31 ?_
          refine lv_topi (fun x22 ex22 => ?_)
          have ezx22 := ex22
          have ex22 : x22.toInt = x20.toInt + (1 : Int) := by rw [ex22]; exact wk_add (show (-2147483648) ≤ x20.toInt + (1 : Int) by omega) (show x20.toInt + (1 : Int) ≤ 2147483647 by omega)
          replace hM := hM.lt ex22.symm
          refine lv_aload_n hx hb dX4_sumOfErrands_32 rfl (lv_at hl 0 rfl) ?_
          refine tk_getA hC hK hw hT hinX4 kC_at155 (by decide) rfl 0 (by decide) (List.mem_cons_of_mem _ uw_5_21) rfl rfl dX4_sumOfErrands_33 ?_
          refine tk_getO hC hK hw hT hinX5 kC_at38 (by decide) rfl 3 (by decide) (List.mem_cons_of_mem _ uw_66_10) rfl rfl dX4_sumOfErrands_36 ?_
          refine lv_iload hx hb dX4_sumOfErrands_39 (lv_at hl 4 rfl) ?_
          refine tk_iald hC hK hw hT kC_at50 rfl rfl (show 0 ≤ v5_4.toInt from r14) (show v5_4.toInt < 6 by omega) dX4_sumOfErrands_41 (fun x23 c24 rx23 tx23 => ?_)
          have hox23 := c24
          replace hM := hM.rd (sI_at hox23)
          refine lv_aload_n hx hb dX4_sumOfErrands_42 rfl (lv_at hl 0 rfl) ?_
          refine tk_getA hC hK hw hT hinX4 kC_at155 (by decide) rfl 0 (by decide) (List.mem_cons_of_mem _ uw_5_21) rfl rfl dX4_sumOfErrands_43 ?_
          refine tk_getO hC hK hw hT hinX5 kC_at38 (by decide) rfl 4 (by decide) (List.mem_cons_of_mem _ uw_66_11) rfl rfl dX4_sumOfErrands_46 ?_
          refine lv_iload hx hb dX4_sumOfErrands_49 (lv_at hl 4 rfl) ?_
          refine tk_iald hC hK hw hT kC_at51 rfl rfl (show 0 ≤ v5_4.toInt from r14) (show v5_4.toInt < 6 by omega) dX4_sumOfErrands_51 (fun x25 c26 rx25 tx25 => ?_)
          have hox25 := c26
          replace hM := hM.rd (sI_at hox25)
          refine lv_iload_n hx hb dX4_sumOfErrands_52 rfl (lv_at hl 1 rfl) ?_
          refine tk_Vi hC hK hw hT hA hE hSR kC_at155 (by decide) rfl (kz_X4_firstArrival_1 l adK adV dC dI cy ad B (by omega) (by omega) qr s1   x22 (show 1 ≤ x22.toInt by omega) (show x22.toInt ≤ 13 by omega) x23 (show 0 ≤ x23.toInt from rx23) (show x23.toInt ≤ 9 from tx23) x25 (show 0 ≤ x25.toInt from rx25) (show x25.toInt ≤ 9 from tx25) a1 (show 0 ≤ a1.toInt from r11) (show a1.toInt ≤ 99999 from t12) w10 H.size hT ) (cwV 4 hC.2.2.2.2 uV_RX4_64 rfl rfl rfl (by decide +kernel) ⟨Nat.le_of_ble_eq_true rfl, Nat.le_of_ble_eq_true rfl⟩) rfl hl.1 rfl (Nat.le_of_ble_eq_true rfl) dX4_sumOfErrands_53 (fun r27 w29 H locs hp28 hw => ?_)
          obtain ⟨hT, k30, hv36, hg35⟩ := hp28
          have hF := hF.tr k30 (by decide)
          have c37 := k30.gi kC_at38 (by decide) c17
          have c38 := k30.gi kC_at39 (by decide) c21
          rcases hg35 with ⟨g31, g32, ⟨x33, c34, rx33, tx33⟩⟩ | rfl
          · replace hM := hM.call hv36 rfl
            refine lv_istore (lv' := [(5, .int r27), (0, .ref (ad 155)), (1, .int a1), (2, .int a2), (3, .int v5_3), (4, .int v5_4)]) hx hb dX4_sumOfErrands_56 hl (by decide) rfl (fun ls hl => ?_)
            refine lv_iload_n hx hb dX4_sumOfErrands_58 rfl (lv_at hl 4 rfl) ?_
            refine lv_iload hx hb dX4_sumOfErrands_59 (lv_at hl 0 rfl) ?_
            refine lv_iconst (v := (-1)) hx hb dX4_sumOfErrands_61 (by decide) ?_
            refine lv_icmp_ne (tgt := 71) hx hb dX4_sumOfErrands_62 (by decide) (fun c39 => ?_) (fun c39 => ?_)
            · have c39 : ¬ r27.toInt = (-1 : Int) := wk_eqF c39
              replace hM := hM.pos c39
              refine lv_iload hx hb dX4_sumOfErrands_71 (lv_at hl 0 rfl) ?_
              refine lv_iload_n hx hb dX4_sumOfErrands_73 rfl (lv_at hl 2 rfl) ?_
              refine lv_isub hx hb dX4_sumOfErrands_74 ?_
              refine lv_topi (fun x40 ex40 => ?_)
              have ezx40 := ex40
              have ex40 : x40.toInt = r27.toInt - a1.toInt := by rw [ex40]; exact wk_sub (show (-2147483648) ≤ r27.toInt - a1.toInt by omega) (show r27.toInt - a1.toInt ≤ 2147483647 by omega)
              replace hM := hM.lt ex40.symm
              refine lv_iadd hx hb dX4_sumOfErrands_75 ?_
              have nx41 := wk_i32 v5_3
              refine lv_topi (fun x42 ex42 => ?_)
              have ezx42 := ex42
              replace hM := hM.lt (o32_e (f := fun x y => x + y) ezx42 rfl rfl)
              refine lv_istore_n (lv' := [(3, .int x42), (5, .int r27), (0, .ref (ad 155)), (1, .int a1), (2, .int a2), (4, .int v5_4)]) hx hb dX4_sumOfErrands_76 rfl hl (by decide) rfl (fun ls hl => ?_)
              obtain ⟨x43, ex43⟩ : ∃ y : Int32, y = v5_4 + Int32.ofInt 1 := ⟨_, rfl⟩
              have erx43 := ex43
              refine lv_iinc (v := x43) (lv' := [(4, .int x43), (3, .int x42), (5, .int r27), (0, .ref (ad 155)), (1, .int a1), (2, .int a2)]) hx hb dX4_sumOfErrands_77 hl (k := 5) rfl ex43.symm (by decide) rfl (fun ls hl => ?_)
              have ex43 : x43.toInt = v5_4.toInt + 1 := by rw [ex43]; exact wk_add (y := 1) (show -2147483648 ≤ v5_4.toInt + 1 by omega) (show v5_4.toInt + 1 ≤ 2147483647 by omega)
              replace hM := hM.lt ex43.symm
              refine lv_goto (tgt := 5) hx hb dX4_sumOfErrands_80 (by decide) ?_
              exact ih5 x42 x43 H locs ls w29 (show 0 ≤ a1.toInt from r11) (show a1.toInt ≤ 99999 from t12) (show a2.toInt ≤ 14007 from t13) (show 0 ≤ x43.toInt by omega) (show x43.toInt ≤ 6 by omega) (show (6 - x43.toInt).toNat < n5 by omega) hw hT hF hM (lv_sub hl [3, 4, 5, 1, 0] rfl)
            · have c39 : r27.toInt = (-1 : Int) := wk_eq.mp c39
              replace hM := hM.neg (fun q => q c39)
              refine lv_sipush (v := 2001) hx hb dX4_sumOfErrands_65 (by decide) ?_
              refine lv_goto (tgt := 75) hx hb dX4_sumOfErrands_68 (by decide) ?_
              refine lv_iadd hx hb dX4_sumOfErrands_75 ?_
              have nx44 := wk_i32 v5_3
              refine lv_topi (fun x45 ex45 => ?_)
              have ezx45 := ex45
              have ex45 : x45.toInt = v5_3.toInt + (2001 : Int) := by rw [ex45]; exact wk_add (show (-2147483648) ≤ v5_3.toInt + (2001 : Int) by omega) (show v5_3.toInt + (2001 : Int) ≤ 2147483647 by omega)
              replace hM := hM.lt (o32_e (f := fun x y => x + y) ezx45 rfl (by decide))
              refine lv_istore_n (lv' := [(3, .int x45), (5, .int r27), (0, .ref (ad 155)), (1, .int a1), (2, .int a2), (4, .int v5_4)]) hx hb dX4_sumOfErrands_76 rfl hl (by decide) rfl (fun ls hl => ?_)
              obtain ⟨x46, ex46⟩ : ∃ y : Int32, y = v5_4 + Int32.ofInt 1 := ⟨_, rfl⟩
              have erx46 := ex46
              refine lv_iinc (v := x46) (lv' := [(4, .int x46), (3, .int x45), (5, .int r27), (0, .ref (ad 155)), (1, .int a1), (2, .int a2)]) hx hb dX4_sumOfErrands_77 hl (k := 5) rfl ex46.symm (by decide) rfl (fun ls hl => ?_)
              have ex46 : x46.toInt = v5_4.toInt + 1 := by rw [ex46]; exact wk_add (y := 1) (show -2147483648 ≤ v5_4.toInt + 1 by omega) (show v5_4.toInt + 1 ≤ 2147483647 by omega)
              replace hM := hM.lt ex46.symm
              refine lv_goto (tgt := 5) hx hb dX4_sumOfErrands_80 (by decide) ?_
              exact ih5 x45 x46 H locs ls w29 (show 0 ≤ a1.toInt from r11) (show a1.toInt ≤ 99999 from t12) (show a2.toInt ≤ 14007 from t13) (show 0 ≤ x46.toInt by omega) (show x46.toInt ≤ 6 by omega) (show (6 - x46.toInt).toNat < n5 by omega) hw hT hF hM (lv_sub hl [3, 4, 5, 1, 0] rfl)
          · replace hM := hM.call (r' := (-1)) hv36 (by decide)
            refine lv_istore (lv' := [(5, .int (-1)), (0, .ref (ad 155)), (1, .int a1), (2, .int a2), (3, .int v5_3), (4, .int v5_4)]) hx hb dX4_sumOfErrands_56 hl (by decide) rfl (fun ls hl => ?_)
            refine lv_iload_n hx hb dX4_sumOfErrands_58 rfl (lv_at hl 4 rfl) ?_
            refine lv_iload hx hb dX4_sumOfErrands_59 (lv_at hl 0 rfl) ?_
            refine lv_iconst (v := (-1)) hx hb dX4_sumOfErrands_61 (by decide) ?_
            refine lv_icmp_ne (tgt := 71) hx hb dX4_sumOfErrands_62 (by decide) (fun c => absurd (by decide) c) (fun _ => ?_)
            replace hM := hM.neg (by decide)
            refine lv_sipush (v := 2001) hx hb dX4_sumOfErrands_65 (by decide) ?_
            refine lv_goto (tgt := 75) hx hb dX4_sumOfErrands_68 (by decide) ?_
            refine lv_iadd hx hb dX4_sumOfErrands_75 ?_
            have nx47 := wk_i32 v5_3
            refine lv_topi (fun x48 ex48 => ?_)
            have ezx48 := ex48
            have ex48 : x48.toInt = v5_3.toInt + (2001 : Int) := by rw [ex48]; exact wk_add (show (-2147483648) ≤ v5_3.toInt + (2001 : Int) by omega) (show v5_3.toInt + (2001 : Int) ≤ 2147483647 by omega)
            replace hM := hM.lt (o32_e (f := fun x y => x + y) ezx48 rfl (by decide))
            refine lv_istore_n (lv' := [(3, .int x48), (5, .int (-1)), (0, .ref (ad 155)), (1, .int a1), (2, .int a2), (4, .int v5_4)]) hx hb dX4_sumOfErrands_76 rfl hl (by decide) rfl (fun ls hl => ?_)
            obtain ⟨x49, ex49⟩ : ∃ y : Int32, y = v5_4 + Int32.ofInt 1 := ⟨_, rfl⟩
            have erx49 := ex49
            refine lv_iinc (v := x49) (lv' := [(4, .int x49), (3, .int x48), (5, .int (-1)), (0, .ref (ad 155)), (1, .int a1), (2, .int a2)]) hx hb dX4_sumOfErrands_77 hl (k := 5) rfl ex49.symm (by decide) rfl (fun ls hl => ?_)
            have ex49 : x49.toInt = v5_4.toInt + 1 := by rw [ex49]; exact wk_add (y := 1) (show -2147483648 ≤ v5_4.toInt + 1 by omega) (show v5_4.toInt + 1 ≤ 2147483647 by omega)
            replace hM := hM.lt ex49.symm
            refine lv_goto (tgt := 5) hx hb dX4_sumOfErrands_80 (by decide) ?_
            exact ih5 x48 x49 H locs ls w29 (show 0 ≤ a1.toInt from r11) (show a1.toInt ≤ 99999 from t12) (show a2.toInt ≤ 14007 from t13) (show 0 ≤ x49.toInt by omega) (show x49.toInt ≤ 6 by omega) (show (6 - x49.toInt).toNat < n5 by omega) hw hT hF hM (lv_sub hl [3, 4, 5, 1, 0] rfl)
  have hM : TT (fun n => m_X4_sumOfErrands n 155 a1.toInt a2.toInt (sI w0)) (fun n => m_X4_sumOfErrands n 155 a1.toInt a2.toInt (sI w0)) := TT.rf
  refine lv_iconst (v := 0) hx hb dX4_sumOfErrands_0 (by decide) ?_
  refine lv_istore_n (lv' := [(3, .int 0), (0, .ref (ad 155)), (1, .int a1), (2, .int a2)]) hx hb dX4_sumOfErrands_1 rfl hl (by decide) rfl (fun ls hl => ?_)
  refine lv_iconst (v := 0) hx hb dX4_sumOfErrands_2 (by decide) ?_
  refine lv_istore (lv' := [(4, .int 0), (3, .int 0), (0, .ref (ad 155)), (1, .int a1), (2, .int a2)]) hx hb dX4_sumOfErrands_3 hl (by decide) rfl (fun ls hl => ?_)
  exact L5 ((6 - (0 : Int)).toNat + 1) 0 0 s.heap locs ls w0 (show 0 ≤ a1.toInt from ra1) (show a1.toInt ≤ 99999 from ta1) (show a2.toInt ≤ 14007 from ta2) (by decide) (by decide) (Nat.lt_succ_self _) hw hT hF hM (lv_sub hl [2, 3, 4, 1, 0] rfl)
abbrev Pz_X4_tellBest_1 (ad : Nat → Nat) (cy : Nat → ClassId) (B : Int) (qr : Nat) (s1 : Int) (a1 : Int32) (a2 : Int32) (a3 : Int32) (w0 : va_W) : Int32 → va_W → Prop := fun r u => TW ksC ad cy B qr s1 u ∧ FE ksC [(24, 0, 26), (25, 0, 13), (26, 0, 91), (27, 0, 13), (28, 0, 26), (31, 0, 13), (48, 0, 10), (49, 0, 10)] w0 u ∧ Ev (fun n => m_X4_tellBest n 155 a1.toInt a2.toInt a3.toInt (sI w0)) (r.toInt, sI u) ∧ ((r.toInt ≤ 14007 ∧ 2 ≤ a3.toInt) ∨ (0 ≤ r.toInt ∧ r.toInt ≤ 9 ∧ a3.toInt ≤ 1))
set_option maxHeartbeats 4000000 in
set_option maxRecDepth 100000 in
theorem kz_X4_tellBest_1 (l : Launch) (adK adV : Nat → Nat) (dC : Nat → ClassId) (dI : Nat → Nat → Nat) (cy : Nat → ClassId) (ad : Nat → Nat) (B : Int) (hB0 : 2147483648 ≤ B) (hB1 : B ≤ 1152921504606846976) (qr : Nat) (s1 : Int)  (a1 : Int32) (ra1 : 1 ≤ a1.toInt) (ta1 : a1.toInt ≤ 9) (a2 : Int32) (ra2 : 0 ≤ a2.toInt) (ta2 : a2.toInt ≤ 99999) (a3 : Int32) (ra3 : 0 ≤ a3.toInt) (ta3 : a3.toInt ≤ 2) (w0 : va_W) (sz : Nat) (hT : TW ksC ad cy B qr s1 w0)  : Met l yX4_tellBest (wu yX4_tellBest cX4_tellBest 10 (some .int)) ({ frames := 6, cells := 0, slots := 0, locals := 147 }) (va_Pc [.ref (ad 155), .int a1, .int a2, .int a3] (wpreS adK adV dC dI cy sz w0)) (va_Qi (Pz_X4_tellBest_1 ad cy B qr s1 a1 a2 a3 w0) (fun u : va_W => wpost dC dI cy (va_A w0 sz) u) (va_A w0 sz)) 0 0 (va_A w0 sz) := by
  refine Met.ofW (cc := cX4_tellBest) (maxL := 10) (ret := (some .int)) (by decide) rfl ?_
  intro p e s m args below meth c s₁ Bk hml hv
  obtain ⟨rfl, ⟨hsz, hP, hK, hD0⟩, hE, hSR⟩ := hv
  have hx := Bk.exec
  have hb := Bk.bytes
  have hr := Bk.returns
  have hlocks := Bk.notSynchronized
  have hC : CallFix p m c cX4_tellBest 10 s _ (wu yX4_tellBest cX4_tellBest 10 (some .int)) RX4 := ⟨hx, hb, hml, findClass_of_methodNamed Bk.named, atoms_spec (ws := (wu yX4_tellBest cX4_tellBest 10 (some .int))) Bk.pre⟩
  subst hsz
  have hD := hD0.self (sz := s.heap.size)
  generalize hAe : va_A w0 s.heap.size = A at hD hE ⊢
  have hA : ∀ q : Nat, s.heap.size ≤ q → A q := fun q h => by rw [← hAe]; exact Or.inr h
  have hw : Wd dC dI A s.heap s.heap [] w0 := ⟨hP, hD, va_S.rf⟩
  have hF : FE ksC [(24, 0, 26), (25, 0, 13), (26, 0, 91), (27, 0, 13), (28, 0, 26), (31, 0, 13), (48, 0, 10), (49, 0, 10)] w0 w0 := FE.rf
  have hl := lv_entry ([.ref (ad 155), .int a1, .int a2, .int a3]) (n := 10) (Nat.le_of_ble_eq_true rfl)
  rw [lg_entry_eq]
  generalize (lg_sl ([.ref (ad 155), .int a1, .int a2, .int a3]) ++ List.replicate (10 - (lg_sl ([.ref (ad 155), .int a1, .int a2, .int a3])).length) Slot.unset).toArray = ls at hl ⊢
  have hl : lv_has ls 10 [(0, .ref (ad 155)), (1, .int a1), (2, .int a2), (3, .int a3)] := hl
  generalize hloc : ([] : List Loc) = locs at hw ⊢
  have hinX4 : ∀ w ∈ u_ws RX4 TX4 4, w ∈ (wu yX4_tellBest cX4_tellBest 10 (some .int)) := fun _ h => List.mem_cons_of_mem _ (up_80 h)
  have hinX7 : ∀ w ∈ u_ws RX7 TX7 12, w ∈ (wu yX4_tellBest cX4_tellBest 10 (some .int)) := fun _ h => List.mem_cons_of_mem _ (up_73 h)
  have L14 : ∀ (n14 : Nat) (v14_4 : Int32) (v14_5 : Int32) (v14_6 : Int32) (v14_7 : Int32) (H : Heap) (locs : List Loc) (ls : Array Slot) (w1 : va_W), 1 ≤ a1.toInt → a1.toInt ≤ 9 → 0 ≤ a2.toInt → a2.toInt ≤ 99999 → 0 ≤ a3.toInt → a3.toInt ≤ 2 → 0 ≤ v14_4.toInt → v14_4.toInt ≤ 9 → 1 ≤ v14_5.toInt → v14_5.toInt ≤ 9 → v14_6.toInt ≤ 14007 → 0 ≤ v14_7.toInt → v14_7.toInt ≤ 10 → (10 - v14_7.toInt).toNat < n14 → Wd dC dI A s.heap H locs w1 → TW ksC ad cy B qr s1 w1 → FE ksC [(24, 0, 26), (25, 0, 13), (26, 0, 91), (27, 0, 13), (28, 0, 26), (31, 0, 13), (48, 0, 10), (49, 0, 10)] w0 w1 → TT (fun n => m_X4_tellBest n 155 a1.toInt a2.toInt a3.toInt (sI w0)) (fun n => j_X4_tellBest 155 n 14 [a1.toInt, a2.toInt, a3.toInt, v14_4.toInt, v14_5.toInt, v14_6.toInt, v14_7.toInt] (sI w1)) → lv_has ls 10 [(0, .ref (ad 155)), (1, .int a1), (2, .int a2), (3, .int a3), (4, .int v14_4), (5, .int v14_5), (6, .int v14_6), (7, .int v14_7)] → W p l e ({ frames := 6, cells := 0, slots := 0, locals := 147 }) s m (List.toArray [.ref (ad 155), .int a1, .int a2, .int a3]) below meth c H locs 0 0 (MQ below (va_Qi (Pz_X4_tellBest_1 ad cy B qr s1 a1 a2 a3 w0) (fun u : va_W => wpost dC dI cy A u) A) (List.toArray [.ref (ad 155), .int a1, .int a2, .int a3]) s 0 0 A) (F0 m 14 ls []) := by
    intro n14
    induction n14 with
    | zero => intro v14_4 v14_5 v14_6 v14_7 H locs ls w1 r2 t3 r4 t5 r6 t7 r8 t9 r10 t11 t12 r13 t14 hm14 hw hT hF hM hl; omega
    | succ n14 ih14 =>
      intro v14_4 v14_5 v14_6 v14_7 H locs ls w1 r2 t3 r4 t5 r6 t7 r8 t9 r10 t11 t12 r13 t14 hm14 hw hT hF hM hl
      have L32 : ∀ (n32 : Nat) (v32_4 : Int32) (v32_5 : Int32) (v32_6 : Int32) (v32_8 : Int32) (f32_39_8 : Int32) (H : Heap) (locs : List Loc) (ls : Array Slot) (w15 : va_W), 1 ≤ a1.toInt → a1.toInt ≤ 9 → 0 ≤ a2.toInt → a2.toInt ≤ 99999 → 0 ≤ a3.toInt → a3.toInt ≤ 2 → 0 ≤ v32_4.toInt → v32_4.toInt ≤ 9 → 1 ≤ v32_5.toInt → v32_5.toInt ≤ 9 → v32_6.toInt ≤ 14007 → 0 ≤ v14_7.toInt → v14_7.toInt ≤ 9 → 1 ≤ v32_8.toInt → v32_8.toInt ≤ 10 → 1 ≤ f32_39_8.toInt → f32_39_8.toInt ≤ 10 → (10 - v32_8.toInt).toNat < n32 → Wd dC dI A s.heap H locs w15 → TW ksC ad cy B qr s1 w15 → FE ksC [(24, 0, 26), (25, 0, 13), (26, 0, 91), (27, 0, 13), (28, 0, 26), (31, 0, 13), (48, 0, 10), (49, 0, 10)] w0 w15 → gi w15 39 8 = f32_39_8 → TT (fun n => m_X4_tellBest n 155 a1.toInt a2.toInt a3.toInt (sI w0)) (fun n => j_X4_tellBest 155 n 32 [a1.toInt, a2.toInt, a3.toInt, v32_4.toInt, v32_5.toInt, v32_6.toInt, v14_7.toInt, v32_8.toInt] (sI w15)) → lv_has ls 10 [(0, .ref (ad 155)), (1, .int a1), (2, .int a2), (3, .int a3), (4, .int v32_4), (5, .int v32_5), (6, .int v32_6), (7, .int v14_7), (8, .int v32_8)] → W p l e ({ frames := 6, cells := 0, slots := 0, locals := 147 }) s m (List.toArray [.ref (ad 155), .int a1, .int a2, .int a3]) below meth c H locs 0 0 (MQ below (va_Qi (Pz_X4_tellBest_1 ad cy B qr s1 a1 a2 a3 w0) (fun u : va_W => wpost dC dI cy A u) A) (List.toArray [.ref (ad 155), .int a1, .int a2, .int a3]) s 0 0 A) (F0 m 32 ls []) := by
        intro n32
        induction n32 with
        | zero => intro v32_4 v32_5 v32_6 v32_8 f32_39_8 H locs ls w15 r16 t17 r18 t19 r20 t21 r22 t23 r24 t25 t26 r27 t28 r29 t30 r31 t32 hm32 hw hT hF c33 hM hl; omega
        | succ n32 ih32 =>
          intro v32_4 v32_5 v32_6 v32_8 f32_39_8 H locs ls w15 r16 t17 r18 t19 r20 t21 r22 t23 r24 t25 t26 r27 t28 r29 t30 r31 t32 hm32 hw hT hF c33 hM hl
          have J84 : ∀ (v84_4 : Int32) (v84_5 : Int32) (v84_6 : Int32) (v84_9 : Int32) (H : Heap) (locs : List Loc) (ls : Array Slot) (w34 : va_W), 1 ≤ a1.toInt → a1.toInt ≤ 9 → 0 ≤ a2.toInt → a2.toInt ≤ 99999 → 0 ≤ a3.toInt → a3.toInt ≤ 2 → 0 ≤ v84_4.toInt → v84_4.toInt ≤ 9 → 1 ≤ v84_5.toInt → v84_5.toInt ≤ 9 → v84_6.toInt ≤ 14007 → 0 ≤ v14_7.toInt → v14_7.toInt ≤ 9 → 1 ≤ v32_8.toInt → v32_8.toInt ≤ 9 → 2 ≤ f32_39_8.toInt → f32_39_8.toInt ≤ 10 → Wd dC dI A s.heap H locs w34 → TW ksC ad cy B qr s1 w34 → FE ksC [(24, 0, 26), (25, 0, 13), (26, 0, 91), (27, 0, 13), (28, 0, 26), (31, 0, 13), (48, 0, 10), (49, 0, 10)] w0 w34 → gi w34 39 8 = f32_39_8 → TT (fun n => m_X4_tellBest n 155 a1.toInt a2.toInt a3.toInt (sI w0)) (fun n => b_X4_tellBest_84 (j_X4_tellBest 155 n) n 155 (a1.toInt) (a2.toInt) (a3.toInt) (v84_4.toInt) (v84_5.toInt) (v84_6.toInt) (v14_7.toInt) (v32_8.toInt) (sI w34)) → lv_has ls 10 [(0, .ref (ad 155)), (1, .int a1), (2, .int a2), (3, .int a3), (4, .int v84_4), (5, .int v84_5), (6, .int v84_6), (7, .int v14_7), (8, .int v32_8), (9, .int v84_9)] → W p l e ({ frames := 6, cells := 0, slots := 0, locals := 147 }) s m (List.toArray [.ref (ad 155), .int a1, .int a2, .int a3]) below meth c H locs 0 0 (MQ below (va_Qi (Pz_X4_tellBest_1 ad cy B qr s1 a1 a2 a3 w0) (fun u : va_W => wpost dC dI cy A u) A) (List.toArray [.ref (ad 155), .int a1, .int a2, .int a3]) s 0 0 A) (F0 m 84 ls []) := by
            intro v84_4 v84_5 v84_6 v84_9 H locs ls w34 r35 t36 r37 t38 r39 t40 r41 t42 r43 t44 t45 r46 t47 r48 t49 r50 t51 hw hT hF c52 hM hl
            obtain ⟨x53, ex53⟩ : ∃ y : Int32, y = v32_8 + Int32.ofInt 1 := ⟨_, rfl⟩
            have erx53 := ex53
            refine lv_iinc (v := x53) (lv' := [(8, .int x53), (0, .ref (ad 155)), (1, .int a1), (2, .int a2), (3, .int a3), (4, .int v84_4), (5, .int v84_5), (6, .int v84_6), (7, .int v14_7), (9, .int v84_9)]) hx hb dX4_tellBest_84 hl (k := 8) rfl ex53.symm (by decide) rfl (fun ls hl => ?_)
            have ex53 : x53.toInt = v32_8.toInt + 1 := by rw [ex53]; exact wk_add (y := 1) (show -2147483648 ≤ v32_8.toInt + 1 by omega) (show v32_8.toInt + 1 ≤ 2147483647 by omega)
            replace hM := hM.lt ex53.symm
            refine lv_goto (tgt := 32) hx hb dX4_tellBest_87 (by decide) ?_
            exact ih32 v84_4 v84_5 v84_6 x53 f32_39_8 H locs ls w34 (show 1 ≤ a1.toInt from r35) (show a1.toInt ≤ 9 from t36) (show 0 ≤ a2.toInt from r37) (show a2.toInt ≤ 99999 from t38) (show 0 ≤ a3.toInt from r39) (show a3.toInt ≤ 2 from t40) (show 0 ≤ v84_4.toInt from r41) (show v84_4.toInt ≤ 9 from t42) (show 1 ≤ v84_5.toInt from r43) (show v84_5.toInt ≤ 9 from t44) (show v84_6.toInt ≤ 14007 from t45) (show 0 ≤ v14_7.toInt from r46) (show v14_7.toInt ≤ 9 from t47) (show 1 ≤ x53.toInt by omega) (show x53.toInt ≤ 10 by omega) (show 1 ≤ f32_39_8.toInt from r31) (show f32_39_8.toInt ≤ 10 from t51) (show (10 - x53.toInt).toNat < n32 by omega) hw hT hF c52 hM (lv_sub hl [1, 2, 3, 4, 5, 6, 7, 8, 0] rfl)
          replace hM := hM.suc (fun _ => e_X4_tellBest_32)
          refine lv_iload hx hb dX4_tellBest_32 (lv_at hl 8 rfl) ?_
          refine lv_aload_n hx hb dX4_tellBest_34 rfl (lv_at hl 0 rfl) ?_
          refine tk_getA hC hK hw hT hinX4 kC_at155 (by decide) rfl 1 (by decide) (List.mem_cons_of_mem _ uw_5_23) rfl rfl dX4_tellBest_35 ?_
          refine tk_geti hC hK hw hT hinX7 kC_at39 (by decide) rfl 8 (by decide) (List.mem_cons_of_mem _ uw_49_18) rfl rfl dX4_tellBest_38 (fun x54 c55 rx54 tx54 => ?_)
          refine wk_top f32_39_8 (c55.symm.trans c33) ?_
          replace hM := hM.rd (sI_at c33)
          refine lv_icmp_ge (tgt := 90) hx hb dX4_tellBest_41 (by decide) (fun c56 => ?_) (fun c56 => ?_)
          · have c56 : f32_39_8.toInt ≤ v32_8.toInt := wk_le.mp c56
            replace hM := hM.pos c56
            obtain ⟨x57, ex57⟩ : ∃ y : Int32, y = v14_7 + Int32.ofInt 1 := ⟨_, rfl⟩
            have erx57 := ex57
            refine lv_iinc (v := x57) (lv' := [(7, .int x57), (0, .ref (ad 155)), (1, .int a1), (2, .int a2), (3, .int a3), (4, .int v32_4), (5, .int v32_5), (6, .int v32_6), (8, .int v32_8)]) hx hb dX4_tellBest_90 hl (k := 7) rfl ex57.symm (by decide) rfl (fun ls hl => ?_)
            have ex57 : x57.toInt = v14_7.toInt + 1 := by rw [ex57]; exact wk_add (y := 1) (show -2147483648 ≤ v14_7.toInt + 1 by omega) (show v14_7.toInt + 1 ≤ 2147483647 by omega)
            replace hM := hM.lt ex57.symm
            refine lv_goto (tgt := 14) hx hb dX4_tellBest_93 (by decide) ?_
            exact ih14 v32_4 v32_5 v32_6 x57 H locs ls w15 (show 1 ≤ a1.toInt from r16) (show a1.toInt ≤ 9 from t17) (show 0 ≤ a2.toInt from r18) (show a2.toInt ≤ 99999 from t19) (show 0 ≤ a3.toInt from r20) (show a3.toInt ≤ 2 from t21) (show 0 ≤ v32_4.toInt from r22) (show v32_4.toInt ≤ 9 from t23) (show 1 ≤ v32_5.toInt from r24) (show v32_5.toInt ≤ 9 from t25) (show v32_6.toInt ≤ 14007 from t26) (show 0 ≤ x57.toInt by omega) (show x57.toInt ≤ 10 by omega) (show (10 - x57.toInt).toNat < n14 by omega) hw hT hF hM (lv_sub hl [1, 2, 3, 4, 5, 6, 7, 0] rfl)
          · have c56 : v32_8.toInt < f32_39_8.toInt := wk_leF c56
            replace hM := hM.neg (Int.not_le.mpr c56)
            refine lv_aload_n hx hb dX4_tellBest_44 rfl (lv_at hl 0 rfl) ?_
            refine tk_getA hC hK hw hT hinX4 kC_at155 (by decide) rfl 1 (by decide) (List.mem_cons_of_mem _ uw_5_23) rfl rfl dX4_tellBest_45 ?_
            refine lv_iload hx hb dX4_tellBest_48 (lv_at hl 7 rfl) ?_
            refine lv_iload hx hb dX4_tellBest_50 (lv_at hl 8 rfl) ?_
            refine lv_iload_n hx hb dX4_tellBest_52 rfl (lv_at hl 1 rfl) ?_
            refine tk_Vv hC hK hw hT hA hE hSR kC_at39 (by decide) rfl (kz_X7_tryStreet_1 l adK adV dC dI cy ad B (by omega) (by omega) qr s1   v14_7 (show 0 ≤ v14_7.toInt from r27) (show v14_7.toInt ≤ 9 from t28) v32_8 (show 1 ≤ v32_8.toInt from r29) (show v32_8.toInt ≤ 9 by omega) a1 (show 1 ≤ a1.toInt from r16) (show a1.toInt ≤ 9 from t17) w15 H.size hT ) (cwV 3 hC.2.2.2.2 uV_RX4_87 rfl rfl rfl (by decide +kernel) ⟨Nat.le_of_ble_eq_true rfl, Nat.le_of_ble_eq_true rfl⟩) rfl hl.1 rfl (Nat.le_of_ble_eq_true rfl) dX4_tellBest_53 (fun w60 H locs hp59 hw => ?_)
            obtain ⟨hT, k61, hv63, hg62⟩ := hp59
            have hF := hF.tr k61 (by decide)
            have c64 := k61.gi kC_at39 (by decide) c33
            clear hg62
            replace hM := hM.call hv63 rfl
            refine lv_aload_n hx hb dX4_tellBest_56 rfl (lv_at hl 0 rfl) ?_
            refine lv_iload_n hx hb dX4_tellBest_57 rfl (lv_at hl 2 rfl) ?_
            refine lv_iload hx hb dX4_tellBest_58 (lv_at hl 6 rfl) ?_
            refine tk_Vi hC hK hw hT hA hE hSR kC_at155 (by decide) rfl (kz_X4_sumOfErrands_1 l adK adV dC dI cy ad B (by omega) (by omega) qr s1   a2 (show 0 ≤ a2.toInt from r18) (show a2.toInt ≤ 99999 from t19) v32_6 (show v32_6.toInt ≤ 14007 from t26) w60 H.size hT ) (cwV 2 hC.2.2.2.2 uV_RX4_90 rfl rfl rfl (by decide +kernel) ⟨Nat.le_of_ble_eq_true rfl, Nat.le_of_ble_eq_true rfl⟩) rfl hl.1 rfl (Nat.le_of_ble_eq_true rfl) dX4_tellBest_60 (fun r65 w67 H locs hp66 hw => ?_)
            obtain ⟨hT, k68, hv70, hg69⟩ := hp66
            have hF := hF.tr k68 (by decide)
            have c71 := k68.gi kC_at39 (by decide) c64
            clear hg69
            replace hM := hM.call hv70 rfl
            refine lv_istore (lv' := [(9, .int r65), (0, .ref (ad 155)), (1, .int a1), (2, .int a2), (3, .int a3), (4, .int v32_4), (5, .int v32_5), (6, .int v32_6), (7, .int v14_7), (8, .int v32_8)]) hx hb dX4_tellBest_63 hl (by decide) rfl (fun ls hl => ?_)
            refine lv_iload hx hb dX4_tellBest_65 (lv_at hl 0 rfl) ?_
            refine lv_iload hx hb dX4_tellBest_67 (lv_at hl 7 rfl) ?_
            refine lv_icmp_ge (tgt := 84) hx hb dX4_tellBest_69 (by decide) (fun c72 => ?_) (fun c72 => ?_)
            · have c72 : v32_6.toInt ≤ r65.toInt := wk_le.mp c72
              replace hM := hM.pos c72
              exact J84 v32_4 v32_5 v32_6 r65 H locs ls w67 (show 1 ≤ a1.toInt from r16) (show a1.toInt ≤ 9 from t17) (show 0 ≤ a2.toInt from r18) (show a2.toInt ≤ 99999 from t19) (show 0 ≤ a3.toInt from r20) (show a3.toInt ≤ 2 from t21) (show 0 ≤ v32_4.toInt from r22) (show v32_4.toInt ≤ 9 from t23) (show 1 ≤ v32_5.toInt from r24) (show v32_5.toInt ≤ 9 from t25) (show v32_6.toInt ≤ 14007 from t26) (show 0 ≤ v14_7.toInt from r27) (show v14_7.toInt ≤ 9 from t28) (show 1 ≤ v32_8.toInt from r29) (show v32_8.toInt ≤ 9 by omega) (show 2 ≤ f32_39_8.toInt by omega) (show f32_39_8.toInt ≤ 10 from t32)  hw hT hF c71 hM (lv_sub hl [1, 2, 3, 4, 5, 6, 7, 8, 9, 0] rfl)
            · have c72 : r65.toInt < v32_6.toInt := wk_leF c72
              replace hM := hM.neg (Int.not_le.mpr c72)
              refine lv_iload hx hb dX4_tellBest_72 (lv_at hl 0 rfl) ?_
              refine lv_istore (lv' := [(6, .int r65), (9, .int r65), (0, .ref (ad 155)), (1, .int a1), (2, .int a2), (3, .int a3), (4, .int v32_4), (5, .int v32_5), (7, .int v14_7), (8, .int v32_8)]) hx hb dX4_tellBest_74 hl (by decide) rfl (fun ls hl => ?_)
              refine lv_iload hx hb dX4_tellBest_76 (lv_at hl 8 rfl) ?_
              refine lv_istore (lv' := [(4, .int v14_7), (6, .int r65), (9, .int r65), (0, .ref (ad 155)), (1, .int a1), (2, .int a2), (3, .int a3), (5, .int v32_5), (7, .int v14_7), (8, .int v32_8)]) hx hb dX4_tellBest_78 hl (by decide) rfl (fun ls hl => ?_)
              refine lv_iload hx hb dX4_tellBest_80 (lv_at hl 9 rfl) ?_
              refine lv_istore (lv' := [(5, .int v32_8), (4, .int v14_7), (6, .int r65), (9, .int r65), (0, .ref (ad 155)), (1, .int a1), (2, .int a2), (3, .int a3), (7, .int v14_7), (8, .int v32_8)]) hx hb dX4_tellBest_82 hl (by decide) rfl (fun ls hl => ?_)
              exact J84 v14_7 v32_8 r65 r65 H locs ls w67 (show 1 ≤ a1.toInt from r16) (show a1.toInt ≤ 9 from t17) (show 0 ≤ a2.toInt from r18) (show a2.toInt ≤ 99999 from t19) (show 0 ≤ a3.toInt from r20) (show a3.toInt ≤ 2 from t21) (show 0 ≤ v14_7.toInt from r27) (show v14_7.toInt ≤ 9 from t28) (show 1 ≤ v32_8.toInt from r29) (show v32_8.toInt ≤ 9 by omega) (show r65.toInt ≤ 14007 by omega) (show 0 ≤ v14_7.toInt from r27) (show v14_7.toInt ≤ 9 from t28) (show 1 ≤ v32_8.toInt from r29) (show v32_8.toInt ≤ 9 by omega) (show 2 ≤ f32_39_8.toInt by omega) (show f32_39_8.toInt ≤ 10 from t32)  hw hT hF c71 hM (lv_sub hl [4, 5, 6, 7, 1, 0, 2, 8, 9, 3] rfl)
      replace hM := hM.suc (fun _ => e_X4_tellBest_14)
      refine lv_iload hx hb dX4_tellBest_14 (lv_at hl 7 rfl) ?_
      refine lv_aload_n hx hb dX4_tellBest_16 rfl (lv_at hl 0 rfl) ?_
      refine tk_getA hC hK hw hT hinX4 kC_at155 (by decide) rfl 1 (by decide) (List.mem_cons_of_mem _ uw_5_23) rfl rfl dX4_tellBest_17 ?_
      refine tk_geti hC hK hw hT hinX7 kC_at39 (by decide) rfl 8 (by decide) (List.mem_cons_of_mem _ uw_49_18) rfl rfl dX4_tellBest_20 (fun x73 c74 rx73 tx73 => ?_)
      replace hM := hM.rd (sI_at c74)
      refine lv_icmp_ge (tgt := 96) hx hb dX4_tellBest_23 (by decide) (fun c75 => ?_) (fun c75 => ?_)
      · have c75 : x73.toInt ≤ v14_7.toInt := wk_le.mp c75
        replace hM := hM.pos c75
        refine lv_iload_n hx hb dX4_tellBest_96 rfl (lv_at hl 3 rfl) ?_
        refine lv_iconst (v := 2) hx hb dX4_tellBest_97 (by decide) ?_
        refine lv_icmp_ne (tgt := 104) hx hb dX4_tellBest_98 (by decide) (fun c76 => ?_) (fun c76 => ?_)
        · have c76 : ¬ a3.toInt = (2 : Int) := wk_eqF c76
          replace hM := hM.pos c76
          refine lv_iload_n hx hb dX4_tellBest_104 rfl (lv_at hl 3 rfl) ?_
          refine lv_if_ne (tgt := 113) hx hb dX4_tellBest_105 (by decide) (fun c77 => ?_) (fun c77 => ?_)
          · have c77 : ¬ a3.toInt = (0 : Int) := wk_eqF c77
            replace hM := hM.pos c77
            refine lv_iload hx hb dX4_tellBest_113 (lv_at hl 5 rfl) ?_
            exact tk_iret hC hr hlocks hK ⟨hT, hF, hM.ret rfl, (Or.inr ⟨(show 0 ≤ v14_5.toInt from Int.le_trans (by decide) r10), (show v14_5.toInt ≤ 9 from t11), (show a3.toInt ≤ 1 by omega)⟩)⟩ hw dX4_tellBest_115
          · have c77 : a3.toInt = (0 : Int) := wk_eq.mp c77
            replace hM := hM.neg (fun q => q c77)
            refine lv_iload hx hb dX4_tellBest_108 (lv_at hl 4 rfl) ?_
            refine lv_goto (tgt := 115) hx hb dX4_tellBest_110 (by decide) ?_
            exact tk_iret hC hr hlocks hK ⟨hT, hF, hM.ret rfl, (Or.inr ⟨(show 0 ≤ v14_4.toInt from r8), (show v14_4.toInt ≤ 9 from t9), (show a3.toInt ≤ 1 by omega)⟩)⟩ hw dX4_tellBest_115
        · have c76 : a3.toInt = (2 : Int) := wk_eq.mp c76
          replace hM := hM.neg (fun q => q c76)
          refine lv_iload hx hb dX4_tellBest_101 (lv_at hl 6 rfl) ?_
          exact tk_iret hC hr hlocks hK ⟨hT, hF, hM.ret rfl, (Or.inl ⟨(show v14_6.toInt ≤ 14007 from t12), (show 2 ≤ a3.toInt by omega)⟩)⟩ hw dX4_tellBest_103
      · have c75 : v14_7.toInt < x73.toInt := wk_leF c75
        replace hM := hM.neg (Int.not_le.mpr c75)
        refine lv_iload hx hb dX4_tellBest_26 (lv_at hl 7 rfl) ?_
        refine lv_iconst (v := 1) hx hb dX4_tellBest_28 (by decide) ?_
        refine lv_iadd hx hb dX4_tellBest_29 ?_
        refine lv_topi (fun x78 ex78 => ?_)
        have ezx78 := ex78
        have ex78 : x78.toInt = v14_7.toInt + (1 : Int) := by rw [ex78]; exact wk_add (show (-2147483648) ≤ v14_7.toInt + (1 : Int) by omega) (show v14_7.toInt + (1 : Int) ≤ 2147483647 by omega)
        replace hM := hM.lt ex78.symm
        refine lv_istore (lv' := [(8, .int x78), (0, .ref (ad 155)), (1, .int a1), (2, .int a2), (3, .int a3), (4, .int v14_4), (5, .int v14_5), (6, .int v14_6), (7, .int v14_7)]) hx hb dX4_tellBest_30 hl (by decide) rfl (fun ls hl => ?_)
        exact L32 ((10 - x78.toInt).toNat + 1) v14_4 v14_5 v14_6 x78 x73 H locs ls w1 (show 1 ≤ a1.toInt from r2) (show a1.toInt ≤ 9 from t3) (show 0 ≤ a2.toInt from r4) (show a2.toInt ≤ 99999 from t5) (show 0 ≤ a3.toInt from r6) (show a3.toInt ≤ 2 from t7) (show 0 ≤ v14_4.toInt from r8) (show v14_4.toInt ≤ 9 from t9) (show 1 ≤ v14_5.toInt from r10) (show v14_5.toInt ≤ 9 from t11) (show v14_6.toInt ≤ 14007 from t12) (show 0 ≤ v14_7.toInt from r13) (show v14_7.toInt ≤ 9 by omega) (show 1 ≤ x78.toInt by omega) (show x78.toInt ≤ 10 by omega) (show 1 ≤ x73.toInt by omega) (show x73.toInt ≤ 10 from tx73) (Nat.lt_succ_self _) hw hT hF c74 hM (lv_sub hl [1, 2, 3, 4, 5, 6, 7, 8, 0] rfl)
  have hM : TT (fun n => m_X4_tellBest n 155 a1.toInt a2.toInt a3.toInt (sI w0)) (fun n => m_X4_tellBest n 155 a1.toInt a2.toInt a3.toInt (sI w0)) := TT.rf
  refine lv_iconst (v := 0) hx hb dX4_tellBest_0 (by decide) ?_
  refine lv_istore (lv' := [(4, .int 0), (0, .ref (ad 155)), (1, .int a1), (2, .int a2), (3, .int a3)]) hx hb dX4_tellBest_1 hl (by decide) rfl (fun ls hl => ?_)
  refine lv_iconst (v := 1) hx hb dX4_tellBest_3 (by decide) ?_
  refine lv_istore (lv' := [(5, .int 1), (4, .int 0), (0, .ref (ad 155)), (1, .int a1), (2, .int a2), (3, .int a3)]) hx hb dX4_tellBest_4 hl (by decide) rfl (fun ls hl => ?_)
  refine lv_sipush (v := 14007) hx hb dX4_tellBest_6 (by decide) ?_
  refine lv_istore (lv' := [(6, .int 14007), (5, .int 1), (4, .int 0), (0, .ref (ad 155)), (1, .int a1), (2, .int a2), (3, .int a3)]) hx hb dX4_tellBest_9 hl (by decide) rfl (fun ls hl => ?_)
  refine lv_iconst (v := 0) hx hb dX4_tellBest_11 (by decide) ?_
  refine lv_istore (lv' := [(7, .int 0), (6, .int 14007), (5, .int 1), (4, .int 0), (0, .ref (ad 155)), (1, .int a1), (2, .int a2), (3, .int a3)]) hx hb dX4_tellBest_12 hl (by decide) rfl (fun ls hl => ?_)
  exact L14 ((10 - (0 : Int)).toNat + 1) 0 1 14007 0 s.heap locs ls w0 (show 1 ≤ a1.toInt from ra1) (show a1.toInt ≤ 9 from ta1) (show 0 ≤ a2.toInt from ra2) (show a2.toInt ≤ 99999 from ta2) (show 0 ≤ a3.toInt from ra3) (show a3.toInt ≤ 2 from ta3) (by decide) (by decide) (by decide) (by decide) (by decide) (by decide) (by decide) (Nat.lt_succ_self _) hw hT hF hM (lv_sub hl [4, 5, 6, 7, 3, 2, 1, 0] rfl)
abbrev Pz_X11_built_1 (ad : Nat → Nat) (cy : Nat → ClassId) (B : Int) (qr : Nat) (s1 : Int) (a1 : Int32) (a2 : Int32) (a3 : Int32) (w0 : va_W) : Int32 → va_W → Prop := fun r u => TW ksC ad cy B qr s1 u ∧ FE ksC [(24, 0, 26), (25, 0, 13), (26, 0, 91), (27, 0, 13), (28, 0, 26), (31, 0, 13), (48, 0, 10), (49, 0, 10)] w0 u ∧ Ev (fun n => m_X11_built n 0 a1.toInt a2.toInt a3.toInt (sI w0)) (r.toInt, sI u) ∧ ((r.toInt ≤ 14007 ∧ 1 ≤ a1.toInt ∧ a1.toInt ≤ 9 ∧ 0 ≤ a2.toInt ∧ a2.toInt ≤ 99999 ∧ 2 ≤ a3.toInt ∧ a3.toInt ≤ 2 ∧ (∃ y : Int32, gi u 39 8 = y ∧ 1 ≤ y.toInt ∧ y.toInt ≤ 10)) ∨ (0 ≤ r.toInt ∧ r.toInt ≤ 9 ∧ 1 ≤ a1.toInt ∧ a1.toInt ≤ 9 ∧ 0 ≤ a2.toInt ∧ a2.toInt ≤ 99999 ∧ 0 ≤ a3.toInt ∧ a3.toInt ≤ 1 ∧ (∃ y : Int32, gi u 39 8 = y ∧ 1 ≤ y.toInt ∧ y.toInt ≤ 10)) ∨ (r = (-1)))
set_option maxHeartbeats 4000000 in
set_option maxRecDepth 100000 in
theorem kz_X11_built_1 (l : Launch) (adK adV : Nat → Nat) (dC : Nat → ClassId) (dI : Nat → Nat → Nat) (cy : Nat → ClassId) (ad : Nat → Nat) (B : Int) (hB0 : 2147483648 ≤ B) (hB1 : B ≤ 1152921504606846976) (qr : Nat) (s1 : Int)  (a1 : Int32) (a2 : Int32) (a3 : Int32) (w0 : va_W) (sz : Nat) (hT : TW ksC ad cy B qr s1 w0)  : Met l yX11_built (wu yX11_built cX11_built 4 (some .int)) ({ frames := 7, cells := 0, slots := 0, locals := 176 }) (va_Pc [.ref (ad 0), .int a1, .int a2, .int a3] (wpreS adK adV dC dI cy sz w0)) (va_Qi (Pz_X11_built_1 ad cy B qr s1 a1 a2 a3 w0) (fun u : va_W => wpost dC dI cy (va_A w0 sz) u) (va_A w0 sz)) 0 0 (va_A w0 sz) := by
  refine Met.ofW (cc := cX11_built) (maxL := 4) (ret := (some .int)) (by decide) rfl ?_
  intro p e s m args below meth c s₁ Bk hml hv
  obtain ⟨rfl, ⟨hsz, hP, hK, hD0⟩, hE, hSR⟩ := hv
  have hx := Bk.exec
  have hb := Bk.bytes
  have hr := Bk.returns
  have hlocks := Bk.notSynchronized
  have hC : CallFix p m c cX11_built 4 s _ (wu yX11_built cX11_built 4 (some .int)) RX11 := ⟨hx, hb, hml, findClass_of_methodNamed Bk.named, atoms_spec (ws := (wu yX11_built cX11_built 4 (some .int))) Bk.pre⟩
  subst hsz
  have hD := hD0.self (sz := s.heap.size)
  generalize hAe : va_A w0 s.heap.size = A at hD hE ⊢
  have hA : ∀ q : Nat, s.heap.size ≤ q → A q := fun q h => by rw [← hAe]; exact Or.inr h
  have hw : Wd dC dI A s.heap s.heap [] w0 := ⟨hP, hD, va_S.rf⟩
  have hF : FE ksC [(24, 0, 26), (25, 0, 13), (26, 0, 91), (27, 0, 13), (28, 0, 26), (31, 0, 13), (48, 0, 10), (49, 0, 10)] w0 w0 := FE.rf
  have hl := lv_entry ([.ref (ad 0), .int a1, .int a2, .int a3]) (n := 4) (Nat.le_of_ble_eq_true rfl)
  rw [lg_entry_eq]
  generalize (lg_sl ([.ref (ad 0), .int a1, .int a2, .int a3]) ++ List.replicate (4 - (lg_sl ([.ref (ad 0), .int a1, .int a2, .int a3])).length) Slot.unset).toArray = ls at hl ⊢
  have hl : lv_has ls 4 [(0, .ref (ad 0)), (1, .int a1), (2, .int a2), (3, .int a3)] := hl
  generalize hloc : ([] : List Loc) = locs at hw ⊢
  have hinX11 : ∀ w ∈ u_ws RX11 TX11 13, w ∈ (wu yX11_built cX11_built 4 (some .int)) := fun _ h => List.mem_cons_of_mem _ (up_70 h)
  have J28 : ∀ (f28_39_8 : Int32) (H : Heap) (locs : List Loc) (ls : Array Slot) (w1 : va_W), (-1) ≤ f28_39_8.toInt → f28_39_8.toInt ≤ 10 → Wd dC dI A s.heap H locs w1 → TW ksC ad cy B qr s1 w1 → FE ksC [(24, 0, 26), (25, 0, 13), (26, 0, 91), (27, 0, 13), (28, 0, 26), (31, 0, 13), (48, 0, 10), (49, 0, 10)] w0 w1 → gi w1 39 8 = f28_39_8 → TT (fun n => m_X11_built n 0 a1.toInt a2.toInt a3.toInt (sI w0)) (fun n => b_X11_built_28 n 0 (sI w1)) → lv_has ls 4 [(0, .ref (ad 0)), (1, .int a1), (2, .int a2), (3, .int a3)] → W p l e ({ frames := 7, cells := 0, slots := 0, locals := 176 }) s m (List.toArray [.ref (ad 0), .int a1, .int a2, .int a3]) below meth c H locs 0 0 (MQ below (va_Qi (Pz_X11_built_1 ad cy B qr s1 a1 a2 a3 w0) (fun u : va_W => wpost dC dI cy A u) A) (List.toArray [.ref (ad 0), .int a1, .int a2, .int a3]) s 0 0 A) (F0 m 28 ls []) := by
    intro f28_39_8 H locs ls w1 r2 t3 hw hT hF c4 hM hl
    refine lv_iconst (v := (-1)) hx hb dX11_built_28 (by decide) ?_
    exact tk_iret hC hr hlocks hK ⟨hT, hF, hM.ret (by decide), (Or.inr (Or.inr rfl))⟩ hw dX11_built_29
  have J39 : ∀ (f39_39_8 : Int32) (H : Heap) (locs : List Loc) (ls : Array Slot) (w5 : va_W), 1 ≤ a1.toInt → a1.toInt ≤ 9 → 0 ≤ a2.toInt → a2.toInt ≤ 99999 → 1 ≤ f39_39_8.toInt → f39_39_8.toInt ≤ 10 → Wd dC dI A s.heap H locs w5 → TW ksC ad cy B qr s1 w5 → FE ksC [(24, 0, 26), (25, 0, 13), (26, 0, 91), (27, 0, 13), (28, 0, 26), (31, 0, 13), (48, 0, 10), (49, 0, 10)] w0 w5 → gi w5 39 8 = f39_39_8 → TT (fun n => m_X11_built n 0 a1.toInt a2.toInt a3.toInt (sI w0)) (fun n => b_X11_built_39 n 0 (sI w5)) → lv_has ls 4 [(0, .ref (ad 0)), (1, .int a1), (2, .int a2), (3, .int a3)] → W p l e ({ frames := 7, cells := 0, slots := 0, locals := 176 }) s m (List.toArray [.ref (ad 0), .int a1, .int a2, .int a3]) below meth c H locs 0 0 (MQ below (va_Qi (Pz_X11_built_1 ad cy B qr s1 a1 a2 a3 w0) (fun u : va_W => wpost dC dI cy A u) A) (List.toArray [.ref (ad 0), .int a1, .int a2, .int a3]) s 0 0 A) (F0 m 39 ls []) := by
    intro f39_39_8 H locs ls w5 r6 t7 r8 t9 r10 t11 hw hT hF c12 hM hl
    refine lv_iconst (v := (-1)) hx hb dX11_built_39 (by decide) ?_
    refine lv_goto (tgt := 53) hx hb dX11_built_40 (by decide) ?_
    exact tk_iret hC hr hlocks hK ⟨hT, hF, hM.ret (by decide), (Or.inr (Or.inr rfl))⟩ hw dX11_built_53
  have hM : TT (fun n => m_X11_built n 0 a1.toInt a2.toInt a3.toInt (sI w0)) (fun n => m_X11_built n 0 a1.toInt a2.toInt a3.toInt (sI w0)) := TT.rf
  refine lv_aload_n hx hb dX11_built_0 rfl (lv_at hl 0 rfl) ?_
  refine tk_getA hC hK hw hT hinX11 kC_at0 (by decide) rfl 4 (by decide) (List.mem_cons_of_mem _ uw_1_7) rfl rfl dX11_built_1 ?_
  refine tk_Vi hC hK hw hT hA hE hSR kC_at38 (by decide) rfl (kz_X5_hasTown_1 l adK adV dC dI cy ad B (by omega) (by omega) qr s1    w0 s.heap.size hT ) (cwV 0 hC.2.2.2.2 uV_RX11_158 rfl rfl rfl (by decide +kernel) ⟨Nat.le_of_ble_eq_true rfl, Nat.le_of_ble_eq_true rfl⟩) rfl hl.1 rfl (Nat.le_of_ble_eq_true rfl) dX11_built_4 (fun r13 w15 H locs hp14 hw => ?_)
  obtain ⟨hT, k16, hv22, hg21⟩ := hp14
  have hF := hF.tr k16 (by decide)
  rcases hg21 with ⟨rfl, ⟨x17, c18, rx17, tx17⟩⟩ | ⟨rfl, ⟨x19, c20, rx19, tx19⟩⟩
  · replace hM := hM.call (r' := 0) hv22 (by decide)
    refine lv_if_eq (tgt := 28) hx hb dX11_built_7 (by decide) (fun _ => ?_) (fun c => absurd (by decide) c)
    replace hM := hM.pos (by decide)
    exact J28 x17 H locs ls w15 (show (-1) ≤ x17.toInt by omega) (show x17.toInt ≤ 10 by omega)  hw hT hF c18 hM (lv_sub hl [0, 1, 2, 3] rfl)
  · replace hM := hM.call (r' := 1) hv22 (by decide)
    refine lv_if_eq (tgt := 28) hx hb dX11_built_7 (by decide) (fun c => absurd c (by decide)) (fun _ => ?_)
    replace hM := hM.neg (by decide)
    refine lv_iload_n hx hb dX11_built_10 rfl (lv_at hl 1 rfl) ?_
    refine lv_iconst (v := 1) hx hb dX11_built_11 (by decide) ?_
    refine lv_icmp_lt (tgt := 28) hx hb dX11_built_12 (by decide) (fun c23 => ?_) (fun c23 => ?_)
    · have c23 : a1.toInt < (1 : Int) := wk_lt.mp c23
      replace hM := hM.pos c23
      exact J28 x19 H locs ls w15 (show (-1) ≤ x19.toInt by omega) (show x19.toInt ≤ 10 by omega)  hw hT hF c20 hM (lv_sub hl [0, 1, 2, 3] rfl)
    · have c23 : (1 : Int) ≤ a1.toInt := wk_ltF c23
      replace hM := hM.neg (Int.not_lt.mpr c23)
      refine lv_iload_n hx hb dX11_built_15 rfl (lv_at hl 1 rfl) ?_
      refine lv_bipush (v := 9) hx hb dX11_built_16 (by decide) ?_
      refine lv_icmp_gt (tgt := 28) hx hb dX11_built_18 (by decide) (fun c24 => ?_) (fun c24 => ?_)
      · have c24 : (9 : Int) < a1.toInt := wk_lt.mp c24
        replace hM := hM.pos c24
        exact J28 x19 H locs ls w15 (show (-1) ≤ x19.toInt by omega) (show x19.toInt ≤ 10 by omega)  hw hT hF c20 hM (lv_sub hl [0, 1, 2, 3] rfl)
      · have c24 : a1.toInt ≤ (9 : Int) := wk_ltF c24
        replace hM := hM.neg (Int.not_lt.mpr c24)
        refine lv_iload_n hx hb dX11_built_21 rfl (lv_at hl 2 rfl) ?_
        refine tk_Si hC hK hw hT hA hE hSR (kz_X11_isAskedHour_1 l adK adV dC dI cy ad B (by omega) (by omega) qr s1   a2 w15 H.size hT ) (va_cwS 1 hC.2.2.2.2 uS_RX11_222 rfl rfl rfl (by decide +kernel) ⟨Nat.le_of_ble_eq_true rfl, Nat.le_of_ble_eq_true rfl⟩) rfl hl.1 rfl (Nat.le_of_ble_eq_true rfl) dX11_built_22 (fun r25 w27 H locs hp26 hw => ?_)
        obtain ⟨hT, k28, hv32, hg31⟩ := hp26
        have hF := hF.tr k28 (by decide)
        have c33 := k28.gi kC_at39 (by decide) c20
        rcases hg31 with rfl | ⟨rfl, g29, g30⟩
        · replace hM := hM.call (r' := 0) hv32 (by decide)
          refine lv_if_ne (tgt := 30) hx hb dX11_built_25 (by decide) (fun c => absurd (by decide) c) (fun _ => ?_)
          replace hM := hM.neg (by decide)
          exact J28 x19 H locs ls w27 (show (-1) ≤ x19.toInt by omega) (show x19.toInt ≤ 10 by omega)  hw hT hF c33 hM (lv_sub hl [0, 1, 2, 3] rfl)
        · replace hM := hM.call (r' := 1) hv32 (by decide)
          refine lv_if_ne (tgt := 30) hx hb dX11_built_25 (by decide) (fun _ => ?_) (fun c => absurd c (by decide))
          replace hM := hM.pos (by decide)
          refine lv_iload_n hx hb dX11_built_30 rfl (lv_at hl 3 rfl) ?_
          refine lv_if_lt (tgt := 39) hx hb dX11_built_31 (by decide) (fun c34 => ?_) (fun c34 => ?_)
          · have c34 : a3.toInt < (0 : Int) := wk_lt.mp c34
            replace hM := hM.pos c34
            exact J39 x19 H locs ls w27 (show 1 ≤ a1.toInt by omega) (show a1.toInt ≤ 9 by omega) (show 0 ≤ a2.toInt by omega) (show a2.toInt ≤ 99999 by omega) (show 1 ≤ x19.toInt by omega) (show x19.toInt ≤ 10 by omega)  hw hT hF c33 hM (lv_sub hl [0, 1, 2, 3] rfl)
          · have c34 : (0 : Int) ≤ a3.toInt := wk_ltF c34
            replace hM := hM.neg (Int.not_lt.mpr c34)
            refine lv_iload_n hx hb dX11_built_34 rfl (lv_at hl 3 rfl) ?_
            refine lv_iconst (v := 2) hx hb dX11_built_35 (by decide) ?_
            refine lv_icmp_le (tgt := 43) hx hb dX11_built_36 (by decide) (fun c35 => ?_) (fun c35 => ?_)
            · have c35 : a3.toInt ≤ (2 : Int) := wk_le.mp c35
              replace hM := hM.pos c35
              refine lv_aload_n hx hb dX11_built_43 rfl (lv_at hl 0 rfl) ?_
              refine tk_getA hC hK hw hT hinX11 kC_at0 (by decide) rfl 10 (by decide) (List.mem_cons_of_mem _ uw_2_2) rfl rfl dX11_built_44 ?_
              refine lv_iload_n hx hb dX11_built_47 rfl (lv_at hl 1 rfl) ?_
              refine lv_iload_n hx hb dX11_built_48 rfl (lv_at hl 2 rfl) ?_
              refine lv_iload_n hx hb dX11_built_49 rfl (lv_at hl 3 rfl) ?_
              refine tk_Vi hC hK hw hT hA hE hSR kC_at155 (by decide) rfl (kz_X4_tellBest_1 l adK adV dC dI cy ad B (by omega) (by omega) qr s1   a1 (show 1 ≤ a1.toInt by omega) (show a1.toInt ≤ 9 by omega) a2 (show 0 ≤ a2.toInt by omega) (show a2.toInt ≤ 99999 by omega) a3 (show 0 ≤ a3.toInt by omega) (show a3.toInt ≤ 2 by omega) w27 H.size hT ) (cwV 3 hC.2.2.2.2 uV_RX11_292 rfl rfl rfl (by decide +kernel) ⟨Nat.le_of_ble_eq_true rfl, Nat.le_of_ble_eq_true rfl⟩) rfl hl.1 rfl (Nat.le_of_ble_eq_true rfl) dX11_built_50 (fun r36 w38 H locs hp37 hw => ?_)
              obtain ⟨hT, k39, hv46, hg45⟩ := hp37
              have hF := hF.tr k39 (by decide)
              have c47 := k39.gi kC_at39 (by decide) c33
              rcases hg45 with ⟨g40, g41⟩ | ⟨g42, g43, g44⟩
              · replace hM := hM.call hv46 rfl
                exact tk_iret hC hr hlocks hK ⟨hT, hF, hM.ret rfl, (Or.inl ⟨(show r36.toInt ≤ 14007 by omega), (show 1 ≤ a1.toInt by omega), (show a1.toInt ≤ 9 by omega), (show 0 ≤ a2.toInt by omega), (show a2.toInt ≤ 99999 by omega), (show 2 ≤ a3.toInt by omega), (show a3.toInt ≤ 2 by omega), ⟨x19, c47, (show 1 ≤ x19.toInt by omega), (show x19.toInt ≤ 10 by omega)⟩⟩)⟩ hw dX11_built_53
              · replace hM := hM.call hv46 rfl
                exact tk_iret hC hr hlocks hK ⟨hT, hF, hM.ret rfl, (Or.inr (Or.inl ⟨(show 0 ≤ r36.toInt by omega), (show r36.toInt ≤ 9 by omega), (show 1 ≤ a1.toInt by omega), (show a1.toInt ≤ 9 by omega), (show 0 ≤ a2.toInt by omega), (show a2.toInt ≤ 99999 by omega), (show 0 ≤ a3.toInt by omega), (show a3.toInt ≤ 1 by omega), ⟨x19, c47, (show 1 ≤ x19.toInt by omega), (show x19.toInt ≤ 10 by omega)⟩⟩))⟩ hw dX11_built_53
            · have c35 : (2 : Int) < a3.toInt := wk_leF c35
              replace hM := hM.neg (Int.not_le.mpr c35)
              exact J39 x19 H locs ls w27 (show 1 ≤ a1.toInt by omega) (show a1.toInt ≤ 9 by omega) (show 0 ≤ a2.toInt by omega) (show a2.toInt ≤ 99999 by omega) (show 1 ≤ x19.toInt by omega) (show x19.toInt ≤ 10 by omega)  hw hT hF c33 hM (lv_sub hl [0, 1, 2, 3] rfl)
abbrev Pz_X12_four_1 (ad : Nat → Nat) (cy : Nat → ClassId) (B : Int) (qr : Nat) (s1 : Int) (a1 : Int32) (w0 : va_W) : va_W → Prop := fun u => TW ksM ad cy B qr 12 u ∧ FE ksM [(12, 1, 1), (60, 0, 400)] w0 u ∧ Ev (fun n => m_X12_four n 0 a1.toInt (sI w0)) (0, sI u) ∧ (((∃ y : Int32, gi u 0 1 = y ∧ 4 ≤ y.toInt ∧ y.toInt ≤ 384)))
set_option maxHeartbeats 4000000 in
set_option maxRecDepth 100000 in
theorem kz_X12_four_1 (l : Launch) (adK adV : Nat → Nat) (dC : Nat → ClassId) (dI : Nat → Nat → Nat) (cy : Nat → ClassId) (ad : Nat → Nat) (B : Int) (hB0 : 100000 ≤ B) (hB1 : B ≤ 1073741824) (qr : Nat) (s1 : Int)  (a1 : Int32) (w0 : va_W) (sz : Nat) (hT : TW ksM ad cy B qr 12 w0) (f0_ : Int32) (cf0_ : gi w0 0 1 = f0_) (rf0_ : 0 ≤ f0_.toInt) (tf0_ : f0_.toInt ≤ 380) : Met l yX12_four (wu yX12_four cX12_four 3 none) ({ frames := 1, cells := 0, slots := 0, locals := 12 }) (va_Pc [.ref (ad 0), .int a1] (wpreS adK adV dC dI cy sz w0)) (va_Qv (Pz_X12_four_1 ad cy B qr s1 a1 w0) (fun u : va_W => wpost dC dI cy (va_A w0 sz) u) (va_A w0 sz)) 0 0 (va_A w0 sz) := by
  refine Met.ofW (cc := cX12_four) (maxL := 3) (ret := none) (by decide) rfl ?_
  intro p e s m args below meth c s₁ Bk hml hv
  obtain ⟨rfl, ⟨hsz, hP, hK, hD0⟩, hE, hSR⟩ := hv
  have hx := Bk.exec
  have hb := Bk.bytes
  have hr := Bk.returns
  have hlocks := Bk.notSynchronized
  have hC : CallFix p m c cX12_four 3 s _ (wu yX12_four cX12_four 3 none) RX12 := ⟨hx, hb, hml, findClass_of_methodNamed Bk.named, atoms_spec (ws := (wu yX12_four cX12_four 3 none)) Bk.pre⟩
  subst hsz
  have hD := hD0.self (sz := s.heap.size)
  generalize hAe : va_A w0 s.heap.size = A at hD hE ⊢
  have hA : ∀ q : Nat, s.heap.size ≤ q → A q := fun q h => by rw [← hAe]; exact Or.inr h
  have hw : Wd dC dI A s.heap s.heap [] w0 := ⟨hP, hD, va_S.rf⟩
  have hF : FE ksM [(12, 1, 1), (60, 0, 400)] w0 w0 := FE.rf
  have hl := lv_entry ([.ref (ad 0), .int a1]) (n := 3) (Nat.le_of_ble_eq_true rfl)
  rw [lg_entry_eq]
  generalize (lg_sl ([.ref (ad 0), .int a1]) ++ List.replicate (3 - (lg_sl ([.ref (ad 0), .int a1])).length) Slot.unset).toArray = ls at hl ⊢
  have hl : lv_has ls 3 [(0, .ref (ad 0)), (1, .int a1)] := hl
  generalize hloc : ([] : List Loc) = locs at hw ⊢
  have hinX12 : ∀ w ∈ u_ws RX12 TX12 42, w ∈ (wu yX12_four cX12_four 3 none) := fun _ h => List.mem_cons_of_mem _ (up_71 h)
  have hM : TT (fun n => m_X12_four n 0 a1.toInt (sI w0)) (fun n => m_X12_four n 0 a1.toInt (sI w0)) := TT.rf
  refine lv_bipush (v := 24) hx hb dX12_four_0 (by decide) ?_
  refine lv_istore_n (lv' := [(2, .int 24), (0, .ref (ad 0)), (1, .int a1)]) hx hb dX12_four_2 rfl hl (by decide) rfl (fun ls hl => ?_)
  refine lv_iload_n hx hb dX12_four_3 rfl (lv_at hl 0 rfl) ?_
  refine lv_if_lt (tgt := 36) hx hb dX12_four_4 (by decide) (fun c => absurd c (by decide)) (fun _ => ?_)
  refine lv_aload_n hx hb dX12_four_7 rfl (lv_at hl 1 rfl) ?_
  refine tk_getA hC hK hw hT hinX12 kM_at0 (by decide) rfl 0 (by decide) (List.mem_cons_of_mem _ uw_6_14) rfl rfl dX12_four_8 ?_
  refine lv_aload_n hx hb dX12_four_11 rfl (lv_at hl 1 rfl) ?_
  refine tk_geti hC hK hw hT hinX12 kM_at0 (by decide) rfl 1 (by decide) (List.mem_cons_of_mem _ uw_8_7) rfl rfl dX12_four_12 (fun x1 c2 rx1 tx1 => ?_)
  refine wk_top f0_ (c2.symm.trans cf0_) ?_
  replace hM := hM.rd (sI_at cf0_)
  refine lv_iload_n hx hb dX12_four_15 rfl (lv_at hl 2 rfl) ?_
  refine lv_iload_n hx hb dX12_four_16 rfl (lv_at hl 0 rfl) ?_
  refine lv_ishr hx hb dX12_four_17 ?_
  refine lv_topi (fun x3 ex3 => ?_)
  have ezx3 := ex3
  replace hM := hM.lt (o32_e (f := fun x y => x >>> (y &&& 31)) ezx3 rfl (by decide))
  refine lv_i2b hx hb dX12_four_18 rfl ?_
  refine lv_topi (fun x4 ex4 => ?_)
  replace hM := hM.lt (mB_e ex4)
  refine tk_bastv hC hK hw hT kM_at1 (by decide) rfl rfl (show 0 ≤ f0_.toInt from rf0_) (show f0_.toInt < 400 from Int.lt_of_le_of_lt tf0_ (by decide)) dX12_four_19 (fun H locs w5 hw hT k7 c6 => ?_)
  obtain ⟨z8, ez8⟩ : ∃ z : Int32, z = x4.toInt8.toInt32 := ⟨_, rfl⟩
  have c6 := c6.trans ez8.symm
  replace hM := hM.lt (mB_e ez8)
  replace hM := hM.wr (sI_up k7 c6)
  have hF := hF.put kM_at1 (inE_of (a := 0) (b := 400) (by decide) (show 0 ≤ f0_.toInt.toNat by omega) (show f0_.toInt.toNat ≤ 400 by omega)) k7
  have c9 := k7.gi (Or.inl (tk_ne kM_at0 kM_at1 (by decide))) cf0_
  refine lv_aload_n hx hb dX12_four_20 rfl (lv_at hl 1 rfl) ?_
  refine lv_dup hx hb dX12_four_21 rfl ?_
  refine tk_geti hC hK hw hT hinX12 kM_at0 (by decide) rfl 1 (by decide) (List.mem_cons_of_mem _ uw_8_7) rfl rfl dX12_four_22 (fun x10 c11 rx10 tx10 => ?_)
  refine wk_top f0_ (c11.symm.trans c9) ?_
  replace hM := hM.rd (sI_at c9)
  refine lv_iconst (v := 1) hx hb dX12_four_25 (by decide) ?_
  refine lv_iadd hx hb dX12_four_26 ?_
  refine lv_topi (fun x12 ex12 => ?_)
  have ezx12 := ex12
  have ex12 : x12.toInt = f0_.toInt + (1 : Int) := by rw [ex12]; exact wk_add (show (-2147483648) ≤ f0_.toInt + (1 : Int) by omega) (show f0_.toInt + (1 : Int) ≤ 2147483647 by omega)
  replace hM := hM.lt ex12.symm
  refine tk_puti hC hK hw hT hinX12 tyX12_ok nmX12 kM_at0 (by decide) rfl rfl 1 (by decide) (List.mem_cons_of_mem _ uw_8_7) rfl rfl rfl rfl (show 0 ≤ x12.toInt by omega) (show x12.toInt ≤ 400 by omega) dX12_four_27 (fun H locs w13 hw hT k15 c14 => ?_)
  replace hM := hM.wr (sI_up k15 c14)
  have hF := hF.put kM_at0 (k := 1) (by decide) k15
  refine lv_iinc (v := 16) (lv' := [(2, .int 16), (0, .ref (ad 0)), (1, .int a1)]) hx hb dX12_four_30 hl (k := 0) rfl (by decide) (by decide) rfl (fun ls hl => ?_)
  refine lv_goto (tgt := 3) hx hb dX12_four_33 (by decide) ?_
  refine lv_iload_n hx hb dX12_four_3 rfl (lv_at hl 0 rfl) ?_
  refine lv_if_lt (tgt := 36) hx hb dX12_four_4 (by decide) (fun c => absurd c (by decide)) (fun _ => ?_)
  refine lv_aload_n hx hb dX12_four_7 rfl (lv_at hl 1 rfl) ?_
  refine tk_getA hC hK hw hT hinX12 kM_at0 (by decide) rfl 0 (by decide) (List.mem_cons_of_mem _ uw_6_14) rfl rfl dX12_four_8 ?_
  refine lv_aload_n hx hb dX12_four_11 rfl (lv_at hl 1 rfl) ?_
  refine tk_geti hC hK hw hT hinX12 kM_at0 (by decide) rfl 1 (by decide) (List.mem_cons_of_mem _ uw_8_7) rfl rfl dX12_four_12 (fun x16 c17 rx16 tx16 => ?_)
  refine wk_top x12 (c17.symm.trans c14) ?_
  replace hM := hM.rd (sI_at c14)
  refine lv_iload_n hx hb dX12_four_15 rfl (lv_at hl 2 rfl) ?_
  refine lv_iload_n hx hb dX12_four_16 rfl (lv_at hl 0 rfl) ?_
  refine lv_ishr hx hb dX12_four_17 ?_
  refine lv_topi (fun x18 ex18 => ?_)
  have ezx18 := ex18
  replace hM := hM.lt (o32_e (f := fun x y => x >>> (y &&& 31)) ezx18 rfl (by decide))
  refine lv_i2b hx hb dX12_four_18 rfl ?_
  refine lv_topi (fun x19 ex19 => ?_)
  replace hM := hM.lt (mB_e ex19)
  refine tk_bastv hC hK hw hT kM_at1 (by decide) rfl rfl (show 0 ≤ x12.toInt by omega) (show x12.toInt < 400 by omega) dX12_four_19 (fun H locs w20 hw hT k22 c21 => ?_)
  obtain ⟨z23, ez23⟩ : ∃ z : Int32, z = x19.toInt8.toInt32 := ⟨_, rfl⟩
  have c21 := c21.trans ez23.symm
  replace hM := hM.lt (mB_e ez23)
  replace hM := hM.wr (sI_up k22 c21)
  have hF := hF.put kM_at1 (inE_of (a := 0) (b := 400) (by decide) (show 0 ≤ x12.toInt.toNat by omega) (show x12.toInt.toNat ≤ 400 by omega)) k22
  have c24 := k22.gi (Or.inl (tk_ne kM_at0 kM_at1 (by decide))) c14
  refine lv_aload_n hx hb dX12_four_20 rfl (lv_at hl 1 rfl) ?_
  refine lv_dup hx hb dX12_four_21 rfl ?_
  refine tk_geti hC hK hw hT hinX12 kM_at0 (by decide) rfl 1 (by decide) (List.mem_cons_of_mem _ uw_8_7) rfl rfl dX12_four_22 (fun x25 c26 rx25 tx25 => ?_)
  refine wk_top x12 (c26.symm.trans c24) ?_
  replace hM := hM.rd (sI_at c24)
  refine lv_iconst (v := 1) hx hb dX12_four_25 (by decide) ?_
  refine lv_iadd hx hb dX12_four_26 ?_
  refine lv_topi (fun x27 ex27 => ?_)
  have ezx27 := ex27
  have ex27 : x27.toInt = x12.toInt + (1 : Int) := by rw [ex27]; exact wk_add (show (-2147483648) ≤ x12.toInt + (1 : Int) by omega) (show x12.toInt + (1 : Int) ≤ 2147483647 by omega)
  replace hM := hM.lt ex27.symm
  refine tk_puti hC hK hw hT hinX12 tyX12_ok nmX12 kM_at0 (by decide) rfl rfl 1 (by decide) (List.mem_cons_of_mem _ uw_8_7) rfl rfl rfl rfl (show 0 ≤ x27.toInt by omega) (show x27.toInt ≤ 400 by omega) dX12_four_27 (fun H locs w28 hw hT k30 c29 => ?_)
  replace hM := hM.wr (sI_up k30 c29)
  have hF := hF.put kM_at0 (k := 1) (by decide) k30
  refine lv_iinc (v := 8) (lv' := [(2, .int 8), (0, .ref (ad 0)), (1, .int a1)]) hx hb dX12_four_30 hl (k := 0) rfl (by decide) (by decide) rfl (fun ls hl => ?_)
  refine lv_goto (tgt := 3) hx hb dX12_four_33 (by decide) ?_
  refine lv_iload_n hx hb dX12_four_3 rfl (lv_at hl 0 rfl) ?_
  refine lv_if_lt (tgt := 36) hx hb dX12_four_4 (by decide) (fun c => absurd c (by decide)) (fun _ => ?_)
  refine lv_aload_n hx hb dX12_four_7 rfl (lv_at hl 1 rfl) ?_
  refine tk_getA hC hK hw hT hinX12 kM_at0 (by decide) rfl 0 (by decide) (List.mem_cons_of_mem _ uw_6_14) rfl rfl dX12_four_8 ?_
  refine lv_aload_n hx hb dX12_four_11 rfl (lv_at hl 1 rfl) ?_
  refine tk_geti hC hK hw hT hinX12 kM_at0 (by decide) rfl 1 (by decide) (List.mem_cons_of_mem _ uw_8_7) rfl rfl dX12_four_12 (fun x31 c32 rx31 tx31 => ?_)
  refine wk_top x27 (c32.symm.trans c29) ?_
  replace hM := hM.rd (sI_at c29)
  refine lv_iload_n hx hb dX12_four_15 rfl (lv_at hl 2 rfl) ?_
  refine lv_iload_n hx hb dX12_four_16 rfl (lv_at hl 0 rfl) ?_
  refine lv_ishr hx hb dX12_four_17 ?_
  refine lv_topi (fun x33 ex33 => ?_)
  have ezx33 := ex33
  replace hM := hM.lt (o32_e (f := fun x y => x >>> (y &&& 31)) ezx33 rfl (by decide))
  refine lv_i2b hx hb dX12_four_18 rfl ?_
  refine lv_topi (fun x34 ex34 => ?_)
  replace hM := hM.lt (mB_e ex34)
  refine tk_bastv hC hK hw hT kM_at1 (by decide) rfl rfl (show 0 ≤ x27.toInt by omega) (show x27.toInt < 400 by omega) dX12_four_19 (fun H locs w35 hw hT k37 c36 => ?_)
  obtain ⟨z38, ez38⟩ : ∃ z : Int32, z = x34.toInt8.toInt32 := ⟨_, rfl⟩
  have c36 := c36.trans ez38.symm
  replace hM := hM.lt (mB_e ez38)
  replace hM := hM.wr (sI_up k37 c36)
  have hF := hF.put kM_at1 (inE_of (a := 0) (b := 400) (by decide) (show 0 ≤ x27.toInt.toNat by omega) (show x27.toInt.toNat ≤ 400 by omega)) k37
  have c39 := k37.gi (Or.inl (tk_ne kM_at0 kM_at1 (by decide))) c29
  refine lv_aload_n hx hb dX12_four_20 rfl (lv_at hl 1 rfl) ?_
  refine lv_dup hx hb dX12_four_21 rfl ?_
  refine tk_geti hC hK hw hT hinX12 kM_at0 (by decide) rfl 1 (by decide) (List.mem_cons_of_mem _ uw_8_7) rfl rfl dX12_four_22 (fun x40 c41 rx40 tx40 => ?_)
  refine wk_top x27 (c41.symm.trans c39) ?_
  replace hM := hM.rd (sI_at c39)
  refine lv_iconst (v := 1) hx hb dX12_four_25 (by decide) ?_
  refine lv_iadd hx hb dX12_four_26 ?_
  refine lv_topi (fun x42 ex42 => ?_)
  have ezx42 := ex42
  have ex42 : x42.toInt = x27.toInt + (1 : Int) := by rw [ex42]; exact wk_add (show (-2147483648) ≤ x27.toInt + (1 : Int) by omega) (show x27.toInt + (1 : Int) ≤ 2147483647 by omega)
  replace hM := hM.lt ex42.symm
  refine tk_puti hC hK hw hT hinX12 tyX12_ok nmX12 kM_at0 (by decide) rfl rfl 1 (by decide) (List.mem_cons_of_mem _ uw_8_7) rfl rfl rfl rfl (show 0 ≤ x42.toInt by omega) (show x42.toInt ≤ 400 by omega) dX12_four_27 (fun H locs w43 hw hT k45 c44 => ?_)
  replace hM := hM.wr (sI_up k45 c44)
  have hF := hF.put kM_at0 (k := 1) (by decide) k45
  refine lv_iinc (v := 0) (lv' := [(2, .int 0), (0, .ref (ad 0)), (1, .int a1)]) hx hb dX12_four_30 hl (k := 0) rfl (by decide) (by decide) rfl (fun ls hl => ?_)
  refine lv_goto (tgt := 3) hx hb dX12_four_33 (by decide) ?_
  refine lv_iload_n hx hb dX12_four_3 rfl (lv_at hl 0 rfl) ?_
  refine lv_if_lt (tgt := 36) hx hb dX12_four_4 (by decide) (fun c => absurd c (by decide)) (fun _ => ?_)
  refine lv_aload_n hx hb dX12_four_7 rfl (lv_at hl 1 rfl) ?_
  refine tk_getA hC hK hw hT hinX12 kM_at0 (by decide) rfl 0 (by decide) (List.mem_cons_of_mem _ uw_6_14) rfl rfl dX12_four_8 ?_
  refine lv_aload_n hx hb dX12_four_11 rfl (lv_at hl 1 rfl) ?_
  refine tk_geti hC hK hw hT hinX12 kM_at0 (by decide) rfl 1 (by decide) (List.mem_cons_of_mem _ uw_8_7) rfl rfl dX12_four_12 (fun x46 c47 rx46 tx46 => ?_)
  refine wk_top x42 (c47.symm.trans c44) ?_
  replace hM := hM.rd (sI_at c44)
  refine lv_iload_n hx hb dX12_four_15 rfl (lv_at hl 2 rfl) ?_
  refine lv_iload_n hx hb dX12_four_16 rfl (lv_at hl 0 rfl) ?_
  refine lv_ishr hx hb dX12_four_17 ?_
  refine lv_topi (fun x48 ex48 => ?_)
  have ezx48 := ex48
  replace hM := hM.lt (o32_e (f := fun x y => x >>> (y &&& 31)) ezx48 rfl (by decide))
  refine lv_i2b hx hb dX12_four_18 rfl ?_
  refine lv_topi (fun x49 ex49 => ?_)
  replace hM := hM.lt (mB_e ex49)
  refine tk_bastv hC hK hw hT kM_at1 (by decide) rfl rfl (show 0 ≤ x42.toInt by omega) (show x42.toInt < 400 by omega) dX12_four_19 (fun H locs w50 hw hT k52 c51 => ?_)
  obtain ⟨z53, ez53⟩ : ∃ z : Int32, z = x49.toInt8.toInt32 := ⟨_, rfl⟩
  have c51 := c51.trans ez53.symm
  replace hM := hM.lt (mB_e ez53)
  replace hM := hM.wr (sI_up k52 c51)
  have hF := hF.put kM_at1 (inE_of (a := 0) (b := 400) (by decide) (show 0 ≤ x42.toInt.toNat by omega) (show x42.toInt.toNat ≤ 400 by omega)) k52
  have c54 := k52.gi (Or.inl (tk_ne kM_at0 kM_at1 (by decide))) c44
  refine lv_aload_n hx hb dX12_four_20 rfl (lv_at hl 1 rfl) ?_
  refine lv_dup hx hb dX12_four_21 rfl ?_
  refine tk_geti hC hK hw hT hinX12 kM_at0 (by decide) rfl 1 (by decide) (List.mem_cons_of_mem _ uw_8_7) rfl rfl dX12_four_22 (fun x55 c56 rx55 tx55 => ?_)
  refine wk_top x42 (c56.symm.trans c54) ?_
  replace hM := hM.rd (sI_at c54)
  refine lv_iconst (v := 1) hx hb dX12_four_25 (by decide) ?_
  refine lv_iadd hx hb dX12_four_26 ?_
  refine lv_topi (fun x57 ex57 => ?_)
  have ezx57 := ex57
  have ex57 : x57.toInt = x42.toInt + (1 : Int) := by rw [ex57]; exact wk_add (show (-2147483648) ≤ x42.toInt + (1 : Int) by omega) (show x42.toInt + (1 : Int) ≤ 2147483647 by omega)
  replace hM := hM.lt ex57.symm
  refine tk_puti hC hK hw hT hinX12 tyX12_ok nmX12 kM_at0 (by decide) rfl rfl 1 (by decide) (List.mem_cons_of_mem _ uw_8_7) rfl rfl rfl rfl (show 0 ≤ x57.toInt by omega) (show x57.toInt ≤ 400 by omega) dX12_four_27 (fun H locs w58 hw hT k60 c59 => ?_)
  replace hM := hM.wr (sI_up k60 c59)
  have hF := hF.put kM_at0 (k := 1) (by decide) k60
  refine lv_iinc (v := (-8)) (lv' := [(2, .int (-8)), (0, .ref (ad 0)), (1, .int a1)]) hx hb dX12_four_30 hl (k := 0) rfl (by decide) (by decide) rfl (fun ls hl => ?_)
  refine lv_goto (tgt := 3) hx hb dX12_four_33 (by decide) ?_
  refine lv_iload_n hx hb dX12_four_3 rfl (lv_at hl 0 rfl) ?_
  refine lv_if_lt (tgt := 36) hx hb dX12_four_4 (by decide) (fun _ => ?_) (fun c => absurd (by decide) c)
  exact tk_vret hC hr hlocks hK ⟨hT, hF, hM.ret rfl, ⟨x57, c59, (show 4 ≤ x57.toInt by omega), (show x57.toInt ≤ 384 by omega)⟩⟩ hw dX12_four_36
abbrev Pz_X12_four_2 (ad : Nat → Nat) (cy : Nat → ClassId) (B : Int) (qr : Nat) (s1 : Int) (a1 : Int32) (w0 : va_W) : va_W → Prop := fun u => TW ksM ad cy B qr 12 u ∧ FE ksM [(12, 1, 1), (60, 0, 400)] w0 u ∧ Ev (fun n => m_X12_four n 0 a1.toInt (sI w0)) (0, sI u) ∧ (((∃ y : Int32, gi u 0 1 = y ∧ 8 ≤ y.toInt ∧ y.toInt ≤ 388)))
set_option maxHeartbeats 4000000 in
set_option maxRecDepth 100000 in
theorem kz_X12_four_2 (l : Launch) (adK adV : Nat → Nat) (dC : Nat → ClassId) (dI : Nat → Nat → Nat) (cy : Nat → ClassId) (ad : Nat → Nat) (B : Int) (hB0 : 100000 ≤ B) (hB1 : B ≤ 1073741824) (qr : Nat) (s1 : Int)  (a1 : Int32) (w0 : va_W) (sz : Nat) (hT : TW ksM ad cy B qr 12 w0) (f0_ : Int32) (cf0_ : gi w0 0 1 = f0_) (rf0_ : 4 ≤ f0_.toInt) (tf0_ : f0_.toInt ≤ 384) : Met l yX12_four (wu yX12_four cX12_four 3 none) ({ frames := 1, cells := 0, slots := 0, locals := 12 }) (va_Pc [.ref (ad 0), .int a1] (wpreS adK adV dC dI cy sz w0)) (va_Qv (Pz_X12_four_2 ad cy B qr s1 a1 w0) (fun u : va_W => wpost dC dI cy (va_A w0 sz) u) (va_A w0 sz)) 0 0 (va_A w0 sz) := by
  refine Met.ofW (cc := cX12_four) (maxL := 3) (ret := none) (by decide) rfl ?_
  intro p e s m args below meth c s₁ Bk hml hv
  obtain ⟨rfl, ⟨hsz, hP, hK, hD0⟩, hE, hSR⟩ := hv
  have hx := Bk.exec
  have hb := Bk.bytes
  have hr := Bk.returns
  have hlocks := Bk.notSynchronized
  have hC : CallFix p m c cX12_four 3 s _ (wu yX12_four cX12_four 3 none) RX12 := ⟨hx, hb, hml, findClass_of_methodNamed Bk.named, atoms_spec (ws := (wu yX12_four cX12_four 3 none)) Bk.pre⟩
  subst hsz
  have hD := hD0.self (sz := s.heap.size)
  generalize hAe : va_A w0 s.heap.size = A at hD hE ⊢
  have hA : ∀ q : Nat, s.heap.size ≤ q → A q := fun q h => by rw [← hAe]; exact Or.inr h
  have hw : Wd dC dI A s.heap s.heap [] w0 := ⟨hP, hD, va_S.rf⟩
  have hF : FE ksM [(12, 1, 1), (60, 0, 400)] w0 w0 := FE.rf
  have hl := lv_entry ([.ref (ad 0), .int a1]) (n := 3) (Nat.le_of_ble_eq_true rfl)
  rw [lg_entry_eq]
  generalize (lg_sl ([.ref (ad 0), .int a1]) ++ List.replicate (3 - (lg_sl ([.ref (ad 0), .int a1])).length) Slot.unset).toArray = ls at hl ⊢
  have hl : lv_has ls 3 [(0, .ref (ad 0)), (1, .int a1)] := hl
  generalize hloc : ([] : List Loc) = locs at hw ⊢
  have hinX12 : ∀ w ∈ u_ws RX12 TX12 42, w ∈ (wu yX12_four cX12_four 3 none) := fun _ h => List.mem_cons_of_mem _ (up_71 h)
  have hM : TT (fun n => m_X12_four n 0 a1.toInt (sI w0)) (fun n => m_X12_four n 0 a1.toInt (sI w0)) := TT.rf
  refine lv_bipush (v := 24) hx hb dX12_four_0 (by decide) ?_
  refine lv_istore_n (lv' := [(2, .int 24), (0, .ref (ad 0)), (1, .int a1)]) hx hb dX12_four_2 rfl hl (by decide) rfl (fun ls hl => ?_)
  refine lv_iload_n hx hb dX12_four_3 rfl (lv_at hl 0 rfl) ?_
  refine lv_if_lt (tgt := 36) hx hb dX12_four_4 (by decide) (fun c => absurd c (by decide)) (fun _ => ?_)
  refine lv_aload_n hx hb dX12_four_7 rfl (lv_at hl 1 rfl) ?_
  refine tk_getA hC hK hw hT hinX12 kM_at0 (by decide) rfl 0 (by decide) (List.mem_cons_of_mem _ uw_6_14) rfl rfl dX12_four_8 ?_
  refine lv_aload_n hx hb dX12_four_11 rfl (lv_at hl 1 rfl) ?_
  refine tk_geti hC hK hw hT hinX12 kM_at0 (by decide) rfl 1 (by decide) (List.mem_cons_of_mem _ uw_8_7) rfl rfl dX12_four_12 (fun x1 c2 rx1 tx1 => ?_)
  refine wk_top f0_ (c2.symm.trans cf0_) ?_
  replace hM := hM.rd (sI_at cf0_)
  refine lv_iload_n hx hb dX12_four_15 rfl (lv_at hl 2 rfl) ?_
  refine lv_iload_n hx hb dX12_four_16 rfl (lv_at hl 0 rfl) ?_
  refine lv_ishr hx hb dX12_four_17 ?_
  refine lv_topi (fun x3 ex3 => ?_)
  have ezx3 := ex3
  replace hM := hM.lt (o32_e (f := fun x y => x >>> (y &&& 31)) ezx3 rfl (by decide))
  refine lv_i2b hx hb dX12_four_18 rfl ?_
  refine lv_topi (fun x4 ex4 => ?_)
  replace hM := hM.lt (mB_e ex4)
  refine tk_bastv hC hK hw hT kM_at1 (by decide) rfl rfl (show 0 ≤ f0_.toInt from Int.le_trans (by decide) rf0_) (show f0_.toInt < 400 from Int.lt_of_le_of_lt tf0_ (by decide)) dX12_four_19 (fun H locs w5 hw hT k7 c6 => ?_)
  obtain ⟨z8, ez8⟩ : ∃ z : Int32, z = x4.toInt8.toInt32 := ⟨_, rfl⟩
  have c6 := c6.trans ez8.symm
  replace hM := hM.lt (mB_e ez8)
  replace hM := hM.wr (sI_up k7 c6)
  have hF := hF.put kM_at1 (inE_of (a := 0) (b := 400) (by decide) (show 0 ≤ f0_.toInt.toNat by omega) (show f0_.toInt.toNat ≤ 400 by omega)) k7
  have c9 := k7.gi (Or.inl (tk_ne kM_at0 kM_at1 (by decide))) cf0_
  refine lv_aload_n hx hb dX12_four_20 rfl (lv_at hl 1 rfl) ?_
  refine lv_dup hx hb dX12_four_21 rfl ?_
  refine tk_geti hC hK hw hT hinX12 kM_at0 (by decide) rfl 1 (by decide) (List.mem_cons_of_mem _ uw_8_7) rfl rfl dX12_four_22 (fun x10 c11 rx10 tx10 => ?_)
  refine wk_top f0_ (c11.symm.trans c9) ?_
  replace hM := hM.rd (sI_at c9)
  refine lv_iconst (v := 1) hx hb dX12_four_25 (by decide) ?_
  refine lv_iadd hx hb dX12_four_26 ?_
  refine lv_topi (fun x12 ex12 => ?_)
  have ezx12 := ex12
  have ex12 : x12.toInt = f0_.toInt + (1 : Int) := by rw [ex12]; exact wk_add (show (-2147483648) ≤ f0_.toInt + (1 : Int) by omega) (show f0_.toInt + (1 : Int) ≤ 2147483647 by omega)
  replace hM := hM.lt ex12.symm
  refine tk_puti hC hK hw hT hinX12 tyX12_ok nmX12 kM_at0 (by decide) rfl rfl 1 (by decide) (List.mem_cons_of_mem _ uw_8_7) rfl rfl rfl rfl (show 0 ≤ x12.toInt by omega) (show x12.toInt ≤ 400 by omega) dX12_four_27 (fun H locs w13 hw hT k15 c14 => ?_)
  replace hM := hM.wr (sI_up k15 c14)
  have hF := hF.put kM_at0 (k := 1) (by decide) k15
  refine lv_iinc (v := 16) (lv' := [(2, .int 16), (0, .ref (ad 0)), (1, .int a1)]) hx hb dX12_four_30 hl (k := 0) rfl (by decide) (by decide) rfl (fun ls hl => ?_)
  refine lv_goto (tgt := 3) hx hb dX12_four_33 (by decide) ?_
  refine lv_iload_n hx hb dX12_four_3 rfl (lv_at hl 0 rfl) ?_
  refine lv_if_lt (tgt := 36) hx hb dX12_four_4 (by decide) (fun c => absurd c (by decide)) (fun _ => ?_)
  refine lv_aload_n hx hb dX12_four_7 rfl (lv_at hl 1 rfl) ?_
  refine tk_getA hC hK hw hT hinX12 kM_at0 (by decide) rfl 0 (by decide) (List.mem_cons_of_mem _ uw_6_14) rfl rfl dX12_four_8 ?_
  refine lv_aload_n hx hb dX12_four_11 rfl (lv_at hl 1 rfl) ?_
  refine tk_geti hC hK hw hT hinX12 kM_at0 (by decide) rfl 1 (by decide) (List.mem_cons_of_mem _ uw_8_7) rfl rfl dX12_four_12 (fun x16 c17 rx16 tx16 => ?_)
  refine wk_top x12 (c17.symm.trans c14) ?_
  replace hM := hM.rd (sI_at c14)
  refine lv_iload_n hx hb dX12_four_15 rfl (lv_at hl 2 rfl) ?_
  refine lv_iload_n hx hb dX12_four_16 rfl (lv_at hl 0 rfl) ?_
  refine lv_ishr hx hb dX12_four_17 ?_
  refine lv_topi (fun x18 ex18 => ?_)
  have ezx18 := ex18
  replace hM := hM.lt (o32_e (f := fun x y => x >>> (y &&& 31)) ezx18 rfl (by decide))
  refine lv_i2b hx hb dX12_four_18 rfl ?_
  refine lv_topi (fun x19 ex19 => ?_)
  replace hM := hM.lt (mB_e ex19)
  refine tk_bastv hC hK hw hT kM_at1 (by decide) rfl rfl (show 0 ≤ x12.toInt by omega) (show x12.toInt < 400 by omega) dX12_four_19 (fun H locs w20 hw hT k22 c21 => ?_)
  obtain ⟨z23, ez23⟩ : ∃ z : Int32, z = x19.toInt8.toInt32 := ⟨_, rfl⟩
  have c21 := c21.trans ez23.symm
  replace hM := hM.lt (mB_e ez23)
  replace hM := hM.wr (sI_up k22 c21)
  have hF := hF.put kM_at1 (inE_of (a := 0) (b := 400) (by decide) (show 0 ≤ x12.toInt.toNat by omega) (show x12.toInt.toNat ≤ 400 by omega)) k22
  have c24 := k22.gi (Or.inl (tk_ne kM_at0 kM_at1 (by decide))) c14
  refine lv_aload_n hx hb dX12_four_20 rfl (lv_at hl 1 rfl) ?_
  refine lv_dup hx hb dX12_four_21 rfl ?_
  refine tk_geti hC hK hw hT hinX12 kM_at0 (by decide) rfl 1 (by decide) (List.mem_cons_of_mem _ uw_8_7) rfl rfl dX12_four_22 (fun x25 c26 rx25 tx25 => ?_)
  refine wk_top x12 (c26.symm.trans c24) ?_
  replace hM := hM.rd (sI_at c24)
  refine lv_iconst (v := 1) hx hb dX12_four_25 (by decide) ?_
  refine lv_iadd hx hb dX12_four_26 ?_
  refine lv_topi (fun x27 ex27 => ?_)
  have ezx27 := ex27
  have ex27 : x27.toInt = x12.toInt + (1 : Int) := by rw [ex27]; exact wk_add (show (-2147483648) ≤ x12.toInt + (1 : Int) by omega) (show x12.toInt + (1 : Int) ≤ 2147483647 by omega)
  replace hM := hM.lt ex27.symm
  refine tk_puti hC hK hw hT hinX12 tyX12_ok nmX12 kM_at0 (by decide) rfl rfl 1 (by decide) (List.mem_cons_of_mem _ uw_8_7) rfl rfl rfl rfl (show 0 ≤ x27.toInt by omega) (show x27.toInt ≤ 400 by omega) dX12_four_27 (fun H locs w28 hw hT k30 c29 => ?_)
  replace hM := hM.wr (sI_up k30 c29)
  have hF := hF.put kM_at0 (k := 1) (by decide) k30
  refine lv_iinc (v := 8) (lv' := [(2, .int 8), (0, .ref (ad 0)), (1, .int a1)]) hx hb dX12_four_30 hl (k := 0) rfl (by decide) (by decide) rfl (fun ls hl => ?_)
  refine lv_goto (tgt := 3) hx hb dX12_four_33 (by decide) ?_
  refine lv_iload_n hx hb dX12_four_3 rfl (lv_at hl 0 rfl) ?_
  refine lv_if_lt (tgt := 36) hx hb dX12_four_4 (by decide) (fun c => absurd c (by decide)) (fun _ => ?_)
  refine lv_aload_n hx hb dX12_four_7 rfl (lv_at hl 1 rfl) ?_
  refine tk_getA hC hK hw hT hinX12 kM_at0 (by decide) rfl 0 (by decide) (List.mem_cons_of_mem _ uw_6_14) rfl rfl dX12_four_8 ?_
  refine lv_aload_n hx hb dX12_four_11 rfl (lv_at hl 1 rfl) ?_
  refine tk_geti hC hK hw hT hinX12 kM_at0 (by decide) rfl 1 (by decide) (List.mem_cons_of_mem _ uw_8_7) rfl rfl dX12_four_12 (fun x31 c32 rx31 tx31 => ?_)
  refine wk_top x27 (c32.symm.trans c29) ?_
  replace hM := hM.rd (sI_at c29)
  refine lv_iload_n hx hb dX12_four_15 rfl (lv_at hl 2 rfl) ?_
  refine lv_iload_n hx hb dX12_four_16 rfl (lv_at hl 0 rfl) ?_
  refine lv_ishr hx hb dX12_four_17 ?_
  refine lv_topi (fun x33 ex33 => ?_)
  have ezx33 := ex33
  replace hM := hM.lt (o32_e (f := fun x y => x >>> (y &&& 31)) ezx33 rfl (by decide))
  refine lv_i2b hx hb dX12_four_18 rfl ?_
  refine lv_topi (fun x34 ex34 => ?_)
  replace hM := hM.lt (mB_e ex34)
  refine tk_bastv hC hK hw hT kM_at1 (by decide) rfl rfl (show 0 ≤ x27.toInt by omega) (show x27.toInt < 400 by omega) dX12_four_19 (fun H locs w35 hw hT k37 c36 => ?_)
  obtain ⟨z38, ez38⟩ : ∃ z : Int32, z = x34.toInt8.toInt32 := ⟨_, rfl⟩
  have c36 := c36.trans ez38.symm
  replace hM := hM.lt (mB_e ez38)
  replace hM := hM.wr (sI_up k37 c36)
  have hF := hF.put kM_at1 (inE_of (a := 0) (b := 400) (by decide) (show 0 ≤ x27.toInt.toNat by omega) (show x27.toInt.toNat ≤ 400 by omega)) k37
  have c39 := k37.gi (Or.inl (tk_ne kM_at0 kM_at1 (by decide))) c29
  refine lv_aload_n hx hb dX12_four_20 rfl (lv_at hl 1 rfl) ?_
  refine lv_dup hx hb dX12_four_21 rfl ?_
  refine tk_geti hC hK hw hT hinX12 kM_at0 (by decide) rfl 1 (by decide) (List.mem_cons_of_mem _ uw_8_7) rfl rfl dX12_four_22 (fun x40 c41 rx40 tx40 => ?_)
  refine wk_top x27 (c41.symm.trans c39) ?_
  replace hM := hM.rd (sI_at c39)
  refine lv_iconst (v := 1) hx hb dX12_four_25 (by decide) ?_
  refine lv_iadd hx hb dX12_four_26 ?_
  refine lv_topi (fun x42 ex42 => ?_)
  have ezx42 := ex42
  have ex42 : x42.toInt = x27.toInt + (1 : Int) := by rw [ex42]; exact wk_add (show (-2147483648) ≤ x27.toInt + (1 : Int) by omega) (show x27.toInt + (1 : Int) ≤ 2147483647 by omega)
  replace hM := hM.lt ex42.symm
  refine tk_puti hC hK hw hT hinX12 tyX12_ok nmX12 kM_at0 (by decide) rfl rfl 1 (by decide) (List.mem_cons_of_mem _ uw_8_7) rfl rfl rfl rfl (show 0 ≤ x42.toInt by omega) (show x42.toInt ≤ 400 by omega) dX12_four_27 (fun H locs w43 hw hT k45 c44 => ?_)
  replace hM := hM.wr (sI_up k45 c44)
  have hF := hF.put kM_at0 (k := 1) (by decide) k45
  refine lv_iinc (v := 0) (lv' := [(2, .int 0), (0, .ref (ad 0)), (1, .int a1)]) hx hb dX12_four_30 hl (k := 0) rfl (by decide) (by decide) rfl (fun ls hl => ?_)
  refine lv_goto (tgt := 3) hx hb dX12_four_33 (by decide) ?_
  refine lv_iload_n hx hb dX12_four_3 rfl (lv_at hl 0 rfl) ?_
  refine lv_if_lt (tgt := 36) hx hb dX12_four_4 (by decide) (fun c => absurd c (by decide)) (fun _ => ?_)
  refine lv_aload_n hx hb dX12_four_7 rfl (lv_at hl 1 rfl) ?_
  refine tk_getA hC hK hw hT hinX12 kM_at0 (by decide) rfl 0 (by decide) (List.mem_cons_of_mem _ uw_6_14) rfl rfl dX12_four_8 ?_
  refine lv_aload_n hx hb dX12_four_11 rfl (lv_at hl 1 rfl) ?_
  refine tk_geti hC hK hw hT hinX12 kM_at0 (by decide) rfl 1 (by decide) (List.mem_cons_of_mem _ uw_8_7) rfl rfl dX12_four_12 (fun x46 c47 rx46 tx46 => ?_)
  refine wk_top x42 (c47.symm.trans c44) ?_
  replace hM := hM.rd (sI_at c44)
  refine lv_iload_n hx hb dX12_four_15 rfl (lv_at hl 2 rfl) ?_
  refine lv_iload_n hx hb dX12_four_16 rfl (lv_at hl 0 rfl) ?_
  refine lv_ishr hx hb dX12_four_17 ?_
  refine lv_topi (fun x48 ex48 => ?_)
  have ezx48 := ex48
  replace hM := hM.lt (o32_e (f := fun x y => x >>> (y &&& 31)) ezx48 rfl (by decide))
  refine lv_i2b hx hb dX12_four_18 rfl ?_
  refine lv_topi (fun x49 ex49 => ?_)
  replace hM := hM.lt (mB_e ex49)
  refine tk_bastv hC hK hw hT kM_at1 (by decide) rfl rfl (show 0 ≤ x42.toInt by omega) (show x42.toInt < 400 by omega) dX12_four_19 (fun H locs w50 hw hT k52 c51 => ?_)
  obtain ⟨z53, ez53⟩ : ∃ z : Int32, z = x49.toInt8.toInt32 := ⟨_, rfl⟩
  have c51 := c51.trans ez53.symm
  replace hM := hM.lt (mB_e ez53)
  replace hM := hM.wr (sI_up k52 c51)
  have hF := hF.put kM_at1 (inE_of (a := 0) (b := 400) (by decide) (show 0 ≤ x42.toInt.toNat by omega) (show x42.toInt.toNat ≤ 400 by omega)) k52
  have c54 := k52.gi (Or.inl (tk_ne kM_at0 kM_at1 (by decide))) c44
  refine lv_aload_n hx hb dX12_four_20 rfl (lv_at hl 1 rfl) ?_
  refine lv_dup hx hb dX12_four_21 rfl ?_
  refine tk_geti hC hK hw hT hinX12 kM_at0 (by decide) rfl 1 (by decide) (List.mem_cons_of_mem _ uw_8_7) rfl rfl dX12_four_22 (fun x55 c56 rx55 tx55 => ?_)
  refine wk_top x42 (c56.symm.trans c54) ?_
  replace hM := hM.rd (sI_at c54)
  refine lv_iconst (v := 1) hx hb dX12_four_25 (by decide) ?_
  refine lv_iadd hx hb dX12_four_26 ?_
  refine lv_topi (fun x57 ex57 => ?_)
  have ezx57 := ex57
  have ex57 : x57.toInt = x42.toInt + (1 : Int) := by rw [ex57]; exact wk_add (show (-2147483648) ≤ x42.toInt + (1 : Int) by omega) (show x42.toInt + (1 : Int) ≤ 2147483647 by omega)
  replace hM := hM.lt ex57.symm
  refine tk_puti hC hK hw hT hinX12 tyX12_ok nmX12 kM_at0 (by decide) rfl rfl 1 (by decide) (List.mem_cons_of_mem _ uw_8_7) rfl rfl rfl rfl (show 0 ≤ x57.toInt by omega) (show x57.toInt ≤ 400 by omega) dX12_four_27 (fun H locs w58 hw hT k60 c59 => ?_)
  replace hM := hM.wr (sI_up k60 c59)
  have hF := hF.put kM_at0 (k := 1) (by decide) k60
  refine lv_iinc (v := (-8)) (lv' := [(2, .int (-8)), (0, .ref (ad 0)), (1, .int a1)]) hx hb dX12_four_30 hl (k := 0) rfl (by decide) (by decide) rfl (fun ls hl => ?_)
  refine lv_goto (tgt := 3) hx hb dX12_four_33 (by decide) ?_
  refine lv_iload_n hx hb dX12_four_3 rfl (lv_at hl 0 rfl) ?_
  refine lv_if_lt (tgt := 36) hx hb dX12_four_4 (by decide) (fun _ => ?_) (fun c => absurd (by decide) c)
  exact tk_vret hC hr hlocks hK ⟨hT, hF, hM.ret rfl, ⟨x57, c59, (show 8 ≤ x57.toInt by omega), (show x57.toInt ≤ 388 by omega)⟩⟩ hw dX12_four_36
abbrev Pz_X12_four_3 (ad : Nat → Nat) (cy : Nat → ClassId) (B : Int) (qr : Nat) (s1 : Int) (a1 : Int32) (w0 : va_W) : va_W → Prop := fun u => TW ksM ad cy B qr 12 u ∧ FE ksM [(12, 1, 1), (60, 0, 400)] w0 u ∧ Ev (fun n => m_X12_four n 0 a1.toInt (sI w0)) (0, sI u) ∧ (((∃ y : Int32, gi u 0 1 = y ∧ 12 ≤ y.toInt ∧ y.toInt ≤ 392)))
set_option maxHeartbeats 4000000 in
set_option maxRecDepth 100000 in
theorem kz_X12_four_3 (l : Launch) (adK adV : Nat → Nat) (dC : Nat → ClassId) (dI : Nat → Nat → Nat) (cy : Nat → ClassId) (ad : Nat → Nat) (B : Int) (hB0 : 100000 ≤ B) (hB1 : B ≤ 1073741824) (qr : Nat) (s1 : Int)  (a1 : Int32) (w0 : va_W) (sz : Nat) (hT : TW ksM ad cy B qr 12 w0) (f0_ : Int32) (cf0_ : gi w0 0 1 = f0_) (rf0_ : 8 ≤ f0_.toInt) (tf0_ : f0_.toInt ≤ 388) : Met l yX12_four (wu yX12_four cX12_four 3 none) ({ frames := 1, cells := 0, slots := 0, locals := 12 }) (va_Pc [.ref (ad 0), .int a1] (wpreS adK adV dC dI cy sz w0)) (va_Qv (Pz_X12_four_3 ad cy B qr s1 a1 w0) (fun u : va_W => wpost dC dI cy (va_A w0 sz) u) (va_A w0 sz)) 0 0 (va_A w0 sz) := by
  refine Met.ofW (cc := cX12_four) (maxL := 3) (ret := none) (by decide) rfl ?_
  intro p e s m args below meth c s₁ Bk hml hv
  obtain ⟨rfl, ⟨hsz, hP, hK, hD0⟩, hE, hSR⟩ := hv
  have hx := Bk.exec
  have hb := Bk.bytes
  have hr := Bk.returns
  have hlocks := Bk.notSynchronized
  have hC : CallFix p m c cX12_four 3 s _ (wu yX12_four cX12_four 3 none) RX12 := ⟨hx, hb, hml, findClass_of_methodNamed Bk.named, atoms_spec (ws := (wu yX12_four cX12_four 3 none)) Bk.pre⟩
  subst hsz
  have hD := hD0.self (sz := s.heap.size)
  generalize hAe : va_A w0 s.heap.size = A at hD hE ⊢
  have hA : ∀ q : Nat, s.heap.size ≤ q → A q := fun q h => by rw [← hAe]; exact Or.inr h
  have hw : Wd dC dI A s.heap s.heap [] w0 := ⟨hP, hD, va_S.rf⟩
  have hF : FE ksM [(12, 1, 1), (60, 0, 400)] w0 w0 := FE.rf
  have hl := lv_entry ([.ref (ad 0), .int a1]) (n := 3) (Nat.le_of_ble_eq_true rfl)
  rw [lg_entry_eq]
  generalize (lg_sl ([.ref (ad 0), .int a1]) ++ List.replicate (3 - (lg_sl ([.ref (ad 0), .int a1])).length) Slot.unset).toArray = ls at hl ⊢
  have hl : lv_has ls 3 [(0, .ref (ad 0)), (1, .int a1)] := hl
  generalize hloc : ([] : List Loc) = locs at hw ⊢
  have hinX12 : ∀ w ∈ u_ws RX12 TX12 42, w ∈ (wu yX12_four cX12_four 3 none) := fun _ h => List.mem_cons_of_mem _ (up_71 h)
  have hM : TT (fun n => m_X12_four n 0 a1.toInt (sI w0)) (fun n => m_X12_four n 0 a1.toInt (sI w0)) := TT.rf
  refine lv_bipush (v := 24) hx hb dX12_four_0 (by decide) ?_
  refine lv_istore_n (lv' := [(2, .int 24), (0, .ref (ad 0)), (1, .int a1)]) hx hb dX12_four_2 rfl hl (by decide) rfl (fun ls hl => ?_)
  refine lv_iload_n hx hb dX12_four_3 rfl (lv_at hl 0 rfl) ?_
  refine lv_if_lt (tgt := 36) hx hb dX12_four_4 (by decide) (fun c => absurd c (by decide)) (fun _ => ?_)
  refine lv_aload_n hx hb dX12_four_7 rfl (lv_at hl 1 rfl) ?_
  refine tk_getA hC hK hw hT hinX12 kM_at0 (by decide) rfl 0 (by decide) (List.mem_cons_of_mem _ uw_6_14) rfl rfl dX12_four_8 ?_
  refine lv_aload_n hx hb dX12_four_11 rfl (lv_at hl 1 rfl) ?_
  refine tk_geti hC hK hw hT hinX12 kM_at0 (by decide) rfl 1 (by decide) (List.mem_cons_of_mem _ uw_8_7) rfl rfl dX12_four_12 (fun x1 c2 rx1 tx1 => ?_)
  refine wk_top f0_ (c2.symm.trans cf0_) ?_
  replace hM := hM.rd (sI_at cf0_)
  refine lv_iload_n hx hb dX12_four_15 rfl (lv_at hl 2 rfl) ?_
  refine lv_iload_n hx hb dX12_four_16 rfl (lv_at hl 0 rfl) ?_
  refine lv_ishr hx hb dX12_four_17 ?_
  refine lv_topi (fun x3 ex3 => ?_)
  have ezx3 := ex3
  replace hM := hM.lt (o32_e (f := fun x y => x >>> (y &&& 31)) ezx3 rfl (by decide))
  refine lv_i2b hx hb dX12_four_18 rfl ?_
  refine lv_topi (fun x4 ex4 => ?_)
  replace hM := hM.lt (mB_e ex4)
  refine tk_bastv hC hK hw hT kM_at1 (by decide) rfl rfl (show 0 ≤ f0_.toInt from Int.le_trans (by decide) rf0_) (show f0_.toInt < 400 from Int.lt_of_le_of_lt tf0_ (by decide)) dX12_four_19 (fun H locs w5 hw hT k7 c6 => ?_)
  obtain ⟨z8, ez8⟩ : ∃ z : Int32, z = x4.toInt8.toInt32 := ⟨_, rfl⟩
  have c6 := c6.trans ez8.symm
  replace hM := hM.lt (mB_e ez8)
  replace hM := hM.wr (sI_up k7 c6)
  have hF := hF.put kM_at1 (inE_of (a := 0) (b := 400) (by decide) (show 0 ≤ f0_.toInt.toNat by omega) (show f0_.toInt.toNat ≤ 400 by omega)) k7
  have c9 := k7.gi (Or.inl (tk_ne kM_at0 kM_at1 (by decide))) cf0_
  refine lv_aload_n hx hb dX12_four_20 rfl (lv_at hl 1 rfl) ?_
  refine lv_dup hx hb dX12_four_21 rfl ?_
  refine tk_geti hC hK hw hT hinX12 kM_at0 (by decide) rfl 1 (by decide) (List.mem_cons_of_mem _ uw_8_7) rfl rfl dX12_four_22 (fun x10 c11 rx10 tx10 => ?_)
  refine wk_top f0_ (c11.symm.trans c9) ?_
  replace hM := hM.rd (sI_at c9)
  refine lv_iconst (v := 1) hx hb dX12_four_25 (by decide) ?_
  refine lv_iadd hx hb dX12_four_26 ?_
  refine lv_topi (fun x12 ex12 => ?_)
  have ezx12 := ex12
  have ex12 : x12.toInt = f0_.toInt + (1 : Int) := by rw [ex12]; exact wk_add (show (-2147483648) ≤ f0_.toInt + (1 : Int) by omega) (show f0_.toInt + (1 : Int) ≤ 2147483647 by omega)
  replace hM := hM.lt ex12.symm
  refine tk_puti hC hK hw hT hinX12 tyX12_ok nmX12 kM_at0 (by decide) rfl rfl 1 (by decide) (List.mem_cons_of_mem _ uw_8_7) rfl rfl rfl rfl (show 0 ≤ x12.toInt by omega) (show x12.toInt ≤ 400 by omega) dX12_four_27 (fun H locs w13 hw hT k15 c14 => ?_)
  replace hM := hM.wr (sI_up k15 c14)
  have hF := hF.put kM_at0 (k := 1) (by decide) k15
  refine lv_iinc (v := 16) (lv' := [(2, .int 16), (0, .ref (ad 0)), (1, .int a1)]) hx hb dX12_four_30 hl (k := 0) rfl (by decide) (by decide) rfl (fun ls hl => ?_)
  refine lv_goto (tgt := 3) hx hb dX12_four_33 (by decide) ?_
  refine lv_iload_n hx hb dX12_four_3 rfl (lv_at hl 0 rfl) ?_
  refine lv_if_lt (tgt := 36) hx hb dX12_four_4 (by decide) (fun c => absurd c (by decide)) (fun _ => ?_)
  refine lv_aload_n hx hb dX12_four_7 rfl (lv_at hl 1 rfl) ?_
  refine tk_getA hC hK hw hT hinX12 kM_at0 (by decide) rfl 0 (by decide) (List.mem_cons_of_mem _ uw_6_14) rfl rfl dX12_four_8 ?_
  refine lv_aload_n hx hb dX12_four_11 rfl (lv_at hl 1 rfl) ?_
  refine tk_geti hC hK hw hT hinX12 kM_at0 (by decide) rfl 1 (by decide) (List.mem_cons_of_mem _ uw_8_7) rfl rfl dX12_four_12 (fun x16 c17 rx16 tx16 => ?_)
  refine wk_top x12 (c17.symm.trans c14) ?_
  replace hM := hM.rd (sI_at c14)
  refine lv_iload_n hx hb dX12_four_15 rfl (lv_at hl 2 rfl) ?_
  refine lv_iload_n hx hb dX12_four_16 rfl (lv_at hl 0 rfl) ?_
  refine lv_ishr hx hb dX12_four_17 ?_
  refine lv_topi (fun x18 ex18 => ?_)
  have ezx18 := ex18
  replace hM := hM.lt (o32_e (f := fun x y => x >>> (y &&& 31)) ezx18 rfl (by decide))
  refine lv_i2b hx hb dX12_four_18 rfl ?_
  refine lv_topi (fun x19 ex19 => ?_)
  replace hM := hM.lt (mB_e ex19)
  refine tk_bastv hC hK hw hT kM_at1 (by decide) rfl rfl (show 0 ≤ x12.toInt by omega) (show x12.toInt < 400 by omega) dX12_four_19 (fun H locs w20 hw hT k22 c21 => ?_)
  obtain ⟨z23, ez23⟩ : ∃ z : Int32, z = x19.toInt8.toInt32 := ⟨_, rfl⟩
  have c21 := c21.trans ez23.symm
  replace hM := hM.lt (mB_e ez23)
  replace hM := hM.wr (sI_up k22 c21)
  have hF := hF.put kM_at1 (inE_of (a := 0) (b := 400) (by decide) (show 0 ≤ x12.toInt.toNat by omega) (show x12.toInt.toNat ≤ 400 by omega)) k22
  have c24 := k22.gi (Or.inl (tk_ne kM_at0 kM_at1 (by decide))) c14
  refine lv_aload_n hx hb dX12_four_20 rfl (lv_at hl 1 rfl) ?_
  refine lv_dup hx hb dX12_four_21 rfl ?_
  refine tk_geti hC hK hw hT hinX12 kM_at0 (by decide) rfl 1 (by decide) (List.mem_cons_of_mem _ uw_8_7) rfl rfl dX12_four_22 (fun x25 c26 rx25 tx25 => ?_)
  refine wk_top x12 (c26.symm.trans c24) ?_
  replace hM := hM.rd (sI_at c24)
  refine lv_iconst (v := 1) hx hb dX12_four_25 (by decide) ?_
  refine lv_iadd hx hb dX12_four_26 ?_
  refine lv_topi (fun x27 ex27 => ?_)
  have ezx27 := ex27
  have ex27 : x27.toInt = x12.toInt + (1 : Int) := by rw [ex27]; exact wk_add (show (-2147483648) ≤ x12.toInt + (1 : Int) by omega) (show x12.toInt + (1 : Int) ≤ 2147483647 by omega)
  replace hM := hM.lt ex27.symm
  refine tk_puti hC hK hw hT hinX12 tyX12_ok nmX12 kM_at0 (by decide) rfl rfl 1 (by decide) (List.mem_cons_of_mem _ uw_8_7) rfl rfl rfl rfl (show 0 ≤ x27.toInt by omega) (show x27.toInt ≤ 400 by omega) dX12_four_27 (fun H locs w28 hw hT k30 c29 => ?_)
  replace hM := hM.wr (sI_up k30 c29)
  have hF := hF.put kM_at0 (k := 1) (by decide) k30
  refine lv_iinc (v := 8) (lv' := [(2, .int 8), (0, .ref (ad 0)), (1, .int a1)]) hx hb dX12_four_30 hl (k := 0) rfl (by decide) (by decide) rfl (fun ls hl => ?_)
  refine lv_goto (tgt := 3) hx hb dX12_four_33 (by decide) ?_
  refine lv_iload_n hx hb dX12_four_3 rfl (lv_at hl 0 rfl) ?_
  refine lv_if_lt (tgt := 36) hx hb dX12_four_4 (by decide) (fun c => absurd c (by decide)) (fun _ => ?_)
  refine lv_aload_n hx hb dX12_four_7 rfl (lv_at hl 1 rfl) ?_
  refine tk_getA hC hK hw hT hinX12 kM_at0 (by decide) rfl 0 (by decide) (List.mem_cons_of_mem _ uw_6_14) rfl rfl dX12_four_8 ?_
  refine lv_aload_n hx hb dX12_four_11 rfl (lv_at hl 1 rfl) ?_
  refine tk_geti hC hK hw hT hinX12 kM_at0 (by decide) rfl 1 (by decide) (List.mem_cons_of_mem _ uw_8_7) rfl rfl dX12_four_12 (fun x31 c32 rx31 tx31 => ?_)
  refine wk_top x27 (c32.symm.trans c29) ?_
  replace hM := hM.rd (sI_at c29)
  refine lv_iload_n hx hb dX12_four_15 rfl (lv_at hl 2 rfl) ?_
  refine lv_iload_n hx hb dX12_four_16 rfl (lv_at hl 0 rfl) ?_
  refine lv_ishr hx hb dX12_four_17 ?_
  refine lv_topi (fun x33 ex33 => ?_)
  have ezx33 := ex33
  replace hM := hM.lt (o32_e (f := fun x y => x >>> (y &&& 31)) ezx33 rfl (by decide))
  refine lv_i2b hx hb dX12_four_18 rfl ?_
  refine lv_topi (fun x34 ex34 => ?_)
  replace hM := hM.lt (mB_e ex34)
  refine tk_bastv hC hK hw hT kM_at1 (by decide) rfl rfl (show 0 ≤ x27.toInt by omega) (show x27.toInt < 400 by omega) dX12_four_19 (fun H locs w35 hw hT k37 c36 => ?_)
  obtain ⟨z38, ez38⟩ : ∃ z : Int32, z = x34.toInt8.toInt32 := ⟨_, rfl⟩
  have c36 := c36.trans ez38.symm
  replace hM := hM.lt (mB_e ez38)
  replace hM := hM.wr (sI_up k37 c36)
  have hF := hF.put kM_at1 (inE_of (a := 0) (b := 400) (by decide) (show 0 ≤ x27.toInt.toNat by omega) (show x27.toInt.toNat ≤ 400 by omega)) k37
  have c39 := k37.gi (Or.inl (tk_ne kM_at0 kM_at1 (by decide))) c29
  refine lv_aload_n hx hb dX12_four_20 rfl (lv_at hl 1 rfl) ?_
  refine lv_dup hx hb dX12_four_21 rfl ?_
  refine tk_geti hC hK hw hT hinX12 kM_at0 (by decide) rfl 1 (by decide) (List.mem_cons_of_mem _ uw_8_7) rfl rfl dX12_four_22 (fun x40 c41 rx40 tx40 => ?_)
  refine wk_top x27 (c41.symm.trans c39) ?_
  replace hM := hM.rd (sI_at c39)
  refine lv_iconst (v := 1) hx hb dX12_four_25 (by decide) ?_
  refine lv_iadd hx hb dX12_four_26 ?_
  refine lv_topi (fun x42 ex42 => ?_)
  have ezx42 := ex42
  have ex42 : x42.toInt = x27.toInt + (1 : Int) := by rw [ex42]; exact wk_add (show (-2147483648) ≤ x27.toInt + (1 : Int) by omega) (show x27.toInt + (1 : Int) ≤ 2147483647 by omega)
  replace hM := hM.lt ex42.symm
  refine tk_puti hC hK hw hT hinX12 tyX12_ok nmX12 kM_at0 (by decide) rfl rfl 1 (by decide) (List.mem_cons_of_mem _ uw_8_7) rfl rfl rfl rfl (show 0 ≤ x42.toInt by omega) (show x42.toInt ≤ 400 by omega) dX12_four_27 (fun H locs w43 hw hT k45 c44 => ?_)
  replace hM := hM.wr (sI_up k45 c44)
  have hF := hF.put kM_at0 (k := 1) (by decide) k45
  refine lv_iinc (v := 0) (lv' := [(2, .int 0), (0, .ref (ad 0)), (1, .int a1)]) hx hb dX12_four_30 hl (k := 0) rfl (by decide) (by decide) rfl (fun ls hl => ?_)
  refine lv_goto (tgt := 3) hx hb dX12_four_33 (by decide) ?_
  refine lv_iload_n hx hb dX12_four_3 rfl (lv_at hl 0 rfl) ?_
  refine lv_if_lt (tgt := 36) hx hb dX12_four_4 (by decide) (fun c => absurd c (by decide)) (fun _ => ?_)
  refine lv_aload_n hx hb dX12_four_7 rfl (lv_at hl 1 rfl) ?_
  refine tk_getA hC hK hw hT hinX12 kM_at0 (by decide) rfl 0 (by decide) (List.mem_cons_of_mem _ uw_6_14) rfl rfl dX12_four_8 ?_
  refine lv_aload_n hx hb dX12_four_11 rfl (lv_at hl 1 rfl) ?_
  refine tk_geti hC hK hw hT hinX12 kM_at0 (by decide) rfl 1 (by decide) (List.mem_cons_of_mem _ uw_8_7) rfl rfl dX12_four_12 (fun x46 c47 rx46 tx46 => ?_)
  refine wk_top x42 (c47.symm.trans c44) ?_
  replace hM := hM.rd (sI_at c44)
  refine lv_iload_n hx hb dX12_four_15 rfl (lv_at hl 2 rfl) ?_
  refine lv_iload_n hx hb dX12_four_16 rfl (lv_at hl 0 rfl) ?_
  refine lv_ishr hx hb dX12_four_17 ?_
  refine lv_topi (fun x48 ex48 => ?_)
  have ezx48 := ex48
  replace hM := hM.lt (o32_e (f := fun x y => x >>> (y &&& 31)) ezx48 rfl (by decide))
  refine lv_i2b hx hb dX12_four_18 rfl ?_
  refine lv_topi (fun x49 ex49 => ?_)
  replace hM := hM.lt (mB_e ex49)
  refine tk_bastv hC hK hw hT kM_at1 (by decide) rfl rfl (show 0 ≤ x42.toInt by omega) (show x42.toInt < 400 by omega) dX12_four_19 (fun H locs w50 hw hT k52 c51 => ?_)
  obtain ⟨z53, ez53⟩ : ∃ z : Int32, z = x49.toInt8.toInt32 := ⟨_, rfl⟩
  have c51 := c51.trans ez53.symm
  replace hM := hM.lt (mB_e ez53)
  replace hM := hM.wr (sI_up k52 c51)
  have hF := hF.put kM_at1 (inE_of (a := 0) (b := 400) (by decide) (show 0 ≤ x42.toInt.toNat by omega) (show x42.toInt.toNat ≤ 400 by omega)) k52
  have c54 := k52.gi (Or.inl (tk_ne kM_at0 kM_at1 (by decide))) c44
  refine lv_aload_n hx hb dX12_four_20 rfl (lv_at hl 1 rfl) ?_
  refine lv_dup hx hb dX12_four_21 rfl ?_
  refine tk_geti hC hK hw hT hinX12 kM_at0 (by decide) rfl 1 (by decide) (List.mem_cons_of_mem _ uw_8_7) rfl rfl dX12_four_22 (fun x55 c56 rx55 tx55 => ?_)
  refine wk_top x42 (c56.symm.trans c54) ?_
  replace hM := hM.rd (sI_at c54)
  refine lv_iconst (v := 1) hx hb dX12_four_25 (by decide) ?_
  refine lv_iadd hx hb dX12_four_26 ?_
  refine lv_topi (fun x57 ex57 => ?_)
  have ezx57 := ex57
  have ex57 : x57.toInt = x42.toInt + (1 : Int) := by rw [ex57]; exact wk_add (show (-2147483648) ≤ x42.toInt + (1 : Int) by omega) (show x42.toInt + (1 : Int) ≤ 2147483647 by omega)
  replace hM := hM.lt ex57.symm
  refine tk_puti hC hK hw hT hinX12 tyX12_ok nmX12 kM_at0 (by decide) rfl rfl 1 (by decide) (List.mem_cons_of_mem _ uw_8_7) rfl rfl rfl rfl (show 0 ≤ x57.toInt by omega) (show x57.toInt ≤ 400 by omega) dX12_four_27 (fun H locs w58 hw hT k60 c59 => ?_)
  replace hM := hM.wr (sI_up k60 c59)
  have hF := hF.put kM_at0 (k := 1) (by decide) k60
  refine lv_iinc (v := (-8)) (lv' := [(2, .int (-8)), (0, .ref (ad 0)), (1, .int a1)]) hx hb dX12_four_30 hl (k := 0) rfl (by decide) (by decide) rfl (fun ls hl => ?_)
  refine lv_goto (tgt := 3) hx hb dX12_four_33 (by decide) ?_
  refine lv_iload_n hx hb dX12_four_3 rfl (lv_at hl 0 rfl) ?_
  refine lv_if_lt (tgt := 36) hx hb dX12_four_4 (by decide) (fun _ => ?_) (fun c => absurd (by decide) c)
  exact tk_vret hC hr hlocks hK ⟨hT, hF, hM.ret rfl, ⟨x57, c59, (show 12 ≤ x57.toInt by omega), (show x57.toInt ≤ 392 by omega)⟩⟩ hw dX12_four_36
abbrev Pz_X12_four_4 (ad : Nat → Nat) (cy : Nat → ClassId) (B : Int) (qr : Nat) (s1 : Int) (a1 : Int32) (w0 : va_W) : va_W → Prop := fun u => TW ksM ad cy B qr 12 u ∧ FE ksM [(12, 1, 1), (60, 0, 400)] w0 u ∧ Ev (fun n => m_X12_four n 0 a1.toInt (sI w0)) (0, sI u) ∧ (((∃ y : Int32, gi u 0 1 = y ∧ 16 ≤ y.toInt ∧ y.toInt ≤ 396)))
set_option maxHeartbeats 4000000 in
set_option maxRecDepth 100000 in
theorem kz_X12_four_4 (l : Launch) (adK adV : Nat → Nat) (dC : Nat → ClassId) (dI : Nat → Nat → Nat) (cy : Nat → ClassId) (ad : Nat → Nat) (B : Int) (hB0 : 100000 ≤ B) (hB1 : B ≤ 1073741824) (qr : Nat) (s1 : Int)  (a1 : Int32) (w0 : va_W) (sz : Nat) (hT : TW ksM ad cy B qr 12 w0) (f0_ : Int32) (cf0_ : gi w0 0 1 = f0_) (rf0_ : 12 ≤ f0_.toInt) (tf0_ : f0_.toInt ≤ 392) : Met l yX12_four (wu yX12_four cX12_four 3 none) ({ frames := 1, cells := 0, slots := 0, locals := 12 }) (va_Pc [.ref (ad 0), .int a1] (wpreS adK adV dC dI cy sz w0)) (va_Qv (Pz_X12_four_4 ad cy B qr s1 a1 w0) (fun u : va_W => wpost dC dI cy (va_A w0 sz) u) (va_A w0 sz)) 0 0 (va_A w0 sz) := by
  refine Met.ofW (cc := cX12_four) (maxL := 3) (ret := none) (by decide) rfl ?_
  intro p e s m args below meth c s₁ Bk hml hv
  obtain ⟨rfl, ⟨hsz, hP, hK, hD0⟩, hE, hSR⟩ := hv
  have hx := Bk.exec
  have hb := Bk.bytes
  have hr := Bk.returns
  have hlocks := Bk.notSynchronized
  have hC : CallFix p m c cX12_four 3 s _ (wu yX12_four cX12_four 3 none) RX12 := ⟨hx, hb, hml, findClass_of_methodNamed Bk.named, atoms_spec (ws := (wu yX12_four cX12_four 3 none)) Bk.pre⟩
  subst hsz
  have hD := hD0.self (sz := s.heap.size)
  generalize hAe : va_A w0 s.heap.size = A at hD hE ⊢
  have hA : ∀ q : Nat, s.heap.size ≤ q → A q := fun q h => by rw [← hAe]; exact Or.inr h
  have hw : Wd dC dI A s.heap s.heap [] w0 := ⟨hP, hD, va_S.rf⟩
  have hF : FE ksM [(12, 1, 1), (60, 0, 400)] w0 w0 := FE.rf
  have hl := lv_entry ([.ref (ad 0), .int a1]) (n := 3) (Nat.le_of_ble_eq_true rfl)
  rw [lg_entry_eq]
  generalize (lg_sl ([.ref (ad 0), .int a1]) ++ List.replicate (3 - (lg_sl ([.ref (ad 0), .int a1])).length) Slot.unset).toArray = ls at hl ⊢
  have hl : lv_has ls 3 [(0, .ref (ad 0)), (1, .int a1)] := hl
  generalize hloc : ([] : List Loc) = locs at hw ⊢
  have hinX12 : ∀ w ∈ u_ws RX12 TX12 42, w ∈ (wu yX12_four cX12_four 3 none) := fun _ h => List.mem_cons_of_mem _ (up_71 h)
  have hM : TT (fun n => m_X12_four n 0 a1.toInt (sI w0)) (fun n => m_X12_four n 0 a1.toInt (sI w0)) := TT.rf
  refine lv_bipush (v := 24) hx hb dX12_four_0 (by decide) ?_
  refine lv_istore_n (lv' := [(2, .int 24), (0, .ref (ad 0)), (1, .int a1)]) hx hb dX12_four_2 rfl hl (by decide) rfl (fun ls hl => ?_)
  refine lv_iload_n hx hb dX12_four_3 rfl (lv_at hl 0 rfl) ?_
  refine lv_if_lt (tgt := 36) hx hb dX12_four_4 (by decide) (fun c => absurd c (by decide)) (fun _ => ?_)
  refine lv_aload_n hx hb dX12_four_7 rfl (lv_at hl 1 rfl) ?_
  refine tk_getA hC hK hw hT hinX12 kM_at0 (by decide) rfl 0 (by decide) (List.mem_cons_of_mem _ uw_6_14) rfl rfl dX12_four_8 ?_
  refine lv_aload_n hx hb dX12_four_11 rfl (lv_at hl 1 rfl) ?_
  refine tk_geti hC hK hw hT hinX12 kM_at0 (by decide) rfl 1 (by decide) (List.mem_cons_of_mem _ uw_8_7) rfl rfl dX12_four_12 (fun x1 c2 rx1 tx1 => ?_)
  refine wk_top f0_ (c2.symm.trans cf0_) ?_
  replace hM := hM.rd (sI_at cf0_)
  refine lv_iload_n hx hb dX12_four_15 rfl (lv_at hl 2 rfl) ?_
  refine lv_iload_n hx hb dX12_four_16 rfl (lv_at hl 0 rfl) ?_
  refine lv_ishr hx hb dX12_four_17 ?_
  refine lv_topi (fun x3 ex3 => ?_)
  have ezx3 := ex3
  replace hM := hM.lt (o32_e (f := fun x y => x >>> (y &&& 31)) ezx3 rfl (by decide))
  refine lv_i2b hx hb dX12_four_18 rfl ?_
  refine lv_topi (fun x4 ex4 => ?_)
  replace hM := hM.lt (mB_e ex4)
  refine tk_bastv hC hK hw hT kM_at1 (by decide) rfl rfl (show 0 ≤ f0_.toInt from Int.le_trans (by decide) rf0_) (show f0_.toInt < 400 from Int.lt_of_le_of_lt tf0_ (by decide)) dX12_four_19 (fun H locs w5 hw hT k7 c6 => ?_)
  obtain ⟨z8, ez8⟩ : ∃ z : Int32, z = x4.toInt8.toInt32 := ⟨_, rfl⟩
  have c6 := c6.trans ez8.symm
  replace hM := hM.lt (mB_e ez8)
  replace hM := hM.wr (sI_up k7 c6)
  have hF := hF.put kM_at1 (inE_of (a := 0) (b := 400) (by decide) (show 0 ≤ f0_.toInt.toNat by omega) (show f0_.toInt.toNat ≤ 400 by omega)) k7
  have c9 := k7.gi (Or.inl (tk_ne kM_at0 kM_at1 (by decide))) cf0_
  refine lv_aload_n hx hb dX12_four_20 rfl (lv_at hl 1 rfl) ?_
  refine lv_dup hx hb dX12_four_21 rfl ?_
  refine tk_geti hC hK hw hT hinX12 kM_at0 (by decide) rfl 1 (by decide) (List.mem_cons_of_mem _ uw_8_7) rfl rfl dX12_four_22 (fun x10 c11 rx10 tx10 => ?_)
  refine wk_top f0_ (c11.symm.trans c9) ?_
  replace hM := hM.rd (sI_at c9)
  refine lv_iconst (v := 1) hx hb dX12_four_25 (by decide) ?_
  refine lv_iadd hx hb dX12_four_26 ?_
  refine lv_topi (fun x12 ex12 => ?_)
  have ezx12 := ex12
  have ex12 : x12.toInt = f0_.toInt + (1 : Int) := by rw [ex12]; exact wk_add (show (-2147483648) ≤ f0_.toInt + (1 : Int) by omega) (show f0_.toInt + (1 : Int) ≤ 2147483647 by omega)
  replace hM := hM.lt ex12.symm
  refine tk_puti hC hK hw hT hinX12 tyX12_ok nmX12 kM_at0 (by decide) rfl rfl 1 (by decide) (List.mem_cons_of_mem _ uw_8_7) rfl rfl rfl rfl (show 0 ≤ x12.toInt by omega) (show x12.toInt ≤ 400 by omega) dX12_four_27 (fun H locs w13 hw hT k15 c14 => ?_)
  replace hM := hM.wr (sI_up k15 c14)
  have hF := hF.put kM_at0 (k := 1) (by decide) k15
  refine lv_iinc (v := 16) (lv' := [(2, .int 16), (0, .ref (ad 0)), (1, .int a1)]) hx hb dX12_four_30 hl (k := 0) rfl (by decide) (by decide) rfl (fun ls hl => ?_)
  refine lv_goto (tgt := 3) hx hb dX12_four_33 (by decide) ?_
  refine lv_iload_n hx hb dX12_four_3 rfl (lv_at hl 0 rfl) ?_
  refine lv_if_lt (tgt := 36) hx hb dX12_four_4 (by decide) (fun c => absurd c (by decide)) (fun _ => ?_)
  refine lv_aload_n hx hb dX12_four_7 rfl (lv_at hl 1 rfl) ?_
  refine tk_getA hC hK hw hT hinX12 kM_at0 (by decide) rfl 0 (by decide) (List.mem_cons_of_mem _ uw_6_14) rfl rfl dX12_four_8 ?_
  refine lv_aload_n hx hb dX12_four_11 rfl (lv_at hl 1 rfl) ?_
  refine tk_geti hC hK hw hT hinX12 kM_at0 (by decide) rfl 1 (by decide) (List.mem_cons_of_mem _ uw_8_7) rfl rfl dX12_four_12 (fun x16 c17 rx16 tx16 => ?_)
  refine wk_top x12 (c17.symm.trans c14) ?_
  replace hM := hM.rd (sI_at c14)
  refine lv_iload_n hx hb dX12_four_15 rfl (lv_at hl 2 rfl) ?_
  refine lv_iload_n hx hb dX12_four_16 rfl (lv_at hl 0 rfl) ?_
  refine lv_ishr hx hb dX12_four_17 ?_
  refine lv_topi (fun x18 ex18 => ?_)
  have ezx18 := ex18
  replace hM := hM.lt (o32_e (f := fun x y => x >>> (y &&& 31)) ezx18 rfl (by decide))
  refine lv_i2b hx hb dX12_four_18 rfl ?_
  refine lv_topi (fun x19 ex19 => ?_)
  replace hM := hM.lt (mB_e ex19)
  refine tk_bastv hC hK hw hT kM_at1 (by decide) rfl rfl (show 0 ≤ x12.toInt by omega) (show x12.toInt < 400 by omega) dX12_four_19 (fun H locs w20 hw hT k22 c21 => ?_)
  obtain ⟨z23, ez23⟩ : ∃ z : Int32, z = x19.toInt8.toInt32 := ⟨_, rfl⟩
  have c21 := c21.trans ez23.symm
  replace hM := hM.lt (mB_e ez23)
  replace hM := hM.wr (sI_up k22 c21)
  have hF := hF.put kM_at1 (inE_of (a := 0) (b := 400) (by decide) (show 0 ≤ x12.toInt.toNat by omega) (show x12.toInt.toNat ≤ 400 by omega)) k22
  have c24 := k22.gi (Or.inl (tk_ne kM_at0 kM_at1 (by decide))) c14
  refine lv_aload_n hx hb dX12_four_20 rfl (lv_at hl 1 rfl) ?_
  refine lv_dup hx hb dX12_four_21 rfl ?_
  refine tk_geti hC hK hw hT hinX12 kM_at0 (by decide) rfl 1 (by decide) (List.mem_cons_of_mem _ uw_8_7) rfl rfl dX12_four_22 (fun x25 c26 rx25 tx25 => ?_)
  refine wk_top x12 (c26.symm.trans c24) ?_
  replace hM := hM.rd (sI_at c24)
  refine lv_iconst (v := 1) hx hb dX12_four_25 (by decide) ?_
  refine lv_iadd hx hb dX12_four_26 ?_
  refine lv_topi (fun x27 ex27 => ?_)
  have ezx27 := ex27
  have ex27 : x27.toInt = x12.toInt + (1 : Int) := by rw [ex27]; exact wk_add (show (-2147483648) ≤ x12.toInt + (1 : Int) by omega) (show x12.toInt + (1 : Int) ≤ 2147483647 by omega)
  replace hM := hM.lt ex27.symm
  refine tk_puti hC hK hw hT hinX12 tyX12_ok nmX12 kM_at0 (by decide) rfl rfl 1 (by decide) (List.mem_cons_of_mem _ uw_8_7) rfl rfl rfl rfl (show 0 ≤ x27.toInt by omega) (show x27.toInt ≤ 400 by omega) dX12_four_27 (fun H locs w28 hw hT k30 c29 => ?_)
  replace hM := hM.wr (sI_up k30 c29)
  have hF := hF.put kM_at0 (k := 1) (by decide) k30
  refine lv_iinc (v := 8) (lv' := [(2, .int 8), (0, .ref (ad 0)), (1, .int a1)]) hx hb dX12_four_30 hl (k := 0) rfl (by decide) (by decide) rfl (fun ls hl => ?_)
  refine lv_goto (tgt := 3) hx hb dX12_four_33 (by decide) ?_
  refine lv_iload_n hx hb dX12_four_3 rfl (lv_at hl 0 rfl) ?_
  refine lv_if_lt (tgt := 36) hx hb dX12_four_4 (by decide) (fun c => absurd c (by decide)) (fun _ => ?_)
  refine lv_aload_n hx hb dX12_four_7 rfl (lv_at hl 1 rfl) ?_
  refine tk_getA hC hK hw hT hinX12 kM_at0 (by decide) rfl 0 (by decide) (List.mem_cons_of_mem _ uw_6_14) rfl rfl dX12_four_8 ?_
  refine lv_aload_n hx hb dX12_four_11 rfl (lv_at hl 1 rfl) ?_
  refine tk_geti hC hK hw hT hinX12 kM_at0 (by decide) rfl 1 (by decide) (List.mem_cons_of_mem _ uw_8_7) rfl rfl dX12_four_12 (fun x31 c32 rx31 tx31 => ?_)
  refine wk_top x27 (c32.symm.trans c29) ?_
  replace hM := hM.rd (sI_at c29)
  refine lv_iload_n hx hb dX12_four_15 rfl (lv_at hl 2 rfl) ?_
  refine lv_iload_n hx hb dX12_four_16 rfl (lv_at hl 0 rfl) ?_
  refine lv_ishr hx hb dX12_four_17 ?_
  refine lv_topi (fun x33 ex33 => ?_)
  have ezx33 := ex33
  replace hM := hM.lt (o32_e (f := fun x y => x >>> (y &&& 31)) ezx33 rfl (by decide))
  refine lv_i2b hx hb dX12_four_18 rfl ?_
  refine lv_topi (fun x34 ex34 => ?_)
  replace hM := hM.lt (mB_e ex34)
  refine tk_bastv hC hK hw hT kM_at1 (by decide) rfl rfl (show 0 ≤ x27.toInt by omega) (show x27.toInt < 400 by omega) dX12_four_19 (fun H locs w35 hw hT k37 c36 => ?_)
  obtain ⟨z38, ez38⟩ : ∃ z : Int32, z = x34.toInt8.toInt32 := ⟨_, rfl⟩
  have c36 := c36.trans ez38.symm
  replace hM := hM.lt (mB_e ez38)
  replace hM := hM.wr (sI_up k37 c36)
  have hF := hF.put kM_at1 (inE_of (a := 0) (b := 400) (by decide) (show 0 ≤ x27.toInt.toNat by omega) (show x27.toInt.toNat ≤ 400 by omega)) k37
  have c39 := k37.gi (Or.inl (tk_ne kM_at0 kM_at1 (by decide))) c29
  refine lv_aload_n hx hb dX12_four_20 rfl (lv_at hl 1 rfl) ?_
  refine lv_dup hx hb dX12_four_21 rfl ?_
  refine tk_geti hC hK hw hT hinX12 kM_at0 (by decide) rfl 1 (by decide) (List.mem_cons_of_mem _ uw_8_7) rfl rfl dX12_four_22 (fun x40 c41 rx40 tx40 => ?_)
  refine wk_top x27 (c41.symm.trans c39) ?_
  replace hM := hM.rd (sI_at c39)
  refine lv_iconst (v := 1) hx hb dX12_four_25 (by decide) ?_
  refine lv_iadd hx hb dX12_four_26 ?_
  refine lv_topi (fun x42 ex42 => ?_)
  have ezx42 := ex42
  have ex42 : x42.toInt = x27.toInt + (1 : Int) := by rw [ex42]; exact wk_add (show (-2147483648) ≤ x27.toInt + (1 : Int) by omega) (show x27.toInt + (1 : Int) ≤ 2147483647 by omega)
  replace hM := hM.lt ex42.symm
  refine tk_puti hC hK hw hT hinX12 tyX12_ok nmX12 kM_at0 (by decide) rfl rfl 1 (by decide) (List.mem_cons_of_mem _ uw_8_7) rfl rfl rfl rfl (show 0 ≤ x42.toInt by omega) (show x42.toInt ≤ 400 by omega) dX12_four_27 (fun H locs w43 hw hT k45 c44 => ?_)
  replace hM := hM.wr (sI_up k45 c44)
  have hF := hF.put kM_at0 (k := 1) (by decide) k45
  refine lv_iinc (v := 0) (lv' := [(2, .int 0), (0, .ref (ad 0)), (1, .int a1)]) hx hb dX12_four_30 hl (k := 0) rfl (by decide) (by decide) rfl (fun ls hl => ?_)
  refine lv_goto (tgt := 3) hx hb dX12_four_33 (by decide) ?_
  refine lv_iload_n hx hb dX12_four_3 rfl (lv_at hl 0 rfl) ?_
  refine lv_if_lt (tgt := 36) hx hb dX12_four_4 (by decide) (fun c => absurd c (by decide)) (fun _ => ?_)
  refine lv_aload_n hx hb dX12_four_7 rfl (lv_at hl 1 rfl) ?_
  refine tk_getA hC hK hw hT hinX12 kM_at0 (by decide) rfl 0 (by decide) (List.mem_cons_of_mem _ uw_6_14) rfl rfl dX12_four_8 ?_
  refine lv_aload_n hx hb dX12_four_11 rfl (lv_at hl 1 rfl) ?_
  refine tk_geti hC hK hw hT hinX12 kM_at0 (by decide) rfl 1 (by decide) (List.mem_cons_of_mem _ uw_8_7) rfl rfl dX12_four_12 (fun x46 c47 rx46 tx46 => ?_)
  refine wk_top x42 (c47.symm.trans c44) ?_
  replace hM := hM.rd (sI_at c44)
  refine lv_iload_n hx hb dX12_four_15 rfl (lv_at hl 2 rfl) ?_
  refine lv_iload_n hx hb dX12_four_16 rfl (lv_at hl 0 rfl) ?_
  refine lv_ishr hx hb dX12_four_17 ?_
  refine lv_topi (fun x48 ex48 => ?_)
  have ezx48 := ex48
  replace hM := hM.lt (o32_e (f := fun x y => x >>> (y &&& 31)) ezx48 rfl (by decide))
  refine lv_i2b hx hb dX12_four_18 rfl ?_
  refine lv_topi (fun x49 ex49 => ?_)
  replace hM := hM.lt (mB_e ex49)
  refine tk_bastv hC hK hw hT kM_at1 (by decide) rfl rfl (show 0 ≤ x42.toInt by omega) (show x42.toInt < 400 by omega) dX12_four_19 (fun H locs w50 hw hT k52 c51 => ?_)
  obtain ⟨z53, ez53⟩ : ∃ z : Int32, z = x49.toInt8.toInt32 := ⟨_, rfl⟩
  have c51 := c51.trans ez53.symm
  replace hM := hM.lt (mB_e ez53)
  replace hM := hM.wr (sI_up k52 c51)
  have hF := hF.put kM_at1 (inE_of (a := 0) (b := 400) (by decide) (show 0 ≤ x42.toInt.toNat by omega) (show x42.toInt.toNat ≤ 400 by omega)) k52
  have c54 := k52.gi (Or.inl (tk_ne kM_at0 kM_at1 (by decide))) c44
  refine lv_aload_n hx hb dX12_four_20 rfl (lv_at hl 1 rfl) ?_
  refine lv_dup hx hb dX12_four_21 rfl ?_
  refine tk_geti hC hK hw hT hinX12 kM_at0 (by decide) rfl 1 (by decide) (List.mem_cons_of_mem _ uw_8_7) rfl rfl dX12_four_22 (fun x55 c56 rx55 tx55 => ?_)
  refine wk_top x42 (c56.symm.trans c54) ?_
  replace hM := hM.rd (sI_at c54)
  refine lv_iconst (v := 1) hx hb dX12_four_25 (by decide) ?_
  refine lv_iadd hx hb dX12_four_26 ?_
  refine lv_topi (fun x57 ex57 => ?_)
  have ezx57 := ex57
  have ex57 : x57.toInt = x42.toInt + (1 : Int) := by rw [ex57]; exact wk_add (show (-2147483648) ≤ x42.toInt + (1 : Int) by omega) (show x42.toInt + (1 : Int) ≤ 2147483647 by omega)
  replace hM := hM.lt ex57.symm
  refine tk_puti hC hK hw hT hinX12 tyX12_ok nmX12 kM_at0 (by decide) rfl rfl 1 (by decide) (List.mem_cons_of_mem _ uw_8_7) rfl rfl rfl rfl (show 0 ≤ x57.toInt by omega) (show x57.toInt ≤ 400 by omega) dX12_four_27 (fun H locs w58 hw hT k60 c59 => ?_)
  replace hM := hM.wr (sI_up k60 c59)
  have hF := hF.put kM_at0 (k := 1) (by decide) k60
  refine lv_iinc (v := (-8)) (lv' := [(2, .int (-8)), (0, .ref (ad 0)), (1, .int a1)]) hx hb dX12_four_30 hl (k := 0) rfl (by decide) (by decide) rfl (fun ls hl => ?_)
  refine lv_goto (tgt := 3) hx hb dX12_four_33 (by decide) ?_
  refine lv_iload_n hx hb dX12_four_3 rfl (lv_at hl 0 rfl) ?_
  refine lv_if_lt (tgt := 36) hx hb dX12_four_4 (by decide) (fun _ => ?_) (fun c => absurd (by decide) c)
  exact tk_vret hC hr hlocks hK ⟨hT, hF, hM.ret rfl, ⟨x57, c59, (show 16 ≤ x57.toInt by omega), (show x57.toInt ≤ 396 by omega)⟩⟩ hw dX12_four_36
abbrev Pz_X12_four_5 (ad : Nat → Nat) (cy : Nat → ClassId) (B : Int) (qr : Nat) (s1 : Int) (a1 : Int32) (w0 : va_W) : va_W → Prop := fun u => TW ksM ad cy B qr 12 u ∧ FE ksM [(12, 1, 1), (60, 0, 400)] w0 u ∧ Ev (fun n => m_X12_four n 0 a1.toInt (sI w0)) (0, sI u) ∧ (((∃ y : Int32, gi u 0 1 = y ∧ 20 ≤ y.toInt ∧ y.toInt ≤ 400)))
set_option maxHeartbeats 4000000 in
set_option maxRecDepth 100000 in
theorem kz_X12_four_5 (l : Launch) (adK adV : Nat → Nat) (dC : Nat → ClassId) (dI : Nat → Nat → Nat) (cy : Nat → ClassId) (ad : Nat → Nat) (B : Int) (hB0 : 100000 ≤ B) (hB1 : B ≤ 1073741824) (qr : Nat) (s1 : Int)  (a1 : Int32) (w0 : va_W) (sz : Nat) (hT : TW ksM ad cy B qr 12 w0) (f0_ : Int32) (cf0_ : gi w0 0 1 = f0_) (rf0_ : 16 ≤ f0_.toInt) (tf0_ : f0_.toInt ≤ 396) : Met l yX12_four (wu yX12_four cX12_four 3 none) ({ frames := 1, cells := 0, slots := 0, locals := 12 }) (va_Pc [.ref (ad 0), .int a1] (wpreS adK adV dC dI cy sz w0)) (va_Qv (Pz_X12_four_5 ad cy B qr s1 a1 w0) (fun u : va_W => wpost dC dI cy (va_A w0 sz) u) (va_A w0 sz)) 0 0 (va_A w0 sz) := by
  refine Met.ofW (cc := cX12_four) (maxL := 3) (ret := none) (by decide) rfl ?_
  intro p e s m args below meth c s₁ Bk hml hv
  obtain ⟨rfl, ⟨hsz, hP, hK, hD0⟩, hE, hSR⟩ := hv
  have hx := Bk.exec
  have hb := Bk.bytes
  have hr := Bk.returns
  have hlocks := Bk.notSynchronized
  have hC : CallFix p m c cX12_four 3 s _ (wu yX12_four cX12_four 3 none) RX12 := ⟨hx, hb, hml, findClass_of_methodNamed Bk.named, atoms_spec (ws := (wu yX12_four cX12_four 3 none)) Bk.pre⟩
  subst hsz
  have hD := hD0.self (sz := s.heap.size)
  generalize hAe : va_A w0 s.heap.size = A at hD hE ⊢
  have hA : ∀ q : Nat, s.heap.size ≤ q → A q := fun q h => by rw [← hAe]; exact Or.inr h
  have hw : Wd dC dI A s.heap s.heap [] w0 := ⟨hP, hD, va_S.rf⟩
  have hF : FE ksM [(12, 1, 1), (60, 0, 400)] w0 w0 := FE.rf
  have hl := lv_entry ([.ref (ad 0), .int a1]) (n := 3) (Nat.le_of_ble_eq_true rfl)
  rw [lg_entry_eq]
  generalize (lg_sl ([.ref (ad 0), .int a1]) ++ List.replicate (3 - (lg_sl ([.ref (ad 0), .int a1])).length) Slot.unset).toArray = ls at hl ⊢
  have hl : lv_has ls 3 [(0, .ref (ad 0)), (1, .int a1)] := hl
  generalize hloc : ([] : List Loc) = locs at hw ⊢
  have hinX12 : ∀ w ∈ u_ws RX12 TX12 42, w ∈ (wu yX12_four cX12_four 3 none) := fun _ h => List.mem_cons_of_mem _ (up_71 h)
  have hM : TT (fun n => m_X12_four n 0 a1.toInt (sI w0)) (fun n => m_X12_four n 0 a1.toInt (sI w0)) := TT.rf
  refine lv_bipush (v := 24) hx hb dX12_four_0 (by decide) ?_
  refine lv_istore_n (lv' := [(2, .int 24), (0, .ref (ad 0)), (1, .int a1)]) hx hb dX12_four_2 rfl hl (by decide) rfl (fun ls hl => ?_)
  refine lv_iload_n hx hb dX12_four_3 rfl (lv_at hl 0 rfl) ?_
  refine lv_if_lt (tgt := 36) hx hb dX12_four_4 (by decide) (fun c => absurd c (by decide)) (fun _ => ?_)
  refine lv_aload_n hx hb dX12_four_7 rfl (lv_at hl 1 rfl) ?_
  refine tk_getA hC hK hw hT hinX12 kM_at0 (by decide) rfl 0 (by decide) (List.mem_cons_of_mem _ uw_6_14) rfl rfl dX12_four_8 ?_
  refine lv_aload_n hx hb dX12_four_11 rfl (lv_at hl 1 rfl) ?_
  refine tk_geti hC hK hw hT hinX12 kM_at0 (by decide) rfl 1 (by decide) (List.mem_cons_of_mem _ uw_8_7) rfl rfl dX12_four_12 (fun x1 c2 rx1 tx1 => ?_)
  refine wk_top f0_ (c2.symm.trans cf0_) ?_
  replace hM := hM.rd (sI_at cf0_)
  refine lv_iload_n hx hb dX12_four_15 rfl (lv_at hl 2 rfl) ?_
  refine lv_iload_n hx hb dX12_four_16 rfl (lv_at hl 0 rfl) ?_
  refine lv_ishr hx hb dX12_four_17 ?_
  refine lv_topi (fun x3 ex3 => ?_)
  have ezx3 := ex3
  replace hM := hM.lt (o32_e (f := fun x y => x >>> (y &&& 31)) ezx3 rfl (by decide))
  refine lv_i2b hx hb dX12_four_18 rfl ?_
  refine lv_topi (fun x4 ex4 => ?_)
  replace hM := hM.lt (mB_e ex4)
  refine tk_bastv hC hK hw hT kM_at1 (by decide) rfl rfl (show 0 ≤ f0_.toInt from Int.le_trans (by decide) rf0_) (show f0_.toInt < 400 from Int.lt_of_le_of_lt tf0_ (by decide)) dX12_four_19 (fun H locs w5 hw hT k7 c6 => ?_)
  obtain ⟨z8, ez8⟩ : ∃ z : Int32, z = x4.toInt8.toInt32 := ⟨_, rfl⟩
  have c6 := c6.trans ez8.symm
  replace hM := hM.lt (mB_e ez8)
  replace hM := hM.wr (sI_up k7 c6)
  have hF := hF.put kM_at1 (inE_of (a := 0) (b := 400) (by decide) (show 0 ≤ f0_.toInt.toNat by omega) (show f0_.toInt.toNat ≤ 400 by omega)) k7
  have c9 := k7.gi (Or.inl (tk_ne kM_at0 kM_at1 (by decide))) cf0_
  refine lv_aload_n hx hb dX12_four_20 rfl (lv_at hl 1 rfl) ?_
  refine lv_dup hx hb dX12_four_21 rfl ?_
  refine tk_geti hC hK hw hT hinX12 kM_at0 (by decide) rfl 1 (by decide) (List.mem_cons_of_mem _ uw_8_7) rfl rfl dX12_four_22 (fun x10 c11 rx10 tx10 => ?_)
  refine wk_top f0_ (c11.symm.trans c9) ?_
  replace hM := hM.rd (sI_at c9)
  refine lv_iconst (v := 1) hx hb dX12_four_25 (by decide) ?_
  refine lv_iadd hx hb dX12_four_26 ?_
  refine lv_topi (fun x12 ex12 => ?_)
  have ezx12 := ex12
  have ex12 : x12.toInt = f0_.toInt + (1 : Int) := by rw [ex12]; exact wk_add (show (-2147483648) ≤ f0_.toInt + (1 : Int) by omega) (show f0_.toInt + (1 : Int) ≤ 2147483647 by omega)
  replace hM := hM.lt ex12.symm
  refine tk_puti hC hK hw hT hinX12 tyX12_ok nmX12 kM_at0 (by decide) rfl rfl 1 (by decide) (List.mem_cons_of_mem _ uw_8_7) rfl rfl rfl rfl (show 0 ≤ x12.toInt by omega) (show x12.toInt ≤ 400 by omega) dX12_four_27 (fun H locs w13 hw hT k15 c14 => ?_)
  replace hM := hM.wr (sI_up k15 c14)
  have hF := hF.put kM_at0 (k := 1) (by decide) k15
  refine lv_iinc (v := 16) (lv' := [(2, .int 16), (0, .ref (ad 0)), (1, .int a1)]) hx hb dX12_four_30 hl (k := 0) rfl (by decide) (by decide) rfl (fun ls hl => ?_)
  refine lv_goto (tgt := 3) hx hb dX12_four_33 (by decide) ?_
  refine lv_iload_n hx hb dX12_four_3 rfl (lv_at hl 0 rfl) ?_
  refine lv_if_lt (tgt := 36) hx hb dX12_four_4 (by decide) (fun c => absurd c (by decide)) (fun _ => ?_)
  refine lv_aload_n hx hb dX12_four_7 rfl (lv_at hl 1 rfl) ?_
  refine tk_getA hC hK hw hT hinX12 kM_at0 (by decide) rfl 0 (by decide) (List.mem_cons_of_mem _ uw_6_14) rfl rfl dX12_four_8 ?_
  refine lv_aload_n hx hb dX12_four_11 rfl (lv_at hl 1 rfl) ?_
  refine tk_geti hC hK hw hT hinX12 kM_at0 (by decide) rfl 1 (by decide) (List.mem_cons_of_mem _ uw_8_7) rfl rfl dX12_four_12 (fun x16 c17 rx16 tx16 => ?_)
  refine wk_top x12 (c17.symm.trans c14) ?_
  replace hM := hM.rd (sI_at c14)
  refine lv_iload_n hx hb dX12_four_15 rfl (lv_at hl 2 rfl) ?_
  refine lv_iload_n hx hb dX12_four_16 rfl (lv_at hl 0 rfl) ?_
  refine lv_ishr hx hb dX12_four_17 ?_
  refine lv_topi (fun x18 ex18 => ?_)
  have ezx18 := ex18
  replace hM := hM.lt (o32_e (f := fun x y => x >>> (y &&& 31)) ezx18 rfl (by decide))
  refine lv_i2b hx hb dX12_four_18 rfl ?_
  refine lv_topi (fun x19 ex19 => ?_)
  replace hM := hM.lt (mB_e ex19)
  refine tk_bastv hC hK hw hT kM_at1 (by decide) rfl rfl (show 0 ≤ x12.toInt by omega) (show x12.toInt < 400 by omega) dX12_four_19 (fun H locs w20 hw hT k22 c21 => ?_)
  obtain ⟨z23, ez23⟩ : ∃ z : Int32, z = x19.toInt8.toInt32 := ⟨_, rfl⟩
  have c21 := c21.trans ez23.symm
  replace hM := hM.lt (mB_e ez23)
  replace hM := hM.wr (sI_up k22 c21)
  have hF := hF.put kM_at1 (inE_of (a := 0) (b := 400) (by decide) (show 0 ≤ x12.toInt.toNat by omega) (show x12.toInt.toNat ≤ 400 by omega)) k22
  have c24 := k22.gi (Or.inl (tk_ne kM_at0 kM_at1 (by decide))) c14
  refine lv_aload_n hx hb dX12_four_20 rfl (lv_at hl 1 rfl) ?_
  refine lv_dup hx hb dX12_four_21 rfl ?_
  refine tk_geti hC hK hw hT hinX12 kM_at0 (by decide) rfl 1 (by decide) (List.mem_cons_of_mem _ uw_8_7) rfl rfl dX12_four_22 (fun x25 c26 rx25 tx25 => ?_)
  refine wk_top x12 (c26.symm.trans c24) ?_
  replace hM := hM.rd (sI_at c24)
  refine lv_iconst (v := 1) hx hb dX12_four_25 (by decide) ?_
  refine lv_iadd hx hb dX12_four_26 ?_
  refine lv_topi (fun x27 ex27 => ?_)
  have ezx27 := ex27
  have ex27 : x27.toInt = x12.toInt + (1 : Int) := by rw [ex27]; exact wk_add (show (-2147483648) ≤ x12.toInt + (1 : Int) by omega) (show x12.toInt + (1 : Int) ≤ 2147483647 by omega)
  replace hM := hM.lt ex27.symm
  refine tk_puti hC hK hw hT hinX12 tyX12_ok nmX12 kM_at0 (by decide) rfl rfl 1 (by decide) (List.mem_cons_of_mem _ uw_8_7) rfl rfl rfl rfl (show 0 ≤ x27.toInt by omega) (show x27.toInt ≤ 400 by omega) dX12_four_27 (fun H locs w28 hw hT k30 c29 => ?_)
  replace hM := hM.wr (sI_up k30 c29)
  have hF := hF.put kM_at0 (k := 1) (by decide) k30
  refine lv_iinc (v := 8) (lv' := [(2, .int 8), (0, .ref (ad 0)), (1, .int a1)]) hx hb dX12_four_30 hl (k := 0) rfl (by decide) (by decide) rfl (fun ls hl => ?_)
  refine lv_goto (tgt := 3) hx hb dX12_four_33 (by decide) ?_
  refine lv_iload_n hx hb dX12_four_3 rfl (lv_at hl 0 rfl) ?_
  refine lv_if_lt (tgt := 36) hx hb dX12_four_4 (by decide) (fun c => absurd c (by decide)) (fun _ => ?_)
  refine lv_aload_n hx hb dX12_four_7 rfl (lv_at hl 1 rfl) ?_
  refine tk_getA hC hK hw hT hinX12 kM_at0 (by decide) rfl 0 (by decide) (List.mem_cons_of_mem _ uw_6_14) rfl rfl dX12_four_8 ?_
  refine lv_aload_n hx hb dX12_four_11 rfl (lv_at hl 1 rfl) ?_
  refine tk_geti hC hK hw hT hinX12 kM_at0 (by decide) rfl 1 (by decide) (List.mem_cons_of_mem _ uw_8_7) rfl rfl dX12_four_12 (fun x31 c32 rx31 tx31 => ?_)
  refine wk_top x27 (c32.symm.trans c29) ?_
  replace hM := hM.rd (sI_at c29)
  refine lv_iload_n hx hb dX12_four_15 rfl (lv_at hl 2 rfl) ?_
  refine lv_iload_n hx hb dX12_four_16 rfl (lv_at hl 0 rfl) ?_
  refine lv_ishr hx hb dX12_four_17 ?_
  refine lv_topi (fun x33 ex33 => ?_)
  have ezx33 := ex33
  replace hM := hM.lt (o32_e (f := fun x y => x >>> (y &&& 31)) ezx33 rfl (by decide))
  refine lv_i2b hx hb dX12_four_18 rfl ?_
  refine lv_topi (fun x34 ex34 => ?_)
  replace hM := hM.lt (mB_e ex34)
  refine tk_bastv hC hK hw hT kM_at1 (by decide) rfl rfl (show 0 ≤ x27.toInt by omega) (show x27.toInt < 400 by omega) dX12_four_19 (fun H locs w35 hw hT k37 c36 => ?_)
  obtain ⟨z38, ez38⟩ : ∃ z : Int32, z = x34.toInt8.toInt32 := ⟨_, rfl⟩
  have c36 := c36.trans ez38.symm
  replace hM := hM.lt (mB_e ez38)
  replace hM := hM.wr (sI_up k37 c36)
  have hF := hF.put kM_at1 (inE_of (a := 0) (b := 400) (by decide) (show 0 ≤ x27.toInt.toNat by omega) (show x27.toInt.toNat ≤ 400 by omega)) k37
  have c39 := k37.gi (Or.inl (tk_ne kM_at0 kM_at1 (by decide))) c29
  refine lv_aload_n hx hb dX12_four_20 rfl (lv_at hl 1 rfl) ?_
  refine lv_dup hx hb dX12_four_21 rfl ?_
  refine tk_geti hC hK hw hT hinX12 kM_at0 (by decide) rfl 1 (by decide) (List.mem_cons_of_mem _ uw_8_7) rfl rfl dX12_four_22 (fun x40 c41 rx40 tx40 => ?_)
  refine wk_top x27 (c41.symm.trans c39) ?_
  replace hM := hM.rd (sI_at c39)
  refine lv_iconst (v := 1) hx hb dX12_four_25 (by decide) ?_
  refine lv_iadd hx hb dX12_four_26 ?_
  refine lv_topi (fun x42 ex42 => ?_)
  have ezx42 := ex42
  have ex42 : x42.toInt = x27.toInt + (1 : Int) := by rw [ex42]; exact wk_add (show (-2147483648) ≤ x27.toInt + (1 : Int) by omega) (show x27.toInt + (1 : Int) ≤ 2147483647 by omega)
  replace hM := hM.lt ex42.symm
  refine tk_puti hC hK hw hT hinX12 tyX12_ok nmX12 kM_at0 (by decide) rfl rfl 1 (by decide) (List.mem_cons_of_mem _ uw_8_7) rfl rfl rfl rfl (show 0 ≤ x42.toInt by omega) (show x42.toInt ≤ 400 by omega) dX12_four_27 (fun H locs w43 hw hT k45 c44 => ?_)
  replace hM := hM.wr (sI_up k45 c44)
  have hF := hF.put kM_at0 (k := 1) (by decide) k45
  refine lv_iinc (v := 0) (lv' := [(2, .int 0), (0, .ref (ad 0)), (1, .int a1)]) hx hb dX12_four_30 hl (k := 0) rfl (by decide) (by decide) rfl (fun ls hl => ?_)
  refine lv_goto (tgt := 3) hx hb dX12_four_33 (by decide) ?_
  refine lv_iload_n hx hb dX12_four_3 rfl (lv_at hl 0 rfl) ?_
  refine lv_if_lt (tgt := 36) hx hb dX12_four_4 (by decide) (fun c => absurd c (by decide)) (fun _ => ?_)
  refine lv_aload_n hx hb dX12_four_7 rfl (lv_at hl 1 rfl) ?_
  refine tk_getA hC hK hw hT hinX12 kM_at0 (by decide) rfl 0 (by decide) (List.mem_cons_of_mem _ uw_6_14) rfl rfl dX12_four_8 ?_
  refine lv_aload_n hx hb dX12_four_11 rfl (lv_at hl 1 rfl) ?_
  refine tk_geti hC hK hw hT hinX12 kM_at0 (by decide) rfl 1 (by decide) (List.mem_cons_of_mem _ uw_8_7) rfl rfl dX12_four_12 (fun x46 c47 rx46 tx46 => ?_)
  refine wk_top x42 (c47.symm.trans c44) ?_
  replace hM := hM.rd (sI_at c44)
  refine lv_iload_n hx hb dX12_four_15 rfl (lv_at hl 2 rfl) ?_
  refine lv_iload_n hx hb dX12_four_16 rfl (lv_at hl 0 rfl) ?_
  refine lv_ishr hx hb dX12_four_17 ?_
  refine lv_topi (fun x48 ex48 => ?_)
  have ezx48 := ex48
  replace hM := hM.lt (o32_e (f := fun x y => x >>> (y &&& 31)) ezx48 rfl (by decide))
  refine lv_i2b hx hb dX12_four_18 rfl ?_
  refine lv_topi (fun x49 ex49 => ?_)
  replace hM := hM.lt (mB_e ex49)
  refine tk_bastv hC hK hw hT kM_at1 (by decide) rfl rfl (show 0 ≤ x42.toInt by omega) (show x42.toInt < 400 by omega) dX12_four_19 (fun H locs w50 hw hT k52 c51 => ?_)
  obtain ⟨z53, ez53⟩ : ∃ z : Int32, z = x49.toInt8.toInt32 := ⟨_, rfl⟩
  have c51 := c51.trans ez53.symm
  replace hM := hM.lt (mB_e ez53)
  replace hM := hM.wr (sI_up k52 c51)
  have hF := hF.put kM_at1 (inE_of (a := 0) (b := 400) (by decide) (show 0 ≤ x42.toInt.toNat by omega) (show x42.toInt.toNat ≤ 400 by omega)) k52
  have c54 := k52.gi (Or.inl (tk_ne kM_at0 kM_at1 (by decide))) c44
  refine lv_aload_n hx hb dX12_four_20 rfl (lv_at hl 1 rfl) ?_
  refine lv_dup hx hb dX12_four_21 rfl ?_
  refine tk_geti hC hK hw hT hinX12 kM_at0 (by decide) rfl 1 (by decide) (List.mem_cons_of_mem _ uw_8_7) rfl rfl dX12_four_22 (fun x55 c56 rx55 tx55 => ?_)
  refine wk_top x42 (c56.symm.trans c54) ?_
  replace hM := hM.rd (sI_at c54)
  refine lv_iconst (v := 1) hx hb dX12_four_25 (by decide) ?_
  refine lv_iadd hx hb dX12_four_26 ?_
  refine lv_topi (fun x57 ex57 => ?_)
  have ezx57 := ex57
  have ex57 : x57.toInt = x42.toInt + (1 : Int) := by rw [ex57]; exact wk_add (show (-2147483648) ≤ x42.toInt + (1 : Int) by omega) (show x42.toInt + (1 : Int) ≤ 2147483647 by omega)
  replace hM := hM.lt ex57.symm
  refine tk_puti hC hK hw hT hinX12 tyX12_ok nmX12 kM_at0 (by decide) rfl rfl 1 (by decide) (List.mem_cons_of_mem _ uw_8_7) rfl rfl rfl rfl (show 0 ≤ x57.toInt by omega) (show x57.toInt ≤ 400 by omega) dX12_four_27 (fun H locs w58 hw hT k60 c59 => ?_)
  replace hM := hM.wr (sI_up k60 c59)
  have hF := hF.put kM_at0 (k := 1) (by decide) k60
  refine lv_iinc (v := (-8)) (lv' := [(2, .int (-8)), (0, .ref (ad 0)), (1, .int a1)]) hx hb dX12_four_30 hl (k := 0) rfl (by decide) (by decide) rfl (fun ls hl => ?_)
  refine lv_goto (tgt := 3) hx hb dX12_four_33 (by decide) ?_
  refine lv_iload_n hx hb dX12_four_3 rfl (lv_at hl 0 rfl) ?_
  refine lv_if_lt (tgt := 36) hx hb dX12_four_4 (by decide) (fun _ => ?_) (fun c => absurd (by decide) c)
  exact tk_vret hC hr hlocks hK ⟨hT, hF, hM.ret rfl, ⟨x57, c59, (show 20 ≤ x57.toInt by omega), (show x57.toInt ≤ 400 by omega)⟩⟩ hw dX12_four_36
abbrev Pz_X12_feed_1 (ad : Nat → Nat) (cy : Nat → ClassId) (B : Int) (qr : Nat) (s1 : Int) (a1 : Int32) (a2 : Int32) (a3 : Int32) (a4 : Int32) (a5 : Int32) (w0 : va_W) : Int32 → va_W → Prop := fun r u => TW ksM ad cy B qr 12 u ∧ FE ksM [(12, 1, 1), (60, 0, 400)] w0 u ∧ Ev (fun n => m_X12_feed n 0 a1.toInt a2.toInt a3.toInt a4.toInt a5.toInt (sI w0)) (r.toInt, sI u) ∧ ((20 ≤ r.toInt ∧ r.toInt ≤ 400 ∧ (∃ y : Int32, gi u 0 1 = y ∧ 20 ≤ y.toInt ∧ y.toInt ≤ 400)) ∨ (r = (-1) ∧ (∃ y : Int32, gi u 0 1 = y ∧ 381 ≤ y.toInt ∧ y.toInt ≤ 400)))
set_option maxHeartbeats 4000000 in
set_option maxRecDepth 100000 in
theorem kz_X12_feed_1 (l : Launch) (adK adV : Nat → Nat) (dC : Nat → ClassId) (dI : Nat → Nat → Nat) (cy : Nat → ClassId) (ad : Nat → Nat) (B : Int) (hB0 : 100000 ≤ B) (hB1 : B ≤ 1073741824) (qr : Nat) (s1 : Int)  (a1 : Int32) (a2 : Int32) (a3 : Int32) (a4 : Int32) (a5 : Int32) (w0 : va_W) (sz : Nat) (hT : TW ksM ad cy B qr 12 w0)  : Met l yX12_feed (wu yX12_feed cX12_feed 6 (some .int)) ({ frames := 2, cells := 0, slots := 0, locals := 34 }) (va_Pc [.ref (ad 0), .int a1, .int a2, .int a3, .int a4, .int a5] (wpreS adK adV dC dI cy sz w0)) (va_Qi (Pz_X12_feed_1 ad cy B qr s1 a1 a2 a3 a4 a5 w0) (fun u : va_W => wpost dC dI cy (va_A w0 sz) u) (va_A w0 sz)) 0 0 (va_A w0 sz) := by
  refine Met.ofW (cc := cX12_feed) (maxL := 6) (ret := (some .int)) (by decide) rfl ?_
  intro p e s m args below meth c s₁ Bk hml hv
  obtain ⟨rfl, ⟨hsz, hP, hK, hD0⟩, hE, hSR⟩ := hv
  have hx := Bk.exec
  have hb := Bk.bytes
  have hr := Bk.returns
  have hlocks := Bk.notSynchronized
  have hC : CallFix p m c cX12_feed 6 s _ (wu yX12_feed cX12_feed 6 (some .int)) RX12 := ⟨hx, hb, hml, findClass_of_methodNamed Bk.named, atoms_spec (ws := (wu yX12_feed cX12_feed 6 (some .int))) Bk.pre⟩
  subst hsz
  have hD := hD0.self (sz := s.heap.size)
  generalize hAe : va_A w0 s.heap.size = A at hD hE ⊢
  have hA : ∀ q : Nat, s.heap.size ≤ q → A q := fun q h => by rw [← hAe]; exact Or.inr h
  have hw : Wd dC dI A s.heap s.heap [] w0 := ⟨hP, hD, va_S.rf⟩
  have hF : FE ksM [(12, 1, 1), (60, 0, 400)] w0 w0 := FE.rf
  have hl := lv_entry ([.ref (ad 0), .int a1, .int a2, .int a3, .int a4, .int a5]) (n := 6) (Nat.le_of_ble_eq_true rfl)
  rw [lg_entry_eq]
  generalize (lg_sl ([.ref (ad 0), .int a1, .int a2, .int a3, .int a4, .int a5]) ++ List.replicate (6 - (lg_sl ([.ref (ad 0), .int a1, .int a2, .int a3, .int a4, .int a5])).length) Slot.unset).toArray = ls at hl ⊢
  have hl : lv_has ls 6 [(0, .ref (ad 0)), (1, .int a1), (2, .int a2), (3, .int a3), (4, .int a4), (5, .int a5)] := hl
  generalize hloc : ([] : List Loc) = locs at hw ⊢
  have hinX12 : ∀ w ∈ u_ws RX12 TX12 42, w ∈ (wu yX12_feed cX12_feed 6 (some .int)) := fun _ h => List.mem_cons_of_mem _ (up_71 h)
  have hM : TT (fun n => m_X12_feed n 0 a1.toInt a2.toInt a3.toInt a4.toInt a5.toInt (sI w0)) (fun n => m_X12_feed n 0 a1.toInt a2.toInt a3.toInt a4.toInt a5.toInt (sI w0)) := TT.rf
  refine lv_aload_n hx hb dX12_feed_0 rfl (lv_at hl 0 rfl) ?_
  refine tk_geti hC hK hw hT hinX12 kM_at0 (by decide) rfl 1 (by decide) (List.mem_cons_of_mem _ uw_8_7) rfl rfl dX12_feed_1 (fun x1 c2 rx1 tx1 => ?_)
  replace hM := hM.rd (sI_at c2)
  refine lv_bipush (v := 20) hx hb dX12_feed_4 (by decide) ?_
  refine lv_iadd hx hb dX12_feed_6 ?_
  refine lv_topi (fun x3 ex3 => ?_)
  have ezx3 := ex3
  have ex3 : x3.toInt = x1.toInt + (20 : Int) := by rw [ex3]; exact wk_add (show (-2147483648) ≤ x1.toInt + (20 : Int) by omega) (show x1.toInt + (20 : Int) ≤ 2147483647 by omega)
  replace hM := hM.lt ex3.symm
  refine lv_sipush (v := 400) hx hb dX12_feed_7 (by decide) ?_
  refine lv_icmp_le (tgt := 15) hx hb dX12_feed_10 (by decide) (fun c4 => ?_) (fun c4 => ?_)
  · have c4 : x3.toInt ≤ (400 : Int) := wk_le.mp c4
    replace hM := hM.pos c4
    refine lv_aload_n hx hb dX12_feed_15 rfl (lv_at hl 0 rfl) ?_
    refine lv_iload_n hx hb dX12_feed_16 rfl (lv_at hl 1 rfl) ?_
    refine tk_Vv hC hK hw hT hA hE hSR kM_at0 (by decide) rfl (kz_X12_four_1 l adK adV dC dI cy ad B (by omega) (by omega) qr s1   a1 w0 s.heap.size hT x1 c2 (show 0 ≤ x1.toInt from rx1) (show x1.toInt ≤ 380 by omega)) (cwV 1 hC.2.2.2.2 uV_RX12_87 rfl rfl rfl (by decide +kernel) ⟨Nat.le_of_ble_eq_true rfl, Nat.le_of_ble_eq_true rfl⟩) rfl hl.1 rfl (Nat.le_of_ble_eq_true rfl) dX12_feed_17 (fun w7 H locs hp6 hw => ?_)
    obtain ⟨hT, k8, hv12, hg11⟩ := hp6
    have hF := hF.tr k8 (by decide)
    obtain ⟨x9, c10, rx9, tx9⟩ := hg11
    replace hM := hM.call hv12 rfl
    refine lv_aload_n hx hb dX12_feed_20 rfl (lv_at hl 0 rfl) ?_
    refine lv_iload_n hx hb dX12_feed_21 rfl (lv_at hl 2 rfl) ?_
    refine tk_Vv hC hK hw hT hA hE hSR kM_at0 (by decide) rfl (kz_X12_four_2 l adK adV dC dI cy ad B (by omega) (by omega) qr s1   a2 w7 H.size hT x9 c10 (show 4 ≤ x9.toInt by omega) (show x9.toInt ≤ 384 by omega)) (cwV 1 hC.2.2.2.2 uV_RX12_87 rfl rfl rfl (by decide +kernel) ⟨Nat.le_of_ble_eq_true rfl, Nat.le_of_ble_eq_true rfl⟩) rfl hl.1 rfl (Nat.le_of_ble_eq_true rfl) dX12_feed_22 (fun w15 H locs hp14 hw => ?_)
    obtain ⟨hT, k16, hv20, hg19⟩ := hp14
    have hF := hF.tr k16 (by decide)
    obtain ⟨x17, c18, rx17, tx17⟩ := hg19
    replace hM := hM.call hv20 rfl
    refine lv_aload_n hx hb dX12_feed_25 rfl (lv_at hl 0 rfl) ?_
    refine lv_iload_n hx hb dX12_feed_26 rfl (lv_at hl 3 rfl) ?_
    refine tk_Vv hC hK hw hT hA hE hSR kM_at0 (by decide) rfl (kz_X12_four_3 l adK adV dC dI cy ad B (by omega) (by omega) qr s1   a3 w15 H.size hT x17 c18 (show 8 ≤ x17.toInt by omega) (show x17.toInt ≤ 388 by omega)) (cwV 1 hC.2.2.2.2 uV_RX12_87 rfl rfl rfl (by decide +kernel) ⟨Nat.le_of_ble_eq_true rfl, Nat.le_of_ble_eq_true rfl⟩) rfl hl.1 rfl (Nat.le_of_ble_eq_true rfl) dX12_feed_27 (fun w23 H locs hp22 hw => ?_)
    obtain ⟨hT, k24, hv28, hg27⟩ := hp22
    have hF := hF.tr k24 (by decide)
    obtain ⟨x25, c26, rx25, tx25⟩ := hg27
    replace hM := hM.call hv28 rfl
    refine lv_aload_n hx hb dX12_feed_30 rfl (lv_at hl 0 rfl) ?_
    refine lv_iload hx hb dX12_feed_31 (lv_at hl 4 rfl) ?_
    refine tk_Vv hC hK hw hT hA hE hSR kM_at0 (by decide) rfl (kz_X12_four_4 l adK adV dC dI cy ad B (by omega) (by omega) qr s1   a4 w23 H.size hT x25 c26 (show 12 ≤ x25.toInt by omega) (show x25.toInt ≤ 392 by omega)) (cwV 1 hC.2.2.2.2 uV_RX12_87 rfl rfl rfl (by decide +kernel) ⟨Nat.le_of_ble_eq_true rfl, Nat.le_of_ble_eq_true rfl⟩) rfl hl.1 rfl (Nat.le_of_ble_eq_true rfl) dX12_feed_33 (fun w31 H locs hp30 hw => ?_)
    obtain ⟨hT, k32, hv36, hg35⟩ := hp30
    have hF := hF.tr k32 (by decide)
    obtain ⟨x33, c34, rx33, tx33⟩ := hg35
    replace hM := hM.call hv36 rfl
    refine lv_aload_n hx hb dX12_feed_36 rfl (lv_at hl 0 rfl) ?_
    refine lv_iload hx hb dX12_feed_37 (lv_at hl 5 rfl) ?_
    refine tk_Vv hC hK hw hT hA hE hSR kM_at0 (by decide) rfl (kz_X12_four_5 l adK adV dC dI cy ad B (by omega) (by omega) qr s1   a5 w31 H.size hT x33 c34 (show 16 ≤ x33.toInt by omega) (show x33.toInt ≤ 396 by omega)) (cwV 1 hC.2.2.2.2 uV_RX12_87 rfl rfl rfl (by decide +kernel) ⟨Nat.le_of_ble_eq_true rfl, Nat.le_of_ble_eq_true rfl⟩) rfl hl.1 rfl (Nat.le_of_ble_eq_true rfl) dX12_feed_39 (fun w39 H locs hp38 hw => ?_)
    obtain ⟨hT, k40, hv44, hg43⟩ := hp38
    have hF := hF.tr k40 (by decide)
    obtain ⟨x41, c42, rx41, tx41⟩ := hg43
    replace hM := hM.call hv44 rfl
    refine lv_aload_n hx hb dX12_feed_42 rfl (lv_at hl 0 rfl) ?_
    refine tk_geti hC hK hw hT hinX12 kM_at0 (by decide) rfl 1 (by decide) (List.mem_cons_of_mem _ uw_8_7) rfl rfl dX12_feed_43 (fun x45 c46 rx45 tx45 => ?_)
    refine wk_top x41 (c46.symm.trans c42) ?_
    replace hM := hM.rd (sI_at c42)
    exact tk_iret hC hr hlocks hK ⟨hT, hF, hM.ret rfl, (Or.inl ⟨(show 20 ≤ x41.toInt by omega), (show x41.toInt ≤ 400 by omega), ⟨x41, c42, (show 20 ≤ x41.toInt by omega), (show x41.toInt ≤ 400 by omega)⟩⟩)⟩ hw dX12_feed_46
  · have c4 : (400 : Int) < x3.toInt := wk_leF c4
    replace hM := hM.neg (Int.not_le.mpr c4)
    refine lv_iconst (v := (-1)) hx hb dX12_feed_13 (by decide) ?_
    exact tk_iret hC hr hlocks hK ⟨hT, hF, hM.ret (by decide), (Or.inr ⟨rfl, ⟨x1, c2, (show 381 ≤ x1.toInt by omega), (show x1.toInt ≤ 400 from tx1)⟩⟩)⟩ hw dX12_feed_14
abbrev Pz_X12_end_1 (ad : Nat → Nat) (cy : Nat → ClassId) (B : Int) (qr : Nat) (s1 : Int) (a1 : Int32) (w0 : va_W) : Int32 → va_W → Prop := fun r u => TW ksM ad cy B qr 12 u ∧ FE ksM [(12, 1, 1)] w0 u ∧ Ev (fun n => m_X12_end n 0 a1.toInt (sI w0)) (r.toInt, sI u) ∧ ((0 ≤ r.toInt ∧ r.toInt ≤ 400 ∧ 0 ≤ a1.toInt ∧ a1.toInt ≤ 400 ∧ (∃ y : Int32, gi u 0 1 = y ∧ 0 ≤ y.toInt ∧ y.toInt ≤ 400)) ∨ (r = (-1)))
set_option maxHeartbeats 4000000 in
set_option maxRecDepth 100000 in
theorem kz_X12_end_1 (l : Launch) (adK adV : Nat → Nat) (dC : Nat → ClassId) (dI : Nat → Nat → Nat) (cy : Nat → ClassId) (ad : Nat → Nat) (B : Int) (hB0 : 100000 ≤ B) (hB1 : B ≤ 1073741824) (qr : Nat) (s1 : Int)  (a1 : Int32) (w0 : va_W) (sz : Nat) (hT : TW ksM ad cy B qr 12 w0)  : Met l yX12_end (wu yX12_end cX12_end 2 (some .int)) ({ frames := 1, cells := 0, slots := 0, locals := 12 }) (va_Pc [.ref (ad 0), .int a1] (wpreS adK adV dC dI cy sz w0)) (va_Qi (Pz_X12_end_1 ad cy B qr s1 a1 w0) (fun u : va_W => wpost dC dI cy (va_A w0 sz) u) (va_A w0 sz)) 0 0 (va_A w0 sz) := by
  refine Met.ofW (cc := cX12_end) (maxL := 2) (ret := (some .int)) (by decide) rfl ?_
  intro p e s m args below meth c s₁ Bk hml hv
  obtain ⟨rfl, ⟨hsz, hP, hK, hD0⟩, hE, hSR⟩ := hv
  have hx := Bk.exec
  have hb := Bk.bytes
  have hr := Bk.returns
  have hlocks := Bk.notSynchronized
  have hC : CallFix p m c cX12_end 2 s _ (wu yX12_end cX12_end 2 (some .int)) RX12 := ⟨hx, hb, hml, findClass_of_methodNamed Bk.named, atoms_spec (ws := (wu yX12_end cX12_end 2 (some .int))) Bk.pre⟩
  subst hsz
  have hD := hD0.self (sz := s.heap.size)
  generalize hAe : va_A w0 s.heap.size = A at hD hE ⊢
  have hA : ∀ q : Nat, s.heap.size ≤ q → A q := fun q h => by rw [← hAe]; exact Or.inr h
  have hw : Wd dC dI A s.heap s.heap [] w0 := ⟨hP, hD, va_S.rf⟩
  have hF : FE ksM [(12, 1, 1)] w0 w0 := FE.rf
  have hl := lv_entry ([.ref (ad 0), .int a1]) (n := 2) (Nat.le_of_ble_eq_true rfl)
  rw [lg_entry_eq]
  generalize (lg_sl ([.ref (ad 0), .int a1]) ++ List.replicate (2 - (lg_sl ([.ref (ad 0), .int a1])).length) Slot.unset).toArray = ls at hl ⊢
  have hl : lv_has ls 2 [(0, .ref (ad 0)), (1, .int a1)] := hl
  generalize hloc : ([] : List Loc) = locs at hw ⊢
  have hinX12 : ∀ w ∈ u_ws RX12 TX12 42, w ∈ (wu yX12_end cX12_end 2 (some .int)) := fun _ h => List.mem_cons_of_mem _ (up_71 h)
  have J12 : ∀ (H : Heap) (locs : List Loc) (ls : Array Slot) (w1 : va_W), Wd dC dI A s.heap H locs w1 → TW ksM ad cy B qr 12 w1 → FE ksM [(12, 1, 1)] w0 w1 → TT (fun n => m_X12_end n 0 a1.toInt (sI w0)) (fun n => b_X12_end_12 n 0 (sI w1)) → lv_has ls 2 [(0, .ref (ad 0)), (1, .int a1)] → W p l e ({ frames := 1, cells := 0, slots := 0, locals := 12 }) s m (List.toArray [.ref (ad 0), .int a1]) below meth c H locs 0 0 (MQ below (va_Qi (Pz_X12_end_1 ad cy B qr s1 a1 w0) (fun u : va_W => wpost dC dI cy A u) A) (List.toArray [.ref (ad 0), .int a1]) s 0 0 A) (F0 m 12 ls []) := by
    intro H locs ls w1 hw hT hF hM hl
    refine lv_iconst (v := (-1)) hx hb dX12_end_12 (by decide) ?_
    exact tk_iret hC hr hlocks hK ⟨hT, hF, hM.ret (by decide), (Or.inr rfl)⟩ hw dX12_end_13
  have hM : TT (fun n => m_X12_end n 0 a1.toInt (sI w0)) (fun n => m_X12_end n 0 a1.toInt (sI w0)) := TT.rf
  refine lv_iload_n hx hb dX12_end_0 rfl (lv_at hl 1 rfl) ?_
  refine lv_if_lt (tgt := 12) hx hb dX12_end_1 (by decide) (fun c2 => ?_) (fun c2 => ?_)
  · have c2 : a1.toInt < (0 : Int) := wk_lt.mp c2
    replace hM := hM.pos c2
    exact J12  s.heap locs ls w0   hw hT hF hM (lv_sub hl [0, 1] rfl)
  · have c2 : (0 : Int) ≤ a1.toInt := wk_ltF c2
    replace hM := hM.neg (Int.not_lt.mpr c2)
    refine lv_iload_n hx hb dX12_end_4 rfl (lv_at hl 1 rfl) ?_
    refine lv_aload_n hx hb dX12_end_5 rfl (lv_at hl 0 rfl) ?_
    refine tk_geti hC hK hw hT hinX12 kM_at0 (by decide) rfl 1 (by decide) (List.mem_cons_of_mem _ uw_8_7) rfl rfl dX12_end_6 (fun x3 c4 rx3 tx3 => ?_)
    replace hM := hM.rd (sI_at c4)
    refine lv_icmp_le (tgt := 14) hx hb dX12_end_9 (by decide) (fun c5 => ?_) (fun c5 => ?_)
    · have c5 : a1.toInt ≤ x3.toInt := wk_le.mp c5
      replace hM := hM.pos c5
      refine lv_aload_n hx hb dX12_end_14 rfl (lv_at hl 0 rfl) ?_
      refine lv_iload_n hx hb dX12_end_15 rfl (lv_at hl 1 rfl) ?_
      refine tk_puti hC hK hw hT hinX12 tyX12_ok nmX12 kM_at0 (by decide) rfl rfl 1 (by decide) (List.mem_cons_of_mem _ uw_8_7) rfl rfl rfl rfl (show 0 ≤ a1.toInt by omega) (show a1.toInt ≤ 400 by omega) dX12_end_16 (fun H locs w6 hw hT k8 c7 => ?_)
      replace hM := hM.wr (sI_up k8 c7)
      have hF := hF.put kM_at0 (k := 1) (by decide) k8
      refine lv_iload_n hx hb dX12_end_19 rfl (lv_at hl 1 rfl) ?_
      exact tk_iret hC hr hlocks hK ⟨hT, hF, hM.ret rfl, (Or.inl ⟨(show 0 ≤ a1.toInt by omega), (show a1.toInt ≤ 400 by omega), (show 0 ≤ a1.toInt by omega), (show a1.toInt ≤ 400 by omega), ⟨a1, c7, (show 0 ≤ a1.toInt by omega), (show a1.toInt ≤ 400 by omega)⟩⟩)⟩ hw dX12_end_20
    · have c5 : x3.toInt < a1.toInt := wk_leF c5
      replace hM := hM.neg (Int.not_le.mpr c5)
      exact J12  s.heap locs ls w0   hw hT hF hM (lv_sub hl [0, 1] rfl)
abbrev Pz_X12_see_1 (ad : Nat → Nat) (cy : Nat → ClassId) (B : Int) (qr : Nat) (s1 : Int)  (w0 : va_W) : Int32 → va_W → Prop := fun r u => TW ksM ad cy B qr 12 u ∧ FE ksM [(12, 14, 14)] w0 u ∧ Ev (fun n => m_X12_see n 0 (sI w0)) (r.toInt, sI u) ∧ ((0 ≤ r.toInt ∧ r.toInt ≤ 255 ∧ (∃ y : Int32, gi u 0 1 = y ∧ 1 ≤ y.toInt ∧ y.toInt ≤ 400) ∧ (∃ y : Int32, gi u 0 14 = y ∧ 0 ≤ y.toInt ∧ y.toInt ≤ 399) ∧ ((gi u 1 ((gi u 0 14).toInt).toNat).toInt ≠ 32) ∧ (((gi u 0 14).toInt = (gi w0 0 14).toInt ∨ (gi w0 1 ((gi w0 0 14).toInt).toNat).toInt = 32))) ∨ (r = (-1) ∧ (∃ y : Int32, gi u 0 1 = y ∧ 1 ≤ y.toInt ∧ y.toInt ≤ 399) ∧ (∃ y : Int32, gi u 0 14 = y ∧ 1 ≤ y.toInt ∧ y.toInt ≤ 399) ∧ (((gi u 0 14).toInt = (gi w0 0 14).toInt ∨ (gi w0 1 ((gi w0 0 14).toInt).toNat).toInt = 32))) ∨ (r = (-1) ∧ (∃ y : Int32, gi u 0 1 = y ∧ 0 ≤ y.toInt ∧ y.toInt ≤ 400) ∧ (((gi u 0 14).toInt = (gi w0 0 14).toInt ∨ (gi w0 1 ((gi w0 0 14).toInt).toNat).toInt = 32))))
set_option maxHeartbeats 4000000 in
set_option maxRecDepth 100000 in
theorem kz_X12_see_1 (l : Launch) (adK adV : Nat → Nat) (dC : Nat → ClassId) (dI : Nat → Nat → Nat) (cy : Nat → ClassId) (ad : Nat → Nat) (B : Int) (hB0 : 100000 ≤ B) (hB1 : B ≤ 1073741824) (qr : Nat) (s1 : Int)   (w0 : va_W) (sz : Nat) (hT : TW ksM ad cy B qr 12 w0) (f0_ : Int32) (cf0_ : gi w0 0 14 = f0_) (rf0_ : 0 ≤ f0_.toInt) (tf0_ : f0_.toInt ≤ 400) : Met l yX12_see (wu yX12_see cX12_see 1 (some .int)) ({ frames := 1, cells := 0, slots := 0, locals := 12 }) (va_Pc [.ref (ad 0)] (wpreS adK adV dC dI cy sz w0)) (va_Qi (Pz_X12_see_1 ad cy B qr s1  w0) (fun u : va_W => wpost dC dI cy (va_A w0 sz) u) (va_A w0 sz)) 0 0 (va_A w0 sz) := by
  refine Met.ofW (cc := cX12_see) (maxL := 1) (ret := (some .int)) (by decide) rfl ?_
  intro p e s m args below meth c s₁ Bk hml hv
  obtain ⟨rfl, ⟨hsz, hP, hK, hD0⟩, hE, hSR⟩ := hv
  have hx := Bk.exec
  have hb := Bk.bytes
  have hr := Bk.returns
  have hlocks := Bk.notSynchronized
  have hC : CallFix p m c cX12_see 1 s _ (wu yX12_see cX12_see 1 (some .int)) RX12 := ⟨hx, hb, hml, findClass_of_methodNamed Bk.named, atoms_spec (ws := (wu yX12_see cX12_see 1 (some .int))) Bk.pre⟩
  subst hsz
  have hD := hD0.self (sz := s.heap.size)
  generalize hAe : va_A w0 s.heap.size = A at hD hE ⊢
  have hA : ∀ q : Nat, s.heap.size ≤ q → A q := fun q h => by rw [← hAe]; exact Or.inr h
  have hw : Wd dC dI A s.heap s.heap [] w0 := ⟨hP, hD, va_S.rf⟩
  have hF : FE ksM [(12, 14, 14)] w0 w0 := FE.rf
  have hl := lv_entry ([.ref (ad 0)]) (n := 1) (Nat.le_of_ble_eq_true rfl)
  rw [lg_entry_eq]
  generalize (lg_sl ([.ref (ad 0)]) ++ List.replicate (1 - (lg_sl ([.ref (ad 0)])).length) Slot.unset).toArray = ls at hl ⊢
  have hl : lv_has ls 1 [(0, .ref (ad 0))] := hl
  generalize hloc : ([] : List Loc) = locs at hw ⊢
  have hinX12 : ∀ w ∈ u_ws RX12 TX12 42, w ∈ (wu yX12_see cX12_see 1 (some .int)) := fun _ h => List.mem_cons_of_mem _ (up_71 h)
  have L0 : ∀ (n0 : Nat) (f0_0_14 : Int32) (H : Heap) (locs : List Loc) (ls : Array Slot) (w1 : va_W), 0 ≤ f0_0_14.toInt → f0_0_14.toInt ≤ 400 → ((f0_0_14.toInt = f0_.toInt ∨ (gi w0 1 (f0_.toInt).toNat).toInt = 32)) → (400 - f0_0_14.toInt).toNat < n0 → Wd dC dI A s.heap H locs w1 → TW ksM ad cy B qr 12 w1 → FE ksM [(12, 14, 14)] w0 w1 → gi w1 0 14 = f0_0_14 → TT (fun n => m_X12_see n 0 (sI w0)) (fun n => j_X12_see 0 n 0 [] (sI w1)) → lv_has ls 1 [(0, .ref (ad 0))] → W p l e ({ frames := 1, cells := 0, slots := 0, locals := 12 }) s m (List.toArray [.ref (ad 0)]) below meth c H locs 0 0 (MQ below (va_Qi (Pz_X12_see_1 ad cy B qr s1  w0) (fun u : va_W => wpost dC dI cy A u) A) (List.toArray [.ref (ad 0)]) s 0 0 A) (F0 m 0 ls []) := by
    intro n0
    induction n0 with
    | zero => intro f0_0_14 H locs ls w1 r2 t3 hcr0_0 hm0 hw hT hF c4 hM hl; omega
    | succ n0 ih0 =>
      intro f0_0_14 H locs ls w1 r2 t3 hcr0_0 hm0 hw hT hF c4 hM hl
      replace hM := hM.suc (fun _ => e_X12_see_0)
      refine lv_aload_n hx hb dX12_see_0 rfl (lv_at hl 0 rfl) ?_
      refine tk_geti hC hK hw hT hinX12 kM_at0 (by decide) rfl 14 (by decide) (List.mem_cons_of_mem _ uw_19_18) rfl rfl dX12_see_1 (fun x5 c6 rx5 tx5 => ?_)
      refine wk_top f0_0_14 (c6.symm.trans c4) ?_
      replace hM := hM.rd (sI_at c4)
      refine lv_aload_n hx hb dX12_see_4 rfl (lv_at hl 0 rfl) ?_
      refine tk_geti hC hK hw hT hinX12 kM_at0 (by decide) rfl 1 (by decide) (List.mem_cons_of_mem _ uw_8_7) rfl rfl dX12_see_5 (fun x7 c8 rx7 tx7 => ?_)
      replace hM := hM.rd (sI_at c8)
      refine lv_icmp_ge (tgt := 38) hx hb dX12_see_8 (by decide) (fun c9 => ?_) (fun c9 => ?_)
      · have c9 : x7.toInt ≤ f0_0_14.toInt := wk_le.mp c9
        replace hM := hM.pos c9
        refine lv_aload_n hx hb dX12_see_38 rfl (lv_at hl 0 rfl) ?_
        refine tk_geti hC hK hw hT hinX12 kM_at0 (by decide) rfl 14 (by decide) (List.mem_cons_of_mem _ uw_19_18) rfl rfl dX12_see_39 (fun x10 c11 rx10 tx10 => ?_)
        refine wk_top f0_0_14 (c11.symm.trans c4) ?_
        replace hM := hM.rd (sI_at c4)
        refine lv_aload_n hx hb dX12_see_42 rfl (lv_at hl 0 rfl) ?_
        refine tk_geti hC hK hw hT hinX12 kM_at0 (by decide) rfl 1 (by decide) (List.mem_cons_of_mem _ uw_8_7) rfl rfl dX12_see_43 (fun x12 c13 rx12 tx12 => ?_)
        refine wk_top x7 (c13.symm.trans c8) ?_
        replace hM := hM.rd (sI_at c8)
        refine lv_icmp_ge (tgt := 65) hx hb dX12_see_46 (by decide) (fun c14 => ?_) (fun c14 => ?_)
        · have c14 : x7.toInt ≤ f0_0_14.toInt := wk_le.mp c14
          replace hM := hM.pos c14
          refine lv_iconst (v := (-1)) hx hb dX12_see_65 (by decide) ?_
          exact tk_iret hC hr hlocks hK ⟨hT, hF, hM.ret (by decide), (Or.inr (Or.inr ⟨rfl, ⟨x7, c8, (show 0 ≤ x7.toInt from rx7), (show x7.toInt ≤ 400 from tx7)⟩, (by simp only [cf0_, c4]; omega)⟩))⟩ hw dX12_see_66
        · have c14 : f0_0_14.toInt < x7.toInt := wk_leF c14
          replace hM := hM.neg (Int.not_le.mpr c14)
          refine lv_aload_n hx hb dX12_see_49 rfl (lv_at hl 0 rfl) ?_
          refine tk_getA hC hK hw hT hinX12 kM_at0 (by decide) rfl 0 (by decide) (List.mem_cons_of_mem _ uw_6_14) rfl rfl dX12_see_50 ?_
          refine lv_aload_n hx hb dX12_see_53 rfl (lv_at hl 0 rfl) ?_
          refine tk_geti hC hK hw hT hinX12 kM_at0 (by decide) rfl 14 (by decide) (List.mem_cons_of_mem _ uw_19_18) rfl rfl dX12_see_54 (fun x15 c16 rx15 tx15 => ?_)
          refine wk_top f0_0_14 (c16.symm.trans c4) ?_
          replace hM := hM.rd (sI_at c4)
          refine tk_bald hC hK hw hT kM_at1 rfl rfl (show 0 ≤ f0_0_14.toInt from r2) (show f0_0_14.toInt < 400 by omega) dX12_see_57 (fun x17 c18 rx17 tx17 => ?_)
          have hox17 := c18
          replace hM := hM.rd (sI_at hox17)
          have c18 : gi w1 1 (f0_0_14.toInt).toNat = x17 := (congrArg (gi w1 1) (congrArg Int.toNat (show f0_0_14.toInt = f0_0_14.toInt by omega))).trans c18
          refine lv_sipush (v := 255) hx hb dX12_see_58 (by decide) ?_
          refine lv_iand hx hb dX12_see_61 ?_
          refine lv_topi (fun x19 ex19 => ?_)
          have ezx19 := ex19
          have bx19 : 0 ≤ x19.toInt ∧ x19.toInt ≤ (255 : Int) := by rw [ex19]; exact wk_and (by decide)
          replace hM := hM.lt (o32_e (f := fun x y => x &&& y) ezx19 rfl (by decide))
          refine lv_goto (tgt := 66) hx hb dX12_see_62 (by decide) ?_
          exact tk_iret hC hr hlocks hK ⟨hT, hF, hM.ret rfl, (Or.inl ⟨(show 0 ≤ x19.toInt by omega), (show x19.toInt ≤ 255 by omega), ⟨x7, c8, (show 1 ≤ x7.toInt by omega), (show x7.toInt ≤ 400 from tx7)⟩, ⟨f0_0_14, c4, (show 0 ≤ f0_0_14.toInt from r2), (show f0_0_14.toInt ≤ 399 by omega)⟩, (by simp only [c4, c18]; omega), (by simp only [cf0_, c4, c18]; omega)⟩)⟩ hw dX12_see_66
      · have c9 : f0_0_14.toInt < x7.toInt := wk_leF c9
        replace hM := hM.neg (Int.not_le.mpr c9)
        refine lv_aload_n hx hb dX12_see_11 rfl (lv_at hl 0 rfl) ?_
        refine tk_getA hC hK hw hT hinX12 kM_at0 (by decide) rfl 0 (by decide) (List.mem_cons_of_mem _ uw_6_14) rfl rfl dX12_see_12 ?_
        refine lv_aload_n hx hb dX12_see_15 rfl (lv_at hl 0 rfl) ?_
        refine tk_geti hC hK hw hT hinX12 kM_at0 (by decide) rfl 14 (by decide) (List.mem_cons_of_mem _ uw_19_18) rfl rfl dX12_see_16 (fun x20 c21 rx20 tx20 => ?_)
        refine wk_top f0_0_14 (c21.symm.trans c4) ?_
        replace hM := hM.rd (sI_at c4)
        refine tk_bald hC hK hw hT kM_at1 rfl rfl (show 0 ≤ f0_0_14.toInt from r2) (show f0_0_14.toInt < 400 by omega) dX12_see_19 (fun x22 c23 rx22 tx22 => ?_)
        have hox22 := c23
        replace hM := hM.rd (sI_at hox22)
        have c23 : gi w1 1 (f0_0_14.toInt).toNat = x22 := (congrArg (gi w1 1) (congrArg Int.toNat (show f0_0_14.toInt = f0_0_14.toInt by omega))).trans c23
        refine lv_bipush (v := 32) hx hb dX12_see_20 (by decide) ?_
        refine lv_icmp_ne (tgt := 38) hx hb dX12_see_22 (by decide) (fun c24 => ?_) (fun c24 => ?_)
        · have c24 : ¬ x22.toInt = (32 : Int) := wk_eqF c24
          replace hM := hM.pos c24
          refine lv_aload_n hx hb dX12_see_38 rfl (lv_at hl 0 rfl) ?_
          refine tk_geti hC hK hw hT hinX12 kM_at0 (by decide) rfl 14 (by decide) (List.mem_cons_of_mem _ uw_19_18) rfl rfl dX12_see_39 (fun x25 c26 rx25 tx25 => ?_)
          refine wk_top f0_0_14 (c26.symm.trans c4) ?_
          replace hM := hM.rd (sI_at c4)
          refine lv_aload_n hx hb dX12_see_42 rfl (lv_at hl 0 rfl) ?_
          refine tk_geti hC hK hw hT hinX12 kM_at0 (by decide) rfl 1 (by decide) (List.mem_cons_of_mem _ uw_8_7) rfl rfl dX12_see_43 (fun x27 c28 rx27 tx27 => ?_)
          refine wk_top x7 (c28.symm.trans c8) ?_
          replace hM := hM.rd (sI_at c8)
          refine lv_icmp_ge (tgt := 65) hx hb dX12_see_46 (by decide) (fun c29 => ?_) (fun c29 => ?_)
          · have c29 : x7.toInt ≤ f0_0_14.toInt := wk_le.mp c29
            replace hM := hM.pos c29
            refine lv_iconst (v := (-1)) hx hb dX12_see_65 (by decide) ?_
            exact tk_iret hC hr hlocks hK ⟨hT, hF, hM.ret (by decide), (Or.inr (Or.inl ⟨rfl, ⟨x7, c8, (show 1 ≤ x7.toInt by omega), (show x7.toInt ≤ 399 by omega)⟩, ⟨f0_0_14, c4, (show 1 ≤ f0_0_14.toInt by omega), (show f0_0_14.toInt ≤ 399 by omega)⟩, (by simp only [cf0_, c4, c23]; omega)⟩))⟩ hw dX12_see_66
          · have c29 : f0_0_14.toInt < x7.toInt := wk_leF c29
            replace hM := hM.neg (Int.not_le.mpr c29)
            refine lv_aload_n hx hb dX12_see_49 rfl (lv_at hl 0 rfl) ?_
            refine tk_getA hC hK hw hT hinX12 kM_at0 (by decide) rfl 0 (by decide) (List.mem_cons_of_mem _ uw_6_14) rfl rfl dX12_see_50 ?_
            refine lv_aload_n hx hb dX12_see_53 rfl (lv_at hl 0 rfl) ?_
            refine tk_geti hC hK hw hT hinX12 kM_at0 (by decide) rfl 14 (by decide) (List.mem_cons_of_mem _ uw_19_18) rfl rfl dX12_see_54 (fun x30 c31 rx30 tx30 => ?_)
            refine wk_top f0_0_14 (c31.symm.trans c4) ?_
            replace hM := hM.rd (sI_at c4)
            refine tk_bald hC hK hw hT kM_at1 rfl rfl (show 0 ≤ f0_0_14.toInt from r2) (show f0_0_14.toInt < 400 by omega) dX12_see_57 (fun x32 c33 rx32 tx32 => ?_)
            have hox32 := c33
            have c33 : gi w1 1 (f0_0_14.toInt).toNat = x32 := (congrArg (gi w1 1) (congrArg Int.toNat (show f0_0_14.toInt = f0_0_14.toInt by omega))).trans c33
            refine wk_top x22 (c33.symm.trans c23) ?_
            replace hM := hM.rd ((sI_at hox32).trans (congrArg Int32.toInt (c33.symm.trans c23)))
            refine lv_sipush (v := 255) hx hb dX12_see_58 (by decide) ?_
            refine lv_iand hx hb dX12_see_61 ?_
            refine lv_topi (fun x34 ex34 => ?_)
            have ezx34 := ex34
            have bx34 : 0 ≤ x34.toInt ∧ x34.toInt ≤ (255 : Int) := by rw [ex34]; exact wk_and (by decide)
            replace hM := hM.lt (o32_e (f := fun x y => x &&& y) ezx34 rfl (by decide))
            refine lv_goto (tgt := 66) hx hb dX12_see_62 (by decide) ?_
            exact tk_iret hC hr hlocks hK ⟨hT, hF, hM.ret rfl, (Or.inl ⟨(show 0 ≤ x34.toInt by omega), (show x34.toInt ≤ 255 by omega), ⟨x7, c8, (show 1 ≤ x7.toInt by omega), (show x7.toInt ≤ 400 from tx7)⟩, ⟨f0_0_14, c4, (show 0 ≤ f0_0_14.toInt from r2), (show f0_0_14.toInt ≤ 399 by omega)⟩, (by simp only [c4, c23]; omega), (by simp only [cf0_, c4, c23]; omega)⟩)⟩ hw dX12_see_66
        · have c24 : x22.toInt = (32 : Int) := wk_eq.mp c24
          replace hM := hM.neg (fun q => q c24)
          refine lv_aload_n hx hb dX12_see_25 rfl (lv_at hl 0 rfl) ?_
          refine lv_dup hx hb dX12_see_26 rfl ?_
          refine tk_geti hC hK hw hT hinX12 kM_at0 (by decide) rfl 14 (by decide) (List.mem_cons_of_mem _ uw_19_18) rfl rfl dX12_see_27 (fun x35 c36 rx35 tx35 => ?_)
          refine wk_top f0_0_14 (c36.symm.trans c4) ?_
          replace hM := hM.rd (sI_at c4)
          refine lv_iconst (v := 1) hx hb dX12_see_30 (by decide) ?_
          refine lv_iadd hx hb dX12_see_31 ?_
          refine lv_topi (fun x37 ex37 => ?_)
          have ezx37 := ex37
          have ex37 : x37.toInt = f0_0_14.toInt + (1 : Int) := by rw [ex37]; exact wk_add (show (-2147483648) ≤ f0_0_14.toInt + (1 : Int) by omega) (show f0_0_14.toInt + (1 : Int) ≤ 2147483647 by omega)
          replace hM := hM.lt ex37.symm
          refine tk_puti hC hK hw hT hinX12 tyX12_ok nmX12 kM_at0 (by decide) rfl rfl 14 (by decide) (List.mem_cons_of_mem _ uw_19_18) rfl rfl rfl rfl (show 0 ≤ x37.toInt by omega) (show x37.toInt ≤ 400 by omega) dX12_see_32 (fun H locs w38 hw hT k40 c39 => ?_)
          replace hM := hM.wr (sI_up k40 c39)
          have hF := hF.put kM_at0 (k := 14) (by decide) k40
          have c41 := k40.gi (Or.inr (by decide)) c8
          have c42 := k40.gi (Or.inl (tk_ne kM_at1 kM_at0 (by decide))) c23
          refine lv_goto (tgt := 0) hx hb dX12_see_35 (by decide) ?_
          exact ih0 x37 H locs ls w38 (show 0 ≤ x37.toInt by omega) (show x37.toInt ≤ 400 by omega) (show (x37.toInt = f0_.toInt ∨ (gi w0 1 (f0_.toInt).toNat).toInt = 32) by first | omega | assumption | (left; omega) | (left; decide) | (right; assumption) | (right; rw [c42]; omega) | (right; rw [c42]; decide) | (right; rcases hcr0_0 with hx1 | hx1 <;> first | exact hx1 | (rw [← hx1]; exact (congrArg Int32.toInt ((hF.gi kM_at1 rfl rfl).symm.trans c42)).trans (by omega)))) (show (400 - x37.toInt).toNat < n0 by omega) hw hT hF c39 hM (lv_sub hl [0] rfl)
  have hM : TT (fun n => m_X12_see n 0 (sI w0)) (fun n => j_X12_see 0 n 0 [] (sI w0)) := TT.rf
  exact L0 ((400 - f0_.toInt).toNat + 1) f0_ s.heap locs ls w0 (show 0 ≤ f0_.toInt from rf0_) (show f0_.toInt ≤ 400 from tf0_) (show (f0_.toInt = f0_.toInt ∨ (gi w0 1 (f0_.toInt).toNat).toInt = 32) by first | omega | assumption | (left; omega) | (left; decide) | (right; assumption)) (Nat.lt_succ_self _) hw hT hF cf0_ hM (lv_sub hl [0] rfl)
abbrev Pz_X12_fails_1 (ad : Nat → Nat) (cy : Nat → ClassId) (B : Int) (qr : Nat) (s1 : Int) (a1 : Int32) (a2 : Int32) (w0 : va_W) : Int32 → va_W → Prop := fun r u => TW ksM ad cy B qr 12 u ∧ FE ksM [(12, 15, 15)] w0 u ∧ Ev (fun n => m_X12_fails n 0 a1.toInt a2.toInt (sI w0)) (r.toInt, sI u) ∧ ((r = 0 ∧ (∃ y : Int32, gi u 0 15 = y ∧ 1 ≤ y.toInt ∧ y.toInt ≤ 3205)))
set_option maxHeartbeats 4000000 in
set_option maxRecDepth 100000 in
theorem kz_X12_fails_1 (l : Launch) (adK adV : Nat → Nat) (dC : Nat → ClassId) (dI : Nat → Nat → Nat) (cy : Nat → ClassId) (ad : Nat → Nat) (B : Int) (hB0 : 100000 ≤ B) (hB1 : B ≤ 1073741824) (qr : Nat) (s1 : Int)  (a1 : Int32) (ra1 : 0 ≤ a1.toInt) (ta1 : a1.toInt ≤ 4) (a2 : Int32) (ra2 : 0 ≤ a2.toInt) (ta2 : a2.toInt ≤ 400) (w0 : va_W) (sz : Nat) (hT : TW ksM ad cy B qr 12 w0)  : Met l yX12_fails (wu yX12_fails cX12_fails 3 (some .boolean)) ({ frames := 1, cells := 0, slots := 0, locals := 12 }) (va_Pc [.ref (ad 0), .int a1, .int a2] (wpreS adK adV dC dI cy sz w0)) (va_Qi (Pz_X12_fails_1 ad cy B qr s1 a1 a2 w0) (fun u : va_W => wpost dC dI cy (va_A w0 sz) u) (va_A w0 sz)) 0 0 (va_A w0 sz) := by
  refine Met.ofW (cc := cX12_fails) (maxL := 3) (ret := (some .boolean)) (by decide) rfl ?_
  intro p e s m args below meth c s₁ Bk hml hv
  obtain ⟨rfl, ⟨hsz, hP, hK, hD0⟩, hE, hSR⟩ := hv
  have hx := Bk.exec
  have hb := Bk.bytes
  have hr := Bk.returns
  have hlocks := Bk.notSynchronized
  have hC : CallFix p m c cX12_fails 3 s _ (wu yX12_fails cX12_fails 3 (some .boolean)) RX12 := ⟨hx, hb, hml, findClass_of_methodNamed Bk.named, atoms_spec (ws := (wu yX12_fails cX12_fails 3 (some .boolean))) Bk.pre⟩
  subst hsz
  have hD := hD0.self (sz := s.heap.size)
  generalize hAe : va_A w0 s.heap.size = A at hD hE ⊢
  have hA : ∀ q : Nat, s.heap.size ≤ q → A q := fun q h => by rw [← hAe]; exact Or.inr h
  have hw : Wd dC dI A s.heap s.heap [] w0 := ⟨hP, hD, va_S.rf⟩
  have hF : FE ksM [(12, 15, 15)] w0 w0 := FE.rf
  have hl := lv_entry ([.ref (ad 0), .int a1, .int a2]) (n := 3) (Nat.le_of_ble_eq_true rfl)
  rw [lg_entry_eq]
  generalize (lg_sl ([.ref (ad 0), .int a1, .int a2]) ++ List.replicate (3 - (lg_sl ([.ref (ad 0), .int a1, .int a2])).length) Slot.unset).toArray = ls at hl ⊢
  have hl : lv_has ls 3 [(0, .ref (ad 0)), (1, .int a1), (2, .int a2)] := hl
  generalize hloc : ([] : List Loc) = locs at hw ⊢
  have hinX12 : ∀ w ∈ u_ws RX12 TX12 42, w ∈ (wu yX12_fails cX12_fails 3 (some .boolean)) := fun _ h => List.mem_cons_of_mem _ (up_71 h)
  have J19 : ∀ (f19_0_15 : Int32) (H : Heap) (locs : List Loc) (ls : Array Slot) (w1 : va_W), 0 ≤ a1.toInt → a1.toInt ≤ 4 → 0 ≤ a2.toInt → a2.toInt ≤ 400 → 1 ≤ f19_0_15.toInt → f19_0_15.toInt ≤ 3205 → Wd dC dI A s.heap H locs w1 → TW ksM ad cy B qr 12 w1 → FE ksM [(12, 15, 15)] w0 w1 → gi w1 0 15 = f19_0_15 → TT (fun n => m_X12_fails n 0 a1.toInt a2.toInt (sI w0)) (fun n => b_X12_fails_19 n 0 (sI w1)) → lv_has ls 3 [(0, .ref (ad 0)), (1, .int a1), (2, .int a2)] → W p l e ({ frames := 1, cells := 0, slots := 0, locals := 12 }) s m (List.toArray [.ref (ad 0), .int a1, .int a2]) below meth c H locs 0 0 (MQ below (va_Qi (Pz_X12_fails_1 ad cy B qr s1 a1 a2 w0) (fun u : va_W => wpost dC dI cy A u) A) (List.toArray [.ref (ad 0), .int a1, .int a2]) s 0 0 A) (F0 m 19 ls []) := by
    intro f19_0_15 H locs ls w1 r2 t3 r4 t5 r6 t7 hw hT hF c8 hM hl
    refine lv_iconst (v := 0) hx hb dX12_fails_19 (by decide) ?_
    exact tk_zret hC hr rfl hlocks hK ⟨hT, hF, hM.ret (by decide), ⟨rfl, ⟨f19_0_15, c8, (show 1 ≤ f19_0_15.toInt from r6), (show f19_0_15.toInt ≤ 3205 from t7)⟩⟩⟩ hw dX12_fails_20
  have hM : TT (fun n => m_X12_fails n 0 a1.toInt a2.toInt (sI w0)) (fun n => m_X12_fails n 0 a1.toInt a2.toInt (sI w0)) := TT.rf
  refine lv_aload_n hx hb dX12_fails_0 rfl (lv_at hl 0 rfl) ?_
  refine tk_geti hC hK hw hT hinX12 kM_at0 (by decide) rfl 15 (by decide) (List.mem_cons_of_mem _ uw_19_12) rfl rfl dX12_fails_1 (fun x9 c10 rx9 tx9 => ?_)
  replace hM := hM.rd (sI_at c10)
  refine lv_if_ne (tgt := 19) hx hb dX12_fails_4 (by decide) (fun c11 => ?_) (fun c11 => ?_)
  · have c11 : ¬ x9.toInt = (0 : Int) := wk_eqF c11
    replace hM := hM.pos c11
    exact J19 x9 s.heap locs ls w0 (show 0 ≤ a1.toInt from ra1) (show a1.toInt ≤ 4 from ta1) (show 0 ≤ a2.toInt from ra2) (show a2.toInt ≤ 400 from ta2) (show 1 ≤ x9.toInt by omega) (show x9.toInt ≤ 3205 from tx9)  hw hT hF c10 hM (lv_sub hl [0, 1, 2] rfl)
  · have c11 : x9.toInt = (0 : Int) := wk_eq.mp c11
    replace hM := hM.neg (fun q => q c11)
    refine lv_aload_n hx hb dX12_fails_7 rfl (lv_at hl 0 rfl) ?_
    refine lv_iconst (v := 1) hx hb dX12_fails_8 (by decide) ?_
    refine lv_bipush (v := 8) hx hb dX12_fails_9 (by decide) ?_
    refine lv_iload_n hx hb dX12_fails_11 rfl (lv_at hl 2 rfl) ?_
    refine lv_imul hx hb dX12_fails_12 ?_
    refine lv_topi (fun x12 ex12 => ?_)
    have ezx12 := ex12
    have ex12 : x12.toInt = (8 : Int) * a2.toInt := by rw [ex12]; exact wk_mul (show (-2147483648) ≤ (8 : Int) * a2.toInt by omega) (show (8 : Int) * a2.toInt ≤ 2147483647 by omega)
    replace hM := hM.lt ex12.symm
    refine lv_iadd hx hb dX12_fails_13 ?_
    refine lv_topi (fun x13 ex13 => ?_)
    have ezx13 := ex13
    have ex13 : x13.toInt = (1 : Int) + x12.toInt := by rw [ex13]; exact wk_add (show (-2147483648) ≤ (1 : Int) + x12.toInt by omega) (show (1 : Int) + x12.toInt ≤ 2147483647 by omega)
    replace hM := hM.lt ex13.symm
    refine lv_iload_n hx hb dX12_fails_14 rfl (lv_at hl 1 rfl) ?_
    refine lv_iadd hx hb dX12_fails_15 ?_
    refine lv_topi (fun x14 ex14 => ?_)
    have ezx14 := ex14
    have ex14 : x14.toInt = x13.toInt + a1.toInt := by rw [ex14]; exact wk_add (show (-2147483648) ≤ x13.toInt + a1.toInt by omega) (show x13.toInt + a1.toInt ≤ 2147483647 by omega)
    replace hM := hM.lt ex14.symm
    refine tk_puti hC hK hw hT hinX12 tyX12_ok nmX12 kM_at0 (by decide) rfl rfl 15 (by decide) (List.mem_cons_of_mem _ uw_19_12) rfl rfl rfl rfl (show 0 ≤ x14.toInt by omega) (show x14.toInt ≤ 3205 by omega) dX12_fails_16 (fun H locs w15 hw hT k17 c16 => ?_)
    replace hM := hM.wr (sI_up k17 c16)
    have hF := hF.put kM_at0 (k := 15) (by decide) k17
    exact J19 x14 H locs ls w15 (show 0 ≤ a1.toInt from ra1) (show a1.toInt ≤ 4 from ta1) (show 0 ≤ a2.toInt from ra2) (show a2.toInt ≤ 400 from ta2) (show 1 ≤ x14.toInt by omega) (show x14.toInt ≤ 3205 by omega)  hw hT hF c16 hM (lv_sub hl [0, 1, 2] rfl)
abbrev Pz_X12_isLetter_1 (ad : Nat → Nat) (cy : Nat → ClassId) (B : Int) (qr : Nat) (s1 : Int) (a1 : Int32) (w0 : va_W) : Int32 → va_W → Prop := fun r u => w0 = u ∧ Ev (fun n => m_X12_isLetter n 0 a1.toInt (sI w0)) (r.toInt, sI w0) ∧ ((r = 0 ∧ (∃ y : Int32, gi u 0 1 = y ∧ 0 ≤ y.toInt ∧ y.toInt ≤ 400)) ∨ (r = 1 ∧ a1.toInt ≤ 399 ∧ (∃ y : Int32, gi u 0 1 = y ∧ 1 ≤ y.toInt ∧ y.toInt ≤ 400)))
set_option maxHeartbeats 4000000 in
set_option maxRecDepth 100000 in
theorem kz_X12_isLetter_1 (l : Launch) (adK adV : Nat → Nat) (dC : Nat → ClassId) (dI : Nat → Nat → Nat) (cy : Nat → ClassId) (ad : Nat → Nat) (B : Int) (hB0 : 100000 ≤ B) (hB1 : B ≤ 1073741824) (qr : Nat) (s1 : Int)  (a1 : Int32) (ra1 : 0 ≤ a1.toInt) (ta1 : a1.toInt ≤ 800) (w0 : va_W) (sz : Nat) (hT : TW ksM ad cy B qr 12 w0)  : Met l yX12_isLetter (wu yX12_isLetter cX12_isLetter 2 (some .boolean)) ({ frames := 1, cells := 0, slots := 0, locals := 12 }) (va_Pc [.ref (ad 0), .int a1] (wpreS adK adV dC dI cy sz w0)) (va_Qi (Pz_X12_isLetter_1 ad cy B qr s1 a1 w0) (fun u : va_W => wpost dC dI cy (va_A w0 sz) u) (va_A w0 sz)) 0 0 (va_A w0 sz) := by
  refine Met.ofW (cc := cX12_isLetter) (maxL := 2) (ret := (some .boolean)) (by decide) rfl ?_
  intro p e s m args below meth c s₁ Bk hml hv
  obtain ⟨rfl, ⟨hsz, hP, hK, hD0⟩, hE, hSR⟩ := hv
  have hx := Bk.exec
  have hb := Bk.bytes
  have hr := Bk.returns
  have hlocks := Bk.notSynchronized
  have hC : CallFix p m c cX12_isLetter 2 s _ (wu yX12_isLetter cX12_isLetter 2 (some .boolean)) RX12 := ⟨hx, hb, hml, findClass_of_methodNamed Bk.named, atoms_spec (ws := (wu yX12_isLetter cX12_isLetter 2 (some .boolean))) Bk.pre⟩
  subst hsz
  have hD := hD0.self (sz := s.heap.size)
  generalize hAe : va_A w0 s.heap.size = A at hD hE ⊢
  have hA : ∀ q : Nat, s.heap.size ≤ q → A q := fun q h => by rw [← hAe]; exact Or.inr h
  have hw : Wd dC dI A s.heap s.heap [] w0 := ⟨hP, hD, va_S.rf⟩
  have hF : FE ksM ([] : List (Nat × Nat × Nat)) w0 w0 := FE.rf
  have hl := lv_entry ([.ref (ad 0), .int a1]) (n := 2) (Nat.le_of_ble_eq_true rfl)
  rw [lg_entry_eq]
  generalize (lg_sl ([.ref (ad 0), .int a1]) ++ List.replicate (2 - (lg_sl ([.ref (ad 0), .int a1])).length) Slot.unset).toArray = ls at hl ⊢
  have hl : lv_has ls 2 [(0, .ref (ad 0)), (1, .int a1)] := hl
  generalize hloc : ([] : List Loc) = locs at hw ⊢
  have hinX12 : ∀ w ∈ u_ws RX12 TX12 42, w ∈ (wu yX12_isLetter cX12_isLetter 2 (some .boolean)) := fun _ h => List.mem_cons_of_mem _ (up_71 h)
  have J34 : ∀ (f34_0_1 : Int32) (H : Heap) (locs : List Loc) (ls : Array Slot), 0 ≤ a1.toInt → a1.toInt ≤ 800 → 0 ≤ f34_0_1.toInt → f34_0_1.toInt ≤ 400 → Wd dC dI A s.heap H locs w0 → gi w0 0 1 = f34_0_1 → TT (fun n => m_X12_isLetter n 0 a1.toInt (sI w0)) (fun n => b_X12_isLetter_34 n 0 (sI w0)) → lv_has ls 2 [(0, .ref (ad 0)), (1, .int a1)] → W p l e ({ frames := 1, cells := 0, slots := 0, locals := 12 }) s m (List.toArray [.ref (ad 0), .int a1]) below meth c H locs 0 0 (MQ below (va_Qi (Pz_X12_isLetter_1 ad cy B qr s1 a1 w0) (fun u : va_W => wpost dC dI cy A u) A) (List.toArray [.ref (ad 0), .int a1]) s 0 0 A) (F0 m 34 ls []) := by
    intro f34_0_1 H locs ls r1 t2 r3 t4 hw c5 hM hl
    refine lv_iconst (v := 0) hx hb dX12_isLetter_34 (by decide) ?_
    exact tk_zret hC hr rfl hlocks hK ⟨rfl, hM.ret (by decide), (Or.inl ⟨rfl, ⟨f34_0_1, c5, (show 0 ≤ f34_0_1.toInt from r3), (show f34_0_1.toInt ≤ 400 from t4)⟩⟩)⟩ hw dX12_isLetter_35
  have hM : TT (fun n => m_X12_isLetter n 0 a1.toInt (sI w0)) (fun n => m_X12_isLetter n 0 a1.toInt (sI w0)) := TT.rf
  refine lv_iload_n hx hb dX12_isLetter_0 rfl (lv_at hl 1 rfl) ?_
  refine lv_aload_n hx hb dX12_isLetter_1 rfl (lv_at hl 0 rfl) ?_
  refine tk_geti hC hK hw hT hinX12 kM_at0 (by decide) rfl 1 (by decide) (List.mem_cons_of_mem _ uw_8_7) rfl rfl dX12_isLetter_2 (fun x6 c7 rx6 tx6 => ?_)
  replace hM := hM.rd (sI_at c7)
  refine lv_icmp_ge (tgt := 34) hx hb dX12_isLetter_5 (by decide) (fun c8 => ?_) (fun c8 => ?_)
  · have c8 : x6.toInt ≤ a1.toInt := wk_le.mp c8
    replace hM := hM.pos c8
    exact J34 x6 s.heap locs ls  (show 0 ≤ a1.toInt from ra1) (show a1.toInt ≤ 800 from ta1) (show 0 ≤ x6.toInt from rx6) (show x6.toInt ≤ 400 from tx6)  hw  c7 hM (lv_sub hl [0, 1] rfl)
  · have c8 : a1.toInt < x6.toInt := wk_leF c8
    replace hM := hM.neg (Int.not_le.mpr c8)
    refine lv_aload_n hx hb dX12_isLetter_8 rfl (lv_at hl 0 rfl) ?_
    refine tk_getA hC hK hw hT hinX12 kM_at0 (by decide) rfl 0 (by decide) (List.mem_cons_of_mem _ uw_6_14) rfl rfl dX12_isLetter_9 ?_
    refine lv_iload_n hx hb dX12_isLetter_12 rfl (lv_at hl 1 rfl) ?_
    refine tk_bald hC hK hw hT kM_at1 rfl rfl (show 0 ≤ a1.toInt from ra1) (show a1.toInt < 400 by omega) dX12_isLetter_13 (fun x9 c10 rx9 tx9 => ?_)
    have hox9 := c10
    replace hM := hM.rd (sI_at hox9)
    have c10 : gi w0 1 (a1.toInt).toNat = x9 := (congrArg (gi w0 1) (congrArg Int.toNat (show a1.toInt = a1.toInt by omega))).trans c10
    refine lv_bipush (v := 97) hx hb dX12_isLetter_14 (by decide) ?_
    refine lv_icmp_lt (tgt := 34) hx hb dX12_isLetter_16 (by decide) (fun c11 => ?_) (fun c11 => ?_)
    · have c11 : x9.toInt < (97 : Int) := wk_lt.mp c11
      replace hM := hM.pos c11
      exact J34 x6 s.heap locs ls  (show 0 ≤ a1.toInt from ra1) (show a1.toInt ≤ 800 from ta1) (show 0 ≤ x6.toInt from rx6) (show x6.toInt ≤ 400 from tx6)  hw  c7 hM (lv_sub hl [0, 1] rfl)
    · have c11 : (97 : Int) ≤ x9.toInt := wk_ltF c11
      replace hM := hM.neg (Int.not_lt.mpr c11)
      refine lv_aload_n hx hb dX12_isLetter_19 rfl (lv_at hl 0 rfl) ?_
      refine tk_getA hC hK hw hT hinX12 kM_at0 (by decide) rfl 0 (by decide) (List.mem_cons_of_mem _ uw_6_14) rfl rfl dX12_isLetter_20 ?_
      refine lv_iload_n hx hb dX12_isLetter_23 rfl (lv_at hl 1 rfl) ?_
      refine tk_bald hC hK hw hT kM_at1 rfl rfl (show 0 ≤ a1.toInt from ra1) (show a1.toInt < 400 by omega) dX12_isLetter_24 (fun x12 c13 rx12 tx12 => ?_)
      have hox12 := c13
      have c13 : gi w0 1 (a1.toInt).toNat = x12 := (congrArg (gi w0 1) (congrArg Int.toNat (show a1.toInt = a1.toInt by omega))).trans c13
      refine wk_top x9 (c13.symm.trans c10) ?_
      replace hM := hM.rd ((sI_at hox12).trans (congrArg Int32.toInt (c13.symm.trans c10)))
      refine lv_bipush (v := 122) hx hb dX12_isLetter_25 (by decide) ?_
      refine lv_icmp_gt (tgt := 34) hx hb dX12_isLetter_27 (by decide) (fun c14 => ?_) (fun c14 => ?_)
      · have c14 : (122 : Int) < x9.toInt := wk_lt.mp c14
        replace hM := hM.pos c14
        exact J34 x6 s.heap locs ls  (show 0 ≤ a1.toInt from ra1) (show a1.toInt ≤ 800 from ta1) (show 0 ≤ x6.toInt from rx6) (show x6.toInt ≤ 400 from tx6)  hw  c7 hM (lv_sub hl [0, 1] rfl)
      · have c14 : x9.toInt ≤ (122 : Int) := wk_ltF c14
        replace hM := hM.neg (Int.not_lt.mpr c14)
        refine lv_iconst (v := 1) hx hb dX12_isLetter_30 (by decide) ?_
        refine lv_goto (tgt := 35) hx hb dX12_isLetter_31 (by decide) ?_
        exact tk_zret hC hr rfl hlocks hK ⟨rfl, hM.ret (by decide), (Or.inr ⟨rfl, (show a1.toInt ≤ 399 by omega), ⟨x6, c7, (show 1 ≤ x6.toInt by omega), (show x6.toInt ≤ 400 from tx6)⟩⟩)⟩ hw dX12_isLetter_35
abbrev Pz_X12_isWord_1 (ad : Nat → Nat) (cy : Nat → ClassId) (B : Int) (qr : Nat) (s1 : Int)  (w0 : va_W) : Int32 → va_W → Prop := fun r u => TW ksM ad cy B qr 12 u ∧ FE ksM [(12, 14, 14)] w0 u ∧ Ev (fun n => m_X12_isWord n 0 27988559963452019 (sI w0)) (r.toInt, sI u) ∧ ((r = 0 ∧ (∃ y : Int32, gi u 0 1 = y ∧ 0 ≤ y.toInt ∧ y.toInt ≤ 400) ∧ (((gi u 0 14).toInt = (gi w0 0 14).toInt ∨ (gi w0 1 ((gi w0 0 14).toInt).toNat).toInt = 32))) ∨ (r = 1 ∧ (∃ y : Int32, gi u 0 1 = y ∧ 0 ≤ y.toInt ∧ y.toInt ≤ 400) ∧ (((gi u 0 14).toInt = (gi w0 0 14).toInt ∨ (gi w0 1 ((gi w0 0 14).toInt).toNat).toInt = 32))))
set_option maxHeartbeats 4000000 in
set_option maxRecDepth 100000 in
theorem kz_X12_isWord_1 (l : Launch) (adK adV : Nat → Nat) (dC : Nat → ClassId) (dI : Nat → Nat → Nat) (cy : Nat → ClassId) (ad : Nat → Nat) (B : Int) (hB0 : 100000 ≤ B) (hB1 : B ≤ 1073741824) (qr : Nat) (s1 : Int)   (w0 : va_W) (sz : Nat) (hT : TW ksM ad cy B qr 12 w0) (f0_ : Int32) (cf0_ : gi w0 0 14 = f0_) (rf0_ : 0 ≤ f0_.toInt) (tf0_ : f0_.toInt ≤ 400) : Met l yX12_isWord (wu yX12_isWord cX12_isWord 6 (some .boolean)) ({ frames := 2, cells := 0, slots := 0, locals := 33 }) (va_Pc [.ref (ad 0), .long 27988559963452019] (wpreS adK adV dC dI cy sz w0)) (va_Qi (Pz_X12_isWord_1 ad cy B qr s1  w0) (fun u : va_W => wpost dC dI cy (va_A w0 sz) u) (va_A w0 sz)) 0 0 (va_A w0 sz) := by
  refine Met.ofW (cc := cX12_isWord) (maxL := 6) (ret := (some .boolean)) (by decide) rfl ?_
  intro p e s m args below meth c s₁ Bk hml hv
  obtain ⟨rfl, ⟨hsz, hP, hK, hD0⟩, hE, hSR⟩ := hv
  have hx := Bk.exec
  have hb := Bk.bytes
  have hr := Bk.returns
  have hlocks := Bk.notSynchronized
  have hC : CallFix p m c cX12_isWord 6 s _ (wu yX12_isWord cX12_isWord 6 (some .boolean)) RX12 := ⟨hx, hb, hml, findClass_of_methodNamed Bk.named, atoms_spec (ws := (wu yX12_isWord cX12_isWord 6 (some .boolean))) Bk.pre⟩
  subst hsz
  have hD := hD0.self (sz := s.heap.size)
  generalize hAe : va_A w0 s.heap.size = A at hD hE ⊢
  have hA : ∀ q : Nat, s.heap.size ≤ q → A q := fun q h => by rw [← hAe]; exact Or.inr h
  have hw : Wd dC dI A s.heap s.heap [] w0 := ⟨hP, hD, va_S.rf⟩
  have hF : FE ksM [(12, 14, 14)] w0 w0 := FE.rf
  have hl := lv_entry ([.ref (ad 0), .long 27988559963452019]) (n := 6) (Nat.le_of_ble_eq_true rfl)
  rw [lg_entry_eq]
  generalize (lg_sl ([.ref (ad 0), .long 27988559963452019]) ++ List.replicate (6 - (lg_sl ([.ref (ad 0), .long 27988559963452019])).length) Slot.unset).toArray = ls at hl ⊢
  have hl : lv_has ls 6 [(0, .ref (ad 0)), (1, .long 27988559963452019)] := hl
  generalize hloc : ([] : List Loc) = locs at hw ⊢
  have hinX12 : ∀ w ∈ u_ws RX12 TX12 42, w ∈ (wu yX12_isWord cX12_isWord 6 (some .boolean)) := fun _ h => List.mem_cons_of_mem _ (up_71 h)
  have J78 : ∀ (v78_3 : Int64) (v78_5 : Int32) (f78_0_1 : Int32) (f78_0_14 : Int32) (H : Heap) (locs : List Loc) (ls : Array Slot) (w1 : va_W), 0 ≤ v78_5.toInt → v78_5.toInt ≤ 400 → 0 ≤ f78_0_1.toInt → f78_0_1.toInt ≤ 400 → 0 ≤ f78_0_14.toInt → f78_0_14.toInt ≤ 400 → ((f78_0_14.toInt = f0_.toInt ∨ (gi w0 1 (f0_.toInt).toNat).toInt = 32)) → Wd dC dI A s.heap H locs w1 → TW ksM ad cy B qr 12 w1 → FE ksM [(12, 14, 14)] w0 w1 → gi w1 0 1 = f78_0_1 → gi w1 0 14 = f78_0_14 → TT (fun n => m_X12_isWord n 0 27988559963452019 (sI w0)) (fun n => b_X12_isWord_78 (j_X12_isWord 0 n) n 0 (sI w1)) → lv_has ls 6 [(0, .ref (ad 0)), (1, .long 27988559963452019), (3, .long v78_3), (5, .int v78_5)] → W p l e ({ frames := 2, cells := 0, slots := 0, locals := 33 }) s m (List.toArray [.ref (ad 0), .long 27988559963452019]) below meth c H locs 0 0 (MQ below (va_Qi (Pz_X12_isWord_1 ad cy B qr s1  w0) (fun u : va_W => wpost dC dI cy A u) A) (List.toArray [.ref (ad 0), .long 27988559963452019]) s 0 0 A) (F0 m 78 ls []) := by
    intro v78_3 v78_5 f78_0_1 f78_0_14 H locs ls w1 r2 t3 r4 t5 r7 t8 hcr78_0 hw hT hF c6 c9 hM hl
    refine lv_iconst (v := 0) hx hb dX12_isWord_78 (by decide) ?_
    exact tk_zret hC hr rfl hlocks hK ⟨hT, hF, hM.ret (by decide), (Or.inl ⟨rfl, ⟨f78_0_1, c6, (show 0 ≤ f78_0_1.toInt from r4), (show f78_0_1.toInt ≤ 400 from t5)⟩, (by simp only [cf0_, c9]; omega)⟩)⟩ hw dX12_isWord_79
  have L10 : ∀ (n10 : Nat) (v10_3 : Int64) (v10_5 : Int32) (f10_0_1 : Int32) (f10_0_14 : Int32) (H : Heap) (locs : List Loc) (ls : Array Slot) (w10 : va_W), 0 ≤ v10_5.toInt → v10_5.toInt ≤ 400 → 0 ≤ f10_0_1.toInt → f10_0_1.toInt ≤ 400 → 0 ≤ f10_0_14.toInt → f10_0_14.toInt ≤ 400 → ((f10_0_14.toInt = f0_.toInt ∨ (gi w0 1 (f0_.toInt).toNat).toInt = 32)) → (400 - v10_5.toInt).toNat < n10 → Wd dC dI A s.heap H locs w10 → TW ksM ad cy B qr 12 w10 → FE ksM [(12, 14, 14)] w0 w10 → gi w10 0 1 = f10_0_1 → gi w10 0 14 = f10_0_14 → TT (fun n => m_X12_isWord n 0 27988559963452019 (sI w0)) (fun n => j_X12_isWord 0 n 10 [(27988559963452019 : Int), v10_3.toInt, v10_5.toInt] (sI w10)) → lv_has ls 6 [(0, .ref (ad 0)), (1, .long 27988559963452019), (3, .long v10_3), (5, .int v10_5)] → W p l e ({ frames := 2, cells := 0, slots := 0, locals := 33 }) s m (List.toArray [.ref (ad 0), .long 27988559963452019]) below meth c H locs 0 0 (MQ below (va_Qi (Pz_X12_isWord_1 ad cy B qr s1  w0) (fun u : va_W => wpost dC dI cy A u) A) (List.toArray [.ref (ad 0), .long 27988559963452019]) s 0 0 A) (F0 m 10 ls []) := by
    intro n10
    induction n10 with
    | zero => intro v10_3 v10_5 f10_0_1 f10_0_14 H locs ls w10 r11 t12 r13 t14 r16 t17 hcr10_0 hm10 hw hT hF c15 c18 hM hl; omega
    | succ n10 ih10 =>
      intro v10_3 v10_5 f10_0_1 f10_0_14 H locs ls w10 r11 t12 r13 t14 r16 t17 hcr10_0 hm10 hw hT hF c15 c18 hM hl
      have J50 : ∀ (v50_3 : Int64) (H : Heap) (locs : List Loc) (ls : Array Slot) (w19 : va_W), 0 ≤ v10_5.toInt → v10_5.toInt ≤ 399 → 1 ≤ f10_0_1.toInt → f10_0_1.toInt ≤ 400 → 0 ≤ f10_0_14.toInt → f10_0_14.toInt ≤ 399 → ((f10_0_14.toInt = f0_.toInt ∨ (gi w0 1 (f0_.toInt).toNat).toInt = 32)) → Wd dC dI A s.heap H locs w19 → TW ksM ad cy B qr 12 w19 → FE ksM [(12, 14, 14)] w0 w19 → gi w19 0 1 = f10_0_1 → gi w19 0 14 = f10_0_14 → TT (fun n => m_X12_isWord n 0 27988559963452019 (sI w0)) (fun n => b_X12_isWord_50 (j_X12_isWord 0 n) n 0 (27988559963452019 : Int) (v50_3.toInt) (v10_5.toInt) (sI w19)) → lv_has ls 6 [(0, .ref (ad 0)), (1, .long 27988559963452019), (3, .long v50_3), (5, .int v10_5)] → W p l e ({ frames := 2, cells := 0, slots := 0, locals := 33 }) s m (List.toArray [.ref (ad 0), .long 27988559963452019]) below meth c H locs 0 0 (MQ below (va_Qi (Pz_X12_isWord_1 ad cy B qr s1  w0) (fun u : va_W => wpost dC dI cy A u) A) (List.toArray [.ref (ad 0), .long 27988559963452019]) s 0 0 A) (F0 m 50 ls []) := by
        intro v50_3 H locs ls w19 r20 t21 r22 t23 r25 t26 hcr50_0 hw hT hF c24 c27 hM hl
        obtain ⟨x28, ex28⟩ : ∃ y : Int32, y = v10_5 + Int32.ofInt 1 := ⟨_, rfl⟩
        have erx28 := ex28
        refine lv_iinc (v := x28) (lv' := [(5, .int x28), (0, .ref (ad 0)), (1, .long 27988559963452019), (3, .long v50_3)]) hx hb dX12_isWord_50 hl (k := 3) rfl ex28.symm (by decide) rfl (fun ls hl => ?_)
        have ex28 : x28.toInt = v10_5.toInt + 1 := by rw [ex28]; exact wk_add (y := 1) (show -2147483648 ≤ v10_5.toInt + 1 by omega) (show v10_5.toInt + 1 ≤ 2147483647 by omega)
        replace hM := hM.lt ex28.symm
        refine lv_goto (tgt := 10) hx hb dX12_isWord_53 (by decide) ?_
        exact ih10 v50_3 x28 f10_0_1 f10_0_14 H locs ls w19 (show 0 ≤ x28.toInt by omega) (show x28.toInt ≤ 400 by omega) (show 0 ≤ f10_0_1.toInt from r13) (show f10_0_1.toInt ≤ 400 from t23) (show 0 ≤ f10_0_14.toInt from r25) (show f10_0_14.toInt ≤ 400 from t17) (show (f10_0_14.toInt = f0_.toInt ∨ (gi w0 1 (f0_.toInt).toNat).toInt = 32) by first | omega | assumption | (left; omega) | (left; decide) | (right; assumption)) (show (400 - x28.toInt).toNat < n10 by omega) hw hT hF c24 c27 hM (lv_sub hl [1, 2, 3, 0] rfl)
      replace hM := hM.suc (fun _ => e_X12_isWord_10)
      refine lv_aload_n hx hb dX12_isWord_10 rfl (lv_at hl 0 rfl) ?_
      refine lv_aload_n hx hb dX12_isWord_11 rfl (lv_at hl 0 rfl) ?_
      refine tk_geti hC hK hw hT hinX12 kM_at0 (by decide) rfl 14 (by decide) (List.mem_cons_of_mem _ uw_19_18) rfl rfl dX12_isWord_12 (fun x29 c30 rx29 tx29 => ?_)
      refine wk_top f10_0_14 (c30.symm.trans c18) ?_
      replace hM := hM.rd (sI_at c18)
      refine lv_iload hx hb dX12_isWord_15 (lv_at hl 3 rfl) ?_
      refine lv_iadd hx hb dX12_isWord_17 ?_
      refine lv_topi (fun x31 ex31 => ?_)
      have ezx31 := ex31
      have ex31 : x31.toInt = f10_0_14.toInt + v10_5.toInt := by rw [ex31]; exact wk_add (show (-2147483648) ≤ f10_0_14.toInt + v10_5.toInt by omega) (show f10_0_14.toInt + v10_5.toInt ≤ 2147483647 by omega)
      replace hM := hM.lt ex31.symm
      refine tk_Vi hC hK hw hT hA hE hSR kM_at0 (by decide) rfl (kz_X12_isLetter_1 l adK adV dC dI cy ad B (by omega) (by omega) qr s1   x31 (show 0 ≤ x31.toInt by omega) (show x31.toInt ≤ 800 by omega) w10 H.size hT ) (cwV 1 hC.2.2.2.2 uV_RX12_101 rfl rfl rfl (by decide +kernel) ⟨Nat.le_of_ble_eq_true rfl, Nat.le_of_ble_eq_true rfl⟩) rfl hl.1 rfl (Nat.le_of_ble_eq_true rfl) dX12_isWord_18 (fun r32 w34 H locs hp33 hw => ?_)
      obtain ⟨rfl, hv42, hg41⟩ := hp33
      rcases hg41 with ⟨rfl, ⟨x36, c37, rx36, tx36⟩⟩ | ⟨rfl, g38, ⟨x39, c40, rx39, tx39⟩⟩
      · replace hM := hM.call (r' := 0) hv42 (by decide)
        have ex36 : x36.toInt = f10_0_1.toInt := by rw [← c15.symm.trans c37]
        refine lv_if_eq (tgt := 56) hx hb dX12_isWord_21 (by decide) (fun _ => ?_) (fun c => absurd (by decide) c)
        replace hM := hM.pos (by decide)
        refine lv_iload hx hb dX12_isWord_56 (lv_at hl 3 rfl) ?_
        refine lv_if_le (tgt := 78) hx hb dX12_isWord_58 (by decide) (fun c43 => ?_) (fun c43 => ?_)
        · have c43 : v10_5.toInt ≤ (0 : Int) := wk_le.mp c43
          replace hM := hM.pos c43
          exact J78 v10_3 v10_5 f10_0_1 f10_0_14 H locs ls w10 (show 0 ≤ v10_5.toInt from r11) (show v10_5.toInt ≤ 400 from t12) (show 0 ≤ f10_0_1.toInt from r13) (show f10_0_1.toInt ≤ 400 from t14) (show 0 ≤ f10_0_14.toInt from r16) (show f10_0_14.toInt ≤ 400 from t17) (show (f10_0_14.toInt = f0_.toInt ∨ (gi w0 1 (f0_.toInt).toNat).toInt = 32) by first | omega | assumption | (left; omega) | (left; decide) | (right; assumption))  hw hT hF c15 c18 hM (lv_sub hl [0, 1, 2, 3] rfl)
        · have c43 : (0 : Int) < v10_5.toInt := wk_leF c43
          replace hM := hM.neg (Int.not_le.mpr c43)
          refine lv_iload hx hb dX12_isWord_61 (lv_at hl 3 rfl) ?_
          refine lv_bipush (v := 8) hx hb dX12_isWord_63 (by decide) ?_
          refine lv_icmp_ge (tgt := 78) hx hb dX12_isWord_65 (by decide) (fun c44 => ?_) (fun c44 => ?_)
          · have c44 : (8 : Int) ≤ v10_5.toInt := wk_le.mp c44
            replace hM := hM.pos c44
            exact J78 v10_3 v10_5 f10_0_1 f10_0_14 H locs ls w10 (show 0 ≤ v10_5.toInt from r11) (show v10_5.toInt ≤ 400 from t12) (show 0 ≤ f10_0_1.toInt from r13) (show f10_0_1.toInt ≤ 400 from t14) (show 0 ≤ f10_0_14.toInt from r16) (show f10_0_14.toInt ≤ 400 from t17) (show (f10_0_14.toInt = f0_.toInt ∨ (gi w0 1 (f0_.toInt).toNat).toInt = 32) by first | omega | assumption | (left; omega) | (left; decide) | (right; assumption))  hw hT hF c15 c18 hM (lv_sub hl [0, 1, 2, 3] rfl)
          · have c44 : v10_5.toInt < (8 : Int) := wk_leF c44
            replace hM := hM.neg (Int.not_le.mpr c44)
            refine lv_lload_n hx hb dX12_isWord_68 rfl (lv_at hl 2 rfl) ?_
            refine lv_lload_n hx hb dX12_isWord_69 rfl (lv_at hl 1 rfl) ?_
            refine W.lcmp hx hb dX12_isWord_70 ?_
            refine lv_if_ne (tgt := 78) hx hb dX12_isWord_71 (by decide) (fun c45 => ?_) (fun c45 => ?_)
            · have c45 : ¬ v10_3.toInt = (27988559963452019 : Int) := wk_ceF c45
              replace hM := hM.pos c45
              exact J78 v10_3 v10_5 f10_0_1 f10_0_14 H locs ls w10 (show 0 ≤ v10_5.toInt from r11) (show v10_5.toInt ≤ 400 from t12) (show 0 ≤ f10_0_1.toInt from r13) (show f10_0_1.toInt ≤ 400 from t14) (show 0 ≤ f10_0_14.toInt from r16) (show f10_0_14.toInt ≤ 400 from t17) (show (f10_0_14.toInt = f0_.toInt ∨ (gi w0 1 (f0_.toInt).toNat).toInt = 32) by first | omega | assumption | (left; omega) | (left; decide) | (right; assumption))  hw hT hF c15 c18 hM (lv_sub hl [0, 1, 2, 3] rfl)
            · have c45 : v10_3.toInt = (27988559963452019 : Int) := wk_ceT c45
              replace hM := hM.neg (fun q => q c45)
              refine lv_iconst (v := 1) hx hb dX12_isWord_74 (by decide) ?_
              refine lv_goto (tgt := 79) hx hb dX12_isWord_75 (by decide) ?_
              exact tk_zret hC hr rfl hlocks hK ⟨hT, hF, hM.ret (by decide), (Or.inr ⟨rfl, ⟨f10_0_1, c15, (show 0 ≤ f10_0_1.toInt from r13), (show f10_0_1.toInt ≤ 400 from t14)⟩, (by simp only [cf0_, c18]; omega)⟩)⟩ hw dX12_isWord_79
      · replace hM := hM.call (r' := 1) hv42 (by decide)
        have ex39 : x39.toInt = f10_0_1.toInt := by rw [← c15.symm.trans c40]
        refine lv_if_eq (tgt := 56) hx hb dX12_isWord_21 (by decide) (fun c => absurd c (by decide)) (fun _ => ?_)
        replace hM := hM.neg (by decide)
        refine lv_iload hx hb dX12_isWord_24 (lv_at hl 3 rfl) ?_
        refine lv_bipush (v := 8) hx hb dX12_isWord_26 (by decide) ?_
        refine lv_icmp_ge (tgt := 50) hx hb dX12_isWord_28 (by decide) (fun c46 => ?_) (fun c46 => ?_)
        · have c46 : (8 : Int) ≤ v10_5.toInt := wk_le.mp c46
          replace hM := hM.pos c46
          exact J50 v10_3 H locs ls w10 (show 0 ≤ v10_5.toInt from r11) (show v10_5.toInt ≤ 399 by omega) (show 1 ≤ f10_0_1.toInt by omega) (show f10_0_1.toInt ≤ 400 from t14) (show 0 ≤ f10_0_14.toInt from r16) (show f10_0_14.toInt ≤ 399 by omega) (show (f10_0_14.toInt = f0_.toInt ∨ (gi w0 1 (f0_.toInt).toNat).toInt = 32) by first | omega | assumption | (left; omega) | (left; decide) | (right; assumption))  hw hT hF c15 c18 hM (lv_sub hl [0, 1, 2, 3] rfl)
        · have c46 : v10_5.toInt < (8 : Int) := wk_leF c46
          replace hM := hM.neg (Int.not_le.mpr c46)
          refine lv_lload_n hx hb dX12_isWord_31 rfl (lv_at hl 2 rfl) ?_
          refine lv_bipush (v := 8) hx hb dX12_isWord_32 (by decide) ?_
          refine lv_lshl hx hb dX12_isWord_34 rfl ?_
          refine lv_topl (fun x47 ex47 => ?_)
          replace hM := hM.lt (mShlL_e ex47 rfl (by decide))
          refine lv_aload_n hx hb dX12_isWord_35 rfl (lv_at hl 0 rfl) ?_
          refine tk_getA hC hK hw hT hinX12 kM_at0 (by decide) rfl 0 (by decide) (List.mem_cons_of_mem _ uw_6_14) rfl rfl dX12_isWord_36 ?_
          refine lv_aload_n hx hb dX12_isWord_39 rfl (lv_at hl 0 rfl) ?_
          refine tk_geti hC hK hw hT hinX12 kM_at0 (by decide) rfl 14 (by decide) (List.mem_cons_of_mem _ uw_19_18) rfl rfl dX12_isWord_40 (fun x48 c49 rx48 tx48 => ?_)
          refine wk_top f10_0_14 (c49.symm.trans c18) ?_
          replace hM := hM.rd (sI_at c18)
          refine lv_iload hx hb dX12_isWord_43 (lv_at hl 3 rfl) ?_
          refine lv_iadd hx hb dX12_isWord_45 ?_
          refine lv_topi (fun x50 ex50 => ?_)
          have ezx50 := ex50
          have ex50 : x50.toInt = f10_0_14.toInt + v10_5.toInt := by rw [ex50]; exact wk_add (show (-2147483648) ≤ f10_0_14.toInt + v10_5.toInt by omega) (show f10_0_14.toInt + v10_5.toInt ≤ 2147483647 by omega)
          replace hM := hM.lt ex50.symm
          refine tk_bald hC hK hw hT kM_at1 rfl rfl (show 0 ≤ x50.toInt by omega) (show x50.toInt < 400 by omega) dX12_isWord_46 (fun x51 c52 rx51 tx51 => ?_)
          have hox51 := c52
          replace hM := hM.rd (sI_at hox51)
          have c52 : gi w10 1 (1 * f10_0_14.toInt + 1 * v10_5.toInt + 0).toNat = x51 := (congrArg (gi w10 1) (congrArg Int.toNat (show 1 * f10_0_14.toInt + 1 * v10_5.toInt + 0 = x50.toInt by omega))).trans c52
          refine lv_i2l hx hb dX12_isWord_47 rfl ?_
          refine lv_topl (fun x53 ex53 => ?_)
          have ex53 : x53.toInt = x51.toInt := by rw [ex53]; exact wk_i2l _
          have bx53 := wk_i32 x51
          replace hM := hM.lt ex53.symm
          refine lv_lor hx hb dX12_isWord_48 ?_
          refine lv_topl (fun x54 ex54 => ?_)
          have ezx54 := ex54
          replace hM := hM.lt (o64_e (f := fun x y => x ||| y) ezx54 rfl rfl)
          refine lv_lstore_n (lv' := [(3, .long x54), (0, .ref (ad 0)), (1, .long 27988559963452019), (5, .int v10_5)]) hx hb dX12_isWord_49 rfl hl (by decide) rfl (fun ls hl => ?_)
          exact J50 x54 H locs ls w10 (show 0 ≤ v10_5.toInt from r11) (show v10_5.toInt ≤ 399 by omega) (show 1 ≤ f10_0_1.toInt by omega) (show f10_0_1.toInt ≤ 400 from t14) (show 0 ≤ f10_0_14.toInt from r16) (show f10_0_14.toInt ≤ 399 by omega) (show (f10_0_14.toInt = f0_.toInt ∨ (gi w0 1 (f0_.toInt).toNat).toInt = 32) by first | omega | assumption | (left; omega) | (left; decide) | (right; assumption) | (right; rw [c52]; omega) | (right; rw [c52]; decide))  hw hT hF c15 c18 hM (lv_sub hl [1, 2, 0, 3] rfl)
  have hM : TT (fun n => m_X12_isWord n 0 27988559963452019 (sI w0)) (fun n => m_X12_isWord n 0 27988559963452019 (sI w0)) := TT.rf
  refine lv_aload_n hx hb dX12_isWord_0 rfl (lv_at hl 0 rfl) ?_
  refine tk_Vi hC hK hw hT hA hE hSR kM_at0 (by decide) rfl (kz_X12_see_1 l adK adV dC dI cy ad B (by omega) (by omega) qr s1    w0 s.heap.size hT f0_ cf0_ (show 0 ≤ f0_.toInt from rf0_) (show f0_.toInt ≤ 400 from tf0_)) (cwV 0 hC.2.2.2.2 uV_RX12_97 rfl rfl rfl (by decide +kernel) ⟨Nat.le_of_ble_eq_true rfl, Nat.le_of_ble_eq_true rfl⟩) rfl hl.1 rfl (Nat.le_of_ble_eq_true rfl) dX12_isWord_1 (fun r55 w57 H locs hp56 hw => ?_)
  obtain ⟨hT, k58, hv76, hg75⟩ := hp56
  have hF := hF.tr k58 (by decide)
  rcases hg75 with ⟨g59, g60, ⟨x61, c62, rx61, tx61⟩, ⟨x63, c64, rx63, tx63⟩, g65, g66⟩ | ⟨rfl, ⟨x67, c68, rx67, tx67⟩, ⟨x69, c70, rx69, tx69⟩, g71⟩ | ⟨rfl, ⟨x72, c73, rx72, tx72⟩, g74⟩
  · replace hM := hM.call hv76 rfl
    have g65 : (gi w57 1 (x63.toInt).toNat).toInt ≠ 32 := by have q := g65; simp only [c64] at q; omega
    have g66 : (x63.toInt = f0_.toInt ∨ (gi w0 1 (f0_.toInt).toNat).toInt = 32) := by have q := g66; simp only [cf0_, c64] at q; omega
    refine lv_pop hx hb dX12_isWord_4 rfl ?_
    refine lv_lconst (v := 0) hx hb dX12_isWord_5 (by decide) ?_
    refine lv_lstore_n (lv' := [(3, .long 0), (0, .ref (ad 0)), (1, .long 27988559963452019)]) hx hb dX12_isWord_6 rfl hl (by decide) rfl (fun ls hl => ?_)
    refine lv_iconst (v := 0) hx hb dX12_isWord_7 (by decide) ?_
    refine lv_istore (lv' := [(5, .int 0), (3, .long 0), (0, .ref (ad 0)), (1, .long 27988559963452019)]) hx hb dX12_isWord_8 hl (by decide) rfl (fun ls hl => ?_)
    exact L10 ((400 - (0 : Int)).toNat + 1) 0 0 x61 x63 H locs ls w57 (by decide) (by decide) (show 0 ≤ x61.toInt by omega) (show x61.toInt ≤ 400 by omega) (show 0 ≤ x63.toInt by omega) (show x63.toInt ≤ 400 by omega) (show (x63.toInt = f0_.toInt ∨ (gi w0 1 (f0_.toInt).toNat).toInt = 32) by first | omega | assumption | (left; omega) | (left; decide) | (right; assumption)) (Nat.lt_succ_self _) hw hT hF c62 c64 hM (lv_sub hl [2, 3, 1, 0] rfl)
  · replace hM := hM.call (r' := (-1)) hv76 (by decide)
    have g71 : (x69.toInt = f0_.toInt ∨ (gi w0 1 (f0_.toInt).toNat).toInt = 32) := by have q := g71; simp only [cf0_, c70] at q; omega
    refine lv_pop hx hb dX12_isWord_4 rfl ?_
    refine lv_lconst (v := 0) hx hb dX12_isWord_5 (by decide) ?_
    refine lv_lstore_n (lv' := [(3, .long 0), (0, .ref (ad 0)), (1, .long 27988559963452019)]) hx hb dX12_isWord_6 rfl hl (by decide) rfl (fun ls hl => ?_)
    refine lv_iconst (v := 0) hx hb dX12_isWord_7 (by decide) ?_
    refine lv_istore (lv' := [(5, .int 0), (3, .long 0), (0, .ref (ad 0)), (1, .long 27988559963452019)]) hx hb dX12_isWord_8 hl (by decide) rfl (fun ls hl => ?_)
    exact L10 ((400 - (0 : Int)).toNat + 1) 0 0 x67 x69 H locs ls w57 (by decide) (by decide) (show 0 ≤ x67.toInt by omega) (show x67.toInt ≤ 400 by omega) (show 0 ≤ x69.toInt by omega) (show x69.toInt ≤ 400 by omega) (show (x69.toInt = f0_.toInt ∨ (gi w0 1 (f0_.toInt).toNat).toInt = 32) by first | omega | assumption | (left; omega) | (left; decide) | (right; assumption)) (Nat.lt_succ_self _) hw hT hF c68 c70 hM (lv_sub hl [2, 3, 1, 0] rfl)
  · replace hM := hM.call (r' := (-1)) hv76 (by decide)
    obtain ⟨x77, c78, rx77, tx77⟩ := hT.rdi (lo := 0) (hi := 400) (k := 14) kM_at0 (by decide) rfl
    have g74 : (x77.toInt = f0_.toInt ∨ (gi w0 1 (f0_.toInt).toNat).toInt = 32) := by have q := g74; simp only [cf0_, c78] at q; omega
    refine lv_pop hx hb dX12_isWord_4 rfl ?_
    refine lv_lconst (v := 0) hx hb dX12_isWord_5 (by decide) ?_
    refine lv_lstore_n (lv' := [(3, .long 0), (0, .ref (ad 0)), (1, .long 27988559963452019)]) hx hb dX12_isWord_6 rfl hl (by decide) rfl (fun ls hl => ?_)
    refine lv_iconst (v := 0) hx hb dX12_isWord_7 (by decide) ?_
    refine lv_istore (lv' := [(5, .int 0), (3, .long 0), (0, .ref (ad 0)), (1, .long 27988559963452019)]) hx hb dX12_isWord_8 hl (by decide) rfl (fun ls hl => ?_)
    exact L10 ((400 - (0 : Int)).toNat + 1) 0 0 x72 x77 H locs ls w57 (by decide) (by decide) (show 0 ≤ x72.toInt by omega) (show x72.toInt ≤ 400 by omega) (show 0 ≤ x77.toInt by omega) (show x77.toInt ≤ 400 by omega) (show (x77.toInt = f0_.toInt ∨ (gi w0 1 (f0_.toInt).toNat).toInt = 32) by first | omega | assumption | (left; omega) | (left; decide) | (right; assumption)) (Nat.lt_succ_self _) hw hT hF c73 c78 hM (lv_sub hl [2, 3, 1, 0] rfl)
abbrev Pz_X12_isWord_2 (ad : Nat → Nat) (cy : Nat → ClassId) (B : Int) (qr : Nat) (s1 : Int)  (w0 : va_W) : Int32 → va_W → Prop := fun r u => TW ksM ad cy B qr 12 u ∧ FE ksM [(12, 14, 14)] w0 u ∧ Ev (fun n => m_X12_isWord n 0 126943972648308 (sI w0)) (r.toInt, sI u) ∧ ((r = 0 ∧ (∃ y : Int32, gi u 0 1 = y ∧ 0 ≤ y.toInt ∧ y.toInt ≤ 400) ∧ (((gi u 0 14).toInt = (gi w0 0 14).toInt ∨ (gi w0 1 ((gi w0 0 14).toInt).toNat).toInt = 32))) ∨ (r = 1 ∧ (∃ y : Int32, gi u 0 1 = y ∧ 0 ≤ y.toInt ∧ y.toInt ≤ 400) ∧ (((gi u 0 14).toInt = (gi w0 0 14).toInt ∨ (gi w0 1 ((gi w0 0 14).toInt).toNat).toInt = 32))))
set_option maxHeartbeats 4000000 in
set_option maxRecDepth 100000 in
theorem kz_X12_isWord_2 (l : Launch) (adK adV : Nat → Nat) (dC : Nat → ClassId) (dI : Nat → Nat → Nat) (cy : Nat → ClassId) (ad : Nat → Nat) (B : Int) (hB0 : 100000 ≤ B) (hB1 : B ≤ 1073741824) (qr : Nat) (s1 : Int)   (w0 : va_W) (sz : Nat) (hT : TW ksM ad cy B qr 12 w0) (f0_ : Int32) (cf0_ : gi w0 0 14 = f0_) (rf0_ : 0 ≤ f0_.toInt) (tf0_ : f0_.toInt ≤ 400) : Met l yX12_isWord (wu yX12_isWord cX12_isWord 6 (some .boolean)) ({ frames := 2, cells := 0, slots := 0, locals := 33 }) (va_Pc [.ref (ad 0), .long 126943972648308] (wpreS adK adV dC dI cy sz w0)) (va_Qi (Pz_X12_isWord_2 ad cy B qr s1  w0) (fun u : va_W => wpost dC dI cy (va_A w0 sz) u) (va_A w0 sz)) 0 0 (va_A w0 sz) := by
  refine Met.ofW (cc := cX12_isWord) (maxL := 6) (ret := (some .boolean)) (by decide) rfl ?_
  intro p e s m args below meth c s₁ Bk hml hv
  obtain ⟨rfl, ⟨hsz, hP, hK, hD0⟩, hE, hSR⟩ := hv
  have hx := Bk.exec
  have hb := Bk.bytes
  have hr := Bk.returns
  have hlocks := Bk.notSynchronized
  have hC : CallFix p m c cX12_isWord 6 s _ (wu yX12_isWord cX12_isWord 6 (some .boolean)) RX12 := ⟨hx, hb, hml, findClass_of_methodNamed Bk.named, atoms_spec (ws := (wu yX12_isWord cX12_isWord 6 (some .boolean))) Bk.pre⟩
  subst hsz
  have hD := hD0.self (sz := s.heap.size)
  generalize hAe : va_A w0 s.heap.size = A at hD hE ⊢
  have hA : ∀ q : Nat, s.heap.size ≤ q → A q := fun q h => by rw [← hAe]; exact Or.inr h
  have hw : Wd dC dI A s.heap s.heap [] w0 := ⟨hP, hD, va_S.rf⟩
  have hF : FE ksM [(12, 14, 14)] w0 w0 := FE.rf
  have hl := lv_entry ([.ref (ad 0), .long 126943972648308]) (n := 6) (Nat.le_of_ble_eq_true rfl)
  rw [lg_entry_eq]
  generalize (lg_sl ([.ref (ad 0), .long 126943972648308]) ++ List.replicate (6 - (lg_sl ([.ref (ad 0), .long 126943972648308])).length) Slot.unset).toArray = ls at hl ⊢
  have hl : lv_has ls 6 [(0, .ref (ad 0)), (1, .long 126943972648308)] := hl
  generalize hloc : ([] : List Loc) = locs at hw ⊢
  have hinX12 : ∀ w ∈ u_ws RX12 TX12 42, w ∈ (wu yX12_isWord cX12_isWord 6 (some .boolean)) := fun _ h => List.mem_cons_of_mem _ (up_71 h)
  have J78 : ∀ (v78_3 : Int64) (v78_5 : Int32) (f78_0_1 : Int32) (f78_0_14 : Int32) (H : Heap) (locs : List Loc) (ls : Array Slot) (w1 : va_W), 0 ≤ v78_5.toInt → v78_5.toInt ≤ 400 → 0 ≤ f78_0_1.toInt → f78_0_1.toInt ≤ 400 → 0 ≤ f78_0_14.toInt → f78_0_14.toInt ≤ 400 → ((f78_0_14.toInt = f0_.toInt ∨ (gi w0 1 (f0_.toInt).toNat).toInt = 32)) → Wd dC dI A s.heap H locs w1 → TW ksM ad cy B qr 12 w1 → FE ksM [(12, 14, 14)] w0 w1 → gi w1 0 1 = f78_0_1 → gi w1 0 14 = f78_0_14 → TT (fun n => m_X12_isWord n 0 126943972648308 (sI w0)) (fun n => b_X12_isWord_78 (j_X12_isWord 0 n) n 0 (sI w1)) → lv_has ls 6 [(0, .ref (ad 0)), (1, .long 126943972648308), (3, .long v78_3), (5, .int v78_5)] → W p l e ({ frames := 2, cells := 0, slots := 0, locals := 33 }) s m (List.toArray [.ref (ad 0), .long 126943972648308]) below meth c H locs 0 0 (MQ below (va_Qi (Pz_X12_isWord_2 ad cy B qr s1  w0) (fun u : va_W => wpost dC dI cy A u) A) (List.toArray [.ref (ad 0), .long 126943972648308]) s 0 0 A) (F0 m 78 ls []) := by
    intro v78_3 v78_5 f78_0_1 f78_0_14 H locs ls w1 r2 t3 r4 t5 r7 t8 hcr78_0 hw hT hF c6 c9 hM hl
    refine lv_iconst (v := 0) hx hb dX12_isWord_78 (by decide) ?_
    exact tk_zret hC hr rfl hlocks hK ⟨hT, hF, hM.ret (by decide), (Or.inl ⟨rfl, ⟨f78_0_1, c6, (show 0 ≤ f78_0_1.toInt from r4), (show f78_0_1.toInt ≤ 400 from t5)⟩, (by simp only [cf0_, c9]; omega)⟩)⟩ hw dX12_isWord_79
  have L10 : ∀ (n10 : Nat) (v10_3 : Int64) (v10_5 : Int32) (f10_0_1 : Int32) (f10_0_14 : Int32) (H : Heap) (locs : List Loc) (ls : Array Slot) (w10 : va_W), 0 ≤ v10_5.toInt → v10_5.toInt ≤ 400 → 0 ≤ f10_0_1.toInt → f10_0_1.toInt ≤ 400 → 0 ≤ f10_0_14.toInt → f10_0_14.toInt ≤ 400 → ((f10_0_14.toInt = f0_.toInt ∨ (gi w0 1 (f0_.toInt).toNat).toInt = 32)) → (400 - v10_5.toInt).toNat < n10 → Wd dC dI A s.heap H locs w10 → TW ksM ad cy B qr 12 w10 → FE ksM [(12, 14, 14)] w0 w10 → gi w10 0 1 = f10_0_1 → gi w10 0 14 = f10_0_14 → TT (fun n => m_X12_isWord n 0 126943972648308 (sI w0)) (fun n => j_X12_isWord 0 n 10 [(126943972648308 : Int), v10_3.toInt, v10_5.toInt] (sI w10)) → lv_has ls 6 [(0, .ref (ad 0)), (1, .long 126943972648308), (3, .long v10_3), (5, .int v10_5)] → W p l e ({ frames := 2, cells := 0, slots := 0, locals := 33 }) s m (List.toArray [.ref (ad 0), .long 126943972648308]) below meth c H locs 0 0 (MQ below (va_Qi (Pz_X12_isWord_2 ad cy B qr s1  w0) (fun u : va_W => wpost dC dI cy A u) A) (List.toArray [.ref (ad 0), .long 126943972648308]) s 0 0 A) (F0 m 10 ls []) := by
    intro n10
    induction n10 with
    | zero => intro v10_3 v10_5 f10_0_1 f10_0_14 H locs ls w10 r11 t12 r13 t14 r16 t17 hcr10_0 hm10 hw hT hF c15 c18 hM hl; omega
    | succ n10 ih10 =>
      intro v10_3 v10_5 f10_0_1 f10_0_14 H locs ls w10 r11 t12 r13 t14 r16 t17 hcr10_0 hm10 hw hT hF c15 c18 hM hl
      have J50 : ∀ (v50_3 : Int64) (H : Heap) (locs : List Loc) (ls : Array Slot) (w19 : va_W), 0 ≤ v10_5.toInt → v10_5.toInt ≤ 399 → 1 ≤ f10_0_1.toInt → f10_0_1.toInt ≤ 400 → 0 ≤ f10_0_14.toInt → f10_0_14.toInt ≤ 399 → ((f10_0_14.toInt = f0_.toInt ∨ (gi w0 1 (f0_.toInt).toNat).toInt = 32)) → Wd dC dI A s.heap H locs w19 → TW ksM ad cy B qr 12 w19 → FE ksM [(12, 14, 14)] w0 w19 → gi w19 0 1 = f10_0_1 → gi w19 0 14 = f10_0_14 → TT (fun n => m_X12_isWord n 0 126943972648308 (sI w0)) (fun n => b_X12_isWord_50 (j_X12_isWord 0 n) n 0 (126943972648308 : Int) (v50_3.toInt) (v10_5.toInt) (sI w19)) → lv_has ls 6 [(0, .ref (ad 0)), (1, .long 126943972648308), (3, .long v50_3), (5, .int v10_5)] → W p l e ({ frames := 2, cells := 0, slots := 0, locals := 33 }) s m (List.toArray [.ref (ad 0), .long 126943972648308]) below meth c H locs 0 0 (MQ below (va_Qi (Pz_X12_isWord_2 ad cy B qr s1  w0) (fun u : va_W => wpost dC dI cy A u) A) (List.toArray [.ref (ad 0), .long 126943972648308]) s 0 0 A) (F0 m 50 ls []) := by
        intro v50_3 H locs ls w19 r20 t21 r22 t23 r25 t26 hcr50_0 hw hT hF c24 c27 hM hl
        obtain ⟨x28, ex28⟩ : ∃ y : Int32, y = v10_5 + Int32.ofInt 1 := ⟨_, rfl⟩
        have erx28 := ex28
        refine lv_iinc (v := x28) (lv' := [(5, .int x28), (0, .ref (ad 0)), (1, .long 126943972648308), (3, .long v50_3)]) hx hb dX12_isWord_50 hl (k := 3) rfl ex28.symm (by decide) rfl (fun ls hl => ?_)
        have ex28 : x28.toInt = v10_5.toInt + 1 := by rw [ex28]; exact wk_add (y := 1) (show -2147483648 ≤ v10_5.toInt + 1 by omega) (show v10_5.toInt + 1 ≤ 2147483647 by omega)
        replace hM := hM.lt ex28.symm
        refine lv_goto (tgt := 10) hx hb dX12_isWord_53 (by decide) ?_
        exact ih10 v50_3 x28 f10_0_1 f10_0_14 H locs ls w19 (show 0 ≤ x28.toInt by omega) (show x28.toInt ≤ 400 by omega) (show 0 ≤ f10_0_1.toInt from r13) (show f10_0_1.toInt ≤ 400 from t23) (show 0 ≤ f10_0_14.toInt from r25) (show f10_0_14.toInt ≤ 400 from t17) (show (f10_0_14.toInt = f0_.toInt ∨ (gi w0 1 (f0_.toInt).toNat).toInt = 32) by first | omega | assumption | (left; omega) | (left; decide) | (right; assumption)) (show (400 - x28.toInt).toNat < n10 by omega) hw hT hF c24 c27 hM (lv_sub hl [1, 2, 3, 0] rfl)
      replace hM := hM.suc (fun _ => e_X12_isWord_10)
      refine lv_aload_n hx hb dX12_isWord_10 rfl (lv_at hl 0 rfl) ?_
      refine lv_aload_n hx hb dX12_isWord_11 rfl (lv_at hl 0 rfl) ?_
      refine tk_geti hC hK hw hT hinX12 kM_at0 (by decide) rfl 14 (by decide) (List.mem_cons_of_mem _ uw_19_18) rfl rfl dX12_isWord_12 (fun x29 c30 rx29 tx29 => ?_)
      refine wk_top f10_0_14 (c30.symm.trans c18) ?_
      replace hM := hM.rd (sI_at c18)
      refine lv_iload hx hb dX12_isWord_15 (lv_at hl 3 rfl) ?_
      refine lv_iadd hx hb dX12_isWord_17 ?_
      refine lv_topi (fun x31 ex31 => ?_)
      have ezx31 := ex31
      have ex31 : x31.toInt = f10_0_14.toInt + v10_5.toInt := by rw [ex31]; exact wk_add (show (-2147483648) ≤ f10_0_14.toInt + v10_5.toInt by omega) (show f10_0_14.toInt + v10_5.toInt ≤ 2147483647 by omega)
      replace hM := hM.lt ex31.symm
      refine tk_Vi hC hK hw hT hA hE hSR kM_at0 (by decide) rfl (kz_X12_isLetter_1 l adK adV dC dI cy ad B (by omega) (by omega) qr s1   x31 (show 0 ≤ x31.toInt by omega) (show x31.toInt ≤ 800 by omega) w10 H.size hT ) (cwV 1 hC.2.2.2.2 uV_RX12_101 rfl rfl rfl (by decide +kernel) ⟨Nat.le_of_ble_eq_true rfl, Nat.le_of_ble_eq_true rfl⟩) rfl hl.1 rfl (Nat.le_of_ble_eq_true rfl) dX12_isWord_18 (fun r32 w34 H locs hp33 hw => ?_)
      obtain ⟨rfl, hv42, hg41⟩ := hp33
      rcases hg41 with ⟨rfl, ⟨x36, c37, rx36, tx36⟩⟩ | ⟨rfl, g38, ⟨x39, c40, rx39, tx39⟩⟩
      · replace hM := hM.call (r' := 0) hv42 (by decide)
        have ex36 : x36.toInt = f10_0_1.toInt := by rw [← c15.symm.trans c37]
        refine lv_if_eq (tgt := 56) hx hb dX12_isWord_21 (by decide) (fun _ => ?_) (fun c => absurd (by decide) c)
        replace hM := hM.pos (by decide)
        refine lv_iload hx hb dX12_isWord_56 (lv_at hl 3 rfl) ?_
        refine lv_if_le (tgt := 78) hx hb dX12_isWord_58 (by decide) (fun c43 => ?_) (fun c43 => ?_)
        · have c43 : v10_5.toInt ≤ (0 : Int) := wk_le.mp c43
          replace hM := hM.pos c43
          exact J78 v10_3 v10_5 f10_0_1 f10_0_14 H locs ls w10 (show 0 ≤ v10_5.toInt from r11) (show v10_5.toInt ≤ 400 from t12) (show 0 ≤ f10_0_1.toInt from r13) (show f10_0_1.toInt ≤ 400 from t14) (show 0 ≤ f10_0_14.toInt from r16) (show f10_0_14.toInt ≤ 400 from t17) (show (f10_0_14.toInt = f0_.toInt ∨ (gi w0 1 (f0_.toInt).toNat).toInt = 32) by first | omega | assumption | (left; omega) | (left; decide) | (right; assumption))  hw hT hF c15 c18 hM (lv_sub hl [0, 1, 2, 3] rfl)
        · have c43 : (0 : Int) < v10_5.toInt := wk_leF c43
          replace hM := hM.neg (Int.not_le.mpr c43)
          refine lv_iload hx hb dX12_isWord_61 (lv_at hl 3 rfl) ?_
          refine lv_bipush (v := 8) hx hb dX12_isWord_63 (by decide) ?_
          refine lv_icmp_ge (tgt := 78) hx hb dX12_isWord_65 (by decide) (fun c44 => ?_) (fun c44 => ?_)
          · have c44 : (8 : Int) ≤ v10_5.toInt := wk_le.mp c44
            replace hM := hM.pos c44
            exact J78 v10_3 v10_5 f10_0_1 f10_0_14 H locs ls w10 (show 0 ≤ v10_5.toInt from r11) (show v10_5.toInt ≤ 400 from t12) (show 0 ≤ f10_0_1.toInt from r13) (show f10_0_1.toInt ≤ 400 from t14) (show 0 ≤ f10_0_14.toInt from r16) (show f10_0_14.toInt ≤ 400 from t17) (show (f10_0_14.toInt = f0_.toInt ∨ (gi w0 1 (f0_.toInt).toNat).toInt = 32) by first | omega | assumption | (left; omega) | (left; decide) | (right; assumption))  hw hT hF c15 c18 hM (lv_sub hl [0, 1, 2, 3] rfl)
          · have c44 : v10_5.toInt < (8 : Int) := wk_leF c44
            replace hM := hM.neg (Int.not_le.mpr c44)
            refine lv_lload_n hx hb dX12_isWord_68 rfl (lv_at hl 2 rfl) ?_
            refine lv_lload_n hx hb dX12_isWord_69 rfl (lv_at hl 1 rfl) ?_
            refine W.lcmp hx hb dX12_isWord_70 ?_
            refine lv_if_ne (tgt := 78) hx hb dX12_isWord_71 (by decide) (fun c45 => ?_) (fun c45 => ?_)
            · have c45 : ¬ v10_3.toInt = (126943972648308 : Int) := wk_ceF c45
              replace hM := hM.pos c45
              exact J78 v10_3 v10_5 f10_0_1 f10_0_14 H locs ls w10 (show 0 ≤ v10_5.toInt from r11) (show v10_5.toInt ≤ 400 from t12) (show 0 ≤ f10_0_1.toInt from r13) (show f10_0_1.toInt ≤ 400 from t14) (show 0 ≤ f10_0_14.toInt from r16) (show f10_0_14.toInt ≤ 400 from t17) (show (f10_0_14.toInt = f0_.toInt ∨ (gi w0 1 (f0_.toInt).toNat).toInt = 32) by first | omega | assumption | (left; omega) | (left; decide) | (right; assumption))  hw hT hF c15 c18 hM (lv_sub hl [0, 1, 2, 3] rfl)
            · have c45 : v10_3.toInt = (126943972648308 : Int) := wk_ceT c45
              replace hM := hM.neg (fun q => q c45)
              refine lv_iconst (v := 1) hx hb dX12_isWord_74 (by decide) ?_
              refine lv_goto (tgt := 79) hx hb dX12_isWord_75 (by decide) ?_
              exact tk_zret hC hr rfl hlocks hK ⟨hT, hF, hM.ret (by decide), (Or.inr ⟨rfl, ⟨f10_0_1, c15, (show 0 ≤ f10_0_1.toInt from r13), (show f10_0_1.toInt ≤ 400 from t14)⟩, (by simp only [cf0_, c18]; omega)⟩)⟩ hw dX12_isWord_79
      · replace hM := hM.call (r' := 1) hv42 (by decide)
        have ex39 : x39.toInt = f10_0_1.toInt := by rw [← c15.symm.trans c40]
        refine lv_if_eq (tgt := 56) hx hb dX12_isWord_21 (by decide) (fun c => absurd c (by decide)) (fun _ => ?_)
        replace hM := hM.neg (by decide)
        refine lv_iload hx hb dX12_isWord_24 (lv_at hl 3 rfl) ?_
        refine lv_bipush (v := 8) hx hb dX12_isWord_26 (by decide) ?_
        refine lv_icmp_ge (tgt := 50) hx hb dX12_isWord_28 (by decide) (fun c46 => ?_) (fun c46 => ?_)
        · have c46 : (8 : Int) ≤ v10_5.toInt := wk_le.mp c46
          replace hM := hM.pos c46
          exact J50 v10_3 H locs ls w10 (show 0 ≤ v10_5.toInt from r11) (show v10_5.toInt ≤ 399 by omega) (show 1 ≤ f10_0_1.toInt by omega) (show f10_0_1.toInt ≤ 400 from t14) (show 0 ≤ f10_0_14.toInt from r16) (show f10_0_14.toInt ≤ 399 by omega) (show (f10_0_14.toInt = f0_.toInt ∨ (gi w0 1 (f0_.toInt).toNat).toInt = 32) by first | omega | assumption | (left; omega) | (left; decide) | (right; assumption))  hw hT hF c15 c18 hM (lv_sub hl [0, 1, 2, 3] rfl)
        · have c46 : v10_5.toInt < (8 : Int) := wk_leF c46
          replace hM := hM.neg (Int.not_le.mpr c46)
          refine lv_lload_n hx hb dX12_isWord_31 rfl (lv_at hl 2 rfl) ?_
          refine lv_bipush (v := 8) hx hb dX12_isWord_32 (by decide) ?_
          refine lv_lshl hx hb dX12_isWord_34 rfl ?_
          refine lv_topl (fun x47 ex47 => ?_)
          replace hM := hM.lt (mShlL_e ex47 rfl (by decide))
          refine lv_aload_n hx hb dX12_isWord_35 rfl (lv_at hl 0 rfl) ?_
          refine tk_getA hC hK hw hT hinX12 kM_at0 (by decide) rfl 0 (by decide) (List.mem_cons_of_mem _ uw_6_14) rfl rfl dX12_isWord_36 ?_
          refine lv_aload_n hx hb dX12_isWord_39 rfl (lv_at hl 0 rfl) ?_
          refine tk_geti hC hK hw hT hinX12 kM_at0 (by decide) rfl 14 (by decide) (List.mem_cons_of_mem _ uw_19_18) rfl rfl dX12_isWord_40 (fun x48 c49 rx48 tx48 => ?_)
          refine wk_top f10_0_14 (c49.symm.trans c18) ?_
          replace hM := hM.rd (sI_at c18)
          refine lv_iload hx hb dX12_isWord_43 (lv_at hl 3 rfl) ?_
          refine lv_iadd hx hb dX12_isWord_45 ?_
          refine lv_topi (fun x50 ex50 => ?_)
          have ezx50 := ex50
          have ex50 : x50.toInt = f10_0_14.toInt + v10_5.toInt := by rw [ex50]; exact wk_add (show (-2147483648) ≤ f10_0_14.toInt + v10_5.toInt by omega) (show f10_0_14.toInt + v10_5.toInt ≤ 2147483647 by omega)
          replace hM := hM.lt ex50.symm
          refine tk_bald hC hK hw hT kM_at1 rfl rfl (show 0 ≤ x50.toInt by omega) (show x50.toInt < 400 by omega) dX12_isWord_46 (fun x51 c52 rx51 tx51 => ?_)
          have hox51 := c52
          replace hM := hM.rd (sI_at hox51)
          have c52 : gi w10 1 (1 * f10_0_14.toInt + 1 * v10_5.toInt + 0).toNat = x51 := (congrArg (gi w10 1) (congrArg Int.toNat (show 1 * f10_0_14.toInt + 1 * v10_5.toInt + 0 = x50.toInt by omega))).trans c52
          refine lv_i2l hx hb dX12_isWord_47 rfl ?_
          refine lv_topl (fun x53 ex53 => ?_)
          have ex53 : x53.toInt = x51.toInt := by rw [ex53]; exact wk_i2l _
          have bx53 := wk_i32 x51
          replace hM := hM.lt ex53.symm
          refine lv_lor hx hb dX12_isWord_48 ?_
          refine lv_topl (fun x54 ex54 => ?_)
          have ezx54 := ex54
          replace hM := hM.lt (o64_e (f := fun x y => x ||| y) ezx54 rfl rfl)
          refine lv_lstore_n (lv' := [(3, .long x54), (0, .ref (ad 0)), (1, .long 126943972648308), (5, .int v10_5)]) hx hb dX12_isWord_49 rfl hl (by decide) rfl (fun ls hl => ?_)
          exact J50 x54 H locs ls w10 (show 0 ≤ v10_5.toInt from r11) (show v10_5.toInt ≤ 399 by omega) (show 1 ≤ f10_0_1.toInt by omega) (show f10_0_1.toInt ≤ 400 from t14) (show 0 ≤ f10_0_14.toInt from r16) (show f10_0_14.toInt ≤ 399 by omega) (show (f10_0_14.toInt = f0_.toInt ∨ (gi w0 1 (f0_.toInt).toNat).toInt = 32) by first | omega | assumption | (left; omega) | (left; decide) | (right; assumption) | (right; rw [c52]; omega) | (right; rw [c52]; decide))  hw hT hF c15 c18 hM (lv_sub hl [1, 2, 0, 3] rfl)
  have hM : TT (fun n => m_X12_isWord n 0 126943972648308 (sI w0)) (fun n => m_X12_isWord n 0 126943972648308 (sI w0)) := TT.rf
  refine lv_aload_n hx hb dX12_isWord_0 rfl (lv_at hl 0 rfl) ?_
  refine tk_Vi hC hK hw hT hA hE hSR kM_at0 (by decide) rfl (kz_X12_see_1 l adK adV dC dI cy ad B (by omega) (by omega) qr s1    w0 s.heap.size hT f0_ cf0_ (show 0 ≤ f0_.toInt from rf0_) (show f0_.toInt ≤ 400 from tf0_)) (cwV 0 hC.2.2.2.2 uV_RX12_97 rfl rfl rfl (by decide +kernel) ⟨Nat.le_of_ble_eq_true rfl, Nat.le_of_ble_eq_true rfl⟩) rfl hl.1 rfl (Nat.le_of_ble_eq_true rfl) dX12_isWord_1 (fun r55 w57 H locs hp56 hw => ?_)
  obtain ⟨hT, k58, hv76, hg75⟩ := hp56
  have hF := hF.tr k58 (by decide)
  rcases hg75 with ⟨g59, g60, ⟨x61, c62, rx61, tx61⟩, ⟨x63, c64, rx63, tx63⟩, g65, g66⟩ | ⟨rfl, ⟨x67, c68, rx67, tx67⟩, ⟨x69, c70, rx69, tx69⟩, g71⟩ | ⟨rfl, ⟨x72, c73, rx72, tx72⟩, g74⟩
  · replace hM := hM.call hv76 rfl
    have g65 : (gi w57 1 (x63.toInt).toNat).toInt ≠ 32 := by have q := g65; simp only [c64] at q; omega
    have g66 : (x63.toInt = f0_.toInt ∨ (gi w0 1 (f0_.toInt).toNat).toInt = 32) := by have q := g66; simp only [cf0_, c64] at q; omega
    refine lv_pop hx hb dX12_isWord_4 rfl ?_
    refine lv_lconst (v := 0) hx hb dX12_isWord_5 (by decide) ?_
    refine lv_lstore_n (lv' := [(3, .long 0), (0, .ref (ad 0)), (1, .long 126943972648308)]) hx hb dX12_isWord_6 rfl hl (by decide) rfl (fun ls hl => ?_)
    refine lv_iconst (v := 0) hx hb dX12_isWord_7 (by decide) ?_
    refine lv_istore (lv' := [(5, .int 0), (3, .long 0), (0, .ref (ad 0)), (1, .long 126943972648308)]) hx hb dX12_isWord_8 hl (by decide) rfl (fun ls hl => ?_)
    exact L10 ((400 - (0 : Int)).toNat + 1) 0 0 x61 x63 H locs ls w57 (by decide) (by decide) (show 0 ≤ x61.toInt by omega) (show x61.toInt ≤ 400 by omega) (show 0 ≤ x63.toInt by omega) (show x63.toInt ≤ 400 by omega) (show (x63.toInt = f0_.toInt ∨ (gi w0 1 (f0_.toInt).toNat).toInt = 32) by first | omega | assumption | (left; omega) | (left; decide) | (right; assumption)) (Nat.lt_succ_self _) hw hT hF c62 c64 hM (lv_sub hl [2, 3, 1, 0] rfl)
  · replace hM := hM.call (r' := (-1)) hv76 (by decide)
    have g71 : (x69.toInt = f0_.toInt ∨ (gi w0 1 (f0_.toInt).toNat).toInt = 32) := by have q := g71; simp only [cf0_, c70] at q; omega
    refine lv_pop hx hb dX12_isWord_4 rfl ?_
    refine lv_lconst (v := 0) hx hb dX12_isWord_5 (by decide) ?_
    refine lv_lstore_n (lv' := [(3, .long 0), (0, .ref (ad 0)), (1, .long 126943972648308)]) hx hb dX12_isWord_6 rfl hl (by decide) rfl (fun ls hl => ?_)
    refine lv_iconst (v := 0) hx hb dX12_isWord_7 (by decide) ?_
    refine lv_istore (lv' := [(5, .int 0), (3, .long 0), (0, .ref (ad 0)), (1, .long 126943972648308)]) hx hb dX12_isWord_8 hl (by decide) rfl (fun ls hl => ?_)
    exact L10 ((400 - (0 : Int)).toNat + 1) 0 0 x67 x69 H locs ls w57 (by decide) (by decide) (show 0 ≤ x67.toInt by omega) (show x67.toInt ≤ 400 by omega) (show 0 ≤ x69.toInt by omega) (show x69.toInt ≤ 400 by omega) (show (x69.toInt = f0_.toInt ∨ (gi w0 1 (f0_.toInt).toNat).toInt = 32) by first | omega | assumption | (left; omega) | (left; decide) | (right; assumption)) (Nat.lt_succ_self _) hw hT hF c68 c70 hM (lv_sub hl [2, 3, 1, 0] rfl)
  · replace hM := hM.call (r' := (-1)) hv76 (by decide)
    obtain ⟨x77, c78, rx77, tx77⟩ := hT.rdi (lo := 0) (hi := 400) (k := 14) kM_at0 (by decide) rfl
    have g74 : (x77.toInt = f0_.toInt ∨ (gi w0 1 (f0_.toInt).toNat).toInt = 32) := by have q := g74; simp only [cf0_, c78] at q; omega
    refine lv_pop hx hb dX12_isWord_4 rfl ?_
    refine lv_lconst (v := 0) hx hb dX12_isWord_5 (by decide) ?_
    refine lv_lstore_n (lv' := [(3, .long 0), (0, .ref (ad 0)), (1, .long 126943972648308)]) hx hb dX12_isWord_6 rfl hl (by decide) rfl (fun ls hl => ?_)
    refine lv_iconst (v := 0) hx hb dX12_isWord_7 (by decide) ?_
    refine lv_istore (lv' := [(5, .int 0), (3, .long 0), (0, .ref (ad 0)), (1, .long 126943972648308)]) hx hb dX12_isWord_8 hl (by decide) rfl (fun ls hl => ?_)
    exact L10 ((400 - (0 : Int)).toNat + 1) 0 0 x72 x77 H locs ls w57 (by decide) (by decide) (show 0 ≤ x72.toInt by omega) (show x72.toInt ≤ 400 by omega) (show 0 ≤ x77.toInt by omega) (show x77.toInt ≤ 400 by omega) (show (x77.toInt = f0_.toInt ∨ (gi w0 1 (f0_.toInt).toNat).toInt = 32) by first | omega | assumption | (left; omega) | (left; decide) | (right; assumption)) (Nat.lt_succ_self _) hw hT hF c73 c78 hM (lv_sub hl [2, 3, 1, 0] rfl)
abbrev Pz_X12_isWord_3 (ad : Nat → Nat) (cy : Nat → ClassId) (B : Int) (qr : Nat) (s1 : Int)  (w0 : va_W) : Int32 → va_W → Prop := fun r u => TW ksM ad cy B qr 12 u ∧ FE ksM [(12, 14, 14)] w0 u ∧ Ev (fun n => m_X12_isWord n 0 495555538548 (sI w0)) (r.toInt, sI u) ∧ ((r = 0 ∧ (∃ y : Int32, gi u 0 1 = y ∧ 0 ≤ y.toInt ∧ y.toInt ≤ 400) ∧ (((gi u 0 14).toInt = (gi w0 0 14).toInt ∨ (gi w0 1 ((gi w0 0 14).toInt).toNat).toInt = 32))) ∨ (r = 1 ∧ (∃ y : Int32, gi u 0 1 = y ∧ 0 ≤ y.toInt ∧ y.toInt ≤ 400) ∧ (((gi u 0 14).toInt = (gi w0 0 14).toInt ∨ (gi w0 1 ((gi w0 0 14).toInt).toNat).toInt = 32))))
set_option maxHeartbeats 4000000 in
set_option maxRecDepth 100000 in
theorem kz_X12_isWord_3 (l : Launch) (adK adV : Nat → Nat) (dC : Nat → ClassId) (dI : Nat → Nat → Nat) (cy : Nat → ClassId) (ad : Nat → Nat) (B : Int) (hB0 : 100000 ≤ B) (hB1 : B ≤ 1073741824) (qr : Nat) (s1 : Int)   (w0 : va_W) (sz : Nat) (hT : TW ksM ad cy B qr 12 w0) (f0_ : Int32) (cf0_ : gi w0 0 14 = f0_) (rf0_ : 0 ≤ f0_.toInt) (tf0_ : f0_.toInt ≤ 400) : Met l yX12_isWord (wu yX12_isWord cX12_isWord 6 (some .boolean)) ({ frames := 2, cells := 0, slots := 0, locals := 33 }) (va_Pc [.ref (ad 0), .long 495555538548] (wpreS adK adV dC dI cy sz w0)) (va_Qi (Pz_X12_isWord_3 ad cy B qr s1  w0) (fun u : va_W => wpost dC dI cy (va_A w0 sz) u) (va_A w0 sz)) 0 0 (va_A w0 sz) := by
  refine Met.ofW (cc := cX12_isWord) (maxL := 6) (ret := (some .boolean)) (by decide) rfl ?_
  intro p e s m args below meth c s₁ Bk hml hv
  obtain ⟨rfl, ⟨hsz, hP, hK, hD0⟩, hE, hSR⟩ := hv
  have hx := Bk.exec
  have hb := Bk.bytes
  have hr := Bk.returns
  have hlocks := Bk.notSynchronized
  have hC : CallFix p m c cX12_isWord 6 s _ (wu yX12_isWord cX12_isWord 6 (some .boolean)) RX12 := ⟨hx, hb, hml, findClass_of_methodNamed Bk.named, atoms_spec (ws := (wu yX12_isWord cX12_isWord 6 (some .boolean))) Bk.pre⟩
  subst hsz
  have hD := hD0.self (sz := s.heap.size)
  generalize hAe : va_A w0 s.heap.size = A at hD hE ⊢
  have hA : ∀ q : Nat, s.heap.size ≤ q → A q := fun q h => by rw [← hAe]; exact Or.inr h
  have hw : Wd dC dI A s.heap s.heap [] w0 := ⟨hP, hD, va_S.rf⟩
  have hF : FE ksM [(12, 14, 14)] w0 w0 := FE.rf
  have hl := lv_entry ([.ref (ad 0), .long 495555538548]) (n := 6) (Nat.le_of_ble_eq_true rfl)
  rw [lg_entry_eq]
  generalize (lg_sl ([.ref (ad 0), .long 495555538548]) ++ List.replicate (6 - (lg_sl ([.ref (ad 0), .long 495555538548])).length) Slot.unset).toArray = ls at hl ⊢
  have hl : lv_has ls 6 [(0, .ref (ad 0)), (1, .long 495555538548)] := hl
  generalize hloc : ([] : List Loc) = locs at hw ⊢
  have hinX12 : ∀ w ∈ u_ws RX12 TX12 42, w ∈ (wu yX12_isWord cX12_isWord 6 (some .boolean)) := fun _ h => List.mem_cons_of_mem _ (up_71 h)
  have J78 : ∀ (v78_3 : Int64) (v78_5 : Int32) (f78_0_1 : Int32) (f78_0_14 : Int32) (H : Heap) (locs : List Loc) (ls : Array Slot) (w1 : va_W), 0 ≤ v78_5.toInt → v78_5.toInt ≤ 400 → 0 ≤ f78_0_1.toInt → f78_0_1.toInt ≤ 400 → 0 ≤ f78_0_14.toInt → f78_0_14.toInt ≤ 400 → ((f78_0_14.toInt = f0_.toInt ∨ (gi w0 1 (f0_.toInt).toNat).toInt = 32)) → Wd dC dI A s.heap H locs w1 → TW ksM ad cy B qr 12 w1 → FE ksM [(12, 14, 14)] w0 w1 → gi w1 0 1 = f78_0_1 → gi w1 0 14 = f78_0_14 → TT (fun n => m_X12_isWord n 0 495555538548 (sI w0)) (fun n => b_X12_isWord_78 (j_X12_isWord 0 n) n 0 (sI w1)) → lv_has ls 6 [(0, .ref (ad 0)), (1, .long 495555538548), (3, .long v78_3), (5, .int v78_5)] → W p l e ({ frames := 2, cells := 0, slots := 0, locals := 33 }) s m (List.toArray [.ref (ad 0), .long 495555538548]) below meth c H locs 0 0 (MQ below (va_Qi (Pz_X12_isWord_3 ad cy B qr s1  w0) (fun u : va_W => wpost dC dI cy A u) A) (List.toArray [.ref (ad 0), .long 495555538548]) s 0 0 A) (F0 m 78 ls []) := by
    intro v78_3 v78_5 f78_0_1 f78_0_14 H locs ls w1 r2 t3 r4 t5 r7 t8 hcr78_0 hw hT hF c6 c9 hM hl
    refine lv_iconst (v := 0) hx hb dX12_isWord_78 (by decide) ?_
    exact tk_zret hC hr rfl hlocks hK ⟨hT, hF, hM.ret (by decide), (Or.inl ⟨rfl, ⟨f78_0_1, c6, (show 0 ≤ f78_0_1.toInt from r4), (show f78_0_1.toInt ≤ 400 from t5)⟩, (by simp only [cf0_, c9]; omega)⟩)⟩ hw dX12_isWord_79
  have L10 : ∀ (n10 : Nat) (v10_3 : Int64) (v10_5 : Int32) (f10_0_1 : Int32) (f10_0_14 : Int32) (H : Heap) (locs : List Loc) (ls : Array Slot) (w10 : va_W), 0 ≤ v10_5.toInt → v10_5.toInt ≤ 400 → 0 ≤ f10_0_1.toInt → f10_0_1.toInt ≤ 400 → 0 ≤ f10_0_14.toInt → f10_0_14.toInt ≤ 400 → ((f10_0_14.toInt = f0_.toInt ∨ (gi w0 1 (f0_.toInt).toNat).toInt = 32)) → (400 - v10_5.toInt).toNat < n10 → Wd dC dI A s.heap H locs w10 → TW ksM ad cy B qr 12 w10 → FE ksM [(12, 14, 14)] w0 w10 → gi w10 0 1 = f10_0_1 → gi w10 0 14 = f10_0_14 → TT (fun n => m_X12_isWord n 0 495555538548 (sI w0)) (fun n => j_X12_isWord 0 n 10 [(495555538548 : Int), v10_3.toInt, v10_5.toInt] (sI w10)) → lv_has ls 6 [(0, .ref (ad 0)), (1, .long 495555538548), (3, .long v10_3), (5, .int v10_5)] → W p l e ({ frames := 2, cells := 0, slots := 0, locals := 33 }) s m (List.toArray [.ref (ad 0), .long 495555538548]) below meth c H locs 0 0 (MQ below (va_Qi (Pz_X12_isWord_3 ad cy B qr s1  w0) (fun u : va_W => wpost dC dI cy A u) A) (List.toArray [.ref (ad 0), .long 495555538548]) s 0 0 A) (F0 m 10 ls []) := by
    intro n10
    induction n10 with
    | zero => intro v10_3 v10_5 f10_0_1 f10_0_14 H locs ls w10 r11 t12 r13 t14 r16 t17 hcr10_0 hm10 hw hT hF c15 c18 hM hl; omega
    | succ n10 ih10 =>
      intro v10_3 v10_5 f10_0_1 f10_0_14 H locs ls w10 r11 t12 r13 t14 r16 t17 hcr10_0 hm10 hw hT hF c15 c18 hM hl
      have J50 : ∀ (v50_3 : Int64) (H : Heap) (locs : List Loc) (ls : Array Slot) (w19 : va_W), 0 ≤ v10_5.toInt → v10_5.toInt ≤ 399 → 1 ≤ f10_0_1.toInt → f10_0_1.toInt ≤ 400 → 0 ≤ f10_0_14.toInt → f10_0_14.toInt ≤ 399 → ((f10_0_14.toInt = f0_.toInt ∨ (gi w0 1 (f0_.toInt).toNat).toInt = 32)) → Wd dC dI A s.heap H locs w19 → TW ksM ad cy B qr 12 w19 → FE ksM [(12, 14, 14)] w0 w19 → gi w19 0 1 = f10_0_1 → gi w19 0 14 = f10_0_14 → TT (fun n => m_X12_isWord n 0 495555538548 (sI w0)) (fun n => b_X12_isWord_50 (j_X12_isWord 0 n) n 0 (495555538548 : Int) (v50_3.toInt) (v10_5.toInt) (sI w19)) → lv_has ls 6 [(0, .ref (ad 0)), (1, .long 495555538548), (3, .long v50_3), (5, .int v10_5)] → W p l e ({ frames := 2, cells := 0, slots := 0, locals := 33 }) s m (List.toArray [.ref (ad 0), .long 495555538548]) below meth c H locs 0 0 (MQ below (va_Qi (Pz_X12_isWord_3 ad cy B qr s1  w0) (fun u : va_W => wpost dC dI cy A u) A) (List.toArray [.ref (ad 0), .long 495555538548]) s 0 0 A) (F0 m 50 ls []) := by
        intro v50_3 H locs ls w19 r20 t21 r22 t23 r25 t26 hcr50_0 hw hT hF c24 c27 hM hl
        obtain ⟨x28, ex28⟩ : ∃ y : Int32, y = v10_5 + Int32.ofInt 1 := ⟨_, rfl⟩
        have erx28 := ex28
        refine lv_iinc (v := x28) (lv' := [(5, .int x28), (0, .ref (ad 0)), (1, .long 495555538548), (3, .long v50_3)]) hx hb dX12_isWord_50 hl (k := 3) rfl ex28.symm (by decide) rfl (fun ls hl => ?_)
        have ex28 : x28.toInt = v10_5.toInt + 1 := by rw [ex28]; exact wk_add (y := 1) (show -2147483648 ≤ v10_5.toInt + 1 by omega) (show v10_5.toInt + 1 ≤ 2147483647 by omega)
        replace hM := hM.lt ex28.symm
        refine lv_goto (tgt := 10) hx hb dX12_isWord_53 (by decide) ?_
        exact ih10 v50_3 x28 f10_0_1 f10_0_14 H locs ls w19 (show 0 ≤ x28.toInt by omega) (show x28.toInt ≤ 400 by omega) (show 0 ≤ f10_0_1.toInt from r13) (show f10_0_1.toInt ≤ 400 from t23) (show 0 ≤ f10_0_14.toInt from r25) (show f10_0_14.toInt ≤ 400 from t17) (show (f10_0_14.toInt = f0_.toInt ∨ (gi w0 1 (f0_.toInt).toNat).toInt = 32) by first | omega | assumption | (left; omega) | (left; decide) | (right; assumption)) (show (400 - x28.toInt).toNat < n10 by omega) hw hT hF c24 c27 hM (lv_sub hl [1, 2, 3, 0] rfl)
      replace hM := hM.suc (fun _ => e_X12_isWord_10)
      refine lv_aload_n hx hb dX12_isWord_10 rfl (lv_at hl 0 rfl) ?_
      refine lv_aload_n hx hb dX12_isWord_11 rfl (lv_at hl 0 rfl) ?_
      refine tk_geti hC hK hw hT hinX12 kM_at0 (by decide) rfl 14 (by decide) (List.mem_cons_of_mem _ uw_19_18) rfl rfl dX12_isWord_12 (fun x29 c30 rx29 tx29 => ?_)
      refine wk_top f10_0_14 (c30.symm.trans c18) ?_
      replace hM := hM.rd (sI_at c18)
      refine lv_iload hx hb dX12_isWord_15 (lv_at hl 3 rfl) ?_
      refine lv_iadd hx hb dX12_isWord_17 ?_
      refine lv_topi (fun x31 ex31 => ?_)
      have ezx31 := ex31
      have ex31 : x31.toInt = f10_0_14.toInt + v10_5.toInt := by rw [ex31]; exact wk_add (show (-2147483648) ≤ f10_0_14.toInt + v10_5.toInt by omega) (show f10_0_14.toInt + v10_5.toInt ≤ 2147483647 by omega)
      replace hM := hM.lt ex31.symm
      refine tk_Vi hC hK hw hT hA hE hSR kM_at0 (by decide) rfl (kz_X12_isLetter_1 l adK adV dC dI cy ad B (by omega) (by omega) qr s1   x31 (show 0 ≤ x31.toInt by omega) (show x31.toInt ≤ 800 by omega) w10 H.size hT ) (cwV 1 hC.2.2.2.2 uV_RX12_101 rfl rfl rfl (by decide +kernel) ⟨Nat.le_of_ble_eq_true rfl, Nat.le_of_ble_eq_true rfl⟩) rfl hl.1 rfl (Nat.le_of_ble_eq_true rfl) dX12_isWord_18 (fun r32 w34 H locs hp33 hw => ?_)
      obtain ⟨rfl, hv42, hg41⟩ := hp33
      rcases hg41 with ⟨rfl, ⟨x36, c37, rx36, tx36⟩⟩ | ⟨rfl, g38, ⟨x39, c40, rx39, tx39⟩⟩
      · replace hM := hM.call (r' := 0) hv42 (by decide)
        have ex36 : x36.toInt = f10_0_1.toInt := by rw [← c15.symm.trans c37]
        refine lv_if_eq (tgt := 56) hx hb dX12_isWord_21 (by decide) (fun _ => ?_) (fun c => absurd (by decide) c)
        replace hM := hM.pos (by decide)
        refine lv_iload hx hb dX12_isWord_56 (lv_at hl 3 rfl) ?_
        refine lv_if_le (tgt := 78) hx hb dX12_isWord_58 (by decide) (fun c43 => ?_) (fun c43 => ?_)
        · have c43 : v10_5.toInt ≤ (0 : Int) := wk_le.mp c43
          replace hM := hM.pos c43
          exact J78 v10_3 v10_5 f10_0_1 f10_0_14 H locs ls w10 (show 0 ≤ v10_5.toInt from r11) (show v10_5.toInt ≤ 400 from t12) (show 0 ≤ f10_0_1.toInt from r13) (show f10_0_1.toInt ≤ 400 from t14) (show 0 ≤ f10_0_14.toInt from r16) (show f10_0_14.toInt ≤ 400 from t17) (show (f10_0_14.toInt = f0_.toInt ∨ (gi w0 1 (f0_.toInt).toNat).toInt = 32) by first | omega | assumption | (left; omega) | (left; decide) | (right; assumption))  hw hT hF c15 c18 hM (lv_sub hl [0, 1, 2, 3] rfl)
        · have c43 : (0 : Int) < v10_5.toInt := wk_leF c43
          replace hM := hM.neg (Int.not_le.mpr c43)
          refine lv_iload hx hb dX12_isWord_61 (lv_at hl 3 rfl) ?_
          refine lv_bipush (v := 8) hx hb dX12_isWord_63 (by decide) ?_
          refine lv_icmp_ge (tgt := 78) hx hb dX12_isWord_65 (by decide) (fun c44 => ?_) (fun c44 => ?_)
          · have c44 : (8 : Int) ≤ v10_5.toInt := wk_le.mp c44
            replace hM := hM.pos c44
            exact J78 v10_3 v10_5 f10_0_1 f10_0_14 H locs ls w10 (show 0 ≤ v10_5.toInt from r11) (show v10_5.toInt ≤ 400 from t12) (show 0 ≤ f10_0_1.toInt from r13) (show f10_0_1.toInt ≤ 400 from t14) (show 0 ≤ f10_0_14.toInt from r16) (show f10_0_14.toInt ≤ 400 from t17) (show (f10_0_14.toInt = f0_.toInt ∨ (gi w0 1 (f0_.toInt).toNat).toInt = 32) by first | omega | assumption | (left; omega) | (left; decide) | (right; assumption))  hw hT hF c15 c18 hM (lv_sub hl [0, 1, 2, 3] rfl)
          · have c44 : v10_5.toInt < (8 : Int) := wk_leF c44
            replace hM := hM.neg (Int.not_le.mpr c44)
            refine lv_lload_n hx hb dX12_isWord_68 rfl (lv_at hl 2 rfl) ?_
            refine lv_lload_n hx hb dX12_isWord_69 rfl (lv_at hl 1 rfl) ?_
            refine W.lcmp hx hb dX12_isWord_70 ?_
            refine lv_if_ne (tgt := 78) hx hb dX12_isWord_71 (by decide) (fun c45 => ?_) (fun c45 => ?_)
            · have c45 : ¬ v10_3.toInt = (495555538548 : Int) := wk_ceF c45
              replace hM := hM.pos c45
              exact J78 v10_3 v10_5 f10_0_1 f10_0_14 H locs ls w10 (show 0 ≤ v10_5.toInt from r11) (show v10_5.toInt ≤ 400 from t12) (show 0 ≤ f10_0_1.toInt from r13) (show f10_0_1.toInt ≤ 400 from t14) (show 0 ≤ f10_0_14.toInt from r16) (show f10_0_14.toInt ≤ 400 from t17) (show (f10_0_14.toInt = f0_.toInt ∨ (gi w0 1 (f0_.toInt).toNat).toInt = 32) by first | omega | assumption | (left; omega) | (left; decide) | (right; assumption))  hw hT hF c15 c18 hM (lv_sub hl [0, 1, 2, 3] rfl)
            · have c45 : v10_3.toInt = (495555538548 : Int) := wk_ceT c45
              replace hM := hM.neg (fun q => q c45)
              refine lv_iconst (v := 1) hx hb dX12_isWord_74 (by decide) ?_
              refine lv_goto (tgt := 79) hx hb dX12_isWord_75 (by decide) ?_
              exact tk_zret hC hr rfl hlocks hK ⟨hT, hF, hM.ret (by decide), (Or.inr ⟨rfl, ⟨f10_0_1, c15, (show 0 ≤ f10_0_1.toInt from r13), (show f10_0_1.toInt ≤ 400 from t14)⟩, (by simp only [cf0_, c18]; omega)⟩)⟩ hw dX12_isWord_79
      · replace hM := hM.call (r' := 1) hv42 (by decide)
        have ex39 : x39.toInt = f10_0_1.toInt := by rw [← c15.symm.trans c40]
        refine lv_if_eq (tgt := 56) hx hb dX12_isWord_21 (by decide) (fun c => absurd c (by decide)) (fun _ => ?_)
        replace hM := hM.neg (by decide)
        refine lv_iload hx hb dX12_isWord_24 (lv_at hl 3 rfl) ?_
        refine lv_bipush (v := 8) hx hb dX12_isWord_26 (by decide) ?_
        refine lv_icmp_ge (tgt := 50) hx hb dX12_isWord_28 (by decide) (fun c46 => ?_) (fun c46 => ?_)
        · have c46 : (8 : Int) ≤ v10_5.toInt := wk_le.mp c46
          replace hM := hM.pos c46
          exact J50 v10_3 H locs ls w10 (show 0 ≤ v10_5.toInt from r11) (show v10_5.toInt ≤ 399 by omega) (show 1 ≤ f10_0_1.toInt by omega) (show f10_0_1.toInt ≤ 400 from t14) (show 0 ≤ f10_0_14.toInt from r16) (show f10_0_14.toInt ≤ 399 by omega) (show (f10_0_14.toInt = f0_.toInt ∨ (gi w0 1 (f0_.toInt).toNat).toInt = 32) by first | omega | assumption | (left; omega) | (left; decide) | (right; assumption))  hw hT hF c15 c18 hM (lv_sub hl [0, 1, 2, 3] rfl)
        · have c46 : v10_5.toInt < (8 : Int) := wk_leF c46
          replace hM := hM.neg (Int.not_le.mpr c46)
          refine lv_lload_n hx hb dX12_isWord_31 rfl (lv_at hl 2 rfl) ?_
          refine lv_bipush (v := 8) hx hb dX12_isWord_32 (by decide) ?_
          refine lv_lshl hx hb dX12_isWord_34 rfl ?_
          refine lv_topl (fun x47 ex47 => ?_)
          replace hM := hM.lt (mShlL_e ex47 rfl (by decide))
          refine lv_aload_n hx hb dX12_isWord_35 rfl (lv_at hl 0 rfl) ?_
          refine tk_getA hC hK hw hT hinX12 kM_at0 (by decide) rfl 0 (by decide) (List.mem_cons_of_mem _ uw_6_14) rfl rfl dX12_isWord_36 ?_
          refine lv_aload_n hx hb dX12_isWord_39 rfl (lv_at hl 0 rfl) ?_
          refine tk_geti hC hK hw hT hinX12 kM_at0 (by decide) rfl 14 (by decide) (List.mem_cons_of_mem _ uw_19_18) rfl rfl dX12_isWord_40 (fun x48 c49 rx48 tx48 => ?_)
          refine wk_top f10_0_14 (c49.symm.trans c18) ?_
          replace hM := hM.rd (sI_at c18)
          refine lv_iload hx hb dX12_isWord_43 (lv_at hl 3 rfl) ?_
          refine lv_iadd hx hb dX12_isWord_45 ?_
          refine lv_topi (fun x50 ex50 => ?_)
          have ezx50 := ex50
          have ex50 : x50.toInt = f10_0_14.toInt + v10_5.toInt := by rw [ex50]; exact wk_add (show (-2147483648) ≤ f10_0_14.toInt + v10_5.toInt by omega) (show f10_0_14.toInt + v10_5.toInt ≤ 2147483647 by omega)
          replace hM := hM.lt ex50.symm
          refine tk_bald hC hK hw hT kM_at1 rfl rfl (show 0 ≤ x50.toInt by omega) (show x50.toInt < 400 by omega) dX12_isWord_46 (fun x51 c52 rx51 tx51 => ?_)
          have hox51 := c52
          replace hM := hM.rd (sI_at hox51)
          have c52 : gi w10 1 (1 * f10_0_14.toInt + 1 * v10_5.toInt + 0).toNat = x51 := (congrArg (gi w10 1) (congrArg Int.toNat (show 1 * f10_0_14.toInt + 1 * v10_5.toInt + 0 = x50.toInt by omega))).trans c52
          refine lv_i2l hx hb dX12_isWord_47 rfl ?_
          refine lv_topl (fun x53 ex53 => ?_)
          have ex53 : x53.toInt = x51.toInt := by rw [ex53]; exact wk_i2l _
          have bx53 := wk_i32 x51
          replace hM := hM.lt ex53.symm
          refine lv_lor hx hb dX12_isWord_48 ?_
          refine lv_topl (fun x54 ex54 => ?_)
          have ezx54 := ex54
          replace hM := hM.lt (o64_e (f := fun x y => x ||| y) ezx54 rfl rfl)
          refine lv_lstore_n (lv' := [(3, .long x54), (0, .ref (ad 0)), (1, .long 495555538548), (5, .int v10_5)]) hx hb dX12_isWord_49 rfl hl (by decide) rfl (fun ls hl => ?_)
          exact J50 x54 H locs ls w10 (show 0 ≤ v10_5.toInt from r11) (show v10_5.toInt ≤ 399 by omega) (show 1 ≤ f10_0_1.toInt by omega) (show f10_0_1.toInt ≤ 400 from t14) (show 0 ≤ f10_0_14.toInt from r16) (show f10_0_14.toInt ≤ 399 by omega) (show (f10_0_14.toInt = f0_.toInt ∨ (gi w0 1 (f0_.toInt).toNat).toInt = 32) by first | omega | assumption | (left; omega) | (left; decide) | (right; assumption) | (right; rw [c52]; omega) | (right; rw [c52]; decide))  hw hT hF c15 c18 hM (lv_sub hl [1, 2, 0, 3] rfl)
  have hM : TT (fun n => m_X12_isWord n 0 495555538548 (sI w0)) (fun n => m_X12_isWord n 0 495555538548 (sI w0)) := TT.rf
  refine lv_aload_n hx hb dX12_isWord_0 rfl (lv_at hl 0 rfl) ?_
  refine tk_Vi hC hK hw hT hA hE hSR kM_at0 (by decide) rfl (kz_X12_see_1 l adK adV dC dI cy ad B (by omega) (by omega) qr s1    w0 s.heap.size hT f0_ cf0_ (show 0 ≤ f0_.toInt from rf0_) (show f0_.toInt ≤ 400 from tf0_)) (cwV 0 hC.2.2.2.2 uV_RX12_97 rfl rfl rfl (by decide +kernel) ⟨Nat.le_of_ble_eq_true rfl, Nat.le_of_ble_eq_true rfl⟩) rfl hl.1 rfl (Nat.le_of_ble_eq_true rfl) dX12_isWord_1 (fun r55 w57 H locs hp56 hw => ?_)
  obtain ⟨hT, k58, hv76, hg75⟩ := hp56
  have hF := hF.tr k58 (by decide)
  rcases hg75 with ⟨g59, g60, ⟨x61, c62, rx61, tx61⟩, ⟨x63, c64, rx63, tx63⟩, g65, g66⟩ | ⟨rfl, ⟨x67, c68, rx67, tx67⟩, ⟨x69, c70, rx69, tx69⟩, g71⟩ | ⟨rfl, ⟨x72, c73, rx72, tx72⟩, g74⟩
  · replace hM := hM.call hv76 rfl
    have g65 : (gi w57 1 (x63.toInt).toNat).toInt ≠ 32 := by have q := g65; simp only [c64] at q; omega
    have g66 : (x63.toInt = f0_.toInt ∨ (gi w0 1 (f0_.toInt).toNat).toInt = 32) := by have q := g66; simp only [cf0_, c64] at q; omega
    refine lv_pop hx hb dX12_isWord_4 rfl ?_
    refine lv_lconst (v := 0) hx hb dX12_isWord_5 (by decide) ?_
    refine lv_lstore_n (lv' := [(3, .long 0), (0, .ref (ad 0)), (1, .long 495555538548)]) hx hb dX12_isWord_6 rfl hl (by decide) rfl (fun ls hl => ?_)
    refine lv_iconst (v := 0) hx hb dX12_isWord_7 (by decide) ?_
    refine lv_istore (lv' := [(5, .int 0), (3, .long 0), (0, .ref (ad 0)), (1, .long 495555538548)]) hx hb dX12_isWord_8 hl (by decide) rfl (fun ls hl => ?_)
    exact L10 ((400 - (0 : Int)).toNat + 1) 0 0 x61 x63 H locs ls w57 (by decide) (by decide) (show 0 ≤ x61.toInt by omega) (show x61.toInt ≤ 400 by omega) (show 0 ≤ x63.toInt by omega) (show x63.toInt ≤ 400 by omega) (show (x63.toInt = f0_.toInt ∨ (gi w0 1 (f0_.toInt).toNat).toInt = 32) by first | omega | assumption | (left; omega) | (left; decide) | (right; assumption)) (Nat.lt_succ_self _) hw hT hF c62 c64 hM (lv_sub hl [2, 3, 1, 0] rfl)
  · replace hM := hM.call (r' := (-1)) hv76 (by decide)
    have g71 : (x69.toInt = f0_.toInt ∨ (gi w0 1 (f0_.toInt).toNat).toInt = 32) := by have q := g71; simp only [cf0_, c70] at q; omega
    refine lv_pop hx hb dX12_isWord_4 rfl ?_
    refine lv_lconst (v := 0) hx hb dX12_isWord_5 (by decide) ?_
    refine lv_lstore_n (lv' := [(3, .long 0), (0, .ref (ad 0)), (1, .long 495555538548)]) hx hb dX12_isWord_6 rfl hl (by decide) rfl (fun ls hl => ?_)
    refine lv_iconst (v := 0) hx hb dX12_isWord_7 (by decide) ?_
    refine lv_istore (lv' := [(5, .int 0), (3, .long 0), (0, .ref (ad 0)), (1, .long 495555538548)]) hx hb dX12_isWord_8 hl (by decide) rfl (fun ls hl => ?_)
    exact L10 ((400 - (0 : Int)).toNat + 1) 0 0 x67 x69 H locs ls w57 (by decide) (by decide) (show 0 ≤ x67.toInt by omega) (show x67.toInt ≤ 400 by omega) (show 0 ≤ x69.toInt by omega) (show x69.toInt ≤ 400 by omega) (show (x69.toInt = f0_.toInt ∨ (gi w0 1 (f0_.toInt).toNat).toInt = 32) by first | omega | assumption | (left; omega) | (left; decide) | (right; assumption)) (Nat.lt_succ_self _) hw hT hF c68 c70 hM (lv_sub hl [2, 3, 1, 0] rfl)
  · replace hM := hM.call (r' := (-1)) hv76 (by decide)
    obtain ⟨x77, c78, rx77, tx77⟩ := hT.rdi (lo := 0) (hi := 400) (k := 14) kM_at0 (by decide) rfl
    have g74 : (x77.toInt = f0_.toInt ∨ (gi w0 1 (f0_.toInt).toNat).toInt = 32) := by have q := g74; simp only [cf0_, c78] at q; omega
    refine lv_pop hx hb dX12_isWord_4 rfl ?_
    refine lv_lconst (v := 0) hx hb dX12_isWord_5 (by decide) ?_
    refine lv_lstore_n (lv' := [(3, .long 0), (0, .ref (ad 0)), (1, .long 495555538548)]) hx hb dX12_isWord_6 rfl hl (by decide) rfl (fun ls hl => ?_)
    refine lv_iconst (v := 0) hx hb dX12_isWord_7 (by decide) ?_
    refine lv_istore (lv' := [(5, .int 0), (3, .long 0), (0, .ref (ad 0)), (1, .long 495555538548)]) hx hb dX12_isWord_8 hl (by decide) rfl (fun ls hl => ?_)
    exact L10 ((400 - (0 : Int)).toNat + 1) 0 0 x72 x77 H locs ls w57 (by decide) (by decide) (show 0 ≤ x72.toInt by omega) (show x72.toInt ≤ 400 by omega) (show 0 ≤ x77.toInt by omega) (show x77.toInt ≤ 400 by omega) (show (x77.toInt = f0_.toInt ∨ (gi w0 1 (f0_.toInt).toNat).toInt = 32) by first | omega | assumption | (left; omega) | (left; decide) | (right; assumption)) (Nat.lt_succ_self _) hw hT hF c73 c78 hM (lv_sub hl [2, 3, 1, 0] rfl)
abbrev Pz_X12_isLetter_2 (ad : Nat → Nat) (cy : Nat → ClassId) (B : Int) (qr : Nat) (s1 : Int) (a1 : Int32) (w0 : va_W) : Int32 → va_W → Prop := fun r u => w0 = u ∧ Ev (fun n => m_X12_isLetter n 0 a1.toInt (sI w0)) (r.toInt, sI w0) ∧ ((r = 0 ∧ (∃ y : Int32, gi u 0 1 = y ∧ 0 ≤ y.toInt ∧ y.toInt ≤ 400)) ∨ (r = 1 ∧ a1.toInt ≤ 399 ∧ (∃ y : Int32, gi u 0 1 = y ∧ 2 ≤ y.toInt ∧ y.toInt ≤ 400)))
set_option maxHeartbeats 4000000 in
set_option maxRecDepth 100000 in
theorem kz_X12_isLetter_2 (l : Launch) (adK adV : Nat → Nat) (dC : Nat → ClassId) (dI : Nat → Nat → Nat) (cy : Nat → ClassId) (ad : Nat → Nat) (B : Int) (hB0 : 100000 ≤ B) (hB1 : B ≤ 1073741824) (qr : Nat) (s1 : Int)  (a1 : Int32) (ra1 : 1 ≤ a1.toInt) (ta1 : a1.toInt ≤ 400) (w0 : va_W) (sz : Nat) (hT : TW ksM ad cy B qr 12 w0)  : Met l yX12_isLetter (wu yX12_isLetter cX12_isLetter 2 (some .boolean)) ({ frames := 1, cells := 0, slots := 0, locals := 12 }) (va_Pc [.ref (ad 0), .int a1] (wpreS adK adV dC dI cy sz w0)) (va_Qi (Pz_X12_isLetter_2 ad cy B qr s1 a1 w0) (fun u : va_W => wpost dC dI cy (va_A w0 sz) u) (va_A w0 sz)) 0 0 (va_A w0 sz) := by
  refine Met.ofW (cc := cX12_isLetter) (maxL := 2) (ret := (some .boolean)) (by decide) rfl ?_
  intro p e s m args below meth c s₁ Bk hml hv
  obtain ⟨rfl, ⟨hsz, hP, hK, hD0⟩, hE, hSR⟩ := hv
  have hx := Bk.exec
  have hb := Bk.bytes
  have hr := Bk.returns
  have hlocks := Bk.notSynchronized
  have hC : CallFix p m c cX12_isLetter 2 s _ (wu yX12_isLetter cX12_isLetter 2 (some .boolean)) RX12 := ⟨hx, hb, hml, findClass_of_methodNamed Bk.named, atoms_spec (ws := (wu yX12_isLetter cX12_isLetter 2 (some .boolean))) Bk.pre⟩
  subst hsz
  have hD := hD0.self (sz := s.heap.size)
  generalize hAe : va_A w0 s.heap.size = A at hD hE ⊢
  have hA : ∀ q : Nat, s.heap.size ≤ q → A q := fun q h => by rw [← hAe]; exact Or.inr h
  have hw : Wd dC dI A s.heap s.heap [] w0 := ⟨hP, hD, va_S.rf⟩
  have hF : FE ksM ([] : List (Nat × Nat × Nat)) w0 w0 := FE.rf
  have hl := lv_entry ([.ref (ad 0), .int a1]) (n := 2) (Nat.le_of_ble_eq_true rfl)
  rw [lg_entry_eq]
  generalize (lg_sl ([.ref (ad 0), .int a1]) ++ List.replicate (2 - (lg_sl ([.ref (ad 0), .int a1])).length) Slot.unset).toArray = ls at hl ⊢
  have hl : lv_has ls 2 [(0, .ref (ad 0)), (1, .int a1)] := hl
  generalize hloc : ([] : List Loc) = locs at hw ⊢
  have hinX12 : ∀ w ∈ u_ws RX12 TX12 42, w ∈ (wu yX12_isLetter cX12_isLetter 2 (some .boolean)) := fun _ h => List.mem_cons_of_mem _ (up_71 h)
  have J34 : ∀ (f34_0_1 : Int32) (H : Heap) (locs : List Loc) (ls : Array Slot), 1 ≤ a1.toInt → a1.toInt ≤ 400 → 0 ≤ f34_0_1.toInt → f34_0_1.toInt ≤ 400 → Wd dC dI A s.heap H locs w0 → gi w0 0 1 = f34_0_1 → TT (fun n => m_X12_isLetter n 0 a1.toInt (sI w0)) (fun n => b_X12_isLetter_34 n 0 (sI w0)) → lv_has ls 2 [(0, .ref (ad 0)), (1, .int a1)] → W p l e ({ frames := 1, cells := 0, slots := 0, locals := 12 }) s m (List.toArray [.ref (ad 0), .int a1]) below meth c H locs 0 0 (MQ below (va_Qi (Pz_X12_isLetter_2 ad cy B qr s1 a1 w0) (fun u : va_W => wpost dC dI cy A u) A) (List.toArray [.ref (ad 0), .int a1]) s 0 0 A) (F0 m 34 ls []) := by
    intro f34_0_1 H locs ls r1 t2 r3 t4 hw c5 hM hl
    refine lv_iconst (v := 0) hx hb dX12_isLetter_34 (by decide) ?_
    exact tk_zret hC hr rfl hlocks hK ⟨rfl, hM.ret (by decide), (Or.inl ⟨rfl, ⟨f34_0_1, c5, (show 0 ≤ f34_0_1.toInt from r3), (show f34_0_1.toInt ≤ 400 from t4)⟩⟩)⟩ hw dX12_isLetter_35
  have hM : TT (fun n => m_X12_isLetter n 0 a1.toInt (sI w0)) (fun n => m_X12_isLetter n 0 a1.toInt (sI w0)) := TT.rf
  refine lv_iload_n hx hb dX12_isLetter_0 rfl (lv_at hl 1 rfl) ?_
  refine lv_aload_n hx hb dX12_isLetter_1 rfl (lv_at hl 0 rfl) ?_
  refine tk_geti hC hK hw hT hinX12 kM_at0 (by decide) rfl 1 (by decide) (List.mem_cons_of_mem _ uw_8_7) rfl rfl dX12_isLetter_2 (fun x6 c7 rx6 tx6 => ?_)
  replace hM := hM.rd (sI_at c7)
  refine lv_icmp_ge (tgt := 34) hx hb dX12_isLetter_5 (by decide) (fun c8 => ?_) (fun c8 => ?_)
  · have c8 : x6.toInt ≤ a1.toInt := wk_le.mp c8
    replace hM := hM.pos c8
    exact J34 x6 s.heap locs ls  (show 1 ≤ a1.toInt from ra1) (show a1.toInt ≤ 400 from ta1) (show 0 ≤ x6.toInt from rx6) (show x6.toInt ≤ 400 from tx6)  hw  c7 hM (lv_sub hl [0, 1] rfl)
  · have c8 : a1.toInt < x6.toInt := wk_leF c8
    replace hM := hM.neg (Int.not_le.mpr c8)
    refine lv_aload_n hx hb dX12_isLetter_8 rfl (lv_at hl 0 rfl) ?_
    refine tk_getA hC hK hw hT hinX12 kM_at0 (by decide) rfl 0 (by decide) (List.mem_cons_of_mem _ uw_6_14) rfl rfl dX12_isLetter_9 ?_
    refine lv_iload_n hx hb dX12_isLetter_12 rfl (lv_at hl 1 rfl) ?_
    refine tk_bald hC hK hw hT kM_at1 rfl rfl (show 0 ≤ a1.toInt from Int.le_trans (by decide) ra1) (show a1.toInt < 400 by omega) dX12_isLetter_13 (fun x9 c10 rx9 tx9 => ?_)
    have hox9 := c10
    replace hM := hM.rd (sI_at hox9)
    have c10 : gi w0 1 (a1.toInt).toNat = x9 := (congrArg (gi w0 1) (congrArg Int.toNat (show a1.toInt = a1.toInt by omega))).trans c10
    refine lv_bipush (v := 97) hx hb dX12_isLetter_14 (by decide) ?_
    refine lv_icmp_lt (tgt := 34) hx hb dX12_isLetter_16 (by decide) (fun c11 => ?_) (fun c11 => ?_)
    · have c11 : x9.toInt < (97 : Int) := wk_lt.mp c11
      replace hM := hM.pos c11
      exact J34 x6 s.heap locs ls  (show 1 ≤ a1.toInt from ra1) (show a1.toInt ≤ 400 from ta1) (show 0 ≤ x6.toInt from rx6) (show x6.toInt ≤ 400 from tx6)  hw  c7 hM (lv_sub hl [0, 1] rfl)
    · have c11 : (97 : Int) ≤ x9.toInt := wk_ltF c11
      replace hM := hM.neg (Int.not_lt.mpr c11)
      refine lv_aload_n hx hb dX12_isLetter_19 rfl (lv_at hl 0 rfl) ?_
      refine tk_getA hC hK hw hT hinX12 kM_at0 (by decide) rfl 0 (by decide) (List.mem_cons_of_mem _ uw_6_14) rfl rfl dX12_isLetter_20 ?_
      refine lv_iload_n hx hb dX12_isLetter_23 rfl (lv_at hl 1 rfl) ?_
      refine tk_bald hC hK hw hT kM_at1 rfl rfl (show 0 ≤ a1.toInt from Int.le_trans (by decide) ra1) (show a1.toInt < 400 by omega) dX12_isLetter_24 (fun x12 c13 rx12 tx12 => ?_)
      have hox12 := c13
      have c13 : gi w0 1 (a1.toInt).toNat = x12 := (congrArg (gi w0 1) (congrArg Int.toNat (show a1.toInt = a1.toInt by omega))).trans c13
      refine wk_top x9 (c13.symm.trans c10) ?_
      replace hM := hM.rd ((sI_at hox12).trans (congrArg Int32.toInt (c13.symm.trans c10)))
      refine lv_bipush (v := 122) hx hb dX12_isLetter_25 (by decide) ?_
      refine lv_icmp_gt (tgt := 34) hx hb dX12_isLetter_27 (by decide) (fun c14 => ?_) (fun c14 => ?_)
      · have c14 : (122 : Int) < x9.toInt := wk_lt.mp c14
        replace hM := hM.pos c14
        exact J34 x6 s.heap locs ls  (show 1 ≤ a1.toInt from ra1) (show a1.toInt ≤ 400 from ta1) (show 0 ≤ x6.toInt from rx6) (show x6.toInt ≤ 400 from tx6)  hw  c7 hM (lv_sub hl [0, 1] rfl)
      · have c14 : x9.toInt ≤ (122 : Int) := wk_ltF c14
        replace hM := hM.neg (Int.not_lt.mpr c14)
        refine lv_iconst (v := 1) hx hb dX12_isLetter_30 (by decide) ?_
        refine lv_goto (tgt := 35) hx hb dX12_isLetter_31 (by decide) ?_
        exact tk_zret hC hr rfl hlocks hK ⟨rfl, hM.ret (by decide), (Or.inr ⟨rfl, (show a1.toInt ≤ 399 by omega), ⟨x6, c7, (show 2 ≤ x6.toInt by omega), (show x6.toInt ≤ 400 from tx6)⟩⟩)⟩ hw dX12_isLetter_35
abbrev Pz_X12_isLetter_3 (ad : Nat → Nat) (cy : Nat → ClassId) (B : Int) (qr : Nat) (s1 : Int) (a1 : Int32) (w0 : va_W) : Int32 → va_W → Prop := fun r u => w0 = u ∧ Ev (fun n => m_X12_isLetter n 0 a1.toInt (sI w0)) (r.toInt, sI w0) ∧ ((r = 0 ∧ (∃ y : Int32, gi u 0 1 = y ∧ 0 ≤ y.toInt ∧ y.toInt ≤ 400)) ∨ (r = 1 ∧ a1.toInt ≤ 399 ∧ (∃ y : Int32, gi u 0 1 = y ∧ 1 ≤ y.toInt ∧ y.toInt ≤ 400)))
set_option maxHeartbeats 4000000 in
set_option maxRecDepth 100000 in
theorem kz_X12_isLetter_3 (l : Launch) (adK adV : Nat → Nat) (dC : Nat → ClassId) (dI : Nat → Nat → Nat) (cy : Nat → ClassId) (ad : Nat → Nat) (B : Int) (hB0 : 100000 ≤ B) (hB1 : B ≤ 1073741824) (qr : Nat) (s1 : Int)  (a1 : Int32) (ra1 : 0 ≤ a1.toInt) (ta1 : a1.toInt ≤ 400) (w0 : va_W) (sz : Nat) (hT : TW ksM ad cy B qr 12 w0)  : Met l yX12_isLetter (wu yX12_isLetter cX12_isLetter 2 (some .boolean)) ({ frames := 1, cells := 0, slots := 0, locals := 12 }) (va_Pc [.ref (ad 0), .int a1] (wpreS adK adV dC dI cy sz w0)) (va_Qi (Pz_X12_isLetter_3 ad cy B qr s1 a1 w0) (fun u : va_W => wpost dC dI cy (va_A w0 sz) u) (va_A w0 sz)) 0 0 (va_A w0 sz) := by
  refine Met.ofW (cc := cX12_isLetter) (maxL := 2) (ret := (some .boolean)) (by decide) rfl ?_
  intro p e s m args below meth c s₁ Bk hml hv
  obtain ⟨rfl, ⟨hsz, hP, hK, hD0⟩, hE, hSR⟩ := hv
  have hx := Bk.exec
  have hb := Bk.bytes
  have hr := Bk.returns
  have hlocks := Bk.notSynchronized
  have hC : CallFix p m c cX12_isLetter 2 s _ (wu yX12_isLetter cX12_isLetter 2 (some .boolean)) RX12 := ⟨hx, hb, hml, findClass_of_methodNamed Bk.named, atoms_spec (ws := (wu yX12_isLetter cX12_isLetter 2 (some .boolean))) Bk.pre⟩
  subst hsz
  have hD := hD0.self (sz := s.heap.size)
  generalize hAe : va_A w0 s.heap.size = A at hD hE ⊢
  have hA : ∀ q : Nat, s.heap.size ≤ q → A q := fun q h => by rw [← hAe]; exact Or.inr h
  have hw : Wd dC dI A s.heap s.heap [] w0 := ⟨hP, hD, va_S.rf⟩
  have hF : FE ksM ([] : List (Nat × Nat × Nat)) w0 w0 := FE.rf
  have hl := lv_entry ([.ref (ad 0), .int a1]) (n := 2) (Nat.le_of_ble_eq_true rfl)
  rw [lg_entry_eq]
  generalize (lg_sl ([.ref (ad 0), .int a1]) ++ List.replicate (2 - (lg_sl ([.ref (ad 0), .int a1])).length) Slot.unset).toArray = ls at hl ⊢
  have hl : lv_has ls 2 [(0, .ref (ad 0)), (1, .int a1)] := hl
  generalize hloc : ([] : List Loc) = locs at hw ⊢
  have hinX12 : ∀ w ∈ u_ws RX12 TX12 42, w ∈ (wu yX12_isLetter cX12_isLetter 2 (some .boolean)) := fun _ h => List.mem_cons_of_mem _ (up_71 h)
  have J34 : ∀ (f34_0_1 : Int32) (H : Heap) (locs : List Loc) (ls : Array Slot), 0 ≤ a1.toInt → a1.toInt ≤ 400 → 0 ≤ f34_0_1.toInt → f34_0_1.toInt ≤ 400 → Wd dC dI A s.heap H locs w0 → gi w0 0 1 = f34_0_1 → TT (fun n => m_X12_isLetter n 0 a1.toInt (sI w0)) (fun n => b_X12_isLetter_34 n 0 (sI w0)) → lv_has ls 2 [(0, .ref (ad 0)), (1, .int a1)] → W p l e ({ frames := 1, cells := 0, slots := 0, locals := 12 }) s m (List.toArray [.ref (ad 0), .int a1]) below meth c H locs 0 0 (MQ below (va_Qi (Pz_X12_isLetter_3 ad cy B qr s1 a1 w0) (fun u : va_W => wpost dC dI cy A u) A) (List.toArray [.ref (ad 0), .int a1]) s 0 0 A) (F0 m 34 ls []) := by
    intro f34_0_1 H locs ls r1 t2 r3 t4 hw c5 hM hl
    refine lv_iconst (v := 0) hx hb dX12_isLetter_34 (by decide) ?_
    exact tk_zret hC hr rfl hlocks hK ⟨rfl, hM.ret (by decide), (Or.inl ⟨rfl, ⟨f34_0_1, c5, (show 0 ≤ f34_0_1.toInt from r3), (show f34_0_1.toInt ≤ 400 from t4)⟩⟩)⟩ hw dX12_isLetter_35
  have hM : TT (fun n => m_X12_isLetter n 0 a1.toInt (sI w0)) (fun n => m_X12_isLetter n 0 a1.toInt (sI w0)) := TT.rf
  refine lv_iload_n hx hb dX12_isLetter_0 rfl (lv_at hl 1 rfl) ?_
  refine lv_aload_n hx hb dX12_isLetter_1 rfl (lv_at hl 0 rfl) ?_
  refine tk_geti hC hK hw hT hinX12 kM_at0 (by decide) rfl 1 (by decide) (List.mem_cons_of_mem _ uw_8_7) rfl rfl dX12_isLetter_2 (fun x6 c7 rx6 tx6 => ?_)
  replace hM := hM.rd (sI_at c7)
  refine lv_icmp_ge (tgt := 34) hx hb dX12_isLetter_5 (by decide) (fun c8 => ?_) (fun c8 => ?_)
  · have c8 : x6.toInt ≤ a1.toInt := wk_le.mp c8
    replace hM := hM.pos c8
    exact J34 x6 s.heap locs ls  (show 0 ≤ a1.toInt from ra1) (show a1.toInt ≤ 400 from ta1) (show 0 ≤ x6.toInt from rx6) (show x6.toInt ≤ 400 from tx6)  hw  c7 hM (lv_sub hl [0, 1] rfl)
  · have c8 : a1.toInt < x6.toInt := wk_leF c8
    replace hM := hM.neg (Int.not_le.mpr c8)
    refine lv_aload_n hx hb dX12_isLetter_8 rfl (lv_at hl 0 rfl) ?_
    refine tk_getA hC hK hw hT hinX12 kM_at0 (by decide) rfl 0 (by decide) (List.mem_cons_of_mem _ uw_6_14) rfl rfl dX12_isLetter_9 ?_
    refine lv_iload_n hx hb dX12_isLetter_12 rfl (lv_at hl 1 rfl) ?_
    refine tk_bald hC hK hw hT kM_at1 rfl rfl (show 0 ≤ a1.toInt from ra1) (show a1.toInt < 400 by omega) dX12_isLetter_13 (fun x9 c10 rx9 tx9 => ?_)
    have hox9 := c10
    replace hM := hM.rd (sI_at hox9)
    have c10 : gi w0 1 (a1.toInt).toNat = x9 := (congrArg (gi w0 1) (congrArg Int.toNat (show a1.toInt = a1.toInt by omega))).trans c10
    refine lv_bipush (v := 97) hx hb dX12_isLetter_14 (by decide) ?_
    refine lv_icmp_lt (tgt := 34) hx hb dX12_isLetter_16 (by decide) (fun c11 => ?_) (fun c11 => ?_)
    · have c11 : x9.toInt < (97 : Int) := wk_lt.mp c11
      replace hM := hM.pos c11
      exact J34 x6 s.heap locs ls  (show 0 ≤ a1.toInt from ra1) (show a1.toInt ≤ 400 from ta1) (show 0 ≤ x6.toInt from rx6) (show x6.toInt ≤ 400 from tx6)  hw  c7 hM (lv_sub hl [0, 1] rfl)
    · have c11 : (97 : Int) ≤ x9.toInt := wk_ltF c11
      replace hM := hM.neg (Int.not_lt.mpr c11)
      refine lv_aload_n hx hb dX12_isLetter_19 rfl (lv_at hl 0 rfl) ?_
      refine tk_getA hC hK hw hT hinX12 kM_at0 (by decide) rfl 0 (by decide) (List.mem_cons_of_mem _ uw_6_14) rfl rfl dX12_isLetter_20 ?_
      refine lv_iload_n hx hb dX12_isLetter_23 rfl (lv_at hl 1 rfl) ?_
      refine tk_bald hC hK hw hT kM_at1 rfl rfl (show 0 ≤ a1.toInt from ra1) (show a1.toInt < 400 by omega) dX12_isLetter_24 (fun x12 c13 rx12 tx12 => ?_)
      have hox12 := c13
      have c13 : gi w0 1 (a1.toInt).toNat = x12 := (congrArg (gi w0 1) (congrArg Int.toNat (show a1.toInt = a1.toInt by omega))).trans c13
      refine wk_top x9 (c13.symm.trans c10) ?_
      replace hM := hM.rd ((sI_at hox12).trans (congrArg Int32.toInt (c13.symm.trans c10)))
      refine lv_bipush (v := 122) hx hb dX12_isLetter_25 (by decide) ?_
      refine lv_icmp_gt (tgt := 34) hx hb dX12_isLetter_27 (by decide) (fun c14 => ?_) (fun c14 => ?_)
      · have c14 : (122 : Int) < x9.toInt := wk_lt.mp c14
        replace hM := hM.pos c14
        exact J34 x6 s.heap locs ls  (show 0 ≤ a1.toInt from ra1) (show a1.toInt ≤ 400 from ta1) (show 0 ≤ x6.toInt from rx6) (show x6.toInt ≤ 400 from tx6)  hw  c7 hM (lv_sub hl [0, 1] rfl)
      · have c14 : x9.toInt ≤ (122 : Int) := wk_ltF c14
        replace hM := hM.neg (Int.not_lt.mpr c14)
        refine lv_iconst (v := 1) hx hb dX12_isLetter_30 (by decide) ?_
        refine lv_goto (tgt := 35) hx hb dX12_isLetter_31 (by decide) ?_
        exact tk_zret hC hr rfl hlocks hK ⟨rfl, hM.ret (by decide), (Or.inr ⟨rfl, (show a1.toInt ≤ 399 by omega), ⟨x6, c7, (show 1 ≤ x6.toInt by omega), (show x6.toInt ≤ 400 from tx6)⟩⟩)⟩ hw dX12_isLetter_35
abbrev Pz_X12_passWord_1 (ad : Nat → Nat) (cy : Nat → ClassId) (B : Int) (qr : Nat) (s1 : Int)  (w0 : va_W) : va_W → Prop := fun u => TW ksM ad cy B qr 12 u ∧ FE ksM [(12, 14, 14)] w0 u ∧ Ev (fun n => m_X12_passWord n 0 (sI w0)) (0, sI u) ∧ (((∃ y : Int32, gi u 0 1 = y ∧ 1 ≤ y.toInt ∧ y.toInt ≤ 400) ∧ (∃ y : Int32, gi u 0 14 = y ∧ 1 ≤ y.toInt ∧ y.toInt ≤ 400)) ∨ ((∃ y : Int32, gi u 0 1 = y ∧ 0 ≤ y.toInt ∧ y.toInt ≤ 400)))
set_option maxHeartbeats 4000000 in
set_option maxRecDepth 100000 in
theorem kz_X12_passWord_1 (l : Launch) (adK adV : Nat → Nat) (dC : Nat → ClassId) (dI : Nat → Nat → Nat) (cy : Nat → ClassId) (ad : Nat → Nat) (B : Int) (hB0 : 100000 ≤ B) (hB1 : B ≤ 1073741824) (qr : Nat) (s1 : Int)   (w0 : va_W) (sz : Nat) (hT : TW ksM ad cy B qr 12 w0)  : Met l yX12_passWord (wu yX12_passWord cX12_passWord 1 none) ({ frames := 2, cells := 0, slots := 0, locals := 33 }) (va_Pc [.ref (ad 0)] (wpreS adK adV dC dI cy sz w0)) (va_Qv (Pz_X12_passWord_1 ad cy B qr s1  w0) (fun u : va_W => wpost dC dI cy (va_A w0 sz) u) (va_A w0 sz)) 0 0 (va_A w0 sz) := by
  refine Met.ofW (cc := cX12_passWord) (maxL := 1) (ret := none) (by decide) rfl ?_
  intro p e s m args below meth c s₁ Bk hml hv
  obtain ⟨rfl, ⟨hsz, hP, hK, hD0⟩, hE, hSR⟩ := hv
  have hx := Bk.exec
  have hb := Bk.bytes
  have hr := Bk.returns
  have hlocks := Bk.notSynchronized
  have hC : CallFix p m c cX12_passWord 1 s _ (wu yX12_passWord cX12_passWord 1 none) RX12 := ⟨hx, hb, hml, findClass_of_methodNamed Bk.named, atoms_spec (ws := (wu yX12_passWord cX12_passWord 1 none)) Bk.pre⟩
  subst hsz
  have hD := hD0.self (sz := s.heap.size)
  generalize hAe : va_A w0 s.heap.size = A at hD hE ⊢
  have hA : ∀ q : Nat, s.heap.size ≤ q → A q := fun q h => by rw [← hAe]; exact Or.inr h
  have hw : Wd dC dI A s.heap s.heap [] w0 := ⟨hP, hD, va_S.rf⟩
  have hF : FE ksM [(12, 14, 14)] w0 w0 := FE.rf
  have hl := lv_entry ([.ref (ad 0)]) (n := 1) (Nat.le_of_ble_eq_true rfl)
  rw [lg_entry_eq]
  generalize (lg_sl ([.ref (ad 0)]) ++ List.replicate (1 - (lg_sl ([.ref (ad 0)])).length) Slot.unset).toArray = ls at hl ⊢
  have hl : lv_has ls 1 [(0, .ref (ad 0))] := hl
  generalize hloc : ([] : List Loc) = locs at hw ⊢
  have hinX12 : ∀ w ∈ u_ws RX12 TX12 42, w ∈ (wu yX12_passWord cX12_passWord 1 none) := fun _ h => List.mem_cons_of_mem _ (up_71 h)
  have L0 : ∀ (n0 : Nat) (f0_0_1 : Int32) (f0_0_14 : Int32) (H : Heap) (locs : List Loc) (ls : Array Slot) (w1 : va_W), 1 ≤ f0_0_1.toInt → f0_0_1.toInt ≤ 400 → 1 ≤ f0_0_14.toInt → f0_0_14.toInt ≤ 400 → (400 - f0_0_14.toInt).toNat < n0 → Wd dC dI A s.heap H locs w1 → TW ksM ad cy B qr 12 w1 → FE ksM [(12, 14, 14)] w0 w1 → gi w1 0 1 = f0_0_1 → gi w1 0 14 = f0_0_14 → TT (fun n => m_X12_passWord n 0 (sI w0)) (fun n => j_X12_passWord 0 n 0 [] (sI w1)) → lv_has ls 1 [(0, .ref (ad 0))] → W p l e ({ frames := 2, cells := 0, slots := 0, locals := 33 }) s m (List.toArray [.ref (ad 0)]) below meth c H locs 0 0 (MQ below (va_Qv (Pz_X12_passWord_1 ad cy B qr s1  w0) (fun u : va_W => wpost dC dI cy A u) A) (List.toArray [.ref (ad 0)]) s 0 0 A) (F0 m 0 ls []) := by
    intro n0
    induction n0 with
    | zero => intro f0_0_1 f0_0_14 H locs ls w1 r2 t3 r5 t6 hm0 hw hT hF c4 c7 hM hl; omega
    | succ n0 ih0 =>
      intro f0_0_1 f0_0_14 H locs ls w1 r2 t3 r5 t6 hm0 hw hT hF c4 c7 hM hl
      replace hM := hM.suc (fun _ => e_X12_passWord_0)
      refine lv_aload_n hx hb dX12_passWord_0 rfl (lv_at hl 0 rfl) ?_
      refine lv_aload_n hx hb dX12_passWord_1 rfl (lv_at hl 0 rfl) ?_
      refine tk_geti hC hK hw hT hinX12 kM_at0 (by decide) rfl 14 (by decide) (List.mem_cons_of_mem _ uw_19_18) rfl rfl dX12_passWord_2 (fun x8 c9 rx8 tx8 => ?_)
      refine wk_top f0_0_14 (c9.symm.trans c7) ?_
      replace hM := hM.rd (sI_at c7)
      refine tk_Vi hC hK hw hT hA hE hSR kM_at0 (by decide) rfl (kz_X12_isLetter_2 l adK adV dC dI cy ad B (by omega) (by omega) qr s1   f0_0_14 (show 1 ≤ f0_0_14.toInt from r5) (show f0_0_14.toInt ≤ 400 from t6) w1 H.size hT ) (cwV 1 hC.2.2.2.2 uV_RX12_101 rfl rfl rfl (by decide +kernel) ⟨Nat.le_of_ble_eq_true rfl, Nat.le_of_ble_eq_true rfl⟩) rfl hl.1 rfl (Nat.le_of_ble_eq_true rfl) dX12_passWord_5 (fun r10 w12 H locs hp11 hw => ?_)
      obtain ⟨rfl, hv20, hg19⟩ := hp11
      rcases hg19 with ⟨rfl, ⟨x14, c15, rx14, tx14⟩⟩ | ⟨rfl, g16, ⟨x17, c18, rx17, tx17⟩⟩
      · replace hM := hM.call (r' := 0) hv20 (by decide)
        have ex14 : x14.toInt = f0_0_1.toInt := by rw [← c4.symm.trans c15]
        refine lv_if_eq (tgt := 24) hx hb dX12_passWord_8 (by decide) (fun _ => ?_) (fun c => absurd (by decide) c)
        replace hM := hM.pos (by decide)
        exact tk_vret hC hr hlocks hK ⟨hT, hF, hM.ret rfl, (Or.inl ⟨⟨f0_0_1, c4, (show 1 ≤ f0_0_1.toInt from r2), (show f0_0_1.toInt ≤ 400 from t3)⟩, ⟨f0_0_14, c7, (show 1 ≤ f0_0_14.toInt from r5), (show f0_0_14.toInt ≤ 400 from t6)⟩⟩)⟩ hw dX12_passWord_24
      · replace hM := hM.call (r' := 1) hv20 (by decide)
        have ex17 : x17.toInt = f0_0_1.toInt := by rw [← c4.symm.trans c18]
        refine lv_if_eq (tgt := 24) hx hb dX12_passWord_8 (by decide) (fun c => absurd c (by decide)) (fun _ => ?_)
        replace hM := hM.neg (by decide)
        refine lv_aload_n hx hb dX12_passWord_11 rfl (lv_at hl 0 rfl) ?_
        refine lv_dup hx hb dX12_passWord_12 rfl ?_
        refine tk_geti hC hK hw hT hinX12 kM_at0 (by decide) rfl 14 (by decide) (List.mem_cons_of_mem _ uw_19_18) rfl rfl dX12_passWord_13 (fun x21 c22 rx21 tx21 => ?_)
        refine wk_top f0_0_14 (c22.symm.trans c7) ?_
        replace hM := hM.rd (sI_at c7)
        refine lv_iconst (v := 1) hx hb dX12_passWord_16 (by decide) ?_
        refine lv_iadd hx hb dX12_passWord_17 ?_
        refine lv_topi (fun x23 ex23 => ?_)
        have ezx23 := ex23
        have ex23 : x23.toInt = f0_0_14.toInt + (1 : Int) := by rw [ex23]; exact wk_add (show (-2147483648) ≤ f0_0_14.toInt + (1 : Int) by omega) (show f0_0_14.toInt + (1 : Int) ≤ 2147483647 by omega)
        replace hM := hM.lt ex23.symm
        refine tk_puti hC hK hw hT hinX12 tyX12_ok nmX12 kM_at0 (by decide) rfl rfl 14 (by decide) (List.mem_cons_of_mem _ uw_19_18) rfl rfl rfl rfl (show 0 ≤ x23.toInt by omega) (show x23.toInt ≤ 400 by omega) dX12_passWord_18 (fun H locs w24 hw hT k26 c25 => ?_)
        replace hM := hM.wr (sI_up k26 c25)
        have hF := hF.put kM_at0 (k := 14) (by decide) k26
        have c27 := k26.gi (Or.inr (by decide)) c4
        refine lv_goto (tgt := 0) hx hb dX12_passWord_21 (by decide) ?_
        exact ih0 f0_0_1 x23 H locs ls w24 (show 1 ≤ f0_0_1.toInt from r2) (show f0_0_1.toInt ≤ 400 from t3) (show 1 ≤ x23.toInt by omega) (show x23.toInt ≤ 400 by omega) (show (400 - x23.toInt).toNat < n0 by omega) hw hT hF c27 c25 hM (lv_sub hl [0] rfl)
  have hM : TT (fun n => m_X12_passWord n 0 (sI w0)) (fun n => j_X12_passWord 0 n 0 [] (sI w0)) := TT.rf
  replace hM := hM.suc (fun _ => e_X12_passWord_0)
  refine lv_aload_n hx hb dX12_passWord_0 rfl (lv_at hl 0 rfl) ?_
  refine lv_aload_n hx hb dX12_passWord_1 rfl (lv_at hl 0 rfl) ?_
  refine tk_geti hC hK hw hT hinX12 kM_at0 (by decide) rfl 14 (by decide) (List.mem_cons_of_mem _ uw_19_18) rfl rfl dX12_passWord_2 (fun x28 c29 rx28 tx28 => ?_)
  replace hM := hM.rd (sI_at c29)
  refine tk_Vi hC hK hw hT hA hE hSR kM_at0 (by decide) rfl (kz_X12_isLetter_3 l adK adV dC dI cy ad B (by omega) (by omega) qr s1   x28 (show 0 ≤ x28.toInt from rx28) (show x28.toInt ≤ 400 from tx28) w0 s.heap.size hT ) (cwV 1 hC.2.2.2.2 uV_RX12_101 rfl rfl rfl (by decide +kernel) ⟨Nat.le_of_ble_eq_true rfl, Nat.le_of_ble_eq_true rfl⟩) rfl hl.1 rfl (Nat.le_of_ble_eq_true rfl) dX12_passWord_5 (fun r30 w32 H locs hp31 hw => ?_)
  obtain ⟨rfl, hv40, hg39⟩ := hp31
  rcases hg39 with ⟨rfl, ⟨x34, c35, rx34, tx34⟩⟩ | ⟨rfl, g36, ⟨x37, c38, rx37, tx37⟩⟩
  · replace hM := hM.call (r' := 0) hv40 (by decide)
    refine lv_if_eq (tgt := 24) hx hb dX12_passWord_8 (by decide) (fun _ => ?_) (fun c => absurd (by decide) c)
    replace hM := hM.pos (by decide)
    exact tk_vret hC hr hlocks hK ⟨hT, hF, hM.ret rfl, (Or.inr ⟨x34, c35, (show 0 ≤ x34.toInt by omega), (show x34.toInt ≤ 400 by omega)⟩)⟩ hw dX12_passWord_24
  · replace hM := hM.call (r' := 1) hv40 (by decide)
    refine lv_if_eq (tgt := 24) hx hb dX12_passWord_8 (by decide) (fun c => absurd c (by decide)) (fun _ => ?_)
    replace hM := hM.neg (by decide)
    refine lv_aload_n hx hb dX12_passWord_11 rfl (lv_at hl 0 rfl) ?_
    refine lv_dup hx hb dX12_passWord_12 rfl ?_
    refine tk_geti hC hK hw hT hinX12 kM_at0 (by decide) rfl 14 (by decide) (List.mem_cons_of_mem _ uw_19_18) rfl rfl dX12_passWord_13 (fun x41 c42 rx41 tx41 => ?_)
    refine wk_top x28 (c42.symm.trans c29) ?_
    replace hM := hM.rd (sI_at c29)
    refine lv_iconst (v := 1) hx hb dX12_passWord_16 (by decide) ?_
    refine lv_iadd hx hb dX12_passWord_17 ?_
    refine lv_topi (fun x43 ex43 => ?_)
    have ezx43 := ex43
    have ex43 : x43.toInt = x28.toInt + (1 : Int) := by rw [ex43]; exact wk_add (show (-2147483648) ≤ x28.toInt + (1 : Int) by omega) (show x28.toInt + (1 : Int) ≤ 2147483647 by omega)
    replace hM := hM.lt ex43.symm
    refine tk_puti hC hK hw hT hinX12 tyX12_ok nmX12 kM_at0 (by decide) rfl rfl 14 (by decide) (List.mem_cons_of_mem _ uw_19_18) rfl rfl rfl rfl (show 0 ≤ x43.toInt by omega) (show x43.toInt ≤ 400 by omega) dX12_passWord_18 (fun H locs w44 hw hT k46 c45 => ?_)
    replace hM := hM.wr (sI_up k46 c45)
    have hF := hF.put kM_at0 (k := 14) (by decide) k46
    have c47 := k46.gi (Or.inr (by decide)) c38
    refine lv_goto (tgt := 0) hx hb dX12_passWord_21 (by decide) ?_
    exact L0 ((400 - x43.toInt).toNat + 1) x37 x43 H locs ls w44 (show 1 ≤ x37.toInt by omega) (show x37.toInt ≤ 400 by omega) (show 1 ≤ x43.toInt by omega) (show x43.toInt ≤ 400 by omega) (Nat.lt_succ_self _) hw hT hF c47 c45 hM (lv_sub hl [0] rfl)
abbrev Pz_X12_isDigit_1 (ad : Nat → Nat) (cy : Nat → ClassId) (B : Int) (qr : Nat) (s1 : Int) (a1 : Int32) (w0 : va_W) : Int32 → va_W → Prop := fun r u => w0 = u ∧ Ev (fun n => m_X12_isDigit n 0 a1.toInt (sI w0)) (r.toInt, sI w0) ∧ ((r = 0 ∧ (∃ y : Int32, gi u 0 1 = y ∧ 0 ≤ y.toInt ∧ y.toInt ≤ 400)) ∨ (r = 1 ∧ a1.toInt ≤ 399 ∧ (∃ y : Int32, gi u 0 1 = y ∧ 1 ≤ y.toInt ∧ y.toInt ≤ 400)))
set_option maxHeartbeats 4000000 in
set_option maxRecDepth 100000 in
theorem kz_X12_isDigit_1 (l : Launch) (adK adV : Nat → Nat) (dC : Nat → ClassId) (dI : Nat → Nat → Nat) (cy : Nat → ClassId) (ad : Nat → Nat) (B : Int) (hB0 : 100000 ≤ B) (hB1 : B ≤ 1073741824) (qr : Nat) (s1 : Int)  (a1 : Int32) (ra1 : 0 ≤ a1.toInt) (ta1 : a1.toInt ≤ 400) (w0 : va_W) (sz : Nat) (hT : TW ksM ad cy B qr 12 w0)  : Met l yX12_isDigit (wu yX12_isDigit cX12_isDigit 2 (some .boolean)) ({ frames := 1, cells := 0, slots := 0, locals := 12 }) (va_Pc [.ref (ad 0), .int a1] (wpreS adK adV dC dI cy sz w0)) (va_Qi (Pz_X12_isDigit_1 ad cy B qr s1 a1 w0) (fun u : va_W => wpost dC dI cy (va_A w0 sz) u) (va_A w0 sz)) 0 0 (va_A w0 sz) := by
  refine Met.ofW (cc := cX12_isDigit) (maxL := 2) (ret := (some .boolean)) (by decide) rfl ?_
  intro p e s m args below meth c s₁ Bk hml hv
  obtain ⟨rfl, ⟨hsz, hP, hK, hD0⟩, hE, hSR⟩ := hv
  have hx := Bk.exec
  have hb := Bk.bytes
  have hr := Bk.returns
  have hlocks := Bk.notSynchronized
  have hC : CallFix p m c cX12_isDigit 2 s _ (wu yX12_isDigit cX12_isDigit 2 (some .boolean)) RX12 := ⟨hx, hb, hml, findClass_of_methodNamed Bk.named, atoms_spec (ws := (wu yX12_isDigit cX12_isDigit 2 (some .boolean))) Bk.pre⟩
  subst hsz
  have hD := hD0.self (sz := s.heap.size)
  generalize hAe : va_A w0 s.heap.size = A at hD hE ⊢
  have hA : ∀ q : Nat, s.heap.size ≤ q → A q := fun q h => by rw [← hAe]; exact Or.inr h
  have hw : Wd dC dI A s.heap s.heap [] w0 := ⟨hP, hD, va_S.rf⟩
  have hF : FE ksM ([] : List (Nat × Nat × Nat)) w0 w0 := FE.rf
  have hl := lv_entry ([.ref (ad 0), .int a1]) (n := 2) (Nat.le_of_ble_eq_true rfl)
  rw [lg_entry_eq]
  generalize (lg_sl ([.ref (ad 0), .int a1]) ++ List.replicate (2 - (lg_sl ([.ref (ad 0), .int a1])).length) Slot.unset).toArray = ls at hl ⊢
  have hl : lv_has ls 2 [(0, .ref (ad 0)), (1, .int a1)] := hl
  generalize hloc : ([] : List Loc) = locs at hw ⊢
  have hinX12 : ∀ w ∈ u_ws RX12 TX12 42, w ∈ (wu yX12_isDigit cX12_isDigit 2 (some .boolean)) := fun _ h => List.mem_cons_of_mem _ (up_71 h)
  have J34 : ∀ (f34_0_1 : Int32) (H : Heap) (locs : List Loc) (ls : Array Slot), 0 ≤ a1.toInt → a1.toInt ≤ 400 → 0 ≤ f34_0_1.toInt → f34_0_1.toInt ≤ 400 → Wd dC dI A s.heap H locs w0 → gi w0 0 1 = f34_0_1 → TT (fun n => m_X12_isDigit n 0 a1.toInt (sI w0)) (fun n => b_X12_isDigit_34 n 0 (sI w0)) → lv_has ls 2 [(0, .ref (ad 0)), (1, .int a1)] → W p l e ({ frames := 1, cells := 0, slots := 0, locals := 12 }) s m (List.toArray [.ref (ad 0), .int a1]) below meth c H locs 0 0 (MQ below (va_Qi (Pz_X12_isDigit_1 ad cy B qr s1 a1 w0) (fun u : va_W => wpost dC dI cy A u) A) (List.toArray [.ref (ad 0), .int a1]) s 0 0 A) (F0 m 34 ls []) := by
    intro f34_0_1 H locs ls r1 t2 r3 t4 hw c5 hM hl
    refine lv_iconst (v := 0) hx hb dX12_isDigit_34 (by decide) ?_
    exact tk_zret hC hr rfl hlocks hK ⟨rfl, hM.ret (by decide), (Or.inl ⟨rfl, ⟨f34_0_1, c5, (show 0 ≤ f34_0_1.toInt from r3), (show f34_0_1.toInt ≤ 400 from t4)⟩⟩)⟩ hw dX12_isDigit_35
  have hM : TT (fun n => m_X12_isDigit n 0 a1.toInt (sI w0)) (fun n => m_X12_isDigit n 0 a1.toInt (sI w0)) := TT.rf
  refine lv_iload_n hx hb dX12_isDigit_0 rfl (lv_at hl 1 rfl) ?_
  refine lv_aload_n hx hb dX12_isDigit_1 rfl (lv_at hl 0 rfl) ?_
  refine tk_geti hC hK hw hT hinX12 kM_at0 (by decide) rfl 1 (by decide) (List.mem_cons_of_mem _ uw_8_7) rfl rfl dX12_isDigit_2 (fun x6 c7 rx6 tx6 => ?_)
  replace hM := hM.rd (sI_at c7)
  refine lv_icmp_ge (tgt := 34) hx hb dX12_isDigit_5 (by decide) (fun c8 => ?_) (fun c8 => ?_)
  · have c8 : x6.toInt ≤ a1.toInt := wk_le.mp c8
    replace hM := hM.pos c8
    exact J34 x6 s.heap locs ls  (show 0 ≤ a1.toInt from ra1) (show a1.toInt ≤ 400 from ta1) (show 0 ≤ x6.toInt from rx6) (show x6.toInt ≤ 400 from tx6)  hw  c7 hM (lv_sub hl [0, 1] rfl)
  · have c8 : a1.toInt < x6.toInt := wk_leF c8
    replace hM := hM.neg (Int.not_le.mpr c8)
    refine lv_aload_n hx hb dX12_isDigit_8 rfl (lv_at hl 0 rfl) ?_
    refine tk_getA hC hK hw hT hinX12 kM_at0 (by decide) rfl 0 (by decide) (List.mem_cons_of_mem _ uw_6_14) rfl rfl dX12_isDigit_9 ?_
    refine lv_iload_n hx hb dX12_isDigit_12 rfl (lv_at hl 1 rfl) ?_
    refine tk_bald hC hK hw hT kM_at1 rfl rfl (show 0 ≤ a1.toInt from ra1) (show a1.toInt < 400 by omega) dX12_isDigit_13 (fun x9 c10 rx9 tx9 => ?_)
    have hox9 := c10
    replace hM := hM.rd (sI_at hox9)
    have c10 : gi w0 1 (a1.toInt).toNat = x9 := (congrArg (gi w0 1) (congrArg Int.toNat (show a1.toInt = a1.toInt by omega))).trans c10
    refine lv_bipush (v := 48) hx hb dX12_isDigit_14 (by decide) ?_
    refine lv_icmp_lt (tgt := 34) hx hb dX12_isDigit_16 (by decide) (fun c11 => ?_) (fun c11 => ?_)
    · have c11 : x9.toInt < (48 : Int) := wk_lt.mp c11
      replace hM := hM.pos c11
      exact J34 x6 s.heap locs ls  (show 0 ≤ a1.toInt from ra1) (show a1.toInt ≤ 400 from ta1) (show 0 ≤ x6.toInt from rx6) (show x6.toInt ≤ 400 from tx6)  hw  c7 hM (lv_sub hl [0, 1] rfl)
    · have c11 : (48 : Int) ≤ x9.toInt := wk_ltF c11
      replace hM := hM.neg (Int.not_lt.mpr c11)
      refine lv_aload_n hx hb dX12_isDigit_19 rfl (lv_at hl 0 rfl) ?_
      refine tk_getA hC hK hw hT hinX12 kM_at0 (by decide) rfl 0 (by decide) (List.mem_cons_of_mem _ uw_6_14) rfl rfl dX12_isDigit_20 ?_
      refine lv_iload_n hx hb dX12_isDigit_23 rfl (lv_at hl 1 rfl) ?_
      refine tk_bald hC hK hw hT kM_at1 rfl rfl (show 0 ≤ a1.toInt from ra1) (show a1.toInt < 400 by omega) dX12_isDigit_24 (fun x12 c13 rx12 tx12 => ?_)
      have hox12 := c13
      have c13 : gi w0 1 (a1.toInt).toNat = x12 := (congrArg (gi w0 1) (congrArg Int.toNat (show a1.toInt = a1.toInt by omega))).trans c13
      refine wk_top x9 (c13.symm.trans c10) ?_
      replace hM := hM.rd ((sI_at hox12).trans (congrArg Int32.toInt (c13.symm.trans c10)))
      refine lv_bipush (v := 57) hx hb dX12_isDigit_25 (by decide) ?_
      refine lv_icmp_gt (tgt := 34) hx hb dX12_isDigit_27 (by decide) (fun c14 => ?_) (fun c14 => ?_)
      · have c14 : (57 : Int) < x9.toInt := wk_lt.mp c14
        replace hM := hM.pos c14
        exact J34 x6 s.heap locs ls  (show 0 ≤ a1.toInt from ra1) (show a1.toInt ≤ 400 from ta1) (show 0 ≤ x6.toInt from rx6) (show x6.toInt ≤ 400 from tx6)  hw  c7 hM (lv_sub hl [0, 1] rfl)
      · have c14 : x9.toInt ≤ (57 : Int) := wk_ltF c14
        replace hM := hM.neg (Int.not_lt.mpr c14)
        refine lv_iconst (v := 1) hx hb dX12_isDigit_30 (by decide) ?_
        refine lv_goto (tgt := 35) hx hb dX12_isDigit_31 (by decide) ?_
        exact tk_zret hC hr rfl hlocks hK ⟨rfl, hM.ret (by decide), (Or.inr ⟨rfl, (show a1.toInt ≤ 399 by omega), ⟨x6, c7, (show 1 ≤ x6.toInt by omega), (show x6.toInt ≤ 400 from tx6)⟩⟩)⟩ hw dX12_isDigit_35
abbrev Pz_X12_in_1 (ad : Nat → Nat) (cy : Nat → ClassId) (B : Int) (qr : Nat) (s1 : Int) (a0 : Int64) (a2 : Int64) (w0 : va_W) : Int32 → va_W → Prop := fun r u => w0 = u ∧ Ev (fun n => m_X12_in n a0.toInt 0 a2.toInt (sI w0)) (r.toInt, sI w0) ∧ ((r = 0) ∨ (r = 1 ∧ 0 ≤ a0.toInt ∧ a0.toInt ≤ 11 ∧ 0 ≤ a2.toInt))
set_option maxHeartbeats 4000000 in
set_option maxRecDepth 100000 in
theorem kz_X12_in_1 (l : Launch) (adK adV : Nat → Nat) (dC : Nat → ClassId) (dI : Nat → Nat → Nat) (cy : Nat → ClassId) (ad : Nat → Nat) (B : Int) (hB0 : 100000 ≤ B) (hB1 : B ≤ 1073741824) (qr : Nat) (s1 : Int)  (a0 : Int64) (ra0 : (-2147483648) ≤ a0.toInt) (ta0 : a0.toInt ≤ 2147483647) (a2 : Int64) (ra2 : (-1) ≤ a2.toInt) (ta2 : a2.toInt ≤ 11) (w0 : va_W) (sz : Nat) (hT : TW ksM ad cy B qr 12 w0)  : Met l yX12_in (wu yX12_in cX12_in 6 (some .boolean)) ({ frames := 1, cells := 0, slots := 0, locals := 12 }) (va_Pc [.long a0, .long 0, .long a2] (wpreS adK adV dC dI cy sz w0)) (va_Qi (Pz_X12_in_1 ad cy B qr s1 a0 a2 w0) (fun u : va_W => wpost dC dI cy (va_A w0 sz) u) (va_A w0 sz)) 0 0 (va_A w0 sz) := by
  refine Met.ofW (cc := cX12_in) (maxL := 6) (ret := (some .boolean)) (by decide) rfl ?_
  intro p e s m args below meth c s₁ Bk hml hv
  obtain ⟨rfl, ⟨hsz, hP, hK, hD0⟩, hE, hSR⟩ := hv
  have hx := Bk.exec
  have hb := Bk.bytes
  have hr := Bk.returns
  have hlocks := Bk.notSynchronized
  have hC : CallFix p m c cX12_in 6 s _ (wu yX12_in cX12_in 6 (some .boolean)) RX12 := ⟨hx, hb, hml, findClass_of_methodNamed Bk.named, atoms_spec (ws := (wu yX12_in cX12_in 6 (some .boolean))) Bk.pre⟩
  subst hsz
  have hD := hD0.self (sz := s.heap.size)
  generalize hAe : va_A w0 s.heap.size = A at hD hE ⊢
  have hA : ∀ q : Nat, s.heap.size ≤ q → A q := fun q h => by rw [← hAe]; exact Or.inr h
  have hw : Wd dC dI A s.heap s.heap [] w0 := ⟨hP, hD, va_S.rf⟩
  have hF : FE ksM ([] : List (Nat × Nat × Nat)) w0 w0 := FE.rf
  have hl := lv_entry ([.long a0, .long 0, .long a2]) (n := 6) (Nat.le_of_ble_eq_true rfl)
  rw [lg_entry_eq]
  generalize (lg_sl ([.long a0, .long 0, .long a2]) ++ List.replicate (6 - (lg_sl ([.long a0, .long 0, .long a2])).length) Slot.unset).toArray = ls at hl ⊢
  have hl : lv_has ls 6 [(0, .long a0), (2, .long 0), (4, .long a2)] := hl
  generalize hloc : ([] : List Loc) = locs at hw ⊢
  have J17 : ∀ (H : Heap) (locs : List Loc) (ls : Array Slot), (-2147483648) ≤ a0.toInt → a0.toInt ≤ 2147483647 → (-1) ≤ a2.toInt → a2.toInt ≤ 11 → Wd dC dI A s.heap H locs w0 → TT (fun n => m_X12_in n a0.toInt 0 a2.toInt (sI w0)) (fun n => b_X12_in_17 n (sI w0)) → lv_has ls 6 [(0, .long a0), (2, .long 0), (4, .long a2)] → W p l e ({ frames := 1, cells := 0, slots := 0, locals := 12 }) s m (List.toArray [.long a0, .long 0, .long a2]) below meth c H locs 0 0 (MQ below (va_Qi (Pz_X12_in_1 ad cy B qr s1 a0 a2 w0) (fun u : va_W => wpost dC dI cy A u) A) (List.toArray [.long a0, .long 0, .long a2]) s 0 0 A) (F0 m 17 ls []) := by
    intro H locs ls r1 t2 r3 t4 hw hM hl
    refine lv_iconst (v := 0) hx hb dX12_in_17 (by decide) ?_
    exact tk_zret hC hr rfl hlocks hK ⟨rfl, hM.ret (by decide), (Or.inl rfl)⟩ hw dX12_in_18
  have hM : TT (fun n => m_X12_in n a0.toInt 0 a2.toInt (sI w0)) (fun n => m_X12_in n a0.toInt 0 a2.toInt (sI w0)) := TT.rf
  refine lv_lload_n hx hb dX12_in_0 rfl (lv_at hl 0 rfl) ?_
  refine lv_lload_n hx hb dX12_in_1 rfl (lv_at hl 1 rfl) ?_
  refine W.lcmp hx hb dX12_in_2 ?_
  refine lv_if_lt (tgt := 17) hx hb dX12_in_3 (by decide) (fun c5 => ?_) (fun c5 => ?_)
  · have c5 : a0.toInt < (0 : Int) := wk_cltT c5
    replace hM := hM.pos c5
    exact J17  s.heap locs ls  (show (-2147483648) ≤ a0.toInt from ra0) (show a0.toInt ≤ 2147483647 from ta0) (show (-1) ≤ a2.toInt from ra2) (show a2.toInt ≤ 11 from ta2)  hw  hM (lv_sub hl [0, 1, 2] rfl)
  · have c5 : (0 : Int) ≤ a0.toInt := wk_cltF c5
    replace hM := hM.neg (Int.not_lt.mpr c5)
    refine lv_lload_n hx hb dX12_in_6 rfl (lv_at hl 0 rfl) ?_
    refine lv_lload hx hb dX12_in_7 (lv_at hl 2 rfl) ?_
    refine W.lcmp hx hb dX12_in_9 ?_
    refine lv_if_gt (tgt := 17) hx hb dX12_in_10 (by decide) (fun c6 => ?_) (fun c6 => ?_)
    · have c6 : a2.toInt < a0.toInt := wk_cgtT c6
      replace hM := hM.pos c6
      exact J17  s.heap locs ls  (show (-2147483648) ≤ a0.toInt from ra0) (show a0.toInt ≤ 2147483647 from ta0) (show (-1) ≤ a2.toInt from ra2) (show a2.toInt ≤ 11 from ta2)  hw  hM (lv_sub hl [0, 1, 2] rfl)
    · have c6 : a0.toInt ≤ a2.toInt := wk_cgtF c6
      replace hM := hM.neg (Int.not_lt.mpr c6)
      refine lv_iconst (v := 1) hx hb dX12_in_13 (by decide) ?_
      refine lv_goto (tgt := 18) hx hb dX12_in_14 (by decide) ?_
      exact tk_zret hC hr rfl hlocks hK ⟨rfl, hM.ret (by decide), (Or.inr ⟨rfl, (show 0 ≤ a0.toInt by omega), (show a0.toInt ≤ 11 by omega), (show 0 ≤ a2.toInt by omega)⟩)⟩ hw dX12_in_18
abbrev Pz_X12_isDigit_2 (ad : Nat → Nat) (cy : Nat → ClassId) (B : Int) (qr : Nat) (s1 : Int) (a1 : Int32) (w0 : va_W) : Int32 → va_W → Prop := fun r u => w0 = u ∧ Ev (fun n => m_X12_isDigit n 0 a1.toInt (sI w0)) (r.toInt, sI w0) ∧ ((r = 0 ∧ (∃ y : Int32, gi u 0 1 = y ∧ 0 ≤ y.toInt ∧ y.toInt ≤ 400)) ∨ (r = 1 ∧ (∃ y : Int32, gi u 0 1 = y ∧ 1 ≤ y.toInt ∧ y.toInt ≤ 400)))
set_option maxHeartbeats 4000000 in
set_option maxRecDepth 100000 in
theorem kz_X12_isDigit_2 (l : Launch) (adK adV : Nat → Nat) (dC : Nat → ClassId) (dI : Nat → Nat → Nat) (cy : Nat → ClassId) (ad : Nat → Nat) (B : Int) (hB0 : 100000 ≤ B) (hB1 : B ≤ 1073741824) (qr : Nat) (s1 : Int)  (a1 : Int32) (ra1 : 0 ≤ a1.toInt) (ta1 : a1.toInt ≤ 399) (w0 : va_W) (sz : Nat) (hT : TW ksM ad cy B qr 12 w0)  : Met l yX12_isDigit (wu yX12_isDigit cX12_isDigit 2 (some .boolean)) ({ frames := 1, cells := 0, slots := 0, locals := 12 }) (va_Pc [.ref (ad 0), .int a1] (wpreS adK adV dC dI cy sz w0)) (va_Qi (Pz_X12_isDigit_2 ad cy B qr s1 a1 w0) (fun u : va_W => wpost dC dI cy (va_A w0 sz) u) (va_A w0 sz)) 0 0 (va_A w0 sz) := by
  refine Met.ofW (cc := cX12_isDigit) (maxL := 2) (ret := (some .boolean)) (by decide) rfl ?_
  intro p e s m args below meth c s₁ Bk hml hv
  obtain ⟨rfl, ⟨hsz, hP, hK, hD0⟩, hE, hSR⟩ := hv
  have hx := Bk.exec
  have hb := Bk.bytes
  have hr := Bk.returns
  have hlocks := Bk.notSynchronized
  have hC : CallFix p m c cX12_isDigit 2 s _ (wu yX12_isDigit cX12_isDigit 2 (some .boolean)) RX12 := ⟨hx, hb, hml, findClass_of_methodNamed Bk.named, atoms_spec (ws := (wu yX12_isDigit cX12_isDigit 2 (some .boolean))) Bk.pre⟩
  subst hsz
  have hD := hD0.self (sz := s.heap.size)
  generalize hAe : va_A w0 s.heap.size = A at hD hE ⊢
  have hA : ∀ q : Nat, s.heap.size ≤ q → A q := fun q h => by rw [← hAe]; exact Or.inr h
  have hw : Wd dC dI A s.heap s.heap [] w0 := ⟨hP, hD, va_S.rf⟩
  have hF : FE ksM ([] : List (Nat × Nat × Nat)) w0 w0 := FE.rf
  have hl := lv_entry ([.ref (ad 0), .int a1]) (n := 2) (Nat.le_of_ble_eq_true rfl)
  rw [lg_entry_eq]
  generalize (lg_sl ([.ref (ad 0), .int a1]) ++ List.replicate (2 - (lg_sl ([.ref (ad 0), .int a1])).length) Slot.unset).toArray = ls at hl ⊢
  have hl : lv_has ls 2 [(0, .ref (ad 0)), (1, .int a1)] := hl
  generalize hloc : ([] : List Loc) = locs at hw ⊢
  have hinX12 : ∀ w ∈ u_ws RX12 TX12 42, w ∈ (wu yX12_isDigit cX12_isDigit 2 (some .boolean)) := fun _ h => List.mem_cons_of_mem _ (up_71 h)
  have J34 : ∀ (f34_0_1 : Int32) (H : Heap) (locs : List Loc) (ls : Array Slot), 0 ≤ a1.toInt → a1.toInt ≤ 399 → 0 ≤ f34_0_1.toInt → f34_0_1.toInt ≤ 400 → Wd dC dI A s.heap H locs w0 → gi w0 0 1 = f34_0_1 → TT (fun n => m_X12_isDigit n 0 a1.toInt (sI w0)) (fun n => b_X12_isDigit_34 n 0 (sI w0)) → lv_has ls 2 [(0, .ref (ad 0)), (1, .int a1)] → W p l e ({ frames := 1, cells := 0, slots := 0, locals := 12 }) s m (List.toArray [.ref (ad 0), .int a1]) below meth c H locs 0 0 (MQ below (va_Qi (Pz_X12_isDigit_2 ad cy B qr s1 a1 w0) (fun u : va_W => wpost dC dI cy A u) A) (List.toArray [.ref (ad 0), .int a1]) s 0 0 A) (F0 m 34 ls []) := by
    intro f34_0_1 H locs ls r1 t2 r3 t4 hw c5 hM hl
    refine lv_iconst (v := 0) hx hb dX12_isDigit_34 (by decide) ?_
    exact tk_zret hC hr rfl hlocks hK ⟨rfl, hM.ret (by decide), (Or.inl ⟨rfl, ⟨f34_0_1, c5, (show 0 ≤ f34_0_1.toInt from r3), (show f34_0_1.toInt ≤ 400 from t4)⟩⟩)⟩ hw dX12_isDigit_35
  have hM : TT (fun n => m_X12_isDigit n 0 a1.toInt (sI w0)) (fun n => m_X12_isDigit n 0 a1.toInt (sI w0)) := TT.rf
  refine lv_iload_n hx hb dX12_isDigit_0 rfl (lv_at hl 1 rfl) ?_
  refine lv_aload_n hx hb dX12_isDigit_1 rfl (lv_at hl 0 rfl) ?_
  refine tk_geti hC hK hw hT hinX12 kM_at0 (by decide) rfl 1 (by decide) (List.mem_cons_of_mem _ uw_8_7) rfl rfl dX12_isDigit_2 (fun x6 c7 rx6 tx6 => ?_)
  replace hM := hM.rd (sI_at c7)
  refine lv_icmp_ge (tgt := 34) hx hb dX12_isDigit_5 (by decide) (fun c8 => ?_) (fun c8 => ?_)
  · have c8 : x6.toInt ≤ a1.toInt := wk_le.mp c8
    replace hM := hM.pos c8
    exact J34 x6 s.heap locs ls  (show 0 ≤ a1.toInt from ra1) (show a1.toInt ≤ 399 from ta1) (show 0 ≤ x6.toInt from rx6) (show x6.toInt ≤ 400 from tx6)  hw  c7 hM (lv_sub hl [0, 1] rfl)
  · have c8 : a1.toInt < x6.toInt := wk_leF c8
    replace hM := hM.neg (Int.not_le.mpr c8)
    refine lv_aload_n hx hb dX12_isDigit_8 rfl (lv_at hl 0 rfl) ?_
    refine tk_getA hC hK hw hT hinX12 kM_at0 (by decide) rfl 0 (by decide) (List.mem_cons_of_mem _ uw_6_14) rfl rfl dX12_isDigit_9 ?_
    refine lv_iload_n hx hb dX12_isDigit_12 rfl (lv_at hl 1 rfl) ?_
    refine tk_bald hC hK hw hT kM_at1 rfl rfl (show 0 ≤ a1.toInt from ra1) (show a1.toInt < 400 from Int.lt_of_le_of_lt ta1 (by decide)) dX12_isDigit_13 (fun x9 c10 rx9 tx9 => ?_)
    have hox9 := c10
    replace hM := hM.rd (sI_at hox9)
    have c10 : gi w0 1 (a1.toInt).toNat = x9 := (congrArg (gi w0 1) (congrArg Int.toNat (show a1.toInt = a1.toInt by omega))).trans c10
    refine lv_bipush (v := 48) hx hb dX12_isDigit_14 (by decide) ?_
    refine lv_icmp_lt (tgt := 34) hx hb dX12_isDigit_16 (by decide) (fun c11 => ?_) (fun c11 => ?_)
    · have c11 : x9.toInt < (48 : Int) := wk_lt.mp c11
      replace hM := hM.pos c11
      exact J34 x6 s.heap locs ls  (show 0 ≤ a1.toInt from ra1) (show a1.toInt ≤ 399 from ta1) (show 0 ≤ x6.toInt from rx6) (show x6.toInt ≤ 400 from tx6)  hw  c7 hM (lv_sub hl [0, 1] rfl)
    · have c11 : (48 : Int) ≤ x9.toInt := wk_ltF c11
      replace hM := hM.neg (Int.not_lt.mpr c11)
      refine lv_aload_n hx hb dX12_isDigit_19 rfl (lv_at hl 0 rfl) ?_
      refine tk_getA hC hK hw hT hinX12 kM_at0 (by decide) rfl 0 (by decide) (List.mem_cons_of_mem _ uw_6_14) rfl rfl dX12_isDigit_20 ?_
      refine lv_iload_n hx hb dX12_isDigit_23 rfl (lv_at hl 1 rfl) ?_
      refine tk_bald hC hK hw hT kM_at1 rfl rfl (show 0 ≤ a1.toInt from ra1) (show a1.toInt < 400 from Int.lt_of_le_of_lt ta1 (by decide)) dX12_isDigit_24 (fun x12 c13 rx12 tx12 => ?_)
      have hox12 := c13
      have c13 : gi w0 1 (a1.toInt).toNat = x12 := (congrArg (gi w0 1) (congrArg Int.toNat (show a1.toInt = a1.toInt by omega))).trans c13
      refine wk_top x9 (c13.symm.trans c10) ?_
      replace hM := hM.rd ((sI_at hox12).trans (congrArg Int32.toInt (c13.symm.trans c10)))
      refine lv_bipush (v := 57) hx hb dX12_isDigit_25 (by decide) ?_
      refine lv_icmp_gt (tgt := 34) hx hb dX12_isDigit_27 (by decide) (fun c14 => ?_) (fun c14 => ?_)
      · have c14 : (57 : Int) < x9.toInt := wk_lt.mp c14
        replace hM := hM.pos c14
        exact J34 x6 s.heap locs ls  (show 0 ≤ a1.toInt from ra1) (show a1.toInt ≤ 399 from ta1) (show 0 ≤ x6.toInt from rx6) (show x6.toInt ≤ 400 from tx6)  hw  c7 hM (lv_sub hl [0, 1] rfl)
      · have c14 : x9.toInt ≤ (57 : Int) := wk_ltF c14
        replace hM := hM.neg (Int.not_lt.mpr c14)
        refine lv_iconst (v := 1) hx hb dX12_isDigit_30 (by decide) ?_
        refine lv_goto (tgt := 35) hx hb dX12_isDigit_31 (by decide) ?_
        exact tk_zret hC hr rfl hlocks hK ⟨rfl, hM.ret (by decide), (Or.inr ⟨rfl, ⟨x6, c7, (show 1 ≤ x6.toInt by omega), (show x6.toInt ≤ 400 from tx6)⟩⟩)⟩ hw dX12_isDigit_35
abbrev Pz_X12_isDigit_3 (ad : Nat → Nat) (cy : Nat → ClassId) (B : Int) (qr : Nat) (s1 : Int) (a1 : Int32) (w0 : va_W) : Int32 → va_W → Prop := fun r u => w0 = u ∧ Ev (fun n => m_X12_isDigit n 0 a1.toInt (sI w0)) (r.toInt, sI w0) ∧ ((r = 0 ∧ (∃ y : Int32, gi u 0 1 = y ∧ 0 ≤ y.toInt ∧ y.toInt ≤ 400)) ∨ (r = 1 ∧ (∃ y : Int32, gi u 0 1 = y ∧ 2 ≤ y.toInt ∧ y.toInt ≤ 400)))
set_option maxHeartbeats 4000000 in
set_option maxRecDepth 100000 in
theorem kz_X12_isDigit_3 (l : Launch) (adK adV : Nat → Nat) (dC : Nat → ClassId) (dI : Nat → Nat → Nat) (cy : Nat → ClassId) (ad : Nat → Nat) (B : Int) (hB0 : 100000 ≤ B) (hB1 : B ≤ 1073741824) (qr : Nat) (s1 : Int)  (a1 : Int32) (ra1 : 1 ≤ a1.toInt) (ta1 : a1.toInt ≤ 399) (w0 : va_W) (sz : Nat) (hT : TW ksM ad cy B qr 12 w0)  : Met l yX12_isDigit (wu yX12_isDigit cX12_isDigit 2 (some .boolean)) ({ frames := 1, cells := 0, slots := 0, locals := 12 }) (va_Pc [.ref (ad 0), .int a1] (wpreS adK adV dC dI cy sz w0)) (va_Qi (Pz_X12_isDigit_3 ad cy B qr s1 a1 w0) (fun u : va_W => wpost dC dI cy (va_A w0 sz) u) (va_A w0 sz)) 0 0 (va_A w0 sz) := by
  refine Met.ofW (cc := cX12_isDigit) (maxL := 2) (ret := (some .boolean)) (by decide) rfl ?_
  intro p e s m args below meth c s₁ Bk hml hv
  obtain ⟨rfl, ⟨hsz, hP, hK, hD0⟩, hE, hSR⟩ := hv
  have hx := Bk.exec
  have hb := Bk.bytes
  have hr := Bk.returns
  have hlocks := Bk.notSynchronized
  have hC : CallFix p m c cX12_isDigit 2 s _ (wu yX12_isDigit cX12_isDigit 2 (some .boolean)) RX12 := ⟨hx, hb, hml, findClass_of_methodNamed Bk.named, atoms_spec (ws := (wu yX12_isDigit cX12_isDigit 2 (some .boolean))) Bk.pre⟩
  subst hsz
  have hD := hD0.self (sz := s.heap.size)
  generalize hAe : va_A w0 s.heap.size = A at hD hE ⊢
  have hA : ∀ q : Nat, s.heap.size ≤ q → A q := fun q h => by rw [← hAe]; exact Or.inr h
  have hw : Wd dC dI A s.heap s.heap [] w0 := ⟨hP, hD, va_S.rf⟩
  have hF : FE ksM ([] : List (Nat × Nat × Nat)) w0 w0 := FE.rf
  have hl := lv_entry ([.ref (ad 0), .int a1]) (n := 2) (Nat.le_of_ble_eq_true rfl)
  rw [lg_entry_eq]
  generalize (lg_sl ([.ref (ad 0), .int a1]) ++ List.replicate (2 - (lg_sl ([.ref (ad 0), .int a1])).length) Slot.unset).toArray = ls at hl ⊢
  have hl : lv_has ls 2 [(0, .ref (ad 0)), (1, .int a1)] := hl
  generalize hloc : ([] : List Loc) = locs at hw ⊢
  have hinX12 : ∀ w ∈ u_ws RX12 TX12 42, w ∈ (wu yX12_isDigit cX12_isDigit 2 (some .boolean)) := fun _ h => List.mem_cons_of_mem _ (up_71 h)
  have J34 : ∀ (f34_0_1 : Int32) (H : Heap) (locs : List Loc) (ls : Array Slot), 1 ≤ a1.toInt → a1.toInt ≤ 399 → 0 ≤ f34_0_1.toInt → f34_0_1.toInt ≤ 400 → Wd dC dI A s.heap H locs w0 → gi w0 0 1 = f34_0_1 → TT (fun n => m_X12_isDigit n 0 a1.toInt (sI w0)) (fun n => b_X12_isDigit_34 n 0 (sI w0)) → lv_has ls 2 [(0, .ref (ad 0)), (1, .int a1)] → W p l e ({ frames := 1, cells := 0, slots := 0, locals := 12 }) s m (List.toArray [.ref (ad 0), .int a1]) below meth c H locs 0 0 (MQ below (va_Qi (Pz_X12_isDigit_3 ad cy B qr s1 a1 w0) (fun u : va_W => wpost dC dI cy A u) A) (List.toArray [.ref (ad 0), .int a1]) s 0 0 A) (F0 m 34 ls []) := by
    intro f34_0_1 H locs ls r1 t2 r3 t4 hw c5 hM hl
    refine lv_iconst (v := 0) hx hb dX12_isDigit_34 (by decide) ?_
    exact tk_zret hC hr rfl hlocks hK ⟨rfl, hM.ret (by decide), (Or.inl ⟨rfl, ⟨f34_0_1, c5, (show 0 ≤ f34_0_1.toInt from r3), (show f34_0_1.toInt ≤ 400 from t4)⟩⟩)⟩ hw dX12_isDigit_35
  have hM : TT (fun n => m_X12_isDigit n 0 a1.toInt (sI w0)) (fun n => m_X12_isDigit n 0 a1.toInt (sI w0)) := TT.rf
  refine lv_iload_n hx hb dX12_isDigit_0 rfl (lv_at hl 1 rfl) ?_
  refine lv_aload_n hx hb dX12_isDigit_1 rfl (lv_at hl 0 rfl) ?_
  refine tk_geti hC hK hw hT hinX12 kM_at0 (by decide) rfl 1 (by decide) (List.mem_cons_of_mem _ uw_8_7) rfl rfl dX12_isDigit_2 (fun x6 c7 rx6 tx6 => ?_)
  replace hM := hM.rd (sI_at c7)
  refine lv_icmp_ge (tgt := 34) hx hb dX12_isDigit_5 (by decide) (fun c8 => ?_) (fun c8 => ?_)
  · have c8 : x6.toInt ≤ a1.toInt := wk_le.mp c8
    replace hM := hM.pos c8
    exact J34 x6 s.heap locs ls  (show 1 ≤ a1.toInt from ra1) (show a1.toInt ≤ 399 from ta1) (show 0 ≤ x6.toInt from rx6) (show x6.toInt ≤ 400 from tx6)  hw  c7 hM (lv_sub hl [0, 1] rfl)
  · have c8 : a1.toInt < x6.toInt := wk_leF c8
    replace hM := hM.neg (Int.not_le.mpr c8)
    refine lv_aload_n hx hb dX12_isDigit_8 rfl (lv_at hl 0 rfl) ?_
    refine tk_getA hC hK hw hT hinX12 kM_at0 (by decide) rfl 0 (by decide) (List.mem_cons_of_mem _ uw_6_14) rfl rfl dX12_isDigit_9 ?_
    refine lv_iload_n hx hb dX12_isDigit_12 rfl (lv_at hl 1 rfl) ?_
    refine tk_bald hC hK hw hT kM_at1 rfl rfl (show 0 ≤ a1.toInt from Int.le_trans (by decide) ra1) (show a1.toInt < 400 from Int.lt_of_le_of_lt ta1 (by decide)) dX12_isDigit_13 (fun x9 c10 rx9 tx9 => ?_)
    have hox9 := c10
    replace hM := hM.rd (sI_at hox9)
    have c10 : gi w0 1 (a1.toInt).toNat = x9 := (congrArg (gi w0 1) (congrArg Int.toNat (show a1.toInt = a1.toInt by omega))).trans c10
    refine lv_bipush (v := 48) hx hb dX12_isDigit_14 (by decide) ?_
    refine lv_icmp_lt (tgt := 34) hx hb dX12_isDigit_16 (by decide) (fun c11 => ?_) (fun c11 => ?_)
    · have c11 : x9.toInt < (48 : Int) := wk_lt.mp c11
      replace hM := hM.pos c11
      exact J34 x6 s.heap locs ls  (show 1 ≤ a1.toInt from ra1) (show a1.toInt ≤ 399 from ta1) (show 0 ≤ x6.toInt from rx6) (show x6.toInt ≤ 400 from tx6)  hw  c7 hM (lv_sub hl [0, 1] rfl)
    · have c11 : (48 : Int) ≤ x9.toInt := wk_ltF c11
      replace hM := hM.neg (Int.not_lt.mpr c11)
      refine lv_aload_n hx hb dX12_isDigit_19 rfl (lv_at hl 0 rfl) ?_
      refine tk_getA hC hK hw hT hinX12 kM_at0 (by decide) rfl 0 (by decide) (List.mem_cons_of_mem _ uw_6_14) rfl rfl dX12_isDigit_20 ?_
      refine lv_iload_n hx hb dX12_isDigit_23 rfl (lv_at hl 1 rfl) ?_
      refine tk_bald hC hK hw hT kM_at1 rfl rfl (show 0 ≤ a1.toInt from Int.le_trans (by decide) ra1) (show a1.toInt < 400 from Int.lt_of_le_of_lt ta1 (by decide)) dX12_isDigit_24 (fun x12 c13 rx12 tx12 => ?_)
      have hox12 := c13
      have c13 : gi w0 1 (a1.toInt).toNat = x12 := (congrArg (gi w0 1) (congrArg Int.toNat (show a1.toInt = a1.toInt by omega))).trans c13
      refine wk_top x9 (c13.symm.trans c10) ?_
      replace hM := hM.rd ((sI_at hox12).trans (congrArg Int32.toInt (c13.symm.trans c10)))
      refine lv_bipush (v := 57) hx hb dX12_isDigit_25 (by decide) ?_
      refine lv_icmp_gt (tgt := 34) hx hb dX12_isDigit_27 (by decide) (fun c14 => ?_) (fun c14 => ?_)
      · have c14 : (57 : Int) < x9.toInt := wk_lt.mp c14
        replace hM := hM.pos c14
        exact J34 x6 s.heap locs ls  (show 1 ≤ a1.toInt from ra1) (show a1.toInt ≤ 399 from ta1) (show 0 ≤ x6.toInt from rx6) (show x6.toInt ≤ 400 from tx6)  hw  c7 hM (lv_sub hl [0, 1] rfl)
      · have c14 : x9.toInt ≤ (57 : Int) := wk_ltF c14
        replace hM := hM.neg (Int.not_lt.mpr c14)
        refine lv_iconst (v := 1) hx hb dX12_isDigit_30 (by decide) ?_
        refine lv_goto (tgt := 35) hx hb dX12_isDigit_31 (by decide) ?_
        exact tk_zret hC hr rfl hlocks hK ⟨rfl, hM.ret (by decide), (Or.inr ⟨rfl, ⟨x6, c7, (show 2 ≤ x6.toInt by omega), (show x6.toInt ≤ 400 from tx6)⟩⟩)⟩ hw dX12_isDigit_35
abbrev Pz_X12_numberHere_1 (ad : Nat → Nat) (cy : Nat → ClassId) (B : Int) (qr : Nat) (s1 : Int) (a2 : Int32) (w0 : va_W) : Int32 → va_W → Prop := fun r u => TW ksM ad cy B qr 12 u ∧ FE ksM [(12, 14, 14), (12, 15, 15), (12, 16, 16)] w0 u ∧ Ev (fun n => m_X12_numberHere n 0 0 a2.toInt (sI w0)) (r.toInt, sI u) ∧ ((r = 0 ∧ (∃ y : Int32, gi u 0 1 = y ∧ 1 ≤ y.toInt ∧ y.toInt ≤ 400) ∧ (∃ y : Int32, gi u 0 15 = y ∧ 1 ≤ y.toInt ∧ y.toInt ≤ 3205)) ∨ (r = 0 ∧ (∃ y : Int32, gi u 0 1 = y ∧ 0 ≤ y.toInt ∧ y.toInt ≤ 400) ∧ (∃ y : Int32, gi u 0 15 = y ∧ 1 ≤ y.toInt ∧ y.toInt ≤ 3205)) ∨ (r = 1 ∧ 0 ≤ a2.toInt ∧ (∃ y : Int32, gi u 0 1 = y ∧ 1 ≤ y.toInt ∧ y.toInt ≤ 400) ∧ (∃ y : Int32, gi u 0 16 = y ∧ 0 ≤ y.toInt ∧ y.toInt ≤ 11)))
set_option maxHeartbeats 4000000 in
set_option maxRecDepth 100000 in
theorem kz_X12_numberHere_1 (l : Launch) (adK adV : Nat → Nat) (dC : Nat → ClassId) (dI : Nat → Nat → Nat) (cy : Nat → ClassId) (ad : Nat → Nat) (B : Int) (hB0 : 100000 ≤ B) (hB1 : B ≤ 1073741824) (qr : Nat) (s1 : Int)  (a2 : Int32) (ra2 : (-1) ≤ a2.toInt) (ta2 : a2.toInt ≤ 11) (w0 : va_W) (sz : Nat) (hT : TW ksM ad cy B qr 12 w0)  : Met l yX12_numberHere (wu yX12_numberHere cX12_numberHere 5 (some .boolean)) ({ frames := 2, cells := 0, slots := 0, locals := 37 }) (va_Pc [.ref (ad 0), .int 0, .int a2] (wpreS adK adV dC dI cy sz w0)) (va_Qi (Pz_X12_numberHere_1 ad cy B qr s1 a2 w0) (fun u : va_W => wpost dC dI cy (va_A w0 sz) u) (va_A w0 sz)) 0 0 (va_A w0 sz) := by
  refine Met.ofW (cc := cX12_numberHere) (maxL := 5) (ret := (some .boolean)) (by decide) rfl ?_
  intro p e s m args below meth c s₁ Bk hml hv
  obtain ⟨rfl, ⟨hsz, hP, hK, hD0⟩, hE, hSR⟩ := hv
  have hx := Bk.exec
  have hb := Bk.bytes
  have hr := Bk.returns
  have hlocks := Bk.notSynchronized
  have hC : CallFix p m c cX12_numberHere 5 s _ (wu yX12_numberHere cX12_numberHere 5 (some .boolean)) RX12 := ⟨hx, hb, hml, findClass_of_methodNamed Bk.named, atoms_spec (ws := (wu yX12_numberHere cX12_numberHere 5 (some .boolean))) Bk.pre⟩
  subst hsz
  have hD := hD0.self (sz := s.heap.size)
  generalize hAe : va_A w0 s.heap.size = A at hD hE ⊢
  have hA : ∀ q : Nat, s.heap.size ≤ q → A q := fun q h => by rw [← hAe]; exact Or.inr h
  have hw : Wd dC dI A s.heap s.heap [] w0 := ⟨hP, hD, va_S.rf⟩
  have hF : FE ksM [(12, 14, 14), (12, 15, 15), (12, 16, 16)] w0 w0 := FE.rf
  have hl := lv_entry ([.ref (ad 0), .int 0, .int a2]) (n := 5) (Nat.le_of_ble_eq_true rfl)
  rw [lg_entry_eq]
  generalize (lg_sl ([.ref (ad 0), .int 0, .int a2]) ++ List.replicate (5 - (lg_sl ([.ref (ad 0), .int 0, .int a2])).length) Slot.unset).toArray = ls at hl ⊢
  have hl : lv_has ls 5 [(0, .ref (ad 0)), (1, .int 0), (2, .int a2)] := hl
  generalize hloc : ([] : List Loc) = locs at hw ⊢
  have hinX12 : ∀ w ∈ u_ws RX12 TX12 42, w ∈ (wu yX12_numberHere cX12_numberHere 5 (some .boolean)) := fun _ h => List.mem_cons_of_mem _ (up_71 h)
  have J126 : ∀ (v126_3 : Int32) (v126_4 : Int32) (f126_0_1 : Int32) (f126_0_14 : Int32) (f126_0_16 : Int32) (H : Heap) (locs : List Loc) (ls : Array Slot) (w1 : va_W), 0 ≤ a2.toInt → a2.toInt ≤ 11 → 0 ≤ v126_3.toInt → v126_3.toInt ≤ 399 → 0 ≤ v126_4.toInt → v126_4.toInt ≤ 11 → 1 ≤ f126_0_1.toInt → f126_0_1.toInt ≤ 400 → 0 ≤ f126_0_14.toInt → f126_0_14.toInt ≤ 400 → 0 ≤ f126_0_16.toInt → f126_0_16.toInt ≤ 11 → Wd dC dI A s.heap H locs w1 → TW ksM ad cy B qr 12 w1 → FE ksM [(12, 14, 14), (12, 15, 15), (12, 16, 16)] w0 w1 → gi w1 0 1 = f126_0_1 → gi w1 0 14 = f126_0_14 → gi w1 0 16 = f126_0_16 → TT (fun n => m_X12_numberHere n 0 0 a2.toInt (sI w0)) (fun n => b_X12_numberHere_126 (j_X12_numberHere 0 n) n 0 (sI w1)) → lv_has ls 5 [(0, .ref (ad 0)), (1, .int 0), (2, .int a2), (3, .int v126_3), (4, .int v126_4)] → W p l e ({ frames := 2, cells := 0, slots := 0, locals := 37 }) s m (List.toArray [.ref (ad 0), .int 0, .int a2]) below meth c H locs 0 0 (MQ below (va_Qi (Pz_X12_numberHere_1 ad cy B qr s1 a2 w0) (fun u : va_W => wpost dC dI cy A u) A) (List.toArray [.ref (ad 0), .int 0, .int a2]) s 0 0 A) (F0 m 126 ls []) := by
    intro v126_3 v126_4 f126_0_1 f126_0_14 f126_0_16 H locs ls w1 r2 t3 r4 t5 r6 t7 r8 t9 r11 t12 r14 t15 hw hT hF c10 c13 c16 hM hl
    refine lv_iconst (v := 1) hx hb dX12_numberHere_126 (by decide) ?_
    refine lv_goto (tgt := 131) hx hb dX12_numberHere_127 (by decide) ?_
    exact tk_zret hC hr rfl hlocks hK ⟨hT, hF, hM.ret (by decide), (Or.inr (Or.inr ⟨rfl, (show 0 ≤ a2.toInt from r2), ⟨f126_0_1, c10, (show 1 ≤ f126_0_1.toInt from r8), (show f126_0_1.toInt ≤ 400 from t9)⟩, ⟨f126_0_16, c16, (show 0 ≤ f126_0_16.toInt from r14), (show f126_0_16.toInt ≤ 11 from t15)⟩⟩))⟩ hw dX12_numberHere_131
  have J117 : ∀ (v117_3 : Int32) (v117_4 : Int32) (f117_0_1 : Int32) (f117_0_14 : Int32) (f117_0_16 : Int32) (H : Heap) (locs : List Loc) (ls : Array Slot) (w17 : va_W), (-1) ≤ a2.toInt → a2.toInt ≤ 11 → 0 ≤ v117_3.toInt → v117_3.toInt ≤ 399 → 1 ≤ f117_0_1.toInt → f117_0_1.toInt ≤ 400 → 0 ≤ f117_0_14.toInt → f117_0_14.toInt ≤ 400 → Wd dC dI A s.heap H locs w17 → TW ksM ad cy B qr 12 w17 → FE ksM [(12, 14, 14), (12, 15, 15), (12, 16, 16)] w0 w17 → gi w17 0 1 = f117_0_1 → gi w17 0 14 = f117_0_14 → gi w17 0 16 = f117_0_16 → TT (fun n => m_X12_numberHere n 0 0 a2.toInt (sI w0)) (fun n => b_X12_numberHere_117 (j_X12_numberHere 0 n) n 0 (v117_3.toInt) (sI w17)) → lv_has ls 5 [(0, .ref (ad 0)), (1, .int 0), (2, .int a2), (3, .int v117_3), (4, .int v117_4)] → W p l e ({ frames := 2, cells := 0, slots := 0, locals := 37 }) s m (List.toArray [.ref (ad 0), .int 0, .int a2]) below meth c H locs 0 0 (MQ below (va_Qi (Pz_X12_numberHere_1 ad cy B qr s1 a2 w0) (fun u : va_W => wpost dC dI cy A u) A) (List.toArray [.ref (ad 0), .int 0, .int a2]) s 0 0 A) (F0 m 117 ls []) := by
    intro v117_3 v117_4 f117_0_1 f117_0_14 f117_0_16 H locs ls w17 r18 t19 r20 t21 r22 t23 r25 t26 hw hT hF c24 c27 c28 hM hl
    refine lv_aload_n hx hb dX12_numberHere_117 rfl (lv_at hl 0 rfl) ?_
    refine lv_iconst (v := 1) hx hb dX12_numberHere_118 (by decide) ?_
    refine lv_iload_n hx hb dX12_numberHere_119 rfl (lv_at hl 3 rfl) ?_
    refine tk_Vi hC hK hw hT hA hE hSR kM_at0 (by decide) rfl (kz_X12_fails_1 l adK adV dC dI cy ad B (by omega) (by omega) qr s1   1 (by decide) (by decide) v117_3 (show 0 ≤ v117_3.toInt from r20) (show v117_3.toInt ≤ 400 from Int.le_trans t21 (by decide)) w17 H.size hT ) (cwV 2 hC.2.2.2.2 uV_RX12_115 rfl rfl rfl (by decide +kernel) ⟨Nat.le_of_ble_eq_true rfl, Nat.le_of_ble_eq_true rfl⟩) rfl hl.1 rfl (Nat.le_of_ble_eq_true rfl) dX12_numberHere_120 (fun r29 w31 H locs hp30 hw => ?_)
    obtain ⟨hT, k32, hv36, hg35⟩ := hp30
    try simp only [show (1 : Int32).toInt = 1 by decide] at hv36
    have hF := hF.tr k32 (by decide)
    have c37 := k32.gi kM_at0 (by decide) c24
    have c38 := k32.gi kM_at0 (by decide) c27
    have c39 := k32.gi kM_at0 (by decide) c28
    obtain ⟨rfl, ⟨x33, c34, rx33, tx33⟩⟩ := hg35
    replace hM := hM.call (r' := 0) hv36 (by decide)
    refine lv_if_eq (tgt := 130) hx hb dX12_numberHere_123 (by decide) (fun _ => ?_) (fun c => absurd (by decide) c)
    replace hM := hM.pos (by decide)
    refine lv_iconst (v := 0) hx hb dX12_numberHere_130 (by decide) ?_
    exact tk_zret hC hr rfl hlocks hK ⟨hT, hF, hM.ret (by decide), (Or.inl ⟨rfl, ⟨f117_0_1, c37, (show 1 ≤ f117_0_1.toInt from r22), (show f117_0_1.toInt ≤ 400 from t23)⟩, ⟨x33, c34, (show 1 ≤ x33.toInt by omega), (show x33.toInt ≤ 3205 by omega)⟩⟩)⟩ hw dX12_numberHere_131
  have L34 : ∀ (n34 : Nat) (v34_3 : Int32) (v34_4 : Int32) (f34_0_1 : Int32) (f34_0_14 : Int32) (H : Heap) (locs : List Loc) (ls : Array Slot) (w40 : va_W), (-1) ≤ a2.toInt → a2.toInt ≤ 11 → 0 ≤ v34_3.toInt → v34_3.toInt ≤ 399 → 1 ≤ f34_0_1.toInt → f34_0_1.toInt ≤ 400 → 0 ≤ f34_0_14.toInt → f34_0_14.toInt ≤ 400 → (400 - f34_0_14.toInt).toNat < n34 → Wd dC dI A s.heap H locs w40 → TW ksM ad cy B qr 12 w40 → FE ksM [(12, 14, 14), (12, 15, 15), (12, 16, 16)] w0 w40 → gi w40 0 1 = f34_0_1 → gi w40 0 14 = f34_0_14 → TT (fun n => m_X12_numberHere n 0 0 a2.toInt (sI w0)) (fun n => j_X12_numberHere 0 n 34 [(0 : Int), a2.toInt, v34_3.toInt, v34_4.toInt] (sI w40)) → lv_has ls 5 [(0, .ref (ad 0)), (1, .int 0), (2, .int a2), (3, .int v34_3), (4, .int v34_4)] → W p l e ({ frames := 2, cells := 0, slots := 0, locals := 37 }) s m (List.toArray [.ref (ad 0), .int 0, .int a2]) below meth c H locs 0 0 (MQ below (va_Qi (Pz_X12_numberHere_1 ad cy B qr s1 a2 w0) (fun u : va_W => wpost dC dI cy A u) A) (List.toArray [.ref (ad 0), .int 0, .int a2]) s 0 0 A) (F0 m 34 ls []) := by
    intro n34
    induction n34 with
    | zero => intro v34_3 v34_4 f34_0_1 f34_0_14 H locs ls w40 r41 t42 r43 t44 r45 t46 r48 t49 hm34 hw hT hF c47 c50 hM hl; omega
    | succ n34 ih34 =>
      intro v34_3 v34_4 f34_0_1 f34_0_14 H locs ls w40 r41 t42 r43 t44 r45 t46 r48 t49 hm34 hw hT hF c47 c50 hM hl
      have J75 : ∀ (v75_4 : Int32) (H : Heap) (locs : List Loc) (ls : Array Slot) (w51 : va_W), (-1) ≤ a2.toInt → a2.toInt ≤ 11 → 0 ≤ v34_3.toInt → v34_3.toInt ≤ 399 → 1 ≤ f34_0_1.toInt → f34_0_1.toInt ≤ 400 → 0 ≤ f34_0_14.toInt → f34_0_14.toInt ≤ 399 → Wd dC dI A s.heap H locs w51 → TW ksM ad cy B qr 12 w51 → FE ksM [(12, 14, 14), (12, 15, 15), (12, 16, 16)] w0 w51 → gi w51 0 1 = f34_0_1 → gi w51 0 14 = f34_0_14 → TT (fun n => m_X12_numberHere n 0 0 a2.toInt (sI w0)) (fun n => b_X12_numberHere_75 (j_X12_numberHere 0 n) n 0 (0 : Int) (a2.toInt) (v34_3.toInt) (v75_4.toInt) (sI w51)) → lv_has ls 5 [(0, .ref (ad 0)), (1, .int 0), (2, .int a2), (3, .int v34_3), (4, .int v75_4)] → W p l e ({ frames := 2, cells := 0, slots := 0, locals := 37 }) s m (List.toArray [.ref (ad 0), .int 0, .int a2]) below meth c H locs 0 0 (MQ below (va_Qi (Pz_X12_numberHere_1 ad cy B qr s1 a2 w0) (fun u : va_W => wpost dC dI cy A u) A) (List.toArray [.ref (ad 0), .int 0, .int a2]) s 0 0 A) (F0 m 75 ls []) := by
        intro v75_4 H locs ls w51 r52 t53 r54 t55 r56 t57 r59 t60 hw hT hF c58 c61 hM hl
        refine lv_aload_n hx hb dX12_numberHere_75 rfl (lv_at hl 0 rfl) ?_
        refine lv_dup hx hb dX12_numberHere_76 rfl ?_
        refine tk_geti hC hK hw hT hinX12 kM_at0 (by decide) rfl 14 (by decide) (List.mem_cons_of_mem _ uw_19_18) rfl rfl dX12_numberHere_77 (fun x62 c63 rx62 tx62 => ?_)
        refine wk_top f34_0_14 (c63.symm.trans c61) ?_
        replace hM := hM.rd (sI_at c61)
        refine lv_iconst (v := 1) hx hb dX12_numberHere_80 (by decide) ?_
        refine lv_iadd hx hb dX12_numberHere_81 ?_
        refine lv_topi (fun x64 ex64 => ?_)
        have ezx64 := ex64
        have ex64 : x64.toInt = f34_0_14.toInt + (1 : Int) := by rw [ex64]; exact wk_add (show (-2147483648) ≤ f34_0_14.toInt + (1 : Int) by omega) (show f34_0_14.toInt + (1 : Int) ≤ 2147483647 by omega)
        replace hM := hM.lt ex64.symm
        refine tk_puti hC hK hw hT hinX12 tyX12_ok nmX12 kM_at0 (by decide) rfl rfl 14 (by decide) (List.mem_cons_of_mem _ uw_19_18) rfl rfl rfl rfl (show 0 ≤ x64.toInt by omega) (show x64.toInt ≤ 400 by omega) dX12_numberHere_82 (fun H locs w65 hw hT k67 c66 => ?_)
        replace hM := hM.wr (sI_up k67 c66)
        have hF := hF.put kM_at0 (k := 14) (by decide) k67
        have c68 := k67.gi (Or.inr (by decide)) c58
        refine lv_goto (tgt := 34) hx hb dX12_numberHere_85 (by decide) ?_
        exact ih34 v34_3 v75_4 f34_0_1 x64 H locs ls w65 (show (-1) ≤ a2.toInt from r52) (show a2.toInt ≤ 11 from t53) (show 0 ≤ v34_3.toInt from r54) (show v34_3.toInt ≤ 399 from t55) (show 1 ≤ f34_0_1.toInt from r56) (show f34_0_1.toInt ≤ 400 from t57) (show 0 ≤ x64.toInt by omega) (show x64.toInt ≤ 400 by omega) (show (400 - x64.toInt).toNat < n34 by omega) hw hT hF c68 c66 hM (lv_sub hl [0, 1, 2, 3, 4] rfl)
      replace hM := hM.suc (fun _ => e_X12_numberHere_34)
      refine lv_aload_n hx hb dX12_numberHere_34 rfl (lv_at hl 0 rfl) ?_
      refine lv_aload_n hx hb dX12_numberHere_35 rfl (lv_at hl 0 rfl) ?_
      refine tk_geti hC hK hw hT hinX12 kM_at0 (by decide) rfl 14 (by decide) (List.mem_cons_of_mem _ uw_19_18) rfl rfl dX12_numberHere_36 (fun x69 c70 rx69 tx69 => ?_)
      refine wk_top f34_0_14 (c70.symm.trans c50) ?_
      replace hM := hM.rd (sI_at c50)
      refine tk_Vi hC hK hw hT hA hE hSR kM_at0 (by decide) rfl (kz_X12_isDigit_1 l adK adV dC dI cy ad B (by omega) (by omega) qr s1   f34_0_14 (show 0 ≤ f34_0_14.toInt from r48) (show f34_0_14.toInt ≤ 400 from t49) w40 H.size hT ) (cwV 1 hC.2.2.2.2 uV_RX12_112 rfl rfl rfl (by decide +kernel) ⟨Nat.le_of_ble_eq_true rfl, Nat.le_of_ble_eq_true rfl⟩) rfl hl.1 rfl (Nat.le_of_ble_eq_true rfl) dX12_numberHere_39 (fun r71 w73 H locs hp72 hw => ?_)
      obtain ⟨rfl, hv81, hg80⟩ := hp72
      rcases hg80 with ⟨rfl, ⟨x75, c76, rx75, tx75⟩⟩ | ⟨rfl, g77, ⟨x78, c79, rx78, tx78⟩⟩
      · replace hM := hM.call (r' := 0) hv81 (by decide)
        have ex75 : x75.toInt = f34_0_1.toInt := by rw [← c47.symm.trans c76]
        refine lv_if_eq (tgt := 88) hx hb dX12_numberHere_42 (by decide) (fun _ => ?_) (fun c => absurd (by decide) c)
        replace hM := hM.pos (by decide)
        refine lv_aload_n hx hb dX12_numberHere_88 rfl (lv_at hl 0 rfl) ?_
        refine lv_iload hx hb dX12_numberHere_89 (lv_at hl 4 rfl) ?_
        refine tk_puti hC hK hw hT hinX12 tyX12_ok nmX12 kM_at0 (by decide) rfl rfl 16 (by decide) (List.mem_cons_of_mem _ uw_21_12) rfl rfl rfl rfl (wk_i32 v34_4).1 (wk_i32 v34_4).2 dX12_numberHere_91 (fun H locs w82 hw hT k84 c83 => ?_)
        replace hM := hM.wr (sI_up k84 c83)
        have hF := hF.put kM_at0 (k := 16) (by decide) k84
        have c85 := k84.gi (Or.inr (by decide)) c47
        have c86 := k84.gi (Or.inr (by decide)) c50
        refine lv_aload_n hx hb dX12_numberHere_94 rfl (lv_at hl 0 rfl) ?_
        refine tk_geti hC hK hw hT hinX12 kM_at0 (by decide) rfl 14 (by decide) (List.mem_cons_of_mem _ uw_19_18) rfl rfl dX12_numberHere_95 (fun x87 c88 rx87 tx87 => ?_)
        refine wk_top f34_0_14 (c88.symm.trans c86) ?_
        replace hM := hM.rd (sI_at c86)
        refine lv_iload_n hx hb dX12_numberHere_98 rfl (lv_at hl 3 rfl) ?_
        refine lv_isub hx hb dX12_numberHere_99 ?_
        refine lv_topi (fun x89 ex89 => ?_)
        have ezx89 := ex89
        have ex89 : x89.toInt = f34_0_14.toInt - v34_3.toInt := by rw [ex89]; exact wk_sub (show (-2147483648) ≤ f34_0_14.toInt - v34_3.toInt by omega) (show f34_0_14.toInt - v34_3.toInt ≤ 2147483647 by omega)
        replace hM := hM.lt ex89.symm
        refine lv_iconst (v := 5) hx hb dX12_numberHere_100 (by decide) ?_
        refine lv_icmp_gt (tgt := 117) hx hb dX12_numberHere_101 (by decide) (fun c90 => ?_) (fun c90 => ?_)
        · have c90 : (5 : Int) < x89.toInt := wk_lt.mp c90
          replace hM := hM.pos c90
          exact J117 v34_3 v34_4 f34_0_1 f34_0_14 v34_4 H locs ls w82 (show (-1) ≤ a2.toInt from r41) (show a2.toInt ≤ 11 from t42) (show 0 ≤ v34_3.toInt from r43) (show v34_3.toInt ≤ 399 from t44) (show 1 ≤ f34_0_1.toInt from r45) (show f34_0_1.toInt ≤ 400 from t46) (show 0 ≤ f34_0_14.toInt from r48) (show f34_0_14.toInt ≤ 400 from t49)  hw hT hF c85 c86 c83 hM (lv_sub hl [0, 1, 2, 3, 4] rfl)
        · have c90 : x89.toInt ≤ (5 : Int) := wk_ltF c90
          replace hM := hM.neg (Int.not_lt.mpr c90)
          refine lv_iload hx hb dX12_numberHere_104 (lv_at hl 4 rfl) ?_
          refine lv_i2l hx hb dX12_numberHere_106 rfl ?_
          refine lv_topl (fun x91 ex91 => ?_)
          have ex91 : x91.toInt = v34_4.toInt := by rw [ex91]; exact wk_i2l _
          have bx91 := wk_i32 v34_4
          replace hM := hM.lt ex91.symm
          refine lv_iload_n hx hb dX12_numberHere_107 rfl (lv_at hl 1 rfl) ?_
          refine lv_i2l hx hb dX12_numberHere_108 rfl ?_
          refine wk_topl 0 (by decide) ?_
          replace hM := hM.lt rfl
          refine lv_iload_n hx hb dX12_numberHere_109 rfl (lv_at hl 2 rfl) ?_
          refine lv_i2l hx hb dX12_numberHere_110 rfl ?_
          refine lv_topl (fun x92 ex92 => ?_)
          have ex92 : x92.toInt = a2.toInt := by rw [ex92]; exact wk_i2l _
          have bx92 := wk_i32 a2
          replace hM := hM.lt ex92.symm
          refine tk_Si hC hK hw hT hA hE hSR (kz_X12_in_1 l adK adV dC dI cy ad B (by omega) (by omega) qr s1   x91 (show (-2147483648) ≤ x91.toInt by omega) (show x91.toInt ≤ 2147483647 by omega) x92 (show (-1) ≤ x92.toInt by omega) (show x92.toInt ≤ 11 by omega) w82 H.size hT ) (va_cwS 3 hC.2.2.2.2 uS_RX12_122 rfl rfl rfl (by decide +kernel) ⟨Nat.le_of_ble_eq_true rfl, Nat.le_of_ble_eq_true rfl⟩) rfl hl.1 rfl (Nat.le_of_ble_eq_true rfl) dX12_numberHere_111 (fun r93 w95 H locs hp94 hw => ?_)
          obtain ⟨rfl, hv101, hg100⟩ := hp94
          rcases hg100 with rfl | ⟨rfl, g97, g98, g99⟩
          · replace hM := hM.call (r' := 0) hv101 (by decide)
            refine lv_if_ne (tgt := 126) hx hb dX12_numberHere_114 (by decide) (fun c => absurd (by decide) c) (fun _ => ?_)
            replace hM := hM.neg (by decide)
            exact J117 v34_3 v34_4 f34_0_1 f34_0_14 v34_4 H locs ls w82 (show (-1) ≤ a2.toInt from r41) (show a2.toInt ≤ 11 from t42) (show 0 ≤ v34_3.toInt from r43) (show v34_3.toInt ≤ 399 from t44) (show 1 ≤ f34_0_1.toInt from r45) (show f34_0_1.toInt ≤ 400 from t46) (show 0 ≤ f34_0_14.toInt from r48) (show f34_0_14.toInt ≤ 400 from t49)  hw hT hF c85 c86 c83 hM (lv_sub hl [0, 1, 2, 3, 4] rfl)
          · replace hM := hM.call (r' := 1) hv101 (by decide)
            refine lv_if_ne (tgt := 126) hx hb dX12_numberHere_114 (by decide) (fun _ => ?_) (fun c => absurd c (by decide))
            replace hM := hM.pos (by decide)
            exact J126 v34_3 v34_4 f34_0_1 f34_0_14 v34_4 H locs ls w82 (show 0 ≤ a2.toInt by omega) (show a2.toInt ≤ 11 from t42) (show 0 ≤ v34_3.toInt from r43) (show v34_3.toInt ≤ 399 from t44) (show 0 ≤ v34_4.toInt by omega) (show v34_4.toInt ≤ 11 by omega) (show 1 ≤ f34_0_1.toInt from r45) (show f34_0_1.toInt ≤ 400 from t46) (show 0 ≤ f34_0_14.toInt from r48) (show f34_0_14.toInt ≤ 400 from t49) (show 0 ≤ v34_4.toInt by omega) (show v34_4.toInt ≤ 11 by omega)  hw hT hF c85 c86 c83 hM (lv_sub hl [0, 1, 2, 3, 4] rfl)
      · replace hM := hM.call (r' := 1) hv81 (by decide)
        have ex78 : x78.toInt = f34_0_1.toInt := by rw [← c47.symm.trans c79]
        refine lv_if_eq (tgt := 88) hx hb dX12_numberHere_42 (by decide) (fun c => absurd c (by decide)) (fun _ => ?_)
        replace hM := hM.neg (by decide)
        refine lv_aload_n hx hb dX12_numberHere_45 rfl (lv_at hl 0 rfl) ?_
        refine tk_geti hC hK hw hT hinX12 kM_at0 (by decide) rfl 14 (by decide) (List.mem_cons_of_mem _ uw_19_18) rfl rfl dX12_numberHere_46 (fun x102 c103 rx102 tx102 => ?_)
        refine wk_top f34_0_14 (c103.symm.trans c50) ?_
        replace hM := hM.rd (sI_at c50)
        refine lv_iload_n hx hb dX12_numberHere_49 rfl (lv_at hl 3 rfl) ?_
        refine lv_isub hx hb dX12_numberHere_50 ?_
        refine lv_topi (fun x104 ex104 => ?_)
        have ezx104 := ex104
        have ex104 : x104.toInt = f34_0_14.toInt - v34_3.toInt := by rw [ex104]; exact wk_sub (show (-2147483648) ≤ f34_0_14.toInt - v34_3.toInt by omega) (show f34_0_14.toInt - v34_3.toInt ≤ 2147483647 by omega)
        replace hM := hM.lt ex104.symm
        refine lv_iconst (v := 5) hx hb dX12_numberHere_51 (by decide) ?_
        refine lv_icmp_ge (tgt := 75) hx hb dX12_numberHere_52 (by decide) (fun c105 => ?_) (fun c105 => ?_)
        · have c105 : (5 : Int) ≤ x104.toInt := wk_le.mp c105
          replace hM := hM.pos c105
          exact J75 v34_4 H locs ls w40 (show (-1) ≤ a2.toInt from r41) (show a2.toInt ≤ 11 from t42) (show 0 ≤ v34_3.toInt from r43) (show v34_3.toInt ≤ 399 from t44) (show 1 ≤ f34_0_1.toInt from r45) (show f34_0_1.toInt ≤ 400 from t46) (show 0 ≤ f34_0_14.toInt from r48) (show f34_0_14.toInt ≤ 399 by omega)  hw hT hF c47 c50 hM (lv_sub hl [0, 1, 2, 3, 4] rfl)
        · have c105 : x104.toInt < (5 : Int) := wk_leF c105
          replace hM := hM.neg (Int.not_le.mpr c105)
          refine lv_bipush (v := 10) hx hb dX12_numberHere_55 (by decide) ?_
          refine lv_iload hx hb dX12_numberHere_57 (lv_at hl 4 rfl) ?_
          refine lv_imul hx hb dX12_numberHere_59 ?_
          have nx106 := wk_i32 v34_4
          refine lv_topi (fun x107 ex107 => ?_)
          have ezx107 := ex107
          replace hM := hM.lt (o32_e (f := fun x y => x * y) ezx107 (by decide) rfl)
          refine lv_aload_n hx hb dX12_numberHere_60 rfl (lv_at hl 0 rfl) ?_
          refine tk_getA hC hK hw hT hinX12 kM_at0 (by decide) rfl 0 (by decide) (List.mem_cons_of_mem _ uw_6_14) rfl rfl dX12_numberHere_61 ?_
          refine lv_aload_n hx hb dX12_numberHere_64 rfl (lv_at hl 0 rfl) ?_
          refine tk_geti hC hK hw hT hinX12 kM_at0 (by decide) rfl 14 (by decide) (List.mem_cons_of_mem _ uw_19_18) rfl rfl dX12_numberHere_65 (fun x108 c109 rx108 tx108 => ?_)
          refine wk_top f34_0_14 (c109.symm.trans c50) ?_
          replace hM := hM.rd (sI_at c50)
          refine tk_bald hC hK hw hT kM_at1 rfl rfl (show 0 ≤ f34_0_14.toInt from r48) (show f34_0_14.toInt < 400 by omega) dX12_numberHere_68 (fun x110 c111 rx110 tx110 => ?_)
          have hox110 := c111
          replace hM := hM.rd (sI_at hox110)
          have c111 : gi w40 1 (f34_0_14.toInt).toNat = x110 := (congrArg (gi w40 1) (congrArg Int.toNat (show f34_0_14.toInt = f34_0_14.toInt by omega))).trans c111
          refine lv_iadd hx hb dX12_numberHere_69 ?_
          have nx112 := wk_i32 x107
          refine lv_topi (fun x113 ex113 => ?_)
          have ezx113 := ex113
          replace hM := hM.lt (o32_e (f := fun x y => x + y) ezx113 rfl rfl)
          refine lv_bipush (v := 48) hx hb dX12_numberHere_70 (by decide) ?_
          refine lv_isub hx hb dX12_numberHere_72 ?_
          have nx114 := wk_i32 x113
          refine lv_topi (fun x115 ex115 => ?_)
          have ezx115 := ex115
          replace hM := hM.lt (o32_e (f := fun x y => x - y) ezx115 rfl (by decide))
          refine lv_istore (lv' := [(4, .int x115), (0, .ref (ad 0)), (1, .int 0), (2, .int a2), (3, .int v34_3)]) hx hb dX12_numberHere_73 hl (by decide) rfl (fun ls hl => ?_)
          exact J75 x115 H locs ls w40 (show (-1) ≤ a2.toInt from r41) (show a2.toInt ≤ 11 from t42) (show 0 ≤ v34_3.toInt from r43) (show v34_3.toInt ≤ 399 from t44) (show 1 ≤ f34_0_1.toInt from r45) (show f34_0_1.toInt ≤ 400 from t46) (show 0 ≤ f34_0_14.toInt from r48) (show f34_0_14.toInt ≤ 399 by omega)  hw hT hF c47 c50 hM (lv_sub hl [1, 2, 3, 4, 0] rfl)
  have hM : TT (fun n => m_X12_numberHere n 0 0 a2.toInt (sI w0)) (fun n => m_X12_numberHere n 0 0 a2.toInt (sI w0)) := TT.rf
  refine lv_aload_n hx hb dX12_numberHere_0 rfl (lv_at hl 0 rfl) ?_
  obtain ⟨x116, c117, rx116, tx116⟩ := hT.rdi (lo := 0) (hi := 400) (k := 14) kM_at0 (by decide) rfl
  refine tk_Vi hC hK hw hT hA hE hSR kM_at0 (by decide) rfl (kz_X12_see_1 l adK adV dC dI cy ad B (by omega) (by omega) qr s1    w0 s.heap.size hT x116 c117 (show 0 ≤ x116.toInt by omega) (show x116.toInt ≤ 400 by omega)) (cwV 0 hC.2.2.2.2 uV_RX12_97 rfl rfl rfl (by decide +kernel) ⟨Nat.le_of_ble_eq_true rfl, Nat.le_of_ble_eq_true rfl⟩) rfl hl.1 rfl (Nat.le_of_ble_eq_true rfl) dX12_numberHere_1 (fun r118 w120 H locs hp119 hw => ?_)
  obtain ⟨hT, k121, hv139, hg138⟩ := hp119
  have hF := hF.tr k121 (by decide)
  rcases hg138 with ⟨g122, g123, ⟨x124, c125, rx124, tx124⟩, ⟨x126, c127, rx126, tx126⟩, g128, g129⟩ | ⟨rfl, ⟨x130, c131, rx130, tx130⟩, ⟨x132, c133, rx132, tx132⟩, g134⟩ | ⟨rfl, ⟨x135, c136, rx135, tx135⟩, g137⟩
  · replace hM := hM.call hv139 rfl
    have g128 : (gi w120 1 (x126.toInt).toNat).toInt ≠ 32 := by have q := g128; simp only [c127] at q; omega
    have g129 : (x126.toInt = x116.toInt ∨ (gi w0 1 (x116.toInt).toNat).toInt = 32) := by have q := g129; simp only [c117, c127] at q; omega
    refine lv_pop hx hb dX12_numberHere_4 rfl ?_
    refine lv_aload_n hx hb dX12_numberHere_5 rfl (lv_at hl 0 rfl) ?_
    refine lv_aload_n hx hb dX12_numberHere_6 rfl (lv_at hl 0 rfl) ?_
    refine tk_geti hC hK hw hT hinX12 kM_at0 (by decide) rfl 14 (by decide) (List.mem_cons_of_mem _ uw_19_18) rfl rfl dX12_numberHere_7 (fun x142 c143 rx142 tx142 => ?_)
    refine wk_top x126 (c143.symm.trans c127) ?_
    replace hM := hM.rd (sI_at c127)
    refine tk_Vi hC hK hw hT hA hE hSR kM_at0 (by decide) rfl (kz_X12_isDigit_2 l adK adV dC dI cy ad B (by omega) (by omega) qr s1   x126 (show 0 ≤ x126.toInt by omega) (show x126.toInt ≤ 399 by omega) w120 H.size hT ) (cwV 1 hC.2.2.2.2 uV_RX12_112 rfl rfl rfl (by decide +kernel) ⟨Nat.le_of_ble_eq_true rfl, Nat.le_of_ble_eq_true rfl⟩) rfl hl.1 rfl (Nat.le_of_ble_eq_true rfl) dX12_numberHere_10 (fun r144 w146 H locs hp145 hw => ?_)
    obtain ⟨rfl, hv153, hg152⟩ := hp145
    rcases hg152 with ⟨rfl, ⟨x148, c149, rx148, tx148⟩⟩ | ⟨rfl, ⟨x150, c151, rx150, tx150⟩⟩
    · replace hM := hM.call (r' := 0) hv153 (by decide)
      have ex148 : x148.toInt = x124.toInt := by rw [← c125.symm.trans c149]
      refine lv_if_ne (tgt := 26) hx hb dX12_numberHere_13 (by decide) (fun c => absurd (by decide) c) (fun _ => ?_)
      replace hM := hM.neg (by decide)
      refine lv_aload_n hx hb dX12_numberHere_16 rfl (lv_at hl 0 rfl) ?_
      refine lv_iconst (v := 0) hx hb dX12_numberHere_17 (by decide) ?_
      refine lv_aload_n hx hb dX12_numberHere_18 rfl (lv_at hl 0 rfl) ?_
      refine tk_geti hC hK hw hT hinX12 kM_at0 (by decide) rfl 14 (by decide) (List.mem_cons_of_mem _ uw_19_18) rfl rfl dX12_numberHere_19 (fun x154 c155 rx154 tx154 => ?_)
      refine wk_top x126 (c155.symm.trans c127) ?_
      replace hM := hM.rd (sI_at c127)
      refine tk_Vi hC hK hw hT hA hE hSR kM_at0 (by decide) rfl (kz_X12_fails_1 l adK adV dC dI cy ad B (by omega) (by omega) qr s1   0 (by decide) (by decide) x126 (show 0 ≤ x126.toInt by omega) (show x126.toInt ≤ 400 by omega) w120 H.size hT ) (cwV 2 hC.2.2.2.2 uV_RX12_115 rfl rfl rfl (by decide +kernel) ⟨Nat.le_of_ble_eq_true rfl, Nat.le_of_ble_eq_true rfl⟩) rfl hl.1 rfl (Nat.le_of_ble_eq_true rfl) dX12_numberHere_22 (fun r156 w158 H locs hp157 hw => ?_)
      obtain ⟨hT, k159, hv163, hg162⟩ := hp157
      try simp only [show (0 : Int32).toInt = 0 by decide] at hv163
      have hF := hF.tr k159 (by decide)
      have c164 := k159.gi kM_at0 (by decide) c125
      have c165 := k159.gi kM_at0 (by decide) c127
      obtain ⟨rfl, ⟨x160, c161, rx160, tx160⟩⟩ := hg162
      replace hM := hM.call (r' := 0) hv163 (by decide)
      exact tk_zret hC hr rfl hlocks hK ⟨hT, hF, hM.ret (by decide), (Or.inl ⟨rfl, ⟨x124, c164, (show 1 ≤ x124.toInt by omega), (show x124.toInt ≤ 400 by omega)⟩, ⟨x160, c161, (show 1 ≤ x160.toInt by omega), (show x160.toInt ≤ 3205 by omega)⟩⟩)⟩ hw dX12_numberHere_25
    · replace hM := hM.call (r' := 1) hv153 (by decide)
      have ex150 : x150.toInt = x124.toInt := by rw [← c125.symm.trans c151]
      refine lv_if_ne (tgt := 26) hx hb dX12_numberHere_13 (by decide) (fun _ => ?_) (fun c => absurd c (by decide))
      replace hM := hM.pos (by decide)
      refine lv_aload_n hx hb dX12_numberHere_26 rfl (lv_at hl 0 rfl) ?_
      refine tk_geti hC hK hw hT hinX12 kM_at0 (by decide) rfl 14 (by decide) (List.mem_cons_of_mem _ uw_19_18) rfl rfl dX12_numberHere_27 (fun x166 c167 rx166 tx166 => ?_)
      refine wk_top x126 (c167.symm.trans c127) ?_
      replace hM := hM.rd (sI_at c127)
      refine lv_istore_n (lv' := [(3, .int x126), (0, .ref (ad 0)), (1, .int 0), (2, .int a2)]) hx hb dX12_numberHere_30 rfl hl (by decide) rfl (fun ls hl => ?_)
      refine lv_iconst (v := 0) hx hb dX12_numberHere_31 (by decide) ?_
      refine lv_istore (lv' := [(4, .int 0), (3, .int x126), (0, .ref (ad 0)), (1, .int 0), (2, .int a2)]) hx hb dX12_numberHere_32 hl (by decide) rfl (fun ls hl => ?_)
      exact L34 ((400 - x126.toInt).toNat + 1) x126 0 x124 x126 H locs ls w120 (show (-1) ≤ a2.toInt from ra2) (show a2.toInt ≤ 11 from ta2) (show 0 ≤ x126.toInt by omega) (show x126.toInt ≤ 399 by omega) (show 1 ≤ x124.toInt by omega) (show x124.toInt ≤ 400 by omega) (show 0 ≤ x126.toInt by omega) (show x126.toInt ≤ 400 by omega) (Nat.lt_succ_self _) hw hT hF c125 c127 hM (lv_sub hl [2, 3, 4, 1, 0] rfl)
  · replace hM := hM.call (r' := (-1)) hv139 (by decide)
    have g134 : (x132.toInt = x116.toInt ∨ (gi w0 1 (x116.toInt).toNat).toInt = 32) := by have q := g134; simp only [c117, c133] at q; omega
    refine lv_pop hx hb dX12_numberHere_4 rfl ?_
    refine lv_aload_n hx hb dX12_numberHere_5 rfl (lv_at hl 0 rfl) ?_
    refine lv_aload_n hx hb dX12_numberHere_6 rfl (lv_at hl 0 rfl) ?_
    refine tk_geti hC hK hw hT hinX12 kM_at0 (by decide) rfl 14 (by decide) (List.mem_cons_of_mem _ uw_19_18) rfl rfl dX12_numberHere_7 (fun x168 c169 rx168 tx168 => ?_)
    refine wk_top x132 (c169.symm.trans c133) ?_
    replace hM := hM.rd (sI_at c133)
    refine tk_Vi hC hK hw hT hA hE hSR kM_at0 (by decide) rfl (kz_X12_isDigit_3 l adK adV dC dI cy ad B (by omega) (by omega) qr s1   x132 (show 1 ≤ x132.toInt by omega) (show x132.toInt ≤ 399 by omega) w120 H.size hT ) (cwV 1 hC.2.2.2.2 uV_RX12_112 rfl rfl rfl (by decide +kernel) ⟨Nat.le_of_ble_eq_true rfl, Nat.le_of_ble_eq_true rfl⟩) rfl hl.1 rfl (Nat.le_of_ble_eq_true rfl) dX12_numberHere_10 (fun r170 w172 H locs hp171 hw => ?_)
    obtain ⟨rfl, hv179, hg178⟩ := hp171
    rcases hg178 with ⟨rfl, ⟨x174, c175, rx174, tx174⟩⟩ | ⟨rfl, ⟨x176, c177, rx176, tx176⟩⟩
    · replace hM := hM.call (r' := 0) hv179 (by decide)
      have ex174 : x174.toInt = x130.toInt := by rw [← c131.symm.trans c175]
      refine lv_if_ne (tgt := 26) hx hb dX12_numberHere_13 (by decide) (fun c => absurd (by decide) c) (fun _ => ?_)
      replace hM := hM.neg (by decide)
      refine lv_aload_n hx hb dX12_numberHere_16 rfl (lv_at hl 0 rfl) ?_
      refine lv_iconst (v := 0) hx hb dX12_numberHere_17 (by decide) ?_
      refine lv_aload_n hx hb dX12_numberHere_18 rfl (lv_at hl 0 rfl) ?_
      refine tk_geti hC hK hw hT hinX12 kM_at0 (by decide) rfl 14 (by decide) (List.mem_cons_of_mem _ uw_19_18) rfl rfl dX12_numberHere_19 (fun x180 c181 rx180 tx180 => ?_)
      refine wk_top x132 (c181.symm.trans c133) ?_
      replace hM := hM.rd (sI_at c133)
      refine tk_Vi hC hK hw hT hA hE hSR kM_at0 (by decide) rfl (kz_X12_fails_1 l adK adV dC dI cy ad B (by omega) (by omega) qr s1   0 (by decide) (by decide) x132 (show 0 ≤ x132.toInt by omega) (show x132.toInt ≤ 400 by omega) w120 H.size hT ) (cwV 2 hC.2.2.2.2 uV_RX12_115 rfl rfl rfl (by decide +kernel) ⟨Nat.le_of_ble_eq_true rfl, Nat.le_of_ble_eq_true rfl⟩) rfl hl.1 rfl (Nat.le_of_ble_eq_true rfl) dX12_numberHere_22 (fun r182 w184 H locs hp183 hw => ?_)
      obtain ⟨hT, k185, hv189, hg188⟩ := hp183
      try simp only [show (0 : Int32).toInt = 0 by decide] at hv189
      have hF := hF.tr k185 (by decide)
      have c190 := k185.gi kM_at0 (by decide) c131
      have c191 := k185.gi kM_at0 (by decide) c133
      obtain ⟨rfl, ⟨x186, c187, rx186, tx186⟩⟩ := hg188
      replace hM := hM.call (r' := 0) hv189 (by decide)
      exact tk_zret hC hr rfl hlocks hK ⟨hT, hF, hM.ret (by decide), (Or.inl ⟨rfl, ⟨x130, c190, (show 1 ≤ x130.toInt by omega), (show x130.toInt ≤ 400 by omega)⟩, ⟨x186, c187, (show 1 ≤ x186.toInt by omega), (show x186.toInt ≤ 3205 by omega)⟩⟩)⟩ hw dX12_numberHere_25
    · replace hM := hM.call (r' := 1) hv179 (by decide)
      have ex176 : x176.toInt = x130.toInt := by rw [← c131.symm.trans c177]
      refine lv_if_ne (tgt := 26) hx hb dX12_numberHere_13 (by decide) (fun _ => ?_) (fun c => absurd c (by decide))
      replace hM := hM.pos (by decide)
      refine lv_aload_n hx hb dX12_numberHere_26 rfl (lv_at hl 0 rfl) ?_
      refine tk_geti hC hK hw hT hinX12 kM_at0 (by decide) rfl 14 (by decide) (List.mem_cons_of_mem _ uw_19_18) rfl rfl dX12_numberHere_27 (fun x192 c193 rx192 tx192 => ?_)
      refine wk_top x132 (c193.symm.trans c133) ?_
      replace hM := hM.rd (sI_at c133)
      refine lv_istore_n (lv' := [(3, .int x132), (0, .ref (ad 0)), (1, .int 0), (2, .int a2)]) hx hb dX12_numberHere_30 rfl hl (by decide) rfl (fun ls hl => ?_)
      refine lv_iconst (v := 0) hx hb dX12_numberHere_31 (by decide) ?_
      refine lv_istore (lv' := [(4, .int 0), (3, .int x132), (0, .ref (ad 0)), (1, .int 0), (2, .int a2)]) hx hb dX12_numberHere_32 hl (by decide) rfl (fun ls hl => ?_)
      exact L34 ((400 - x132.toInt).toNat + 1) x132 0 x130 x132 H locs ls w120 (show (-1) ≤ a2.toInt from ra2) (show a2.toInt ≤ 11 from ta2) (show 0 ≤ x132.toInt by omega) (show x132.toInt ≤ 399 by omega) (show 1 ≤ x130.toInt by omega) (show x130.toInt ≤ 400 by omega) (show 0 ≤ x132.toInt by omega) (show x132.toInt ≤ 400 by omega) (Nat.lt_succ_self _) hw hT hF c131 c133 hM (lv_sub hl [2, 3, 4, 1, 0] rfl)
  · replace hM := hM.call (r' := (-1)) hv139 (by decide)
    obtain ⟨x140, c141, rx140, tx140⟩ := hT.rdi (lo := 0) (hi := 400) (k := 14) kM_at0 (by decide) rfl
    have g137 : (x140.toInt = x116.toInt ∨ (gi w0 1 (x116.toInt).toNat).toInt = 32) := by have q := g137; simp only [c117, c141] at q; omega
    refine lv_pop hx hb dX12_numberHere_4 rfl ?_
    refine lv_aload_n hx hb dX12_numberHere_5 rfl (lv_at hl 0 rfl) ?_
    refine lv_aload_n hx hb dX12_numberHere_6 rfl (lv_at hl 0 rfl) ?_
    refine tk_geti hC hK hw hT hinX12 kM_at0 (by decide) rfl 14 (by decide) (List.mem_cons_of_mem _ uw_19_18) rfl rfl dX12_numberHere_7 (fun x194 c195 rx194 tx194 => ?_)
    refine wk_top x140 (c195.symm.trans c141) ?_
    replace hM := hM.rd (sI_at c141)
    refine tk_Vi hC hK hw hT hA hE hSR kM_at0 (by decide) rfl (kz_X12_isDigit_1 l adK adV dC dI cy ad B (by omega) (by omega) qr s1   x140 (show 0 ≤ x140.toInt by omega) (show x140.toInt ≤ 400 by omega) w120 H.size hT ) (cwV 1 hC.2.2.2.2 uV_RX12_112 rfl rfl rfl (by decide +kernel) ⟨Nat.le_of_ble_eq_true rfl, Nat.le_of_ble_eq_true rfl⟩) rfl hl.1 rfl (Nat.le_of_ble_eq_true rfl) dX12_numberHere_10 (fun r196 w198 H locs hp197 hw => ?_)
    obtain ⟨rfl, hv206, hg205⟩ := hp197
    rcases hg205 with ⟨rfl, ⟨x200, c201, rx200, tx200⟩⟩ | ⟨rfl, g202, ⟨x203, c204, rx203, tx203⟩⟩
    · replace hM := hM.call (r' := 0) hv206 (by decide)
      have ex200 : x200.toInt = x135.toInt := by rw [← c136.symm.trans c201]
      refine lv_if_ne (tgt := 26) hx hb dX12_numberHere_13 (by decide) (fun c => absurd (by decide) c) (fun _ => ?_)
      replace hM := hM.neg (by decide)
      refine lv_aload_n hx hb dX12_numberHere_16 rfl (lv_at hl 0 rfl) ?_
      refine lv_iconst (v := 0) hx hb dX12_numberHere_17 (by decide) ?_
      refine lv_aload_n hx hb dX12_numberHere_18 rfl (lv_at hl 0 rfl) ?_
      refine tk_geti hC hK hw hT hinX12 kM_at0 (by decide) rfl 14 (by decide) (List.mem_cons_of_mem _ uw_19_18) rfl rfl dX12_numberHere_19 (fun x207 c208 rx207 tx207 => ?_)
      refine wk_top x140 (c208.symm.trans c141) ?_
      replace hM := hM.rd (sI_at c141)
      refine tk_Vi hC hK hw hT hA hE hSR kM_at0 (by decide) rfl (kz_X12_fails_1 l adK adV dC dI cy ad B (by omega) (by omega) qr s1   0 (by decide) (by decide) x140 (show 0 ≤ x140.toInt by omega) (show x140.toInt ≤ 400 by omega) w120 H.size hT ) (cwV 2 hC.2.2.2.2 uV_RX12_115 rfl rfl rfl (by decide +kernel) ⟨Nat.le_of_ble_eq_true rfl, Nat.le_of_ble_eq_true rfl⟩) rfl hl.1 rfl (Nat.le_of_ble_eq_true rfl) dX12_numberHere_22 (fun r209 w211 H locs hp210 hw => ?_)
      obtain ⟨hT, k212, hv216, hg215⟩ := hp210
      try simp only [show (0 : Int32).toInt = 0 by decide] at hv216
      have hF := hF.tr k212 (by decide)
      have c217 := k212.gi kM_at0 (by decide) c136
      have c218 := k212.gi kM_at0 (by decide) c141
      obtain ⟨rfl, ⟨x213, c214, rx213, tx213⟩⟩ := hg215
      replace hM := hM.call (r' := 0) hv216 (by decide)
      exact tk_zret hC hr rfl hlocks hK ⟨hT, hF, hM.ret (by decide), (Or.inr (Or.inl ⟨rfl, ⟨x135, c217, (show 0 ≤ x135.toInt by omega), (show x135.toInt ≤ 400 by omega)⟩, ⟨x213, c214, (show 1 ≤ x213.toInt by omega), (show x213.toInt ≤ 3205 by omega)⟩⟩))⟩ hw dX12_numberHere_25
    · replace hM := hM.call (r' := 1) hv206 (by decide)
      have ex203 : x203.toInt = x135.toInt := by rw [← c136.symm.trans c204]
      refine lv_if_ne (tgt := 26) hx hb dX12_numberHere_13 (by decide) (fun _ => ?_) (fun c => absurd c (by decide))
      replace hM := hM.pos (by decide)
      refine lv_aload_n hx hb dX12_numberHere_26 rfl (lv_at hl 0 rfl) ?_
      refine tk_geti hC hK hw hT hinX12 kM_at0 (by decide) rfl 14 (by decide) (List.mem_cons_of_mem _ uw_19_18) rfl rfl dX12_numberHere_27 (fun x219 c220 rx219 tx219 => ?_)
      refine wk_top x140 (c220.symm.trans c141) ?_
      replace hM := hM.rd (sI_at c141)
      refine lv_istore_n (lv' := [(3, .int x140), (0, .ref (ad 0)), (1, .int 0), (2, .int a2)]) hx hb dX12_numberHere_30 rfl hl (by decide) rfl (fun ls hl => ?_)
      refine lv_iconst (v := 0) hx hb dX12_numberHere_31 (by decide) ?_
      refine lv_istore (lv' := [(4, .int 0), (3, .int x140), (0, .ref (ad 0)), (1, .int 0), (2, .int a2)]) hx hb dX12_numberHere_32 hl (by decide) rfl (fun ls hl => ?_)
      exact L34 ((400 - x140.toInt).toNat + 1) x140 0 x135 x140 H locs ls w120 (show (-1) ≤ a2.toInt from ra2) (show a2.toInt ≤ 11 from ta2) (show 0 ≤ x140.toInt by omega) (show x140.toInt ≤ 399 by omega) (show 1 ≤ x135.toInt by omega) (show x135.toInt ≤ 400 by omega) (show 0 ≤ x140.toInt by omega) (show x140.toInt ≤ 400 by omega) (Nat.lt_succ_self _) hw hT hF c136 c141 hM (lv_sub hl [2, 3, 4, 1, 0] rfl)
abbrev Pz_X12_in_2 (ad : Nat → Nat) (cy : Nat → ClassId) (B : Int) (qr : Nat) (s1 : Int) (a0 : Int64) (w0 : va_W) : Int32 → va_W → Prop := fun r u => w0 = u ∧ Ev (fun n => m_X12_in n a0.toInt 0 23 (sI w0)) (r.toInt, sI w0) ∧ ((r = 0) ∨ (r = 1 ∧ 0 ≤ a0.toInt ∧ a0.toInt ≤ 23))
set_option maxHeartbeats 4000000 in
set_option maxRecDepth 100000 in
theorem kz_X12_in_2 (l : Launch) (adK adV : Nat → Nat) (dC : Nat → ClassId) (dI : Nat → Nat → Nat) (cy : Nat → ClassId) (ad : Nat → Nat) (B : Int) (hB0 : 100000 ≤ B) (hB1 : B ≤ 1073741824) (qr : Nat) (s1 : Int)  (a0 : Int64) (ra0 : (-2147483648) ≤ a0.toInt) (ta0 : a0.toInt ≤ 2147483647) (w0 : va_W) (sz : Nat) (hT : TW ksM ad cy B qr 12 w0)  : Met l yX12_in (wu yX12_in cX12_in 6 (some .boolean)) ({ frames := 1, cells := 0, slots := 0, locals := 12 }) (va_Pc [.long a0, .long 0, .long 23] (wpreS adK adV dC dI cy sz w0)) (va_Qi (Pz_X12_in_2 ad cy B qr s1 a0 w0) (fun u : va_W => wpost dC dI cy (va_A w0 sz) u) (va_A w0 sz)) 0 0 (va_A w0 sz) := by
  refine Met.ofW (cc := cX12_in) (maxL := 6) (ret := (some .boolean)) (by decide) rfl ?_
  intro p e s m args below meth c s₁ Bk hml hv
  obtain ⟨rfl, ⟨hsz, hP, hK, hD0⟩, hE, hSR⟩ := hv
  have hx := Bk.exec
  have hb := Bk.bytes
  have hr := Bk.returns
  have hlocks := Bk.notSynchronized
  have hC : CallFix p m c cX12_in 6 s _ (wu yX12_in cX12_in 6 (some .boolean)) RX12 := ⟨hx, hb, hml, findClass_of_methodNamed Bk.named, atoms_spec (ws := (wu yX12_in cX12_in 6 (some .boolean))) Bk.pre⟩
  subst hsz
  have hD := hD0.self (sz := s.heap.size)
  generalize hAe : va_A w0 s.heap.size = A at hD hE ⊢
  have hA : ∀ q : Nat, s.heap.size ≤ q → A q := fun q h => by rw [← hAe]; exact Or.inr h
  have hw : Wd dC dI A s.heap s.heap [] w0 := ⟨hP, hD, va_S.rf⟩
  have hF : FE ksM ([] : List (Nat × Nat × Nat)) w0 w0 := FE.rf
  have hl := lv_entry ([.long a0, .long 0, .long 23]) (n := 6) (Nat.le_of_ble_eq_true rfl)
  rw [lg_entry_eq]
  generalize (lg_sl ([.long a0, .long 0, .long 23]) ++ List.replicate (6 - (lg_sl ([.long a0, .long 0, .long 23])).length) Slot.unset).toArray = ls at hl ⊢
  have hl : lv_has ls 6 [(0, .long a0), (2, .long 0), (4, .long 23)] := hl
  generalize hloc : ([] : List Loc) = locs at hw ⊢
  have J17 : ∀ (H : Heap) (locs : List Loc) (ls : Array Slot), (-2147483648) ≤ a0.toInt → a0.toInt ≤ 2147483647 → Wd dC dI A s.heap H locs w0 → TT (fun n => m_X12_in n a0.toInt 0 23 (sI w0)) (fun n => b_X12_in_17 n (sI w0)) → lv_has ls 6 [(0, .long a0), (2, .long 0), (4, .long 23)] → W p l e ({ frames := 1, cells := 0, slots := 0, locals := 12 }) s m (List.toArray [.long a0, .long 0, .long 23]) below meth c H locs 0 0 (MQ below (va_Qi (Pz_X12_in_2 ad cy B qr s1 a0 w0) (fun u : va_W => wpost dC dI cy A u) A) (List.toArray [.long a0, .long 0, .long 23]) s 0 0 A) (F0 m 17 ls []) := by
    intro H locs ls r1 t2 hw hM hl
    refine lv_iconst (v := 0) hx hb dX12_in_17 (by decide) ?_
    exact tk_zret hC hr rfl hlocks hK ⟨rfl, hM.ret (by decide), (Or.inl rfl)⟩ hw dX12_in_18
  have hM : TT (fun n => m_X12_in n a0.toInt 0 23 (sI w0)) (fun n => m_X12_in n a0.toInt 0 23 (sI w0)) := TT.rf
  refine lv_lload_n hx hb dX12_in_0 rfl (lv_at hl 0 rfl) ?_
  refine lv_lload_n hx hb dX12_in_1 rfl (lv_at hl 1 rfl) ?_
  refine W.lcmp hx hb dX12_in_2 ?_
  refine lv_if_lt (tgt := 17) hx hb dX12_in_3 (by decide) (fun c3 => ?_) (fun c3 => ?_)
  · have c3 : a0.toInt < (0 : Int) := wk_cltT c3
    replace hM := hM.pos c3
    exact J17  s.heap locs ls  (show (-2147483648) ≤ a0.toInt from ra0) (show a0.toInt ≤ 2147483647 from ta0)  hw  hM (lv_sub hl [0, 1, 2] rfl)
  · have c3 : (0 : Int) ≤ a0.toInt := wk_cltF c3
    replace hM := hM.neg (Int.not_lt.mpr c3)
    refine lv_lload_n hx hb dX12_in_6 rfl (lv_at hl 0 rfl) ?_
    refine lv_lload hx hb dX12_in_7 (lv_at hl 2 rfl) ?_
    refine W.lcmp hx hb dX12_in_9 ?_
    refine lv_if_gt (tgt := 17) hx hb dX12_in_10 (by decide) (fun c4 => ?_) (fun c4 => ?_)
    · have c4 : (23 : Int) < a0.toInt := wk_cgtT c4
      replace hM := hM.pos c4
      exact J17  s.heap locs ls  (show (-2147483648) ≤ a0.toInt from ra0) (show a0.toInt ≤ 2147483647 from ta0)  hw  hM (lv_sub hl [0, 1, 2] rfl)
    · have c4 : a0.toInt ≤ (23 : Int) := wk_cgtF c4
      replace hM := hM.neg (Int.not_lt.mpr c4)
      refine lv_iconst (v := 1) hx hb dX12_in_13 (by decide) ?_
      refine lv_goto (tgt := 18) hx hb dX12_in_14 (by decide) ?_
      exact tk_zret hC hr rfl hlocks hK ⟨rfl, hM.ret (by decide), (Or.inr ⟨rfl, (show 0 ≤ a0.toInt by omega), (show a0.toInt ≤ 23 by omega)⟩)⟩ hw dX12_in_18
abbrev Pz_X12_numberHere_2 (ad : Nat → Nat) (cy : Nat → ClassId) (B : Int) (qr : Nat) (s1 : Int)  (w0 : va_W) : Int32 → va_W → Prop := fun r u => TW ksM ad cy B qr 12 u ∧ FE ksM [(12, 14, 14), (12, 15, 15), (12, 16, 16)] w0 u ∧ Ev (fun n => m_X12_numberHere n 0 0 23 (sI w0)) (r.toInt, sI u) ∧ ((r = 0 ∧ (∃ y : Int32, gi u 0 1 = y ∧ 1 ≤ y.toInt ∧ y.toInt ≤ 400) ∧ (∃ y : Int32, gi u 0 15 = y ∧ 1 ≤ y.toInt ∧ y.toInt ≤ 3205)) ∨ (r = 0 ∧ (∃ y : Int32, gi u 0 1 = y ∧ 0 ≤ y.toInt ∧ y.toInt ≤ 400) ∧ (∃ y : Int32, gi u 0 15 = y ∧ 1 ≤ y.toInt ∧ y.toInt ≤ 3205)) ∨ (r = 1 ∧ (∃ y : Int32, gi u 0 1 = y ∧ 1 ≤ y.toInt ∧ y.toInt ≤ 400) ∧ (∃ y : Int32, gi u 0 16 = y ∧ 0 ≤ y.toInt ∧ y.toInt ≤ 23)))
set_option maxHeartbeats 4000000 in
set_option maxRecDepth 100000 in
theorem kz_X12_numberHere_2 (l : Launch) (adK adV : Nat → Nat) (dC : Nat → ClassId) (dI : Nat → Nat → Nat) (cy : Nat → ClassId) (ad : Nat → Nat) (B : Int) (hB0 : 100000 ≤ B) (hB1 : B ≤ 1073741824) (qr : Nat) (s1 : Int)   (w0 : va_W) (sz : Nat) (hT : TW ksM ad cy B qr 12 w0)  : Met l yX12_numberHere (wu yX12_numberHere cX12_numberHere 5 (some .boolean)) ({ frames := 2, cells := 0, slots := 0, locals := 37 }) (va_Pc [.ref (ad 0), .int 0, .int 23] (wpreS adK adV dC dI cy sz w0)) (va_Qi (Pz_X12_numberHere_2 ad cy B qr s1  w0) (fun u : va_W => wpost dC dI cy (va_A w0 sz) u) (va_A w0 sz)) 0 0 (va_A w0 sz) := by
  refine Met.ofW (cc := cX12_numberHere) (maxL := 5) (ret := (some .boolean)) (by decide) rfl ?_
  intro p e s m args below meth c s₁ Bk hml hv
  obtain ⟨rfl, ⟨hsz, hP, hK, hD0⟩, hE, hSR⟩ := hv
  have hx := Bk.exec
  have hb := Bk.bytes
  have hr := Bk.returns
  have hlocks := Bk.notSynchronized
  have hC : CallFix p m c cX12_numberHere 5 s _ (wu yX12_numberHere cX12_numberHere 5 (some .boolean)) RX12 := ⟨hx, hb, hml, findClass_of_methodNamed Bk.named, atoms_spec (ws := (wu yX12_numberHere cX12_numberHere 5 (some .boolean))) Bk.pre⟩
  subst hsz
  have hD := hD0.self (sz := s.heap.size)
  generalize hAe : va_A w0 s.heap.size = A at hD hE ⊢
  have hA : ∀ q : Nat, s.heap.size ≤ q → A q := fun q h => by rw [← hAe]; exact Or.inr h
  have hw : Wd dC dI A s.heap s.heap [] w0 := ⟨hP, hD, va_S.rf⟩
  have hF : FE ksM [(12, 14, 14), (12, 15, 15), (12, 16, 16)] w0 w0 := FE.rf
  have hl := lv_entry ([.ref (ad 0), .int 0, .int 23]) (n := 5) (Nat.le_of_ble_eq_true rfl)
  rw [lg_entry_eq]
  generalize (lg_sl ([.ref (ad 0), .int 0, .int 23]) ++ List.replicate (5 - (lg_sl ([.ref (ad 0), .int 0, .int 23])).length) Slot.unset).toArray = ls at hl ⊢
  have hl : lv_has ls 5 [(0, .ref (ad 0)), (1, .int 0), (2, .int 23)] := hl
  generalize hloc : ([] : List Loc) = locs at hw ⊢
  have hinX12 : ∀ w ∈ u_ws RX12 TX12 42, w ∈ (wu yX12_numberHere cX12_numberHere 5 (some .boolean)) := fun _ h => List.mem_cons_of_mem _ (up_71 h)
  have J126 : ∀ (v126_3 : Int32) (v126_4 : Int32) (f126_0_1 : Int32) (f126_0_14 : Int32) (f126_0_16 : Int32) (H : Heap) (locs : List Loc) (ls : Array Slot) (w1 : va_W), 0 ≤ v126_3.toInt → v126_3.toInt ≤ 399 → 0 ≤ v126_4.toInt → v126_4.toInt ≤ 23 → 1 ≤ f126_0_1.toInt → f126_0_1.toInt ≤ 400 → 0 ≤ f126_0_14.toInt → f126_0_14.toInt ≤ 400 → 0 ≤ f126_0_16.toInt → f126_0_16.toInt ≤ 23 → Wd dC dI A s.heap H locs w1 → TW ksM ad cy B qr 12 w1 → FE ksM [(12, 14, 14), (12, 15, 15), (12, 16, 16)] w0 w1 → gi w1 0 1 = f126_0_1 → gi w1 0 14 = f126_0_14 → gi w1 0 16 = f126_0_16 → TT (fun n => m_X12_numberHere n 0 0 23 (sI w0)) (fun n => b_X12_numberHere_126 (j_X12_numberHere 0 n) n 0 (sI w1)) → lv_has ls 5 [(0, .ref (ad 0)), (1, .int 0), (2, .int 23), (3, .int v126_3), (4, .int v126_4)] → W p l e ({ frames := 2, cells := 0, slots := 0, locals := 37 }) s m (List.toArray [.ref (ad 0), .int 0, .int 23]) below meth c H locs 0 0 (MQ below (va_Qi (Pz_X12_numberHere_2 ad cy B qr s1  w0) (fun u : va_W => wpost dC dI cy A u) A) (List.toArray [.ref (ad 0), .int 0, .int 23]) s 0 0 A) (F0 m 126 ls []) := by
    intro v126_3 v126_4 f126_0_1 f126_0_14 f126_0_16 H locs ls w1 r2 t3 r4 t5 r6 t7 r9 t10 r12 t13 hw hT hF c8 c11 c14 hM hl
    refine lv_iconst (v := 1) hx hb dX12_numberHere_126 (by decide) ?_
    refine lv_goto (tgt := 131) hx hb dX12_numberHere_127 (by decide) ?_
    exact tk_zret hC hr rfl hlocks hK ⟨hT, hF, hM.ret (by decide), (Or.inr (Or.inr ⟨rfl, ⟨f126_0_1, c8, (show 1 ≤ f126_0_1.toInt from r6), (show f126_0_1.toInt ≤ 400 from t7)⟩, ⟨f126_0_16, c14, (show 0 ≤ f126_0_16.toInt from r12), (show f126_0_16.toInt ≤ 23 from t13)⟩⟩))⟩ hw dX12_numberHere_131
  have J117 : ∀ (v117_3 : Int32) (v117_4 : Int32) (f117_0_1 : Int32) (f117_0_14 : Int32) (f117_0_16 : Int32) (H : Heap) (locs : List Loc) (ls : Array Slot) (w15 : va_W), 0 ≤ v117_3.toInt → v117_3.toInt ≤ 399 → 1 ≤ f117_0_1.toInt → f117_0_1.toInt ≤ 400 → 0 ≤ f117_0_14.toInt → f117_0_14.toInt ≤ 400 → Wd dC dI A s.heap H locs w15 → TW ksM ad cy B qr 12 w15 → FE ksM [(12, 14, 14), (12, 15, 15), (12, 16, 16)] w0 w15 → gi w15 0 1 = f117_0_1 → gi w15 0 14 = f117_0_14 → gi w15 0 16 = f117_0_16 → TT (fun n => m_X12_numberHere n 0 0 23 (sI w0)) (fun n => b_X12_numberHere_117 (j_X12_numberHere 0 n) n 0 (v117_3.toInt) (sI w15)) → lv_has ls 5 [(0, .ref (ad 0)), (1, .int 0), (2, .int 23), (3, .int v117_3), (4, .int v117_4)] → W p l e ({ frames := 2, cells := 0, slots := 0, locals := 37 }) s m (List.toArray [.ref (ad 0), .int 0, .int 23]) below meth c H locs 0 0 (MQ below (va_Qi (Pz_X12_numberHere_2 ad cy B qr s1  w0) (fun u : va_W => wpost dC dI cy A u) A) (List.toArray [.ref (ad 0), .int 0, .int 23]) s 0 0 A) (F0 m 117 ls []) := by
    intro v117_3 v117_4 f117_0_1 f117_0_14 f117_0_16 H locs ls w15 r16 t17 r18 t19 r21 t22 hw hT hF c20 c23 c24 hM hl
    refine lv_aload_n hx hb dX12_numberHere_117 rfl (lv_at hl 0 rfl) ?_
    refine lv_iconst (v := 1) hx hb dX12_numberHere_118 (by decide) ?_
    refine lv_iload_n hx hb dX12_numberHere_119 rfl (lv_at hl 3 rfl) ?_
    refine tk_Vi hC hK hw hT hA hE hSR kM_at0 (by decide) rfl (kz_X12_fails_1 l adK adV dC dI cy ad B (by omega) (by omega) qr s1   1 (by decide) (by decide) v117_3 (show 0 ≤ v117_3.toInt from r16) (show v117_3.toInt ≤ 400 from Int.le_trans t17 (by decide)) w15 H.size hT ) (cwV 2 hC.2.2.2.2 uV_RX12_115 rfl rfl rfl (by decide +kernel) ⟨Nat.le_of_ble_eq_true rfl, Nat.le_of_ble_eq_true rfl⟩) rfl hl.1 rfl (Nat.le_of_ble_eq_true rfl) dX12_numberHere_120 (fun r25 w27 H locs hp26 hw => ?_)
    obtain ⟨hT, k28, hv32, hg31⟩ := hp26
    try simp only [show (1 : Int32).toInt = 1 by decide] at hv32
    have hF := hF.tr k28 (by decide)
    have c33 := k28.gi kM_at0 (by decide) c20
    have c34 := k28.gi kM_at0 (by decide) c23
    have c35 := k28.gi kM_at0 (by decide) c24
    obtain ⟨rfl, ⟨x29, c30, rx29, tx29⟩⟩ := hg31
    replace hM := hM.call (r' := 0) hv32 (by decide)
    refine lv_if_eq (tgt := 130) hx hb dX12_numberHere_123 (by decide) (fun _ => ?_) (fun c => absurd (by decide) c)
    replace hM := hM.pos (by decide)
    refine lv_iconst (v := 0) hx hb dX12_numberHere_130 (by decide) ?_
    exact tk_zret hC hr rfl hlocks hK ⟨hT, hF, hM.ret (by decide), (Or.inl ⟨rfl, ⟨f117_0_1, c33, (show 1 ≤ f117_0_1.toInt from r18), (show f117_0_1.toInt ≤ 400 from t19)⟩, ⟨x29, c30, (show 1 ≤ x29.toInt by omega), (show x29.toInt ≤ 3205 by omega)⟩⟩)⟩ hw dX12_numberHere_131
  have L34 : ∀ (n34 : Nat) (v34_3 : Int32) (v34_4 : Int32) (f34_0_1 : Int32) (f34_0_14 : Int32) (H : Heap) (locs : List Loc) (ls : Array Slot) (w36 : va_W), 0 ≤ v34_3.toInt → v34_3.toInt ≤ 399 → 1 ≤ f34_0_1.toInt → f34_0_1.toInt ≤ 400 → 0 ≤ f34_0_14.toInt → f34_0_14.toInt ≤ 400 → (400 - f34_0_14.toInt).toNat < n34 → Wd dC dI A s.heap H locs w36 → TW ksM ad cy B qr 12 w36 → FE ksM [(12, 14, 14), (12, 15, 15), (12, 16, 16)] w0 w36 → gi w36 0 1 = f34_0_1 → gi w36 0 14 = f34_0_14 → TT (fun n => m_X12_numberHere n 0 0 23 (sI w0)) (fun n => j_X12_numberHere 0 n 34 [(0 : Int), (23 : Int), v34_3.toInt, v34_4.toInt] (sI w36)) → lv_has ls 5 [(0, .ref (ad 0)), (1, .int 0), (2, .int 23), (3, .int v34_3), (4, .int v34_4)] → W p l e ({ frames := 2, cells := 0, slots := 0, locals := 37 }) s m (List.toArray [.ref (ad 0), .int 0, .int 23]) below meth c H locs 0 0 (MQ below (va_Qi (Pz_X12_numberHere_2 ad cy B qr s1  w0) (fun u : va_W => wpost dC dI cy A u) A) (List.toArray [.ref (ad 0), .int 0, .int 23]) s 0 0 A) (F0 m 34 ls []) := by
    intro n34
    induction n34 with
    | zero => intro v34_3 v34_4 f34_0_1 f34_0_14 H locs ls w36 r37 t38 r39 t40 r42 t43 hm34 hw hT hF c41 c44 hM hl; omega
    | succ n34 ih34 =>
      intro v34_3 v34_4 f34_0_1 f34_0_14 H locs ls w36 r37 t38 r39 t40 r42 t43 hm34 hw hT hF c41 c44 hM hl
      have J75 : ∀ (v75_4 : Int32) (H : Heap) (locs : List Loc) (ls : Array Slot) (w45 : va_W), 0 ≤ v34_3.toInt → v34_3.toInt ≤ 399 → 1 ≤ f34_0_1.toInt → f34_0_1.toInt ≤ 400 → 0 ≤ f34_0_14.toInt → f34_0_14.toInt ≤ 399 → Wd dC dI A s.heap H locs w45 → TW ksM ad cy B qr 12 w45 → FE ksM [(12, 14, 14), (12, 15, 15), (12, 16, 16)] w0 w45 → gi w45 0 1 = f34_0_1 → gi w45 0 14 = f34_0_14 → TT (fun n => m_X12_numberHere n 0 0 23 (sI w0)) (fun n => b_X12_numberHere_75 (j_X12_numberHere 0 n) n 0 (0 : Int) (23 : Int) (v34_3.toInt) (v75_4.toInt) (sI w45)) → lv_has ls 5 [(0, .ref (ad 0)), (1, .int 0), (2, .int 23), (3, .int v34_3), (4, .int v75_4)] → W p l e ({ frames := 2, cells := 0, slots := 0, locals := 37 }) s m (List.toArray [.ref (ad 0), .int 0, .int 23]) below meth c H locs 0 0 (MQ below (va_Qi (Pz_X12_numberHere_2 ad cy B qr s1  w0) (fun u : va_W => wpost dC dI cy A u) A) (List.toArray [.ref (ad 0), .int 0, .int 23]) s 0 0 A) (F0 m 75 ls []) := by
        intro v75_4 H locs ls w45 r46 t47 r48 t49 r51 t52 hw hT hF c50 c53 hM hl
        refine lv_aload_n hx hb dX12_numberHere_75 rfl (lv_at hl 0 rfl) ?_
        refine lv_dup hx hb dX12_numberHere_76 rfl ?_
        refine tk_geti hC hK hw hT hinX12 kM_at0 (by decide) rfl 14 (by decide) (List.mem_cons_of_mem _ uw_19_18) rfl rfl dX12_numberHere_77 (fun x54 c55 rx54 tx54 => ?_)
        refine wk_top f34_0_14 (c55.symm.trans c53) ?_
        replace hM := hM.rd (sI_at c53)
        refine lv_iconst (v := 1) hx hb dX12_numberHere_80 (by decide) ?_
        refine lv_iadd hx hb dX12_numberHere_81 ?_
        refine lv_topi (fun x56 ex56 => ?_)
        have ezx56 := ex56
        have ex56 : x56.toInt = f34_0_14.toInt + (1 : Int) := by rw [ex56]; exact wk_add (show (-2147483648) ≤ f34_0_14.toInt + (1 : Int) by omega) (show f34_0_14.toInt + (1 : Int) ≤ 2147483647 by omega)
        replace hM := hM.lt ex56.symm
        refine tk_puti hC hK hw hT hinX12 tyX12_ok nmX12 kM_at0 (by decide) rfl rfl 14 (by decide) (List.mem_cons_of_mem _ uw_19_18) rfl rfl rfl rfl (show 0 ≤ x56.toInt by omega) (show x56.toInt ≤ 400 by omega) dX12_numberHere_82 (fun H locs w57 hw hT k59 c58 => ?_)
        replace hM := hM.wr (sI_up k59 c58)
        have hF := hF.put kM_at0 (k := 14) (by decide) k59
        have c60 := k59.gi (Or.inr (by decide)) c50
        refine lv_goto (tgt := 34) hx hb dX12_numberHere_85 (by decide) ?_
        exact ih34 v34_3 v75_4 f34_0_1 x56 H locs ls w57 (show 0 ≤ v34_3.toInt from r46) (show v34_3.toInt ≤ 399 from t47) (show 1 ≤ f34_0_1.toInt from r48) (show f34_0_1.toInt ≤ 400 from t49) (show 0 ≤ x56.toInt by omega) (show x56.toInt ≤ 400 by omega) (show (400 - x56.toInt).toNat < n34 by omega) hw hT hF c60 c58 hM (lv_sub hl [0, 1, 2, 3, 4] rfl)
      replace hM := hM.suc (fun _ => e_X12_numberHere_34)
      refine lv_aload_n hx hb dX12_numberHere_34 rfl (lv_at hl 0 rfl) ?_
      refine lv_aload_n hx hb dX12_numberHere_35 rfl (lv_at hl 0 rfl) ?_
      refine tk_geti hC hK hw hT hinX12 kM_at0 (by decide) rfl 14 (by decide) (List.mem_cons_of_mem _ uw_19_18) rfl rfl dX12_numberHere_36 (fun x61 c62 rx61 tx61 => ?_)
      refine wk_top f34_0_14 (c62.symm.trans c44) ?_
      replace hM := hM.rd (sI_at c44)
      refine tk_Vi hC hK hw hT hA hE hSR kM_at0 (by decide) rfl (kz_X12_isDigit_1 l adK adV dC dI cy ad B (by omega) (by omega) qr s1   f34_0_14 (show 0 ≤ f34_0_14.toInt from r42) (show f34_0_14.toInt ≤ 400 from t43) w36 H.size hT ) (cwV 1 hC.2.2.2.2 uV_RX12_112 rfl rfl rfl (by decide +kernel) ⟨Nat.le_of_ble_eq_true rfl, Nat.le_of_ble_eq_true rfl⟩) rfl hl.1 rfl (Nat.le_of_ble_eq_true rfl) dX12_numberHere_39 (fun r63 w65 H locs hp64 hw => ?_)
      obtain ⟨rfl, hv73, hg72⟩ := hp64
      rcases hg72 with ⟨rfl, ⟨x67, c68, rx67, tx67⟩⟩ | ⟨rfl, g69, ⟨x70, c71, rx70, tx70⟩⟩
      · replace hM := hM.call (r' := 0) hv73 (by decide)
        have ex67 : x67.toInt = f34_0_1.toInt := by rw [← c41.symm.trans c68]
        refine lv_if_eq (tgt := 88) hx hb dX12_numberHere_42 (by decide) (fun _ => ?_) (fun c => absurd (by decide) c)
        replace hM := hM.pos (by decide)
        refine lv_aload_n hx hb dX12_numberHere_88 rfl (lv_at hl 0 rfl) ?_
        refine lv_iload hx hb dX12_numberHere_89 (lv_at hl 4 rfl) ?_
        refine tk_puti hC hK hw hT hinX12 tyX12_ok nmX12 kM_at0 (by decide) rfl rfl 16 (by decide) (List.mem_cons_of_mem _ uw_21_12) rfl rfl rfl rfl (wk_i32 v34_4).1 (wk_i32 v34_4).2 dX12_numberHere_91 (fun H locs w74 hw hT k76 c75 => ?_)
        replace hM := hM.wr (sI_up k76 c75)
        have hF := hF.put kM_at0 (k := 16) (by decide) k76
        have c77 := k76.gi (Or.inr (by decide)) c41
        have c78 := k76.gi (Or.inr (by decide)) c44
        refine lv_aload_n hx hb dX12_numberHere_94 rfl (lv_at hl 0 rfl) ?_
        refine tk_geti hC hK hw hT hinX12 kM_at0 (by decide) rfl 14 (by decide) (List.mem_cons_of_mem _ uw_19_18) rfl rfl dX12_numberHere_95 (fun x79 c80 rx79 tx79 => ?_)
        refine wk_top f34_0_14 (c80.symm.trans c78) ?_
        replace hM := hM.rd (sI_at c78)
        refine lv_iload_n hx hb dX12_numberHere_98 rfl (lv_at hl 3 rfl) ?_
        refine lv_isub hx hb dX12_numberHere_99 ?_
        refine lv_topi (fun x81 ex81 => ?_)
        have ezx81 := ex81
        have ex81 : x81.toInt = f34_0_14.toInt - v34_3.toInt := by rw [ex81]; exact wk_sub (show (-2147483648) ≤ f34_0_14.toInt - v34_3.toInt by omega) (show f34_0_14.toInt - v34_3.toInt ≤ 2147483647 by omega)
        replace hM := hM.lt ex81.symm
        refine lv_iconst (v := 5) hx hb dX12_numberHere_100 (by decide) ?_
        refine lv_icmp_gt (tgt := 117) hx hb dX12_numberHere_101 (by decide) (fun c82 => ?_) (fun c82 => ?_)
        · have c82 : (5 : Int) < x81.toInt := wk_lt.mp c82
          replace hM := hM.pos c82
          exact J117 v34_3 v34_4 f34_0_1 f34_0_14 v34_4 H locs ls w74 (show 0 ≤ v34_3.toInt from r37) (show v34_3.toInt ≤ 399 from t38) (show 1 ≤ f34_0_1.toInt from r39) (show f34_0_1.toInt ≤ 400 from t40) (show 0 ≤ f34_0_14.toInt from r42) (show f34_0_14.toInt ≤ 400 from t43)  hw hT hF c77 c78 c75 hM (lv_sub hl [0, 1, 2, 3, 4] rfl)
        · have c82 : x81.toInt ≤ (5 : Int) := wk_ltF c82
          replace hM := hM.neg (Int.not_lt.mpr c82)
          refine lv_iload hx hb dX12_numberHere_104 (lv_at hl 4 rfl) ?_
          refine lv_i2l hx hb dX12_numberHere_106 rfl ?_
          refine lv_topl (fun x83 ex83 => ?_)
          have ex83 : x83.toInt = v34_4.toInt := by rw [ex83]; exact wk_i2l _
          have bx83 := wk_i32 v34_4
          replace hM := hM.lt ex83.symm
          refine lv_iload_n hx hb dX12_numberHere_107 rfl (lv_at hl 1 rfl) ?_
          refine lv_i2l hx hb dX12_numberHere_108 rfl ?_
          refine wk_topl 0 (by decide) ?_
          replace hM := hM.lt rfl
          refine lv_iload_n hx hb dX12_numberHere_109 rfl (lv_at hl 2 rfl) ?_
          refine lv_i2l hx hb dX12_numberHere_110 rfl ?_
          refine wk_topl 23 (by decide) ?_
          replace hM := hM.lt rfl
          refine tk_Si hC hK hw hT hA hE hSR (kz_X12_in_2 l adK adV dC dI cy ad B (by omega) (by omega) qr s1   x83 (show (-2147483648) ≤ x83.toInt by omega) (show x83.toInt ≤ 2147483647 by omega) w74 H.size hT ) (va_cwS 3 hC.2.2.2.2 uS_RX12_122 rfl rfl rfl (by decide +kernel) ⟨Nat.le_of_ble_eq_true rfl, Nat.le_of_ble_eq_true rfl⟩) rfl hl.1 rfl (Nat.le_of_ble_eq_true rfl) dX12_numberHere_111 (fun r84 w86 H locs hp85 hw => ?_)
          obtain ⟨rfl, hv91, hg90⟩ := hp85
          rcases hg90 with rfl | ⟨rfl, g88, g89⟩
          · replace hM := hM.call (r' := 0) hv91 (by decide)
            refine lv_if_ne (tgt := 126) hx hb dX12_numberHere_114 (by decide) (fun c => absurd (by decide) c) (fun _ => ?_)
            replace hM := hM.neg (by decide)
            exact J117 v34_3 v34_4 f34_0_1 f34_0_14 v34_4 H locs ls w74 (show 0 ≤ v34_3.toInt from r37) (show v34_3.toInt ≤ 399 from t38) (show 1 ≤ f34_0_1.toInt from r39) (show f34_0_1.toInt ≤ 400 from t40) (show 0 ≤ f34_0_14.toInt from r42) (show f34_0_14.toInt ≤ 400 from t43)  hw hT hF c77 c78 c75 hM (lv_sub hl [0, 1, 2, 3, 4] rfl)
          · replace hM := hM.call (r' := 1) hv91 (by decide)
            refine lv_if_ne (tgt := 126) hx hb dX12_numberHere_114 (by decide) (fun _ => ?_) (fun c => absurd c (by decide))
            replace hM := hM.pos (by decide)
            exact J126 v34_3 v34_4 f34_0_1 f34_0_14 v34_4 H locs ls w74 (show 0 ≤ v34_3.toInt from r37) (show v34_3.toInt ≤ 399 from t38) (show 0 ≤ v34_4.toInt by omega) (show v34_4.toInt ≤ 23 by omega) (show 1 ≤ f34_0_1.toInt from r39) (show f34_0_1.toInt ≤ 400 from t40) (show 0 ≤ f34_0_14.toInt from r42) (show f34_0_14.toInt ≤ 400 from t43) (show 0 ≤ v34_4.toInt by omega) (show v34_4.toInt ≤ 23 by omega)  hw hT hF c77 c78 c75 hM (lv_sub hl [0, 1, 2, 3, 4] rfl)
      · replace hM := hM.call (r' := 1) hv73 (by decide)
        have ex70 : x70.toInt = f34_0_1.toInt := by rw [← c41.symm.trans c71]
        refine lv_if_eq (tgt := 88) hx hb dX12_numberHere_42 (by decide) (fun c => absurd c (by decide)) (fun _ => ?_)
        replace hM := hM.neg (by decide)
        refine lv_aload_n hx hb dX12_numberHere_45 rfl (lv_at hl 0 rfl) ?_
        refine tk_geti hC hK hw hT hinX12 kM_at0 (by decide) rfl 14 (by decide) (List.mem_cons_of_mem _ uw_19_18) rfl rfl dX12_numberHere_46 (fun x92 c93 rx92 tx92 => ?_)
        refine wk_top f34_0_14 (c93.symm.trans c44) ?_
        replace hM := hM.rd (sI_at c44)
        refine lv_iload_n hx hb dX12_numberHere_49 rfl (lv_at hl 3 rfl) ?_
        refine lv_isub hx hb dX12_numberHere_50 ?_
        refine lv_topi (fun x94 ex94 => ?_)
        have ezx94 := ex94
        have ex94 : x94.toInt = f34_0_14.toInt - v34_3.toInt := by rw [ex94]; exact wk_sub (show (-2147483648) ≤ f34_0_14.toInt - v34_3.toInt by omega) (show f34_0_14.toInt - v34_3.toInt ≤ 2147483647 by omega)
        replace hM := hM.lt ex94.symm
        refine lv_iconst (v := 5) hx hb dX12_numberHere_51 (by decide) ?_
        refine lv_icmp_ge (tgt := 75) hx hb dX12_numberHere_52 (by decide) (fun c95 => ?_) (fun c95 => ?_)
        · have c95 : (5 : Int) ≤ x94.toInt := wk_le.mp c95
          replace hM := hM.pos c95
          exact J75 v34_4 H locs ls w36 (show 0 ≤ v34_3.toInt from r37) (show v34_3.toInt ≤ 399 from t38) (show 1 ≤ f34_0_1.toInt from r39) (show f34_0_1.toInt ≤ 400 from t40) (show 0 ≤ f34_0_14.toInt from r42) (show f34_0_14.toInt ≤ 399 by omega)  hw hT hF c41 c44 hM (lv_sub hl [0, 1, 2, 3, 4] rfl)
        · have c95 : x94.toInt < (5 : Int) := wk_leF c95
          replace hM := hM.neg (Int.not_le.mpr c95)
          refine lv_bipush (v := 10) hx hb dX12_numberHere_55 (by decide) ?_
          refine lv_iload hx hb dX12_numberHere_57 (lv_at hl 4 rfl) ?_
          refine lv_imul hx hb dX12_numberHere_59 ?_
          have nx96 := wk_i32 v34_4
          refine lv_topi (fun x97 ex97 => ?_)
          have ezx97 := ex97
          replace hM := hM.lt (o32_e (f := fun x y => x * y) ezx97 (by decide) rfl)
          refine lv_aload_n hx hb dX12_numberHere_60 rfl (lv_at hl 0 rfl) ?_
          refine tk_getA hC hK hw hT hinX12 kM_at0 (by decide) rfl 0 (by decide) (List.mem_cons_of_mem _ uw_6_14) rfl rfl dX12_numberHere_61 ?_
          refine lv_aload_n hx hb dX12_numberHere_64 rfl (lv_at hl 0 rfl) ?_
          refine tk_geti hC hK hw hT hinX12 kM_at0 (by decide) rfl 14 (by decide) (List.mem_cons_of_mem _ uw_19_18) rfl rfl dX12_numberHere_65 (fun x98 c99 rx98 tx98 => ?_)
          refine wk_top f34_0_14 (c99.symm.trans c44) ?_
          replace hM := hM.rd (sI_at c44)
          refine tk_bald hC hK hw hT kM_at1 rfl rfl (show 0 ≤ f34_0_14.toInt from r42) (show f34_0_14.toInt < 400 by omega) dX12_numberHere_68 (fun x100 c101 rx100 tx100 => ?_)
          have hox100 := c101
          replace hM := hM.rd (sI_at hox100)
          have c101 : gi w36 1 (f34_0_14.toInt).toNat = x100 := (congrArg (gi w36 1) (congrArg Int.toNat (show f34_0_14.toInt = f34_0_14.toInt by omega))).trans c101
          refine lv_iadd hx hb dX12_numberHere_69 ?_
          have nx102 := wk_i32 x97
          refine lv_topi (fun x103 ex103 => ?_)
          have ezx103 := ex103
          replace hM := hM.lt (o32_e (f := fun x y => x + y) ezx103 rfl rfl)
          refine lv_bipush (v := 48) hx hb dX12_numberHere_70 (by decide) ?_
          refine lv_isub hx hb dX12_numberHere_72 ?_
          have nx104 := wk_i32 x103
          refine lv_topi (fun x105 ex105 => ?_)
          have ezx105 := ex105
          replace hM := hM.lt (o32_e (f := fun x y => x - y) ezx105 rfl (by decide))
          refine lv_istore (lv' := [(4, .int x105), (0, .ref (ad 0)), (1, .int 0), (2, .int 23), (3, .int v34_3)]) hx hb dX12_numberHere_73 hl (by decide) rfl (fun ls hl => ?_)
          exact J75 x105 H locs ls w36 (show 0 ≤ v34_3.toInt from r37) (show v34_3.toInt ≤ 399 from t38) (show 1 ≤ f34_0_1.toInt from r39) (show f34_0_1.toInt ≤ 400 from t40) (show 0 ≤ f34_0_14.toInt from r42) (show f34_0_14.toInt ≤ 399 by omega)  hw hT hF c41 c44 hM (lv_sub hl [1, 2, 3, 4, 0] rfl)
  have hM : TT (fun n => m_X12_numberHere n 0 0 23 (sI w0)) (fun n => m_X12_numberHere n 0 0 23 (sI w0)) := TT.rf
  refine lv_aload_n hx hb dX12_numberHere_0 rfl (lv_at hl 0 rfl) ?_
  obtain ⟨x106, c107, rx106, tx106⟩ := hT.rdi (lo := 0) (hi := 400) (k := 14) kM_at0 (by decide) rfl
  refine tk_Vi hC hK hw hT hA hE hSR kM_at0 (by decide) rfl (kz_X12_see_1 l adK adV dC dI cy ad B (by omega) (by omega) qr s1    w0 s.heap.size hT x106 c107 (show 0 ≤ x106.toInt by omega) (show x106.toInt ≤ 400 by omega)) (cwV 0 hC.2.2.2.2 uV_RX12_97 rfl rfl rfl (by decide +kernel) ⟨Nat.le_of_ble_eq_true rfl, Nat.le_of_ble_eq_true rfl⟩) rfl hl.1 rfl (Nat.le_of_ble_eq_true rfl) dX12_numberHere_1 (fun r108 w110 H locs hp109 hw => ?_)
  obtain ⟨hT, k111, hv129, hg128⟩ := hp109
  have hF := hF.tr k111 (by decide)
  rcases hg128 with ⟨g112, g113, ⟨x114, c115, rx114, tx114⟩, ⟨x116, c117, rx116, tx116⟩, g118, g119⟩ | ⟨rfl, ⟨x120, c121, rx120, tx120⟩, ⟨x122, c123, rx122, tx122⟩, g124⟩ | ⟨rfl, ⟨x125, c126, rx125, tx125⟩, g127⟩
  · replace hM := hM.call hv129 rfl
    have g118 : (gi w110 1 (x116.toInt).toNat).toInt ≠ 32 := by have q := g118; simp only [c117] at q; omega
    have g119 : (x116.toInt = x106.toInt ∨ (gi w0 1 (x106.toInt).toNat).toInt = 32) := by have q := g119; simp only [c107, c117] at q; omega
    refine lv_pop hx hb dX12_numberHere_4 rfl ?_
    refine lv_aload_n hx hb dX12_numberHere_5 rfl (lv_at hl 0 rfl) ?_
    refine lv_aload_n hx hb dX12_numberHere_6 rfl (lv_at hl 0 rfl) ?_
    refine tk_geti hC hK hw hT hinX12 kM_at0 (by decide) rfl 14 (by decide) (List.mem_cons_of_mem _ uw_19_18) rfl rfl dX12_numberHere_7 (fun x132 c133 rx132 tx132 => ?_)
    refine wk_top x116 (c133.symm.trans c117) ?_
    replace hM := hM.rd (sI_at c117)
    refine tk_Vi hC hK hw hT hA hE hSR kM_at0 (by decide) rfl (kz_X12_isDigit_2 l adK adV dC dI cy ad B (by omega) (by omega) qr s1   x116 (show 0 ≤ x116.toInt by omega) (show x116.toInt ≤ 399 by omega) w110 H.size hT ) (cwV 1 hC.2.2.2.2 uV_RX12_112 rfl rfl rfl (by decide +kernel) ⟨Nat.le_of_ble_eq_true rfl, Nat.le_of_ble_eq_true rfl⟩) rfl hl.1 rfl (Nat.le_of_ble_eq_true rfl) dX12_numberHere_10 (fun r134 w136 H locs hp135 hw => ?_)
    obtain ⟨rfl, hv143, hg142⟩ := hp135
    rcases hg142 with ⟨rfl, ⟨x138, c139, rx138, tx138⟩⟩ | ⟨rfl, ⟨x140, c141, rx140, tx140⟩⟩
    · replace hM := hM.call (r' := 0) hv143 (by decide)
      have ex138 : x138.toInt = x114.toInt := by rw [← c115.symm.trans c139]
      refine lv_if_ne (tgt := 26) hx hb dX12_numberHere_13 (by decide) (fun c => absurd (by decide) c) (fun _ => ?_)
      replace hM := hM.neg (by decide)
      refine lv_aload_n hx hb dX12_numberHere_16 rfl (lv_at hl 0 rfl) ?_
      refine lv_iconst (v := 0) hx hb dX12_numberHere_17 (by decide) ?_
      refine lv_aload_n hx hb dX12_numberHere_18 rfl (lv_at hl 0 rfl) ?_
      refine tk_geti hC hK hw hT hinX12 kM_at0 (by decide) rfl 14 (by decide) (List.mem_cons_of_mem _ uw_19_18) rfl rfl dX12_numberHere_19 (fun x144 c145 rx144 tx144 => ?_)
      refine wk_top x116 (c145.symm.trans c117) ?_
      replace hM := hM.rd (sI_at c117)
      refine tk_Vi hC hK hw hT hA hE hSR kM_at0 (by decide) rfl (kz_X12_fails_1 l adK adV dC dI cy ad B (by omega) (by omega) qr s1   0 (by decide) (by decide) x116 (show 0 ≤ x116.toInt by omega) (show x116.toInt ≤ 400 by omega) w110 H.size hT ) (cwV 2 hC.2.2.2.2 uV_RX12_115 rfl rfl rfl (by decide +kernel) ⟨Nat.le_of_ble_eq_true rfl, Nat.le_of_ble_eq_true rfl⟩) rfl hl.1 rfl (Nat.le_of_ble_eq_true rfl) dX12_numberHere_22 (fun r146 w148 H locs hp147 hw => ?_)
      obtain ⟨hT, k149, hv153, hg152⟩ := hp147
      try simp only [show (0 : Int32).toInt = 0 by decide] at hv153
      have hF := hF.tr k149 (by decide)
      have c154 := k149.gi kM_at0 (by decide) c115
      have c155 := k149.gi kM_at0 (by decide) c117
      obtain ⟨rfl, ⟨x150, c151, rx150, tx150⟩⟩ := hg152
      replace hM := hM.call (r' := 0) hv153 (by decide)
      exact tk_zret hC hr rfl hlocks hK ⟨hT, hF, hM.ret (by decide), (Or.inl ⟨rfl, ⟨x114, c154, (show 1 ≤ x114.toInt by omega), (show x114.toInt ≤ 400 by omega)⟩, ⟨x150, c151, (show 1 ≤ x150.toInt by omega), (show x150.toInt ≤ 3205 by omega)⟩⟩)⟩ hw dX12_numberHere_25
    · replace hM := hM.call (r' := 1) hv143 (by decide)
      have ex140 : x140.toInt = x114.toInt := by rw [← c115.symm.trans c141]
      refine lv_if_ne (tgt := 26) hx hb dX12_numberHere_13 (by decide) (fun _ => ?_) (fun c => absurd c (by decide))
      replace hM := hM.pos (by decide)
      refine lv_aload_n hx hb dX12_numberHere_26 rfl (lv_at hl 0 rfl) ?_
      refine tk_geti hC hK hw hT hinX12 kM_at0 (by decide) rfl 14 (by decide) (List.mem_cons_of_mem _ uw_19_18) rfl rfl dX12_numberHere_27 (fun x156 c157 rx156 tx156 => ?_)
      refine wk_top x116 (c157.symm.trans c117) ?_
      replace hM := hM.rd (sI_at c117)
      refine lv_istore_n (lv' := [(3, .int x116), (0, .ref (ad 0)), (1, .int 0), (2, .int 23)]) hx hb dX12_numberHere_30 rfl hl (by decide) rfl (fun ls hl => ?_)
      refine lv_iconst (v := 0) hx hb dX12_numberHere_31 (by decide) ?_
      refine lv_istore (lv' := [(4, .int 0), (3, .int x116), (0, .ref (ad 0)), (1, .int 0), (2, .int 23)]) hx hb dX12_numberHere_32 hl (by decide) rfl (fun ls hl => ?_)
      exact L34 ((400 - x116.toInt).toNat + 1) x116 0 x114 x116 H locs ls w110 (show 0 ≤ x116.toInt by omega) (show x116.toInt ≤ 399 by omega) (show 1 ≤ x114.toInt by omega) (show x114.toInt ≤ 400 by omega) (show 0 ≤ x116.toInt by omega) (show x116.toInt ≤ 400 by omega) (Nat.lt_succ_self _) hw hT hF c115 c117 hM (lv_sub hl [2, 3, 4, 1, 0] rfl)
  · replace hM := hM.call (r' := (-1)) hv129 (by decide)
    have g124 : (x122.toInt = x106.toInt ∨ (gi w0 1 (x106.toInt).toNat).toInt = 32) := by have q := g124; simp only [c107, c123] at q; omega
    refine lv_pop hx hb dX12_numberHere_4 rfl ?_
    refine lv_aload_n hx hb dX12_numberHere_5 rfl (lv_at hl 0 rfl) ?_
    refine lv_aload_n hx hb dX12_numberHere_6 rfl (lv_at hl 0 rfl) ?_
    refine tk_geti hC hK hw hT hinX12 kM_at0 (by decide) rfl 14 (by decide) (List.mem_cons_of_mem _ uw_19_18) rfl rfl dX12_numberHere_7 (fun x158 c159 rx158 tx158 => ?_)
    refine wk_top x122 (c159.symm.trans c123) ?_
    replace hM := hM.rd (sI_at c123)
    refine tk_Vi hC hK hw hT hA hE hSR kM_at0 (by decide) rfl (kz_X12_isDigit_3 l adK adV dC dI cy ad B (by omega) (by omega) qr s1   x122 (show 1 ≤ x122.toInt by omega) (show x122.toInt ≤ 399 by omega) w110 H.size hT ) (cwV 1 hC.2.2.2.2 uV_RX12_112 rfl rfl rfl (by decide +kernel) ⟨Nat.le_of_ble_eq_true rfl, Nat.le_of_ble_eq_true rfl⟩) rfl hl.1 rfl (Nat.le_of_ble_eq_true rfl) dX12_numberHere_10 (fun r160 w162 H locs hp161 hw => ?_)
    obtain ⟨rfl, hv169, hg168⟩ := hp161
    rcases hg168 with ⟨rfl, ⟨x164, c165, rx164, tx164⟩⟩ | ⟨rfl, ⟨x166, c167, rx166, tx166⟩⟩
    · replace hM := hM.call (r' := 0) hv169 (by decide)
      have ex164 : x164.toInt = x120.toInt := by rw [← c121.symm.trans c165]
      refine lv_if_ne (tgt := 26) hx hb dX12_numberHere_13 (by decide) (fun c => absurd (by decide) c) (fun _ => ?_)
      replace hM := hM.neg (by decide)
      refine lv_aload_n hx hb dX12_numberHere_16 rfl (lv_at hl 0 rfl) ?_
      refine lv_iconst (v := 0) hx hb dX12_numberHere_17 (by decide) ?_
      refine lv_aload_n hx hb dX12_numberHere_18 rfl (lv_at hl 0 rfl) ?_
      refine tk_geti hC hK hw hT hinX12 kM_at0 (by decide) rfl 14 (by decide) (List.mem_cons_of_mem _ uw_19_18) rfl rfl dX12_numberHere_19 (fun x170 c171 rx170 tx170 => ?_)
      refine wk_top x122 (c171.symm.trans c123) ?_
      replace hM := hM.rd (sI_at c123)
      refine tk_Vi hC hK hw hT hA hE hSR kM_at0 (by decide) rfl (kz_X12_fails_1 l adK adV dC dI cy ad B (by omega) (by omega) qr s1   0 (by decide) (by decide) x122 (show 0 ≤ x122.toInt by omega) (show x122.toInt ≤ 400 by omega) w110 H.size hT ) (cwV 2 hC.2.2.2.2 uV_RX12_115 rfl rfl rfl (by decide +kernel) ⟨Nat.le_of_ble_eq_true rfl, Nat.le_of_ble_eq_true rfl⟩) rfl hl.1 rfl (Nat.le_of_ble_eq_true rfl) dX12_numberHere_22 (fun r172 w174 H locs hp173 hw => ?_)
      obtain ⟨hT, k175, hv179, hg178⟩ := hp173
      try simp only [show (0 : Int32).toInt = 0 by decide] at hv179
      have hF := hF.tr k175 (by decide)
      have c180 := k175.gi kM_at0 (by decide) c121
      have c181 := k175.gi kM_at0 (by decide) c123
      obtain ⟨rfl, ⟨x176, c177, rx176, tx176⟩⟩ := hg178
      replace hM := hM.call (r' := 0) hv179 (by decide)
      exact tk_zret hC hr rfl hlocks hK ⟨hT, hF, hM.ret (by decide), (Or.inl ⟨rfl, ⟨x120, c180, (show 1 ≤ x120.toInt by omega), (show x120.toInt ≤ 400 by omega)⟩, ⟨x176, c177, (show 1 ≤ x176.toInt by omega), (show x176.toInt ≤ 3205 by omega)⟩⟩)⟩ hw dX12_numberHere_25
    · replace hM := hM.call (r' := 1) hv169 (by decide)
      have ex166 : x166.toInt = x120.toInt := by rw [← c121.symm.trans c167]
      refine lv_if_ne (tgt := 26) hx hb dX12_numberHere_13 (by decide) (fun _ => ?_) (fun c => absurd c (by decide))
      replace hM := hM.pos (by decide)
      refine lv_aload_n hx hb dX12_numberHere_26 rfl (lv_at hl 0 rfl) ?_
      refine tk_geti hC hK hw hT hinX12 kM_at0 (by decide) rfl 14 (by decide) (List.mem_cons_of_mem _ uw_19_18) rfl rfl dX12_numberHere_27 (fun x182 c183 rx182 tx182 => ?_)
      refine wk_top x122 (c183.symm.trans c123) ?_
      replace hM := hM.rd (sI_at c123)
      refine lv_istore_n (lv' := [(3, .int x122), (0, .ref (ad 0)), (1, .int 0), (2, .int 23)]) hx hb dX12_numberHere_30 rfl hl (by decide) rfl (fun ls hl => ?_)
      refine lv_iconst (v := 0) hx hb dX12_numberHere_31 (by decide) ?_
      refine lv_istore (lv' := [(4, .int 0), (3, .int x122), (0, .ref (ad 0)), (1, .int 0), (2, .int 23)]) hx hb dX12_numberHere_32 hl (by decide) rfl (fun ls hl => ?_)
      exact L34 ((400 - x122.toInt).toNat + 1) x122 0 x120 x122 H locs ls w110 (show 0 ≤ x122.toInt by omega) (show x122.toInt ≤ 399 by omega) (show 1 ≤ x120.toInt by omega) (show x120.toInt ≤ 400 by omega) (show 0 ≤ x122.toInt by omega) (show x122.toInt ≤ 400 by omega) (Nat.lt_succ_self _) hw hT hF c121 c123 hM (lv_sub hl [2, 3, 4, 1, 0] rfl)
  · replace hM := hM.call (r' := (-1)) hv129 (by decide)
    obtain ⟨x130, c131, rx130, tx130⟩ := hT.rdi (lo := 0) (hi := 400) (k := 14) kM_at0 (by decide) rfl
    have g127 : (x130.toInt = x106.toInt ∨ (gi w0 1 (x106.toInt).toNat).toInt = 32) := by have q := g127; simp only [c107, c131] at q; omega
    refine lv_pop hx hb dX12_numberHere_4 rfl ?_
    refine lv_aload_n hx hb dX12_numberHere_5 rfl (lv_at hl 0 rfl) ?_
    refine lv_aload_n hx hb dX12_numberHere_6 rfl (lv_at hl 0 rfl) ?_
    refine tk_geti hC hK hw hT hinX12 kM_at0 (by decide) rfl 14 (by decide) (List.mem_cons_of_mem _ uw_19_18) rfl rfl dX12_numberHere_7 (fun x184 c185 rx184 tx184 => ?_)
    refine wk_top x130 (c185.symm.trans c131) ?_
    replace hM := hM.rd (sI_at c131)
    refine tk_Vi hC hK hw hT hA hE hSR kM_at0 (by decide) rfl (kz_X12_isDigit_1 l adK adV dC dI cy ad B (by omega) (by omega) qr s1   x130 (show 0 ≤ x130.toInt by omega) (show x130.toInt ≤ 400 by omega) w110 H.size hT ) (cwV 1 hC.2.2.2.2 uV_RX12_112 rfl rfl rfl (by decide +kernel) ⟨Nat.le_of_ble_eq_true rfl, Nat.le_of_ble_eq_true rfl⟩) rfl hl.1 rfl (Nat.le_of_ble_eq_true rfl) dX12_numberHere_10 (fun r186 w188 H locs hp187 hw => ?_)
    obtain ⟨rfl, hv196, hg195⟩ := hp187
    rcases hg195 with ⟨rfl, ⟨x190, c191, rx190, tx190⟩⟩ | ⟨rfl, g192, ⟨x193, c194, rx193, tx193⟩⟩
    · replace hM := hM.call (r' := 0) hv196 (by decide)
      have ex190 : x190.toInt = x125.toInt := by rw [← c126.symm.trans c191]
      refine lv_if_ne (tgt := 26) hx hb dX12_numberHere_13 (by decide) (fun c => absurd (by decide) c) (fun _ => ?_)
      replace hM := hM.neg (by decide)
      refine lv_aload_n hx hb dX12_numberHere_16 rfl (lv_at hl 0 rfl) ?_
      refine lv_iconst (v := 0) hx hb dX12_numberHere_17 (by decide) ?_
      refine lv_aload_n hx hb dX12_numberHere_18 rfl (lv_at hl 0 rfl) ?_
      refine tk_geti hC hK hw hT hinX12 kM_at0 (by decide) rfl 14 (by decide) (List.mem_cons_of_mem _ uw_19_18) rfl rfl dX12_numberHere_19 (fun x197 c198 rx197 tx197 => ?_)
      refine wk_top x130 (c198.symm.trans c131) ?_
      replace hM := hM.rd (sI_at c131)
      refine tk_Vi hC hK hw hT hA hE hSR kM_at0 (by decide) rfl (kz_X12_fails_1 l adK adV dC dI cy ad B (by omega) (by omega) qr s1   0 (by decide) (by decide) x130 (show 0 ≤ x130.toInt by omega) (show x130.toInt ≤ 400 by omega) w110 H.size hT ) (cwV 2 hC.2.2.2.2 uV_RX12_115 rfl rfl rfl (by decide +kernel) ⟨Nat.le_of_ble_eq_true rfl, Nat.le_of_ble_eq_true rfl⟩) rfl hl.1 rfl (Nat.le_of_ble_eq_true rfl) dX12_numberHere_22 (fun r199 w201 H locs hp200 hw => ?_)
      obtain ⟨hT, k202, hv206, hg205⟩ := hp200
      try simp only [show (0 : Int32).toInt = 0 by decide] at hv206
      have hF := hF.tr k202 (by decide)
      have c207 := k202.gi kM_at0 (by decide) c126
      have c208 := k202.gi kM_at0 (by decide) c131
      obtain ⟨rfl, ⟨x203, c204, rx203, tx203⟩⟩ := hg205
      replace hM := hM.call (r' := 0) hv206 (by decide)
      exact tk_zret hC hr rfl hlocks hK ⟨hT, hF, hM.ret (by decide), (Or.inr (Or.inl ⟨rfl, ⟨x125, c207, (show 0 ≤ x125.toInt by omega), (show x125.toInt ≤ 400 by omega)⟩, ⟨x203, c204, (show 1 ≤ x203.toInt by omega), (show x203.toInt ≤ 3205 by omega)⟩⟩))⟩ hw dX12_numberHere_25
    · replace hM := hM.call (r' := 1) hv196 (by decide)
      have ex193 : x193.toInt = x125.toInt := by rw [← c126.symm.trans c194]
      refine lv_if_ne (tgt := 26) hx hb dX12_numberHere_13 (by decide) (fun _ => ?_) (fun c => absurd c (by decide))
      replace hM := hM.pos (by decide)
      refine lv_aload_n hx hb dX12_numberHere_26 rfl (lv_at hl 0 rfl) ?_
      refine tk_geti hC hK hw hT hinX12 kM_at0 (by decide) rfl 14 (by decide) (List.mem_cons_of_mem _ uw_19_18) rfl rfl dX12_numberHere_27 (fun x209 c210 rx209 tx209 => ?_)
      refine wk_top x130 (c210.symm.trans c131) ?_
      replace hM := hM.rd (sI_at c131)
      refine lv_istore_n (lv' := [(3, .int x130), (0, .ref (ad 0)), (1, .int 0), (2, .int 23)]) hx hb dX12_numberHere_30 rfl hl (by decide) rfl (fun ls hl => ?_)
      refine lv_iconst (v := 0) hx hb dX12_numberHere_31 (by decide) ?_
      refine lv_istore (lv' := [(4, .int 0), (3, .int x130), (0, .ref (ad 0)), (1, .int 0), (2, .int 23)]) hx hb dX12_numberHere_32 hl (by decide) rfl (fun ls hl => ?_)
      exact L34 ((400 - x130.toInt).toNat + 1) x130 0 x125 x130 H locs ls w110 (show 0 ≤ x130.toInt by omega) (show x130.toInt ≤ 399 by omega) (show 1 ≤ x125.toInt by omega) (show x125.toInt ≤ 400 by omega) (show 0 ≤ x130.toInt by omega) (show x130.toInt ≤ 400 by omega) (Nat.lt_succ_self _) hw hT hF c126 c131 hM (lv_sub hl [2, 3, 4, 1, 0] rfl)
abbrev Pz_X12_in_3 (ad : Nat → Nat) (cy : Nat → ClassId) (B : Int) (qr : Nat) (s1 : Int) (a0 : Int64) (a1 : Int64) (w0 : va_W) : Int32 → va_W → Prop := fun r u => w0 = u ∧ Ev (fun n => m_X12_in n a0.toInt a1.toInt 24 (sI w0)) (r.toInt, sI w0) ∧ ((r = 0) ∨ (r = 1 ∧ 1 ≤ a0.toInt ∧ a0.toInt ≤ 24))
set_option maxHeartbeats 4000000 in
set_option maxRecDepth 100000 in
theorem kz_X12_in_3 (l : Launch) (adK adV : Nat → Nat) (dC : Nat → ClassId) (dI : Nat → Nat → Nat) (cy : Nat → ClassId) (ad : Nat → Nat) (B : Int) (hB0 : 100000 ≤ B) (hB1 : B ≤ 1073741824) (qr : Nat) (s1 : Int)  (a0 : Int64) (ra0 : (-2147483648) ≤ a0.toInt) (ta0 : a0.toInt ≤ 2147483647) (a1 : Int64) (ra1 : 1 ≤ a1.toInt) (ta1 : a1.toInt ≤ 24) (w0 : va_W) (sz : Nat) (hT : TW ksM ad cy B qr 12 w0)  : Met l yX12_in (wu yX12_in cX12_in 6 (some .boolean)) ({ frames := 1, cells := 0, slots := 0, locals := 12 }) (va_Pc [.long a0, .long a1, .long 24] (wpreS adK adV dC dI cy sz w0)) (va_Qi (Pz_X12_in_3 ad cy B qr s1 a0 a1 w0) (fun u : va_W => wpost dC dI cy (va_A w0 sz) u) (va_A w0 sz)) 0 0 (va_A w0 sz) := by
  refine Met.ofW (cc := cX12_in) (maxL := 6) (ret := (some .boolean)) (by decide) rfl ?_
  intro p e s m args below meth c s₁ Bk hml hv
  obtain ⟨rfl, ⟨hsz, hP, hK, hD0⟩, hE, hSR⟩ := hv
  have hx := Bk.exec
  have hb := Bk.bytes
  have hr := Bk.returns
  have hlocks := Bk.notSynchronized
  have hC : CallFix p m c cX12_in 6 s _ (wu yX12_in cX12_in 6 (some .boolean)) RX12 := ⟨hx, hb, hml, findClass_of_methodNamed Bk.named, atoms_spec (ws := (wu yX12_in cX12_in 6 (some .boolean))) Bk.pre⟩
  subst hsz
  have hD := hD0.self (sz := s.heap.size)
  generalize hAe : va_A w0 s.heap.size = A at hD hE ⊢
  have hA : ∀ q : Nat, s.heap.size ≤ q → A q := fun q h => by rw [← hAe]; exact Or.inr h
  have hw : Wd dC dI A s.heap s.heap [] w0 := ⟨hP, hD, va_S.rf⟩
  have hF : FE ksM ([] : List (Nat × Nat × Nat)) w0 w0 := FE.rf
  have hl := lv_entry ([.long a0, .long a1, .long 24]) (n := 6) (Nat.le_of_ble_eq_true rfl)
  rw [lg_entry_eq]
  generalize (lg_sl ([.long a0, .long a1, .long 24]) ++ List.replicate (6 - (lg_sl ([.long a0, .long a1, .long 24])).length) Slot.unset).toArray = ls at hl ⊢
  have hl : lv_has ls 6 [(0, .long a0), (2, .long a1), (4, .long 24)] := hl
  generalize hloc : ([] : List Loc) = locs at hw ⊢
  have J17 : ∀ (H : Heap) (locs : List Loc) (ls : Array Slot), (-2147483648) ≤ a0.toInt → a0.toInt ≤ 2147483647 → 1 ≤ a1.toInt → a1.toInt ≤ 24 → Wd dC dI A s.heap H locs w0 → TT (fun n => m_X12_in n a0.toInt a1.toInt 24 (sI w0)) (fun n => b_X12_in_17 n (sI w0)) → lv_has ls 6 [(0, .long a0), (2, .long a1), (4, .long 24)] → W p l e ({ frames := 1, cells := 0, slots := 0, locals := 12 }) s m (List.toArray [.long a0, .long a1, .long 24]) below meth c H locs 0 0 (MQ below (va_Qi (Pz_X12_in_3 ad cy B qr s1 a0 a1 w0) (fun u : va_W => wpost dC dI cy A u) A) (List.toArray [.long a0, .long a1, .long 24]) s 0 0 A) (F0 m 17 ls []) := by
    intro H locs ls r1 t2 r3 t4 hw hM hl
    refine lv_iconst (v := 0) hx hb dX12_in_17 (by decide) ?_
    exact tk_zret hC hr rfl hlocks hK ⟨rfl, hM.ret (by decide), (Or.inl rfl)⟩ hw dX12_in_18
  have hM : TT (fun n => m_X12_in n a0.toInt a1.toInt 24 (sI w0)) (fun n => m_X12_in n a0.toInt a1.toInt 24 (sI w0)) := TT.rf
  refine lv_lload_n hx hb dX12_in_0 rfl (lv_at hl 0 rfl) ?_
  refine lv_lload_n hx hb dX12_in_1 rfl (lv_at hl 1 rfl) ?_
  refine W.lcmp hx hb dX12_in_2 ?_
  refine lv_if_lt (tgt := 17) hx hb dX12_in_3 (by decide) (fun c5 => ?_) (fun c5 => ?_)
  · have c5 : a0.toInt < a1.toInt := wk_cltT c5
    replace hM := hM.pos c5
    exact J17  s.heap locs ls  (show (-2147483648) ≤ a0.toInt from ra0) (show a0.toInt ≤ 2147483647 from ta0) (show 1 ≤ a1.toInt from ra1) (show a1.toInt ≤ 24 from ta1)  hw  hM (lv_sub hl [0, 1, 2] rfl)
  · have c5 : a1.toInt ≤ a0.toInt := wk_cltF c5
    replace hM := hM.neg (Int.not_lt.mpr c5)
    refine lv_lload_n hx hb dX12_in_6 rfl (lv_at hl 0 rfl) ?_
    refine lv_lload hx hb dX12_in_7 (lv_at hl 2 rfl) ?_
    refine W.lcmp hx hb dX12_in_9 ?_
    refine lv_if_gt (tgt := 17) hx hb dX12_in_10 (by decide) (fun c6 => ?_) (fun c6 => ?_)
    · have c6 : (24 : Int) < a0.toInt := wk_cgtT c6
      replace hM := hM.pos c6
      exact J17  s.heap locs ls  (show (-2147483648) ≤ a0.toInt from ra0) (show a0.toInt ≤ 2147483647 from ta0) (show 1 ≤ a1.toInt from ra1) (show a1.toInt ≤ 24 from ta1)  hw  hM (lv_sub hl [0, 1, 2] rfl)
    · have c6 : a0.toInt ≤ (24 : Int) := wk_cgtF c6
      replace hM := hM.neg (Int.not_lt.mpr c6)
      refine lv_iconst (v := 1) hx hb dX12_in_13 (by decide) ?_
      refine lv_goto (tgt := 18) hx hb dX12_in_14 (by decide) ?_
      exact tk_zret hC hr rfl hlocks hK ⟨rfl, hM.ret (by decide), (Or.inr ⟨rfl, (show 1 ≤ a0.toInt by omega), (show a0.toInt ≤ 24 by omega)⟩)⟩ hw dX12_in_18
abbrev Pz_X12_numberHere_3 (ad : Nat → Nat) (cy : Nat → ClassId) (B : Int) (qr : Nat) (s1 : Int) (a1 : Int32) (w0 : va_W) : Int32 → va_W → Prop := fun r u => TW ksM ad cy B qr 12 u ∧ FE ksM [(12, 14, 14), (12, 15, 15), (12, 16, 16)] w0 u ∧ Ev (fun n => m_X12_numberHere n 0 a1.toInt 24 (sI w0)) (r.toInt, sI u) ∧ ((r = 0 ∧ (∃ y : Int32, gi u 0 1 = y ∧ 1 ≤ y.toInt ∧ y.toInt ≤ 400) ∧ (∃ y : Int32, gi u 0 15 = y ∧ 1 ≤ y.toInt ∧ y.toInt ≤ 3205)) ∨ (r = 0 ∧ (∃ y : Int32, gi u 0 1 = y ∧ 0 ≤ y.toInt ∧ y.toInt ≤ 400) ∧ (∃ y : Int32, gi u 0 15 = y ∧ 1 ≤ y.toInt ∧ y.toInt ≤ 3205)) ∨ (r = 1 ∧ (∃ y : Int32, gi u 0 1 = y ∧ 1 ≤ y.toInt ∧ y.toInt ≤ 400) ∧ (∃ y : Int32, gi u 0 16 = y ∧ 1 ≤ y.toInt ∧ y.toInt ≤ 24)))
set_option maxHeartbeats 4000000 in
set_option maxRecDepth 100000 in
theorem kz_X12_numberHere_3 (l : Launch) (adK adV : Nat → Nat) (dC : Nat → ClassId) (dI : Nat → Nat → Nat) (cy : Nat → ClassId) (ad : Nat → Nat) (B : Int) (hB0 : 100000 ≤ B) (hB1 : B ≤ 1073741824) (qr : Nat) (s1 : Int)  (a1 : Int32) (ra1 : 1 ≤ a1.toInt) (ta1 : a1.toInt ≤ 24) (w0 : va_W) (sz : Nat) (hT : TW ksM ad cy B qr 12 w0)  : Met l yX12_numberHere (wu yX12_numberHere cX12_numberHere 5 (some .boolean)) ({ frames := 2, cells := 0, slots := 0, locals := 37 }) (va_Pc [.ref (ad 0), .int a1, .int 24] (wpreS adK adV dC dI cy sz w0)) (va_Qi (Pz_X12_numberHere_3 ad cy B qr s1 a1 w0) (fun u : va_W => wpost dC dI cy (va_A w0 sz) u) (va_A w0 sz)) 0 0 (va_A w0 sz) := by
  refine Met.ofW (cc := cX12_numberHere) (maxL := 5) (ret := (some .boolean)) (by decide) rfl ?_
  intro p e s m args below meth c s₁ Bk hml hv
  obtain ⟨rfl, ⟨hsz, hP, hK, hD0⟩, hE, hSR⟩ := hv
  have hx := Bk.exec
  have hb := Bk.bytes
  have hr := Bk.returns
  have hlocks := Bk.notSynchronized
  have hC : CallFix p m c cX12_numberHere 5 s _ (wu yX12_numberHere cX12_numberHere 5 (some .boolean)) RX12 := ⟨hx, hb, hml, findClass_of_methodNamed Bk.named, atoms_spec (ws := (wu yX12_numberHere cX12_numberHere 5 (some .boolean))) Bk.pre⟩
  subst hsz
  have hD := hD0.self (sz := s.heap.size)
  generalize hAe : va_A w0 s.heap.size = A at hD hE ⊢
  have hA : ∀ q : Nat, s.heap.size ≤ q → A q := fun q h => by rw [← hAe]; exact Or.inr h
  have hw : Wd dC dI A s.heap s.heap [] w0 := ⟨hP, hD, va_S.rf⟩
  have hF : FE ksM [(12, 14, 14), (12, 15, 15), (12, 16, 16)] w0 w0 := FE.rf
  have hl := lv_entry ([.ref (ad 0), .int a1, .int 24]) (n := 5) (Nat.le_of_ble_eq_true rfl)
  rw [lg_entry_eq]
  generalize (lg_sl ([.ref (ad 0), .int a1, .int 24]) ++ List.replicate (5 - (lg_sl ([.ref (ad 0), .int a1, .int 24])).length) Slot.unset).toArray = ls at hl ⊢
  have hl : lv_has ls 5 [(0, .ref (ad 0)), (1, .int a1), (2, .int 24)] := hl
  generalize hloc : ([] : List Loc) = locs at hw ⊢
  have hinX12 : ∀ w ∈ u_ws RX12 TX12 42, w ∈ (wu yX12_numberHere cX12_numberHere 5 (some .boolean)) := fun _ h => List.mem_cons_of_mem _ (up_71 h)
  have J126 : ∀ (v126_3 : Int32) (v126_4 : Int32) (f126_0_1 : Int32) (f126_0_14 : Int32) (f126_0_16 : Int32) (H : Heap) (locs : List Loc) (ls : Array Slot) (w1 : va_W), 1 ≤ a1.toInt → a1.toInt ≤ 24 → 0 ≤ v126_3.toInt → v126_3.toInt ≤ 399 → 1 ≤ v126_4.toInt → v126_4.toInt ≤ 24 → 1 ≤ f126_0_1.toInt → f126_0_1.toInt ≤ 400 → 0 ≤ f126_0_14.toInt → f126_0_14.toInt ≤ 400 → 1 ≤ f126_0_16.toInt → f126_0_16.toInt ≤ 24 → Wd dC dI A s.heap H locs w1 → TW ksM ad cy B qr 12 w1 → FE ksM [(12, 14, 14), (12, 15, 15), (12, 16, 16)] w0 w1 → gi w1 0 1 = f126_0_1 → gi w1 0 14 = f126_0_14 → gi w1 0 16 = f126_0_16 → TT (fun n => m_X12_numberHere n 0 a1.toInt 24 (sI w0)) (fun n => b_X12_numberHere_126 (j_X12_numberHere 0 n) n 0 (sI w1)) → lv_has ls 5 [(0, .ref (ad 0)), (1, .int a1), (2, .int 24), (3, .int v126_3), (4, .int v126_4)] → W p l e ({ frames := 2, cells := 0, slots := 0, locals := 37 }) s m (List.toArray [.ref (ad 0), .int a1, .int 24]) below meth c H locs 0 0 (MQ below (va_Qi (Pz_X12_numberHere_3 ad cy B qr s1 a1 w0) (fun u : va_W => wpost dC dI cy A u) A) (List.toArray [.ref (ad 0), .int a1, .int 24]) s 0 0 A) (F0 m 126 ls []) := by
    intro v126_3 v126_4 f126_0_1 f126_0_14 f126_0_16 H locs ls w1 r2 t3 r4 t5 r6 t7 r8 t9 r11 t12 r14 t15 hw hT hF c10 c13 c16 hM hl
    refine lv_iconst (v := 1) hx hb dX12_numberHere_126 (by decide) ?_
    refine lv_goto (tgt := 131) hx hb dX12_numberHere_127 (by decide) ?_
    exact tk_zret hC hr rfl hlocks hK ⟨hT, hF, hM.ret (by decide), (Or.inr (Or.inr ⟨rfl, ⟨f126_0_1, c10, (show 1 ≤ f126_0_1.toInt from r8), (show f126_0_1.toInt ≤ 400 from t9)⟩, ⟨f126_0_16, c16, (show 1 ≤ f126_0_16.toInt from r14), (show f126_0_16.toInt ≤ 24 from t15)⟩⟩))⟩ hw dX12_numberHere_131
  have J117 : ∀ (v117_3 : Int32) (v117_4 : Int32) (f117_0_1 : Int32) (f117_0_14 : Int32) (f117_0_16 : Int32) (H : Heap) (locs : List Loc) (ls : Array Slot) (w17 : va_W), 1 ≤ a1.toInt → a1.toInt ≤ 24 → 0 ≤ v117_3.toInt → v117_3.toInt ≤ 399 → 1 ≤ f117_0_1.toInt → f117_0_1.toInt ≤ 400 → 0 ≤ f117_0_14.toInt → f117_0_14.toInt ≤ 400 → Wd dC dI A s.heap H locs w17 → TW ksM ad cy B qr 12 w17 → FE ksM [(12, 14, 14), (12, 15, 15), (12, 16, 16)] w0 w17 → gi w17 0 1 = f117_0_1 → gi w17 0 14 = f117_0_14 → gi w17 0 16 = f117_0_16 → TT (fun n => m_X12_numberHere n 0 a1.toInt 24 (sI w0)) (fun n => b_X12_numberHere_117 (j_X12_numberHere 0 n) n 0 (v117_3.toInt) (sI w17)) → lv_has ls 5 [(0, .ref (ad 0)), (1, .int a1), (2, .int 24), (3, .int v117_3), (4, .int v117_4)] → W p l e ({ frames := 2, cells := 0, slots := 0, locals := 37 }) s m (List.toArray [.ref (ad 0), .int a1, .int 24]) below meth c H locs 0 0 (MQ below (va_Qi (Pz_X12_numberHere_3 ad cy B qr s1 a1 w0) (fun u : va_W => wpost dC dI cy A u) A) (List.toArray [.ref (ad 0), .int a1, .int 24]) s 0 0 A) (F0 m 117 ls []) := by
    intro v117_3 v117_4 f117_0_1 f117_0_14 f117_0_16 H locs ls w17 r18 t19 r20 t21 r22 t23 r25 t26 hw hT hF c24 c27 c28 hM hl
    refine lv_aload_n hx hb dX12_numberHere_117 rfl (lv_at hl 0 rfl) ?_
    refine lv_iconst (v := 1) hx hb dX12_numberHere_118 (by decide) ?_
    refine lv_iload_n hx hb dX12_numberHere_119 rfl (lv_at hl 3 rfl) ?_
    refine tk_Vi hC hK hw hT hA hE hSR kM_at0 (by decide) rfl (kz_X12_fails_1 l adK adV dC dI cy ad B (by omega) (by omega) qr s1   1 (by decide) (by decide) v117_3 (show 0 ≤ v117_3.toInt from r20) (show v117_3.toInt ≤ 400 from Int.le_trans t21 (by decide)) w17 H.size hT ) (cwV 2 hC.2.2.2.2 uV_RX12_115 rfl rfl rfl (by decide +kernel) ⟨Nat.le_of_ble_eq_true rfl, Nat.le_of_ble_eq_true rfl⟩) rfl hl.1 rfl (Nat.le_of_ble_eq_true rfl) dX12_numberHere_120 (fun r29 w31 H locs hp30 hw => ?_)
    obtain ⟨hT, k32, hv36, hg35⟩ := hp30
    try simp only [show (1 : Int32).toInt = 1 by decide] at hv36
    have hF := hF.tr k32 (by decide)
    have c37 := k32.gi kM_at0 (by decide) c24
    have c38 := k32.gi kM_at0 (by decide) c27
    have c39 := k32.gi kM_at0 (by decide) c28
    obtain ⟨rfl, ⟨x33, c34, rx33, tx33⟩⟩ := hg35
    replace hM := hM.call (r' := 0) hv36 (by decide)
    refine lv_if_eq (tgt := 130) hx hb dX12_numberHere_123 (by decide) (fun _ => ?_) (fun c => absurd (by decide) c)
    replace hM := hM.pos (by decide)
    refine lv_iconst (v := 0) hx hb dX12_numberHere_130 (by decide) ?_
    exact tk_zret hC hr rfl hlocks hK ⟨hT, hF, hM.ret (by decide), (Or.inl ⟨rfl, ⟨f117_0_1, c37, (show 1 ≤ f117_0_1.toInt from r22), (show f117_0_1.toInt ≤ 400 from t23)⟩, ⟨x33, c34, (show 1 ≤ x33.toInt by omega), (show x33.toInt ≤ 3205 by omega)⟩⟩)⟩ hw dX12_numberHere_131
  have L34 : ∀ (n34 : Nat) (v34_3 : Int32) (v34_4 : Int32) (f34_0_1 : Int32) (f34_0_14 : Int32) (H : Heap) (locs : List Loc) (ls : Array Slot) (w40 : va_W), 1 ≤ a1.toInt → a1.toInt ≤ 24 → 0 ≤ v34_3.toInt → v34_3.toInt ≤ 399 → 1 ≤ f34_0_1.toInt → f34_0_1.toInt ≤ 400 → 0 ≤ f34_0_14.toInt → f34_0_14.toInt ≤ 400 → (400 - f34_0_14.toInt).toNat < n34 → Wd dC dI A s.heap H locs w40 → TW ksM ad cy B qr 12 w40 → FE ksM [(12, 14, 14), (12, 15, 15), (12, 16, 16)] w0 w40 → gi w40 0 1 = f34_0_1 → gi w40 0 14 = f34_0_14 → TT (fun n => m_X12_numberHere n 0 a1.toInt 24 (sI w0)) (fun n => j_X12_numberHere 0 n 34 [a1.toInt, (24 : Int), v34_3.toInt, v34_4.toInt] (sI w40)) → lv_has ls 5 [(0, .ref (ad 0)), (1, .int a1), (2, .int 24), (3, .int v34_3), (4, .int v34_4)] → W p l e ({ frames := 2, cells := 0, slots := 0, locals := 37 }) s m (List.toArray [.ref (ad 0), .int a1, .int 24]) below meth c H locs 0 0 (MQ below (va_Qi (Pz_X12_numberHere_3 ad cy B qr s1 a1 w0) (fun u : va_W => wpost dC dI cy A u) A) (List.toArray [.ref (ad 0), .int a1, .int 24]) s 0 0 A) (F0 m 34 ls []) := by
    intro n34
    induction n34 with
    | zero => intro v34_3 v34_4 f34_0_1 f34_0_14 H locs ls w40 r41 t42 r43 t44 r45 t46 r48 t49 hm34 hw hT hF c47 c50 hM hl; omega
    | succ n34 ih34 =>
      intro v34_3 v34_4 f34_0_1 f34_0_14 H locs ls w40 r41 t42 r43 t44 r45 t46 r48 t49 hm34 hw hT hF c47 c50 hM hl
      have J75 : ∀ (v75_4 : Int32) (H : Heap) (locs : List Loc) (ls : Array Slot) (w51 : va_W), 1 ≤ a1.toInt → a1.toInt ≤ 24 → 0 ≤ v34_3.toInt → v34_3.toInt ≤ 399 → 1 ≤ f34_0_1.toInt → f34_0_1.toInt ≤ 400 → 0 ≤ f34_0_14.toInt → f34_0_14.toInt ≤ 399 → Wd dC dI A s.heap H locs w51 → TW ksM ad cy B qr 12 w51 → FE ksM [(12, 14, 14), (12, 15, 15), (12, 16, 16)] w0 w51 → gi w51 0 1 = f34_0_1 → gi w51 0 14 = f34_0_14 → TT (fun n => m_X12_numberHere n 0 a1.toInt 24 (sI w0)) (fun n => b_X12_numberHere_75 (j_X12_numberHere 0 n) n 0 (a1.toInt) (24 : Int) (v34_3.toInt) (v75_4.toInt) (sI w51)) → lv_has ls 5 [(0, .ref (ad 0)), (1, .int a1), (2, .int 24), (3, .int v34_3), (4, .int v75_4)] → W p l e ({ frames := 2, cells := 0, slots := 0, locals := 37 }) s m (List.toArray [.ref (ad 0), .int a1, .int 24]) below meth c H locs 0 0 (MQ below (va_Qi (Pz_X12_numberHere_3 ad cy B qr s1 a1 w0) (fun u : va_W => wpost dC dI cy A u) A) (List.toArray [.ref (ad 0), .int a1, .int 24]) s 0 0 A) (F0 m 75 ls []) := by
        intro v75_4 H locs ls w51 r52 t53 r54 t55 r56 t57 r59 t60 hw hT hF c58 c61 hM hl
        refine lv_aload_n hx hb dX12_numberHere_75 rfl (lv_at hl 0 rfl) ?_
        refine lv_dup hx hb dX12_numberHere_76 rfl ?_
        refine tk_geti hC hK hw hT hinX12 kM_at0 (by decide) rfl 14 (by decide) (List.mem_cons_of_mem _ uw_19_18) rfl rfl dX12_numberHere_77 (fun x62 c63 rx62 tx62 => ?_)
        refine wk_top f34_0_14 (c63.symm.trans c61) ?_
        replace hM := hM.rd (sI_at c61)
        refine lv_iconst (v := 1) hx hb dX12_numberHere_80 (by decide) ?_
        refine lv_iadd hx hb dX12_numberHere_81 ?_
        refine lv_topi (fun x64 ex64 => ?_)
        have ezx64 := ex64
        have ex64 : x64.toInt = f34_0_14.toInt + (1 : Int) := by rw [ex64]; exact wk_add (show (-2147483648) ≤ f34_0_14.toInt + (1 : Int) by omega) (show f34_0_14.toInt + (1 : Int) ≤ 2147483647 by omega)
        replace hM := hM.lt ex64.symm
        refine tk_puti hC hK hw hT hinX12 tyX12_ok nmX12 kM_at0 (by decide) rfl rfl 14 (by decide) (List.mem_cons_of_mem _ uw_19_18) rfl rfl rfl rfl (show 0 ≤ x64.toInt by omega) (show x64.toInt ≤ 400 by omega) dX12_numberHere_82 (fun H locs w65 hw hT k67 c66 => ?_)
        replace hM := hM.wr (sI_up k67 c66)
        have hF := hF.put kM_at0 (k := 14) (by decide) k67
        have c68 := k67.gi (Or.inr (by decide)) c58
        refine lv_goto (tgt := 34) hx hb dX12_numberHere_85 (by decide) ?_
        exact ih34 v34_3 v75_4 f34_0_1 x64 H locs ls w65 (show 1 ≤ a1.toInt from r52) (show a1.toInt ≤ 24 from t53) (show 0 ≤ v34_3.toInt from r54) (show v34_3.toInt ≤ 399 from t55) (show 1 ≤ f34_0_1.toInt from r56) (show f34_0_1.toInt ≤ 400 from t57) (show 0 ≤ x64.toInt by omega) (show x64.toInt ≤ 400 by omega) (show (400 - x64.toInt).toNat < n34 by omega) hw hT hF c68 c66 hM (lv_sub hl [0, 1, 2, 3, 4] rfl)
      replace hM := hM.suc (fun _ => e_X12_numberHere_34)
      refine lv_aload_n hx hb dX12_numberHere_34 rfl (lv_at hl 0 rfl) ?_
      refine lv_aload_n hx hb dX12_numberHere_35 rfl (lv_at hl 0 rfl) ?_
      refine tk_geti hC hK hw hT hinX12 kM_at0 (by decide) rfl 14 (by decide) (List.mem_cons_of_mem _ uw_19_18) rfl rfl dX12_numberHere_36 (fun x69 c70 rx69 tx69 => ?_)
      refine wk_top f34_0_14 (c70.symm.trans c50) ?_
      replace hM := hM.rd (sI_at c50)
      refine tk_Vi hC hK hw hT hA hE hSR kM_at0 (by decide) rfl (kz_X12_isDigit_1 l adK adV dC dI cy ad B (by omega) (by omega) qr s1   f34_0_14 (show 0 ≤ f34_0_14.toInt from r48) (show f34_0_14.toInt ≤ 400 from t49) w40 H.size hT ) (cwV 1 hC.2.2.2.2 uV_RX12_112 rfl rfl rfl (by decide +kernel) ⟨Nat.le_of_ble_eq_true rfl, Nat.le_of_ble_eq_true rfl⟩) rfl hl.1 rfl (Nat.le_of_ble_eq_true rfl) dX12_numberHere_39 (fun r71 w73 H locs hp72 hw => ?_)
      obtain ⟨rfl, hv81, hg80⟩ := hp72
      rcases hg80 with ⟨rfl, ⟨x75, c76, rx75, tx75⟩⟩ | ⟨rfl, g77, ⟨x78, c79, rx78, tx78⟩⟩
      · replace hM := hM.call (r' := 0) hv81 (by decide)
        have ex75 : x75.toInt = f34_0_1.toInt := by rw [← c47.symm.trans c76]
        refine lv_if_eq (tgt := 88) hx hb dX12_numberHere_42 (by decide) (fun _ => ?_) (fun c => absurd (by decide) c)
        replace hM := hM.pos (by decide)
        refine lv_aload_n hx hb dX12_numberHere_88 rfl (lv_at hl 0 rfl) ?_
        refine lv_iload hx hb dX12_numberHere_89 (lv_at hl 4 rfl) ?_
        refine tk_puti hC hK hw hT hinX12 tyX12_ok nmX12 kM_at0 (by decide) rfl rfl 16 (by decide) (List.mem_cons_of_mem _ uw_21_12) rfl rfl rfl rfl (wk_i32 v34_4).1 (wk_i32 v34_4).2 dX12_numberHere_91 (fun H locs w82 hw hT k84 c83 => ?_)
        replace hM := hM.wr (sI_up k84 c83)
        have hF := hF.put kM_at0 (k := 16) (by decide) k84
        have c85 := k84.gi (Or.inr (by decide)) c47
        have c86 := k84.gi (Or.inr (by decide)) c50
        refine lv_aload_n hx hb dX12_numberHere_94 rfl (lv_at hl 0 rfl) ?_
        refine tk_geti hC hK hw hT hinX12 kM_at0 (by decide) rfl 14 (by decide) (List.mem_cons_of_mem _ uw_19_18) rfl rfl dX12_numberHere_95 (fun x87 c88 rx87 tx87 => ?_)
        refine wk_top f34_0_14 (c88.symm.trans c86) ?_
        replace hM := hM.rd (sI_at c86)
        refine lv_iload_n hx hb dX12_numberHere_98 rfl (lv_at hl 3 rfl) ?_
        refine lv_isub hx hb dX12_numberHere_99 ?_
        refine lv_topi (fun x89 ex89 => ?_)
        have ezx89 := ex89
        have ex89 : x89.toInt = f34_0_14.toInt - v34_3.toInt := by rw [ex89]; exact wk_sub (show (-2147483648) ≤ f34_0_14.toInt - v34_3.toInt by omega) (show f34_0_14.toInt - v34_3.toInt ≤ 2147483647 by omega)
        replace hM := hM.lt ex89.symm
        refine lv_iconst (v := 5) hx hb dX12_numberHere_100 (by decide) ?_
        refine lv_icmp_gt (tgt := 117) hx hb dX12_numberHere_101 (by decide) (fun c90 => ?_) (fun c90 => ?_)
        · have c90 : (5 : Int) < x89.toInt := wk_lt.mp c90
          replace hM := hM.pos c90
          exact J117 v34_3 v34_4 f34_0_1 f34_0_14 v34_4 H locs ls w82 (show 1 ≤ a1.toInt from r41) (show a1.toInt ≤ 24 from t42) (show 0 ≤ v34_3.toInt from r43) (show v34_3.toInt ≤ 399 from t44) (show 1 ≤ f34_0_1.toInt from r45) (show f34_0_1.toInt ≤ 400 from t46) (show 0 ≤ f34_0_14.toInt from r48) (show f34_0_14.toInt ≤ 400 from t49)  hw hT hF c85 c86 c83 hM (lv_sub hl [0, 1, 2, 3, 4] rfl)
        · have c90 : x89.toInt ≤ (5 : Int) := wk_ltF c90
          replace hM := hM.neg (Int.not_lt.mpr c90)
          refine lv_iload hx hb dX12_numberHere_104 (lv_at hl 4 rfl) ?_
          refine lv_i2l hx hb dX12_numberHere_106 rfl ?_
          refine lv_topl (fun x91 ex91 => ?_)
          have ex91 : x91.toInt = v34_4.toInt := by rw [ex91]; exact wk_i2l _
          have bx91 := wk_i32 v34_4
          replace hM := hM.lt ex91.symm
          refine lv_iload_n hx hb dX12_numberHere_107 rfl (lv_at hl 1 rfl) ?_
          refine lv_i2l hx hb dX12_numberHere_108 rfl ?_
          refine lv_topl (fun x92 ex92 => ?_)
          have ex92 : x92.toInt = a1.toInt := by rw [ex92]; exact wk_i2l _
          have bx92 := wk_i32 a1
          replace hM := hM.lt ex92.symm
          refine lv_iload_n hx hb dX12_numberHere_109 rfl (lv_at hl 2 rfl) ?_
          refine lv_i2l hx hb dX12_numberHere_110 rfl ?_
          refine wk_topl 24 (by decide) ?_
          replace hM := hM.lt rfl
          refine tk_Si hC hK hw hT hA hE hSR (kz_X12_in_3 l adK adV dC dI cy ad B (by omega) (by omega) qr s1   x91 (show (-2147483648) ≤ x91.toInt by omega) (show x91.toInt ≤ 2147483647 by omega) x92 (show 1 ≤ x92.toInt by omega) (show x92.toInt ≤ 24 by omega) w82 H.size hT ) (va_cwS 3 hC.2.2.2.2 uS_RX12_122 rfl rfl rfl (by decide +kernel) ⟨Nat.le_of_ble_eq_true rfl, Nat.le_of_ble_eq_true rfl⟩) rfl hl.1 rfl (Nat.le_of_ble_eq_true rfl) dX12_numberHere_111 (fun r93 w95 H locs hp94 hw => ?_)
          obtain ⟨rfl, hv100, hg99⟩ := hp94
          rcases hg99 with rfl | ⟨rfl, g97, g98⟩
          · replace hM := hM.call (r' := 0) hv100 (by decide)
            refine lv_if_ne (tgt := 126) hx hb dX12_numberHere_114 (by decide) (fun c => absurd (by decide) c) (fun _ => ?_)
            replace hM := hM.neg (by decide)
            exact J117 v34_3 v34_4 f34_0_1 f34_0_14 v34_4 H locs ls w82 (show 1 ≤ a1.toInt from r41) (show a1.toInt ≤ 24 from t42) (show 0 ≤ v34_3.toInt from r43) (show v34_3.toInt ≤ 399 from t44) (show 1 ≤ f34_0_1.toInt from r45) (show f34_0_1.toInt ≤ 400 from t46) (show 0 ≤ f34_0_14.toInt from r48) (show f34_0_14.toInt ≤ 400 from t49)  hw hT hF c85 c86 c83 hM (lv_sub hl [0, 1, 2, 3, 4] rfl)
          · replace hM := hM.call (r' := 1) hv100 (by decide)
            refine lv_if_ne (tgt := 126) hx hb dX12_numberHere_114 (by decide) (fun _ => ?_) (fun c => absurd c (by decide))
            replace hM := hM.pos (by decide)
            exact J126 v34_3 v34_4 f34_0_1 f34_0_14 v34_4 H locs ls w82 (show 1 ≤ a1.toInt from r41) (show a1.toInt ≤ 24 from t42) (show 0 ≤ v34_3.toInt from r43) (show v34_3.toInt ≤ 399 from t44) (show 1 ≤ v34_4.toInt by omega) (show v34_4.toInt ≤ 24 by omega) (show 1 ≤ f34_0_1.toInt from r45) (show f34_0_1.toInt ≤ 400 from t46) (show 0 ≤ f34_0_14.toInt from r48) (show f34_0_14.toInt ≤ 400 from t49) (show 1 ≤ v34_4.toInt by omega) (show v34_4.toInt ≤ 24 by omega)  hw hT hF c85 c86 c83 hM (lv_sub hl [0, 1, 2, 3, 4] rfl)
      · replace hM := hM.call (r' := 1) hv81 (by decide)
        have ex78 : x78.toInt = f34_0_1.toInt := by rw [← c47.symm.trans c79]
        refine lv_if_eq (tgt := 88) hx hb dX12_numberHere_42 (by decide) (fun c => absurd c (by decide)) (fun _ => ?_)
        replace hM := hM.neg (by decide)
        refine lv_aload_n hx hb dX12_numberHere_45 rfl (lv_at hl 0 rfl) ?_
        refine tk_geti hC hK hw hT hinX12 kM_at0 (by decide) rfl 14 (by decide) (List.mem_cons_of_mem _ uw_19_18) rfl rfl dX12_numberHere_46 (fun x101 c102 rx101 tx101 => ?_)
        refine wk_top f34_0_14 (c102.symm.trans c50) ?_
        replace hM := hM.rd (sI_at c50)
        refine lv_iload_n hx hb dX12_numberHere_49 rfl (lv_at hl 3 rfl) ?_
        refine lv_isub hx hb dX12_numberHere_50 ?_
        refine lv_topi (fun x103 ex103 => ?_)
        have ezx103 := ex103
        have ex103 : x103.toInt = f34_0_14.toInt - v34_3.toInt := by rw [ex103]; exact wk_sub (show (-2147483648) ≤ f34_0_14.toInt - v34_3.toInt by omega) (show f34_0_14.toInt - v34_3.toInt ≤ 2147483647 by omega)
        replace hM := hM.lt ex103.symm
        refine lv_iconst (v := 5) hx hb dX12_numberHere_51 (by decide) ?_
        refine lv_icmp_ge (tgt := 75) hx hb dX12_numberHere_52 (by decide) (fun c104 => ?_) (fun c104 => ?_)
        · have c104 : (5 : Int) ≤ x103.toInt := wk_le.mp c104
          replace hM := hM.pos c104
          exact J75 v34_4 H locs ls w40 (show 1 ≤ a1.toInt from r41) (show a1.toInt ≤ 24 from t42) (show 0 ≤ v34_3.toInt from r43) (show v34_3.toInt ≤ 399 from t44) (show 1 ≤ f34_0_1.toInt from r45) (show f34_0_1.toInt ≤ 400 from t46) (show 0 ≤ f34_0_14.toInt from r48) (show f34_0_14.toInt ≤ 399 by omega)  hw hT hF c47 c50 hM (lv_sub hl [0, 1, 2, 3, 4] rfl)
        · have c104 : x103.toInt < (5 : Int) := wk_leF c104
          replace hM := hM.neg (Int.not_le.mpr c104)
          refine lv_bipush (v := 10) hx hb dX12_numberHere_55 (by decide) ?_
          refine lv_iload hx hb dX12_numberHere_57 (lv_at hl 4 rfl) ?_
          refine lv_imul hx hb dX12_numberHere_59 ?_
          have nx105 := wk_i32 v34_4
          refine lv_topi (fun x106 ex106 => ?_)
          have ezx106 := ex106
          replace hM := hM.lt (o32_e (f := fun x y => x * y) ezx106 (by decide) rfl)
          refine lv_aload_n hx hb dX12_numberHere_60 rfl (lv_at hl 0 rfl) ?_
          refine tk_getA hC hK hw hT hinX12 kM_at0 (by decide) rfl 0 (by decide) (List.mem_cons_of_mem _ uw_6_14) rfl rfl dX12_numberHere_61 ?_
          refine lv_aload_n hx hb dX12_numberHere_64 rfl (lv_at hl 0 rfl) ?_
          refine tk_geti hC hK hw hT hinX12 kM_at0 (by decide) rfl 14 (by decide) (List.mem_cons_of_mem _ uw_19_18) rfl rfl dX12_numberHere_65 (fun x107 c108 rx107 tx107 => ?_)
          refine wk_top f34_0_14 (c108.symm.trans c50) ?_
          replace hM := hM.rd (sI_at c50)
          refine tk_bald hC hK hw hT kM_at1 rfl rfl (show 0 ≤ f34_0_14.toInt from r48) (show f34_0_14.toInt < 400 by omega) dX12_numberHere_68 (fun x109 c110 rx109 tx109 => ?_)
          have hox109 := c110
          replace hM := hM.rd (sI_at hox109)
          have c110 : gi w40 1 (f34_0_14.toInt).toNat = x109 := (congrArg (gi w40 1) (congrArg Int.toNat (show f34_0_14.toInt = f34_0_14.toInt by omega))).trans c110
          refine lv_iadd hx hb dX12_numberHere_69 ?_
          have nx111 := wk_i32 x106
          refine lv_topi (fun x112 ex112 => ?_)
          have ezx112 := ex112
          replace hM := hM.lt (o32_e (f := fun x y => x + y) ezx112 rfl rfl)
          refine lv_bipush (v := 48) hx hb dX12_numberHere_70 (by decide) ?_
          refine lv_isub hx hb dX12_numberHere_72 ?_
          have nx113 := wk_i32 x112
          refine lv_topi (fun x114 ex114 => ?_)
          have ezx114 := ex114
          replace hM := hM.lt (o32_e (f := fun x y => x - y) ezx114 rfl (by decide))
          refine lv_istore (lv' := [(4, .int x114), (0, .ref (ad 0)), (1, .int a1), (2, .int 24), (3, .int v34_3)]) hx hb dX12_numberHere_73 hl (by decide) rfl (fun ls hl => ?_)
          exact J75 x114 H locs ls w40 (show 1 ≤ a1.toInt from r41) (show a1.toInt ≤ 24 from t42) (show 0 ≤ v34_3.toInt from r43) (show v34_3.toInt ≤ 399 from t44) (show 1 ≤ f34_0_1.toInt from r45) (show f34_0_1.toInt ≤ 400 from t46) (show 0 ≤ f34_0_14.toInt from r48) (show f34_0_14.toInt ≤ 399 by omega)  hw hT hF c47 c50 hM (lv_sub hl [1, 2, 3, 4, 0] rfl)
  have hM : TT (fun n => m_X12_numberHere n 0 a1.toInt 24 (sI w0)) (fun n => m_X12_numberHere n 0 a1.toInt 24 (sI w0)) := TT.rf
  refine lv_aload_n hx hb dX12_numberHere_0 rfl (lv_at hl 0 rfl) ?_
  obtain ⟨x115, c116, rx115, tx115⟩ := hT.rdi (lo := 0) (hi := 400) (k := 14) kM_at0 (by decide) rfl
  refine tk_Vi hC hK hw hT hA hE hSR kM_at0 (by decide) rfl (kz_X12_see_1 l adK adV dC dI cy ad B (by omega) (by omega) qr s1    w0 s.heap.size hT x115 c116 (show 0 ≤ x115.toInt by omega) (show x115.toInt ≤ 400 by omega)) (cwV 0 hC.2.2.2.2 uV_RX12_97 rfl rfl rfl (by decide +kernel) ⟨Nat.le_of_ble_eq_true rfl, Nat.le_of_ble_eq_true rfl⟩) rfl hl.1 rfl (Nat.le_of_ble_eq_true rfl) dX12_numberHere_1 (fun r117 w119 H locs hp118 hw => ?_)
  obtain ⟨hT, k120, hv138, hg137⟩ := hp118
  have hF := hF.tr k120 (by decide)
  rcases hg137 with ⟨g121, g122, ⟨x123, c124, rx123, tx123⟩, ⟨x125, c126, rx125, tx125⟩, g127, g128⟩ | ⟨rfl, ⟨x129, c130, rx129, tx129⟩, ⟨x131, c132, rx131, tx131⟩, g133⟩ | ⟨rfl, ⟨x134, c135, rx134, tx134⟩, g136⟩
  · replace hM := hM.call hv138 rfl
    have g127 : (gi w119 1 (x125.toInt).toNat).toInt ≠ 32 := by have q := g127; simp only [c126] at q; omega
    have g128 : (x125.toInt = x115.toInt ∨ (gi w0 1 (x115.toInt).toNat).toInt = 32) := by have q := g128; simp only [c116, c126] at q; omega
    refine lv_pop hx hb dX12_numberHere_4 rfl ?_
    refine lv_aload_n hx hb dX12_numberHere_5 rfl (lv_at hl 0 rfl) ?_
    refine lv_aload_n hx hb dX12_numberHere_6 rfl (lv_at hl 0 rfl) ?_
    refine tk_geti hC hK hw hT hinX12 kM_at0 (by decide) rfl 14 (by decide) (List.mem_cons_of_mem _ uw_19_18) rfl rfl dX12_numberHere_7 (fun x141 c142 rx141 tx141 => ?_)
    refine wk_top x125 (c142.symm.trans c126) ?_
    replace hM := hM.rd (sI_at c126)
    refine tk_Vi hC hK hw hT hA hE hSR kM_at0 (by decide) rfl (kz_X12_isDigit_2 l adK adV dC dI cy ad B (by omega) (by omega) qr s1   x125 (show 0 ≤ x125.toInt by omega) (show x125.toInt ≤ 399 by omega) w119 H.size hT ) (cwV 1 hC.2.2.2.2 uV_RX12_112 rfl rfl rfl (by decide +kernel) ⟨Nat.le_of_ble_eq_true rfl, Nat.le_of_ble_eq_true rfl⟩) rfl hl.1 rfl (Nat.le_of_ble_eq_true rfl) dX12_numberHere_10 (fun r143 w145 H locs hp144 hw => ?_)
    obtain ⟨rfl, hv152, hg151⟩ := hp144
    rcases hg151 with ⟨rfl, ⟨x147, c148, rx147, tx147⟩⟩ | ⟨rfl, ⟨x149, c150, rx149, tx149⟩⟩
    · replace hM := hM.call (r' := 0) hv152 (by decide)
      have ex147 : x147.toInt = x123.toInt := by rw [← c124.symm.trans c148]
      refine lv_if_ne (tgt := 26) hx hb dX12_numberHere_13 (by decide) (fun c => absurd (by decide) c) (fun _ => ?_)
      replace hM := hM.neg (by decide)
      refine lv_aload_n hx hb dX12_numberHere_16 rfl (lv_at hl 0 rfl) ?_
      refine lv_iconst (v := 0) hx hb dX12_numberHere_17 (by decide) ?_
      refine lv_aload_n hx hb dX12_numberHere_18 rfl (lv_at hl 0 rfl) ?_
      refine tk_geti hC hK hw hT hinX12 kM_at0 (by decide) rfl 14 (by decide) (List.mem_cons_of_mem _ uw_19_18) rfl rfl dX12_numberHere_19 (fun x153 c154 rx153 tx153 => ?_)
      refine wk_top x125 (c154.symm.trans c126) ?_
      replace hM := hM.rd (sI_at c126)
      refine tk_Vi hC hK hw hT hA hE hSR kM_at0 (by decide) rfl (kz_X12_fails_1 l adK adV dC dI cy ad B (by omega) (by omega) qr s1   0 (by decide) (by decide) x125 (show 0 ≤ x125.toInt by omega) (show x125.toInt ≤ 400 by omega) w119 H.size hT ) (cwV 2 hC.2.2.2.2 uV_RX12_115 rfl rfl rfl (by decide +kernel) ⟨Nat.le_of_ble_eq_true rfl, Nat.le_of_ble_eq_true rfl⟩) rfl hl.1 rfl (Nat.le_of_ble_eq_true rfl) dX12_numberHere_22 (fun r155 w157 H locs hp156 hw => ?_)
      obtain ⟨hT, k158, hv162, hg161⟩ := hp156
      try simp only [show (0 : Int32).toInt = 0 by decide] at hv162
      have hF := hF.tr k158 (by decide)
      have c163 := k158.gi kM_at0 (by decide) c124
      have c164 := k158.gi kM_at0 (by decide) c126
      obtain ⟨rfl, ⟨x159, c160, rx159, tx159⟩⟩ := hg161
      replace hM := hM.call (r' := 0) hv162 (by decide)
      exact tk_zret hC hr rfl hlocks hK ⟨hT, hF, hM.ret (by decide), (Or.inl ⟨rfl, ⟨x123, c163, (show 1 ≤ x123.toInt by omega), (show x123.toInt ≤ 400 by omega)⟩, ⟨x159, c160, (show 1 ≤ x159.toInt by omega), (show x159.toInt ≤ 3205 by omega)⟩⟩)⟩ hw dX12_numberHere_25
    · replace hM := hM.call (r' := 1) hv152 (by decide)
      have ex149 : x149.toInt = x123.toInt := by rw [← c124.symm.trans c150]
      refine lv_if_ne (tgt := 26) hx hb dX12_numberHere_13 (by decide) (fun _ => ?_) (fun c => absurd c (by decide))
      replace hM := hM.pos (by decide)
      refine lv_aload_n hx hb dX12_numberHere_26 rfl (lv_at hl 0 rfl) ?_
      refine tk_geti hC hK hw hT hinX12 kM_at0 (by decide) rfl 14 (by decide) (List.mem_cons_of_mem _ uw_19_18) rfl rfl dX12_numberHere_27 (fun x165 c166 rx165 tx165 => ?_)
      refine wk_top x125 (c166.symm.trans c126) ?_
      replace hM := hM.rd (sI_at c126)
      refine lv_istore_n (lv' := [(3, .int x125), (0, .ref (ad 0)), (1, .int a1), (2, .int 24)]) hx hb dX12_numberHere_30 rfl hl (by decide) rfl (fun ls hl => ?_)
      refine lv_iconst (v := 0) hx hb dX12_numberHere_31 (by decide) ?_
      refine lv_istore (lv' := [(4, .int 0), (3, .int x125), (0, .ref (ad 0)), (1, .int a1), (2, .int 24)]) hx hb dX12_numberHere_32 hl (by decide) rfl (fun ls hl => ?_)
      exact L34 ((400 - x125.toInt).toNat + 1) x125 0 x123 x125 H locs ls w119 (show 1 ≤ a1.toInt from ra1) (show a1.toInt ≤ 24 from ta1) (show 0 ≤ x125.toInt by omega) (show x125.toInt ≤ 399 by omega) (show 1 ≤ x123.toInt by omega) (show x123.toInt ≤ 400 by omega) (show 0 ≤ x125.toInt by omega) (show x125.toInt ≤ 400 by omega) (Nat.lt_succ_self _) hw hT hF c124 c126 hM (lv_sub hl [2, 3, 4, 1, 0] rfl)
  · replace hM := hM.call (r' := (-1)) hv138 (by decide)
    have g133 : (x131.toInt = x115.toInt ∨ (gi w0 1 (x115.toInt).toNat).toInt = 32) := by have q := g133; simp only [c116, c132] at q; omega
    refine lv_pop hx hb dX12_numberHere_4 rfl ?_
    refine lv_aload_n hx hb dX12_numberHere_5 rfl (lv_at hl 0 rfl) ?_
    refine lv_aload_n hx hb dX12_numberHere_6 rfl (lv_at hl 0 rfl) ?_
    refine tk_geti hC hK hw hT hinX12 kM_at0 (by decide) rfl 14 (by decide) (List.mem_cons_of_mem _ uw_19_18) rfl rfl dX12_numberHere_7 (fun x167 c168 rx167 tx167 => ?_)
    refine wk_top x131 (c168.symm.trans c132) ?_
    replace hM := hM.rd (sI_at c132)
    refine tk_Vi hC hK hw hT hA hE hSR kM_at0 (by decide) rfl (kz_X12_isDigit_3 l adK adV dC dI cy ad B (by omega) (by omega) qr s1   x131 (show 1 ≤ x131.toInt by omega) (show x131.toInt ≤ 399 by omega) w119 H.size hT ) (cwV 1 hC.2.2.2.2 uV_RX12_112 rfl rfl rfl (by decide +kernel) ⟨Nat.le_of_ble_eq_true rfl, Nat.le_of_ble_eq_true rfl⟩) rfl hl.1 rfl (Nat.le_of_ble_eq_true rfl) dX12_numberHere_10 (fun r169 w171 H locs hp170 hw => ?_)
    obtain ⟨rfl, hv178, hg177⟩ := hp170
    rcases hg177 with ⟨rfl, ⟨x173, c174, rx173, tx173⟩⟩ | ⟨rfl, ⟨x175, c176, rx175, tx175⟩⟩
    · replace hM := hM.call (r' := 0) hv178 (by decide)
      have ex173 : x173.toInt = x129.toInt := by rw [← c130.symm.trans c174]
      refine lv_if_ne (tgt := 26) hx hb dX12_numberHere_13 (by decide) (fun c => absurd (by decide) c) (fun _ => ?_)
      replace hM := hM.neg (by decide)
      refine lv_aload_n hx hb dX12_numberHere_16 rfl (lv_at hl 0 rfl) ?_
      refine lv_iconst (v := 0) hx hb dX12_numberHere_17 (by decide) ?_
      refine lv_aload_n hx hb dX12_numberHere_18 rfl (lv_at hl 0 rfl) ?_
      refine tk_geti hC hK hw hT hinX12 kM_at0 (by decide) rfl 14 (by decide) (List.mem_cons_of_mem _ uw_19_18) rfl rfl dX12_numberHere_19 (fun x179 c180 rx179 tx179 => ?_)
      refine wk_top x131 (c180.symm.trans c132) ?_
      replace hM := hM.rd (sI_at c132)
      refine tk_Vi hC hK hw hT hA hE hSR kM_at0 (by decide) rfl (kz_X12_fails_1 l adK adV dC dI cy ad B (by omega) (by omega) qr s1   0 (by decide) (by decide) x131 (show 0 ≤ x131.toInt by omega) (show x131.toInt ≤ 400 by omega) w119 H.size hT ) (cwV 2 hC.2.2.2.2 uV_RX12_115 rfl rfl rfl (by decide +kernel) ⟨Nat.le_of_ble_eq_true rfl, Nat.le_of_ble_eq_true rfl⟩) rfl hl.1 rfl (Nat.le_of_ble_eq_true rfl) dX12_numberHere_22 (fun r181 w183 H locs hp182 hw => ?_)
      obtain ⟨hT, k184, hv188, hg187⟩ := hp182
      try simp only [show (0 : Int32).toInt = 0 by decide] at hv188
      have hF := hF.tr k184 (by decide)
      have c189 := k184.gi kM_at0 (by decide) c130
      have c190 := k184.gi kM_at0 (by decide) c132
      obtain ⟨rfl, ⟨x185, c186, rx185, tx185⟩⟩ := hg187
      replace hM := hM.call (r' := 0) hv188 (by decide)
      exact tk_zret hC hr rfl hlocks hK ⟨hT, hF, hM.ret (by decide), (Or.inl ⟨rfl, ⟨x129, c189, (show 1 ≤ x129.toInt by omega), (show x129.toInt ≤ 400 by omega)⟩, ⟨x185, c186, (show 1 ≤ x185.toInt by omega), (show x185.toInt ≤ 3205 by omega)⟩⟩)⟩ hw dX12_numberHere_25
    · replace hM := hM.call (r' := 1) hv178 (by decide)
      have ex175 : x175.toInt = x129.toInt := by rw [← c130.symm.trans c176]
      refine lv_if_ne (tgt := 26) hx hb dX12_numberHere_13 (by decide) (fun _ => ?_) (fun c => absurd c (by decide))
      replace hM := hM.pos (by decide)
      refine lv_aload_n hx hb dX12_numberHere_26 rfl (lv_at hl 0 rfl) ?_
      refine tk_geti hC hK hw hT hinX12 kM_at0 (by decide) rfl 14 (by decide) (List.mem_cons_of_mem _ uw_19_18) rfl rfl dX12_numberHere_27 (fun x191 c192 rx191 tx191 => ?_)
      refine wk_top x131 (c192.symm.trans c132) ?_
      replace hM := hM.rd (sI_at c132)
      refine lv_istore_n (lv' := [(3, .int x131), (0, .ref (ad 0)), (1, .int a1), (2, .int 24)]) hx hb dX12_numberHere_30 rfl hl (by decide) rfl (fun ls hl => ?_)
      refine lv_iconst (v := 0) hx hb dX12_numberHere_31 (by decide) ?_
      refine lv_istore (lv' := [(4, .int 0), (3, .int x131), (0, .ref (ad 0)), (1, .int a1), (2, .int 24)]) hx hb dX12_numberHere_32 hl (by decide) rfl (fun ls hl => ?_)
      exact L34 ((400 - x131.toInt).toNat + 1) x131 0 x129 x131 H locs ls w119 (show 1 ≤ a1.toInt from ra1) (show a1.toInt ≤ 24 from ta1) (show 0 ≤ x131.toInt by omega) (show x131.toInt ≤ 399 by omega) (show 1 ≤ x129.toInt by omega) (show x129.toInt ≤ 400 by omega) (show 0 ≤ x131.toInt by omega) (show x131.toInt ≤ 400 by omega) (Nat.lt_succ_self _) hw hT hF c130 c132 hM (lv_sub hl [2, 3, 4, 1, 0] rfl)
  · replace hM := hM.call (r' := (-1)) hv138 (by decide)
    obtain ⟨x139, c140, rx139, tx139⟩ := hT.rdi (lo := 0) (hi := 400) (k := 14) kM_at0 (by decide) rfl
    have g136 : (x139.toInt = x115.toInt ∨ (gi w0 1 (x115.toInt).toNat).toInt = 32) := by have q := g136; simp only [c116, c140] at q; omega
    refine lv_pop hx hb dX12_numberHere_4 rfl ?_
    refine lv_aload_n hx hb dX12_numberHere_5 rfl (lv_at hl 0 rfl) ?_
    refine lv_aload_n hx hb dX12_numberHere_6 rfl (lv_at hl 0 rfl) ?_
    refine tk_geti hC hK hw hT hinX12 kM_at0 (by decide) rfl 14 (by decide) (List.mem_cons_of_mem _ uw_19_18) rfl rfl dX12_numberHere_7 (fun x193 c194 rx193 tx193 => ?_)
    refine wk_top x139 (c194.symm.trans c140) ?_
    replace hM := hM.rd (sI_at c140)
    refine tk_Vi hC hK hw hT hA hE hSR kM_at0 (by decide) rfl (kz_X12_isDigit_1 l adK adV dC dI cy ad B (by omega) (by omega) qr s1   x139 (show 0 ≤ x139.toInt by omega) (show x139.toInt ≤ 400 by omega) w119 H.size hT ) (cwV 1 hC.2.2.2.2 uV_RX12_112 rfl rfl rfl (by decide +kernel) ⟨Nat.le_of_ble_eq_true rfl, Nat.le_of_ble_eq_true rfl⟩) rfl hl.1 rfl (Nat.le_of_ble_eq_true rfl) dX12_numberHere_10 (fun r195 w197 H locs hp196 hw => ?_)
    obtain ⟨rfl, hv205, hg204⟩ := hp196
    rcases hg204 with ⟨rfl, ⟨x199, c200, rx199, tx199⟩⟩ | ⟨rfl, g201, ⟨x202, c203, rx202, tx202⟩⟩
    · replace hM := hM.call (r' := 0) hv205 (by decide)
      have ex199 : x199.toInt = x134.toInt := by rw [← c135.symm.trans c200]
      refine lv_if_ne (tgt := 26) hx hb dX12_numberHere_13 (by decide) (fun c => absurd (by decide) c) (fun _ => ?_)
      replace hM := hM.neg (by decide)
      refine lv_aload_n hx hb dX12_numberHere_16 rfl (lv_at hl 0 rfl) ?_
      refine lv_iconst (v := 0) hx hb dX12_numberHere_17 (by decide) ?_
      refine lv_aload_n hx hb dX12_numberHere_18 rfl (lv_at hl 0 rfl) ?_
      refine tk_geti hC hK hw hT hinX12 kM_at0 (by decide) rfl 14 (by decide) (List.mem_cons_of_mem _ uw_19_18) rfl rfl dX12_numberHere_19 (fun x206 c207 rx206 tx206 => ?_)
      refine wk_top x139 (c207.symm.trans c140) ?_
      replace hM := hM.rd (sI_at c140)
      refine tk_Vi hC hK hw hT hA hE hSR kM_at0 (by decide) rfl (kz_X12_fails_1 l adK adV dC dI cy ad B (by omega) (by omega) qr s1   0 (by decide) (by decide) x139 (show 0 ≤ x139.toInt by omega) (show x139.toInt ≤ 400 by omega) w119 H.size hT ) (cwV 2 hC.2.2.2.2 uV_RX12_115 rfl rfl rfl (by decide +kernel) ⟨Nat.le_of_ble_eq_true rfl, Nat.le_of_ble_eq_true rfl⟩) rfl hl.1 rfl (Nat.le_of_ble_eq_true rfl) dX12_numberHere_22 (fun r208 w210 H locs hp209 hw => ?_)
      obtain ⟨hT, k211, hv215, hg214⟩ := hp209
      try simp only [show (0 : Int32).toInt = 0 by decide] at hv215
      have hF := hF.tr k211 (by decide)
      have c216 := k211.gi kM_at0 (by decide) c135
      have c217 := k211.gi kM_at0 (by decide) c140
      obtain ⟨rfl, ⟨x212, c213, rx212, tx212⟩⟩ := hg214
      replace hM := hM.call (r' := 0) hv215 (by decide)
      exact tk_zret hC hr rfl hlocks hK ⟨hT, hF, hM.ret (by decide), (Or.inr (Or.inl ⟨rfl, ⟨x134, c216, (show 0 ≤ x134.toInt by omega), (show x134.toInt ≤ 400 by omega)⟩, ⟨x212, c213, (show 1 ≤ x212.toInt by omega), (show x212.toInt ≤ 3205 by omega)⟩⟩))⟩ hw dX12_numberHere_25
    · replace hM := hM.call (r' := 1) hv205 (by decide)
      have ex202 : x202.toInt = x134.toInt := by rw [← c135.symm.trans c203]
      refine lv_if_ne (tgt := 26) hx hb dX12_numberHere_13 (by decide) (fun _ => ?_) (fun c => absurd c (by decide))
      replace hM := hM.pos (by decide)
      refine lv_aload_n hx hb dX12_numberHere_26 rfl (lv_at hl 0 rfl) ?_
      refine tk_geti hC hK hw hT hinX12 kM_at0 (by decide) rfl 14 (by decide) (List.mem_cons_of_mem _ uw_19_18) rfl rfl dX12_numberHere_27 (fun x218 c219 rx218 tx218 => ?_)
      refine wk_top x139 (c219.symm.trans c140) ?_
      replace hM := hM.rd (sI_at c140)
      refine lv_istore_n (lv' := [(3, .int x139), (0, .ref (ad 0)), (1, .int a1), (2, .int 24)]) hx hb dX12_numberHere_30 rfl hl (by decide) rfl (fun ls hl => ?_)
      refine lv_iconst (v := 0) hx hb dX12_numberHere_31 (by decide) ?_
      refine lv_istore (lv' := [(4, .int 0), (3, .int x139), (0, .ref (ad 0)), (1, .int a1), (2, .int 24)]) hx hb dX12_numberHere_32 hl (by decide) rfl (fun ls hl => ?_)
      exact L34 ((400 - x139.toInt).toNat + 1) x139 0 x134 x139 H locs ls w119 (show 1 ≤ a1.toInt from ra1) (show a1.toInt ≤ 24 from ta1) (show 0 ≤ x139.toInt by omega) (show x139.toInt ≤ 399 by omega) (show 1 ≤ x134.toInt by omega) (show x134.toInt ≤ 400 by omega) (show 0 ≤ x139.toInt by omega) (show x139.toInt ≤ 400 by omega) (Nat.lt_succ_self _) hw hT hF c135 c140 hM (lv_sub hl [2, 3, 4, 1, 0] rfl)
