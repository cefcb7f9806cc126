abbrev P_X10_leastBelow_4 (ad : Nat → Nat) (cy : Nat → ClassId) (B : Int) (qr : Nat) (s1 : Int) (a1 : Int32) (a2 : Int32) (w0 : va_W) : Int32 → va_W → Prop := fun r u => TW ksC ad cy B qr s1 u ∧ FE ksC [(51, 0, 10)] w0 u ∧ ((0 ≤ r.toInt ∧ r.toInt ≤ 8191) ∨ (r = (-1) ∧ (∃ y : Int32, gi u 38 10 = y ∧ 1 ≤ y.toInt ∧ y.toInt ≤ 6)))
set_option maxHeartbeats 4000000 in
set_option maxRecDepth 100000 in
theorem k_X10_leastBelow_4 (l : Launch) (adK adV : Nat → Nat) (dC : Nat → ClassId) (dI : Nat → Nat → Nat) (cy : Nat → ClassId) (ad : Nat → Nat) (B : Int) (hB0 : 2147483648 ≤ B) (hB1 : B ≤ 1152921504606846976) (qr : Nat) (s1 : Int)  (a1 : Int32) (ra1 : 0 ≤ a1.toInt) (ta1 : a1.toInt ≤ 9) (a2 : Int32) (ra2 : 0 ≤ a2.toInt) (ta2 : a2.toInt ≤ 8191) (w0 : va_W) (sz : Nat) (hT : TW ksC ad cy B qr s1 w0)  : Met l yX10_leastBelow (wu yX10_leastBelow cX10_leastBelow 4 (some .int)) ({ frames := 12, cells := 0, slots := 0, locals := 266 }) (va_Pc [.ref (ad 158), .int a1, .int a2] (wpreS adK adV dC dI cy sz w0)) (va_Qi (P_X10_leastBelow_4 ad cy B qr s1 a1 a2 w0) (fun u : va_W => wpost dC dI cy (va_A w0 sz) u) (va_A w0 sz)) 0 0 (va_A w0 sz) := by
  refine Met.ofW (cc := cX10_leastBelow) (maxL := 4) (ret := (some .int)) (by decide) rfl ?_
  intro p e s m args below meth c s₁ Bk hml hv
  obtain ⟨rfl, ⟨hsz, hP, hK, hD0⟩, hE, hSR⟩ := hv
  have hx := Bk.exec
  have hb := Bk.bytes
  have hr := Bk.returns
  have hlocks := Bk.notSynchronized
  have hC : CallFix p m c cX10_leastBelow 4 s _ (wu yX10_leastBelow cX10_leastBelow 4 (some .int)) RX10 := ⟨hx, hb, hml, findClass_of_methodNamed Bk.named, atoms_spec (ws := (wu yX10_leastBelow cX10_leastBelow 4 (some .int))) Bk.pre⟩
  subst hsz
  have hD := hD0.self (sz := s.heap.size)
  generalize hAe : va_A w0 s.heap.size = A at hD hE ⊢
  have hA : ∀ q : Nat, s.heap.size ≤ q → A q := fun q h => by rw [← hAe]; exact Or.inr h
  have hw : Wd dC dI A s.heap s.heap [] w0 := ⟨hP, hD, va_S.rf⟩
  have hF : FE ksC [(51, 0, 10)] w0 w0 := FE.rf
  have hl := lv_entry ([.ref (ad 158), .int a1, .int a2]) (n := 4) (Nat.le_of_ble_eq_true rfl)
  rw [lg_entry_eq]
  generalize (lg_sl ([.ref (ad 158), .int a1, .int a2]) ++ List.replicate (4 - (lg_sl ([.ref (ad 158), .int a1, .int a2])).length) Slot.unset).toArray = ls at hl ⊢
  have hl : lv_has ls 4 [(0, .ref (ad 158)), (1, .int a1), (2, .int a2)] := hl
  generalize hloc : ([] : List Loc) = locs at hw ⊢
  have hinX10 : ∀ w ∈ u_ws RX10 TX10 5, w ∈ (wu yX10_leastBelow cX10_leastBelow 4 (some .int)) := fun _ h => List.mem_cons_of_mem _ (up_81 h)
  have hinX5 : ∀ w ∈ u_ws RX5 TX5 14, w ∈ (wu yX10_leastBelow cX10_leastBelow 4 (some .int)) := fun _ h => List.mem_cons_of_mem _ (up_76 h)
  have L9 : ∀ (n9 : Nat) (v9_3 : Int32) (H : Heap) (locs : List Loc) (ls : Array Slot) (w1 : va_W), 0 ≤ a1.toInt → a1.toInt ≤ 9 → 0 ≤ a2.toInt → a2.toInt ≤ 8191 → 0 ≤ v9_3.toInt → v9_3.toInt ≤ 6 → (6 - v9_3.toInt).toNat < n9 → Wd dC dI A s.heap H locs w1 → TW ksC ad cy B qr s1 w1 → FE ksC [(51, 0, 10)] w0 w1 → lv_has ls 4 [(0, .ref (ad 158)), (1, .int a1), (2, .int a2), (3, .int v9_3)] → W p l e ({ frames := 12, cells := 0, slots := 0, locals := 266 }) s m (List.toArray [.ref (ad 158), .int a1, .int a2]) below meth c H locs 0 0 (MQ below (va_Qi (P_X10_leastBelow_4 ad cy B qr s1 a1 a2 w0) (fun u : va_W => wpost dC dI cy A u) A) (List.toArray [.ref (ad 158), .int a1, .int a2]) s 0 0 A) (F0 m 9 ls []) := by
    intro n9
    induction n9 with
    | zero => intro v9_3 H locs ls w1 r2 t3 r4 t5 r6 t7 hm9 hw hT hF hl; omega
    | succ n9 ih9 =>
      intro v9_3 H locs ls w1 r2 t3 r4 t5 r6 t7 hm9 hw hT hF hl
      refine lv_iload_n hx hb dX10_leastBelow_9 rfl (lv_at hl 3 rfl) ?_
      refine lv_aload_n hx hb dX10_leastBelow_10 rfl (lv_at hl 0 rfl) ?_
      refine tk_getA hC hK hw hT hinX10 kC_at158 (by decide) rfl 0 (by decide) (List.mem_cons_of_mem _ uw_6_6) rfl rfl dX10_leastBelow_11 ?_
      refine tk_geti hC hK hw hT hinX5 kC_at38 (by decide) rfl 10 (by decide) (List.mem_cons_of_mem _ uw_60_6) rfl rfl dX10_leastBelow_14 (fun x8 c9 rx8 tx8 => ?_)
      refine lv_icmp_ge (tgt := 36) hx hb dX10_leastBelow_17 (by decide) (fun c10 => ?_) (fun c10 => ?_)
      · have c10 : x8.toInt ≤ v9_3.toInt := wk_le.mp c10
        refine lv_iload_n hx hb dX10_leastBelow_36 rfl (lv_at hl 1 rfl) ?_
        refine lv_if_gt (tgt := 42) hx hb dX10_leastBelow_37 (by decide) (fun c11 => ?_) (fun c11 => ?_)
        · have c11 : (0 : Int) < a1.toInt := wk_lt.mp c11
          refine lv_aload_n hx hb dX10_leastBelow_42 rfl (lv_at hl 0 rfl) ?_
          refine lv_iload_n hx hb dX10_leastBelow_43 rfl (lv_at hl 1 rfl) ?_
          refine lv_iconst (v := 1) hx hb dX10_leastBelow_44 (by decide) ?_
          refine lv_isub hx hb dX10_leastBelow_45 ?_
          refine lv_topi (fun x12 ex12 => ?_)
          have ex12 : x12.toInt = a1.toInt - (1 : Int) := by rw [ex12]; exact wk_sub (show (-2147483648) ≤ a1.toInt - (1 : Int) by omega) (show a1.toInt - (1 : Int) ≤ 2147483647 by omega)
          refine lv_iload_n hx hb dX10_leastBelow_46 rfl (lv_at hl 2 rfl) ?_
          refine tk_Vi hC hK hw hT hA hE hSR kC_at158 (by decide) rfl (k_X10_leastBelow_5 l adK adV dC dI cy ad B hB0 (Int.le_trans hB1 (by decide)) qr s1   x12 (show 0 ≤ x12.toInt by first | with_reducible assumption | omega) (show x12.toInt ≤ 8 by first | with_reducible assumption | omega) a2 (show 0 ≤ a2.toInt from r4) (show a2.toInt ≤ 8191 from t5) w1 H.size hT ) (cwV 2 hC.2.2.2.2 uV_RX10_72 rfl rfl rfl (by decide +kernel) ⟨Nat.le_of_ble_eq_true rfl, Nat.le_of_ble_eq_true rfl⟩) rfl hl.1 rfl (Nat.le_of_ble_eq_true rfl) dX10_leastBelow_47 (fun r13 w15 H locs hp14 hw => ?_)
          obtain ⟨hT, k16, hg21⟩ := hp14
          have hF := hF.tr k16 (by decide)
          have c22 := k16.gi kC_at38 (by decide) c9
          rcases hg21 with ⟨g17, g18⟩ | ⟨rfl, ⟨x19, c20, rx19, tx19⟩⟩
          · refine lv_istore_n (lv' := [(3, .int r13), (0, .ref (ad 158)), (1, .int a1), (2, .int a2)]) hx hb dX10_leastBelow_50 rfl hl (by decide) rfl (fun ls hl => ?_)
            refine lv_iload_n hx hb dX10_leastBelow_51 rfl (lv_at hl 0 rfl) ?_
            refine lv_iconst (v := (-1)) hx hb dX10_leastBelow_52 (by decide) ?_
            refine lv_icmp_eq (tgt := 60) hx hb dX10_leastBelow_53 (by decide) (fun c => absurd c (fun h => absurd (show r13.toInt = (-1 : Int) from wk_eq.mp h) (by omega))) (fun _ => ?_)
            refine lv_iload_n hx hb dX10_leastBelow_56 rfl (lv_at hl 0 rfl) ?_
            refine lv_goto (tgt := 74) hx hb dX10_leastBelow_57 (by decide) ?_
            exact tk_iret hC hr hlocks hK ⟨hT, hF, (Or.inl ⟨(show 0 ≤ r13.toInt by first | with_reducible assumption | omega), (show r13.toInt ≤ 8191 by first | with_reducible assumption | omega)⟩)⟩ hw dX10_leastBelow_74
          · have ex19 : x19.toInt = x8.toInt := by rw [← c22.symm.trans c20]
            refine lv_istore_n (lv' := [(3, .int (-1)), (0, .ref (ad 158)), (1, .int a1), (2, .int a2)]) hx hb dX10_leastBelow_50 rfl hl (by decide) rfl (fun ls hl => ?_)
            refine lv_iload_n hx hb dX10_leastBelow_51 rfl (lv_at hl 0 rfl) ?_
            refine lv_iconst (v := (-1)) hx hb dX10_leastBelow_52 (by decide) ?_
            refine lv_icmp_eq (tgt := 60) hx hb dX10_leastBelow_53 (by decide) (fun _ => ?_) (fun c => absurd (by decide) c)
            refine lv_aload_n hx hb dX10_leastBelow_60 rfl (lv_at hl 1 rfl) ?_
            refine lv_iload_n hx hb dX10_leastBelow_61 rfl (lv_at hl 2 rfl) ?_
            refine lv_iconst (v := 1) hx hb dX10_leastBelow_62 (by decide) ?_
            refine lv_isub hx hb dX10_leastBelow_63 ?_
            refine lv_topi (fun x23 ex23 => ?_)
            have ex23 : x23.toInt = a1.toInt - (1 : Int) := by rw [ex23]; exact wk_sub (show (-2147483648) ≤ a1.toInt - (1 : Int) by omega) (show a1.toInt - (1 : Int) ≤ 2147483647 by omega)
            refine lv_iload_n hx hb dX10_leastBelow_64 rfl (lv_at hl 3 rfl) ?_
            refine lv_iconst (v := 1) hx hb dX10_leastBelow_65 (by decide) ?_
            refine lv_iload_n hx hb dX10_leastBelow_66 rfl (lv_at hl 2 rfl) ?_
            refine lv_iconst (v := 1) hx hb dX10_leastBelow_67 (by decide) ?_
            refine lv_isub hx hb dX10_leastBelow_68 ?_
            refine lv_topi (fun x24 ex24 => ?_)
            have ex24 : x24.toInt = a1.toInt - (1 : Int) := by rw [ex24]; exact wk_sub (show (-2147483648) ≤ a1.toInt - (1 : Int) by omega) (show a1.toInt - (1 : Int) ≤ 2147483647 by omega)
            refine lv_ishl hx hb dX10_leastBelow_69 ?_
            refine lv_topi (fun x25 ex25 => ?_)
            have bx25 : 1 ≤ x25.toInt ∧ x25.toInt ≤ 256 := by rw [ex25]; exact wk_shl1 8 (by decide) (by omega) (by omega)
            refine lv_ior hx hb dX10_leastBelow_70 ?_
            refine lv_topi (fun x26 ex26 => ?_)
            have bx26 : 0 ≤ x26.toInt ∧ x26.toInt < 8192 := by rw [ex26]; exact wk_or 13 (by decide) (by omega) (by omega) (by omega) (by omega)
            have mx26 : a2.toInt ≤ x26.toInt ∧ x25.toInt ≤ x26.toInt := by rw [ex26]; exact wk_orL 13 (by decide) (by omega) (by omega) (by omega) (by omega)
            refine tk_Vi hC hK hw hT hA hE hSR kC_at158 (by decide) rfl (k_X10_leastBelow_5 l adK adV dC dI cy ad B hB0 (Int.le_trans hB1 (by decide)) qr s1   x23 (show 0 ≤ x23.toInt by first | with_reducible assumption | omega) (show x23.toInt ≤ 8 by first | with_reducible assumption | omega) x26 (show 0 ≤ x26.toInt by first | with_reducible assumption | omega) (show x26.toInt ≤ 8191 by first | with_reducible assumption | omega) w15 H.size hT ) (cwV 2 hC.2.2.2.2 uV_RX10_72 rfl rfl rfl (by decide +kernel) ⟨Nat.le_of_ble_eq_true rfl, Nat.le_of_ble_eq_true rfl⟩) rfl hl.1 rfl (Nat.le_of_ble_eq_true rfl) dX10_leastBelow_71 (fun r27 w29 H locs hp28 hw => ?_)
            obtain ⟨hT, k30, hg35⟩ := hp28
            have hF := hF.tr k30 (by decide)
            have c36 := k30.gi kC_at38 (by decide) c22
            rcases hg35 with ⟨g31, g32⟩ | ⟨rfl, ⟨x33, c34, rx33, tx33⟩⟩
            · exact tk_iret hC hr hlocks hK ⟨hT, hF, (Or.inl ⟨(show 0 ≤ r27.toInt by first | with_reducible assumption | omega), (show r27.toInt ≤ 8191 by first | with_reducible assumption | omega)⟩)⟩ hw dX10_leastBelow_74
            · have ex33 : x33.toInt = x8.toInt := by rw [← c36.symm.trans c34]
              exact tk_iret hC hr hlocks hK ⟨hT, hF, (Or.inr ⟨rfl, ⟨x8, c36, (show 1 ≤ x8.toInt by first | with_reducible assumption | omega), (show x8.toInt ≤ 6 from tx8)⟩⟩)⟩ hw dX10_leastBelow_74
        · have c11 : a1.toInt ≤ (0 : Int) := wk_ltF c11
          refine lv_iload_n hx hb dX10_leastBelow_40 rfl (lv_at hl 2 rfl) ?_
          exact tk_iret hC hr hlocks hK ⟨hT, hF, (Or.inl ⟨(show 0 ≤ a2.toInt from r4), (show a2.toInt ≤ 8191 from t5)⟩)⟩ hw dX10_leastBelow_41
      · have c10 : v9_3.toInt < x8.toInt := wk_leF c10
        refine lv_aload_n hx hb dX10_leastBelow_20 rfl (lv_at hl 0 rfl) ?_
        refine lv_iload_n hx hb dX10_leastBelow_21 rfl (lv_at hl 3 rfl) ?_
        refine tk_Vi hC hK hw hT hA hE hSR kC_at158 (by decide) rfl (k_X10_canDo_1 l adK adV dC dI cy ad B hB0 (Int.le_trans hB1 (by decide)) qr s1   v9_3 (show 0 ≤ v9_3.toInt from r6) (show v9_3.toInt ≤ 5 by first | with_reducible assumption | omega) w1 H.size hT ) (cwV 1 hC.2.2.2.2 uV_RX10_49 rfl rfl rfl (by decide +kernel) ⟨Nat.le_of_ble_eq_true rfl, Nat.le_of_ble_eq_true rfl⟩) rfl hl.1 rfl (Nat.le_of_ble_eq_true rfl) dX10_leastBelow_22 (fun r37 w39 H locs hp38 hw => ?_)
        obtain ⟨hT, k40, hg41⟩ := hp38
        have hF := hF.tr k40 (by decide)
        have c42 := k40.gi kC_at38 (by decide) c9
        rcases hg41 with rfl | rfl
        · refine lv_if_ne (tgt := 30) hx hb dX10_leastBelow_25 (by decide) (fun c => absurd (by decide) c) (fun _ => ?_)
          refine lv_iconst (v := (-1)) hx hb dX10_leastBelow_28 (by decide) ?_
          exact tk_iret hC hr hlocks hK ⟨hT, hF, (Or.inr ⟨rfl, ⟨x8, c42, (show 1 ≤ x8.toInt by first | with_reducible assumption | omega), (show x8.toInt ≤ 6 from tx8)⟩⟩)⟩ hw dX10_leastBelow_29
        · refine lv_if_ne (tgt := 30) hx hb dX10_leastBelow_25 (by decide) (fun _ => ?_) (fun c => absurd c (by decide))
          obtain ⟨x43, ex43⟩ : ∃ y : Int32, y = v9_3 + Int32.ofInt 1 := ⟨_, rfl⟩
          refine lv_iinc (v := x43) (lv' := [(3, .int x43), (0, .ref (ad 158)), (1, .int a1), (2, .int a2)]) hx hb dX10_leastBelow_30 hl (k := 3) rfl ex43.symm (by decide) rfl (fun ls hl => ?_)
          have ex43 : x43.toInt = v9_3.toInt + 1 := by rw [ex43]; exact wk_add (y := 1) (show -2147483648 ≤ v9_3.toInt + 1 by omega) (show v9_3.toInt + 1 ≤ 2147483647 by omega)
          refine lv_goto (tgt := 9) hx hb dX10_leastBelow_33 (by decide) ?_
          exact ih9 x43 H locs ls w39 (show 0 ≤ a1.toInt from r2) (show a1.toInt ≤ 9 from t3) (show 0 ≤ a2.toInt from r4) (show a2.toInt ≤ 8191 from t5) (show 0 ≤ x43.toInt by first | with_reducible assumption | omega) (show x43.toInt ≤ 6 by first | with_reducible assumption | omega) (show (6 - x43.toInt).toNat < n9 by first | exact tn_lt hm9 (by omega) (by omega) | omega) hw hT hF  (lv_sub hl [1, 2, 3, 0] rfl)
  refine lv_aload_n hx hb dX10_leastBelow_0 rfl (lv_at hl 0 rfl) ?_
  refine lv_iload_n hx hb dX10_leastBelow_1 rfl (lv_at hl 1 rfl) ?_
  refine lv_iload_n hx hb dX10_leastBelow_2 rfl (lv_at hl 2 rfl) ?_
  refine lv_iconst (v := (-1)) hx hb dX10_leastBelow_3 (by decide) ?_
  refine tk_Vv hC hK hw hT hA hE hSR kC_at158 (by decide) rfl (k_X10_layRoads_1 l adK adV dC dI cy ad B hB0 (Int.le_trans hB1 (by decide)) qr s1   a1 (show 0 ≤ a1.toInt from ra1) (show a1.toInt ≤ 12 from Int.le_trans ta1 (by decide)) a2 (show 0 ≤ a2.toInt from ra2) (show a2.toInt ≤ 8191 from ta2) ((-1)) (by decide) (by decide) w0 s.heap.size hT ) (cwV 3 hC.2.2.2.2 uV_RX10_42 rfl rfl rfl (by decide +kernel) ⟨Nat.le_of_ble_eq_true rfl, Nat.le_of_ble_eq_true rfl⟩) rfl hl.1 rfl (Nat.le_of_ble_eq_true rfl) dX10_leastBelow_4 (fun w46 H locs hp45 hw => ?_)
  obtain ⟨hT, k47, hg48⟩ := hp45
  have hF := hF.tr k47 (by decide)
  clear hg48
  refine lv_iconst (v := 0) hx hb dX10_leastBelow_7 (by decide) ?_
  refine lv_istore_n (lv' := [(3, .int 0), (0, .ref (ad 158)), (1, .int a1), (2, .int a2)]) hx hb dX10_leastBelow_8 rfl hl (by decide) rfl (fun ls hl => ?_)
  exact L9 ((6 - (0 : Int)).toNat + 1) 0 H locs ls w46 (show 0 ≤ a1.toInt from ra1) (show a1.toInt ≤ 9 from ta1) (show 0 ≤ a2.toInt from ra2) (show a2.toInt ≤ 8191 from ta2) (by decide) (by decide) (Nat.lt_succ_self _) hw hT hF  (lv_sub hl [1, 2, 3, 0] rfl)
abbrev P_X10_leastBelow_3 (ad : Nat → Nat) (cy : Nat → ClassId) (B : Int) (qr : Nat) (s1 : Int) (a1 : Int32) (a2 : Int32) (w0 : va_W) : Int32 → va_W → Prop := fun r u => TW ksC ad cy B qr s1 u ∧ FE ksC [(51, 0, 10)] w0 u ∧ ((0 ≤ r.toInt ∧ r.toInt ≤ 8191) ∨ (r = (-1) ∧ (∃ y : Int32, gi u 38 10 = y ∧ 1 ≤ y.toInt ∧ y.toInt ≤ 6)))
set_option maxHeartbeats 4000000 in
set_option maxRecDepth 100000 in
theorem k_X10_leastBelow_3 (l : Launch) (adK adV : Nat → Nat) (dC : Nat → ClassId) (dI : Nat → Nat → Nat) (cy : Nat → ClassId) (ad : Nat → Nat) (B : Int) (hB0 : 2147483648 ≤ B) (hB1 : B ≤ 1152921504606846976) (qr : Nat) (s1 : Int)  (a1 : Int32) (ra1 : 0 ≤ a1.toInt) (ta1 : a1.toInt ≤ 10) (a2 : Int32) (ra2 : 0 ≤ a2.toInt) (ta2 : a2.toInt ≤ 8191) (w0 : va_W) (sz : Nat) (hT : TW ksC ad cy B qr s1 w0)  : Met l yX10_leastBelow (wu yX10_leastBelow cX10_leastBelow 4 (some .int)) ({ frames := 13, cells := 0, slots := 0, locals := 289 }) (va_Pc [.ref (ad 158), .int a1, .int a2] (wpreS adK adV dC dI cy sz w0)) (va_Qi (P_X10_leastBelow_3 ad cy B qr s1 a1 a2 w0) (fun u : va_W => wpost dC dI cy (va_A w0 sz) u) (va_A w0 sz)) 0 0 (va_A w0 sz) := by
  refine Met.ofW (cc := cX10_leastBelow) (maxL := 4) (ret := (some .int)) (by decide) rfl ?_
  intro p e s m args below meth c s₁ Bk hml hv
  obtain ⟨rfl, ⟨hsz, hP, hK, hD0⟩, hE, hSR⟩ := hv
  have hx := Bk.exec
  have hb := Bk.bytes
  have hr := Bk.returns
  have hlocks := Bk.notSynchronized
  have hC : CallFix p m c cX10_leastBelow 4 s _ (wu yX10_leastBelow cX10_leastBelow 4 (some .int)) RX10 := ⟨hx, hb, hml, findClass_of_methodNamed Bk.named, atoms_spec (ws := (wu yX10_leastBelow cX10_leastBelow 4 (some .int))) Bk.pre⟩
  subst hsz
  have hD := hD0.self (sz := s.heap.size)
  generalize hAe : va_A w0 s.heap.size = A at hD hE ⊢
  have hA : ∀ q : Nat, s.heap.size ≤ q → A q := fun q h => by rw [← hAe]; exact Or.inr h
  have hw : Wd dC dI A s.heap s.heap [] w0 := ⟨hP, hD, va_S.rf⟩
  have hF : FE ksC [(51, 0, 10)] w0 w0 := FE.rf
  have hl := lv_entry ([.ref (ad 158), .int a1, .int a2]) (n := 4) (Nat.le_of_ble_eq_true rfl)
  rw [lg_entry_eq]
  generalize (lg_sl ([.ref (ad 158), .int a1, .int a2]) ++ List.replicate (4 - (lg_sl ([.ref (ad 158), .int a1, .int a2])).length) Slot.unset).toArray = ls at hl ⊢
  have hl : lv_has ls 4 [(0, .ref (ad 158)), (1, .int a1), (2, .int a2)] := hl
  generalize hloc : ([] : List Loc) = locs at hw ⊢
  have hinX10 : ∀ w ∈ u_ws RX10 TX10 5, w ∈ (wu yX10_leastBelow cX10_leastBelow 4 (some .int)) := fun _ h => List.mem_cons_of_mem _ (up_81 h)
  have hinX5 : ∀ w ∈ u_ws RX5 TX5 14, w ∈ (wu yX10_leastBelow cX10_leastBelow 4 (some .int)) := fun _ h => List.mem_cons_of_mem _ (up_76 h)
  have L9 : ∀ (n9 : Nat) (v9_3 : Int32) (H : Heap) (locs : List Loc) (ls : Array Slot) (w1 : va_W), 0 ≤ a1.toInt → a1.toInt ≤ 10 → 0 ≤ a2.toInt → a2.toInt ≤ 8191 → 0 ≤ v9_3.toInt → v9_3.toInt ≤ 6 → (6 - v9_3.toInt).toNat < n9 → Wd dC dI A s.heap H locs w1 → TW ksC ad cy B qr s1 w1 → FE ksC [(51, 0, 10)] w0 w1 → lv_has ls 4 [(0, .ref (ad 158)), (1, .int a1), (2, .int a2), (3, .int v9_3)] → W p l e ({ frames := 13, cells := 0, slots := 0, locals := 289 }) s m (List.toArray [.ref (ad 158), .int a1, .int a2]) below meth c H locs 0 0 (MQ below (va_Qi (P_X10_leastBelow_3 ad cy B qr s1 a1 a2 w0) (fun u : va_W => wpost dC dI cy A u) A) (List.toArray [.ref (ad 158), .int a1, .int a2]) s 0 0 A) (F0 m 9 ls []) := by
    intro n9
    induction n9 with
    | zero => intro v9_3 H locs ls w1 r2 t3 r4 t5 r6 t7 hm9 hw hT hF hl; omega
    | succ n9 ih9 =>
      intro v9_3 H locs ls w1 r2 t3 r4 t5 r6 t7 hm9 hw hT hF hl
      refine lv_iload_n hx hb dX10_leastBelow_9 rfl (lv_at hl 3 rfl) ?_
      refine lv_aload_n hx hb dX10_leastBelow_10 rfl (lv_at hl 0 rfl) ?_
      refine tk_getA hC hK hw hT hinX10 kC_at158 (by decide) rfl 0 (by decide) (List.mem_cons_of_mem _ uw_6_6) rfl rfl dX10_leastBelow_11 ?_
      refine tk_geti hC hK hw hT hinX5 kC_at38 (by decide) rfl 10 (by decide) (List.mem_cons_of_mem _ uw_60_6) rfl rfl dX10_leastBelow_14 (fun x8 c9 rx8 tx8 => ?_)
      refine lv_icmp_ge (tgt := 36) hx hb dX10_leastBelow_17 (by decide) (fun c10 => ?_) (fun c10 => ?_)
      · have c10 : x8.toInt ≤ v9_3.toInt := wk_le.mp c10
        refine lv_iload_n hx hb dX10_leastBelow_36 rfl (lv_at hl 1 rfl) ?_
        refine lv_if_gt (tgt := 42) hx hb dX10_leastBelow_37 (by decide) (fun c11 => ?_) (fun c11 => ?_)
        · have c11 : (0 : Int) < a1.toInt := wk_lt.mp c11
          refine lv_aload_n hx hb dX10_leastBelow_42 rfl (lv_at hl 0 rfl) ?_
          refine lv_iload_n hx hb dX10_leastBelow_43 rfl (lv_at hl 1 rfl) ?_
          refine lv_iconst (v := 1) hx hb dX10_leastBelow_44 (by decide) ?_
          refine lv_isub hx hb dX10_leastBelow_45 ?_
          refine lv_topi (fun x12 ex12 => ?_)
          have ex12 : x12.toInt = a1.toInt - (1 : Int) := by rw [ex12]; exact wk_sub (show (-2147483648) ≤ a1.toInt - (1 : Int) by omega) (show a1.toInt - (1 : Int) ≤ 2147483647 by omega)
          refine lv_iload_n hx hb dX10_leastBelow_46 rfl (lv_at hl 2 rfl) ?_
          refine tk_Vi hC hK hw hT hA hE hSR kC_at158 (by decide) rfl (k_X10_leastBelow_4 l adK adV dC dI cy ad B hB0 (Int.le_trans hB1 (by decide)) qr s1   x12 (show 0 ≤ x12.toInt by first | with_reducible assumption | omega) (show x12.toInt ≤ 9 by first | with_reducible assumption | omega) a2 (show 0 ≤ a2.toInt from r4) (show a2.toInt ≤ 8191 from t5) w1 H.size hT ) (cwV 2 hC.2.2.2.2 uV_RX10_72 rfl rfl rfl (by decide +kernel) ⟨Nat.le_of_ble_eq_true rfl, Nat.le_of_ble_eq_true rfl⟩) rfl hl.1 rfl (Nat.le_of_ble_eq_true rfl) dX10_leastBelow_47 (fun r13 w15 H locs hp14 hw => ?_)
          obtain ⟨hT, k16, hg21⟩ := hp14
          have hF := hF.tr k16 (by decide)
          have c22 := k16.gi kC_at38 (by decide) c9
          rcases hg21 with ⟨g17, g18⟩ | ⟨rfl, ⟨x19, c20, rx19, tx19⟩⟩
          · refine lv_istore_n (lv' := [(3, .int r13), (0, .ref (ad 158)), (1, .int a1), (2, .int a2)]) hx hb dX10_leastBelow_50 rfl hl (by decide) rfl (fun ls hl => ?_)
            refine lv_iload_n hx hb dX10_leastBelow_51 rfl (lv_at hl 0 rfl) ?_
            refine lv_iconst (v := (-1)) hx hb dX10_leastBelow_52 (by decide) ?_
            refine lv_icmp_eq (tgt := 60) hx hb dX10_leastBelow_53 (by decide) (fun c => absurd c (fun h => absurd (show r13.toInt = (-1 : Int) from wk_eq.mp h) (by omega))) (fun _ => ?_)
            refine lv_iload_n hx hb dX10_leastBelow_56 rfl (lv_at hl 0 rfl) ?_
            refine lv_goto (tgt := 74) hx hb dX10_leastBelow_57 (by decide) ?_
            exact tk_iret hC hr hlocks hK ⟨hT, hF, (Or.inl ⟨(show 0 ≤ r13.toInt by first | with_reducible assumption | omega), (show r13.toInt ≤ 8191 by first | with_reducible assumption | omega)⟩)⟩ hw dX10_leastBelow_74
          · have ex19 : x19.toInt = x8.toInt := by rw [← c22.symm.trans c20]
            refine lv_istore_n (lv' := [(3, .int (-1)), (0, .ref (ad 158)), (1, .int a1), (2, .int a2)]) hx hb dX10_leastBelow_50 rfl hl (by decide) rfl (fun ls hl => ?_)
            refine lv_iload_n hx hb dX10_leastBelow_51 rfl (lv_at hl 0 rfl) ?_
            refine lv_iconst (v := (-1)) hx hb dX10_leastBelow_52 (by decide) ?_
            refine lv_icmp_eq (tgt := 60) hx hb dX10_leastBelow_53 (by decide) (fun _ => ?_) (fun c => absurd (by decide) c)
            refine lv_aload_n hx hb dX10_leastBelow_60 rfl (lv_at hl 1 rfl) ?_
            refine lv_iload_n hx hb dX10_leastBelow_61 rfl (lv_at hl 2 rfl) ?_
            refine lv_iconst (v := 1) hx hb dX10_leastBelow_62 (by decide) ?_
            refine lv_isub hx hb dX10_leastBelow_63 ?_
            refine lv_topi (fun x23 ex23 => ?_)
            have ex23 : x23.toInt = a1.toInt - (1 : Int) := by rw [ex23]; exact wk_sub (show (-2147483648) ≤ a1.toInt - (1 : Int) by omega) (show a1.toInt - (1 : Int) ≤ 2147483647 by omega)
            refine lv_iload_n hx hb dX10_leastBelow_64 rfl (lv_at hl 3 rfl) ?_
            refine lv_iconst (v := 1) hx hb dX10_leastBelow_65 (by decide) ?_
            refine lv_iload_n hx hb dX10_leastBelow_66 rfl (lv_at hl 2 rfl) ?_
            refine lv_iconst (v := 1) hx hb dX10_leastBelow_67 (by decide) ?_
            refine lv_isub hx hb dX10_leastBelow_68 ?_
            refine lv_topi (fun x24 ex24 => ?_)
            have ex24 : x24.toInt = a1.toInt - (1 : Int) := by rw [ex24]; exact wk_sub (show (-2147483648) ≤ a1.toInt - (1 : Int) by omega) (show a1.toInt - (1 : Int) ≤ 2147483647 by omega)
            refine lv_ishl hx hb dX10_leastBelow_69 ?_
            refine lv_topi (fun x25 ex25 => ?_)
            have bx25 : 1 ≤ x25.toInt ∧ x25.toInt ≤ 512 := by rw [ex25]; exact wk_shl1 9 (by decide) (by omega) (by omega)
            refine lv_ior hx hb dX10_leastBelow_70 ?_
            refine lv_topi (fun x26 ex26 => ?_)
            have bx26 : 0 ≤ x26.toInt ∧ x26.toInt < 8192 := by rw [ex26]; exact wk_or 13 (by decide) (by omega) (by omega) (by omega) (by omega)
            have mx26 : a2.toInt ≤ x26.toInt ∧ x25.toInt ≤ x26.toInt := by rw [ex26]; exact wk_orL 13 (by decide) (by omega) (by omega) (by omega) (by omega)
            refine tk_Vi hC hK hw hT hA hE hSR kC_at158 (by decide) rfl (k_X10_leastBelow_4 l adK adV dC dI cy ad B hB0 (Int.le_trans hB1 (by decide)) qr s1   x23 (show 0 ≤ x23.toInt by first | with_reducible assumption | omega) (show x23.toInt ≤ 9 by first | with_reducible assumption | omega) x26 (show 0 ≤ x26.toInt by first | with_reducible assumption | omega) (show x26.toInt ≤ 8191 by first | with_reducible assumption | omega) w15 H.size hT ) (cwV 2 hC.2.2.2.2 uV_RX10_72 rfl rfl rfl (by decide +kernel) ⟨Nat.le_of_ble_eq_true rfl, Nat.le_of_ble_eq_true rfl⟩) rfl hl.1 rfl (Nat.le_of_ble_eq_true rfl) dX10_leastBelow_71 (fun r27 w29 H locs hp28 hw => ?_)
            obtain ⟨hT, k30, hg35⟩ := hp28
            have hF := hF.tr k30 (by decide)
            have c36 := k30.gi kC_at38 (by decide) c22
            rcases hg35 with ⟨g31, g32⟩ | ⟨rfl, ⟨x33, c34, rx33, tx33⟩⟩
            · exact tk_iret hC hr hlocks hK ⟨hT, hF, (Or.inl ⟨(show 0 ≤ r27.toInt by first | with_reducible assumption | omega), (show r27.toInt ≤ 8191 by first | with_reducible assumption | omega)⟩)⟩ hw dX10_leastBelow_74
            · have ex33 : x33.toInt = x8.toInt := by rw [← c36.symm.trans c34]
              exact tk_iret hC hr hlocks hK ⟨hT, hF, (Or.inr ⟨rfl, ⟨x8, c36, (show 1 ≤ x8.toInt by first | with_reducible assumption | omega), (show x8.toInt ≤ 6 from tx8)⟩⟩)⟩ hw dX10_leastBelow_74
        · have c11 : a1.toInt ≤ (0 : Int) := wk_ltF c11
          refine lv_iload_n hx hb dX10_leastBelow_40 rfl (lv_at hl 2 rfl) ?_
          exact tk_iret hC hr hlocks hK ⟨hT, hF, (Or.inl ⟨(show 0 ≤ a2.toInt from r4), (show a2.toInt ≤ 8191 from t5)⟩)⟩ hw dX10_leastBelow_41
      · have c10 : v9_3.toInt < x8.toInt := wk_leF c10
        refine lv_aload_n hx hb dX10_leastBelow_20 rfl (lv_at hl 0 rfl) ?_
        refine lv_iload_n hx hb dX10_leastBelow_21 rfl (lv_at hl 3 rfl) ?_
        refine tk_Vi hC hK hw hT hA hE hSR kC_at158 (by decide) rfl (k_X10_canDo_1 l adK adV dC dI cy ad B hB0 (Int.le_trans hB1 (by decide)) qr s1   v9_3 (show 0 ≤ v9_3.toInt from r6) (show v9_3.toInt ≤ 5 by first | with_reducible assumption | omega) w1 H.size hT ) (cwV 1 hC.2.2.2.2 uV_RX10_49 rfl rfl rfl (by decide +kernel) ⟨Nat.le_of_ble_eq_true rfl, Nat.le_of_ble_eq_true rfl⟩) rfl hl.1 rfl (Nat.le_of_ble_eq_true rfl) dX10_leastBelow_22 (fun r37 w39 H locs hp38 hw => ?_)
        obtain ⟨hT, k40, hg41⟩ := hp38
        have hF := hF.tr k40 (by decide)
        have c42 := k40.gi kC_at38 (by decide) c9
        rcases hg41 with rfl | rfl
        · refine lv_if_ne (tgt := 30) hx hb dX10_leastBelow_25 (by decide) (fun c => absurd (by decide) c) (fun _ => ?_)
          refine lv_iconst (v := (-1)) hx hb dX10_leastBelow_28 (by decide) ?_
          exact tk_iret hC hr hlocks hK ⟨hT, hF, (Or.inr ⟨rfl, ⟨x8, c42, (show 1 ≤ x8.toInt by first | with_reducible assumption | omega), (show x8.toInt ≤ 6 from tx8)⟩⟩)⟩ hw dX10_leastBelow_29
        · refine lv_if_ne (tgt := 30) hx hb dX10_leastBelow_25 (by decide) (fun _ => ?_) (fun c => absurd c (by decide))
          obtain ⟨x43, ex43⟩ : ∃ y : Int32, y = v9_3 + Int32.ofInt 1 := ⟨_, rfl⟩
          refine lv_iinc (v := x43) (lv' := [(3, .int x43), (0, .ref (ad 158)), (1, .int a1), (2, .int a2)]) hx hb dX10_leastBelow_30 hl (k := 3) rfl ex43.symm (by decide) rfl (fun ls hl => ?_)
          have ex43 : x43.toInt = v9_3.toInt + 1 := by rw [ex43]; exact wk_add (y := 1) (show -2147483648 ≤ v9_3.toInt + 1 by omega) (show v9_3.toInt + 1 ≤ 2147483647 by omega)
          refine lv_goto (tgt := 9) hx hb dX10_leastBelow_33 (by decide) ?_
          exact ih9 x43 H locs ls w39 (show 0 ≤ a1.toInt from r2) (show a1.toInt ≤ 10 from t3) (show 0 ≤ a2.toInt from r4) (show a2.toInt ≤ 8191 from t5) (show 0 ≤ x43.toInt by first | with_reducible assumption | omega) (show x43.toInt ≤ 6 by first | with_reducible assumption | omega) (show (6 - x43.toInt).toNat < n9 by first | exact tn_lt hm9 (by omega) (by omega) | omega) hw hT hF  (lv_sub hl [1, 2, 3, 0] rfl)
  refine lv_aload_n hx hb dX10_leastBelow_0 rfl (lv_at hl 0 rfl) ?_
  refine lv_iload_n hx hb dX10_leastBelow_1 rfl (lv_at hl 1 rfl) ?_
  refine lv_iload_n hx hb dX10_leastBelow_2 rfl (lv_at hl 2 rfl) ?_
  refine lv_iconst (v := (-1)) hx hb dX10_leastBelow_3 (by decide) ?_
  refine tk_Vv hC hK hw hT hA hE hSR kC_at158 (by decide) rfl (k_X10_layRoads_1 l adK adV dC dI cy ad B hB0 (Int.le_trans hB1 (by decide)) qr s1   a1 (show 0 ≤ a1.toInt from ra1) (show a1.toInt ≤ 12 from Int.le_trans ta1 (by decide)) a2 (show 0 ≤ a2.toInt from ra2) (show a2.toInt ≤ 8191 from ta2) ((-1)) (by decide) (by decide) w0 s.heap.size hT ) (cwV 3 hC.2.2.2.2 uV_RX10_42 rfl rfl rfl (by decide +kernel) ⟨Nat.le_of_ble_eq_true rfl, Nat.le_of_ble_eq_true rfl⟩) rfl hl.1 rfl (Nat.le_of_ble_eq_true rfl) dX10_leastBelow_4 (fun w46 H locs hp45 hw => ?_)
  obtain ⟨hT, k47, hg48⟩ := hp45
  have hF := hF.tr k47 (by decide)
  clear hg48
  refine lv_iconst (v := 0) hx hb dX10_leastBelow_7 (by decide) ?_
  refine lv_istore_n (lv' := [(3, .int 0), (0, .ref (ad 158)), (1, .int a1), (2, .int a2)]) hx hb dX10_leastBelow_8 rfl hl (by decide) rfl (fun ls hl => ?_)
  exact L9 ((6 - (0 : Int)).toNat + 1) 0 H locs ls w46 (show 0 ≤ a1.toInt from ra1) (show a1.toInt ≤ 10 from ta1) (show 0 ≤ a2.toInt from ra2) (show a2.toInt ≤ 8191 from ta2) (by decide) (by decide) (Nat.lt_succ_self _) hw hT hF  (lv_sub hl [1, 2, 3, 0] rfl)
abbrev P_X10_leastBelow_2 (ad : Nat → Nat) (cy : Nat → ClassId) (B : Int) (qr : Nat) (s1 : Int) (a1 : Int32) (a2 : Int32) (w0 : va_W) : Int32 → va_W → Prop := fun r u => TW ksC ad cy B qr s1 u ∧ FE ksC [(51, 0, 10)] w0 u ∧ ((0 ≤ r.toInt ∧ r.toInt ≤ 8191) ∨ (r = (-1) ∧ (∃ y : Int32, gi u 38 10 = y ∧ 1 ≤ y.toInt ∧ y.toInt ≤ 6)))
set_option maxHeartbeats 4000000 in
set_option maxRecDepth 100000 in
theorem k_X10_leastBelow_2 (l : Launch) (adK adV : Nat → Nat) (dC : Nat → ClassId) (dI : Nat → Nat → Nat) (cy : Nat → ClassId) (ad : Nat → Nat) (B : Int) (hB0 : 2147483648 ≤ B) (hB1 : B ≤ 1152921504606846976) (qr : Nat) (s1 : Int)  (a1 : Int32) (ra1 : 0 ≤ a1.toInt) (ta1 : a1.toInt ≤ 11) (a2 : Int32) (ra2 : 0 ≤ a2.toInt) (ta2 : a2.toInt ≤ 8191) (w0 : va_W) (sz : Nat) (hT : TW ksC ad cy B qr s1 w0)  : Met l yX10_leastBelow (wu yX10_leastBelow cX10_leastBelow 4 (some .int)) ({ frames := 14, cells := 0, slots := 0, locals := 312 }) (va_Pc [.ref (ad 158), .int a1, .int a2] (wpreS adK adV dC dI cy sz w0)) (va_Qi (P_X10_leastBelow_2 ad cy B qr s1 a1 a2 w0) (fun u : va_W => wpost dC dI cy (va_A w0 sz) u) (va_A w0 sz)) 0 0 (va_A w0 sz) := by
  refine Met.ofW (cc := cX10_leastBelow) (maxL := 4) (ret := (some .int)) (by decide) rfl ?_
  intro p e s m args below meth c s₁ Bk hml hv
  obtain ⟨rfl, ⟨hsz, hP, hK, hD0⟩, hE, hSR⟩ := hv
  have hx := Bk.exec
  have hb := Bk.bytes
  have hr := Bk.returns
  have hlocks := Bk.notSynchronized
  have hC : CallFix p m c cX10_leastBelow 4 s _ (wu yX10_leastBelow cX10_leastBelow 4 (some .int)) RX10 := ⟨hx, hb, hml, findClass_of_methodNamed Bk.named, atoms_spec (ws := (wu yX10_leastBelow cX10_leastBelow 4 (some .int))) Bk.pre⟩
  subst hsz
  have hD := hD0.self (sz := s.heap.size)
  generalize hAe : va_A w0 s.heap.size = A at hD hE ⊢
  have hA : ∀ q : Nat, s.heap.size ≤ q → A q := fun q h => by rw [← hAe]; exact Or.inr h
  have hw : Wd dC dI A s.heap s.heap [] w0 := ⟨hP, hD, va_S.rf⟩
  have hF : FE ksC [(51, 0, 10)] w0 w0 := FE.rf
  have hl := lv_entry ([.ref (ad 158), .int a1, .int a2]) (n := 4) (Nat.le_of_ble_eq_true rfl)
  rw [lg_entry_eq]
  generalize (lg_sl ([.ref (ad 158), .int a1, .int a2]) ++ List.replicate (4 - (lg_sl ([.ref (ad 158), .int a1, .int a2])).length) Slot.unset).toArray = ls at hl ⊢
  have hl : lv_has ls 4 [(0, .ref (ad 158)), (1, .int a1), (2, .int a2)] := hl
  generalize hloc : ([] : List Loc) = locs at hw ⊢
  have hinX10 : ∀ w ∈ u_ws RX10 TX10 5, w ∈ (wu yX10_leastBelow cX10_leastBelow 4 (some .int)) := fun _ h => List.mem_cons_of_mem _ (up_81 h)
  have hinX5 : ∀ w ∈ u_ws RX5 TX5 14, w ∈ (wu yX10_leastBelow cX10_leastBelow 4 (some .int)) := fun _ h => List.mem_cons_of_mem _ (up_76 h)
  have L9 : ∀ (n9 : Nat) (v9_3 : Int32) (H : Heap) (locs : List Loc) (ls : Array Slot) (w1 : va_W), 0 ≤ a1.toInt → a1.toInt ≤ 11 → 0 ≤ a2.toInt → a2.toInt ≤ 8191 → 0 ≤ v9_3.toInt → v9_3.toInt ≤ 6 → (6 - v9_3.toInt).toNat < n9 → Wd dC dI A s.heap H locs w1 → TW ksC ad cy B qr s1 w1 → FE ksC [(51, 0, 10)] w0 w1 → lv_has ls 4 [(0, .ref (ad 158)), (1, .int a1), (2, .int a2), (3, .int v9_3)] → W p l e ({ frames := 14, cells := 0, slots := 0, locals := 312 }) s m (List.toArray [.ref (ad 158), .int a1, .int a2]) below meth c H locs 0 0 (MQ below (va_Qi (P_X10_leastBelow_2 ad cy B qr s1 a1 a2 w0) (fun u : va_W => wpost dC dI cy A u) A) (List.toArray [.ref (ad 158), .int a1, .int a2]) s 0 0 A) (F0 m 9 ls []) := by
    intro n9
    induction n9 with
    | zero => intro v9_3 H locs ls w1 r2 t3 r4 t5 r6 t7 hm9 hw hT hF hl; omega
    | succ n9 ih9 =>
      intro v9_3 H locs ls w1 r2 t3 r4 t5 r6 t7 hm9 hw hT hF hl
      refine lv_iload_n hx hb dX10_leastBelow_9 rfl (lv_at hl 3 rfl) ?_
      refine lv_aload_n hx hb dX10_leastBelow_10 rfl (lv_at hl 0 rfl) ?_
      refine tk_getA hC hK hw hT hinX10 kC_at158 (by decide) rfl 0 (by decide) (List.mem_cons_of_mem _ uw_6_6) rfl rfl dX10_leastBelow_11 ?_
      refine tk_geti hC hK hw hT hinX5 kC_at38 (by decide) rfl 10 (by decide) (List.mem_cons_of_mem _ uw_60_6) rfl rfl dX10_leastBelow_14 (fun x8 c9 rx8 tx8 => ?_)
      refine lv_icmp_ge (tgt := 36) hx hb dX10_leastBelow_17 (by decide) (fun c10 => ?_) (fun c10 => ?_)
      · have c10 : x8.toInt ≤ v9_3.toInt := wk_le.mp c10
        refine lv_iload_n hx hb dX10_leastBelow_36 rfl (lv_at hl 1 rfl) ?_
        refine lv_if_gt (tgt := 42) hx hb dX10_leastBelow_37 (by decide) (fun c11 => ?_) (fun c11 => ?_)
        · have c11 : (0 : Int) < a1.toInt := wk_lt.mp c11
          refine lv_aload_n hx hb dX10_leastBelow_42 rfl (lv_at hl 0 rfl) ?_
          refine lv_iload_n hx hb dX10_leastBelow_43 rfl (lv_at hl 1 rfl) ?_
          refine lv_iconst (v := 1) hx hb dX10_leastBelow_44 (by decide) ?_
          refine lv_isub hx hb dX10_leastBelow_45 ?_
          refine lv_topi (fun x12 ex12 => ?_)
          have ex12 : x12.toInt = a1.toInt - (1 : Int) := by rw [ex12]; exact wk_sub (show (-2147483648) ≤ a1.toInt - (1 : Int) by omega) (show a1.toInt - (1 : Int) ≤ 2147483647 by omega)
          refine lv_iload_n hx hb dX10_leastBelow_46 rfl (lv_at hl 2 rfl) ?_
          refine tk_Vi hC hK hw hT hA hE hSR kC_at158 (by decide) rfl (k_X10_leastBelow_3 l adK adV dC dI cy ad B hB0 (Int.le_trans hB1 (by decide)) qr s1   x12 (show 0 ≤ x12.toInt by first | with_reducible assumption | omega) (show x12.toInt ≤ 10 by first | with_reducible assumption | omega) a2 (show 0 ≤ a2.toInt from r4) (show a2.toInt ≤ 8191 from t5) w1 H.size hT ) (cwV 2 hC.2.2.2.2 uV_RX10_72 rfl rfl rfl (by decide +kernel) ⟨Nat.le_of_ble_eq_true rfl, Nat.le_of_ble_eq_true rfl⟩) rfl hl.1 rfl (Nat.le_of_ble_eq_true rfl) dX10_leastBelow_47 (fun r13 w15 H locs hp14 hw => ?_)
          obtain ⟨hT, k16, hg21⟩ := hp14
          have hF := hF.tr k16 (by decide)
          have c22 := k16.gi kC_at38 (by decide) c9
          rcases hg21 with ⟨g17, g18⟩ | ⟨rfl, ⟨x19, c20, rx19, tx19⟩⟩
          · refine lv_istore_n (lv' := [(3, .int r13), (0, .ref (ad 158)), (1, .int a1), (2, .int a2)]) hx hb dX10_leastBelow_50 rfl hl (by decide) rfl (fun ls hl => ?_)
            refine lv_iload_n hx hb dX10_leastBelow_51 rfl (lv_at hl 0 rfl) ?_
            refine lv_iconst (v := (-1)) hx hb dX10_leastBelow_52 (by decide) ?_
            refine lv_icmp_eq (tgt := 60) hx hb dX10_leastBelow_53 (by decide) (fun c => absurd c (fun h => absurd (show r13.toInt = (-1 : Int) from wk_eq.mp h) (by omega))) (fun _ => ?_)
            refine lv_iload_n hx hb dX10_leastBelow_56 rfl (lv_at hl 0 rfl) ?_
            refine lv_goto (tgt := 74) hx hb dX10_leastBelow_57 (by decide) ?_
            exact tk_iret hC hr hlocks hK ⟨hT, hF, (Or.inl ⟨(show 0 ≤ r13.toInt by first | with_reducible assumption | omega), (show r13.toInt ≤ 8191 by first | with_reducible assumption | omega)⟩)⟩ hw dX10_leastBelow_74
          · have ex19 : x19.toInt = x8.toInt := by rw [← c22.symm.trans c20]
            refine lv_istore_n (lv' := [(3, .int (-1)), (0, .ref (ad 158)), (1, .int a1), (2, .int a2)]) hx hb dX10_leastBelow_50 rfl hl (by decide) rfl (fun ls hl => ?_)
            refine lv_iload_n hx hb dX10_leastBelow_51 rfl (lv_at hl 0 rfl) ?_
            refine lv_iconst (v := (-1)) hx hb dX10_leastBelow_52 (by decide) ?_
            refine lv_icmp_eq (tgt := 60) hx hb dX10_leastBelow_53 (by decide) (fun _ => ?_) (fun c => absurd (by decide) c)
            refine lv_aload_n hx hb dX10_leastBelow_60 rfl (lv_at hl 1 rfl) ?_
            refine lv_iload_n hx hb dX10_leastBelow_61 rfl (lv_at hl 2 rfl) ?_
            refine lv_iconst (v := 1) hx hb dX10_leastBelow_62 (by decide) ?_
            refine lv_isub hx hb dX10_leastBelow_63 ?_
            refine lv_topi (fun x23 ex23 => ?_)
            have ex23 : x23.toInt = a1.toInt - (1 : Int) := by rw [ex23]; exact wk_sub (show (-2147483648) ≤ a1.toInt - (1 : Int) by omega) (show a1.toInt - (1 : Int) ≤ 2147483647 by omega)
            refine lv_iload_n hx hb dX10_leastBelow_64 rfl (lv_at hl 3 rfl) ?_
            refine lv_iconst (v := 1) hx hb dX10_leastBelow_65 (by decide) ?_
            refine lv_iload_n hx hb dX10_leastBelow_66 rfl (lv_at hl 2 rfl) ?_
            refine lv_iconst (v := 1) hx hb dX10_leastBelow_67 (by decide) ?_
            refine lv_isub hx hb dX10_leastBelow_68 ?_
            refine lv_topi (fun x24 ex24 => ?_)
            have ex24 : x24.toInt = a1.toInt - (1 : Int) := by rw [ex24]; exact wk_sub (show (-2147483648) ≤ a1.toInt - (1 : Int) by omega) (show a1.toInt - (1 : Int) ≤ 2147483647 by omega)
            refine lv_ishl hx hb dX10_leastBelow_69 ?_
            refine lv_topi (fun x25 ex25 => ?_)
            have bx25 : 1 ≤ x25.toInt ∧ x25.toInt ≤ 1024 := by rw [ex25]; exact wk_shl1 10 (by decide) (by omega) (by omega)
            refine lv_ior hx hb dX10_leastBelow_70 ?_
            refine lv_topi (fun x26 ex26 => ?_)
            have bx26 : 0 ≤ x26.toInt ∧ x26.toInt < 8192 := by rw [ex26]; exact wk_or 13 (by decide) (by omega) (by omega) (by omega) (by omega)
            have mx26 : a2.toInt ≤ x26.toInt ∧ x25.toInt ≤ x26.toInt := by rw [ex26]; exact wk_orL 13 (by decide) (by omega) (by omega) (by omega) (by omega)
            refine tk_Vi hC hK hw hT hA hE hSR kC_at158 (by decide) rfl (k_X10_leastBelow_3 l adK adV dC dI cy ad B hB0 (Int.le_trans hB1 (by decide)) qr s1   x23 (show 0 ≤ x23.toInt by first | with_reducible assumption | omega) (show x23.toInt ≤ 10 by first | with_reducible assumption | omega) x26 (show 0 ≤ x26.toInt by first | with_reducible assumption | omega) (show x26.toInt ≤ 8191 by first | with_reducible assumption | omega) w15 H.size hT ) (cwV 2 hC.2.2.2.2 uV_RX10_72 rfl rfl rfl (by decide +kernel) ⟨Nat.le_of_ble_eq_true rfl, Nat.le_of_ble_eq_true rfl⟩) rfl hl.1 rfl (Nat.le_of_ble_eq_true rfl) dX10_leastBelow_71 (fun r27 w29 H locs hp28 hw => ?_)
            obtain ⟨hT, k30, hg35⟩ := hp28
            have hF := hF.tr k30 (by decide)
            have c36 := k30.gi kC_at38 (by decide) c22
            rcases hg35 with ⟨g31, g32⟩ | ⟨rfl, ⟨x33, c34, rx33, tx33⟩⟩
            · exact tk_iret hC hr hlocks hK ⟨hT, hF, (Or.inl ⟨(show 0 ≤ r27.toInt by first | with_reducible assumption | omega), (show r27.toInt ≤ 8191 by first | with_reducible assumption | omega)⟩)⟩ hw dX10_leastBelow_74
            · have ex33 : x33.toInt = x8.toInt := by rw [← c36.symm.trans c34]
              exact tk_iret hC hr hlocks hK ⟨hT, hF, (Or.inr ⟨rfl, ⟨x8, c36, (show 1 ≤ x8.toInt by first | with_reducible assumption | omega), (show x8.toInt ≤ 6 from tx8)⟩⟩)⟩ hw dX10_leastBelow_74
        · have c11 : a1.toInt ≤ (0 : Int) := wk_ltF c11
          refine lv_iload_n hx hb dX10_leastBelow_40 rfl (lv_at hl 2 rfl) ?_
          exact tk_iret hC hr hlocks hK ⟨hT, hF, (Or.inl ⟨(show 0 ≤ a2.toInt from r4), (show a2.toInt ≤ 8191 from t5)⟩)⟩ hw dX10_leastBelow_41
      · have c10 : v9_3.toInt < x8.toInt := wk_leF c10
        refine lv_aload_n hx hb dX10_leastBelow_20 rfl (lv_at hl 0 rfl) ?_
        refine lv_iload_n hx hb dX10_leastBelow_21 rfl (lv_at hl 3 rfl) ?_
        refine tk_Vi hC hK hw hT hA hE hSR kC_at158 (by decide) rfl (k_X10_canDo_1 l adK adV dC dI cy ad B hB0 (Int.le_trans hB1 (by decide)) qr s1   v9_3 (show 0 ≤ v9_3.toInt from r6) (show v9_3.toInt ≤ 5 by first | with_reducible assumption | omega) w1 H.size hT ) (cwV 1 hC.2.2.2.2 uV_RX10_49 rfl rfl rfl (by decide +kernel) ⟨Nat.le_of_ble_eq_true rfl, Nat.le_of_ble_eq_true rfl⟩) rfl hl.1 rfl (Nat.le_of_ble_eq_true rfl) dX10_leastBelow_22 (fun r37 w39 H locs hp38 hw => ?_)
        obtain ⟨hT, k40, hg41⟩ := hp38
        have hF := hF.tr k40 (by decide)
        have c42 := k40.gi kC_at38 (by decide) c9
        rcases hg41 with rfl | rfl
        · refine lv_if_ne (tgt := 30) hx hb dX10_leastBelow_25 (by decide) (fun c => absurd (by decide) c) (fun _ => ?_)
          refine lv_iconst (v := (-1)) hx hb dX10_leastBelow_28 (by decide) ?_
          exact tk_iret hC hr hlocks hK ⟨hT, hF, (Or.inr ⟨rfl, ⟨x8, c42, (show 1 ≤ x8.toInt by first | with_reducible assumption | omega), (show x8.toInt ≤ 6 from tx8)⟩⟩)⟩ hw dX10_leastBelow_29
        · refine lv_if_ne (tgt := 30) hx hb dX10_leastBelow_25 (by decide) (fun _ => ?_) (fun c => absurd c (by decide))
          obtain ⟨x43, ex43⟩ : ∃ y : Int32, y = v9_3 + Int32.ofInt 1 := ⟨_, rfl⟩
          refine lv_iinc (v := x43) (lv' := [(3, .int x43), (0, .ref (ad 158)), (1, .int a1), (2, .int a2)]) hx hb dX10_leastBelow_30 hl (k := 3) rfl ex43.symm (by decide) rfl (fun ls hl => ?_)
          have ex43 : x43.toInt = v9_3.toInt + 1 := by rw [ex43]; exact wk_add (y := 1) (show -2147483648 ≤ v9_3.toInt + 1 by omega) (show v9_3.toInt + 1 ≤ 2147483647 by omega)
          refine lv_goto (tgt := 9) hx hb dX10_leastBelow_33 (by decide) ?_
          exact ih9 x43 H locs ls w39 (show 0 ≤ a1.toInt from r2) (show a1.toInt ≤ 11 from t3) (show 0 ≤ a2.toInt from r4) (show a2.toInt ≤ 8191 from t5) (show 0 ≤ x43.toInt by first | with_reducible assumption | omega) (show x43.toInt ≤ 6 by first | with_reducible assumption | omega) (show (6 - x43.toInt).toNat < n9 by first | exact tn_lt hm9 (by omega) (by omega) | omega) hw hT hF  (lv_sub hl [1, 2, 3, 0] rfl)
  refine lv_aload_n hx hb dX10_leastBelow_0 rfl (lv_at hl 0 rfl) ?_
  refine lv_iload_n hx hb dX10_leastBelow_1 rfl (lv_at hl 1 rfl) ?_
  refine lv_iload_n hx hb dX10_leastBelow_2 rfl (lv_at hl 2 rfl) ?_
  refine lv_iconst (v := (-1)) hx hb dX10_leastBelow_3 (by decide) ?_
  refine tk_Vv hC hK hw hT hA hE hSR kC_at158 (by decide) rfl (k_X10_layRoads_1 l adK adV dC dI cy ad B hB0 (Int.le_trans hB1 (by decide)) qr s1   a1 (show 0 ≤ a1.toInt from ra1) (show a1.toInt ≤ 12 from Int.le_trans ta1 (by decide)) a2 (show 0 ≤ a2.toInt from ra2) (show a2.toInt ≤ 8191 from ta2) ((-1)) (by decide) (by decide) w0 s.heap.size hT ) (cwV 3 hC.2.2.2.2 uV_RX10_42 rfl rfl rfl (by decide +kernel) ⟨Nat.le_of_ble_eq_true rfl, Nat.le_of_ble_eq_true rfl⟩) rfl hl.1 rfl (Nat.le_of_ble_eq_true rfl) dX10_leastBelow_4 (fun w46 H locs hp45 hw => ?_)
  obtain ⟨hT, k47, hg48⟩ := hp45
  have hF := hF.tr k47 (by decide)
  clear hg48
  refine lv_iconst (v := 0) hx hb dX10_leastBelow_7 (by decide) ?_
  refine lv_istore_n (lv' := [(3, .int 0), (0, .ref (ad 158)), (1, .int a1), (2, .int a2)]) hx hb dX10_leastBelow_8 rfl hl (by decide) rfl (fun ls hl => ?_)
  exact L9 ((6 - (0 : Int)).toNat + 1) 0 H locs ls w46 (show 0 ≤ a1.toInt from ra1) (show a1.toInt ≤ 11 from ta1) (show 0 ≤ a2.toInt from ra2) (show a2.toInt ≤ 8191 from ta2) (by decide) (by decide) (Nat.lt_succ_self _) hw hT hF  (lv_sub hl [1, 2, 3, 0] rfl)
abbrev P_X10_leastBelow_1 (ad : Nat → Nat) (cy : Nat → ClassId) (B : Int) (qr : Nat) (s1 : Int) (a1 : Int32) (a2 : Int32) (w0 : va_W) : Int32 → va_W → Prop := fun r u => TW ksC ad cy B qr s1 u ∧ FE ksC [(51, 0, 10)] w0 u ∧ ((0 ≤ r.toInt ∧ r.toInt ≤ 8191) ∨ (r = (-1) ∧ (∃ y : Int32, gi u 38 10 = y ∧ 1 ≤ y.toInt ∧ y.toInt ≤ 6)))
set_option maxHeartbeats 4000000 in
set_option maxRecDepth 100000 in
theorem k_X10_leastBelow_1 (l : Launch) (adK adV : Nat → Nat) (dC : Nat → ClassId) (dI : Nat → Nat → Nat) (cy : Nat → ClassId) (ad : Nat → Nat) (B : Int) (hB0 : 2147483648 ≤ B) (hB1 : B ≤ 1152921504606846976) (qr : Nat) (s1 : Int)  (a1 : Int32) (ra1 : 0 ≤ a1.toInt) (ta1 : a1.toInt ≤ 12) (a2 : Int32) (ra2 : 0 ≤ a2.toInt) (ta2 : a2.toInt ≤ 8191) (w0 : va_W) (sz : Nat) (hT : TW ksC ad cy B qr s1 w0)  : Met l yX10_leastBelow (wu yX10_leastBelow cX10_leastBelow 4 (some .int)) ({ frames := 15, cells := 0, slots := 0, locals := 335 }) (va_Pc [.ref (ad 158), .int a1, .int a2] (wpreS adK adV dC dI cy sz w0)) (va_Qi (P_X10_leastBelow_1 ad cy B qr s1 a1 a2 w0) (fun u : va_W => wpost dC dI cy (va_A w0 sz) u) (va_A w0 sz)) 0 0 (va_A w0 sz) := by
  refine Met.ofW (cc := cX10_leastBelow) (maxL := 4) (ret := (some .int)) (by decide) rfl ?_
  intro p e s m args below meth c s₁ Bk hml hv
  obtain ⟨rfl, ⟨hsz, hP, hK, hD0⟩, hE, hSR⟩ := hv
  have hx := Bk.exec
  have hb := Bk.bytes
  have hr := Bk.returns
  have hlocks := Bk.notSynchronized
  have hC : CallFix p m c cX10_leastBelow 4 s _ (wu yX10_leastBelow cX10_leastBelow 4 (some .int)) RX10 := ⟨hx, hb, hml, findClass_of_methodNamed Bk.named, atoms_spec (ws := (wu yX10_leastBelow cX10_leastBelow 4 (some .int))) Bk.pre⟩
  subst hsz
  have hD := hD0.self (sz := s.heap.size)
  generalize hAe : va_A w0 s.heap.size = A at hD hE ⊢
  have hA : ∀ q : Nat, s.heap.size ≤ q → A q := fun q h => by rw [← hAe]; exact Or.inr h
  have hw : Wd dC dI A s.heap s.heap [] w0 := ⟨hP, hD, va_S.rf⟩
  have hF : FE ksC [(51, 0, 10)] w0 w0 := FE.rf
  have hl := lv_entry ([.ref (ad 158), .int a1, .int a2]) (n := 4) (Nat.le_of_ble_eq_true rfl)
  rw [lg_entry_eq]
  generalize (lg_sl ([.ref (ad 158), .int a1, .int a2]) ++ List.replicate (4 - (lg_sl ([.ref (ad 158), .int a1, .int a2])).length) Slot.unset).toArray = ls at hl ⊢
  have hl : lv_has ls 4 [(0, .ref (ad 158)), (1, .int a1), (2, .int a2)] := hl
  generalize hloc : ([] : List Loc) = locs at hw ⊢
  have hinX10 : ∀ w ∈ u_ws RX10 TX10 5, w ∈ (wu yX10_leastBelow cX10_leastBelow 4 (some .int)) := fun _ h => List.mem_cons_of_mem _ (up_81 h)
  have hinX5 : ∀ w ∈ u_ws RX5 TX5 14, w ∈ (wu yX10_leastBelow cX10_leastBelow 4 (some .int)) := fun _ h => List.mem_cons_of_mem _ (up_76 h)
  have L9 : ∀ (n9 : Nat) (v9_3 : Int32) (H : Heap) (locs : List Loc) (ls : Array Slot) (w1 : va_W), 0 ≤ a1.toInt → a1.toInt ≤ 12 → 0 ≤ a2.toInt → a2.toInt ≤ 8191 → 0 ≤ v9_3.toInt → v9_3.toInt ≤ 6 → (6 - v9_3.toInt).toNat < n9 → Wd dC dI A s.heap H locs w1 → TW ksC ad cy B qr s1 w1 → FE ksC [(51, 0, 10)] w0 w1 → lv_has ls 4 [(0, .ref (ad 158)), (1, .int a1), (2, .int a2), (3, .int v9_3)] → W p l e ({ frames := 15, cells := 0, slots := 0, locals := 335 }) s m (List.toArray [.ref (ad 158), .int a1, .int a2]) below meth c H locs 0 0 (MQ below (va_Qi (P_X10_leastBelow_1 ad cy B qr s1 a1 a2 w0) (fun u : va_W => wpost dC dI cy A u) A) (List.toArray [.ref (ad 158), .int a1, .int a2]) s 0 0 A) (F0 m 9 ls []) := by
    intro n9
    induction n9 with
    | zero => intro v9_3 H locs ls w1 r2 t3 r4 t5 r6 t7 hm9 hw hT hF hl; omega
    | succ n9 ih9 =>
      intro v9_3 H locs ls w1 r2 t3 r4 t5 r6 t7 hm9 hw hT hF hl
      refine lv_iload_n hx hb dX10_leastBelow_9 rfl (lv_at hl 3 rfl) ?_
      refine lv_aload_n hx hb dX10_leastBelow_10 rfl (lv_at hl 0 rfl) ?_
      refine tk_getA hC hK hw hT hinX10 kC_at158 (by decide) rfl 0 (by decide) (List.mem_cons_of_mem _ uw_6_6) rfl rfl dX10_leastBelow_11 ?_
      refine tk_geti hC hK hw hT hinX5 kC_at38 (by decide) rfl 10 (by decide) (List.mem_cons_of_mem _ uw_60_6) rfl rfl dX10_leastBelow_14 (fun x8 c9 rx8 tx8 => ?_)
      refine lv_icmp_ge (tgt := 36) hx hb dX10_leastBelow_17 (by decide) (fun c10 => ?_) (fun c10 => ?_)
      · have c10 : x8.toInt ≤ v9_3.toInt := wk_le.mp c10
        refine lv_iload_n hx hb dX10_leastBelow_36 rfl (lv_at hl 1 rfl) ?_
        refine lv_if_gt (tgt := 42) hx hb dX10_leastBelow_37 (by decide) (fun c11 => ?_) (fun c11 => ?_)
        · have c11 : (0 : Int) < a1.toInt := wk_lt.mp c11
          refine lv_aload_n hx hb dX10_leastBelow_42 rfl (lv_at hl 0 rfl) ?_
          refine lv_iload_n hx hb dX10_leastBelow_43 rfl (lv_at hl 1 rfl) ?_
          refine lv_iconst (v := 1) hx hb dX10_leastBelow_44 (by decide) ?_
          refine lv_isub hx hb dX10_leastBelow_45 ?_
          refine lv_topi (fun x12 ex12 => ?_)
          have ex12 : x12.toInt = a1.toInt - (1 : Int) := by rw [ex12]; exact wk_sub (show (-2147483648) ≤ a1.toInt - (1 : Int) by omega) (show a1.toInt - (1 : Int) ≤ 2147483647 by omega)
          refine lv_iload_n hx hb dX10_leastBelow_46 rfl (lv_at hl 2 rfl) ?_
          refine tk_Vi hC hK hw hT hA hE hSR kC_at158 (by decide) rfl (k_X10_leastBelow_2 l adK adV dC dI cy ad B hB0 (Int.le_trans hB1 (by decide)) qr s1   x12 (show 0 ≤ x12.toInt by first | with_reducible assumption | omega) (show x12.toInt ≤ 11 by first | with_reducible assumption | omega) a2 (show 0 ≤ a2.toInt from r4) (show a2.toInt ≤ 8191 from t5) w1 H.size hT ) (cwV 2 hC.2.2.2.2 uV_RX10_72 rfl rfl rfl (by decide +kernel) ⟨Nat.le_of_ble_eq_true rfl, Nat.le_of_ble_eq_true rfl⟩) rfl hl.1 rfl (Nat.le_of_ble_eq_true rfl) dX10_leastBelow_47 (fun r13 w15 H locs hp14 hw => ?_)
          obtain ⟨hT, k16, hg21⟩ := hp14
          have hF := hF.tr k16 (by decide)
          have c22 := k16.gi kC_at38 (by decide) c9
          rcases hg21 with ⟨g17, g18⟩ | ⟨rfl, ⟨x19, c20, rx19, tx19⟩⟩
          · refine lv_istore_n (lv' := [(3, .int r13), (0, .ref (ad 158)), (1, .int a1), (2, .int a2)]) hx hb dX10_leastBelow_50 rfl hl (by decide) rfl (fun ls hl => ?_)
            refine lv_iload_n hx hb dX10_leastBelow_51 rfl (lv_at hl 0 rfl) ?_
            refine lv_iconst (v := (-1)) hx hb dX10_leastBelow_52 (by decide) ?_
            refine lv_icmp_eq (tgt := 60) hx hb dX10_leastBelow_53 (by decide) (fun c => absurd c (fun h => absurd (show r13.toInt = (-1 : Int) from wk_eq.mp h) (by omega))) (fun _ => ?_)
            refine lv_iload_n hx hb dX10_leastBelow_56 rfl (lv_at hl 0 rfl) ?_
            refine lv_goto (tgt := 74) hx hb dX10_leastBelow_57 (by decide) ?_
            exact tk_iret hC hr hlocks hK ⟨hT, hF, (Or.inl ⟨(show 0 ≤ r13.toInt by first | with_reducible assumption | omega), (show r13.toInt ≤ 8191 by first | with_reducible assumption | omega)⟩)⟩ hw dX10_leastBelow_74
          · have ex19 : x19.toInt = x8.toInt := by rw [← c22.symm.trans c20]
            refine lv_istore_n (lv' := [(3, .int (-1)), (0, .ref (ad 158)), (1, .int a1), (2, .int a2)]) hx hb dX10_leastBelow_50 rfl hl (by decide) rfl (fun ls hl => ?_)
            refine lv_iload_n hx hb dX10_leastBelow_51 rfl (lv_at hl 0 rfl) ?_
            refine lv_iconst (v := (-1)) hx hb dX10_leastBelow_52 (by decide) ?_
            refine lv_icmp_eq (tgt := 60) hx hb dX10_leastBelow_53 (by decide) (fun _ => ?_) (fun c => absurd (by decide) c)
            refine lv_aload_n hx hb dX10_leastBelow_60 rfl (lv_at hl 1 rfl) ?_
            refine lv_iload_n hx hb dX10_leastBelow_61 rfl (lv_at hl 2 rfl) ?_
            refine lv_iconst (v := 1) hx hb dX10_leastBelow_62 (by decide) ?_
            refine lv_isub hx hb dX10_leastBelow_63 ?_
            refine lv_topi (fun x23 ex23 => ?_)
            have ex23 : x23.toInt = a1.toInt - (1 : Int) := by rw [ex23]; exact wk_sub (show (-2147483648) ≤ a1.toInt - (1 : Int) by omega) (show a1.toInt - (1 : Int) ≤ 2147483647 by omega)
            refine lv_iload_n hx hb dX10_leastBelow_64 rfl (lv_at hl 3 rfl) ?_
            refine lv_iconst (v := 1) hx hb dX10_leastBelow_65 (by decide) ?_
            refine lv_iload_n hx hb dX10_leastBelow_66 rfl (lv_at hl 2 rfl) ?_
            refine lv_iconst (v := 1) hx hb dX10_leastBelow_67 (by decide) ?_
            refine lv_isub hx hb dX10_leastBelow_68 ?_
            refine lv_topi (fun x24 ex24 => ?_)
            have ex24 : x24.toInt = a1.toInt - (1 : Int) := by rw [ex24]; exact wk_sub (show (-2147483648) ≤ a1.toInt - (1 : Int) by omega) (show a1.toInt - (1 : Int) ≤ 2147483647 by omega)
            refine lv_ishl hx hb dX10_leastBelow_69 ?_
            refine lv_topi (fun x25 ex25 => ?_)
            have bx25 : 1 ≤ x25.toInt ∧ x25.toInt ≤ 2048 := by rw [ex25]; exact wk_shl1 11 (by decide) (by omega) (by omega)
            refine lv_ior hx hb dX10_leastBelow_70 ?_
            refine lv_topi (fun x26 ex26 => ?_)
            have bx26 : 0 ≤ x26.toInt ∧ x26.toInt < 8192 := by rw [ex26]; exact wk_or 13 (by decide) (by omega) (by omega) (by omega) (by omega)
            have mx26 : a2.toInt ≤ x26.toInt ∧ x25.toInt ≤ x26.toInt := by rw [ex26]; exact wk_orL 13 (by decide) (by omega) (by omega) (by omega) (by omega)
            refine tk_Vi hC hK hw hT hA hE hSR kC_at158 (by decide) rfl (k_X10_leastBelow_2 l adK adV dC dI cy ad B hB0 (Int.le_trans hB1 (by decide)) qr s1   x23 (show 0 ≤ x23.toInt by first | with_reducible assumption | omega) (show x23.toInt ≤ 11 by first | with_reducible assumption | omega) x26 (show 0 ≤ x26.toInt by first | with_reducible assumption | omega) (show x26.toInt ≤ 8191 by first | with_reducible assumption | omega) w15 H.size hT ) (cwV 2 hC.2.2.2.2 uV_RX10_72 rfl rfl rfl (by decide +kernel) ⟨Nat.le_of_ble_eq_true rfl, Nat.le_of_ble_eq_true rfl⟩) rfl hl.1 rfl (Nat.le_of_ble_eq_true rfl) dX10_leastBelow_71 (fun r27 w29 H locs hp28 hw => ?_)
            obtain ⟨hT, k30, hg35⟩ := hp28
            have hF := hF.tr k30 (by decide)
            have c36 := k30.gi kC_at38 (by decide) c22
            rcases hg35 with ⟨g31, g32⟩ | ⟨rfl, ⟨x33, c34, rx33, tx33⟩⟩
            · exact tk_iret hC hr hlocks hK ⟨hT, hF, (Or.inl ⟨(show 0 ≤ r27.toInt by first | with_reducible assumption | omega), (show r27.toInt ≤ 8191 by first | with_reducible assumption | omega)⟩)⟩ hw dX10_leastBelow_74
            · have ex33 : x33.toInt = x8.toInt := by rw [← c36.symm.trans c34]
              exact tk_iret hC hr hlocks hK ⟨hT, hF, (Or.inr ⟨rfl, ⟨x8, c36, (show 1 ≤ x8.toInt by first | with_reducible assumption | omega), (show x8.toInt ≤ 6 from tx8)⟩⟩)⟩ hw dX10_leastBelow_74
        · have c11 : a1.toInt ≤ (0 : Int) := wk_ltF c11
          refine lv_iload_n hx hb dX10_leastBelow_40 rfl (lv_at hl 2 rfl) ?_
          exact tk_iret hC hr hlocks hK ⟨hT, hF, (Or.inl ⟨(show 0 ≤ a2.toInt from r4), (show a2.toInt ≤ 8191 from t5)⟩)⟩ hw dX10_leastBelow_41
      · have c10 : v9_3.toInt < x8.toInt := wk_leF c10
        refine lv_aload_n hx hb dX10_leastBelow_20 rfl (lv_at hl 0 rfl) ?_
        refine lv_iload_n hx hb dX10_leastBelow_21 rfl (lv_at hl 3 rfl) ?_
        refine tk_Vi hC hK hw hT hA hE hSR kC_at158 (by decide) rfl (k_X10_canDo_1 l adK adV dC dI cy ad B hB0 (Int.le_trans hB1 (by decide)) qr s1   v9_3 (show 0 ≤ v9_3.toInt from r6) (show v9_3.toInt ≤ 5 by first | with_reducible assumption | omega) w1 H.size hT ) (cwV 1 hC.2.2.2.2 uV_RX10_49 rfl rfl rfl (by decide +kernel) ⟨Nat.le_of_ble_eq_true rfl, Nat.le_of_ble_eq_true rfl⟩) rfl hl.1 rfl (Nat.le_of_ble_eq_true rfl) dX10_leastBelow_22 (fun r37 w39 H locs hp38 hw => ?_)
        obtain ⟨hT, k40, hg41⟩ := hp38
        have hF := hF.tr k40 (by decide)
        have c42 := k40.gi kC_at38 (by decide) c9
        rcases hg41 with rfl | rfl
        · refine lv_if_ne (tgt := 30) hx hb dX10_leastBelow_25 (by decide) (fun c => absurd (by decide) c) (fun _ => ?_)
          refine lv_iconst (v := (-1)) hx hb dX10_leastBelow_28 (by decide) ?_
          exact tk_iret hC hr hlocks hK ⟨hT, hF, (Or.inr ⟨rfl, ⟨x8, c42, (show 1 ≤ x8.toInt by first | with_reducible assumption | omega), (show x8.toInt ≤ 6 from tx8)⟩⟩)⟩ hw dX10_leastBelow_29
        · refine lv_if_ne (tgt := 30) hx hb dX10_leastBelow_25 (by decide) (fun _ => ?_) (fun c => absurd c (by decide))
          obtain ⟨x43, ex43⟩ : ∃ y : Int32, y = v9_3 + Int32.ofInt 1 := ⟨_, rfl⟩
          refine lv_iinc (v := x43) (lv' := [(3, .int x43), (0, .ref (ad 158)), (1, .int a1), (2, .int a2)]) hx hb dX10_leastBelow_30 hl (k := 3) rfl ex43.symm (by decide) rfl (fun ls hl => ?_)
          have ex43 : x43.toInt = v9_3.toInt + 1 := by rw [ex43]; exact wk_add (y := 1) (show -2147483648 ≤ v9_3.toInt + 1 by omega) (show v9_3.toInt + 1 ≤ 2147483647 by omega)
          refine lv_goto (tgt := 9) hx hb dX10_leastBelow_33 (by decide) ?_
          exact ih9 x43 H locs ls w39 (show 0 ≤ a1.toInt from r2) (show a1.toInt ≤ 12 from t3) (show 0 ≤ a2.toInt from r4) (show a2.toInt ≤ 8191 from t5) (show 0 ≤ x43.toInt by first | with_reducible assumption | omega) (show x43.toInt ≤ 6 by first | with_reducible assumption | omega) (show (6 - x43.toInt).toNat < n9 by first | exact tn_lt hm9 (by omega) (by omega) | omega) hw hT hF  (lv_sub hl [1, 2, 3, 0] rfl)
  refine lv_aload_n hx hb dX10_leastBelow_0 rfl (lv_at hl 0 rfl) ?_
  refine lv_iload_n hx hb dX10_leastBelow_1 rfl (lv_at hl 1 rfl) ?_
  refine lv_iload_n hx hb dX10_leastBelow_2 rfl (lv_at hl 2 rfl) ?_
  refine lv_iconst (v := (-1)) hx hb dX10_leastBelow_3 (by decide) ?_
  refine tk_Vv hC hK hw hT hA hE hSR kC_at158 (by decide) rfl (k_X10_layRoads_1 l adK adV dC dI cy ad B hB0 (Int.le_trans hB1 (by decide)) qr s1   a1 (show 0 ≤ a1.toInt from ra1) (show a1.toInt ≤ 12 from ta1) a2 (show 0 ≤ a2.toInt from ra2) (show a2.toInt ≤ 8191 from ta2) ((-1)) (by decide) (by decide) w0 s.heap.size hT ) (cwV 3 hC.2.2.2.2 uV_RX10_42 rfl rfl rfl (by decide +kernel) ⟨Nat.le_of_ble_eq_true rfl, Nat.le_of_ble_eq_true rfl⟩) rfl hl.1 rfl (Nat.le_of_ble_eq_true rfl) dX10_leastBelow_4 (fun w46 H locs hp45 hw => ?_)
  obtain ⟨hT, k47, hg48⟩ := hp45
  have hF := hF.tr k47 (by decide)
  clear hg48
  refine lv_iconst (v := 0) hx hb dX10_leastBelow_7 (by decide) ?_
  refine lv_istore_n (lv' := [(3, .int 0), (0, .ref (ad 158)), (1, .int a1), (2, .int a2)]) hx hb dX10_leastBelow_8 rfl hl (by decide) rfl (fun ls hl => ?_)
  exact L9 ((6 - (0 : Int)).toNat + 1) 0 H locs ls w46 (show 0 ≤ a1.toInt from ra1) (show a1.toInt ≤ 12 from ta1) (show 0 ≤ a2.toInt from ra2) (show a2.toInt ≤ 8191 from ta2) (by decide) (by decide) (Nat.lt_succ_self _) hw hT hF  (lv_sub hl [1, 2, 3, 0] rfl)
abbrev P_X10_findLeast_1 (ad : Nat → Nat) (cy : Nat → ClassId) (B : Int) (qr : Nat) (s1 : Int)  (w0 : va_W) : Int32 → va_W → Prop := fun r u => TW ksC ad cy B qr s1 u ∧ FE ksC [(51, 0, 10)] w0 u ∧ ((0 ≤ r.toInt ∧ r.toInt ≤ 8191) ∨ (r = (-1) ∧ (∃ y : Int32, gi u 38 10 = y ∧ 1 ≤ y.toInt ∧ y.toInt ≤ 6)))
set_option maxHeartbeats 4000000 in
set_option maxRecDepth 100000 in
theorem k_X10_findLeast_1 (l : Launch) (adK adV : Nat → Nat) (dC : Nat → ClassId) (dI : Nat → Nat → Nat) (cy : Nat → ClassId) (ad : Nat → Nat) (B : Int) (hB0 : 2147483648 ≤ B) (hB1 : B ≤ 1152921504606846976) (qr : Nat) (s1 : Int)   (w0 : va_W) (sz : Nat) (hT : TW ksC ad cy B qr s1 w0)  : Met l yX10_findLeast (wu yX10_findLeast cX10_findLeast 1 (some .int)) ({ frames := 16, cells := 0, slots := 0, locals := 358 }) (va_Pc [.ref (ad 158)] (wpreS adK adV dC dI cy sz w0)) (va_Qi (P_X10_findLeast_1 ad cy B qr s1  w0) (fun u : va_W => wpost dC dI cy (va_A w0 sz) u) (va_A w0 sz)) 0 0 (va_A w0 sz) := by
  refine Met.ofW (cc := cX10_findLeast) (maxL := 1) (ret := (some .int)) (by decide) rfl ?_
  intro p e s m args below meth c s₁ Bk hml hv
  obtain ⟨rfl, ⟨hsz, hP, hK, hD0⟩, hE, hSR⟩ := hv
  have hx := Bk.exec
  have hb := Bk.bytes
  have hr := Bk.returns
  have hlocks := Bk.notSynchronized
  have hC : CallFix p m c cX10_findLeast 1 s _ (wu yX10_findLeast cX10_findLeast 1 (some .int)) RX10 := ⟨hx, hb, hml, findClass_of_methodNamed Bk.named, atoms_spec (ws := (wu yX10_findLeast cX10_findLeast 1 (some .int))) Bk.pre⟩
  subst hsz
  have hD := hD0.self (sz := s.heap.size)
  generalize hAe : va_A w0 s.heap.size = A at hD hE ⊢
  have hA : ∀ q : Nat, s.heap.size ≤ q → A q := fun q h => by rw [← hAe]; exact Or.inr h
  have hw : Wd dC dI A s.heap s.heap [] w0 := ⟨hP, hD, va_S.rf⟩
  have hF : FE ksC [(51, 0, 10)] w0 w0 := FE.rf
  have hl := lv_entry ([.ref (ad 158)]) (n := 1) (Nat.le_of_ble_eq_true rfl)
  rw [lg_entry_eq]
  generalize (lg_sl ([.ref (ad 158)]) ++ List.replicate (1 - (lg_sl ([.ref (ad 158)])).length) Slot.unset).toArray = ls at hl ⊢
  have hl : lv_has ls 1 [(0, .ref (ad 158))] := hl
  generalize hloc : ([] : List Loc) = locs at hw ⊢
  have hinX10 : ∀ w ∈ u_ws RX10 TX10 5, w ∈ (wu yX10_findLeast cX10_findLeast 1 (some .int)) := fun _ h => List.mem_cons_of_mem _ (up_81 h)
  refine lv_aload_n hx hb dX10_findLeast_0 rfl (lv_at hl 0 rfl) ?_
  refine lv_aload_n hx hb dX10_findLeast_1 rfl (lv_at hl 0 rfl) ?_
  refine tk_geti hC hK hw hT hinX10 kC_at158 (by decide) rfl 4 (by decide) (List.mem_cons_of_mem _ uw_59_23) rfl rfl dX10_findLeast_2 (fun x1 c2 rx1 tx1 => ?_)
  refine lv_iconst (v := 0) hx hb dX10_findLeast_5 (by decide) ?_
  refine tk_Vi hC hK hw hT hA hE hSR kC_at158 (by decide) rfl (k_X10_leastBelow_1 l adK adV dC dI cy ad B hB0 (Int.le_trans hB1 (by decide)) qr s1   x1 (show 0 ≤ x1.toInt from rx1) (show x1.toInt ≤ 12 from tx1) 0 (by decide) (by decide) w0 s.heap.size hT ) (cwV 2 hC.2.2.2.2 uV_RX10_72 rfl rfl rfl (by decide +kernel) ⟨Nat.le_of_ble_eq_true rfl, Nat.le_of_ble_eq_true rfl⟩) rfl hl.1 rfl (Nat.le_of_ble_eq_true rfl) dX10_findLeast_6 (fun r3 w5 H locs hp4 hw => ?_)
  obtain ⟨hT, k6, hg11⟩ := hp4
  have hF := hF.tr k6 (by decide)
  have c12 := k6.gi kC_at158 (by decide) c2
  rcases hg11 with ⟨g7, g8⟩ | ⟨rfl, ⟨x9, c10, rx9, tx9⟩⟩
  · exact tk_iret hC hr hlocks hK ⟨hT, hF, (Or.inl ⟨(show 0 ≤ r3.toInt by first | with_reducible assumption | omega), (show r3.toInt ≤ 8191 by first | with_reducible assumption | omega)⟩)⟩ hw dX10_findLeast_9
  · exact tk_iret hC hr hlocks hK ⟨hT, hF, (Or.inr ⟨rfl, ⟨x9, c10, (show 1 ≤ x9.toInt by first | with_reducible assumption | omega), (show x9.toInt ≤ 6 by first | with_reducible assumption | omega)⟩⟩)⟩ hw dX10_findLeast_9
abbrev P_X11_ways_1 (ad : Nat → Nat) (cy : Nat → ClassId) (B : Int) (qr : Nat) (s1 : Int) (a1 : Int32) (a2 : Int32) (w0 : va_W) : Int32 → va_W → Prop := fun r u => TW ksC ad cy B qr s1 u ∧ FE ksC [(10, 4, 4), (50, 0, 12), (51, 0, 10)] w0 u ∧ ((r = (-2) ∧ 0 ≤ a1.toInt ∧ a1.toInt ≤ 6 ∧ 0 ≤ a2.toInt ∧ a2.toInt ≤ 0 ∧ (∃ y : Int32, gi u 39 8 = y ∧ 1 ≤ y.toInt ∧ y.toInt ≤ 10)) ∨ (0 ≤ r.toInt ∧ r.toInt ≤ 8191 ∧ 0 ≤ a1.toInt ∧ a1.toInt ≤ 6 ∧ 0 ≤ a2.toInt ∧ a2.toInt ≤ 1 ∧ (∃ y : Int32, gi u 39 8 = y ∧ 1 ≤ y.toInt ∧ y.toInt ≤ 10)) ∨ (r = (-1)))
set_option maxHeartbeats 4000000 in
set_option maxRecDepth 100000 in
theorem k_X11_ways_1 (l : Launch) (adK adV : Nat → Nat) (dC : Nat → ClassId) (dI : Nat → Nat → Nat) (cy : Nat → ClassId) (ad : Nat → Nat) (B : Int) (hB0 : 2147483648 ≤ B) (hB1 : B ≤ 1152921504606846976) (qr : Nat) (s1 : Int)  (a1 : Int32) (a2 : Int32) (w0 : va_W) (sz : Nat) (hT : TW ksC ad cy B qr s1 w0)  : Met l yX11_ways (wu yX11_ways cX11_ways 4 (some .int)) ({ frames := 17, cells := 0, slots := 0, locals := 378 }) (va_Pc [.ref (ad 0), .int a1, .int a2] (wpreS adK adV dC dI cy sz w0)) (va_Qi (P_X11_ways_1 ad cy B qr s1 a1 a2 w0) (fun u : va_W => wpost dC dI cy (va_A w0 sz) u) (va_A w0 sz)) 0 0 (va_A w0 sz) := by
  refine Met.ofW (cc := cX11_ways) (maxL := 4) (ret := (some .int)) (by decide) rfl ?_
  intro p e s m args below meth c s₁ Bk hml hv
  obtain ⟨rfl, ⟨hsz, hP, hK, hD0⟩, hE, hSR⟩ := hv
  have hx := Bk.exec
  have hb := Bk.bytes
  have hr := Bk.returns
  have hlocks := Bk.notSynchronized
  have hC : CallFix p m c cX11_ways 4 s _ (wu yX11_ways cX11_ways 4 (some .int)) RX11 := ⟨hx, hb, hml, findClass_of_methodNamed Bk.named, atoms_spec (ws := (wu yX11_ways cX11_ways 4 (some .int))) Bk.pre⟩
  subst hsz
  have hD := hD0.self (sz := s.heap.size)
  generalize hAe : va_A w0 s.heap.size = A at hD hE ⊢
  have hA : ∀ q : Nat, s.heap.size ≤ q → A q := fun q h => by rw [← hAe]; exact Or.inr h
  have hw : Wd dC dI A s.heap s.heap [] w0 := ⟨hP, hD, va_S.rf⟩
  have hF : FE ksC [(10, 4, 4), (50, 0, 12), (51, 0, 10)] w0 w0 := FE.rf
  have hl := lv_entry ([.ref (ad 0), .int a1, .int a2]) (n := 4) (Nat.le_of_ble_eq_true rfl)
  rw [lg_entry_eq]
  generalize (lg_sl ([.ref (ad 0), .int a1, .int a2]) ++ List.replicate (4 - (lg_sl ([.ref (ad 0), .int a1, .int a2])).length) Slot.unset).toArray = ls at hl ⊢
  have hl : lv_has ls 4 [(0, .ref (ad 0)), (1, .int a1), (2, .int a2)] := hl
  generalize hloc : ([] : List Loc) = locs at hw ⊢
  have hinX11 : ∀ w ∈ u_ws RX11 TX11 13, w ∈ (wu yX11_ways cX11_ways 4 (some .int)) := fun _ h => List.mem_cons_of_mem _ (up_70 h)
  have J26 : ∀ (f26_39_8 : Int32) (H : Heap) (locs : List Loc) (ls : Array Slot) (w1 : va_W), (-1) ≤ f26_39_8.toInt → f26_39_8.toInt ≤ 10 → Wd dC dI A s.heap H locs w1 → TW ksC ad cy B qr s1 w1 → FE ksC [(10, 4, 4), (50, 0, 12), (51, 0, 10)] w0 w1 → gi w1 39 8 = f26_39_8 → lv_has ls 4 [(0, .ref (ad 0)), (1, .int a1), (2, .int a2)] → W p l e ({ frames := 17, cells := 0, slots := 0, locals := 378 }) s m (List.toArray [.ref (ad 0), .int a1, .int a2]) below meth c H locs 0 0 (MQ below (va_Qi (P_X11_ways_1 ad cy B qr s1 a1 a2 w0) (fun u : va_W => wpost dC dI cy A u) A) (List.toArray [.ref (ad 0), .int a1, .int a2]) s 0 0 A) (F0 m 26 ls []) := by
    intro f26_39_8 H locs ls w1 r2 t3 hw hT hF c4 hl
    refine lv_iconst (v := (-1)) hx hb dX11_ways_26 (by decide) ?_
    exact tk_iret hC hr hlocks hK ⟨hT, hF, (Or.inr (Or.inr rfl))⟩ hw dX11_ways_27
  refine lv_aload_n hx hb dX11_ways_0 rfl (lv_at hl 0 rfl) ?_
  refine tk_getA hC hK hw hT hinX11 kC_at0 (by decide) rfl 4 (by decide) (List.mem_cons_of_mem _ uw_1_7) rfl rfl dX11_ways_1 ?_
  refine tk_Vi hC hK hw hT hA hE hSR kC_at38 (by decide) rfl (k_X5_hasTown_1 l adK adV dC dI cy ad B hB0 (Int.le_trans hB1 (by decide)) qr s1    w0 s.heap.size hT ) (cwV 0 hC.2.2.2.2 uV_RX11_158 rfl rfl rfl (by decide +kernel) ⟨Nat.le_of_ble_eq_true rfl, Nat.le_of_ble_eq_true rfl⟩) rfl hl.1 rfl (Nat.le_of_ble_eq_true rfl) dX11_ways_4 (fun r5 w7 H locs hp6 hw => ?_)
  obtain ⟨hT, k8, hg13⟩ := hp6
  have hF := hF.tr k8 (by decide)
  rcases hg13 with ⟨rfl, ⟨x9, c10, rx9, tx9⟩⟩ | ⟨rfl, ⟨x11, c12, rx11, tx11⟩⟩
  · refine lv_if_eq (tgt := 26) hx hb dX11_ways_7 (by decide) (fun _ => ?_) (fun c => absurd (by decide) c)
    exact J26 x9 H locs ls w7 (show (-1) ≤ x9.toInt by first | with_reducible assumption | omega) (show x9.toInt ≤ 10 by first | with_reducible assumption | omega)  hw hT hF c10 (lv_sub hl [0, 1, 2] rfl)
  · refine lv_if_eq (tgt := 26) hx hb dX11_ways_7 (by decide) (fun c => absurd c (by decide)) (fun _ => ?_)
    refine lv_iload_n hx hb dX11_ways_10 rfl (lv_at hl 1 rfl) ?_
    refine tk_Si hC hK hw hT hA hE hSR (k_X11_isWeekday_1 l adK adV dC dI cy ad B hB0 (Int.le_trans hB1 (by decide)) qr s1   a1 w7 H.size hT ) (va_cwS 1 hC.2.2.2.2 uS_RX11_155 rfl rfl rfl (by decide +kernel) ⟨Nat.le_of_ble_eq_true rfl, Nat.le_of_ble_eq_true rfl⟩) rfl hl.1 rfl (Nat.le_of_ble_eq_true rfl) dX11_ways_11 (fun r14 w16 H locs hp15 hw => ?_)
    obtain ⟨hT, k17, hg20⟩ := hp15
    have hF := hF.tr k17 (by decide)
    have c21 := k17.gi kC_at39 (by decide) c12
    rcases hg20 with rfl | ⟨rfl, g18, g19⟩
    · refine lv_if_eq (tgt := 26) hx hb dX11_ways_14 (by decide) (fun _ => ?_) (fun c => absurd (by decide) c)
      exact J26 x11 H locs ls w16 (show (-1) ≤ x11.toInt by first | with_reducible assumption | omega) (show x11.toInt ≤ 10 by first | with_reducible assumption | omega)  hw hT hF c21 (lv_sub hl [0, 1, 2] rfl)
    · refine lv_if_eq (tgt := 26) hx hb dX11_ways_14 (by decide) (fun c => absurd c (by decide)) (fun _ => ?_)
      refine lv_iload_n hx hb dX11_ways_17 rfl (lv_at hl 2 rfl) ?_
      refine lv_if_lt (tgt := 26) hx hb dX11_ways_18 (by decide) (fun c22 => ?_) (fun c22 => ?_)
      · have c22 : a2.toInt < (0 : Int) := wk_lt.mp c22
        exact J26 x11 H locs ls w16 (show (-1) ≤ x11.toInt by first | with_reducible assumption | omega) (show x11.toInt ≤ 10 by first | with_reducible assumption | omega)  hw hT hF c21 (lv_sub hl [0, 1, 2] rfl)
      · have c22 : (0 : Int) ≤ a2.toInt := wk_ltF c22
        refine lv_iload_n hx hb dX11_ways_21 rfl (lv_at hl 2 rfl) ?_
        refine lv_iconst (v := 1) hx hb dX11_ways_22 (by decide) ?_
        refine lv_icmp_le (tgt := 28) hx hb dX11_ways_23 (by decide) (fun c23 => ?_) (fun c23 => ?_)
        · have c23 : a2.toInt ≤ (1 : Int) := wk_le.mp c23
          refine lv_aload_n hx hb dX11_ways_28 rfl (lv_at hl 0 rfl) ?_
          refine tk_getA hC hK hw hT hinX11 kC_at0 (by decide) rfl 11 (by decide) (List.mem_cons_of_mem _ uw_2_6) rfl rfl dX11_ways_29 ?_
          refine lv_iload_n hx hb dX11_ways_32 rfl (lv_at hl 1 rfl) ?_
          refine tk_Vv hC hK hw hT hA hE hSR kC_at158 (by decide) rfl (k_X10_takeDay_1 l adK adV dC dI cy ad B hB0 (Int.le_trans hB1 (by decide)) qr s1   a1 (show 0 ≤ a1.toInt by first | with_reducible assumption | omega) (show a1.toInt ≤ 6 by first | with_reducible assumption | omega) w16 H.size hT ) (cwV 1 hC.2.2.2.2 uV_RX11_257 rfl rfl rfl (by decide +kernel) ⟨Nat.le_of_ble_eq_true rfl, Nat.le_of_ble_eq_true rfl⟩) rfl hl.1 rfl (Nat.le_of_ble_eq_true rfl) dX11_ways_33 (fun w26 H locs hp25 hw => ?_)
          obtain ⟨hT, k27, hg28⟩ := hp25
          have hF := hF.tr k27 (by decide)
          have c29 := k27.gi kC_at39 (by decide) c21
          clear hg28
          refine lv_aload_n hx hb dX11_ways_36 rfl (lv_at hl 0 rfl) ?_
          refine tk_getA hC hK hw hT hinX11 kC_at0 (by decide) rfl 11 (by decide) (List.mem_cons_of_mem _ uw_2_6) rfl rfl dX11_ways_37 ?_
          refine tk_Vi hC hK hw hT hA hE hSR kC_at158 (by decide) rfl (k_X10_findClash_1 l adK adV dC dI cy ad B hB0 (Int.le_trans hB1 (by decide)) qr s1    w26 H.size hT ) (cwV 0 hC.2.2.2.2 uV_RX11_260 rfl rfl rfl (by decide +kernel) ⟨Nat.le_of_ble_eq_true rfl, Nat.le_of_ble_eq_true rfl⟩) rfl hl.1 rfl (Nat.le_of_ble_eq_true rfl) dX11_ways_40 (fun r30 w32 H locs hp31 hw => ?_)
          obtain ⟨hT, k33, hg36⟩ := hp31
          have hF := hF.tr k33 (by decide)
          have c37 := k33.gi kC_at39 (by decide) c29
          obtain ⟨g34, g35⟩ := hg36
          refine lv_istore_n (lv' := [(3, .int r30), (0, .ref (ad 0)), (1, .int a1), (2, .int a2)]) hx hb dX11_ways_43 rfl hl (by decide) rfl (fun ls hl => ?_)
          refine lv_iload_n hx hb dX11_ways_44 rfl (lv_at hl 3 rfl) ?_
          refine lv_iconst (v := 1) hx hb dX11_ways_45 (by decide) ?_
          refine lv_icmp_ne (tgt := 51) hx hb dX11_ways_46 (by decide) (fun c38 => ?_) (fun c38 => ?_)
          · have c38 : ¬ a2.toInt = (1 : Int) := wk_eqF c38
            refine lv_iload_n hx hb dX11_ways_51 rfl (lv_at hl 0 rfl) ?_
            refine lv_if_eq (tgt := 60) hx hb dX11_ways_52 (by decide) (fun c39 => ?_) (fun c39 => ?_)
            · have c39 : r30.toInt = (0 : Int) := wk_eq.mp c39
              refine lv_aload_n hx hb dX11_ways_60 rfl (lv_at hl 1 rfl) ?_
              refine tk_getA hC hK hw hT hinX11 kC_at0 (by decide) rfl 11 (by decide) (List.mem_cons_of_mem _ uw_2_6) rfl rfl dX11_ways_61 ?_
              refine tk_Vi hC hK hw hT hA hE hSR kC_at158 (by decide) rfl (k_X10_findLeast_1 l adK adV dC dI cy ad B hB0 (Int.le_trans hB1 (by decide)) qr s1    w32 H.size hT ) (cwV 0 hC.2.2.2.2 uV_RX11_264 rfl rfl rfl (by decide +kernel) ⟨Nat.le_of_ble_eq_true rfl, Nat.le_of_ble_eq_true rfl⟩) rfl hl.1 rfl (Nat.le_of_ble_eq_true rfl) dX11_ways_64 (fun r40 w42 H locs hp41 hw => ?_)
              obtain ⟨hT, k43, hg48⟩ := hp41
              have hF := hF.tr k43 (by decide)
              have c49 := k43.gi kC_at39 (by decide) c37
              rcases hg48 with ⟨g44, g45⟩ | ⟨rfl, ⟨x46, c47, rx46, tx46⟩⟩
              · exact tk_iret hC hr hlocks hK ⟨hT, hF, (Or.inr (Or.inl ⟨(show 0 ≤ r40.toInt by first | with_reducible assumption | omega), (show r40.toInt ≤ 8191 by first | with_reducible assumption | omega), (show 0 ≤ a1.toInt by first | with_reducible assumption | omega), (show a1.toInt ≤ 6 by first | with_reducible assumption | omega), (show 0 ≤ a2.toInt from c22), (show a2.toInt ≤ 1 from c23), ⟨x11, c49, (show 1 ≤ x11.toInt by first | with_reducible assumption | omega), (show x11.toInt ≤ 10 by first | with_reducible assumption | omega)⟩⟩))⟩ hw dX11_ways_67
              · exact tk_iret hC hr hlocks hK ⟨hT, hF, (Or.inr (Or.inr rfl))⟩ hw dX11_ways_67
            · have c39 : ¬ r30.toInt = (0 : Int) := wk_eqF c39
              refine lv_bipush (v := (-2)) hx hb dX11_ways_55 (by decide) ?_
              refine lv_goto (tgt := 67) hx hb dX11_ways_57 (by decide) ?_
              exact tk_iret hC hr hlocks hK ⟨hT, hF, (Or.inl ⟨rfl, (show 0 ≤ a1.toInt by first | with_reducible assumption | omega), (show a1.toInt ≤ 6 by first | with_reducible assumption | omega), (show 0 ≤ a2.toInt from c22), (show a2.toInt ≤ 0 by first | with_reducible assumption | omega), ⟨x11, c37, (show 1 ≤ x11.toInt by first | with_reducible assumption | omega), (show x11.toInt ≤ 10 by first | with_reducible assumption | omega)⟩⟩)⟩ hw dX11_ways_67
          · have c38 : a2.toInt = (1 : Int) := wk_eq.mp c38
            refine lv_iload_n hx hb dX11_ways_49 rfl (lv_at hl 0 rfl) ?_
            exact tk_iret hC hr hlocks hK ⟨hT, hF, (Or.inr (Or.inl ⟨(show 0 ≤ r30.toInt by first | with_reducible assumption | omega), (show r30.toInt ≤ 8191 by first | with_reducible assumption | omega), (show 0 ≤ a1.toInt by first | with_reducible assumption | omega), (show a1.toInt ≤ 6 by first | with_reducible assumption | omega), (show 0 ≤ a2.toInt from c22), (show a2.toInt ≤ 1 from c23), ⟨x11, c37, (show 1 ≤ x11.toInt by first | with_reducible assumption | omega), (show x11.toInt ≤ 10 by first | with_reducible assumption | omega)⟩⟩))⟩ hw dX11_ways_50
        · have c23 : (1 : Int) < a2.toInt := wk_leF c23
          exact J26 x11 H locs ls w16 (show (-1) ≤ x11.toInt by first | with_reducible assumption | omega) (show x11.toInt ≤ 10 by first | with_reducible assumption | omega)  hw hT hF c21 (lv_sub hl [0, 1, 2] rfl)
abbrev P_X5_fitsSights_1 (ad : Nat → Nat) (cy : Nat → ClassId) (B : Int) (qr : Nat) (s1 : Int) (a1 : Int32) (w0 : va_W) : Int32 → va_W → Prop := fun r u => TW ksC ad cy B qr s1 u ∧ FE ksC ([] : List (Nat × Nat × Nat)) w0 u ∧ ((r = 0 ∧ (∃ y : Int32, gi u 38 11 = y ∧ 1 ≤ y.toInt ∧ y.toInt ≤ 12)) ∨ (r = 1))
set_option maxHeartbeats 4000000 in
set_option maxRecDepth 100000 in
theorem k_X5_fitsSights_1 (l : Launch) (adK adV : Nat → Nat) (dC : Nat → ClassId) (dI : Nat → Nat → Nat) (cy : Nat → ClassId) (ad : Nat → Nat) (B : Int) (hB0 : 2147483648 ≤ B) (hB1 : B ≤ 1152921504606846976) (qr : Nat) (s1 : Int)  (a1 : Int32) (ra1 : 0 ≤ a1.toInt) (ta1 : a1.toInt ≤ 6) (w0 : va_W) (sz : Nat) (hT : TW ksC ad cy B qr s1 w0)  : Met l yX5_fitsSights (wu yX5_fitsSights cX5_fitsSights 3 (some .boolean)) ({ frames := 2, cells := 0, slots := 0, locals := 34 }) (va_Pc [.ref (ad 38), .int a1] (wpreS adK adV dC dI cy sz w0)) (va_Qi (P_X5_fitsSights_1 ad cy B qr s1 a1 w0) (fun u : va_W => wpost dC dI cy (va_A w0 sz) u) (va_A w0 sz)) 0 0 (va_A w0 sz) := by
  refine Met.ofW (cc := cX5_fitsSights) (maxL := 3) (ret := (some .boolean)) (by decide) rfl ?_
  intro p e s m args below meth c s₁ Bk hml hv
  obtain ⟨rfl, ⟨hsz, hP, hK, hD0⟩, hE, hSR⟩ := hv
  have hx := Bk.exec
  have hb := Bk.bytes
  have hr := Bk.returns
  have hlocks := Bk.notSynchronized
  have hC : CallFix p m c cX5_fitsSights 3 s _ (wu yX5_fitsSights cX5_fitsSights 3 (some .boolean)) RX5 := ⟨hx, hb, hml, findClass_of_methodNamed Bk.named, atoms_spec (ws := (wu yX5_fitsSights cX5_fitsSights 3 (some .boolean))) Bk.pre⟩
  subst hsz
  have hD := hD0.self (sz := s.heap.size)
  generalize hAe : va_A w0 s.heap.size = A at hD hE ⊢
  have hA : ∀ q : Nat, s.heap.size ≤ q → A q := fun q h => by rw [← hAe]; exact Or.inr h
  have hw : Wd dC dI A s.heap s.heap [] w0 := ⟨hP, hD, va_S.rf⟩
  have hF : FE ksC ([] : List (Nat × Nat × Nat)) w0 w0 := FE.rf
  have hl := lv_entry ([.ref (ad 38), .int a1]) (n := 3) (Nat.le_of_ble_eq_true rfl)
  rw [lg_entry_eq]
  generalize (lg_sl ([.ref (ad 38), .int a1]) ++ List.replicate (3 - (lg_sl ([.ref (ad 38), .int a1])).length) Slot.unset).toArray = ls at hl ⊢
  have hl : lv_has ls 3 [(0, .ref (ad 38)), (1, .int a1)] := hl
  generalize hloc : ([] : List Loc) = locs at hw ⊢
  have hinX5 : ∀ w ∈ u_ws RX5 TX5 14, w ∈ (wu yX5_fitsSights cX5_fitsSights 3 (some .boolean)) := fun _ h => List.mem_cons_of_mem _ (up_76 h)
  have L2 : ∀ (n2 : Nat) (v2_2 : Int32) (H : Heap) (locs : List Loc) (ls : Array Slot) (w1 : va_W), 0 ≤ a1.toInt → a1.toInt ≤ 6 → 0 ≤ v2_2.toInt → v2_2.toInt ≤ 12 → (12 - v2_2.toInt).toNat < n2 → Wd dC dI A s.heap H locs w1 → TW ksC ad cy B qr s1 w1 → FE ksC ([] : List (Nat × Nat × Nat)) w0 w1 → lv_has ls 3 [(0, .ref (ad 38)), (1, .int a1), (2, .int v2_2)] → W p l e ({ frames := 2, cells := 0, slots := 0, locals := 34 }) s m (List.toArray [.ref (ad 38), .int a1]) below meth c H locs 0 0 (MQ below (va_Qi (P_X5_fitsSights_1 ad cy B qr s1 a1 w0) (fun u : va_W => wpost dC dI cy A u) A) (List.toArray [.ref (ad 38), .int a1]) s 0 0 A) (F0 m 2 ls []) := by
    intro n2
    induction n2 with
    | zero => intro v2_2 H locs ls w1 r2 t3 r4 t5 hm2 hw hT hF hl; omega
    | succ n2 ih2 =>
      intro v2_2 H locs ls w1 r2 t3 r4 t5 hm2 hw hT hF hl
      refine lv_iload_n hx hb dX5_fitsSights_2 rfl (lv_at hl 2 rfl) ?_
      refine lv_aload_n hx hb dX5_fitsSights_3 rfl (lv_at hl 0 rfl) ?_
      refine tk_geti hC hK hw hT hinX5 kC_at38 (by decide) rfl 11 (by decide) (List.mem_cons_of_mem _ uw_18_13) rfl rfl dX5_fitsSights_4 (fun x6 c7 rx6 tx6 => ?_)
      refine lv_icmp_ge (tgt := 41) hx hb dX5_fitsSights_7 (by decide) (fun c8 => ?_) (fun c8 => ?_)
      · have c8 : x6.toInt ≤ v2_2.toInt := wk_le.mp c8
        refine lv_iconst (v := 1) hx hb dX5_fitsSights_41 (by decide) ?_
        exact tk_zret hC hr rfl hlocks hK ⟨hT, hF, (Or.inr rfl)⟩ hw dX5_fitsSights_42
      · have c8 : v2_2.toInt < x6.toInt := wk_leF c8
        refine lv_aload_n hx hb dX5_fitsSights_10 rfl (lv_at hl 0 rfl) ?_
        refine tk_getO hC hK hw hT hinX5 kC_at38 (by decide) rfl 0 (by decide) (List.mem_cons_of_mem _ uw_3_18) rfl rfl dX5_fitsSights_11 ?_
        refine lv_aload_n hx hb dX5_fitsSights_14 rfl (lv_at hl 0 rfl) ?_
        refine tk_getO hC hK hw hT hinX5 kC_at38 (by decide) rfl 5 (by decide) (List.mem_cons_of_mem _ uw_4_0) rfl rfl dX5_fitsSights_15 ?_
        refine lv_iload_n hx hb dX5_fitsSights_18 rfl (lv_at hl 2 rfl) ?_
        refine tk_iald hC hK hw hT kC_at52 rfl rfl (show 0 ≤ v2_2.toInt from r4) (show v2_2.toInt < 12 by first | with_reducible assumption | omega) dX5_fitsSights_19 (fun x9 c10 rx9 tx9 => ?_)
        refine lv_iload_n hx hb dX5_fitsSights_20 rfl (lv_at hl 1 rfl) ?_
        refine tk_Vi hC hK hw hT hA hE hSR kC_at39 (by decide) rfl (k_X7_signOn_1 l adK adV dC dI cy ad B hB0 (Int.le_trans hB1 (by decide)) qr s1   x9 (show 0 ≤ x9.toInt from rx9) (show x9.toInt ≤ 11 from tx9) a1 (show 0 ≤ a1.toInt from r2) (show a1.toInt ≤ 6 from t3) w1 H.size hT ) (cwV 2 hC.2.2.2.2 uV_RX5_86 rfl rfl rfl (by decide +kernel) ⟨Nat.le_of_ble_eq_true rfl, Nat.le_of_ble_eq_true rfl⟩) rfl hl.1 rfl (Nat.le_of_ble_eq_true rfl) dX5_fitsSights_21 (fun r11 w13 H locs hp12 hw => ?_)
        obtain ⟨hT, k14, hg17⟩ := hp12
        have hF := hF.tr k14 (by decide)
        have c18 := k14.gi kC_at38 (by decide) c7
        obtain ⟨g15, g16⟩ := hg17
        refine lv_aload_n hx hb dX5_fitsSights_24 rfl (lv_at hl 0 rfl) ?_
        refine tk_getO hC hK hw hT hinX5 kC_at38 (by decide) rfl 6 (by decide) (List.mem_cons_of_mem _ uw_4_1) rfl rfl dX5_fitsSights_25 ?_
        refine lv_iload_n hx hb dX5_fitsSights_28 rfl (lv_at hl 2 rfl) ?_
        refine tk_iald hC hK hw hT kC_at53 rfl rfl (show 0 ≤ v2_2.toInt from r4) (show v2_2.toInt < 12 by first | with_reducible assumption | omega) dX5_fitsSights_29 (fun x19 c20 rx19 tx19 => ?_)
        refine lv_icmp_eq (tgt := 35) hx hb dX5_fitsSights_30 (by decide) (fun c21 => ?_) (fun c21 => ?_)
        · have c21 : r11.toInt = x19.toInt := wk_eq.mp c21
          obtain ⟨x22, ex22⟩ : ∃ y : Int32, y = v2_2 + Int32.ofInt 1 := ⟨_, rfl⟩
          refine lv_iinc (v := x22) (lv' := [(2, .int x22), (0, .ref (ad 38)), (1, .int a1)]) hx hb dX5_fitsSights_35 hl (k := 2) rfl ex22.symm (by decide) rfl (fun ls hl => ?_)
          have ex22 : x22.toInt = v2_2.toInt + 1 := by rw [ex22]; exact wk_add (y := 1) (show -2147483648 ≤ v2_2.toInt + 1 by omega) (show v2_2.toInt + 1 ≤ 2147483647 by omega)
          refine lv_goto (tgt := 2) hx hb dX5_fitsSights_38 (by decide) ?_
          exact ih2 x22 H locs ls w13 (show 0 ≤ a1.toInt from r2) (show a1.toInt ≤ 6 from t3) (show 0 ≤ x22.toInt by first | with_reducible assumption | omega) (show x22.toInt ≤ 12 by first | with_reducible assumption | omega) (show (12 - x22.toInt).toNat < n2 by first | exact tn_lt hm2 (by omega) (by omega) | omega) hw hT hF  (lv_sub hl [1, 2, 0] rfl)
        · have c21 : ¬ r11.toInt = x19.toInt := wk_eqF c21
          refine lv_iconst (v := 0) hx hb dX5_fitsSights_33 (by decide) ?_
          exact tk_zret hC hr rfl hlocks hK ⟨hT, hF, (Or.inl ⟨rfl, ⟨x6, c18, (show 1 ≤ x6.toInt by first | with_reducible assumption | omega), (show x6.toInt ≤ 12 from tx6)⟩⟩)⟩ hw dX5_fitsSights_34
  refine lv_iconst (v := 0) hx hb dX5_fitsSights_0 (by decide) ?_
  refine lv_istore_n (lv' := [(2, .int 0), (0, .ref (ad 38)), (1, .int a1)]) hx hb dX5_fitsSights_1 rfl hl (by decide) rfl (fun ls hl => ?_)
  exact L2 ((12 - (0 : Int)).toNat + 1) 0 s.heap locs ls w0 (show 0 ≤ a1.toInt from ra1) (show a1.toInt ≤ 6 from ta1) (by decide) (by decide) (Nat.lt_succ_self _) hw hT hF  (lv_sub hl [1, 2, 0] rfl)
abbrev P_X5_fittingDays_1 (ad : Nat → Nat) (cy : Nat → ClassId) (B : Int) (qr : Nat) (s1 : Int)  (w0 : va_W) : Int32 → va_W → Prop := fun r u => TW ksC ad cy B qr s1 u ∧ FE ksC ([] : List (Nat × Nat × Nat)) w0 u ∧ ((0 ≤ r.toInt ∧ r.toInt ≤ 127))
set_option maxHeartbeats 4000000 in
set_option maxRecDepth 100000 in
theorem k_X5_fittingDays_1 (l : Launch) (adK adV : Nat → Nat) (dC : Nat → ClassId) (dI : Nat → Nat → Nat) (cy : Nat → ClassId) (ad : Nat → Nat) (B : Int) (hB0 : 2147483648 ≤ B) (hB1 : B ≤ 1152921504606846976) (qr : Nat) (s1 : Int)   (w0 : va_W) (sz : Nat) (hT : TW ksC ad cy B qr s1 w0)  : Met l yX5_fittingDays (wu yX5_fittingDays cX5_fittingDays 3 (some .int)) ({ frames := 3, cells := 0, slots := 0, locals := 56 }) (va_Pc [.ref (ad 38)] (wpreS adK adV dC dI cy sz w0)) (va_Qi (P_X5_fittingDays_1 ad cy B qr s1  w0) (fun u : va_W => wpost dC dI cy (va_A w0 sz) u) (va_A w0 sz)) 0 0 (va_A w0 sz) := by
  refine Met.ofW (cc := cX5_fittingDays) (maxL := 3) (ret := (some .int)) (by decide) rfl ?_
  intro p e s m args below meth c s₁ Bk hml hv
  obtain ⟨rfl, ⟨hsz, hP, hK, hD0⟩, hE, hSR⟩ := hv
  have hx := Bk.exec
  have hb := Bk.bytes
  have hr := Bk.returns
  have hlocks := Bk.notSynchronized
  have hC : CallFix p m c cX5_fittingDays 3 s _ (wu yX5_fittingDays cX5_fittingDays 3 (some .int)) RX5 := ⟨hx, hb, hml, findClass_of_methodNamed Bk.named, atoms_spec (ws := (wu yX5_fittingDays cX5_fittingDays 3 (some .int))) Bk.pre⟩
  subst hsz
  have hD := hD0.self (sz := s.heap.size)
  generalize hAe : va_A w0 s.heap.size = A at hD hE ⊢
  have hA : ∀ q : Nat, s.heap.size ≤ q → A q := fun q h => by rw [← hAe]; exact Or.inr h
  have hw : Wd dC dI A s.heap s.heap [] w0 := ⟨hP, hD, va_S.rf⟩
  have hF : FE ksC ([] : List (Nat × Nat × Nat)) w0 w0 := FE.rf
  have hl := lv_entry ([.ref (ad 38)]) (n := 3) (Nat.le_of_ble_eq_true rfl)
  rw [lg_entry_eq]
  generalize (lg_sl ([.ref (ad 38)]) ++ List.replicate (3 - (lg_sl ([.ref (ad 38)])).length) Slot.unset).toArray = ls at hl ⊢
  have hl : lv_has ls 3 [(0, .ref (ad 38))] := hl
  generalize hloc : ([] : List Loc) = locs at hw ⊢
  have L4 : ∀ (n4 : Nat) (v4_1 : Int32) (v4_2 : Int32) (H : Heap) (locs : List Loc) (ls : Array Slot) (w1 : va_W), 0 ≤ v4_1.toInt → v4_1.toInt ≤ 127 → 0 ≤ v4_2.toInt → v4_2.toInt ≤ 7 → (7 - v4_2.toInt).toNat < n4 → Wd dC dI A s.heap H locs w1 → TW ksC ad cy B qr s1 w1 → FE ksC ([] : List (Nat × Nat × Nat)) w0 w1 → lv_has ls 3 [(0, .ref (ad 38)), (1, .int v4_1), (2, .int v4_2)] → W p l e ({ frames := 3, cells := 0, slots := 0, locals := 56 }) s m (List.toArray [.ref (ad 38)]) below meth c H locs 0 0 (MQ below (va_Qi (P_X5_fittingDays_1 ad cy B qr s1  w0) (fun u : va_W => wpost dC dI cy A u) A) (List.toArray [.ref (ad 38)]) s 0 0 A) (F0 m 4 ls []) := by
    intro n4
    induction n4 with
    | zero => intro v4_1 v4_2 H locs ls w1 r2 t3 r4 t5 hm4 hw hT hF hl; omega
    | succ n4 ih4 =>
      intro v4_1 v4_2 H locs ls w1 r2 t3 r4 t5 hm4 hw hT hF hl
      have J24 : ∀ (v24_1 : Int32) (H : Heap) (locs : List Loc) (ls : Array Slot) (w6 : va_W), 0 ≤ v24_1.toInt → v24_1.toInt ≤ 127 → 0 ≤ v4_2.toInt → v4_2.toInt ≤ 6 → Wd dC dI A s.heap H locs w6 → TW ksC ad cy B qr s1 w6 → FE ksC ([] : List (Nat × Nat × Nat)) w0 w6 → lv_has ls 3 [(0, .ref (ad 38)), (1, .int v24_1), (2, .int v4_2)] → W p l e ({ frames := 3, cells := 0, slots := 0, locals := 56 }) s m (List.toArray [.ref (ad 38)]) below meth c H locs 0 0 (MQ below (va_Qi (P_X5_fittingDays_1 ad cy B qr s1  w0) (fun u : va_W => wpost dC dI cy A u) A) (List.toArray [.ref (ad 38)]) s 0 0 A) (F0 m 24 ls []) := by
        intro v24_1 H locs ls w6 r7 t8 r9 t10 hw hT hF hl
        obtain ⟨x11, ex11⟩ : ∃ y : Int32, y = v4_2 + Int32.ofInt 1 := ⟨_, rfl⟩
        refine lv_iinc (v := x11) (lv' := [(2, .int x11), (0, .ref (ad 38)), (1, .int v24_1)]) hx hb dX5_fittingDays_24 hl (k := 2) rfl ex11.symm (by decide) rfl (fun ls hl => ?_)
        have ex11 : x11.toInt = v4_2.toInt + 1 := by rw [ex11]; exact wk_add (y := 1) (show -2147483648 ≤ v4_2.toInt + 1 by omega) (show v4_2.toInt + 1 ≤ 2147483647 by omega)
        refine lv_goto (tgt := 4) hx hb dX5_fittingDays_27 (by decide) ?_
        exact ih4 v24_1 x11 H locs ls w6 (show 0 ≤ v24_1.toInt from r7) (show v24_1.toInt ≤ 127 from t8) (show 0 ≤ x11.toInt by first | with_reducible assumption | omega) (show x11.toInt ≤ 7 by first | with_reducible assumption | omega) (show (7 - x11.toInt).toNat < n4 by first | exact tn_lt hm4 (by omega) (by omega) | omega) hw hT hF  (lv_sub hl [1, 2, 0] rfl)
      refine lv_iload_n hx hb dX5_fittingDays_4 rfl (lv_at hl 2 rfl) ?_
      refine lv_bipush (v := 7) hx hb dX5_fittingDays_5 (by decide) ?_
      refine lv_icmp_ge (tgt := 30) hx hb dX5_fittingDays_7 (by decide) (fun c12 => ?_) (fun c12 => ?_)
      · have c12 : (7 : Int) ≤ v4_2.toInt := wk_le.mp c12
        refine lv_iload_n hx hb dX5_fittingDays_30 rfl (lv_at hl 1 rfl) ?_
        exact tk_iret hC hr hlocks hK ⟨hT, hF, ⟨(show 0 ≤ v4_1.toInt from r2), (show v4_1.toInt ≤ 127 from t3)⟩⟩ hw dX5_fittingDays_31
      · have c12 : v4_2.toInt < (7 : Int) := wk_leF c12
        refine lv_aload_n hx hb dX5_fittingDays_10 rfl (lv_at hl 0 rfl) ?_
        refine lv_iload_n hx hb dX5_fittingDays_11 rfl (lv_at hl 2 rfl) ?_
        refine tk_Vi hC hK hw hT hA hE hSR kC_at38 (by decide) rfl (k_X5_fitsSights_1 l adK adV dC dI cy ad B hB0 (Int.le_trans hB1 (by decide)) qr s1   v4_2 (show 0 ≤ v4_2.toInt from r4) (show v4_2.toInt ≤ 6 by first | with_reducible assumption | omega) w1 H.size hT ) (cwV 1 hC.2.2.2.2 uV_RX5_82 rfl rfl rfl (by decide +kernel) ⟨Nat.le_of_ble_eq_true rfl, Nat.le_of_ble_eq_true rfl⟩) rfl hl.1 rfl (Nat.le_of_ble_eq_true rfl) dX5_fittingDays_12 (fun r13 w15 H locs hp14 hw => ?_)
        obtain ⟨hT, k16, hg19⟩ := hp14
        have hF := hF.tr k16 (by decide)
        rcases hg19 with ⟨rfl, ⟨x17, c18, rx17, tx17⟩⟩ | rfl
        · refine lv_if_eq (tgt := 24) hx hb dX5_fittingDays_15 (by decide) (fun _ => ?_) (fun c => absurd (by decide) c)
          exact J24 v4_1 H locs ls w15 (show 0 ≤ v4_1.toInt from r2) (show v4_1.toInt ≤ 127 from t3) (show 0 ≤ v4_2.toInt from r4) (show v4_2.toInt ≤ 6 by first | with_reducible assumption | omega)  hw hT hF  (lv_sub hl [0, 1, 2] rfl)
        · refine lv_if_eq (tgt := 24) hx hb dX5_fittingDays_15 (by decide) (fun c => absurd c (by decide)) (fun _ => ?_)
          refine lv_iload_n hx hb dX5_fittingDays_18 rfl (lv_at hl 1 rfl) ?_
          refine lv_iconst (v := 1) hx hb dX5_fittingDays_19 (by decide) ?_
          refine lv_iload_n hx hb dX5_fittingDays_20 rfl (lv_at hl 2 rfl) ?_
          refine lv_ishl hx hb dX5_fittingDays_21 ?_
          refine lv_topi (fun x20 ex20 => ?_)
          have bx20 : 1 ≤ x20.toInt ∧ x20.toInt ≤ 64 := by rw [ex20]; exact wk_shl1 6 (by decide) (by omega) (by omega)
          refine lv_ior hx hb dX5_fittingDays_22 ?_
          refine lv_topi (fun x21 ex21 => ?_)
          have bx21 : 0 ≤ x21.toInt ∧ x21.toInt < 128 := by rw [ex21]; exact wk_or 7 (by decide) (by omega) (by omega) (by omega) (by omega)
          have mx21 : v4_1.toInt ≤ x21.toInt ∧ x20.toInt ≤ x21.toInt := by rw [ex21]; exact wk_orL 7 (by decide) (by omega) (by omega) (by omega) (by omega)
          refine lv_istore_n (lv' := [(1, .int x21), (0, .ref (ad 38)), (2, .int v4_2)]) hx hb dX5_fittingDays_23 rfl hl (by decide) rfl (fun ls hl => ?_)
          exact J24 x21 H locs ls w15 (show 0 ≤ x21.toInt by first | with_reducible assumption | omega) (show x21.toInt ≤ 127 by first | with_reducible assumption | omega) (show 0 ≤ v4_2.toInt from r4) (show v4_2.toInt ≤ 6 by first | with_reducible assumption | omega)  hw hT hF  (lv_sub hl [1, 0, 2] rfl)
  refine lv_iconst (v := 0) hx hb dX5_fittingDays_0 (by decide) ?_
  refine lv_istore_n (lv' := [(1, .int 0), (0, .ref (ad 38))]) hx hb dX5_fittingDays_1 rfl hl (by decide) rfl (fun ls hl => ?_)
  refine lv_iconst (v := 0) hx hb dX5_fittingDays_2 (by decide) ?_
  refine lv_istore_n (lv' := [(2, .int 0), (1, .int 0), (0, .ref (ad 38))]) hx hb dX5_fittingDays_3 rfl hl (by decide) rfl (fun ls hl => ?_)
  exact L4 ((7 - (0 : Int)).toNat + 1) 0 0 s.heap locs ls w0 (by decide) (by decide) (by decide) (by decide) (Nat.lt_succ_self _) hw hT hF  (lv_sub hl [2, 1, 0] rfl)
abbrev P_X5_mostAlike_1 (ad : Nat → Nat) (cy : Nat → ClassId) (B : Int) (qr : Nat) (s1 : Int) (a1 : Int32) (a2 : Int32) (w0 : va_W) : Int32 → va_W → Prop := fun r u => TW ksC ad cy B qr s1 u ∧ FE ksC ([] : List (Nat × Nat × Nat)) w0 u ∧ ((0 ≤ r.toInt))
set_option maxHeartbeats 4000000 in
set_option maxRecDepth 100000 in
theorem k_X5_mostAlike_1 (l : Launch) (adK adV : Nat → Nat) (dC : Nat → ClassId) (dI : Nat → Nat → Nat) (cy : Nat → ClassId) (ad : Nat → Nat) (B : Int) (hB0 : 2147483648 ≤ B) (hB1 : B ≤ 1152921504606846976) (qr : Nat) (s1 : Int)  (a1 : Int32) (ra1 : 0 ≤ a1.toInt) (ta1 : a1.toInt ≤ 11) (a2 : Int32) (ra2 : 1 ≤ a2.toInt) (ta2 : a2.toInt ≤ 127) (w0 : va_W) (sz : Nat) (hT : TW ksC ad cy B qr s1 w0)  : Met l yX5_mostAlike (wu yX5_mostAlike cX5_mostAlike 7 (some .int)) ({ frames := 2, cells := 0, slots := 0, locals := 34 }) (va_Pc [.ref (ad 38), .int a1, .int a2] (wpreS adK adV dC dI cy sz w0)) (va_Qi (P_X5_mostAlike_1 ad cy B qr s1 a1 a2 w0) (fun u : va_W => wpost dC dI cy (va_A w0 sz) u) (va_A w0 sz)) 0 0 (va_A w0 sz) := by
  refine Met.ofW (cc := cX5_mostAlike) (maxL := 7) (ret := (some .int)) (by decide) rfl ?_
  intro p e s m args below meth c s₁ Bk hml hv
  obtain ⟨rfl, ⟨hsz, hP, hK, hD0⟩, hE, hSR⟩ := hv
  have hx := Bk.exec
  have hb := Bk.bytes
  have hr := Bk.returns
  have hlocks := Bk.notSynchronized
  have hC : CallFix p m c cX5_mostAlike 7 s _ (wu yX5_mostAlike cX5_mostAlike 7 (some .int)) RX5 := ⟨hx, hb, hml, findClass_of_methodNamed Bk.named, atoms_spec (ws := (wu yX5_mostAlike cX5_mostAlike 7 (some .int))) Bk.pre⟩
  subst hsz
  have hD := hD0.self (sz := s.heap.size)
  generalize hAe : va_A w0 s.heap.size = A at hD hE ⊢
  have hA : ∀ q : Nat, s.heap.size ≤ q → A q := fun q h => by rw [← hAe]; exact Or.inr h
  have hw : Wd dC dI A s.heap s.heap [] w0 := ⟨hP, hD, va_S.rf⟩
  have hF : FE ksC ([] : List (Nat × Nat × Nat)) w0 w0 := FE.rf
  have hl := lv_entry ([.ref (ad 38), .int a1, .int a2]) (n := 7) (Nat.le_of_ble_eq_true rfl)
  rw [lg_entry_eq]
  generalize (lg_sl ([.ref (ad 38), .int a1, .int a2]) ++ List.replicate (7 - (lg_sl ([.ref (ad 38), .int a1, .int a2])).length) Slot.unset).toArray = ls at hl ⊢
  have hl : lv_has ls 7 [(0, .ref (ad 38)), (1, .int a1), (2, .int a2)] := hl
  generalize hloc : ([] : List Loc) = locs at hw ⊢
  have hinX5 : ∀ w ∈ u_ws RX5 TX5 14, w ∈ (wu yX5_mostAlike cX5_mostAlike 7 (some .int)) := fun _ h => List.mem_cons_of_mem _ (up_76 h)
  have L5 : ∀ (n5 : Nat) (v5_3 : Int32) (v5_4 : Int32) (H : Heap) (locs : List Loc) (ls : Array Slot) (w1 : va_W), 0 ≤ a1.toInt → a1.toInt ≤ 11 → 1 ≤ a2.toInt → a2.toInt ≤ 127 → 0 ≤ v5_3.toInt → 0 ≤ v5_4.toInt → v5_4.toInt ≤ 4 → (4 - v5_4.toInt).toNat < n5 → Wd dC dI A s.heap H locs w1 → TW ksC ad cy B qr s1 w1 → FE ksC ([] : List (Nat × Nat × Nat)) w0 w1 → lv_has ls 7 [(0, .ref (ad 38)), (1, .int a1), (2, .int a2), (3, .int v5_3), (4, .int v5_4)] → W p l e ({ frames := 2, cells := 0, slots := 0, locals := 34 }) s m (List.toArray [.ref (ad 38), .int a1, .int a2]) below meth c H locs 0 0 (MQ below (va_Qi (P_X5_mostAlike_1 ad cy B qr s1 a1 a2 w0) (fun u : va_W => wpost dC dI cy A u) A) (List.toArray [.ref (ad 38), .int a1, .int a2]) s 0 0 A) (F0 m 5 ls []) := by
    intro n5
    induction n5 with
    | zero => intro v5_3 v5_4 H locs ls w1 r2 t3 r4 t5 r6 r7 t8 hm5 hw hT hF hl; omega
    | succ n5 ih5 =>
      intro v5_3 v5_4 H locs ls w1 r2 t3 r4 t5 r6 r7 t8 hm5 hw hT hF hl
      have L17 : ∀ (n17 : Nat) (v17_5 : Int32) (v17_6 : Int32) (H : Heap) (locs : List Loc) (ls : Array Slot) (w9 : va_W), 0 ≤ a1.toInt → a1.toInt ≤ 11 → 1 ≤ a2.toInt → a2.toInt ≤ 127 → 0 ≤ v5_3.toInt → 0 ≤ v5_4.toInt → v5_4.toInt ≤ 3 → 0 ≤ v17_6.toInt → v17_6.toInt ≤ 7 → (7 - v17_6.toInt).toNat < n17 → Wd dC dI A s.heap H locs w9 → TW ksC ad cy B qr s1 w9 → FE ksC ([] : List (Nat × Nat × Nat)) w0 w9 → lv_has ls 7 [(0, .ref (ad 38)), (1, .int a1), (2, .int a2), (3, .int v5_3), (4, .int v5_4), (5, .int v17_5), (6, .int v17_6)] → W p l e ({ frames := 2, cells := 0, slots := 0, locals := 34 }) s m (List.toArray [.ref (ad 38), .int a1, .int a2]) below meth c H locs 0 0 (MQ below (va_Qi (P_X5_mostAlike_1 ad cy B qr s1 a1 a2 w0) (fun u : va_W => wpost dC dI cy A u) A) (List.toArray [.ref (ad 38), .int a1, .int a2]) s 0 0 A) (F0 m 17 ls []) := by
        intro n17
        induction n17 with
        | zero => intro v17_5 v17_6 H locs ls w9 r10 t11 r12 t13 r14 r15 t16 r17 t18 hm17 hw hT hF hl; omega
        | succ n17 ih17 =>
          intro v17_5 v17_6 H locs ls w9 r10 t11 r12 t13 r14 r15 t16 r17 t18 hm17 hw hT hF hl
          have J51 : ∀ (v51_5 : Int32) (H : Heap) (locs : List Loc) (ls : Array Slot) (w19 : va_W), 0 ≤ a1.toInt → a1.toInt ≤ 11 → 1 ≤ a2.toInt → a2.toInt ≤ 127 → 0 ≤ v5_3.toInt → 0 ≤ v5_4.toInt → v5_4.toInt ≤ 3 → 0 ≤ v17_6.toInt → v17_6.toInt ≤ 6 → Wd dC dI A s.heap H locs w19 → TW ksC ad cy B qr s1 w19 → FE ksC ([] : List (Nat × Nat × Nat)) w0 w19 → lv_has ls 7 [(0, .ref (ad 38)), (1, .int a1), (2, .int a2), (3, .int v5_3), (4, .int v5_4), (5, .int v51_5), (6, .int v17_6)] → W p l e ({ frames := 2, cells := 0, slots := 0, locals := 34 }) s m (List.toArray [.ref (ad 38), .int a1, .int a2]) below meth c H locs 0 0 (MQ below (va_Qi (P_X5_mostAlike_1 ad cy B qr s1 a1 a2 w0) (fun u : va_W => wpost dC dI cy A u) A) (List.toArray [.ref (ad 38), .int a1, .int a2]) s 0 0 A) (F0 m 51 ls []) := by
            intro v51_5 H locs ls w19 r20 t21 r22 t23 r24 r25 t26 r27 t28 hw hT hF hl
            obtain ⟨x29, ex29⟩ : ∃ y : Int32, y = v17_6 + Int32.ofInt 1 := ⟨_, rfl⟩
            refine lv_iinc (v := x29) (lv' := [(6, .int x29), (0, .ref (ad 38)), (1, .int a1), (2, .int a2), (3, .int v5_3), (4, .int v5_4), (5, .int v51_5)]) hx hb dX5_mostAlike_51 hl (k := 6) rfl ex29.symm (by decide) rfl (fun ls hl => ?_)
            have ex29 : x29.toInt = v17_6.toInt + 1 := by rw [ex29]; exact wk_add (y := 1) (show -2147483648 ≤ v17_6.toInt + 1 by omega) (show v17_6.toInt + 1 ≤ 2147483647 by omega)
            refine lv_goto (tgt := 17) hx hb dX5_mostAlike_54 (by decide) ?_
            exact ih17 v51_5 x29 H locs ls w19 (show 0 ≤ a1.toInt from r20) (show a1.toInt ≤ 11 from t21) (show 1 ≤ a2.toInt from r22) (show a2.toInt ≤ 127 from t23) (show 0 ≤ v5_3.toInt from r24) (show 0 ≤ v5_4.toInt from r25) (show v5_4.toInt ≤ 3 from t26) (show 0 ≤ x29.toInt by first | with_reducible assumption | omega) (show x29.toInt ≤ 7 by first | with_reducible assumption | omega) (show (7 - x29.toInt).toNat < n17 by first | exact tn_lt hm17 (by omega) (by omega) | omega) hw hT hF  (lv_sub hl [1, 2, 3, 4, 5, 6, 0] rfl)
          refine lv_iload hx hb dX5_mostAlike_17 (lv_at hl 6 rfl) ?_
          refine lv_bipush (v := 7) hx hb dX5_mostAlike_19 (by decide) ?_
          refine lv_icmp_ge (tgt := 57) hx hb dX5_mostAlike_21 (by decide) (fun c30 => ?_) (fun c30 => ?_)
          · have c30 : (7 : Int) ≤ v17_6.toInt := wk_le.mp c30
            refine lv_iload_n hx hb dX5_mostAlike_57 rfl (lv_at hl 3 rfl) ?_
            refine lv_iload hx hb dX5_mostAlike_58 (lv_at hl 5 rfl) ?_
            refine va_mmax hx hb (hC.2.2.1.trans hl.1.symm) hC.2.2.2.1 (hC.2.2.2.2 _ (List.mem_cons_of_mem _ uw_63_19)) (hC.2.2.2.2 _ (List.mem_cons_of_mem _ uw_14_15)) (hC.2.2.2.2 _ (List.mem_cons_of_mem _ uw_14_16)) (hC.2.2.2.2 _ (List.mem_cons_of_mem _ uw_14_17)) (Nat.le_of_ble_eq_true rfl) (Nat.le_of_ble_eq_true rfl) (Nat.zero_le _) (Nat.zero_le _) dX5_mostAlike_60 ?_
            refine lv_topi (fun x31 ex31 => ?_)
            have bx31 : (x31.toInt = v5_3.toInt ∧ v17_5.toInt ≤ v5_3.toInt) ∨ (x31.toInt = v17_5.toInt ∧ v5_3.toInt < v17_5.toInt) := by rw [ex31]; exact wk_max
            refine lv_istore_n (lv' := [(3, .int x31), (0, .ref (ad 38)), (1, .int a1), (2, .int a2), (4, .int v5_4), (5, .int v17_5), (6, .int v17_6)]) hx hb dX5_mostAlike_63 rfl hl (by decide) rfl (fun ls hl => ?_)
            obtain ⟨x32, ex32⟩ : ∃ y : Int32, y = v5_4 + Int32.ofInt 1 := ⟨_, rfl⟩
            refine lv_iinc (v := x32) (lv' := [(4, .int x32), (3, .int x31), (0, .ref (ad 38)), (1, .int a1), (2, .int a2), (5, .int v17_5), (6, .int v17_6)]) hx hb dX5_mostAlike_64 hl (k := 4) rfl ex32.symm (by decide) rfl (fun ls hl => ?_)
            have ex32 : x32.toInt = v5_4.toInt + 1 := by rw [ex32]; exact wk_add (y := 1) (show -2147483648 ≤ v5_4.toInt + 1 by omega) (show v5_4.toInt + 1 ≤ 2147483647 by omega)
            refine lv_goto (tgt := 5) hx hb dX5_mostAlike_67 (by decide) ?_
            exact ih5 x31 x32 H locs ls w9 (show 0 ≤ a1.toInt from r10) (show a1.toInt ≤ 11 from t11) (show 1 ≤ a2.toInt from r12) (show a2.toInt ≤ 127 from t13) (show 0 ≤ x31.toInt by first | with_reducible assumption | omega) (show 0 ≤ x32.toInt by first | with_reducible assumption | omega) (show x32.toInt ≤ 4 by first | with_reducible assumption | omega) (show (4 - x32.toInt).toNat < n5 by first | exact tn_lt hm5 (by omega) (by omega) | omega) hw hT hF  (lv_sub hl [2, 3, 4, 1, 0] rfl)
          · have c30 : v17_6.toInt < (7 : Int) := wk_leF c30
            refine lv_iload_n hx hb dX5_mostAlike_24 rfl (lv_at hl 2 rfl) ?_
            refine lv_iload hx hb dX5_mostAlike_25 (lv_at hl 6 rfl) ?_
            refine lv_ishr hx hb dX5_mostAlike_27 ?_
            refine lv_topi (fun x33 ex33 => ?_)
            have bx33 : 0 ≤ x33.toInt ∧ x33.toInt ≤ a2.toInt := by rw [ex33]; exact wk_shr (by omega)
            refine lv_iconst (v := 1) hx hb dX5_mostAlike_28 (by decide) ?_
            refine lv_iand hx hb dX5_mostAlike_29 ?_
            refine lv_topi (fun x34 ex34 => ?_)
            have bx34 : 0 ≤ x34.toInt ∧ x34.toInt ≤ (1 : Int) := by rw [ex34]; exact wk_and (by decide)
            refine lv_if_eq (tgt := 51) hx hb dX5_mostAlike_30 (by decide) (fun c35 => ?_) (fun c35 => ?_)
            · have c35 : x34.toInt = (0 : Int) := wk_eq.mp c35
              exact J51 v17_5 H locs ls w9 (show 0 ≤ a1.toInt from r10) (show a1.toInt ≤ 11 from t11) (show 1 ≤ a2.toInt from r12) (show a2.toInt ≤ 127 from t13) (show 0 ≤ v5_3.toInt from r14) (show 0 ≤ v5_4.toInt from r15) (show v5_4.toInt ≤ 3 from t16) (show 0 ≤ v17_6.toInt from r17) (show v17_6.toInt ≤ 6 by first | with_reducible assumption | omega)  hw hT hF  (lv_sub hl [0, 1, 2, 3, 4, 5, 6] rfl)
            · have c35 : ¬ x34.toInt = (0 : Int) := wk_eqF c35
              refine lv_aload_n hx hb dX5_mostAlike_33 rfl (lv_at hl 0 rfl) ?_
              refine tk_getO hC hK hw hT hinX5 kC_at38 (by decide) rfl 0 (by decide) (List.mem_cons_of_mem _ uw_3_18) rfl rfl dX5_mostAlike_34 ?_
              refine lv_iload_n hx hb dX5_mostAlike_37 rfl (lv_at hl 1 rfl) ?_
              refine lv_iload hx hb dX5_mostAlike_38 (lv_at hl 6 rfl) ?_
              refine tk_Vi hC hK hw hT hA hE hSR kC_at39 (by decide) rfl (k_X7_signOn_1 l adK adV dC dI cy ad B hB0 (Int.le_trans hB1 (by decide)) qr s1   a1 (show 0 ≤ a1.toInt from r10) (show a1.toInt ≤ 11 from t11) v17_6 (show 0 ≤ v17_6.toInt from r17) (show v17_6.toInt ≤ 6 by first | with_reducible assumption | omega) w9 H.size hT ) (cwV 2 hC.2.2.2.2 uV_RX5_86 rfl rfl rfl (by decide +kernel) ⟨Nat.le_of_ble_eq_true rfl, Nat.le_of_ble_eq_true rfl⟩) rfl hl.1 rfl (Nat.le_of_ble_eq_true rfl) dX5_mostAlike_40 (fun r36 w38 H locs hp37 hw => ?_)
              obtain ⟨hT, k39, hg42⟩ := hp37
              have hF := hF.tr k39 (by decide)
              obtain ⟨g40, g41⟩ := hg42
              refine lv_iload hx hb dX5_mostAlike_43 (lv_at hl 4 rfl) ?_
              refine lv_icmp_ne (tgt := 51) hx hb dX5_mostAlike_45 (by decide) (fun c43 => ?_) (fun c43 => ?_)
              · have c43 : ¬ r36.toInt = v5_4.toInt := wk_eqF c43
                exact J51 v17_5 H locs ls w38 (show 0 ≤ a1.toInt from r10) (show a1.toInt ≤ 11 from t11) (show 1 ≤ a2.toInt from r12) (show a2.toInt ≤ 127 from t13) (show 0 ≤ v5_3.toInt from r14) (show 0 ≤ v5_4.toInt from r15) (show v5_4.toInt ≤ 3 from t16) (show 0 ≤ v17_6.toInt from r17) (show v17_6.toInt ≤ 6 by first | with_reducible assumption | omega)  hw hT hF  (lv_sub hl [0, 1, 2, 3, 4, 5, 6] rfl)
              · have c43 : r36.toInt = v5_4.toInt := wk_eq.mp c43
                have nx45 := wk_i32 v17_5
                obtain ⟨x44, ex44⟩ : ∃ y : Int32, y = v17_5 + Int32.ofInt 1 := ⟨_, rfl⟩
                refine lv_iinc (v := x44) (lv' := [(5, .int x44), (0, .ref (ad 38)), (1, .int a1), (2, .int a2), (3, .int v5_3), (4, .int v5_4), (6, .int v17_6)]) hx hb dX5_mostAlike_48 hl (k := 5) rfl ex44.symm (by decide) rfl (fun ls hl => ?_)
                exact J51 x44 H locs ls w38 (show 0 ≤ a1.toInt from r10) (show a1.toInt ≤ 11 from t11) (show 1 ≤ a2.toInt from r12) (show a2.toInt ≤ 127 from t13) (show 0 ≤ v5_3.toInt from r14) (show 0 ≤ v5_4.toInt from r15) (show v5_4.toInt ≤ 3 from t16) (show 0 ≤ v17_6.toInt from r17) (show v17_6.toInt ≤ 6 by first | with_reducible assumption | omega)  hw hT hF  (lv_sub hl [1, 2, 3, 4, 5, 0, 6] rfl)
      refine lv_iload hx hb dX5_mostAlike_5 (lv_at hl 4 rfl) ?_
      refine lv_iconst (v := 3) hx hb dX5_mostAlike_7 (by decide) ?_
      refine lv_icmp_gt (tgt := 70) hx hb dX5_mostAlike_8 (by decide) (fun c46 => ?_) (fun c46 => ?_)
      · have c46 : (3 : Int) < v5_4.toInt := wk_lt.mp c46
        refine lv_iload_n hx hb dX5_mostAlike_70 rfl (lv_at hl 3 rfl) ?_
        exact tk_iret hC hr hlocks hK ⟨hT, hF, (show 0 ≤ v5_3.toInt from r6)⟩ hw dX5_mostAlike_71
      · have c46 : v5_4.toInt ≤ (3 : Int) := wk_ltF c46
        refine lv_iconst (v := 0) hx hb dX5_mostAlike_11 (by decide) ?_
        refine lv_istore (lv' := [(5, .int 0), (0, .ref (ad 38)), (1, .int a1), (2, .int a2), (3, .int v5_3), (4, .int v5_4)]) hx hb dX5_mostAlike_12 hl (by decide) rfl (fun ls hl => ?_)
        refine lv_iconst (v := 0) hx hb dX5_mostAlike_14 (by decide) ?_
        refine lv_istore (lv' := [(6, .int 0), (5, .int 0), (0, .ref (ad 38)), (1, .int a1), (2, .int a2), (3, .int v5_3), (4, .int v5_4)]) hx hb dX5_mostAlike_15 hl (by decide) rfl (fun ls hl => ?_)
        exact L17 ((7 - (0 : Int)).toNat + 1) 0 0 H locs ls w1 (show 0 ≤ a1.toInt from r2) (show a1.toInt ≤ 11 from t3) (show 1 ≤ a2.toInt from r4) (show a2.toInt ≤ 127 from t5) (show 0 ≤ v5_3.toInt from r6) (show 0 ≤ v5_4.toInt from r7) (show v5_4.toInt ≤ 3 from c46) (by decide) (by decide) (Nat.lt_succ_self _) hw hT hF  (lv_sub hl [2, 3, 4, 5, 6, 1, 0] rfl)
  refine lv_iconst (v := 0) hx hb dX5_mostAlike_0 (by decide) ?_
  refine lv_istore_n (lv' := [(3, .int 0), (0, .ref (ad 38)), (1, .int a1), (2, .int a2)]) hx hb dX5_mostAlike_1 rfl hl (by decide) rfl (fun ls hl => ?_)
  refine lv_iconst (v := 0) hx hb dX5_mostAlike_2 (by decide) ?_
  refine lv_istore (lv' := [(4, .int 0), (3, .int 0), (0, .ref (ad 38)), (1, .int a1), (2, .int a2)]) hx hb dX5_mostAlike_3 hl (by decide) rfl (fun ls hl => ?_)
  exact L5 ((4 - (0 : Int)).toNat + 1) 0 0 s.heap locs ls w0 (show 0 ≤ a1.toInt from ra1) (show a1.toInt ≤ 11 from ta1) (show 1 ≤ a2.toInt from ra2) (show a2.toInt ≤ 127 from ta2) (by decide) (by decide) (by decide) (Nat.lt_succ_self _) hw hT hF  (lv_sub hl [2, 3, 4, 1, 0] rfl)
abbrev P_X5_streetToLookAt_1 (ad : Nat → Nat) (cy : Nat → ClassId) (B : Int) (qr : Nat) (s1 : Int) (a1 : Int32) (w0 : va_W) : Int32 → va_W → Prop := fun r u => TW ksC ad cy B qr s1 u ∧ FE ksC ([] : List (Nat × Nat × Nat)) w0 u ∧ (((-2) ≤ r.toInt ∧ r.toInt ≤ 11))
set_option maxHeartbeats 4000000 in
set_option maxRecDepth 100000 in
theorem k_X5_streetToLookAt_1 (l : Launch) (adK adV : Nat → Nat) (dC : Nat → ClassId) (dI : Nat → Nat → Nat) (cy : Nat → ClassId) (ad : Nat → Nat) (B : Int) (hB0 : 2147483648 ≤ B) (hB1 : B ≤ 1152921504606846976) (qr : Nat) (s1 : Int)  (a1 : Int32) (ra1 : 1 ≤ a1.toInt) (ta1 : a1.toInt ≤ 127) (w0 : va_W) (sz : Nat) (hT : TW ksC ad cy B qr s1 w0)  : Met l yX5_streetToLookAt (wu yX5_streetToLookAt cX5_streetToLookAt 6 (some .int)) ({ frames := 3, cells := 0, slots := 0, locals := 60 }) (va_Pc [.ref (ad 38), .int a1] (wpreS adK adV dC dI cy sz w0)) (va_Qi (P_X5_streetToLookAt_1 ad cy B qr s1 a1 w0) (fun u : va_W => wpost dC dI cy (va_A w0 sz) u) (va_A w0 sz)) 0 0 (va_A w0 sz) := by
  refine Met.ofW (cc := cX5_streetToLookAt) (maxL := 6) (ret := (some .int)) (by decide) rfl ?_
  intro p e s m args below meth c s₁ Bk hml hv
  obtain ⟨rfl, ⟨hsz, hP, hK, hD0⟩, hE, hSR⟩ := hv
  have hx := Bk.exec
  have hb := Bk.bytes
  have hr := Bk.returns
  have hlocks := Bk.notSynchronized
  have hC : CallFix p m c cX5_streetToLookAt 6 s _ (wu yX5_streetToLookAt cX5_streetToLookAt 6 (some .int)) RX5 := ⟨hx, hb, hml, findClass_of_methodNamed Bk.named, atoms_spec (ws := (wu yX5_streetToLookAt cX5_streetToLookAt 6 (some .int))) Bk.pre⟩
  subst hsz
  have hD := hD0.self (sz := s.heap.size)
  generalize hAe : va_A w0 s.heap.size = A at hD hE ⊢
  have hA : ∀ q : Nat, s.heap.size ≤ q → A q := fun q h => by rw [← hAe]; exact Or.inr h
  have hw : Wd dC dI A s.heap s.heap [] w0 := ⟨hP, hD, va_S.rf⟩
  have hF : FE ksC ([] : List (Nat × Nat × Nat)) w0 w0 := FE.rf
  have hl := lv_entry ([.ref (ad 38), .int a1]) (n := 6) (Nat.le_of_ble_eq_true rfl)
  rw [lg_entry_eq]
  generalize (lg_sl ([.ref (ad 38), .int a1]) ++ List.replicate (6 - (lg_sl ([.ref (ad 38), .int a1])).length) Slot.unset).toArray = ls at hl ⊢
  have hl : lv_has ls 6 [(0, .ref (ad 38)), (1, .int a1)] := hl
  generalize hloc : ([] : List Loc) = locs at hw ⊢
  have hinX5 : ∀ w ∈ u_ws RX5 TX5 14, w ∈ (wu yX5_streetToLookAt cX5_streetToLookAt 6 (some .int)) := fun _ h => List.mem_cons_of_mem _ (up_76 h)
  have hinX7 : ∀ w ∈ u_ws RX7 TX7 12, w ∈ (wu yX5_streetToLookAt cX5_streetToLookAt 6 (some .int)) := fun _ h => List.mem_cons_of_mem _ (up_73 h)
  have L9 : ∀ (n9 : Nat) (v9_2 : Int32) (v9_3 : Int32) (v9_4 : Int32) (H : Heap) (locs : List Loc) (ls : Array Slot) (w1 : va_W), 1 ≤ a1.toInt → a1.toInt ≤ 127 → (-2) ≤ v9_2.toInt → v9_2.toInt ≤ 11 → 0 ≤ v9_3.toInt → v9_3.toInt ≤ 8 → 0 ≤ v9_4.toInt → v9_4.toInt ≤ 12 → (12 - v9_4.toInt).toNat < n9 → Wd dC dI A s.heap H locs w1 → TW ksC ad cy B qr s1 w1 → FE ksC ([] : List (Nat × Nat × Nat)) w0 w1 → lv_has ls 6 [(0, .ref (ad 38)), (1, .int a1), (2, .int v9_2), (3, .int v9_3), (4, .int v9_4)] → W p l e ({ frames := 3, cells := 0, slots := 0, locals := 60 }) s m (List.toArray [.ref (ad 38), .int a1]) below meth c H locs 0 0 (MQ below (va_Qi (P_X5_streetToLookAt_1 ad cy B qr s1 a1 w0) (fun u : va_W => wpost dC dI cy A u) A) (List.toArray [.ref (ad 38), .int a1]) s 0 0 A) (F0 m 9 ls []) := by
    intro n9
    induction n9 with
    | zero => intro v9_2 v9_3 v9_4 H locs ls w1 r2 t3 r4 t5 r6 t7 r8 t9 hm9 hw hT hF hl; omega
    | succ n9 ih9 =>
      intro v9_2 v9_3 v9_4 H locs ls w1 r2 t3 r4 t5 r6 t7 r8 t9 hm9 hw hT hF hl
      have J42 : ∀ (v42_2 : Int32) (v42_3 : Int32) (v42_5 : Int32) (f42_39_9 : Int32) (H : Heap) (locs : List Loc) (ls : Array Slot) (w10 : va_W), 1 ≤ a1.toInt → a1.toInt ≤ 127 → (-2) ≤ v42_2.toInt → v42_2.toInt ≤ 11 → 0 ≤ v42_3.toInt → v42_3.toInt ≤ 8 → 0 ≤ v9_4.toInt → v9_4.toInt ≤ 11 → 0 ≤ v42_5.toInt → 1 ≤ f42_39_9.toInt → f42_39_9.toInt ≤ 12 → Wd dC dI A s.heap H locs w10 → TW ksC ad cy B qr s1 w10 → FE ksC ([] : List (Nat × Nat × Nat)) w0 w10 → gi w10 39 9 = f42_39_9 → lv_has ls 6 [(0, .ref (ad 38)), (1, .int a1), (2, .int v42_2), (3, .int v42_3), (4, .int v9_4), (5, .int v42_5)] → W p l e ({ frames := 3, cells := 0, slots := 0, locals := 60 }) s m (List.toArray [.ref (ad 38), .int a1]) below meth c H locs 0 0 (MQ below (va_Qi (P_X5_streetToLookAt_1 ad cy B qr s1 a1 w0) (fun u : va_W => wpost dC dI cy A u) A) (List.toArray [.ref (ad 38), .int a1]) s 0 0 A) (F0 m 42 ls []) := by
        intro v42_2 v42_3 v42_5 f42_39_9 H locs ls w10 r11 t12 r13 t14 r15 t16 r17 t18 r19 r20 t21 hw hT hF c22 hl
        obtain ⟨x23, ex23⟩ : ∃ y : Int32, y = v9_4 + Int32.ofInt 1 := ⟨_, rfl⟩
        refine lv_iinc (v := x23) (lv' := [(4, .int x23), (0, .ref (ad 38)), (1, .int a1), (2, .int v42_2), (3, .int v42_3), (5, .int v42_5)]) hx hb dX5_streetToLookAt_42 hl (k := 4) rfl ex23.symm (by decide) rfl (fun ls hl => ?_)
        have ex23 : x23.toInt = v9_4.toInt + 1 := by rw [ex23]; exact wk_add (y := 1) (show -2147483648 ≤ v9_4.toInt + 1 by omega) (show v9_4.toInt + 1 ≤ 2147483647 by omega)
        refine lv_goto (tgt := 9) hx hb dX5_streetToLookAt_45 (by decide) ?_
        exact ih9 v42_2 v42_3 x23 H locs ls w10 (show 1 ≤ a1.toInt from r11) (show a1.toInt ≤ 127 from t12) (show (-2) ≤ v42_2.toInt from r13) (show v42_2.toInt ≤ 11 from t14) (show 0 ≤ v42_3.toInt from r15) (show v42_3.toInt ≤ 8 from t16) (show 0 ≤ x23.toInt by first | with_reducible assumption | omega) (show x23.toInt ≤ 12 by first | with_reducible assumption | omega) (show (12 - x23.toInt).toNat < n9 by first | exact tn_lt hm9 (by omega) (by omega) | omega) hw hT hF  (lv_sub hl [1, 2, 3, 4, 0] rfl)
      refine lv_iload hx hb dX5_streetToLookAt_9 (lv_at hl 4 rfl) ?_
      refine lv_aload_n hx hb dX5_streetToLookAt_11 rfl (lv_at hl 0 rfl) ?_
      refine tk_getO hC hK hw hT hinX5 kC_at38 (by decide) rfl 0 (by decide) (List.mem_cons_of_mem _ uw_3_18) rfl rfl dX5_streetToLookAt_12 ?_
      refine tk_geti hC hK hw hT hinX7 kC_at39 (by decide) rfl 9 (by decide) (List.mem_cons_of_mem _ uw_63_14) rfl rfl dX5_streetToLookAt_15 (fun x24 c25 rx24 tx24 => ?_)
      refine lv_icmp_ge (tgt := 48) hx hb dX5_streetToLookAt_18 (by decide) (fun c26 => ?_) (fun c26 => ?_)
      · have c26 : x24.toInt ≤ v9_4.toInt := wk_le.mp c26
        refine lv_iload_n hx hb dX5_streetToLookAt_48 rfl (lv_at hl 2 rfl) ?_
        exact tk_iret hC hr hlocks hK ⟨hT, hF, ⟨(show (-2) ≤ v9_2.toInt from r4), (show v9_2.toInt ≤ 11 from t5)⟩⟩ hw dX5_streetToLookAt_49
      · have c26 : v9_4.toInt < x24.toInt := wk_leF c26
        refine lv_aload_n hx hb dX5_streetToLookAt_21 rfl (lv_at hl 0 rfl) ?_
        refine lv_iload hx hb dX5_streetToLookAt_22 (lv_at hl 4 rfl) ?_
        refine lv_iload_n hx hb dX5_streetToLookAt_24 rfl (lv_at hl 1 rfl) ?_
        refine tk_Vi hC hK hw hT hA hE hSR kC_at38 (by decide) rfl (k_X5_mostAlike_1 l adK adV dC dI cy ad B hB0 (Int.le_trans hB1 (by decide)) qr s1   v9_4 (show 0 ≤ v9_4.toInt from r8) (show v9_4.toInt ≤ 11 by first | with_reducible assumption | omega) a1 (show 1 ≤ a1.toInt from r2) (show a1.toInt ≤ 127 from t3) w1 H.size hT ) (cwV 2 hC.2.2.2.2 uV_RX5_93 rfl rfl rfl (by decide +kernel) ⟨Nat.le_of_ble_eq_true rfl, Nat.le_of_ble_eq_true rfl⟩) rfl hl.1 rfl (Nat.le_of_ble_eq_true rfl) dX5_streetToLookAt_25 (fun r27 w29 H locs hp28 hw => ?_)
        obtain ⟨hT, k30, hg32⟩ := hp28
        have hF := hF.tr k30 (by decide)
        have c33 := k30.gi kC_at39 (by decide) c25
        obtain g31 := hg32
        refine lv_istore (lv' := [(5, .int r27), (0, .ref (ad 38)), (1, .int a1), (2, .int v9_2), (3, .int v9_3), (4, .int v9_4)]) hx hb dX5_streetToLookAt_28 hl (by decide) rfl (fun ls hl => ?_)
        refine lv_iload hx hb dX5_streetToLookAt_30 (lv_at hl 0 rfl) ?_
        refine lv_iload_n hx hb dX5_streetToLookAt_32 rfl (lv_at hl 4 rfl) ?_
        refine lv_icmp_ge (tgt := 42) hx hb dX5_streetToLookAt_33 (by decide) (fun c34 => ?_) (fun c34 => ?_)
        · have c34 : v9_3.toInt ≤ r27.toInt := wk_le.mp c34
          exact J42 v9_2 v9_3 r27 x24 H locs ls w29 (show 1 ≤ a1.toInt from r2) (show a1.toInt ≤ 127 from t3) (show (-2) ≤ v9_2.toInt from r4) (show v9_2.toInt ≤ 11 from t5) (show 0 ≤ v9_3.toInt from r6) (show v9_3.toInt ≤ 8 from t7) (show 0 ≤ v9_4.toInt from r8) (show v9_4.toInt ≤ 11 by first | with_reducible assumption | omega) (show 0 ≤ r27.toInt by first | with_reducible assumption | omega) (show 1 ≤ x24.toInt by first | with_reducible assumption | omega) (show x24.toInt ≤ 12 from tx24)  hw hT hF c33 (lv_sub hl [1, 2, 3, 4, 5, 0] rfl)
        · have c34 : r27.toInt < v9_3.toInt := wk_leF c34
          refine lv_iload hx hb dX5_streetToLookAt_36 (lv_at hl 0 rfl) ?_
          refine lv_istore_n (lv' := [(3, .int r27), (5, .int r27), (0, .ref (ad 38)), (1, .int a1), (2, .int v9_2), (4, .int v9_4)]) hx hb dX5_streetToLookAt_38 rfl hl (by decide) rfl (fun ls hl => ?_)
          refine lv_iload hx hb dX5_streetToLookAt_39 (lv_at hl 5 rfl) ?_
          refine lv_istore_n (lv' := [(2, .int v9_4), (3, .int r27), (5, .int r27), (0, .ref (ad 38)), (1, .int a1), (4, .int v9_4)]) hx hb dX5_streetToLookAt_41 rfl hl (by decide) rfl (fun ls hl => ?_)
          exact J42 v9_4 r27 r27 x24 H locs ls w29 (show 1 ≤ a1.toInt from r2) (show a1.toInt ≤ 127 from t3) (show (-2) ≤ v9_4.toInt from Int.le_trans (by decide) r8) (show v9_4.toInt ≤ 11 by first | with_reducible assumption | omega) (show 0 ≤ r27.toInt by first | with_reducible assumption | omega) (show r27.toInt ≤ 8 by first | with_reducible assumption | omega) (show 0 ≤ v9_4.toInt from r8) (show v9_4.toInt ≤ 11 by first | with_reducible assumption | omega) (show 0 ≤ r27.toInt by first | with_reducible assumption | omega) (show 1 ≤ x24.toInt by first | with_reducible assumption | omega) (show x24.toInt ≤ 12 from tx24)  hw hT hF c33 (lv_sub hl [3, 4, 0, 1, 5, 2] rfl)
  refine lv_bipush (v := (-2)) hx hb dX5_streetToLookAt_0 (by decide) ?_
  refine lv_istore_n (lv' := [(2, .int (-2)), (0, .ref (ad 38)), (1, .int a1)]) hx hb dX5_streetToLookAt_2 rfl hl (by decide) rfl (fun ls hl => ?_)
  refine lv_bipush (v := 8) hx hb dX5_streetToLookAt_3 (by decide) ?_
  refine lv_istore_n (lv' := [(3, .int 8), (2, .int (-2)), (0, .ref (ad 38)), (1, .int a1)]) hx hb dX5_streetToLookAt_5 rfl hl (by decide) rfl (fun ls hl => ?_)
  refine lv_iconst (v := 0) hx hb dX5_streetToLookAt_6 (by decide) ?_
  refine lv_istore (lv' := [(4, .int 0), (3, .int 8), (2, .int (-2)), (0, .ref (ad 38)), (1, .int a1)]) hx hb dX5_streetToLookAt_7 hl (by decide) rfl (fun ls hl => ?_)
  exact L9 ((12 - (0 : Int)).toNat + 1) (-2) 8 0 s.heap locs ls w0 (show 1 ≤ a1.toInt from ra1) (show a1.toInt ≤ 127 from ta1) (by decide) (by decide) (by decide) (by decide) (by decide) (by decide) (Nat.lt_succ_self _) hw hT hF  (lv_sub hl [3, 4, 2, 1, 0] rfl)
abbrev P_X11_weekdays_1 (ad : Nat → Nat) (cy : Nat → ClassId) (B : Int) (qr : Nat) (s1 : Int) (a1 : Int32) (w0 : va_W) : Int32 → va_W → Prop := fun r u => TW ksC ad cy B qr s1 u ∧ FE ksC ([] : List (Nat × Nat × Nat)) w0 u ∧ (((-2) ≤ r.toInt ∧ r.toInt ≤ 11 ∧ 1 ≤ a1.toInt ∧ a1.toInt ≤ 1 ∧ (∃ y : Int32, gi u 39 8 = y ∧ 1 ≤ y.toInt ∧ y.toInt ≤ 10)) ∨ (r = (-2) ∧ 1 ≤ a1.toInt ∧ a1.toInt ≤ 1 ∧ (∃ y : Int32, gi u 39 8 = y ∧ 1 ≤ y.toInt ∧ y.toInt ≤ 10)) ∨ (0 ≤ r.toInt ∧ r.toInt ≤ 127 ∧ 0 ≤ a1.toInt ∧ a1.toInt ≤ 0 ∧ (∃ y : Int32, gi u 39 8 = y ∧ 1 ≤ y.toInt ∧ y.toInt ≤ 10)) ∨ (r = (-1)))
set_option maxHeartbeats 4000000 in
set_option maxRecDepth 100000 in
theorem k_X11_weekdays_1 (l : Launch) (adK adV : Nat → Nat) (dC : Nat → ClassId) (dI : Nat → Nat → Nat) (cy : Nat → ClassId) (ad : Nat → Nat) (B : Int) (hB0 : 2147483648 ≤ B) (hB1 : B ≤ 1152921504606846976) (qr : Nat) (s1 : Int)  (a1 : Int32) (w0 : va_W) (sz : Nat) (hT : TW ksC ad cy B qr s1 w0)  : Met l yX11_weekdays (wu yX11_weekdays cX11_weekdays 3 (some .int)) ({ frames := 4, cells := 0, slots := 0, locals := 85 }) (va_Pc [.ref (ad 0), .int a1] (wpreS adK adV dC dI cy sz w0)) (va_Qi (P_X11_weekdays_1 ad cy B qr s1 a1 w0) (fun u : va_W => wpost dC dI cy (va_A w0 sz) u) (va_A w0 sz)) 0 0 (va_A w0 sz) := by
  refine Met.ofW (cc := cX11_weekdays) (maxL := 3) (ret := (some .int)) (by decide) rfl ?_
  intro p e s m args below meth c s₁ Bk hml hv
  obtain ⟨rfl, ⟨hsz, hP, hK, hD0⟩, hE, hSR⟩ := hv
  have hx := Bk.exec
  have hb := Bk.bytes
  have hr := Bk.returns
  have hlocks := Bk.notSynchronized
  have hC : CallFix p m c cX11_weekdays 3 s _ (wu yX11_weekdays cX11_weekdays 3 (some .int)) RX11 := ⟨hx, hb, hml, findClass_of_methodNamed Bk.named, atoms_spec (ws := (wu yX11_weekdays cX11_weekdays 3 (some .int))) Bk.pre⟩
  subst hsz
  have hD := hD0.self (sz := s.heap.size)
  generalize hAe : va_A w0 s.heap.size = A at hD hE ⊢
  have hA : ∀ q : Nat, s.heap.size ≤ q → A q := fun q h => by rw [← hAe]; exact Or.inr h
  have hw : Wd dC dI A s.heap s.heap [] w0 := ⟨hP, hD, va_S.rf⟩
  have hF : FE ksC ([] : List (Nat × Nat × Nat)) w0 w0 := FE.rf
  have hl := lv_entry ([.ref (ad 0), .int a1]) (n := 3) (Nat.le_of_ble_eq_true rfl)
  rw [lg_entry_eq]
  generalize (lg_sl ([.ref (ad 0), .int a1]) ++ List.replicate (3 - (lg_sl ([.ref (ad 0), .int a1])).length) Slot.unset).toArray = ls at hl ⊢
  have hl : lv_has ls 3 [(0, .ref (ad 0)), (1, .int a1)] := hl
  generalize hloc : ([] : List Loc) = locs at hw ⊢
  have hinX11 : ∀ w ∈ u_ws RX11 TX11 13, w ∈ (wu yX11_weekdays cX11_weekdays 3 (some .int)) := fun _ h => List.mem_cons_of_mem _ (up_70 h)
  have J19 : ∀ (f19_39_8 : Int32) (H : Heap) (locs : List Loc) (ls : Array Slot) (w1 : va_W), (-1) ≤ f19_39_8.toInt → f19_39_8.toInt ≤ 10 → Wd dC dI A s.heap H locs w1 → TW ksC ad cy B qr s1 w1 → FE ksC ([] : List (Nat × Nat × Nat)) w0 w1 → gi w1 39 8 = f19_39_8 → lv_has ls 3 [(0, .ref (ad 0)), (1, .int a1)] → W p l e ({ frames := 4, cells := 0, slots := 0, locals := 85 }) s m (List.toArray [.ref (ad 0), .int a1]) below meth c H locs 0 0 (MQ below (va_Qi (P_X11_weekdays_1 ad cy B qr s1 a1 w0) (fun u : va_W => wpost dC dI cy A u) A) (List.toArray [.ref (ad 0), .int a1]) s 0 0 A) (F0 m 19 ls []) := by
    intro f19_39_8 H locs ls w1 r2 t3 hw hT hF c4 hl
    refine lv_iconst (v := (-1)) hx hb dX11_weekdays_19 (by decide) ?_
    exact tk_iret hC hr hlocks hK ⟨hT, hF, (Or.inr (Or.inr (Or.inr rfl)))⟩ hw dX11_weekdays_20
  refine lv_aload_n hx hb dX11_weekdays_0 rfl (lv_at hl 0 rfl) ?_
  refine tk_getA hC hK hw hT hinX11 kC_at0 (by decide) rfl 4 (by decide) (List.mem_cons_of_mem _ uw_1_7) rfl rfl dX11_weekdays_1 ?_
  refine tk_Vi hC hK hw hT hA hE hSR kC_at38 (by decide) rfl (k_X5_hasTown_1 l adK adV dC dI cy ad B hB0 (Int.le_trans hB1 (by decide)) qr s1    w0 s.heap.size hT ) (cwV 0 hC.2.2.2.2 uV_RX11_158 rfl rfl rfl (by decide +kernel) ⟨Nat.le_of_ble_eq_true rfl, Nat.le_of_ble_eq_true rfl⟩) rfl hl.1 rfl (Nat.le_of_ble_eq_true rfl) dX11_weekdays_4 (fun r5 w7 H locs hp6 hw => ?_)
  obtain ⟨hT, k8, hg13⟩ := hp6
  have hF := hF.tr k8 (by decide)
  rcases hg13 with ⟨rfl, ⟨x9, c10, rx9, tx9⟩⟩ | ⟨rfl, ⟨x11, c12, rx11, tx11⟩⟩
  · refine lv_if_eq (tgt := 19) hx hb dX11_weekdays_7 (by decide) (fun _ => ?_) (fun c => absurd (by decide) c)
    exact J19 x9 H locs ls w7 (show (-1) ≤ x9.toInt by first | with_reducible assumption | omega) (show x9.toInt ≤ 10 by first | with_reducible assumption | omega)  hw hT hF c10 (lv_sub hl [0, 1] rfl)
  · refine lv_if_eq (tgt := 19) hx hb dX11_weekdays_7 (by decide) (fun c => absurd c (by decide)) (fun _ => ?_)
    refine lv_iload_n hx hb dX11_weekdays_10 rfl (lv_at hl 1 rfl) ?_
    refine lv_if_lt (tgt := 19) hx hb dX11_weekdays_11 (by decide) (fun c14 => ?_) (fun c14 => ?_)
    · have c14 : a1.toInt < (0 : Int) := wk_lt.mp c14
      exact J19 x11 H locs ls w7 (show (-1) ≤ x11.toInt by first | with_reducible assumption | omega) (show x11.toInt ≤ 10 by first | with_reducible assumption | omega)  hw hT hF c12 (lv_sub hl [0, 1] rfl)
    · have c14 : (0 : Int) ≤ a1.toInt := wk_ltF c14
      refine lv_iload_n hx hb dX11_weekdays_14 rfl (lv_at hl 1 rfl) ?_
      refine lv_iconst (v := 1) hx hb dX11_weekdays_15 (by decide) ?_
      refine lv_icmp_le (tgt := 21) hx hb dX11_weekdays_16 (by decide) (fun c15 => ?_) (fun c15 => ?_)
      · have c15 : a1.toInt ≤ (1 : Int) := wk_le.mp c15
        refine lv_aload_n hx hb dX11_weekdays_21 rfl (lv_at hl 0 rfl) ?_
        refine tk_getA hC hK hw hT hinX11 kC_at0 (by decide) rfl 4 (by decide) (List.mem_cons_of_mem _ uw_1_7) rfl rfl dX11_weekdays_22 ?_
        refine tk_Vi hC hK hw hT hA hE hSR kC_at38 (by decide) rfl (k_X5_fittingDays_1 l adK adV dC dI cy ad B hB0 (Int.le_trans hB1 (by decide)) qr s1    w7 H.size hT ) (cwV 0 hC.2.2.2.2 uV_RX11_276 rfl rfl rfl (by decide +kernel) ⟨Nat.le_of_ble_eq_true rfl, Nat.le_of_ble_eq_true rfl⟩) rfl hl.1 rfl (Nat.le_of_ble_eq_true rfl) dX11_weekdays_25 (fun r16 w18 H locs hp17 hw => ?_)
        obtain ⟨hT, k19, hg22⟩ := hp17
        have hF := hF.tr k19 (by decide)
        have c23 := k19.gi kC_at39 (by decide) c12
        obtain ⟨g20, g21⟩ := hg22
        refine lv_istore_n (lv' := [(2, .int r16), (0, .ref (ad 0)), (1, .int a1)]) hx hb dX11_weekdays_28 rfl hl (by decide) rfl (fun ls hl => ?_)
        refine lv_iload_n hx hb dX11_weekdays_29 rfl (lv_at hl 2 rfl) ?_
        refine lv_if_ne (tgt := 35) hx hb dX11_weekdays_30 (by decide) (fun c24 => ?_) (fun c24 => ?_)
        · have c24 : ¬ a1.toInt = (0 : Int) := wk_eqF c24
          refine lv_iload_n hx hb dX11_weekdays_35 rfl (lv_at hl 0 rfl) ?_
          refine lv_if_ne (tgt := 44) hx hb dX11_weekdays_36 (by decide) (fun c25 => ?_) (fun c25 => ?_)
          · have c25 : ¬ r16.toInt = (0 : Int) := wk_eqF c25
            refine lv_aload_n hx hb dX11_weekdays_44 rfl (lv_at hl 1 rfl) ?_
            refine tk_getA hC hK hw hT hinX11 kC_at0 (by decide) rfl 4 (by decide) (List.mem_cons_of_mem _ uw_1_7) rfl rfl dX11_weekdays_45 ?_
            refine lv_iload_n hx hb dX11_weekdays_48 rfl (lv_at hl 0 rfl) ?_
            refine tk_Vi hC hK hw hT hA hE hSR kC_at38 (by decide) rfl (k_X5_streetToLookAt_1 l adK adV dC dI cy ad B hB0 (Int.le_trans hB1 (by decide)) qr s1   r16 (show 1 ≤ r16.toInt by first | with_reducible assumption | omega) (show r16.toInt ≤ 127 by first | with_reducible assumption | omega) w18 H.size hT ) (cwV 1 hC.2.2.2.2 uV_RX11_279 rfl rfl rfl (by decide +kernel) ⟨Nat.le_of_ble_eq_true rfl, Nat.le_of_ble_eq_true rfl⟩) rfl hl.1 rfl (Nat.le_of_ble_eq_true rfl) dX11_weekdays_49 (fun r26 w28 H locs hp27 hw => ?_)
            obtain ⟨hT, k29, hg32⟩ := hp27
            have hF := hF.tr k29 (by decide)
            have c33 := k29.gi kC_at39 (by decide) c23
            obtain ⟨g30, g31⟩ := hg32
            exact tk_iret hC hr hlocks hK ⟨hT, hF, (Or.inl ⟨(show (-2) ≤ r26.toInt by first | with_reducible assumption | omega), (show r26.toInt ≤ 11 by first | with_reducible assumption | omega), (show 1 ≤ a1.toInt by first | with_reducible assumption | omega), (show a1.toInt ≤ 1 from c15), ⟨x11, c33, (show 1 ≤ x11.toInt by first | with_reducible assumption | omega), (show x11.toInt ≤ 10 by first | with_reducible assumption | omega)⟩⟩)⟩ hw dX11_weekdays_52
          · have c25 : r16.toInt = (0 : Int) := wk_eq.mp c25
            refine lv_bipush (v := (-2)) hx hb dX11_weekdays_39 (by decide) ?_
            refine lv_goto (tgt := 52) hx hb dX11_weekdays_41 (by decide) ?_
            exact tk_iret hC hr hlocks hK ⟨hT, hF, (Or.inr (Or.inl ⟨rfl, (show 1 ≤ a1.toInt by first | with_reducible assumption | omega), (show a1.toInt ≤ 1 from c15), ⟨x11, c23, (show 1 ≤ x11.toInt by first | with_reducible assumption | omega), (show x11.toInt ≤ 10 by first | with_reducible assumption | omega)⟩⟩))⟩ hw dX11_weekdays_52
        · have c24 : a1.toInt = (0 : Int) := wk_eq.mp c24
          refine lv_iload_n hx hb dX11_weekdays_33 rfl (lv_at hl 0 rfl) ?_
          exact tk_iret hC hr hlocks hK ⟨hT, hF, (Or.inr (Or.inr (Or.inl ⟨(show 0 ≤ r16.toInt by first | with_reducible assumption | omega), (show r16.toInt ≤ 127 by first | with_reducible assumption | omega), (show 0 ≤ a1.toInt from c14), (show a1.toInt ≤ 0 by first | with_reducible assumption | omega), ⟨x11, c23, (show 1 ≤ x11.toInt by first | with_reducible assumption | omega), (show x11.toInt ≤ 10 by first | with_reducible assumption | omega)⟩⟩)))⟩ hw dX11_weekdays_34
      · have c15 : (1 : Int) < a1.toInt := wk_leF c15
        exact J19 x11 H locs ls w7 (show (-1) ≤ x11.toInt by first | with_reducible assumption | omega) (show x11.toInt ≤ 10 by first | with_reducible assumption | omega)  hw hT hF c12 (lv_sub hl [0, 1] rfl)
abbrev P_X8_ghostComesAsTold_1 (ad : Nat → Nat) (cy : Nat → ClassId) (B : Int) (qr : Nat) (s1 : Int)  (w0 : va_W) : Int32 → va_W → Prop := fun r u => TW ksC ad cy (B + 900) qr s1 u ∧ FE ksC [(1, 4, 4), (1, 5, 5), (1, 6, 6), (1, 7, 7), (1, 8, 8), (9, 0, 0), (9, 4, 4), (9, 5, 5), (9, 6, 6), (9, 7, 7), (9, 8, 8), (45, 0, 64)] w0 u ∧ ((r = 0) ∨ (r = 1))
set_option maxHeartbeats 4000000 in
set_option maxRecDepth 100000 in
theorem k_X8_ghostComesAsTold_1 (l : Launch) (adK adV : Nat → Nat) (dC : Nat → ClassId) (dI : Nat → Nat → Nat) (cy : Nat → ClassId) (ad : Nat → Nat) (B : Int) (hB0 : 2147483648 ≤ B) (hB1 : B ≤ 1152921504606846085) (qr : Nat) (s1 : Int)   (w0 : va_W) (sz : Nat) (hT : TW ksC ad cy B qr s1 w0)  : Met l yX8_ghostComesAsTold (wu yX8_ghostComesAsTold cX8_ghostComesAsTold 4 (some .boolean)) ({ frames := 6, cells := 0, slots := 0, locals := 135 }) (va_Pc [.ref (ad 151)] (wpreS adK adV dC dI cy sz w0)) (va_Qi (P_X8_ghostComesAsTold_1 ad cy B qr s1  w0) (fun u : va_W => wpost dC dI cy (va_A w0 sz) u) (va_A w0 sz)) 0 0 (va_A w0 sz) := by
  refine Met.ofW (cc := cX8_ghostComesAsTold) (maxL := 4) (ret := (some .boolean)) (by decide) rfl ?_
  intro p e s m args below meth c s₁ Bk hml hv
  obtain ⟨rfl, ⟨hsz, hP, hK, hD0⟩, hE, hSR⟩ := hv
  have hx := Bk.exec
  have hb := Bk.bytes
  have hr := Bk.returns
  have hlocks := Bk.notSynchronized
  have hC : CallFix p m c cX8_ghostComesAsTold 4 s _ (wu yX8_ghostComesAsTold cX8_ghostComesAsTold 4 (some .boolean)) RX8 := ⟨hx, hb, hml, findClass_of_methodNamed Bk.named, atoms_spec (ws := (wu yX8_ghostComesAsTold cX8_ghostComesAsTold 4 (some .boolean))) Bk.pre⟩
  subst hsz
  have hD := hD0.self (sz := s.heap.size)
  generalize hAe : va_A w0 s.heap.size = A at hD hE ⊢
  have hA : ∀ q : Nat, s.heap.size ≤ q → A q := fun q h => by rw [← hAe]; exact Or.inr h
  have hw : Wd dC dI A s.heap s.heap [] w0 := ⟨hP, hD, va_S.rf⟩
  have hF : FE ksC [(1, 4, 4), (1, 5, 5), (1, 6, 6), (1, 7, 7), (1, 8, 8), (9, 0, 0), (9, 4, 4), (9, 5, 5), (9, 6, 6), (9, 7, 7), (9, 8, 8), (45, 0, 64)] w0 w0 := FE.rf
  have hl := lv_entry ([.ref (ad 151)]) (n := 4) (Nat.le_of_ble_eq_true rfl)
  rw [lg_entry_eq]
  generalize (lg_sl ([.ref (ad 151)]) ++ List.replicate (4 - (lg_sl ([.ref (ad 151)])).length) Slot.unset).toArray = ls at hl ⊢
  have hl : lv_has ls 4 [(0, .ref (ad 151))] := hl
  generalize hloc : ([] : List Loc) = locs at hw ⊢
  have hinX8 : ∀ w ∈ u_ws RX8 TX8 8, w ∈ (wu yX8_ghostComesAsTold cX8_ghostComesAsTold 4 (some .boolean)) := fun _ h => List.mem_cons_of_mem _ (up_79 h)
  have hinX5 : ∀ w ∈ u_ws RX5 TX5 14, w ∈ (wu yX8_ghostComesAsTold cX8_ghostComesAsTold 4 (some .boolean)) := fun _ h => List.mem_cons_of_mem _ (up_76 h)
  have hinX9 : ∀ w ∈ u_ws RX9 TX9 9, w ∈ (wu yX8_ghostComesAsTold cX8_ghostComesAsTold 4 (some .boolean)) := fun _ h => List.mem_cons_of_mem _ (up_82 h)
  have J79 : ∀ (v79_1 : Int32) (v79_2 : Int32) (H : Heap) (locs : List Loc) (ls : Array Slot) (w1 : va_W), 0 ≤ v79_1.toInt → v79_1.toInt ≤ 8 → 0 ≤ v79_2.toInt → v79_2.toInt ≤ 100 → Wd dC dI A s.heap H locs w1 → TW ksC ad cy (B + 900) qr s1 w1 → FE ksC [(1, 4, 4), (1, 5, 5), (1, 6, 6), (1, 7, 7), (1, 8, 8), (9, 0, 0), (9, 4, 4), (9, 5, 5), (9, 6, 6), (9, 7, 7), (9, 8, 8), (45, 0, 64)] w0 w1 → lv_has ls 4 [(0, .ref (ad 151)), (1, .int v79_1), (2, .int v79_2)] → W p l e ({ frames := 6, cells := 0, slots := 0, locals := 135 }) s m (List.toArray [.ref (ad 151)]) below meth c H locs 0 0 (MQ below (va_Qi (P_X8_ghostComesAsTold_1 ad cy B qr s1  w0) (fun u : va_W => wpost dC dI cy A u) A) (List.toArray [.ref (ad 151)]) s 0 0 A) (F0 m 79 ls []) := by
    intro v79_1 v79_2 H locs ls w1 r2 t3 r4 t5 hw hT hF hl
    refine lv_iload_n hx hb dX8_ghostComesAsTold_79 rfl (lv_at hl 1 rfl) ?_
    refine lv_aload_n hx hb dX8_ghostComesAsTold_80 rfl (lv_at hl 0 rfl) ?_
    refine tk_getA hC hK hw hT hinX8 kC_at151 (by decide) rfl 0 (by decide) (List.mem_cons_of_mem _ uw_5_11) rfl rfl dX8_ghostComesAsTold_81 ?_
    refine tk_geti hC hK hw hT hinX5 kC_at38 (by decide) rfl 12 (by decide) (List.mem_cons_of_mem _ uw_65_7) rfl rfl dX8_ghostComesAsTold_84 (fun x6 c7 rx6 tx6 => ?_)
    refine lv_icmp_ne (tgt := 94) hx hb dX8_ghostComesAsTold_87 (by decide) (fun c8 => ?_) (fun c8 => ?_)
    · have c8 : ¬ v79_1.toInt = x6.toInt := wk_eqF c8
      refine lv_iconst (v := 0) hx hb dX8_ghostComesAsTold_94 (by decide) ?_
      exact tk_zret hC hr rfl hlocks hK ⟨hT, hF, (Or.inl rfl)⟩ hw dX8_ghostComesAsTold_95
    · have c8 : v79_1.toInt = x6.toInt := wk_eq.mp c8
      refine lv_iconst (v := 1) hx hb dX8_ghostComesAsTold_90 (by decide) ?_
      refine lv_goto (tgt := 95) hx hb dX8_ghostComesAsTold_91 (by decide) ?_
      exact tk_zret hC hr rfl hlocks hK ⟨hT, hF, (Or.inr rfl)⟩ hw dX8_ghostComesAsTold_95
  have L4 : ∀ (n4 : Nat) (v4_1 : Int32) (v4_2 : Int32) (H : Heap) (locs : List Loc) (ls : Array Slot) (w9 : va_W), 0 ≤ v4_1.toInt → v4_1.toInt ≤ 8 → 0 ≤ v4_2.toInt → v4_2.toInt ≤ 100 → (100 - v4_2.toInt).toNat < n4 → Wd dC dI A s.heap H locs w9 → TW ksC ad cy (B + 0 + 9 * v4_2.toInt) qr s1 w9 → FE ksC [(1, 4, 4), (1, 5, 5), (1, 6, 6), (1, 7, 7), (1, 8, 8), (9, 0, 0), (9, 4, 4), (9, 5, 5), (9, 6, 6), (9, 7, 7), (9, 8, 8), (45, 0, 64)] w0 w9 → lv_has ls 4 [(0, .ref (ad 151)), (1, .int v4_1), (2, .int v4_2)] → W p l e ({ frames := 6, cells := 0, slots := 0, locals := 135 }) s m (List.toArray [.ref (ad 151)]) below meth c H locs 0 0 (MQ below (va_Qi (P_X8_ghostComesAsTold_1 ad cy B qr s1  w0) (fun u : va_W => wpost dC dI cy A u) A) (List.toArray [.ref (ad 151)]) s 0 0 A) (F0 m 4 ls []) := by
    intro n4
    induction n4 with
    | zero => intro v4_1 v4_2 H locs ls w9 r10 t11 r12 t13 hm4 hw hT hF hl; omega
    | succ n4 ih4 =>
      intro v4_1 v4_2 H locs ls w9 r10 t11 r12 t13 hm4 hw hT hF hl
      have J73 : ∀ (v73_1 : Int32) (v73_3 : Int32) (f73_149_8 : Int32) (f73_38_12 : Int32) (H : Heap) (locs : List Loc) (ls : Array Slot) (w14 : va_W), 0 ≤ v73_1.toInt → v73_1.toInt ≤ 8 → 0 ≤ v4_2.toInt → v4_2.toInt ≤ 99 → 0 ≤ f73_149_8.toInt → f73_149_8.toInt ≤ 999999 → 1 ≤ f73_38_12.toInt → f73_38_12.toInt ≤ 8 → Wd dC dI A s.heap H locs w14 → TW ksC ad cy (B + 9 + 9 * v4_2.toInt) qr s1 w14 → FE ksC [(1, 4, 4), (1, 5, 5), (1, 6, 6), (1, 7, 7), (1, 8, 8), (9, 0, 0), (9, 4, 4), (9, 5, 5), (9, 6, 6), (9, 7, 7), (9, 8, 8), (45, 0, 64)] w0 w14 → gi w14 149 8 = f73_149_8 → gi w14 38 12 = f73_38_12 → lv_has ls 4 [(0, .ref (ad 151)), (1, .int v73_1), (2, .int v4_2), (3, .int v73_3)] → W p l e ({ frames := 6, cells := 0, slots := 0, locals := 135 }) s m (List.toArray [.ref (ad 151)]) below meth c H locs 0 0 (MQ below (va_Qi (P_X8_ghostComesAsTold_1 ad cy B qr s1  w0) (fun u : va_W => wpost dC dI cy A u) A) (List.toArray [.ref (ad 151)]) s 0 0 A) (F0 m 73 ls []) := by
        intro v73_1 v73_3 f73_149_8 f73_38_12 H locs ls w14 r15 t16 r17 t18 r19 t20 r22 t23 hw hT hF c21 c24 hl
        obtain ⟨x25, ex25⟩ : ∃ y : Int32, y = v4_2 + Int32.ofInt 1 := ⟨_, rfl⟩
        refine lv_iinc (v := x25) (lv' := [(2, .int x25), (0, .ref (ad 151)), (1, .int v73_1), (3, .int v73_3)]) hx hb dX8_ghostComesAsTold_73 hl (k := 2) rfl ex25.symm (by decide) rfl (fun ls hl => ?_)
        have ex25 : x25.toInt = v4_2.toInt + 1 := by rw [ex25]; exact wk_add (y := 1) (show -2147483648 ≤ v4_2.toInt + 1 by omega) (show v4_2.toInt + 1 ≤ 2147483647 by omega)
        refine lv_goto (tgt := 4) hx hb dX8_ghostComesAsTold_76 (by decide) ?_
        exact ih4 v73_1 x25 H locs ls w14 (show 0 ≤ v73_1.toInt from r15) (show v73_1.toInt ≤ 8 from t16) (show 0 ≤ x25.toInt by first | with_reducible assumption | omega) (show x25.toInt ≤ 100 by first | with_reducible assumption | omega) (show (100 - x25.toInt).toNat < n4 by first | exact tn_lt hm4 (by omega) (by omega) | omega) hw (hT.up (show (B + 9 + 9 * v4_2.toInt) ≤ (B + 0 + 9 * x25.toInt) by omega)) hF  (lv_sub hl [1, 2, 0] rfl)
      have J49 : ∀ (v49_3 : Int32) (f49_149_8 : Int32) (f49_38_12 : Int32) (H : Heap) (locs : List Loc) (ls : Array Slot) (w26 : va_W), 0 ≤ v4_1.toInt → v4_1.toInt ≤ 7 → 0 ≤ v4_2.toInt → v4_2.toInt ≤ 99 → 0 ≤ v49_3.toInt → v49_3.toInt ≤ 1 → 0 ≤ f49_149_8.toInt → f49_149_8.toInt ≤ 999999 → 1 ≤ f49_38_12.toInt → f49_38_12.toInt ≤ 8 → Wd dC dI A s.heap H locs w26 → TW ksC ad cy (B + 9 + 9 * v4_2.toInt) qr s1 w26 → FE ksC [(1, 4, 4), (1, 5, 5), (1, 6, 6), (1, 7, 7), (1, 8, 8), (9, 0, 0), (9, 4, 4), (9, 5, 5), (9, 6, 6), (9, 7, 7), (9, 8, 8), (45, 0, 64)] w0 w26 → gi w26 149 8 = f49_149_8 → gi w26 38 12 = f49_38_12 → lv_has ls 4 [(0, .ref (ad 151)), (1, .int v4_1), (2, .int v4_2), (3, .int v49_3)] → W p l e ({ frames := 6, cells := 0, slots := 0, locals := 135 }) s m (List.toArray [.ref (ad 151)]) below meth c H locs 0 0 (MQ below (va_Qi (P_X8_ghostComesAsTold_1 ad cy B qr s1  w0) (fun u : va_W => wpost dC dI cy A u) A) (List.toArray [.ref (ad 151)]) s 0 0 A) (F0 m 49 ls []) := by
        intro v49_3 f49_149_8 f49_38_12 H locs ls w26 r27 t28 r29 t30 r31 t32 r33 t34 r36 t37 hw hT hF c35 c38 hl
        refine lv_aload_n hx hb dX8_ghostComesAsTold_49 rfl (lv_at hl 0 rfl) ?_
        refine tk_getA hC hK hw hT hinX8 kC_at151 (by decide) rfl 3 (by decide) (List.mem_cons_of_mem _ uw_5_8) rfl rfl dX8_ghostComesAsTold_50 ?_
        refine tk_geti hC hK hw hT hinX9 kC_at152 (by decide) rfl 0 (by decide) (List.mem_cons_of_mem _ uw_55_3) rfl rfl dX8_ghostComesAsTold_53 (fun x39 c40 rx39 tx39 => ?_)
        refine lv_aload_n hx hb dX8_ghostComesAsTold_56 rfl (lv_at hl 0 rfl) ?_
        refine tk_getA hC hK hw hT hinX8 kC_at151 (by decide) rfl 0 (by decide) (List.mem_cons_of_mem _ uw_5_11) rfl rfl dX8_ghostComesAsTold_57 ?_
        refine tk_getO hC hK hw hT hinX5 kC_at38 (by decide) rfl 7 (by decide) (List.mem_cons_of_mem _ uw_65_8) rfl rfl dX8_ghostComesAsTold_60 ?_
        refine lv_iload_n hx hb dX8_ghostComesAsTold_63 rfl (lv_at hl 1 rfl) ?_
        refine tk_iald hC hK hw hT kC_at54 rfl rfl (show 0 ≤ v4_1.toInt from r27) (show v4_1.toInt < 8 from Int.lt_of_le_of_lt t28 (by decide)) dX8_ghostComesAsTold_64 (fun x41 c42 rx41 tx41 => ?_)
        refine lv_icmp_eq (tgt := 70) hx hb dX8_ghostComesAsTold_65 (by decide) (fun c43 => ?_) (fun c43 => ?_)
        · have c43 : x39.toInt = x41.toInt := wk_eq.mp c43
          obtain ⟨x44, ex44⟩ : ∃ y : Int32, y = v4_1 + Int32.ofInt 1 := ⟨_, rfl⟩
          refine lv_iinc (v := x44) (lv' := [(1, .int x44), (0, .ref (ad 151)), (2, .int v4_2), (3, .int v49_3)]) hx hb dX8_ghostComesAsTold_70 hl (k := 1) rfl ex44.symm (by decide) rfl (fun ls hl => ?_)
          have ex44 : x44.toInt = v4_1.toInt + 1 := by rw [ex44]; exact wk_add (y := 1) (show -2147483648 ≤ v4_1.toInt + 1 by omega) (show v4_1.toInt + 1 ≤ 2147483647 by omega)
          exact J73 x44 v49_3 f49_149_8 f49_38_12 H locs ls w26 (show 0 ≤ x44.toInt by first | with_reducible assumption | omega) (show x44.toInt ≤ 8 by first | with_reducible assumption | omega) (show 0 ≤ v4_2.toInt from r29) (show v4_2.toInt ≤ 99 from t30) (show 0 ≤ f49_149_8.toInt from r33) (show f49_149_8.toInt ≤ 999999 from t34) (show 1 ≤ f49_38_12.toInt from r36) (show f49_38_12.toInt ≤ 8 from t37)  hw hT hF c35 c38 (lv_sub hl [1, 0, 2, 3] rfl)
        · have c43 : ¬ x39.toInt = x41.toInt := wk_eqF c43
          refine lv_iconst (v := 0) hx hb dX8_ghostComesAsTold_68 (by decide) ?_
          exact tk_zret hC hr rfl hlocks hK ⟨(hT.up (show (B + 9 + 9 * v4_2.toInt) ≤ (B + 900) by omega)), hF, (Or.inl rfl)⟩ hw dX8_ghostComesAsTold_69
      refine lv_iload_n hx hb dX8_ghostComesAsTold_4 rfl (lv_at hl 2 rfl) ?_
      refine lv_bipush (v := 100) hx hb dX8_ghostComesAsTold_5 (by decide) ?_
      refine lv_icmp_ge (tgt := 79) hx hb dX8_ghostComesAsTold_7 (by decide) (fun c45 => ?_) (fun c45 => ?_)
      · have c45 : (100 : Int) ≤ v4_2.toInt := wk_le.mp c45
        exact J79 v4_1 v4_2 H locs ls w9 (show 0 ≤ v4_1.toInt from r10) (show v4_1.toInt ≤ 8 from t11) (show 0 ≤ v4_2.toInt from r12) (show v4_2.toInt ≤ 100 from t13)  hw (hT.up (show (B + 0 + 9 * v4_2.toInt) ≤ (B + 900) by omega)) hF  (lv_sub hl [0, 1, 2] rfl)
      · have c45 : v4_2.toInt < (100 : Int) := wk_leF c45
        refine lv_iload_n hx hb dX8_ghostComesAsTold_10 rfl (lv_at hl 1 rfl) ?_
        refine lv_aload_n hx hb dX8_ghostComesAsTold_11 rfl (lv_at hl 0 rfl) ?_
        refine tk_getA hC hK hw hT hinX8 kC_at151 (by decide) rfl 0 (by decide) (List.mem_cons_of_mem _ uw_5_11) rfl rfl dX8_ghostComesAsTold_12 ?_
        refine tk_geti hC hK hw hT hinX5 kC_at38 (by decide) rfl 12 (by decide) (List.mem_cons_of_mem _ uw_65_7) rfl rfl dX8_ghostComesAsTold_15 (fun x46 c47 rx46 tx46 => ?_)
        refine lv_icmp_ge (tgt := 79) hx hb dX8_ghostComesAsTold_18 (by decide) (fun c48 => ?_) (fun c48 => ?_)
        · have c48 : x46.toInt ≤ v4_1.toInt := wk_le.mp c48
          exact J79 v4_1 v4_2 H locs ls w9 (show 0 ≤ v4_1.toInt from r10) (show v4_1.toInt ≤ 8 from t11) (show 0 ≤ v4_2.toInt from r12) (show v4_2.toInt ≤ 100 from t13)  hw (hT.up (show (B + 0 + 9 * v4_2.toInt) ≤ (B + 900) by omega)) hF  (lv_sub hl [0, 1, 2] rfl)
        · have c48 : v4_1.toInt < x46.toInt := wk_leF c48
          refine lv_aload_n hx hb dX8_ghostComesAsTold_21 rfl (lv_at hl 0 rfl) ?_
          refine tk_getA hC hK hw hT hinX8 kC_at151 (by decide) rfl 2 (by decide) (List.mem_cons_of_mem _ uw_5_13) rfl rfl dX8_ghostComesAsTold_22 ?_
          refine lv_aload_n hx hb dX8_ghostComesAsTold_25 rfl (lv_at hl 0 rfl) ?_
          refine tk_getA hC hK hw hT hinX8 kC_at151 (by decide) rfl 3 (by decide) (List.mem_cons_of_mem _ uw_5_8) rfl rfl dX8_ghostComesAsTold_26 ?_
          refine tk_Vi hC hK hw hT hA hE hSR kC_at149 (by decide) rfl (k_X1_takeStep_2 l adK adV dC dI cy ad (B + 0 + 9 * v4_2.toInt) (by omega) (by omega) qr s1    w9 H.size hT ) (cwV 1 hC.2.2.2.2 uV_RX8_71 rfl rfl rfl (by decide +kernel) ⟨Nat.le_of_ble_eq_true rfl, Nat.le_of_ble_eq_true rfl⟩) rfl hl.1 rfl (Nat.le_of_ble_eq_true rfl) dX8_ghostComesAsTold_29 (fun r49 w51 H locs hp50 hw => ?_)
          obtain ⟨hT, k52, hg55⟩ := hp50
          have hT := hT.up (B' := (B + 9 + 9 * v4_2.toInt)) (by omega)
          have hF := hF.tr k52 (by decide)
          have c56 := k52.gi kC_at38 (by decide) c47
          rcases hg55 with ⟨x53, c54, rx53, tx53⟩ | rfl
          · refine lv_istore_n (lv' := [(3, .int r49), (0, .ref (ad 151)), (1, .int v4_1), (2, .int v4_2)]) hx hb dX8_ghostComesAsTold_32 rfl hl (by decide) rfl (fun ls hl => ?_)
            refine lv_iload_n hx hb dX8_ghostComesAsTold_33 rfl (lv_at hl 0 rfl) ?_
            refine lv_iconst (v := 4) hx hb dX8_ghostComesAsTold_34 (by decide) ?_
            refine lv_icmp_ne (tgt := 40) hx hb dX8_ghostComesAsTold_35 (by decide) (fun c57 => ?_) (fun c57 => ?_)
            · have c57 : ¬ r49.toInt = (4 : Int) := wk_eqF c57
              refine lv_iload_n hx hb dX8_ghostComesAsTold_40 rfl (lv_at hl 0 rfl) ?_
              refine lv_if_eq (tgt := 49) hx hb dX8_ghostComesAsTold_41 (by decide) (fun c58 => ?_) (fun c58 => ?_)
              · have c58 : r49.toInt = (0 : Int) := wk_eq.mp c58
                exact J49 r49 x53 x46 H locs ls w51 (show 0 ≤ v4_1.toInt from r10) (show v4_1.toInt ≤ 7 by first | with_reducible assumption | omega) (show 0 ≤ v4_2.toInt from r12) (show v4_2.toInt ≤ 99 by first | with_reducible assumption | omega) (show 0 ≤ r49.toInt by first | with_reducible assumption | omega) (show r49.toInt ≤ 1 by first | with_reducible assumption | omega) (show 0 ≤ x53.toInt by first | with_reducible assumption | omega) (show x53.toInt ≤ 999999 by first | with_reducible assumption | omega) (show 1 ≤ x46.toInt by first | with_reducible assumption | omega) (show x46.toInt ≤ 8 from tx46)  hw hT hF c54 c56 (lv_sub hl [1, 2, 3, 0] rfl)
              · have c58 : ¬ r49.toInt = (0 : Int) := wk_eqF c58
                refine lv_iload_n hx hb dX8_ghostComesAsTold_44 rfl (lv_at hl 0 rfl) ?_
                refine lv_iconst (v := 1) hx hb dX8_ghostComesAsTold_45 (by decide) ?_
                refine lv_icmp_ne (tgt := 73) hx hb dX8_ghostComesAsTold_46 (by decide) (fun c59 => ?_) (fun c59 => ?_)
                · have c59 : ¬ r49.toInt = (1 : Int) := wk_eqF c59
                  exact J73 v4_1 r49 x53 x46 H locs ls w51 (show 0 ≤ v4_1.toInt from r10) (show v4_1.toInt ≤ 8 from t11) (show 0 ≤ v4_2.toInt from r12) (show v4_2.toInt ≤ 99 by first | with_reducible assumption | omega) (show 0 ≤ x53.toInt by first | with_reducible assumption | omega) (show x53.toInt ≤ 999999 by first | with_reducible assumption | omega) (show 1 ≤ x46.toInt by first | with_reducible assumption | omega) (show x46.toInt ≤ 8 from tx46)  hw hT hF c54 c56 (lv_sub hl [1, 2, 3, 0] rfl)
                · have c59 : r49.toInt = (1 : Int) := wk_eq.mp c59
                  exact J49 r49 x53 x46 H locs ls w51 (show 0 ≤ v4_1.toInt from r10) (show v4_1.toInt ≤ 7 by first | with_reducible assumption | omega) (show 0 ≤ v4_2.toInt from r12) (show v4_2.toInt ≤ 99 by first | with_reducible assumption | omega) (show 0 ≤ r49.toInt by first | with_reducible assumption | omega) (show r49.toInt ≤ 1 by first | with_reducible assumption | omega) (show 0 ≤ x53.toInt by first | with_reducible assumption | omega) (show x53.toInt ≤ 999999 by first | with_reducible assumption | omega) (show 1 ≤ x46.toInt by first | with_reducible assumption | omega) (show x46.toInt ≤ 8 from tx46)  hw hT hF c54 c56 (lv_sub hl [1, 2, 3, 0] rfl)
            · have c57 : r49.toInt = (4 : Int) := wk_eq.mp c57
              refine lv_iconst (v := 0) hx hb dX8_ghostComesAsTold_38 (by decide) ?_
              exact tk_zret hC hr rfl hlocks hK ⟨(hT.up (show (B + 9 + 9 * v4_2.toInt) ≤ (B + 900) by omega)), hF, (Or.inl rfl)⟩ hw dX8_ghostComesAsTold_39
          · refine lv_istore_n (lv' := [(3, .int 4), (0, .ref (ad 151)), (1, .int v4_1), (2, .int v4_2)]) hx hb dX8_ghostComesAsTold_32 rfl hl (by decide) rfl (fun ls hl => ?_)
            refine lv_iload_n hx hb dX8_ghostComesAsTold_33 rfl (lv_at hl 0 rfl) ?_
            refine lv_iconst (v := 4) hx hb dX8_ghostComesAsTold_34 (by decide) ?_
            refine lv_icmp_ne (tgt := 40) hx hb dX8_ghostComesAsTold_35 (by decide) (fun c => absurd (by decide) c) (fun _ => ?_)
            refine lv_iconst (v := 0) hx hb dX8_ghostComesAsTold_38 (by decide) ?_
            exact tk_zret hC hr rfl hlocks hK ⟨(hT.up (show (B + 9 + 9 * v4_2.toInt) ≤ (B + 900) by omega)), hF, (Or.inl rfl)⟩ hw dX8_ghostComesAsTold_39
  refine lv_iconst (v := 0) hx hb dX8_ghostComesAsTold_0 (by decide) ?_
  refine lv_istore_n (lv' := [(1, .int 0), (0, .ref (ad 151))]) hx hb dX8_ghostComesAsTold_1 rfl hl (by decide) rfl (fun ls hl => ?_)
  refine lv_iconst (v := 0) hx hb dX8_ghostComesAsTold_2 (by decide) ?_
  refine lv_istore_n (lv' := [(2, .int 0), (1, .int 0), (0, .ref (ad 151))]) hx hb dX8_ghostComesAsTold_3 rfl hl (by decide) rfl (fun ls hl => ?_)
  exact L4 ((100 - (0 : Int)).toNat + 1) 0 0 s.heap locs ls w0 (by decide) (by decide) (by decide) (by decide) (Nat.lt_succ_self _) hw (hT.up (show B ≤ (B + 0 + 9 * (0 : Int32).toInt) by rw [show (0 : Int32).toInt = 0 by decide]; omega)) hF  (lv_sub hl [2, 1, 0] rfl)
