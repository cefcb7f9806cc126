abbrev P_X4_findLatest_1 (ad : Nat → Nat) (cy : Nat → ClassId) (B : Int) (qr : Nat) (s1 : Int) (a1 : Int32) (a2 : Int32) (a3 : Int32) (w0 : va_W) : va_W → Prop := fun u => TW ksC ad cy B qr s1 u ∧ FE ksC [(48, 0, 10), (49, 0, 10)] w0 u ∧ ((True))
set_option maxHeartbeats 4000000 in
set_option maxRecDepth 100000 in
theorem k_X4_findLatest_1 (l : Launch) (adK adV : Nat → Nat) (dC : Nat → ClassId) (dI : Nat → Nat → Nat) (cy : Nat → ClassId) (ad : Nat → Nat) (B : Int) (hB0 : 2147483648 ≤ B) (hB1 : B ≤ 1152921504606846976) (qr : Nat) (s1 : Int)  (a1 : Int32) (ra1 : 0 ≤ a1.toInt) (ta1 : a1.toInt ≤ 9) (a2 : Int32) (ra2 : 0 ≤ a2.toInt) (ta2 : a2.toInt ≤ 99999) (a3 : Int32) (ra3 : 0 ≤ a3.toInt) (ta3 : a3.toInt ≤ 102119) (w0 : va_W) (sz : Nat) (hT : TW ksC ad cy B qr s1 w0)  : Met l yX4_findLatest (wu yX4_findLatest cX4_findLatest 7 none) ({ frames := 4, cells := 0, slots := 0, locals := 94 }) (va_Pc [.ref (ad 155), .int a1, .int a2, .int a3] (wpreS adK adV dC dI cy sz w0)) (va_Qv (P_X4_findLatest_1 ad cy B qr s1 a1 a2 a3 w0) (fun u : va_W => wpost dC dI cy (va_A w0 sz) u) (va_A w0 sz)) 0 0 (va_A w0 sz) := by
  refine Met.ofW (cc := cX4_findLatest) (maxL := 7) (ret := none) (by decide) rfl ?_
  intro p e s m args below meth c s₁ Bk hml hv
  obtain ⟨rfl, ⟨hsz, hP, hK, hD0⟩, hE, hSR⟩ := hv
  have hx := Bk.exec
  have hb := Bk.bytes
  have hr := Bk.returns
  have hlocks := Bk.notSynchronized
  have hC : CallFix p m c cX4_findLatest 7 s _ (wu yX4_findLatest cX4_findLatest 7 none) RX4 := ⟨hx, hb, hml, findClass_of_methodNamed Bk.named, atoms_spec (ws := (wu yX4_findLatest cX4_findLatest 7 none)) Bk.pre⟩
  subst hsz
  have hD := hD0.self (sz := s.heap.size)
  generalize hAe : va_A w0 s.heap.size = A at hD hE ⊢
  have hA : ∀ q : Nat, s.heap.size ≤ q → A q := fun q h => by rw [← hAe]; exact Or.inr h
  have hw : Wd dC dI A s.heap s.heap [] w0 := ⟨hP, hD, va_S.rf⟩
  have hF : FE ksC [(48, 0, 10), (49, 0, 10)] w0 w0 := FE.rf
  have hl := lv_entry ([.ref (ad 155), .int a1, .int a2, .int a3]) (n := 7) (Nat.le_of_ble_eq_true rfl)
  rw [lg_entry_eq]
  generalize (lg_sl ([.ref (ad 155), .int a1, .int a2, .int a3]) ++ List.replicate (7 - (lg_sl ([.ref (ad 155), .int a1, .int a2, .int a3])).length) Slot.unset).toArray = ls at hl ⊢
  have hl : lv_has ls 7 [(0, .ref (ad 155)), (1, .int a1), (2, .int a2), (3, .int a3)] := hl
  generalize hloc : ([] : List Loc) = locs at hw ⊢
  have hinX4 : ∀ w ∈ u_ws RX4 TX4 4, w ∈ (wu yX4_findLatest cX4_findLatest 7 none) := fun _ h => List.mem_cons_of_mem _ (up_80 h)
  have hinX7 : ∀ w ∈ u_ws RX7 TX7 12, w ∈ (wu yX4_findLatest cX4_findLatest 7 none) := fun _ h => List.mem_cons_of_mem _ (up_73 h)
  have L14 : ∀ (n14 : Nat) (v14_4 : Int32) (H : Heap) (locs : List Loc) (ls : Array Slot) (w1 : va_W), 0 ≤ a1.toInt → a1.toInt ≤ 9 → 0 ≤ a2.toInt → a2.toInt ≤ 99999 → 0 ≤ a3.toInt → a3.toInt ≤ 102119 → 0 ≤ v14_4.toInt → v14_4.toInt ≤ 10 → (10 - v14_4.toInt).toNat < n14 → Wd dC dI A s.heap H locs w1 → TW ksC ad cy B qr s1 w1 → FE ksC [(48, 0, 10), (49, 0, 10)] w0 w1 → lv_has ls 7 [(0, .ref (ad 155)), (1, .int a1), (2, .int a2), (3, .int a3), (4, .int v14_4)] → W p l e ({ frames := 4, cells := 0, slots := 0, locals := 94 }) s m (List.toArray [.ref (ad 155), .int a1, .int a2, .int a3]) below meth c H locs 0 0 (MQ below (va_Qv (P_X4_findLatest_1 ad cy B qr s1 a1 a2 a3 w0) (fun u : va_W => wpost dC dI cy A u) A) (List.toArray [.ref (ad 155), .int a1, .int a2, .int a3]) s 0 0 A) (F0 m 14 ls []) := by
    intro n14
    induction n14 with
    | zero => intro v14_4 H locs ls w1 r2 t3 r4 t5 r6 t7 r8 t9 hm14 hw hT hF hl; omega
    | succ n14 ih14 =>
      intro v14_4 H locs ls w1 r2 t3 r4 t5 r6 t7 r8 t9 hm14 hw hT hF hl
      have L50 : ∀ (n50 : Nat) (v50_5 : Int32) (v50_6 : Int32) (f50_39_8 : Int32) (H : Heap) (locs : List Loc) (ls : Array Slot) (w10 : va_W), 0 ≤ a1.toInt → a1.toInt ≤ 9 → 0 ≤ a2.toInt → a2.toInt ≤ 99999 → 0 ≤ a3.toInt → a3.toInt ≤ 102119 → 0 ≤ v14_4.toInt → v14_4.toInt ≤ 9 → 0 ≤ v50_5.toInt → v50_5.toInt ≤ 9 → 0 ≤ v50_6.toInt → v50_6.toInt ≤ 12 → 1 ≤ f50_39_8.toInt → f50_39_8.toInt ≤ 10 → (12 - v50_6.toInt).toNat < n50 → Wd dC dI A s.heap H locs w10 → TW ksC ad cy B qr s1 w10 → FE ksC [(48, 0, 10), (49, 0, 10)] w0 w10 → gi w10 39 8 = f50_39_8 → lv_has ls 7 [(0, .ref (ad 155)), (1, .int a1), (2, .int a2), (3, .int a3), (4, .int v14_4), (5, .int v50_5), (6, .int v50_6)] → W p l e ({ frames := 4, cells := 0, slots := 0, locals := 94 }) s m (List.toArray [.ref (ad 155), .int a1, .int a2, .int a3]) below meth c H locs 0 0 (MQ below (va_Qv (P_X4_findLatest_1 ad cy B qr s1 a1 a2 a3 w0) (fun u : va_W => wpost dC dI cy A u) A) (List.toArray [.ref (ad 155), .int a1, .int a2, .int a3]) s 0 0 A) (F0 m 50 ls []) := by
        intro n50
        induction n50 with
        | zero => intro v50_5 v50_6 f50_39_8 H locs ls w10 r11 t12 r13 t14 r15 t16 r17 t18 r19 t20 r21 t22 r23 t24 hm50 hw hT hF c25 hl; omega
        | succ n50 ih50 =>
          intro v50_5 v50_6 f50_39_8 H locs ls w10 r11 t12 r13 t14 r15 t16 r17 t18 r19 t20 r21 t22 r23 t24 hm50 hw hT hF c25 hl
          refine lv_iload hx hb dX4_findLatest_50 (lv_at hl 6 rfl) ?_
          refine lv_aload_n hx hb dX4_findLatest_52 rfl (lv_at hl 0 rfl) ?_
          refine tk_getA hC hK hw hT hinX4 kC_at155 (by decide) rfl 1 (by decide) (List.mem_cons_of_mem _ uw_5_23) rfl rfl dX4_findLatest_53 ?_
          refine tk_geti hC hK hw hT hinX7 kC_at39 (by decide) rfl 9 (by decide) (List.mem_cons_of_mem _ uw_51_18) rfl rfl dX4_findLatest_56 (fun x26 c27 rx26 tx26 => ?_)
          refine lv_icmp_ge (tgt := 77) hx hb dX4_findLatest_59 (by decide) (fun c28 => ?_) (fun c28 => ?_)
          · have c28 : x26.toInt ≤ v50_6.toInt := wk_le.mp c28
            obtain ⟨x29, ex29⟩ : ∃ y : Int32, y = v14_4 + Int32.ofInt 1 := ⟨_, rfl⟩
            refine lv_iinc (v := x29) (lv' := [(4, .int x29), (0, .ref (ad 155)), (1, .int a1), (2, .int a2), (3, .int a3), (5, .int v50_5), (6, .int v50_6)]) hx hb dX4_findLatest_77 hl (k := 4) rfl ex29.symm (by decide) rfl (fun ls hl => ?_)
            have ex29 : x29.toInt = v14_4.toInt + 1 := by rw [ex29]; exact wk_add (y := 1) (show -2147483648 ≤ v14_4.toInt + 1 by omega) (show v14_4.toInt + 1 ≤ 2147483647 by omega)
            refine lv_goto (tgt := 14) hx hb dX4_findLatest_80 (by decide) ?_
            exact ih14 x29 H locs ls w10 (show 0 ≤ a1.toInt from r11) (show a1.toInt ≤ 9 from t12) (show 0 ≤ a2.toInt from r13) (show a2.toInt ≤ 99999 from t14) (show 0 ≤ a3.toInt from r15) (show a3.toInt ≤ 102119 from t16) (show 0 ≤ x29.toInt by first | with_reducible assumption | omega) (show x29.toInt ≤ 10 by first | with_reducible assumption | omega) (show (10 - x29.toInt).toNat < n14 by first | exact tn_lt hm14 (by omega) (by omega) | omega) hw hT hF  (lv_sub hl [1, 2, 3, 4, 0] rfl)
          · have c28 : v50_6.toInt < x26.toInt := wk_leF c28
            refine lv_aload_n hx hb dX4_findLatest_62 rfl (lv_at hl 0 rfl) ?_
            refine lv_iload hx hb dX4_findLatest_63 (lv_at hl 6 rfl) ?_
            refine lv_iload hx hb dX4_findLatest_65 (lv_at hl 5 rfl) ?_
            refine lv_iload_n hx hb dX4_findLatest_67 rfl (lv_at hl 2 rfl) ?_
            refine tk_Vv hC hK hw hT hA hE hSR kC_at155 (by decide) rfl (k_X4_leaveBy_1 l adK adV dC dI cy ad B hB0 (Int.le_trans hB1 (by decide)) qr s1   v50_6 (show 0 ≤ v50_6.toInt from r21) (show v50_6.toInt ≤ 11 by first | with_reducible assumption | omega) v50_5 (show 0 ≤ v50_5.toInt from r19) (show v50_5.toInt ≤ 9 from t20) a2 (show 0 ≤ a2.toInt from r13) (show a2.toInt ≤ 99999 from t14) w10 H.size hT ) (cwV 3 hC.2.2.2.2 uV_RX4_76 rfl rfl rfl (by decide +kernel) ⟨Nat.le_of_ble_eq_true rfl, Nat.le_of_ble_eq_true rfl⟩) rfl hl.1 rfl (Nat.le_of_ble_eq_true rfl) dX4_findLatest_68 (fun w32 H locs hp31 hw => ?_)
            obtain ⟨hT, k33, hg36⟩ := hp31
            have hF := hF.tr k33 (by decide)
            have c37 := k33.gi kC_at39 (by decide) c25
            have c38 := k33.gi kC_at39 (by decide) c27
            rcases hg36 with c34 | c35 | -
            · obtain ⟨x39, ex39⟩ : ∃ y : Int32, y = v50_6 + Int32.ofInt 1 := ⟨_, rfl⟩
              refine lv_iinc (v := x39) (lv' := [(6, .int x39), (0, .ref (ad 155)), (1, .int a1), (2, .int a2), (3, .int a3), (4, .int v14_4), (5, .int v50_5)]) hx hb dX4_findLatest_71 hl (k := 6) rfl ex39.symm (by decide) rfl (fun ls hl => ?_)
              have ex39 : x39.toInt = v50_6.toInt + 1 := by rw [ex39]; exact wk_add (y := 1) (show -2147483648 ≤ v50_6.toInt + 1 by omega) (show v50_6.toInt + 1 ≤ 2147483647 by omega)
              refine lv_goto (tgt := 50) hx hb dX4_findLatest_74 (by decide) ?_
              exact ih50 v50_5 x39 f50_39_8 H locs ls w32 (show 0 ≤ a1.toInt from r11) (show a1.toInt ≤ 9 from t12) (show 0 ≤ a2.toInt from r13) (show a2.toInt ≤ 99999 from t14) (show 0 ≤ a3.toInt from r15) (show a3.toInt ≤ 102119 from t16) (show 0 ≤ v14_4.toInt from r17) (show v14_4.toInt ≤ 9 from t18) (show 0 ≤ v50_5.toInt from r19) (show v50_5.toInt ≤ 9 from t20) (show 0 ≤ x39.toInt by first | with_reducible assumption | omega) (show x39.toInt ≤ 12 by first | with_reducible assumption | omega) (show 1 ≤ f50_39_8.toInt from r23) (show f50_39_8.toInt ≤ 10 from t24) (show (12 - x39.toInt).toNat < n50 by first | exact tn_lt hm50 (by omega) (by omega) | omega) hw hT hF c37 (lv_sub hl [1, 2, 3, 4, 5, 6, 0] rfl)
            · obtain ⟨x40, ex40⟩ : ∃ y : Int32, y = v50_6 + Int32.ofInt 1 := ⟨_, rfl⟩
              refine lv_iinc (v := x40) (lv' := [(6, .int x40), (0, .ref (ad 155)), (1, .int a1), (2, .int a2), (3, .int a3), (4, .int v14_4), (5, .int v50_5)]) hx hb dX4_findLatest_71 hl (k := 6) rfl ex40.symm (by decide) rfl (fun ls hl => ?_)
              have ex40 : x40.toInt = v50_6.toInt + 1 := by rw [ex40]; exact wk_add (y := 1) (show -2147483648 ≤ v50_6.toInt + 1 by omega) (show v50_6.toInt + 1 ≤ 2147483647 by omega)
              refine lv_goto (tgt := 50) hx hb dX4_findLatest_74 (by decide) ?_
              exact ih50 v50_5 x40 f50_39_8 H locs ls w32 (show 0 ≤ a1.toInt from r11) (show a1.toInt ≤ 9 from t12) (show 0 ≤ a2.toInt from r13) (show a2.toInt ≤ 99999 from t14) (show 0 ≤ a3.toInt from r15) (show a3.toInt ≤ 102119 from t16) (show 0 ≤ v14_4.toInt from r17) (show v14_4.toInt ≤ 9 from t18) (show 0 ≤ v50_5.toInt from r19) (show v50_5.toInt ≤ 9 from t20) (show 0 ≤ x40.toInt by first | with_reducible assumption | omega) (show x40.toInt ≤ 12 by first | with_reducible assumption | omega) (show 1 ≤ f50_39_8.toInt from r23) (show f50_39_8.toInt ≤ 10 from t24) (show (12 - x40.toInt).toNat < n50 by first | exact tn_lt hm50 (by omega) (by omega) | omega) hw hT hF c37 (lv_sub hl [1, 2, 3, 4, 5, 6, 0] rfl)
            · obtain ⟨x41, ex41⟩ : ∃ y : Int32, y = v50_6 + Int32.ofInt 1 := ⟨_, rfl⟩
              refine lv_iinc (v := x41) (lv' := [(6, .int x41), (0, .ref (ad 155)), (1, .int a1), (2, .int a2), (3, .int a3), (4, .int v14_4), (5, .int v50_5)]) hx hb dX4_findLatest_71 hl (k := 6) rfl ex41.symm (by decide) rfl (fun ls hl => ?_)
              have ex41 : x41.toInt = v50_6.toInt + 1 := by rw [ex41]; exact wk_add (y := 1) (show -2147483648 ≤ v50_6.toInt + 1 by omega) (show v50_6.toInt + 1 ≤ 2147483647 by omega)
              refine lv_goto (tgt := 50) hx hb dX4_findLatest_74 (by decide) ?_
              exact ih50 v50_5 x41 f50_39_8 H locs ls w32 (show 0 ≤ a1.toInt from r11) (show a1.toInt ≤ 9 from t12) (show 0 ≤ a2.toInt from r13) (show a2.toInt ≤ 99999 from t14) (show 0 ≤ a3.toInt from r15) (show a3.toInt ≤ 102119 from t16) (show 0 ≤ v14_4.toInt from r17) (show v14_4.toInt ≤ 9 from t18) (show 0 ≤ v50_5.toInt from r19) (show v50_5.toInt ≤ 9 from t20) (show 0 ≤ x41.toInt by first | with_reducible assumption | omega) (show x41.toInt ≤ 12 by first | with_reducible assumption | omega) (show 1 ≤ f50_39_8.toInt from r23) (show f50_39_8.toInt ≤ 10 from t24) (show (12 - x41.toInt).toNat < n50 by first | exact tn_lt hm50 (by omega) (by omega) | omega) hw hT hF c37 (lv_sub hl [1, 2, 3, 4, 5, 6, 0] rfl)
      refine lv_iload hx hb dX4_findLatest_14 (lv_at hl 4 rfl) ?_
      refine lv_aload_n hx hb dX4_findLatest_16 rfl (lv_at hl 0 rfl) ?_
      refine tk_getA hC hK hw hT hinX4 kC_at155 (by decide) rfl 1 (by decide) (List.mem_cons_of_mem _ uw_5_23) rfl rfl dX4_findLatest_17 ?_
      refine tk_geti hC hK hw hT hinX7 kC_at39 (by decide) rfl 8 (by decide) (List.mem_cons_of_mem _ uw_49_18) rfl rfl dX4_findLatest_20 (fun x42 c43 rx42 tx42 => ?_)
      refine lv_icmp_ge (tgt := 83) hx hb dX4_findLatest_23 (by decide) (fun c44 => ?_) (fun c44 => ?_)
      · have c44 : x42.toInt ≤ v14_4.toInt := wk_le.mp c44
        exact tk_vret hC hr hlocks hK ⟨hT, hF, trivial⟩ hw dX4_findLatest_83
      · have c44 : v14_4.toInt < x42.toInt := wk_leF c44
        refine lv_aload_n hx hb dX4_findLatest_26 rfl (lv_at hl 0 rfl) ?_
        refine tk_Vi hC hK hw hT hA hE hSR kC_at155 (by decide) rfl (k_X4_latestUnsettled_1 l adK adV dC dI cy ad B hB0 (Int.le_trans hB1 (by decide)) qr s1    w1 H.size hT ) (cwV 0 hC.2.2.2.2 uV_RX4_73 rfl rfl rfl (by decide +kernel) ⟨Nat.le_of_ble_eq_true rfl, Nat.le_of_ble_eq_true rfl⟩) rfl hl.1 rfl (Nat.le_of_ble_eq_true rfl) dX4_findLatest_27 (fun r45 w47 H locs hp46 hw => ?_)
        obtain ⟨hT, k48, hg51⟩ := hp46
        have hF := hF.tr k48 (by decide)
        have c52 := k48.gi kC_at39 (by decide) c43
        obtain ⟨g49, g50⟩ := hg51
        refine lv_istore (lv' := [(5, .int r45), (0, .ref (ad 155)), (1, .int a1), (2, .int a2), (3, .int a3), (4, .int v14_4)]) hx hb dX4_findLatest_30 hl (by decide) rfl (fun ls hl => ?_)
        refine lv_iload hx hb dX4_findLatest_32 (lv_at hl 0 rfl) ?_
        refine lv_iconst (v := (-1)) hx hb dX4_findLatest_34 (by decide) ?_
        refine lv_icmp_ne (tgt := 39) hx hb dX4_findLatest_35 (by decide) (fun c53 => ?_) (fun c53 => ?_)
        · have c53 : ¬ r45.toInt = (-1 : Int) := wk_eqF c53
          refine lv_aload_n hx hb dX4_findLatest_39 rfl (lv_at hl 1 rfl) ?_
          refine tk_getA hC hK hw hT hinX4 kC_at155 (by decide) rfl 3 (by decide) (List.mem_cons_of_mem _ uw_5_20) rfl rfl dX4_findLatest_40 ?_
          refine lv_iload hx hb dX4_findLatest_43 (lv_at hl 0 rfl) ?_
          refine lv_iconst (v := 1) hx hb dX4_findLatest_45 (by decide) ?_
          refine tk_zast hC hK hw hT kC_at157 (by decide) rfl rfl (show 0 ≤ r45.toInt by first | with_reducible assumption | omega) (show r45.toInt < 10 by first | with_reducible assumption | omega) (by decide) (by decide) dX4_findLatest_46 (fun H locs w54 hw hT k56 c55 => ?_)
          have hF := hF.put kC_at157 (inE_of (a := 0) (b := 10) (by decide) (show 0 ≤ r45.toInt.toNat by omega) (show r45.toInt.toNat ≤ 10 by omega)) k56
          have c57 := k56.gi (Or.inl (tk_ne kC_at39 kC_at157 (by decide))) c52
          refine lv_iconst (v := 0) hx hb dX4_findLatest_47 (by decide) ?_
          refine lv_istore (lv' := [(6, .int 0), (5, .int r45), (0, .ref (ad 155)), (1, .int a1), (2, .int a2), (3, .int a3), (4, .int v14_4)]) hx hb dX4_findLatest_48 hl (by decide) rfl (fun ls hl => ?_)
          exact L50 ((12 - (0 : Int)).toNat + 1) r45 0 x42 H locs ls w54 (show 0 ≤ a1.toInt from r2) (show a1.toInt ≤ 9 from t3) (show 0 ≤ a2.toInt from r4) (show a2.toInt ≤ 99999 from t5) (show 0 ≤ a3.toInt from r6) (show a3.toInt ≤ 102119 from t7) (show 0 ≤ v14_4.toInt from r8) (show v14_4.toInt ≤ 9 by first | with_reducible assumption | omega) (show 0 ≤ r45.toInt by first | with_reducible assumption | omega) (show r45.toInt ≤ 9 by first | with_reducible assumption | omega) (by decide) (by decide) (show 1 ≤ x42.toInt by first | with_reducible assumption | omega) (show x42.toInt ≤ 10 from tx42) (Nat.lt_succ_self _) hw hT hF c57 (lv_sub hl [2, 3, 4, 5, 6, 1, 0] rfl)
        · have c53 : r45.toInt = (-1 : Int) := wk_eq.mp c53
          exact tk_vret hC hr hlocks hK ⟨hT, hF, trivial⟩ hw dX4_findLatest_38
  refine lv_aload_n hx hb dX4_findLatest_0 rfl (lv_at hl 0 rfl) ?_
  refine tk_Vv hC hK hw hT hA hE hSR kC_at155 (by decide) rfl (k_X4_clear_1 l adK adV dC dI cy ad B hB0 (Int.le_trans hB1 (by decide)) qr s1    w0 s.heap.size hT ) (cwV 0 hC.2.2.2.2 uV_RX4_30 rfl rfl rfl (by decide +kernel) ⟨Nat.le_of_ble_eq_true rfl, Nat.le_of_ble_eq_true rfl⟩) rfl hl.1 rfl (Nat.le_of_ble_eq_true rfl) dX4_findLatest_1 (fun w60 H locs hp59 hw => ?_)
  obtain ⟨hT, k61, hg62⟩ := hp59
  have hF := hF.tr k61 (by decide)
  clear hg62
  refine lv_aload_n hx hb dX4_findLatest_4 rfl (lv_at hl 0 rfl) ?_
  refine tk_getA hC hK hw hT hinX4 kC_at155 (by decide) rfl 2 (by decide) (List.mem_cons_of_mem _ uw_5_19) rfl rfl dX4_findLatest_5 ?_
  refine lv_iload_n hx hb dX4_findLatest_8 rfl (lv_at hl 1 rfl) ?_
  refine lv_iload_n hx hb dX4_findLatest_9 rfl (lv_at hl 3 rfl) ?_
  refine tk_iast hC hK hw hT kC_at156 (by decide) rfl rfl (show 0 ≤ a1.toInt from ra1) (show a1.toInt < 10 from Int.lt_of_le_of_lt ta1 (by decide)) (show (-1) ≤ a3.toInt from Int.le_trans (by decide) ra3) (show a3.toInt ≤ 102119 from ta3) dX4_findLatest_10 (fun H locs w63 hw hT k65 c64 => ?_)
  have hF := hF.put kC_at156 (inE_of (a := 0) (b := 10) (by decide) (show 0 ≤ a1.toInt.toNat by omega) (show a1.toInt.toNat ≤ 10 by omega)) k65
  refine lv_iconst (v := 0) hx hb dX4_findLatest_11 (by decide) ?_
  refine lv_istore (lv' := [(4, .int 0), (0, .ref (ad 155)), (1, .int a1), (2, .int a2), (3, .int a3)]) hx hb dX4_findLatest_12 hl (by decide) rfl (fun ls hl => ?_)
  exact L14 ((10 - (0 : Int)).toNat + 1) 0 H locs ls w63 (show 0 ≤ a1.toInt from ra1) (show a1.toInt ≤ 9 from ta1) (show 0 ≤ a2.toInt from ra2) (show a2.toInt ≤ 99999 from ta2) (show 0 ≤ a3.toInt from ra3) (show a3.toInt ≤ 102119 from ta3) (by decide) (by decide) (Nat.lt_succ_self _) hw hT hF  (lv_sub hl [1, 2, 3, 4, 0] rfl)
abbrev P_X4_streetOnWay_1 (ad : Nat → Nat) (cy : Nat → ClassId) (B : Int) (qr : Nat) (s1 : Int) (a1 : Int32) (a2 : Int32) (a3 : Int32) (a4 : Int32) (w0 : va_W) : Int32 → va_W → Prop := fun r u => TW ksC ad cy B qr s1 u ∧ FE ksC [(48, 0, 10), (49, 0, 10)] w0 u ∧ ((0 ≤ r.toInt ∧ r.toInt ≤ 11 ∧ a4.toInt ≤ 2000 ∧ (∃ y : Int32, gi u 39 8 = y ∧ 1 ≤ y.toInt ∧ y.toInt ≤ 10) ∧ (∃ y : Int32, gi u 39 9 = y ∧ 1 ≤ y.toInt ∧ y.toInt ≤ 12)) ∨ (r = (-1)))
set_option maxHeartbeats 4000000 in
set_option maxRecDepth 100000 in
theorem k_X4_streetOnWay_1 (l : Launch) (adK adV : Nat → Nat) (dC : Nat → ClassId) (dI : Nat → Nat → Nat) (cy : Nat → ClassId) (ad : Nat → Nat) (B : Int) (hB0 : 2147483648 ≤ B) (hB1 : B ≤ 1152921504606846976) (qr : Nat) (s1 : Int)  (a1 : Int32) (ra1 : 0 ≤ a1.toInt) (ta1 : a1.toInt ≤ 9) (a2 : Int32) (ra2 : 0 ≤ a2.toInt) (ta2 : a2.toInt ≤ 9) (a3 : Int32) (ra3 : 0 ≤ a3.toInt) (ta3 : a3.toInt ≤ 99999) (a4 : Int32) (ra4 : 0 ≤ a4.toInt) (w0 : va_W) (sz : Nat) (hT : TW ksC ad cy B qr s1 w0)  : Met l yX4_streetOnWay (wu yX4_streetOnWay cX4_streetOnWay 11 (some .int)) ({ frames := 5, cells := 0, slots := 0, locals := 122 }) (va_Pc [.ref (ad 155), .int a1, .int a2, .int a3, .int a4] (wpreS adK adV dC dI cy sz w0)) (va_Qi (P_X4_streetOnWay_1 ad cy B qr s1 a1 a2 a3 a4 w0) (fun u : va_W => wpost dC dI cy (va_A w0 sz) u) (va_A w0 sz)) 0 0 (va_A w0 sz) := by
  refine Met.ofW (cc := cX4_streetOnWay) (maxL := 11) (ret := (some .int)) (by decide) rfl ?_
  intro p e s m args below meth c s₁ Bk hml hv
  obtain ⟨rfl, ⟨hsz, hP, hK, hD0⟩, hE, hSR⟩ := hv
  have hx := Bk.exec
  have hb := Bk.bytes
  have hr := Bk.returns
  have hlocks := Bk.notSynchronized
  have hC : CallFix p m c cX4_streetOnWay 11 s _ (wu yX4_streetOnWay cX4_streetOnWay 11 (some .int)) RX4 := ⟨hx, hb, hml, findClass_of_methodNamed Bk.named, atoms_spec (ws := (wu yX4_streetOnWay cX4_streetOnWay 11 (some .int))) Bk.pre⟩
  subst hsz
  have hD := hD0.self (sz := s.heap.size)
  generalize hAe : va_A w0 s.heap.size = A at hD hE ⊢
  have hA : ∀ q : Nat, s.heap.size ≤ q → A q := fun q h => by rw [← hAe]; exact Or.inr h
  have hw : Wd dC dI A s.heap s.heap [] w0 := ⟨hP, hD, va_S.rf⟩
  have hF : FE ksC [(48, 0, 10), (49, 0, 10)] w0 w0 := FE.rf
  have hl := lv_entry ([.ref (ad 155), .int a1, .int a2, .int a3, .int a4]) (n := 11) (Nat.le_of_ble_eq_true rfl)
  rw [lg_entry_eq]
  generalize (lg_sl ([.ref (ad 155), .int a1, .int a2, .int a3, .int a4]) ++ List.replicate (11 - (lg_sl ([.ref (ad 155), .int a1, .int a2, .int a3, .int a4])).length) Slot.unset).toArray = ls at hl ⊢
  have hl : lv_has ls 11 [(0, .ref (ad 155)), (1, .int a1), (2, .int a2), (3, .int a3), (4, .int a4)] := hl
  generalize hloc : ([] : List Loc) = locs at hw ⊢
  have hinX4 : ∀ w ∈ u_ws RX4 TX4 4, w ∈ (wu yX4_streetOnWay cX4_streetOnWay 11 (some .int)) := fun _ h => List.mem_cons_of_mem _ (up_80 h)
  have hinX7 : ∀ w ∈ u_ws RX7 TX7 12, w ∈ (wu yX4_streetOnWay cX4_streetOnWay 11 (some .int)) := fun _ h => List.mem_cons_of_mem _ (up_73 h)
  have L41 : ∀ (n41 : Nat) (v41_5 : Int32) (v41_6 : Int32) (v41_7 : Int32) (v41_8 : Int32) (f41_39_8 : Int32) (f41_39_9 : Int32) (H : Heap) (locs : List Loc) (ls : Array Slot) (w1 : va_W), 0 ≤ a1.toInt → a1.toInt ≤ 9 → 0 ≤ a2.toInt → a2.toInt ≤ 9 → 0 ≤ a3.toInt → a3.toInt ≤ 99999 → 0 ≤ a4.toInt → 0 ≤ v41_5.toInt → v41_5.toInt ≤ 102119 → 0 ≤ v41_6.toInt → v41_6.toInt ≤ 9 → (-1) ≤ v41_7.toInt → v41_7.toInt ≤ 102128 → 0 ≤ v41_8.toInt → v41_8.toInt ≤ 2001 → 1 ≤ f41_39_8.toInt → f41_39_8.toInt ≤ 10 → 0 ≤ f41_39_9.toInt → f41_39_9.toInt ≤ 12 → (2001 - v41_8.toInt).toNat < n41 → Wd dC dI A s.heap H locs w1 → TW ksC ad cy B qr s1 w1 → FE ksC [(48, 0, 10), (49, 0, 10)] w0 w1 → gi w1 39 8 = f41_39_8 → gi w1 39 9 = f41_39_9 → lv_has ls 11 [(0, .ref (ad 155)), (1, .int a1), (2, .int a2), (3, .int a3), (4, .int a4), (5, .int v41_5), (6, .int v41_6), (7, .int v41_7), (8, .int v41_8)] → W p l e ({ frames := 5, cells := 0, slots := 0, locals := 122 }) s m (List.toArray [.ref (ad 155), .int a1, .int a2, .int a3, .int a4]) below meth c H locs 0 0 (MQ below (va_Qi (P_X4_streetOnWay_1 ad cy B qr s1 a1 a2 a3 a4 w0) (fun u : va_W => wpost dC dI cy A u) A) (List.toArray [.ref (ad 155), .int a1, .int a2, .int a3, .int a4]) s 0 0 A) (F0 m 41 ls []) := by
    intro n41
    induction n41 with
    | zero => intro v41_5 v41_6 v41_7 v41_8 f41_39_8 f41_39_9 H locs ls w1 r2 t3 r4 t5 r6 t7 r8 r9 t10 r11 t12 r13 t14 r15 t16 r17 t18 r20 t21 hm41 hw hT hF c19 c22 hl; omega
    | succ n41 ih41 =>
      intro v41_5 v41_6 v41_7 v41_8 f41_39_8 f41_39_9 H locs ls w1 r2 t3 r4 t5 r6 t7 r8 r9 t10 r11 t12 r13 t14 r15 t16 r17 t18 r20 t21 hm41 hw hT hF c19 c22 hl
      refine lv_iload hx hb dX4_streetOnWay_41 (lv_at hl 8 rfl) ?_
      refine lv_iload hx hb dX4_streetOnWay_43 (lv_at hl 4 rfl) ?_
      refine lv_icmp_gt (tgt := 148) hx hb dX4_streetOnWay_45 (by decide) (fun c23 => ?_) (fun c23 => ?_)
      · have c23 : a4.toInt < v41_8.toInt := wk_lt.mp c23
        refine lv_iconst (v := (-1)) hx hb dX4_streetOnWay_148 (by decide) ?_
        exact tk_iret hC hr hlocks hK ⟨hT, hF, (Or.inr rfl)⟩ hw dX4_streetOnWay_149
      · have c23 : v41_8.toInt ≤ a4.toInt := wk_ltF c23
        refine lv_iload hx hb dX4_streetOnWay_48 (lv_at hl 8 rfl) ?_
        refine lv_sipush (v := 2000) hx hb dX4_streetOnWay_50 (by decide) ?_
        refine lv_icmp_gt (tgt := 148) hx hb dX4_streetOnWay_53 (by decide) (fun c24 => ?_) (fun c24 => ?_)
        · have c24 : (2000 : Int) < v41_8.toInt := wk_lt.mp c24
          refine lv_iconst (v := (-1)) hx hb dX4_streetOnWay_148 (by decide) ?_
          exact tk_iret hC hr hlocks hK ⟨hT, hF, (Or.inr rfl)⟩ hw dX4_streetOnWay_149
        · have c24 : v41_8.toInt ≤ (2000 : Int) := wk_ltF c24
          refine lv_iload hx hb dX4_streetOnWay_56 (lv_at hl 6 rfl) ?_
          refine lv_iload_n hx hb dX4_streetOnWay_58 rfl (lv_at hl 2 rfl) ?_
          refine lv_icmp_eq (tgt := 148) hx hb dX4_streetOnWay_59 (by decide) (fun c25 => ?_) (fun c25 => ?_)
          · have c25 : v41_6.toInt = a2.toInt := wk_eq.mp c25
            refine lv_iconst (v := (-1)) hx hb dX4_streetOnWay_148 (by decide) ?_
            exact tk_iret hC hr hlocks hK ⟨hT, hF, (Or.inr rfl)⟩ hw dX4_streetOnWay_149
          · have c25 : ¬ v41_6.toInt = a2.toInt := wk_eqF c25
            refine lv_aload_n hx hb dX4_streetOnWay_62 rfl (lv_at hl 0 rfl) ?_
            refine lv_iload hx hb dX4_streetOnWay_63 (lv_at hl 6 rfl) ?_
            refine lv_iload hx hb dX4_streetOnWay_65 (lv_at hl 7 rfl) ?_
            refine tk_Vi hC hK hw hT hA hE hSR kC_at155 (by decide) rfl (k_X4_leastStreet_1 l adK adV dC dI cy ad B hB0 (Int.le_trans hB1 (by decide)) qr s1   v41_6 (show 0 ≤ v41_6.toInt from r11) (show v41_6.toInt ≤ 9 from t12) v41_7 (show (-1) ≤ v41_7.toInt from r13) (show v41_7.toInt ≤ 102128 from t14) w1 H.size hT ) (cwV 2 hC.2.2.2.2 uV_RX4_70 rfl rfl rfl (by decide +kernel) ⟨Nat.le_of_ble_eq_true rfl, Nat.le_of_ble_eq_true rfl⟩) rfl hl.1 rfl (Nat.le_of_ble_eq_true rfl) dX4_streetOnWay_67 (fun r26 w28 H locs hp27 hw => ?_)
            obtain ⟨hT, k29, hg42⟩ := hp27
            have hF := hF.tr k29 (by decide)
            have c43 := k29.gi kC_at39 (by decide) c19
            have c44 := k29.gi kC_at39 (by decide) c22
            rcases hg42 with ⟨g30, g31, g32, ⟨x33, c34, rx33, tx33⟩, c35⟩ | ⟨g36, g37, g38, ⟨x39, c40, rx39, tx39⟩, c41⟩ | rfl
            · have ex33 : x33.toInt = f41_39_9.toInt := by rw [← c44.symm.trans c34]
              refine lv_istore (lv' := [(9, .int r26), (0, .ref (ad 155)), (1, .int a1), (2, .int a2), (3, .int a3), (4, .int a4), (5, .int v41_5), (6, .int v41_6), (7, .int v41_7), (8, .int v41_8)]) hx hb dX4_streetOnWay_70 hl (by decide) rfl (fun ls hl => ?_)
              refine lv_iload hx hb dX4_streetOnWay_72 (lv_at hl 0 rfl) ?_
              refine lv_iconst (v := (-1)) hx hb dX4_streetOnWay_74 (by decide) ?_
              refine lv_icmp_eq (tgt := 85) hx hb dX4_streetOnWay_75 (by decide) (fun c => absurd c (fun h => absurd (show r26.toInt = (-1 : Int) from wk_eq.mp h) (by omega))) (fun _ => ?_)
              refine lv_iload hx hb dX4_streetOnWay_78 (lv_at hl 9 rfl) ?_
              refine lv_iload hx hb dX4_streetOnWay_80 (lv_at hl 5 rfl) ?_
              refine lv_icmp_ne (tgt := 88) hx hb dX4_streetOnWay_82 (by decide) (fun c45 => ?_) (fun c45 => ?_)
              · have c45 : ¬ v41_8.toInt = a4.toInt := wk_eqF c45
                refine lv_aload_n hx hb dX4_streetOnWay_88 rfl (lv_at hl 1 rfl) ?_
                refine tk_getA hC hK hw hT hinX4 kC_at155 (by decide) rfl 1 (by decide) (List.mem_cons_of_mem _ uw_5_23) rfl rfl dX4_streetOnWay_89 ?_
                refine lv_iload hx hb dX4_streetOnWay_92 (lv_at hl 0 rfl) ?_
                refine lv_iload hx hb dX4_streetOnWay_94 (lv_at hl 7 rfl) ?_
                refine tk_Vi hC hK hw hT hA hE hSR kC_at39 (by decide) rfl (k_X7_sideOf_6 l adK adV dC dI cy ad B hB0 (Int.le_trans hB1 (by decide)) qr s1   r26 (show 0 ≤ r26.toInt by first | with_reducible assumption | omega) (show r26.toInt ≤ 11 by first | with_reducible assumption | omega) v41_6 (show 0 ≤ v41_6.toInt from r11) (show v41_6.toInt ≤ 9 from t12) w28 H.size hT c35) (cwV 2 hC.2.2.2.2 uV_RX4_47 rfl rfl rfl (by decide +kernel) ⟨Nat.le_of_ble_eq_true rfl, Nat.le_of_ble_eq_true rfl⟩) rfl hl.1 rfl (Nat.le_of_ble_eq_true rfl) dX4_streetOnWay_96 (fun r46 w48 H locs hp47 hw => ?_)
                obtain ⟨hT, k49, hg51⟩ := hp47
                have hF := hF.tr k49 (by decide)
                have c52 := k49.gi kC_at39 (by decide) c43
                have c53 := k49.gi kC_at39 (by decide) c44
                have c54 := k49.gi kC_at40 rfl c35
                obtain ⟨rfl, c50⟩ := hg51
                refine lv_istore (lv' := [(10, .int 0), (9, .int r26), (0, .ref (ad 155)), (1, .int a1), (2, .int a2), (3, .int a3), (4, .int a4), (5, .int v41_5), (6, .int v41_6), (7, .int v41_7), (8, .int v41_8)]) hx hb dX4_streetOnWay_99 hl (by decide) rfl (fun ls hl => ?_)
                refine lv_aload_n hx hb dX4_streetOnWay_101 rfl (lv_at hl 2 rfl) ?_
                refine tk_getA hC hK hw hT hinX4 kC_at155 (by decide) rfl 1 (by decide) (List.mem_cons_of_mem _ uw_5_23) rfl rfl dX4_streetOnWay_102 ?_
                refine lv_iload hx hb dX4_streetOnWay_105 (lv_at hl 1 rfl) ?_
                refine lv_iload hx hb dX4_streetOnWay_107 (lv_at hl 0 rfl) ?_
                refine lv_iload hx hb dX4_streetOnWay_109 (lv_at hl 9 rfl) ?_
                refine lv_iload hx hb dX4_streetOnWay_111 (lv_at hl 7 rfl) ?_
                refine tk_Vi hC hK hw hT hA hE hSR kC_at39 (by decide) rfl (k_X7_firstOpen_7 l adK adV dC dI cy ad B hB0 (Int.le_trans hB1 (by decide)) qr s1   r26 (show 0 ≤ r26.toInt by first | with_reducible assumption | omega) (show r26.toInt ≤ 11 by first | with_reducible assumption | omega) v41_7 (show (-1) ≤ v41_7.toInt from r13) (show v41_7.toInt ≤ 102119 by first | with_reducible assumption | omega) v41_5 (show 0 ≤ v41_5.toInt from r9) (show v41_5.toInt ≤ 102119 from t10) w48 H.size hT ) (cwV 4 hC.2.2.2.2 uV_RX4_57 rfl rfl rfl (by decide +kernel) ⟨Nat.le_of_ble_eq_true rfl, Nat.le_of_ble_eq_true rfl⟩) rfl hl.1 rfl (Nat.le_of_ble_eq_true rfl) dX4_streetOnWay_113 (fun r55 w57 H locs hp56 hw => ?_)
                obtain ⟨hT, k58, hg61⟩ := hp56
                have hF := hF.tr k58 (by decide)
                have c62 := k58.gi kC_at39 (by decide) c52
                have c63 := k58.gi kC_at39 (by decide) c53
                have c64 := k58.gi kC_at40 rfl c54
                rcases hg61 with ⟨g59, g60⟩ | rfl
                · refine lv_aload_n hx hb dX4_streetOnWay_116 rfl (lv_at hl 2 rfl) ?_
                  refine tk_getA hC hK hw hT hinX4 kC_at155 (by decide) rfl 1 (by decide) (List.mem_cons_of_mem _ uw_5_23) rfl rfl dX4_streetOnWay_117 ?_
                  refine tk_getO hC hK hw hT hinX7 kC_at39 (by decide) rfl 1 (by decide) (List.mem_cons_of_mem _ uw_50_7) rfl rfl dX4_streetOnWay_120 ?_
                  refine lv_iload hx hb dX4_streetOnWay_123 (lv_at hl 1 rfl) ?_
                  refine tk_iald hC hK hw hT kC_at41 rfl rfl (show 0 ≤ r26.toInt by first | with_reducible assumption | omega) (show r26.toInt < 13 by first | with_reducible assumption | omega) dX4_streetOnWay_125 (fun x65 c66 rx65 tx65 => ?_)
                  refine lv_iadd hx hb dX4_streetOnWay_126 ?_
                  refine lv_topi (fun x67 ex67 => ?_)
                  have ex67 : x67.toInt = r55.toInt + x65.toInt := by rw [ex67]; exact wk_add (show (-2147483648) ≤ r55.toInt + x65.toInt by omega) (show r55.toInt + x65.toInt ≤ 2147483647 by omega)
                  refine lv_istore (lv' := [(7, .int x67), (10, .int 0), (9, .int r26), (0, .ref (ad 155)), (1, .int a1), (2, .int a2), (3, .int a3), (4, .int a4), (5, .int v41_5), (6, .int v41_6), (8, .int v41_8)]) hx hb dX4_streetOnWay_127 hl (by decide) rfl (fun ls hl => ?_)
                  refine lv_aload_n hx hb dX4_streetOnWay_129 rfl (lv_at hl 3 rfl) ?_
                  refine tk_getA hC hK hw hT hinX4 kC_at155 (by decide) rfl 1 (by decide) (List.mem_cons_of_mem _ uw_5_23) rfl rfl dX4_streetOnWay_130 ?_
                  refine lv_iload hx hb dX4_streetOnWay_133 (lv_at hl 2 rfl) ?_
                  refine lv_iload hx hb dX4_streetOnWay_135 (lv_at hl 1 rfl) ?_
                  refine tk_Vi hC hK hw hT hA hE hSR kC_at39 (by decide) rfl (k_X7_cornerAcross_2 l adK adV dC dI cy ad B hB0 (Int.le_trans hB1 (by decide)) qr s1   r26 (show 0 ≤ r26.toInt by first | with_reducible assumption | omega) (show r26.toInt ≤ 11 by first | with_reducible assumption | omega) w57 H.size hT ) (cwV 2 hC.2.2.2.2 uV_RX4_51 rfl rfl rfl (by decide +kernel) ⟨Nat.le_of_ble_eq_true rfl, Nat.le_of_ble_eq_true rfl⟩) rfl hl.1 rfl (Nat.le_of_ble_eq_true rfl) dX4_streetOnWay_137 (fun r68 w70 H locs hp69 hw => ?_)
                  obtain ⟨hT, k71, hg74⟩ := hp69
                  have hF := hF.tr k71 (by decide)
                  have c75 := k71.gi kC_at39 (by decide) c62
                  have c76 := k71.gi kC_at39 (by decide) c63
                  have c77 := k71.gi kC_at40 rfl c64
                  obtain ⟨g72, g73⟩ := hg74
                  refine lv_istore (lv' := [(6, .int r68), (7, .int x67), (10, .int 0), (9, .int r26), (0, .ref (ad 155)), (1, .int a1), (2, .int a2), (3, .int a3), (4, .int a4), (5, .int v41_5), (8, .int v41_8)]) hx hb dX4_streetOnWay_140 hl (by decide) rfl (fun ls hl => ?_)
                  obtain ⟨x78, ex78⟩ : ∃ y : Int32, y = v41_8 + Int32.ofInt 1 := ⟨_, rfl⟩
                  refine lv_iinc (v := x78) (lv' := [(8, .int x78), (6, .int r68), (7, .int x67), (10, .int 0), (9, .int r26), (0, .ref (ad 155)), (1, .int a1), (2, .int a2), (3, .int a3), (4, .int a4), (5, .int v41_5)]) hx hb dX4_streetOnWay_142 hl (k := 10) rfl ex78.symm (by decide) rfl (fun ls hl => ?_)
                  have ex78 : x78.toInt = v41_8.toInt + 1 := by rw [ex78]; exact wk_add (y := 1) (show -2147483648 ≤ v41_8.toInt + 1 by omega) (show v41_8.toInt + 1 ≤ 2147483647 by omega)
                  refine lv_goto (tgt := 41) hx hb dX4_streetOnWay_145 (by decide) ?_
                  exact ih41 v41_5 r68 x67 x78 f41_39_8 f41_39_9 H locs ls w70 (show 0 ≤ a1.toInt from r2) (show a1.toInt ≤ 9 from t3) (show 0 ≤ a2.toInt from r4) (show a2.toInt ≤ 9 from t5) (show 0 ≤ a3.toInt from r6) (show a3.toInt ≤ 99999 from t7) (show 0 ≤ a4.toInt from r8) (show 0 ≤ v41_5.toInt from r9) (show v41_5.toInt ≤ 102119 from t10) (show 0 ≤ r68.toInt by first | with_reducible assumption | omega) (show r68.toInt ≤ 9 by first | with_reducible assumption | omega) (show (-1) ≤ x67.toInt by first | with_reducible assumption | omega) (show x67.toInt ≤ 102128 by first | with_reducible assumption | omega) (show 0 ≤ x78.toInt by first | with_reducible assumption | omega) (show x78.toInt ≤ 2001 by first | with_reducible assumption | omega) (show 1 ≤ f41_39_8.toInt from r17) (show f41_39_8.toInt ≤ 10 from t18) (show 0 ≤ f41_39_9.toInt from r20) (show f41_39_9.toInt ≤ 12 from t21) (show (2001 - x78.toInt).toNat < n41 by first | exact tn_lt hm41 (by omega) (by omega) | omega) hw hT hF c75 c76 (lv_sub hl [5, 6, 7, 8, 9, 10, 1, 2, 0] rfl)
                · refine lv_aload_n hx hb dX4_streetOnWay_116 rfl (lv_at hl 2 rfl) ?_
                  refine tk_getA hC hK hw hT hinX4 kC_at155 (by decide) rfl 1 (by decide) (List.mem_cons_of_mem _ uw_5_23) rfl rfl dX4_streetOnWay_117 ?_
                  refine tk_getO hC hK hw hT hinX7 kC_at39 (by decide) rfl 1 (by decide) (List.mem_cons_of_mem _ uw_50_7) rfl rfl dX4_streetOnWay_120 ?_
                  refine lv_iload hx hb dX4_streetOnWay_123 (lv_at hl 1 rfl) ?_
                  refine tk_iald hC hK hw hT kC_at41 rfl rfl (show 0 ≤ r26.toInt by first | with_reducible assumption | omega) (show r26.toInt < 13 by first | with_reducible assumption | omega) dX4_streetOnWay_125 (fun x79 c80 rx79 tx79 => ?_)
                  refine lv_iadd hx hb dX4_streetOnWay_126 ?_
                  refine lv_topi (fun x81 ex81 => ?_)
                  have ex81 : x81.toInt = (-1 : Int) + x79.toInt := by rw [ex81]; exact wk_add (show (-2147483648) ≤ (-1 : Int) + x79.toInt by omega) (show (-1 : Int) + x79.toInt ≤ 2147483647 by omega)
                  refine lv_istore (lv' := [(7, .int x81), (10, .int 0), (9, .int r26), (0, .ref (ad 155)), (1, .int a1), (2, .int a2), (3, .int a3), (4, .int a4), (5, .int v41_5), (6, .int v41_6), (8, .int v41_8)]) hx hb dX4_streetOnWay_127 hl (by decide) rfl (fun ls hl => ?_)
                  refine lv_aload_n hx hb dX4_streetOnWay_129 rfl (lv_at hl 3 rfl) ?_
                  refine tk_getA hC hK hw hT hinX4 kC_at155 (by decide) rfl 1 (by decide) (List.mem_cons_of_mem _ uw_5_23) rfl rfl dX4_streetOnWay_130 ?_
                  refine lv_iload hx hb dX4_streetOnWay_133 (lv_at hl 2 rfl) ?_
                  refine lv_iload hx hb dX4_streetOnWay_135 (lv_at hl 1 rfl) ?_
                  refine tk_Vi hC hK hw hT hA hE hSR kC_at39 (by decide) rfl (k_X7_cornerAcross_2 l adK adV dC dI cy ad B hB0 (Int.le_trans hB1 (by decide)) qr s1   r26 (show 0 ≤ r26.toInt by first | with_reducible assumption | omega) (show r26.toInt ≤ 11 by first | with_reducible assumption | omega) w57 H.size hT ) (cwV 2 hC.2.2.2.2 uV_RX4_51 rfl rfl rfl (by decide +kernel) ⟨Nat.le_of_ble_eq_true rfl, Nat.le_of_ble_eq_true rfl⟩) rfl hl.1 rfl (Nat.le_of_ble_eq_true rfl) dX4_streetOnWay_137 (fun r82 w84 H locs hp83 hw => ?_)
                  obtain ⟨hT, k85, hg88⟩ := hp83
                  have hF := hF.tr k85 (by decide)
                  have c89 := k85.gi kC_at39 (by decide) c62
                  have c90 := k85.gi kC_at39 (by decide) c63
                  have c91 := k85.gi kC_at40 rfl c64
                  obtain ⟨g86, g87⟩ := hg88
                  refine lv_istore (lv' := [(6, .int r82), (7, .int x81), (10, .int 0), (9, .int r26), (0, .ref (ad 155)), (1, .int a1), (2, .int a2), (3, .int a3), (4, .int a4), (5, .int v41_5), (8, .int v41_8)]) hx hb dX4_streetOnWay_140 hl (by decide) rfl (fun ls hl => ?_)
                  obtain ⟨x92, ex92⟩ : ∃ y : Int32, y = v41_8 + Int32.ofInt 1 := ⟨_, rfl⟩
                  refine lv_iinc (v := x92) (lv' := [(8, .int x92), (6, .int r82), (7, .int x81), (10, .int 0), (9, .int r26), (0, .ref (ad 155)), (1, .int a1), (2, .int a2), (3, .int a3), (4, .int a4), (5, .int v41_5)]) hx hb dX4_streetOnWay_142 hl (k := 10) rfl ex92.symm (by decide) rfl (fun ls hl => ?_)
                  have ex92 : x92.toInt = v41_8.toInt + 1 := by rw [ex92]; exact wk_add (y := 1) (show -2147483648 ≤ v41_8.toInt + 1 by omega) (show v41_8.toInt + 1 ≤ 2147483647 by omega)
                  refine lv_goto (tgt := 41) hx hb dX4_streetOnWay_145 (by decide) ?_
                  exact ih41 v41_5 r82 x81 x92 f41_39_8 f41_39_9 H locs ls w84 (show 0 ≤ a1.toInt from r2) (show a1.toInt ≤ 9 from t3) (show 0 ≤ a2.toInt from r4) (show a2.toInt ≤ 9 from t5) (show 0 ≤ a3.toInt from r6) (show a3.toInt ≤ 99999 from t7) (show 0 ≤ a4.toInt from r8) (show 0 ≤ v41_5.toInt from r9) (show v41_5.toInt ≤ 102119 from t10) (show 0 ≤ r82.toInt by first | with_reducible assumption | omega) (show r82.toInt ≤ 9 by first | with_reducible assumption | omega) (show (-1) ≤ x81.toInt by first | with_reducible assumption | omega) (show x81.toInt ≤ 102128 by first | with_reducible assumption | omega) (show 0 ≤ x92.toInt by first | with_reducible assumption | omega) (show x92.toInt ≤ 2001 by first | with_reducible assumption | omega) (show 1 ≤ f41_39_8.toInt from r17) (show f41_39_8.toInt ≤ 10 from t18) (show 0 ≤ f41_39_9.toInt from r20) (show f41_39_9.toInt ≤ 12 from t21) (show (2001 - x92.toInt).toNat < n41 by first | exact tn_lt hm41 (by omega) (by omega) | omega) hw hT hF c89 c90 (lv_sub hl [5, 6, 7, 8, 9, 10, 1, 2, 0] rfl)
              · have c45 : v41_8.toInt = a4.toInt := wk_eq.mp c45
                refine lv_iload hx hb dX4_streetOnWay_85 (lv_at hl 0 rfl) ?_
                exact tk_iret hC hr hlocks hK ⟨hT, hF, (Or.inl ⟨(show 0 ≤ r26.toInt by first | with_reducible assumption | omega), (show r26.toInt ≤ 11 by first | with_reducible assumption | omega), (show a4.toInt ≤ 2000 by first | with_reducible assumption | omega), ⟨f41_39_8, c43, (show 1 ≤ f41_39_8.toInt from r17), (show f41_39_8.toInt ≤ 10 from t18)⟩, ⟨f41_39_9, c44, (show 1 ≤ f41_39_9.toInt by first | with_reducible assumption | omega), (show f41_39_9.toInt ≤ 12 from t21)⟩⟩)⟩ hw dX4_streetOnWay_87
            · have ex39 : x39.toInt = f41_39_9.toInt := by rw [← c44.symm.trans c40]
              refine lv_istore (lv' := [(9, .int r26), (0, .ref (ad 155)), (1, .int a1), (2, .int a2), (3, .int a3), (4, .int a4), (5, .int v41_5), (6, .int v41_6), (7, .int v41_7), (8, .int v41_8)]) hx hb dX4_streetOnWay_70 hl (by decide) rfl (fun ls hl => ?_)
              refine lv_iload hx hb dX4_streetOnWay_72 (lv_at hl 0 rfl) ?_
              refine lv_iconst (v := (-1)) hx hb dX4_streetOnWay_74 (by decide) ?_
              refine lv_icmp_eq (tgt := 85) hx hb dX4_streetOnWay_75 (by decide) (fun c => absurd c (fun h => absurd (show r26.toInt = (-1 : Int) from wk_eq.mp h) (by omega))) (fun _ => ?_)
              refine lv_iload hx hb dX4_streetOnWay_78 (lv_at hl 9 rfl) ?_
              refine lv_iload hx hb dX4_streetOnWay_80 (lv_at hl 5 rfl) ?_
              refine lv_icmp_ne (tgt := 88) hx hb dX4_streetOnWay_82 (by decide) (fun c93 => ?_) (fun c93 => ?_)
              · have c93 : ¬ v41_8.toInt = a4.toInt := wk_eqF c93
                refine lv_aload_n hx hb dX4_streetOnWay_88 rfl (lv_at hl 1 rfl) ?_
                refine tk_getA hC hK hw hT hinX4 kC_at155 (by decide) rfl 1 (by decide) (List.mem_cons_of_mem _ uw_5_23) rfl rfl dX4_streetOnWay_89 ?_
                refine lv_iload hx hb dX4_streetOnWay_92 (lv_at hl 0 rfl) ?_
                refine lv_iload hx hb dX4_streetOnWay_94 (lv_at hl 7 rfl) ?_
                refine tk_Vi hC hK hw hT hA hE hSR kC_at39 (by decide) rfl (k_X7_sideOf_7 l adK adV dC dI cy ad B hB0 (Int.le_trans hB1 (by decide)) qr s1   r26 (show 0 ≤ r26.toInt by first | with_reducible assumption | omega) (show r26.toInt ≤ 11 by first | with_reducible assumption | omega) v41_6 (show 0 ≤ v41_6.toInt from r11) (show v41_6.toInt ≤ 9 from t12) w28 H.size hT c41) (cwV 2 hC.2.2.2.2 uV_RX4_47 rfl rfl rfl (by decide +kernel) ⟨Nat.le_of_ble_eq_true rfl, Nat.le_of_ble_eq_true rfl⟩) rfl hl.1 rfl (Nat.le_of_ble_eq_true rfl) dX4_streetOnWay_96 (fun r94 w96 H locs hp95 hw => ?_)
                obtain ⟨hT, k97, hg101⟩ := hp95
                have hF := hF.tr k97 (by decide)
                have c102 := k97.gi kC_at39 (by decide) c43
                have c103 := k97.gi kC_at39 (by decide) c44
                have c104 := k97.gi kC_at40 rfl c41
                rcases hg101 with ⟨rfl, c98, c99⟩ | ⟨rfl, c100⟩
                · refine lv_istore (lv' := [(10, .int 0), (9, .int r26), (0, .ref (ad 155)), (1, .int a1), (2, .int a2), (3, .int a3), (4, .int a4), (5, .int v41_5), (6, .int v41_6), (7, .int v41_7), (8, .int v41_8)]) hx hb dX4_streetOnWay_99 hl (by decide) rfl (fun ls hl => ?_)
                  refine lv_aload_n hx hb dX4_streetOnWay_101 rfl (lv_at hl 2 rfl) ?_
                  refine tk_getA hC hK hw hT hinX4 kC_at155 (by decide) rfl 1 (by decide) (List.mem_cons_of_mem _ uw_5_23) rfl rfl dX4_streetOnWay_102 ?_
                  refine lv_iload hx hb dX4_streetOnWay_105 (lv_at hl 1 rfl) ?_
                  refine lv_iload hx hb dX4_streetOnWay_107 (lv_at hl 0 rfl) ?_
                  refine lv_iload hx hb dX4_streetOnWay_109 (lv_at hl 9 rfl) ?_
                  refine lv_iload hx hb dX4_streetOnWay_111 (lv_at hl 7 rfl) ?_
                  refine tk_Vi hC hK hw hT hA hE hSR kC_at39 (by decide) rfl (k_X7_firstOpen_7 l adK adV dC dI cy ad B hB0 (Int.le_trans hB1 (by decide)) qr s1   r26 (show 0 ≤ r26.toInt by first | with_reducible assumption | omega) (show r26.toInt ≤ 11 by first | with_reducible assumption | omega) v41_7 (show (-1) ≤ v41_7.toInt from r13) (show v41_7.toInt ≤ 102119 by first | with_reducible assumption | omega) v41_5 (show 0 ≤ v41_5.toInt from r9) (show v41_5.toInt ≤ 102119 from t10) w96 H.size hT ) (cwV 4 hC.2.2.2.2 uV_RX4_57 rfl rfl rfl (by decide +kernel) ⟨Nat.le_of_ble_eq_true rfl, Nat.le_of_ble_eq_true rfl⟩) rfl hl.1 rfl (Nat.le_of_ble_eq_true rfl) dX4_streetOnWay_113 (fun r105 w107 H locs hp106 hw => ?_)
                  obtain ⟨hT, k108, hg111⟩ := hp106
                  have hF := hF.tr k108 (by decide)
                  have c112 := k108.gi kC_at39 (by decide) c102
                  have c113 := k108.gi kC_at39 (by decide) c103
                  have c114 := k108.gi kC_at40 rfl c104
                  have c115 := k108.gi kC_at40 rfl c98
                  rcases hg111 with ⟨g109, g110⟩ | rfl
                  · refine lv_aload_n hx hb dX4_streetOnWay_116 rfl (lv_at hl 2 rfl) ?_
                    refine tk_getA hC hK hw hT hinX4 kC_at155 (by decide) rfl 1 (by decide) (List.mem_cons_of_mem _ uw_5_23) rfl rfl dX4_streetOnWay_117 ?_
                    refine tk_getO hC hK hw hT hinX7 kC_at39 (by decide) rfl 1 (by decide) (List.mem_cons_of_mem _ uw_50_7) rfl rfl dX4_streetOnWay_120 ?_
                    refine lv_iload hx hb dX4_streetOnWay_123 (lv_at hl 1 rfl) ?_
                    refine tk_iald hC hK hw hT kC_at41 rfl rfl (show 0 ≤ r26.toInt by first | with_reducible assumption | omega) (show r26.toInt < 13 by first | with_reducible assumption | omega) dX4_streetOnWay_125 (fun x116 c117 rx116 tx116 => ?_)
                    refine lv_iadd hx hb dX4_streetOnWay_126 ?_
                    refine lv_topi (fun x118 ex118 => ?_)
                    have ex118 : x118.toInt = r105.toInt + x116.toInt := by rw [ex118]; exact wk_add (show (-2147483648) ≤ r105.toInt + x116.toInt by omega) (show r105.toInt + x116.toInt ≤ 2147483647 by omega)
                    refine lv_istore (lv' := [(7, .int x118), (10, .int 0), (9, .int r26), (0, .ref (ad 155)), (1, .int a1), (2, .int a2), (3, .int a3), (4, .int a4), (5, .int v41_5), (6, .int v41_6), (8, .int v41_8)]) hx hb dX4_streetOnWay_127 hl (by decide) rfl (fun ls hl => ?_)
                    refine lv_aload_n hx hb dX4_streetOnWay_129 rfl (lv_at hl 3 rfl) ?_
                    refine tk_getA hC hK hw hT hinX4 kC_at155 (by decide) rfl 1 (by decide) (List.mem_cons_of_mem _ uw_5_23) rfl rfl dX4_streetOnWay_130 ?_
                    refine lv_iload hx hb dX4_streetOnWay_133 (lv_at hl 2 rfl) ?_
                    refine lv_iload hx hb dX4_streetOnWay_135 (lv_at hl 1 rfl) ?_
                    refine tk_Vi hC hK hw hT hA hE hSR kC_at39 (by decide) rfl (k_X7_cornerAcross_2 l adK adV dC dI cy ad B hB0 (Int.le_trans hB1 (by decide)) qr s1   r26 (show 0 ≤ r26.toInt by first | with_reducible assumption | omega) (show r26.toInt ≤ 11 by first | with_reducible assumption | omega) w107 H.size hT ) (cwV 2 hC.2.2.2.2 uV_RX4_51 rfl rfl rfl (by decide +kernel) ⟨Nat.le_of_ble_eq_true rfl, Nat.le_of_ble_eq_true rfl⟩) rfl hl.1 rfl (Nat.le_of_ble_eq_true rfl) dX4_streetOnWay_137 (fun r119 w121 H locs hp120 hw => ?_)
                    obtain ⟨hT, k122, hg125⟩ := hp120
                    have hF := hF.tr k122 (by decide)
                    have c126 := k122.gi kC_at39 (by decide) c112
                    have c127 := k122.gi kC_at39 (by decide) c113
                    have c128 := k122.gi kC_at40 rfl c114
                    have c129 := k122.gi kC_at40 rfl c115
                    obtain ⟨g123, g124⟩ := hg125
                    refine lv_istore (lv' := [(6, .int r119), (7, .int x118), (10, .int 0), (9, .int r26), (0, .ref (ad 155)), (1, .int a1), (2, .int a2), (3, .int a3), (4, .int a4), (5, .int v41_5), (8, .int v41_8)]) hx hb dX4_streetOnWay_140 hl (by decide) rfl (fun ls hl => ?_)
                    obtain ⟨x130, ex130⟩ : ∃ y : Int32, y = v41_8 + Int32.ofInt 1 := ⟨_, rfl⟩
                    refine lv_iinc (v := x130) (lv' := [(8, .int x130), (6, .int r119), (7, .int x118), (10, .int 0), (9, .int r26), (0, .ref (ad 155)), (1, .int a1), (2, .int a2), (3, .int a3), (4, .int a4), (5, .int v41_5)]) hx hb dX4_streetOnWay_142 hl (k := 10) rfl ex130.symm (by decide) rfl (fun ls hl => ?_)
                    have ex130 : x130.toInt = v41_8.toInt + 1 := by rw [ex130]; exact wk_add (y := 1) (show -2147483648 ≤ v41_8.toInt + 1 by omega) (show v41_8.toInt + 1 ≤ 2147483647 by omega)
                    refine lv_goto (tgt := 41) hx hb dX4_streetOnWay_145 (by decide) ?_
                    exact ih41 v41_5 r119 x118 x130 f41_39_8 f41_39_9 H locs ls w121 (show 0 ≤ a1.toInt from r2) (show a1.toInt ≤ 9 from t3) (show 0 ≤ a2.toInt from r4) (show a2.toInt ≤ 9 from t5) (show 0 ≤ a3.toInt from r6) (show a3.toInt ≤ 99999 from t7) (show 0 ≤ a4.toInt from r8) (show 0 ≤ v41_5.toInt from r9) (show v41_5.toInt ≤ 102119 from t10) (show 0 ≤ r119.toInt by first | with_reducible assumption | omega) (show r119.toInt ≤ 9 by first | with_reducible assumption | omega) (show (-1) ≤ x118.toInt by first | with_reducible assumption | omega) (show x118.toInt ≤ 102128 by first | with_reducible assumption | omega) (show 0 ≤ x130.toInt by first | with_reducible assumption | omega) (show x130.toInt ≤ 2001 by first | with_reducible assumption | omega) (show 1 ≤ f41_39_8.toInt from r17) (show f41_39_8.toInt ≤ 10 from t18) (show 0 ≤ f41_39_9.toInt from r20) (show f41_39_9.toInt ≤ 12 from t21) (show (2001 - x130.toInt).toNat < n41 by first | exact tn_lt hm41 (by omega) (by omega) | omega) hw hT hF c126 c127 (lv_sub hl [5, 6, 7, 8, 9, 10, 1, 2, 0] rfl)
                  · refine lv_aload_n hx hb dX4_streetOnWay_116 rfl (lv_at hl 2 rfl) ?_
                    refine tk_getA hC hK hw hT hinX4 kC_at155 (by decide) rfl 1 (by decide) (List.mem_cons_of_mem _ uw_5_23) rfl rfl dX4_streetOnWay_117 ?_
                    refine tk_getO hC hK hw hT hinX7 kC_at39 (by decide) rfl 1 (by decide) (List.mem_cons_of_mem _ uw_50_7) rfl rfl dX4_streetOnWay_120 ?_
                    refine lv_iload hx hb dX4_streetOnWay_123 (lv_at hl 1 rfl) ?_
                    refine tk_iald hC hK hw hT kC_at41 rfl rfl (show 0 ≤ r26.toInt by first | with_reducible assumption | omega) (show r26.toInt < 13 by first | with_reducible assumption | omega) dX4_streetOnWay_125 (fun x131 c132 rx131 tx131 => ?_)
                    refine lv_iadd hx hb dX4_streetOnWay_126 ?_
                    refine lv_topi (fun x133 ex133 => ?_)
                    have ex133 : x133.toInt = (-1 : Int) + x131.toInt := by rw [ex133]; exact wk_add (show (-2147483648) ≤ (-1 : Int) + x131.toInt by omega) (show (-1 : Int) + x131.toInt ≤ 2147483647 by omega)
                    refine lv_istore (lv' := [(7, .int x133), (10, .int 0), (9, .int r26), (0, .ref (ad 155)), (1, .int a1), (2, .int a2), (3, .int a3), (4, .int a4), (5, .int v41_5), (6, .int v41_6), (8, .int v41_8)]) hx hb dX4_streetOnWay_127 hl (by decide) rfl (fun ls hl => ?_)
                    refine lv_aload_n hx hb dX4_streetOnWay_129 rfl (lv_at hl 3 rfl) ?_
                    refine tk_getA hC hK hw hT hinX4 kC_at155 (by decide) rfl 1 (by decide) (List.mem_cons_of_mem _ uw_5_23) rfl rfl dX4_streetOnWay_130 ?_
                    refine lv_iload hx hb dX4_streetOnWay_133 (lv_at hl 2 rfl) ?_
                    refine lv_iload hx hb dX4_streetOnWay_135 (lv_at hl 1 rfl) ?_
                    refine tk_Vi hC hK hw hT hA hE hSR kC_at39 (by decide) rfl (k_X7_cornerAcross_2 l adK adV dC dI cy ad B hB0 (Int.le_trans hB1 (by decide)) qr s1   r26 (show 0 ≤ r26.toInt by first | with_reducible assumption | omega) (show r26.toInt ≤ 11 by first | with_reducible assumption | omega) w107 H.size hT ) (cwV 2 hC.2.2.2.2 uV_RX4_51 rfl rfl rfl (by decide +kernel) ⟨Nat.le_of_ble_eq_true rfl, Nat.le_of_ble_eq_true rfl⟩) rfl hl.1 rfl (Nat.le_of_ble_eq_true rfl) dX4_streetOnWay_137 (fun r134 w136 H locs hp135 hw => ?_)
                    obtain ⟨hT, k137, hg140⟩ := hp135
                    have hF := hF.tr k137 (by decide)
                    have c141 := k137.gi kC_at39 (by decide) c112
                    have c142 := k137.gi kC_at39 (by decide) c113
                    have c143 := k137.gi kC_at40 rfl c114
                    have c144 := k137.gi kC_at40 rfl c115
                    obtain ⟨g138, g139⟩ := hg140
                    refine lv_istore (lv' := [(6, .int r134), (7, .int x133), (10, .int 0), (9, .int r26), (0, .ref (ad 155)), (1, .int a1), (2, .int a2), (3, .int a3), (4, .int a4), (5, .int v41_5), (8, .int v41_8)]) hx hb dX4_streetOnWay_140 hl (by decide) rfl (fun ls hl => ?_)
                    obtain ⟨x145, ex145⟩ : ∃ y : Int32, y = v41_8 + Int32.ofInt 1 := ⟨_, rfl⟩
                    refine lv_iinc (v := x145) (lv' := [(8, .int x145), (6, .int r134), (7, .int x133), (10, .int 0), (9, .int r26), (0, .ref (ad 155)), (1, .int a1), (2, .int a2), (3, .int a3), (4, .int a4), (5, .int v41_5)]) hx hb dX4_streetOnWay_142 hl (k := 10) rfl ex145.symm (by decide) rfl (fun ls hl => ?_)
                    have ex145 : x145.toInt = v41_8.toInt + 1 := by rw [ex145]; exact wk_add (y := 1) (show -2147483648 ≤ v41_8.toInt + 1 by omega) (show v41_8.toInt + 1 ≤ 2147483647 by omega)
                    refine lv_goto (tgt := 41) hx hb dX4_streetOnWay_145 (by decide) ?_
                    exact ih41 v41_5 r134 x133 x145 f41_39_8 f41_39_9 H locs ls w136 (show 0 ≤ a1.toInt from r2) (show a1.toInt ≤ 9 from t3) (show 0 ≤ a2.toInt from r4) (show a2.toInt ≤ 9 from t5) (show 0 ≤ a3.toInt from r6) (show a3.toInt ≤ 99999 from t7) (show 0 ≤ a4.toInt from r8) (show 0 ≤ v41_5.toInt from r9) (show v41_5.toInt ≤ 102119 from t10) (show 0 ≤ r134.toInt by first | with_reducible assumption | omega) (show r134.toInt ≤ 9 by first | with_reducible assumption | omega) (show (-1) ≤ x133.toInt by first | with_reducible assumption | omega) (show x133.toInt ≤ 102128 by first | with_reducible assumption | omega) (show 0 ≤ x145.toInt by first | with_reducible assumption | omega) (show x145.toInt ≤ 2001 by first | with_reducible assumption | omega) (show 1 ≤ f41_39_8.toInt from r17) (show f41_39_8.toInt ≤ 10 from t18) (show 0 ≤ f41_39_9.toInt from r20) (show f41_39_9.toInt ≤ 12 from t21) (show (2001 - x145.toInt).toNat < n41 by first | exact tn_lt hm41 (by omega) (by omega) | omega) hw hT hF c141 c142 (lv_sub hl [5, 6, 7, 8, 9, 10, 1, 2, 0] rfl)
                · refine lv_istore (lv' := [(10, .int 1), (9, .int r26), (0, .ref (ad 155)), (1, .int a1), (2, .int a2), (3, .int a3), (4, .int a4), (5, .int v41_5), (6, .int v41_6), (7, .int v41_7), (8, .int v41_8)]) hx hb dX4_streetOnWay_99 hl (by decide) rfl (fun ls hl => ?_)
                  refine lv_aload_n hx hb dX4_streetOnWay_101 rfl (lv_at hl 2 rfl) ?_
                  refine tk_getA hC hK hw hT hinX4 kC_at155 (by decide) rfl 1 (by decide) (List.mem_cons_of_mem _ uw_5_23) rfl rfl dX4_streetOnWay_102 ?_
                  refine lv_iload hx hb dX4_streetOnWay_105 (lv_at hl 1 rfl) ?_
                  refine lv_iload hx hb dX4_streetOnWay_107 (lv_at hl 0 rfl) ?_
                  refine lv_iload hx hb dX4_streetOnWay_109 (lv_at hl 9 rfl) ?_
                  refine lv_iload hx hb dX4_streetOnWay_111 (lv_at hl 7 rfl) ?_
                  refine tk_Vi hC hK hw hT hA hE hSR kC_at39 (by decide) rfl (k_X7_firstOpen_8 l adK adV dC dI cy ad B hB0 (Int.le_trans hB1 (by decide)) qr s1   r26 (show 0 ≤ r26.toInt by first | with_reducible assumption | omega) (show r26.toInt ≤ 11 by first | with_reducible assumption | omega) v41_7 (show (-1) ≤ v41_7.toInt from r13) (show v41_7.toInt ≤ 102119 by first | with_reducible assumption | omega) v41_5 (show 0 ≤ v41_5.toInt from r9) (show v41_5.toInt ≤ 102119 from t10) w96 H.size hT ) (cwV 4 hC.2.2.2.2 uV_RX4_57 rfl rfl rfl (by decide +kernel) ⟨Nat.le_of_ble_eq_true rfl, Nat.le_of_ble_eq_true rfl⟩) rfl hl.1 rfl (Nat.le_of_ble_eq_true rfl) dX4_streetOnWay_113 (fun r146 w148 H locs hp147 hw => ?_)
                  obtain ⟨hT, k149, hg152⟩ := hp147
                  have hF := hF.tr k149 (by decide)
                  have c153 := k149.gi kC_at39 (by decide) c102
                  have c154 := k149.gi kC_at39 (by decide) c103
                  have c155 := k149.gi kC_at40 rfl c104
                  rcases hg152 with ⟨g150, g151⟩ | rfl
                  · refine lv_aload_n hx hb dX4_streetOnWay_116 rfl (lv_at hl 2 rfl) ?_
                    refine tk_getA hC hK hw hT hinX4 kC_at155 (by decide) rfl 1 (by decide) (List.mem_cons_of_mem _ uw_5_23) rfl rfl dX4_streetOnWay_117 ?_
                    refine tk_getO hC hK hw hT hinX7 kC_at39 (by decide) rfl 1 (by decide) (List.mem_cons_of_mem _ uw_50_7) rfl rfl dX4_streetOnWay_120 ?_
                    refine lv_iload hx hb dX4_streetOnWay_123 (lv_at hl 1 rfl) ?_
                    refine tk_iald hC hK hw hT kC_at41 rfl rfl (show 0 ≤ r26.toInt by first | with_reducible assumption | omega) (show r26.toInt < 13 by first | with_reducible assumption | omega) dX4_streetOnWay_125 (fun x156 c157 rx156 tx156 => ?_)
                    refine lv_iadd hx hb dX4_streetOnWay_126 ?_
                    refine lv_topi (fun x158 ex158 => ?_)
                    have ex158 : x158.toInt = r146.toInt + x156.toInt := by rw [ex158]; exact wk_add (show (-2147483648) ≤ r146.toInt + x156.toInt by omega) (show r146.toInt + x156.toInt ≤ 2147483647 by omega)
                    refine lv_istore (lv' := [(7, .int x158), (10, .int 1), (9, .int r26), (0, .ref (ad 155)), (1, .int a1), (2, .int a2), (3, .int a3), (4, .int a4), (5, .int v41_5), (6, .int v41_6), (8, .int v41_8)]) hx hb dX4_streetOnWay_127 hl (by decide) rfl (fun ls hl => ?_)
                    refine lv_aload_n hx hb dX4_streetOnWay_129 rfl (lv_at hl 3 rfl) ?_
                    refine tk_getA hC hK hw hT hinX4 kC_at155 (by decide) rfl 1 (by decide) (List.mem_cons_of_mem _ uw_5_23) rfl rfl dX4_streetOnWay_130 ?_
                    refine lv_iload hx hb dX4_streetOnWay_133 (lv_at hl 2 rfl) ?_
                    refine lv_iload hx hb dX4_streetOnWay_135 (lv_at hl 1 rfl) ?_
                    refine tk_Vi hC hK hw hT hA hE hSR kC_at39 (by decide) rfl (k_X7_cornerAcross_3 l adK adV dC dI cy ad B hB0 (Int.le_trans hB1 (by decide)) qr s1   r26 (show 0 ≤ r26.toInt by first | with_reducible assumption | omega) (show r26.toInt ≤ 11 by first | with_reducible assumption | omega) w148 H.size hT ) (cwV 2 hC.2.2.2.2 uV_RX4_51 rfl rfl rfl (by decide +kernel) ⟨Nat.le_of_ble_eq_true rfl, Nat.le_of_ble_eq_true rfl⟩) rfl hl.1 rfl (Nat.le_of_ble_eq_true rfl) dX4_streetOnWay_137 (fun r159 w161 H locs hp160 hw => ?_)
                    obtain ⟨hT, k162, hg165⟩ := hp160
                    have hF := hF.tr k162 (by decide)
                    have c166 := k162.gi kC_at39 (by decide) c153
                    have c167 := k162.gi kC_at39 (by decide) c154
                    have c168 := k162.gi kC_at40 rfl c155
                    obtain ⟨g163, g164⟩ := hg165
                    refine lv_istore (lv' := [(6, .int r159), (7, .int x158), (10, .int 1), (9, .int r26), (0, .ref (ad 155)), (1, .int a1), (2, .int a2), (3, .int a3), (4, .int a4), (5, .int v41_5), (8, .int v41_8)]) hx hb dX4_streetOnWay_140 hl (by decide) rfl (fun ls hl => ?_)
                    obtain ⟨x169, ex169⟩ : ∃ y : Int32, y = v41_8 + Int32.ofInt 1 := ⟨_, rfl⟩
                    refine lv_iinc (v := x169) (lv' := [(8, .int x169), (6, .int r159), (7, .int x158), (10, .int 1), (9, .int r26), (0, .ref (ad 155)), (1, .int a1), (2, .int a2), (3, .int a3), (4, .int a4), (5, .int v41_5)]) hx hb dX4_streetOnWay_142 hl (k := 10) rfl ex169.symm (by decide) rfl (fun ls hl => ?_)
                    have ex169 : x169.toInt = v41_8.toInt + 1 := by rw [ex169]; exact wk_add (y := 1) (show -2147483648 ≤ v41_8.toInt + 1 by omega) (show v41_8.toInt + 1 ≤ 2147483647 by omega)
                    refine lv_goto (tgt := 41) hx hb dX4_streetOnWay_145 (by decide) ?_
                    exact ih41 v41_5 r159 x158 x169 f41_39_8 f41_39_9 H locs ls w161 (show 0 ≤ a1.toInt from r2) (show a1.toInt ≤ 9 from t3) (show 0 ≤ a2.toInt from r4) (show a2.toInt ≤ 9 from t5) (show 0 ≤ a3.toInt from r6) (show a3.toInt ≤ 99999 from t7) (show 0 ≤ a4.toInt from r8) (show 0 ≤ v41_5.toInt from r9) (show v41_5.toInt ≤ 102119 from t10) (show 0 ≤ r159.toInt by first | with_reducible assumption | omega) (show r159.toInt ≤ 9 by first | with_reducible assumption | omega) (show (-1) ≤ x158.toInt by first | with_reducible assumption | omega) (show x158.toInt ≤ 102128 by first | with_reducible assumption | omega) (show 0 ≤ x169.toInt by first | with_reducible assumption | omega) (show x169.toInt ≤ 2001 by first | with_reducible assumption | omega) (show 1 ≤ f41_39_8.toInt from r17) (show f41_39_8.toInt ≤ 10 from t18) (show 0 ≤ f41_39_9.toInt from r20) (show f41_39_9.toInt ≤ 12 from t21) (show (2001 - x169.toInt).toNat < n41 by first | exact tn_lt hm41 (by omega) (by omega) | omega) hw hT hF c166 c167 (lv_sub hl [5, 6, 7, 8, 9, 10, 1, 2, 0] rfl)
                  · refine lv_aload_n hx hb dX4_streetOnWay_116 rfl (lv_at hl 2 rfl) ?_
                    refine tk_getA hC hK hw hT hinX4 kC_at155 (by decide) rfl 1 (by decide) (List.mem_cons_of_mem _ uw_5_23) rfl rfl dX4_streetOnWay_117 ?_
                    refine tk_getO hC hK hw hT hinX7 kC_at39 (by decide) rfl 1 (by decide) (List.mem_cons_of_mem _ uw_50_7) rfl rfl dX4_streetOnWay_120 ?_
                    refine lv_iload hx hb dX4_streetOnWay_123 (lv_at hl 1 rfl) ?_
                    refine tk_iald hC hK hw hT kC_at41 rfl rfl (show 0 ≤ r26.toInt by first | with_reducible assumption | omega) (show r26.toInt < 13 by first | with_reducible assumption | omega) dX4_streetOnWay_125 (fun x170 c171 rx170 tx170 => ?_)
                    refine lv_iadd hx hb dX4_streetOnWay_126 ?_
                    refine lv_topi (fun x172 ex172 => ?_)
                    have ex172 : x172.toInt = (-1 : Int) + x170.toInt := by rw [ex172]; exact wk_add (show (-2147483648) ≤ (-1 : Int) + x170.toInt by omega) (show (-1 : Int) + x170.toInt ≤ 2147483647 by omega)
                    refine lv_istore (lv' := [(7, .int x172), (10, .int 1), (9, .int r26), (0, .ref (ad 155)), (1, .int a1), (2, .int a2), (3, .int a3), (4, .int a4), (5, .int v41_5), (6, .int v41_6), (8, .int v41_8)]) hx hb dX4_streetOnWay_127 hl (by decide) rfl (fun ls hl => ?_)
                    refine lv_aload_n hx hb dX4_streetOnWay_129 rfl (lv_at hl 3 rfl) ?_
                    refine tk_getA hC hK hw hT hinX4 kC_at155 (by decide) rfl 1 (by decide) (List.mem_cons_of_mem _ uw_5_23) rfl rfl dX4_streetOnWay_130 ?_
                    refine lv_iload hx hb dX4_streetOnWay_133 (lv_at hl 2 rfl) ?_
                    refine lv_iload hx hb dX4_streetOnWay_135 (lv_at hl 1 rfl) ?_
                    refine tk_Vi hC hK hw hT hA hE hSR kC_at39 (by decide) rfl (k_X7_cornerAcross_3 l adK adV dC dI cy ad B hB0 (Int.le_trans hB1 (by decide)) qr s1   r26 (show 0 ≤ r26.toInt by first | with_reducible assumption | omega) (show r26.toInt ≤ 11 by first | with_reducible assumption | omega) w148 H.size hT ) (cwV 2 hC.2.2.2.2 uV_RX4_51 rfl rfl rfl (by decide +kernel) ⟨Nat.le_of_ble_eq_true rfl, Nat.le_of_ble_eq_true rfl⟩) rfl hl.1 rfl (Nat.le_of_ble_eq_true rfl) dX4_streetOnWay_137 (fun r173 w175 H locs hp174 hw => ?_)
                    obtain ⟨hT, k176, hg179⟩ := hp174
                    have hF := hF.tr k176 (by decide)
                    have c180 := k176.gi kC_at39 (by decide) c153
                    have c181 := k176.gi kC_at39 (by decide) c154
                    have c182 := k176.gi kC_at40 rfl c155
                    obtain ⟨g177, g178⟩ := hg179
                    refine lv_istore (lv' := [(6, .int r173), (7, .int x172), (10, .int 1), (9, .int r26), (0, .ref (ad 155)), (1, .int a1), (2, .int a2), (3, .int a3), (4, .int a4), (5, .int v41_5), (8, .int v41_8)]) hx hb dX4_streetOnWay_140 hl (by decide) rfl (fun ls hl => ?_)
                    obtain ⟨x183, ex183⟩ : ∃ y : Int32, y = v41_8 + Int32.ofInt 1 := ⟨_, rfl⟩
                    refine lv_iinc (v := x183) (lv' := [(8, .int x183), (6, .int r173), (7, .int x172), (10, .int 1), (9, .int r26), (0, .ref (ad 155)), (1, .int a1), (2, .int a2), (3, .int a3), (4, .int a4), (5, .int v41_5)]) hx hb dX4_streetOnWay_142 hl (k := 10) rfl ex183.symm (by decide) rfl (fun ls hl => ?_)
                    have ex183 : x183.toInt = v41_8.toInt + 1 := by rw [ex183]; exact wk_add (y := 1) (show -2147483648 ≤ v41_8.toInt + 1 by omega) (show v41_8.toInt + 1 ≤ 2147483647 by omega)
                    refine lv_goto (tgt := 41) hx hb dX4_streetOnWay_145 (by decide) ?_
                    exact ih41 v41_5 r173 x172 x183 f41_39_8 f41_39_9 H locs ls w175 (show 0 ≤ a1.toInt from r2) (show a1.toInt ≤ 9 from t3) (show 0 ≤ a2.toInt from r4) (show a2.toInt ≤ 9 from t5) (show 0 ≤ a3.toInt from r6) (show a3.toInt ≤ 99999 from t7) (show 0 ≤ a4.toInt from r8) (show 0 ≤ v41_5.toInt from r9) (show v41_5.toInt ≤ 102119 from t10) (show 0 ≤ r173.toInt by first | with_reducible assumption | omega) (show r173.toInt ≤ 9 by first | with_reducible assumption | omega) (show (-1) ≤ x172.toInt by first | with_reducible assumption | omega) (show x172.toInt ≤ 102128 by first | with_reducible assumption | omega) (show 0 ≤ x183.toInt by first | with_reducible assumption | omega) (show x183.toInt ≤ 2001 by first | with_reducible assumption | omega) (show 1 ≤ f41_39_8.toInt from r17) (show f41_39_8.toInt ≤ 10 from t18) (show 0 ≤ f41_39_9.toInt from r20) (show f41_39_9.toInt ≤ 12 from t21) (show (2001 - x183.toInt).toNat < n41 by first | exact tn_lt hm41 (by omega) (by omega) | omega) hw hT hF c180 c181 (lv_sub hl [5, 6, 7, 8, 9, 10, 1, 2, 0] rfl)
              · have c93 : v41_8.toInt = a4.toInt := wk_eq.mp c93
                refine lv_iload hx hb dX4_streetOnWay_85 (lv_at hl 0 rfl) ?_
                exact tk_iret hC hr hlocks hK ⟨hT, hF, (Or.inl ⟨(show 0 ≤ r26.toInt by first | with_reducible assumption | omega), (show r26.toInt ≤ 11 by first | with_reducible assumption | omega), (show a4.toInt ≤ 2000 by first | with_reducible assumption | omega), ⟨f41_39_8, c43, (show 1 ≤ f41_39_8.toInt from r17), (show f41_39_8.toInt ≤ 10 from t18)⟩, ⟨f41_39_9, c44, (show 1 ≤ f41_39_9.toInt by first | with_reducible assumption | omega), (show f41_39_9.toInt ≤ 12 from t21)⟩⟩)⟩ hw dX4_streetOnWay_87
            · refine lv_istore (lv' := [(9, .int (-1)), (0, .ref (ad 155)), (1, .int a1), (2, .int a2), (3, .int a3), (4, .int a4), (5, .int v41_5), (6, .int v41_6), (7, .int v41_7), (8, .int v41_8)]) hx hb dX4_streetOnWay_70 hl (by decide) rfl (fun ls hl => ?_)
              refine lv_iload hx hb dX4_streetOnWay_72 (lv_at hl 0 rfl) ?_
              refine lv_iconst (v := (-1)) hx hb dX4_streetOnWay_74 (by decide) ?_
              refine lv_icmp_eq (tgt := 85) hx hb dX4_streetOnWay_75 (by decide) (fun _ => ?_) (fun c => absurd (by decide) c)
              refine lv_iload hx hb dX4_streetOnWay_85 (lv_at hl 0 rfl) ?_
              exact tk_iret hC hr hlocks hK ⟨hT, hF, (Or.inr rfl)⟩ hw dX4_streetOnWay_87
  refine lv_aload_n hx hb dX4_streetOnWay_0 rfl (lv_at hl 0 rfl) ?_
  refine lv_aload_n hx hb dX4_streetOnWay_1 rfl (lv_at hl 0 rfl) ?_
  refine tk_getA hC hK hw hT hinX4 kC_at155 (by decide) rfl 1 (by decide) (List.mem_cons_of_mem _ uw_5_23) rfl rfl dX4_streetOnWay_2 ?_
  refine tk_geti hC hK hw hT hinX7 kC_at39 (by decide) rfl 9 (by decide) (List.mem_cons_of_mem _ uw_51_18) rfl rfl dX4_streetOnWay_5 (fun x184 c185 rx184 tx184 => ?_)
  refine lv_iload_n hx hb dX4_streetOnWay_8 rfl (lv_at hl 1 rfl) ?_
  refine lv_iload_n hx hb dX4_streetOnWay_9 rfl (lv_at hl 2 rfl) ?_
  refine lv_iload_n hx hb dX4_streetOnWay_10 rfl (lv_at hl 3 rfl) ?_
  refine tk_Vi hC hK hw hT hA hE hSR kC_at155 (by decide) rfl (k_X4_firstArrival_1 l adK adV dC dI cy ad B hB0 (Int.le_trans hB1 (by decide)) qr s1   x184 (show 0 ≤ x184.toInt from rx184) (show x184.toInt ≤ 12 from tx184) a1 (show 0 ≤ a1.toInt from ra1) (show a1.toInt ≤ 9 from ta1) a2 (show 0 ≤ a2.toInt from ra2) (show a2.toInt ≤ 9 from ta2) a3 (show 0 ≤ a3.toInt from ra3) (show a3.toInt ≤ 99999 from ta3) w0 s.heap.size hT ) (cwV 4 hC.2.2.2.2 uV_RX4_64 rfl rfl rfl (by decide +kernel) ⟨Nat.le_of_ble_eq_true rfl, Nat.le_of_ble_eq_true rfl⟩) rfl hl.1 rfl (Nat.le_of_ble_eq_true rfl) dX4_streetOnWay_11 (fun r186 w188 H locs hp187 hw => ?_)
  obtain ⟨hT, k189, hg194⟩ := hp187
  have hF := hF.tr k189 (by decide)
  have c195 := k189.gi kC_at39 (by decide) c185
  rcases hg194 with ⟨g190, g191, ⟨x192, c193, rx192, tx192⟩⟩ | rfl
  · refine lv_istore (lv' := [(5, .int r186), (0, .ref (ad 155)), (1, .int a1), (2, .int a2), (3, .int a3), (4, .int a4)]) hx hb dX4_streetOnWay_14 hl (by decide) rfl (fun ls hl => ?_)
    refine lv_iload hx hb dX4_streetOnWay_16 (lv_at hl 0 rfl) ?_
    refine lv_iconst (v := (-1)) hx hb dX4_streetOnWay_18 (by decide) ?_
    refine lv_icmp_ne (tgt := 24) hx hb dX4_streetOnWay_19 (by decide) (fun c196 => ?_) (fun c196 => ?_)
    · have c196 : ¬ r186.toInt = (-1 : Int) := wk_eqF c196
      refine lv_aload_n hx hb dX4_streetOnWay_24 rfl (lv_at hl 1 rfl) ?_
      refine lv_iload_n hx hb dX4_streetOnWay_25 rfl (lv_at hl 3 rfl) ?_
      refine lv_iload_n hx hb dX4_streetOnWay_26 rfl (lv_at hl 4 rfl) ?_
      refine lv_iload hx hb dX4_streetOnWay_27 (lv_at hl 0 rfl) ?_
      refine tk_Vv hC hK hw hT hA hE hSR kC_at155 (by decide) rfl (k_X4_findLatest_1 l adK adV dC dI cy ad B hB0 (Int.le_trans hB1 (by decide)) qr s1   a2 (show 0 ≤ a2.toInt from ra2) (show a2.toInt ≤ 9 from ta2) a3 (show 0 ≤ a3.toInt from ra3) (show a3.toInt ≤ 99999 from ta3) r186 (show 0 ≤ r186.toInt by first | with_reducible assumption | omega) (show r186.toInt ≤ 102119 by first | with_reducible assumption | omega) w188 H.size hT ) (cwV 3 hC.2.2.2.2 uV_RX4_67 rfl rfl rfl (by decide +kernel) ⟨Nat.le_of_ble_eq_true rfl, Nat.le_of_ble_eq_true rfl⟩) rfl hl.1 rfl (Nat.le_of_ble_eq_true rfl) dX4_streetOnWay_29 (fun w199 H locs hp198 hw => ?_)
      obtain ⟨hT, k200, hg201⟩ := hp198
      have hF := hF.tr k200 (by decide)
      have c202 := k200.gi kC_at39 (by decide) c195
      have c203 := k200.gi kC_at39 (by decide) c193
      clear hg201
      refine lv_iload_n hx hb dX4_streetOnWay_32 rfl (lv_at hl 2 rfl) ?_
      refine lv_istore (lv' := [(6, .int a1), (5, .int r186), (0, .ref (ad 155)), (1, .int a1), (2, .int a2), (3, .int a3), (4, .int a4)]) hx hb dX4_streetOnWay_33 hl (by decide) rfl (fun ls hl => ?_)
      refine lv_iload_n hx hb dX4_streetOnWay_35 rfl (lv_at hl 5 rfl) ?_
      refine lv_istore (lv' := [(7, .int a3), (6, .int a1), (5, .int r186), (0, .ref (ad 155)), (1, .int a1), (2, .int a2), (3, .int a3), (4, .int a4)]) hx hb dX4_streetOnWay_36 hl (by decide) rfl (fun ls hl => ?_)
      refine lv_iconst (v := 0) hx hb dX4_streetOnWay_38 (by decide) ?_
      refine lv_istore (lv' := [(8, .int 0), (7, .int a3), (6, .int a1), (5, .int r186), (0, .ref (ad 155)), (1, .int a1), (2, .int a2), (3, .int a3), (4, .int a4)]) hx hb dX4_streetOnWay_39 hl (by decide) rfl (fun ls hl => ?_)
      exact L41 ((2001 - (0 : Int)).toNat + 1) r186 a1 a3 0 x192 x184 H locs ls w199 (show 0 ≤ a1.toInt from ra1) (show a1.toInt ≤ 9 from ta1) (show 0 ≤ a2.toInt from ra2) (show a2.toInt ≤ 9 from ta2) (show 0 ≤ a3.toInt from ra3) (show a3.toInt ≤ 99999 from ta3) (show 0 ≤ a4.toInt from ra4) (show 0 ≤ r186.toInt by first | with_reducible assumption | omega) (show r186.toInt ≤ 102119 by first | with_reducible assumption | omega) (show 0 ≤ a1.toInt from ra1) (show a1.toInt ≤ 9 from ta1) (show (-1) ≤ a3.toInt from Int.le_trans (by decide) ra3) (show a3.toInt ≤ 102128 from Int.le_trans ta3 (by decide)) (by decide) (by decide) (show 1 ≤ x192.toInt by first | with_reducible assumption | omega) (show x192.toInt ≤ 10 by first | with_reducible assumption | omega) (show 0 ≤ x184.toInt from rx184) (show x184.toInt ≤ 12 from tx184) (Nat.lt_succ_self _) hw hT hF c203 c202 (lv_sub hl [4, 5, 6, 7, 8, 3, 2, 1, 0] rfl)
    · have c196 : r186.toInt = (-1 : Int) := wk_eq.mp c196
      refine lv_iconst (v := (-1)) hx hb dX4_streetOnWay_22 (by decide) ?_
      exact tk_iret hC hr hlocks hK ⟨hT, hF, (Or.inr rfl)⟩ hw dX4_streetOnWay_23
  · refine lv_istore (lv' := [(5, .int (-1)), (0, .ref (ad 155)), (1, .int a1), (2, .int a2), (3, .int a3), (4, .int a4)]) hx hb dX4_streetOnWay_14 hl (by decide) rfl (fun ls hl => ?_)
    refine lv_iload hx hb dX4_streetOnWay_16 (lv_at hl 0 rfl) ?_
    refine lv_iconst (v := (-1)) hx hb dX4_streetOnWay_18 (by decide) ?_
    refine lv_icmp_ne (tgt := 24) hx hb dX4_streetOnWay_19 (by decide) (fun c => absurd (by decide) c) (fun _ => ?_)
    refine lv_iconst (v := (-1)) hx hb dX4_streetOnWay_22 (by decide) ?_
    exact tk_iret hC hr hlocks hK ⟨hT, hF, (Or.inr rfl)⟩ hw dX4_streetOnWay_23
abbrev P_X11_way_1 (ad : Nat → Nat) (cy : Nat → ClassId) (B : Int) (qr : Nat) (s1 : Int) (a1 : Int32) (a2 : Int32) (a3 : Int32) (a4 : Int32) (w0 : va_W) : Int32 → va_W → Prop := fun r u => TW ksC ad cy B qr s1 u ∧ FE ksC [(48, 0, 10), (49, 0, 10)] w0 u ∧ ((r = (-2) ∧ 0 ≤ a1.toInt ∧ a1.toInt ≤ 9 ∧ 0 ≤ a2.toInt ∧ a2.toInt ≤ 9 ∧ 0 ≤ a3.toInt ∧ a3.toInt ≤ 99999 ∧ 0 ≤ a4.toInt ∧ (∃ y : Int32, gi u 39 8 = y ∧ 1 ≤ y.toInt ∧ y.toInt ≤ 10)) ∨ (0 ≤ r.toInt ∧ r.toInt ≤ 11 ∧ 0 ≤ a1.toInt ∧ a1.toInt ≤ 9 ∧ 0 ≤ a2.toInt ∧ a2.toInt ≤ 9 ∧ 0 ≤ a3.toInt ∧ a3.toInt ≤ 99999 ∧ 0 ≤ a4.toInt ∧ a4.toInt ≤ 2000 ∧ (∃ y : Int32, gi u 39 8 = y ∧ 1 ≤ y.toInt ∧ y.toInt ≤ 10) ∧ (∃ y : Int32, gi u 39 9 = y ∧ 1 ≤ y.toInt ∧ y.toInt ≤ 12)) ∨ (r = (-1)))
set_option maxHeartbeats 4000000 in
set_option maxRecDepth 100000 in
theorem k_X11_way_1 (l : Launch) (adK adV : Nat → Nat) (dC : Nat → ClassId) (dI : Nat → Nat → Nat) (cy : Nat → ClassId) (ad : Nat → Nat) (B : Int) (hB0 : 2147483648 ≤ B) (hB1 : B ≤ 1152921504606846976) (qr : Nat) (s1 : Int)  (a1 : Int32) (a2 : Int32) (a3 : Int32) (a4 : Int32) (w0 : va_W) (sz : Nat) (hT : TW ksC ad cy B qr s1 w0)  : Met l yX11_way (wu yX11_way cX11_way 6 (some .int)) ({ frames := 6, cells := 0, slots := 0, locals := 152 }) (va_Pc [.ref (ad 0), .int a1, .int a2, .int a3, .int a4] (wpreS adK adV dC dI cy sz w0)) (va_Qi (P_X11_way_1 ad cy B qr s1 a1 a2 a3 a4 w0) (fun u : va_W => wpost dC dI cy (va_A w0 sz) u) (va_A w0 sz)) 0 0 (va_A w0 sz) := by
  refine Met.ofW (cc := cX11_way) (maxL := 6) (ret := (some .int)) (by decide) rfl ?_
  intro p e s m args below meth c s₁ Bk hml hv
  obtain ⟨rfl, ⟨hsz, hP, hK, hD0⟩, hE, hSR⟩ := hv
  have hx := Bk.exec
  have hb := Bk.bytes
  have hr := Bk.returns
  have hlocks := Bk.notSynchronized
  have hC : CallFix p m c cX11_way 6 s _ (wu yX11_way cX11_way 6 (some .int)) RX11 := ⟨hx, hb, hml, findClass_of_methodNamed Bk.named, atoms_spec (ws := (wu yX11_way cX11_way 6 (some .int))) Bk.pre⟩
  subst hsz
  have hD := hD0.self (sz := s.heap.size)
  generalize hAe : va_A w0 s.heap.size = A at hD hE ⊢
  have hA : ∀ q : Nat, s.heap.size ≤ q → A q := fun q h => by rw [← hAe]; exact Or.inr h
  have hw : Wd dC dI A s.heap s.heap [] w0 := ⟨hP, hD, va_S.rf⟩
  have hF : FE ksC [(48, 0, 10), (49, 0, 10)] w0 w0 := FE.rf
  have hl := lv_entry ([.ref (ad 0), .int a1, .int a2, .int a3, .int a4]) (n := 6) (Nat.le_of_ble_eq_true rfl)
  rw [lg_entry_eq]
  generalize (lg_sl ([.ref (ad 0), .int a1, .int a2, .int a3, .int a4]) ++ List.replicate (6 - (lg_sl ([.ref (ad 0), .int a1, .int a2, .int a3, .int a4])).length) Slot.unset).toArray = ls at hl ⊢
  have hl : lv_has ls 6 [(0, .ref (ad 0)), (1, .int a1), (2, .int a2), (3, .int a3), (4, .int a4)] := hl
  generalize hloc : ([] : List Loc) = locs at hw ⊢
  have hinX11 : ∀ w ∈ u_ws RX11 TX11 13, w ∈ (wu yX11_way cX11_way 6 (some .int)) := fun _ h => List.mem_cons_of_mem _ (up_70 h)
  have J28 : ∀ (H : Heap) (locs : List Loc) (ls : Array Slot) (w1 : va_W), Wd dC dI A s.heap H locs w1 → TW ksC ad cy B qr s1 w1 → FE ksC [(48, 0, 10), (49, 0, 10)] w0 w1 → lv_has ls 6 [(0, .ref (ad 0)), (1, .int a1), (2, .int a2), (3, .int a3), (4, .int a4)] → W p l e ({ frames := 6, cells := 0, slots := 0, locals := 152 }) s m (List.toArray [.ref (ad 0), .int a1, .int a2, .int a3, .int a4]) below meth c H locs 0 0 (MQ below (va_Qi (P_X11_way_1 ad cy B qr s1 a1 a2 a3 a4 w0) (fun u : va_W => wpost dC dI cy A u) A) (List.toArray [.ref (ad 0), .int a1, .int a2, .int a3, .int a4]) s 0 0 A) (F0 m 28 ls []) := by
    intro H locs ls w1 hw hT hF hl
    refine lv_iconst (v := (-1)) hx hb dX11_way_28 (by decide) ?_
    exact tk_iret hC hr hlocks hK ⟨hT, hF, (Or.inr (Or.inr rfl))⟩ hw dX11_way_29
  refine lv_aload_n hx hb dX11_way_0 rfl (lv_at hl 0 rfl) ?_
  refine lv_iload_n hx hb dX11_way_1 rfl (lv_at hl 1 rfl) ?_
  refine tk_Vi hC hK hw hT hA hE hSR kC_at0 (by decide) rfl (k_X11_hasCorner_1 l adK adV dC dI cy ad B hB0 (Int.le_trans hB1 (by decide)) qr s1   a1 w0 s.heap.size hT ) (cwV 1 hC.2.2.2.2 uV_RX11_176 rfl rfl rfl (by decide +kernel) ⟨Nat.le_of_ble_eq_true rfl, Nat.le_of_ble_eq_true rfl⟩) rfl hl.1 rfl (Nat.le_of_ble_eq_true rfl) dX11_way_2 (fun r2 w4 H locs hp3 hw => ?_)
  obtain ⟨hT, k5, hg10⟩ := hp3
  have hF := hF.tr k5 (by decide)
  rcases hg10 with rfl | ⟨rfl, g6, g7, ⟨x8, c9, rx8, tx8⟩⟩
  · refine lv_if_eq (tgt := 28) hx hb dX11_way_5 (by decide) (fun _ => ?_) (fun c => absurd (by decide) c)
    exact J28  H locs ls w4   hw hT hF  (lv_sub hl [0, 1, 2, 3, 4] rfl)
  · refine lv_if_eq (tgt := 28) hx hb dX11_way_5 (by decide) (fun c => absurd c (by decide)) (fun _ => ?_)
    refine lv_aload_n hx hb dX11_way_8 rfl (lv_at hl 0 rfl) ?_
    refine lv_iload_n hx hb dX11_way_9 rfl (lv_at hl 2 rfl) ?_
    refine tk_Vi hC hK hw hT hA hE hSR kC_at0 (by decide) rfl (k_X11_hasCorner_1 l adK adV dC dI cy ad B hB0 (Int.le_trans hB1 (by decide)) qr s1   a2 w4 H.size hT ) (cwV 1 hC.2.2.2.2 uV_RX11_176 rfl rfl rfl (by decide +kernel) ⟨Nat.le_of_ble_eq_true rfl, Nat.le_of_ble_eq_true rfl⟩) rfl hl.1 rfl (Nat.le_of_ble_eq_true rfl) dX11_way_10 (fun r11 w13 H locs hp12 hw => ?_)
    obtain ⟨hT, k14, hg19⟩ := hp12
    have hF := hF.tr k14 (by decide)
    have c20 := k14.gi kC_at39 (by decide) c9
    rcases hg19 with rfl | ⟨rfl, g15, g16, ⟨x17, c18, rx17, tx17⟩⟩
    · refine lv_if_eq (tgt := 28) hx hb dX11_way_13 (by decide) (fun _ => ?_) (fun c => absurd (by decide) c)
      exact J28  H locs ls w13   hw hT hF  (lv_sub hl [0, 1, 2, 3, 4] rfl)
    · have ex17 : x17.toInt = x8.toInt := by rw [← c20.symm.trans c18]
      refine lv_if_eq (tgt := 28) hx hb dX11_way_13 (by decide) (fun c => absurd c (by decide)) (fun _ => ?_)
      refine lv_iload_n hx hb dX11_way_16 rfl (lv_at hl 3 rfl) ?_
      refine tk_Si hC hK hw hT hA hE hSR (k_X11_isAskedHour_1 l adK adV dC dI cy ad B hB0 (Int.le_trans hB1 (by decide)) qr s1   a3 w13 H.size hT ) (va_cwS 1 hC.2.2.2.2 uS_RX11_222 rfl rfl rfl (by decide +kernel) ⟨Nat.le_of_ble_eq_true rfl, Nat.le_of_ble_eq_true rfl⟩) rfl hl.1 rfl (Nat.le_of_ble_eq_true rfl) dX11_way_17 (fun r21 w23 H locs hp22 hw => ?_)
      obtain ⟨hT, k24, hg27⟩ := hp22
      have hF := hF.tr k24 (by decide)
      have c28 := k24.gi kC_at39 (by decide) c20
      rcases hg27 with rfl | ⟨rfl, g25, g26⟩
      · refine lv_if_eq (tgt := 28) hx hb dX11_way_20 (by decide) (fun _ => ?_) (fun c => absurd (by decide) c)
        exact J28  H locs ls w23   hw hT hF  (lv_sub hl [0, 1, 2, 3, 4] rfl)
      · refine lv_if_eq (tgt := 28) hx hb dX11_way_20 (by decide) (fun c => absurd c (by decide)) (fun _ => ?_)
        refine lv_iload hx hb dX11_way_23 (lv_at hl 4 rfl) ?_
        refine lv_if_ge (tgt := 30) hx hb dX11_way_25 (by decide) (fun c29 => ?_) (fun c29 => ?_)
        · have c29 : (0 : Int) ≤ a4.toInt := wk_le.mp c29
          refine lv_aload_n hx hb dX11_way_30 rfl (lv_at hl 0 rfl) ?_
          refine tk_getA hC hK hw hT hinX11 kC_at0 (by decide) rfl 10 (by decide) (List.mem_cons_of_mem _ uw_2_2) rfl rfl dX11_way_31 ?_
          refine lv_iload_n hx hb dX11_way_34 rfl (lv_at hl 1 rfl) ?_
          refine lv_iload_n hx hb dX11_way_35 rfl (lv_at hl 2 rfl) ?_
          refine lv_iload_n hx hb dX11_way_36 rfl (lv_at hl 3 rfl) ?_
          refine lv_iload hx hb dX11_way_37 (lv_at hl 4 rfl) ?_
          refine tk_Vi hC hK hw hT hA hE hSR kC_at155 (by decide) rfl (k_X4_streetOnWay_1 l adK adV dC dI cy ad B hB0 (Int.le_trans hB1 (by decide)) qr s1   a1 (show 0 ≤ a1.toInt by first | with_reducible assumption | omega) (show a1.toInt ≤ 9 by first | with_reducible assumption | omega) a2 (show 0 ≤ a2.toInt by first | with_reducible assumption | omega) (show a2.toInt ≤ 9 by first | with_reducible assumption | omega) a3 (show 0 ≤ a3.toInt by first | with_reducible assumption | omega) (show a3.toInt ≤ 99999 by first | with_reducible assumption | omega) a4 (show 0 ≤ a4.toInt from c29) w23 H.size hT ) (cwV 4 hC.2.2.2.2 uV_RX11_229 rfl rfl rfl (by decide +kernel) ⟨Nat.le_of_ble_eq_true rfl, Nat.le_of_ble_eq_true rfl⟩) rfl hl.1 rfl (Nat.le_of_ble_eq_true rfl) dX11_way_39 (fun r30 w32 H locs hp31 hw => ?_)
          obtain ⟨hT, k33, hg41⟩ := hp31
          have hF := hF.tr k33 (by decide)
          have c42 := k33.gi kC_at39 (by decide) c28
          rcases hg41 with ⟨g34, g35, g36, ⟨x37, c38, rx37, tx37⟩, ⟨x39, c40, rx39, tx39⟩⟩ | rfl
          · have ex37 : x37.toInt = x8.toInt := by rw [← c42.symm.trans c38]
            refine lv_istore (lv' := [(5, .int r30), (0, .ref (ad 0)), (1, .int a1), (2, .int a2), (3, .int a3), (4, .int a4)]) hx hb dX11_way_42 hl (by decide) rfl (fun ls hl => ?_)
            refine lv_iload hx hb dX11_way_44 (lv_at hl 0 rfl) ?_
            refine lv_iconst (v := (-1)) hx hb dX11_way_46 (by decide) ?_
            refine lv_icmp_ne (tgt := 55) hx hb dX11_way_47 (by decide) (fun _ => ?_) (fun c => absurd (show r30.toInt = (-1 : Int) from wk_eq.mp c) (by omega))
            refine lv_iload hx hb dX11_way_55 (lv_at hl 0 rfl) ?_
            exact tk_iret hC hr hlocks hK ⟨hT, hF, (Or.inr (Or.inl ⟨(show 0 ≤ r30.toInt by first | with_reducible assumption | omega), (show r30.toInt ≤ 11 by first | with_reducible assumption | omega), (show 0 ≤ a1.toInt by first | with_reducible assumption | omega), (show a1.toInt ≤ 9 by first | with_reducible assumption | omega), (show 0 ≤ a2.toInt by first | with_reducible assumption | omega), (show a2.toInt ≤ 9 by first | with_reducible assumption | omega), (show 0 ≤ a3.toInt by first | with_reducible assumption | omega), (show a3.toInt ≤ 99999 by first | with_reducible assumption | omega), (show 0 ≤ a4.toInt from c29), (show a4.toInt ≤ 2000 by first | with_reducible assumption | omega), ⟨x8, c42, (show 1 ≤ x8.toInt by first | with_reducible assumption | omega), (show x8.toInt ≤ 10 by first | with_reducible assumption | omega)⟩, ⟨x39, c40, (show 1 ≤ x39.toInt by first | with_reducible assumption | omega), (show x39.toInt ≤ 12 by first | with_reducible assumption | omega)⟩⟩))⟩ hw dX11_way_57
          · refine lv_istore (lv' := [(5, .int (-1)), (0, .ref (ad 0)), (1, .int a1), (2, .int a2), (3, .int a3), (4, .int a4)]) hx hb dX11_way_42 hl (by decide) rfl (fun ls hl => ?_)
            refine lv_iload hx hb dX11_way_44 (lv_at hl 0 rfl) ?_
            refine lv_iconst (v := (-1)) hx hb dX11_way_46 (by decide) ?_
            refine lv_icmp_ne (tgt := 55) hx hb dX11_way_47 (by decide) (fun c => absurd (by decide) c) (fun _ => ?_)
            refine lv_bipush (v := (-2)) hx hb dX11_way_50 (by decide) ?_
            refine lv_goto (tgt := 57) hx hb dX11_way_52 (by decide) ?_
            exact tk_iret hC hr hlocks hK ⟨hT, hF, (Or.inl ⟨rfl, (show 0 ≤ a1.toInt by first | with_reducible assumption | omega), (show a1.toInt ≤ 9 by first | with_reducible assumption | omega), (show 0 ≤ a2.toInt by first | with_reducible assumption | omega), (show a2.toInt ≤ 9 by first | with_reducible assumption | omega), (show 0 ≤ a3.toInt by first | with_reducible assumption | omega), (show a3.toInt ≤ 99999 by first | with_reducible assumption | omega), (show 0 ≤ a4.toInt from c29), ⟨x8, c42, (show 1 ≤ x8.toInt by first | with_reducible assumption | omega), (show x8.toInt ≤ 10 by first | with_reducible assumption | omega)⟩⟩)⟩ hw dX11_way_57
        · have c29 : a4.toInt < (0 : Int) := wk_leF c29
          exact J28  H locs ls w23   hw hT hF  (lv_sub hl [0, 1, 2, 3, 4] rfl)
abbrev P_X12_isStreet_1 (ad : Nat → Nat) (cy : Nat → ClassId) (B : Int) (qr : Nat) (s1 : Int) (a1 : Int32) (w0 : va_W) : Int32 → va_W → Prop := fun r u => w0 = u ∧ ((r = 0) ∨ (r = 1 ∧ 0 ≤ a1.toInt ∧ a1.toInt ≤ 11 ∧ (∃ y : Int32, gi u 12 1 = y ∧ 1 ≤ y.toInt ∧ y.toInt ≤ 12)))
set_option maxHeartbeats 4000000 in
set_option maxRecDepth 100000 in
theorem k_X12_isStreet_1 (l : Launch) (adK adV : Nat → Nat) (dC : Nat → ClassId) (dI : Nat → Nat → Nat) (cy : Nat → ClassId) (ad : Nat → Nat) (B : Int) (hB0 : 100000 ≤ B) (hB1 : B ≤ 1073741824) (qr : Nat) (s1 : Int)  (a1 : Int32) (w0 : va_W) (sz : Nat) (hT : TW ksM ad cy B qr 12 w0)  : Met l yX12_isStreet (wu yX12_isStreet cX12_isStreet 2 (some .boolean)) ({ frames := 1, cells := 0, slots := 0, locals := 12 }) (va_Pc [.ref (ad 0), .int a1] (wpreS adK adV dC dI cy sz w0)) (va_Qi (P_X12_isStreet_1 ad cy B qr s1 a1 w0) (fun u : va_W => wpost dC dI cy (va_A w0 sz) u) (va_A w0 sz)) 0 0 (va_A w0 sz) := by
  refine Met.ofW (cc := cX12_isStreet) (maxL := 2) (ret := (some .boolean)) (by decide) rfl ?_
  intro p e s m args below meth c s₁ Bk hml hv
  obtain ⟨rfl, ⟨hsz, hP, hK, hD0⟩, hE, hSR⟩ := hv
  have hx := Bk.exec
  have hb := Bk.bytes
  have hr := Bk.returns
  have hlocks := Bk.notSynchronized
  have hC : CallFix p m c cX12_isStreet 2 s _ (wu yX12_isStreet cX12_isStreet 2 (some .boolean)) RX12 := ⟨hx, hb, hml, findClass_of_methodNamed Bk.named, atoms_spec (ws := (wu yX12_isStreet cX12_isStreet 2 (some .boolean))) Bk.pre⟩
  subst hsz
  have hD := hD0.self (sz := s.heap.size)
  generalize hAe : va_A w0 s.heap.size = A at hD hE ⊢
  have hA : ∀ q : Nat, s.heap.size ≤ q → A q := fun q h => by rw [← hAe]; exact Or.inr h
  have hw : Wd dC dI A s.heap s.heap [] w0 := ⟨hP, hD, va_S.rf⟩
  have hF : FE ksM ([] : List (Nat × Nat × Nat)) w0 w0 := FE.rf
  have hl := lv_entry ([.ref (ad 0), .int a1]) (n := 2) (Nat.le_of_ble_eq_true rfl)
  rw [lg_entry_eq]
  generalize (lg_sl ([.ref (ad 0), .int a1]) ++ List.replicate (2 - (lg_sl ([.ref (ad 0), .int a1])).length) Slot.unset).toArray = ls at hl ⊢
  have hl : lv_has ls 2 [(0, .ref (ad 0)), (1, .int a1)] := hl
  generalize hloc : ([] : List Loc) = locs at hw ⊢
  have hinX12 : ∀ w ∈ u_ws RX12 TX12 42, w ∈ (wu yX12_isStreet cX12_isStreet 2 (some .boolean)) := fun _ h => List.mem_cons_of_mem _ (up_71 h)
  have J18 : ∀ (H : Heap) (locs : List Loc) (ls : Array Slot), Wd dC dI A s.heap H locs w0 → lv_has ls 2 [(0, .ref (ad 0)), (1, .int a1)] → W p l e ({ frames := 1, cells := 0, slots := 0, locals := 12 }) s m (List.toArray [.ref (ad 0), .int a1]) below meth c H locs 0 0 (MQ below (va_Qi (P_X12_isStreet_1 ad cy B qr s1 a1 w0) (fun u : va_W => wpost dC dI cy A u) A) (List.toArray [.ref (ad 0), .int a1]) s 0 0 A) (F0 m 18 ls []) := by
    intro H locs ls hw hl
    refine lv_iconst (v := 0) hx hb dX12_isStreet_18 (by decide) ?_
    exact tk_zret hC hr rfl hlocks hK ⟨rfl, (Or.inl rfl)⟩ hw dX12_isStreet_19
  refine lv_iload_n hx hb dX12_isStreet_0 rfl (lv_at hl 1 rfl) ?_
  refine lv_if_lt (tgt := 18) hx hb dX12_isStreet_1 (by decide) (fun c1 => ?_) (fun c1 => ?_)
  · have c1 : a1.toInt < (0 : Int) := wk_lt.mp c1
    exact J18  s.heap locs ls    hw   (lv_sub hl [0, 1] rfl)
  · have c1 : (0 : Int) ≤ a1.toInt := wk_ltF c1
    refine lv_iload_n hx hb dX12_isStreet_4 rfl (lv_at hl 1 rfl) ?_
    refine lv_aload_n hx hb dX12_isStreet_5 rfl (lv_at hl 0 rfl) ?_
    refine tk_getA hC hK hw hT hinX12 kM_at0 (by decide) rfl 26 (by decide) (List.mem_cons_of_mem _ uw_7_1) rfl rfl dX12_isStreet_6 ?_
    refine lv_iconst (v := 1) hx hb dX12_isStreet_9 (by decide) ?_
    refine tk_ialdR hC hK hw hT kM_at12 rfl (by decide) (by decide) dX12_isStreet_10 (fun x2 c3 Ex2 => ?_)
    have bx2 : 0 ≤ x2.toInt ∧ x2.toInt ≤ 12 := (tk_rg1 rfl).mp Ex2
    have c3 : gi w0 12 1 = x2 := c3
    refine lv_icmp_ge (tgt := 18) hx hb dX12_isStreet_11 (by decide) (fun c4 => ?_) (fun c4 => ?_)
    · have c4 : x2.toInt ≤ a1.toInt := wk_le.mp c4
      exact J18  s.heap locs ls    hw   (lv_sub hl [0, 1] rfl)
    · have c4 : a1.toInt < x2.toInt := wk_leF c4
      refine lv_iconst (v := 1) hx hb dX12_isStreet_14 (by decide) ?_
      refine lv_goto (tgt := 19) hx hb dX12_isStreet_15 (by decide) ?_
      exact tk_zret hC hr rfl hlocks hK ⟨rfl, (Or.inr ⟨rfl, (show 0 ≤ a1.toInt from c1), (show a1.toInt ≤ 11 by first | with_reducible assumption | omega), ⟨x2, c3, (show 1 ≤ x2.toInt by first | with_reducible assumption | omega), (show x2.toInt ≤ 12 by first | with_reducible assumption | omega)⟩⟩)⟩ hw dX12_isStreet_19
abbrev P_X12_streetOf_2 (ad : Nat → Nat) (cy : Nat → ClassId) (B : Int) (qr : Nat) (s1 : Int) (a1 : Int32) (w0 : va_W) : Int32 → va_W → Prop := fun r u => w0 = u ∧ ((0 ≤ r.toInt ∧ r.toInt ≤ 9 ∧ gi u 12 (10 * a1.toInt + 10).toNat = r))
set_option maxHeartbeats 4000000 in
set_option maxRecDepth 100000 in
theorem k_X12_streetOf_2 (l : Launch) (adK adV : Nat → Nat) (dC : Nat → ClassId) (dI : Nat → Nat → Nat) (cy : Nat → ClassId) (ad : Nat → Nat) (B : Int) (hB0 : 100000 ≤ B) (hB1 : B ≤ 1073741824) (qr : Nat) (s1 : Int)  (a1 : Int32) (ra1 : 0 ≤ a1.toInt) (ta1 : a1.toInt ≤ 11) (w0 : va_W) (sz : Nat) (hT : TW ksM ad cy B qr 12 w0)  : Met l yX12_streetOf (wu yX12_streetOf cX12_streetOf 3 (some .int)) ({ frames := 1, cells := 0, slots := 0, locals := 12 }) (va_Pc [.ref (ad 0), .int a1, .int 0] (wpreS adK adV dC dI cy sz w0)) (va_Qi (P_X12_streetOf_2 ad cy B qr s1 a1 w0) (fun u : va_W => wpost dC dI cy (va_A w0 sz) u) (va_A w0 sz)) 0 0 (va_A w0 sz) := by
  refine Met.ofW (cc := cX12_streetOf) (maxL := 3) (ret := (some .int)) (by decide) rfl ?_
  intro p e s m args below meth c s₁ Bk hml hv
  obtain ⟨rfl, ⟨hsz, hP, hK, hD0⟩, hE, hSR⟩ := hv
  have hx := Bk.exec
  have hb := Bk.bytes
  have hr := Bk.returns
  have hlocks := Bk.notSynchronized
  have hC : CallFix p m c cX12_streetOf 3 s _ (wu yX12_streetOf cX12_streetOf 3 (some .int)) RX12 := ⟨hx, hb, hml, findClass_of_methodNamed Bk.named, atoms_spec (ws := (wu yX12_streetOf cX12_streetOf 3 (some .int))) Bk.pre⟩
  subst hsz
  have hD := hD0.self (sz := s.heap.size)
  generalize hAe : va_A w0 s.heap.size = A at hD hE ⊢
  have hA : ∀ q : Nat, s.heap.size ≤ q → A q := fun q h => by rw [← hAe]; exact Or.inr h
  have hw : Wd dC dI A s.heap s.heap [] w0 := ⟨hP, hD, va_S.rf⟩
  have hF : FE ksM ([] : List (Nat × Nat × Nat)) w0 w0 := FE.rf
  have hl := lv_entry ([.ref (ad 0), .int a1, .int 0]) (n := 3) (Nat.le_of_ble_eq_true rfl)
  rw [lg_entry_eq]
  generalize (lg_sl ([.ref (ad 0), .int a1, .int 0]) ++ List.replicate (3 - (lg_sl ([.ref (ad 0), .int a1, .int 0])).length) Slot.unset).toArray = ls at hl ⊢
  have hl : lv_has ls 3 [(0, .ref (ad 0)), (1, .int a1), (2, .int 0)] := hl
  generalize hloc : ([] : List Loc) = locs at hw ⊢
  have hinX12 : ∀ w ∈ u_ws RX12 TX12 42, w ∈ (wu yX12_streetOf cX12_streetOf 3 (some .int)) := fun _ h => List.mem_cons_of_mem _ (up_71 h)
  refine lv_aload_n hx hb dX12_streetOf_0 rfl (lv_at hl 0 rfl) ?_
  refine tk_getA hC hK hw hT hinX12 kM_at0 (by decide) rfl 26 (by decide) (List.mem_cons_of_mem _ uw_7_1) rfl rfl dX12_streetOf_1 ?_
  refine lv_bipush (v := 10) hx hb dX12_streetOf_4 (by decide) ?_
  refine lv_bipush (v := 10) hx hb dX12_streetOf_6 (by decide) ?_
  refine lv_iload_n hx hb dX12_streetOf_8 rfl (lv_at hl 1 rfl) ?_
  refine lv_imul hx hb dX12_streetOf_9 ?_
  refine lv_topi (fun x1 ex1 => ?_)
  have ex1 : x1.toInt = (10 : Int) * a1.toInt := by rw [ex1]; exact wk_mul (show (-2147483648) ≤ (10 : Int) * a1.toInt by omega) (show (10 : Int) * a1.toInt ≤ 2147483647 by omega)
  refine lv_iadd hx hb dX12_streetOf_10 ?_
  refine lv_topi (fun x2 ex2 => ?_)
  have ex2 : x2.toInt = (10 : Int) + x1.toInt := by rw [ex2]; exact wk_add (show (-2147483648) ≤ (10 : Int) + x1.toInt by omega) (show (10 : Int) + x1.toInt ≤ 2147483647 by omega)
  refine lv_iload_n hx hb dX12_streetOf_11 rfl (lv_at hl 2 rfl) ?_
  refine lv_iadd hx hb dX12_streetOf_12 ?_
  refine lv_topi (fun x3 ex3 => ?_)
  have ex3 : x3.toInt = x2.toInt + (0 : Int) := by rw [ex3]; exact wk_add (show (-2147483648) ≤ x2.toInt + (0 : Int) by omega) (show x2.toInt + (0 : Int) ≤ 2147483647 by omega)
  refine tk_ialdR hC hK hw hT kM_at12 rfl (show 0 ≤ x3.toInt by first | with_reducible assumption | omega) (show x3.toInt < 296 by first | with_reducible assumption | omega) dX12_streetOf_13 (fun x4 c5 Ex4 => ?_)
  have c5 : gi w0 12 (10 * a1.toInt + 10).toNat = x4 := (congrArg (gi w0 12) (congrArg Int.toNat (show 10 * a1.toInt + 10 = x3.toInt by first | exact Int.le_antisymm (by omega) (by omega) | omega))).trans c5
  have bx4 := tk_rgI rfl 10 10 12 0 9 (by decide +kernel) ⟨(a1.toInt - 0).toNat, by omega, show x3.toInt.toNat = 10 + 10 * (a1.toInt - 0).toNat by omega⟩ Ex4
  exact tk_iret hC hr hlocks hK ⟨rfl, ⟨(show 0 ≤ x4.toInt by first | with_reducible assumption | omega), (show x4.toInt ≤ 9 by first | with_reducible assumption | omega), c5⟩⟩ hw dX12_streetOf_14
abbrev P_X12_streetOf_3 (ad : Nat → Nat) (cy : Nat → ClassId) (B : Int) (qr : Nat) (s1 : Int) (a1 : Int32) (w0 : va_W) : Int32 → va_W → Prop := fun r u => w0 = u ∧ ((0 ≤ r.toInt ∧ r.toInt ≤ 9 ∧ gi u 12 (10 * a1.toInt + 11).toNat = r))
set_option maxHeartbeats 4000000 in
set_option maxRecDepth 100000 in
theorem k_X12_streetOf_3 (l : Launch) (adK adV : Nat → Nat) (dC : Nat → ClassId) (dI : Nat → Nat → Nat) (cy : Nat → ClassId) (ad : Nat → Nat) (B : Int) (hB0 : 100000 ≤ B) (hB1 : B ≤ 1073741824) (qr : Nat) (s1 : Int)  (a1 : Int32) (ra1 : 0 ≤ a1.toInt) (ta1 : a1.toInt ≤ 11) (w0 : va_W) (sz : Nat) (hT : TW ksM ad cy B qr 12 w0)  : Met l yX12_streetOf (wu yX12_streetOf cX12_streetOf 3 (some .int)) ({ frames := 1, cells := 0, slots := 0, locals := 12 }) (va_Pc [.ref (ad 0), .int a1, .int 1] (wpreS adK adV dC dI cy sz w0)) (va_Qi (P_X12_streetOf_3 ad cy B qr s1 a1 w0) (fun u : va_W => wpost dC dI cy (va_A w0 sz) u) (va_A w0 sz)) 0 0 (va_A w0 sz) := by
  refine Met.ofW (cc := cX12_streetOf) (maxL := 3) (ret := (some .int)) (by decide) rfl ?_
  intro p e s m args below meth c s₁ Bk hml hv
  obtain ⟨rfl, ⟨hsz, hP, hK, hD0⟩, hE, hSR⟩ := hv
  have hx := Bk.exec
  have hb := Bk.bytes
  have hr := Bk.returns
  have hlocks := Bk.notSynchronized
  have hC : CallFix p m c cX12_streetOf 3 s _ (wu yX12_streetOf cX12_streetOf 3 (some .int)) RX12 := ⟨hx, hb, hml, findClass_of_methodNamed Bk.named, atoms_spec (ws := (wu yX12_streetOf cX12_streetOf 3 (some .int))) Bk.pre⟩
  subst hsz
  have hD := hD0.self (sz := s.heap.size)
  generalize hAe : va_A w0 s.heap.size = A at hD hE ⊢
  have hA : ∀ q : Nat, s.heap.size ≤ q → A q := fun q h => by rw [← hAe]; exact Or.inr h
  have hw : Wd dC dI A s.heap s.heap [] w0 := ⟨hP, hD, va_S.rf⟩
  have hF : FE ksM ([] : List (Nat × Nat × Nat)) w0 w0 := FE.rf
  have hl := lv_entry ([.ref (ad 0), .int a1, .int 1]) (n := 3) (Nat.le_of_ble_eq_true rfl)
  rw [lg_entry_eq]
  generalize (lg_sl ([.ref (ad 0), .int a1, .int 1]) ++ List.replicate (3 - (lg_sl ([.ref (ad 0), .int a1, .int 1])).length) Slot.unset).toArray = ls at hl ⊢
  have hl : lv_has ls 3 [(0, .ref (ad 0)), (1, .int a1), (2, .int 1)] := hl
  generalize hloc : ([] : List Loc) = locs at hw ⊢
  have hinX12 : ∀ w ∈ u_ws RX12 TX12 42, w ∈ (wu yX12_streetOf cX12_streetOf 3 (some .int)) := fun _ h => List.mem_cons_of_mem _ (up_71 h)
  refine lv_aload_n hx hb dX12_streetOf_0 rfl (lv_at hl 0 rfl) ?_
  refine tk_getA hC hK hw hT hinX12 kM_at0 (by decide) rfl 26 (by decide) (List.mem_cons_of_mem _ uw_7_1) rfl rfl dX12_streetOf_1 ?_
  refine lv_bipush (v := 10) hx hb dX12_streetOf_4 (by decide) ?_
  refine lv_bipush (v := 10) hx hb dX12_streetOf_6 (by decide) ?_
  refine lv_iload_n hx hb dX12_streetOf_8 rfl (lv_at hl 1 rfl) ?_
  refine lv_imul hx hb dX12_streetOf_9 ?_
  refine lv_topi (fun x1 ex1 => ?_)
  have ex1 : x1.toInt = (10 : Int) * a1.toInt := by rw [ex1]; exact wk_mul (show (-2147483648) ≤ (10 : Int) * a1.toInt by omega) (show (10 : Int) * a1.toInt ≤ 2147483647 by omega)
  refine lv_iadd hx hb dX12_streetOf_10 ?_
  refine lv_topi (fun x2 ex2 => ?_)
  have ex2 : x2.toInt = (10 : Int) + x1.toInt := by rw [ex2]; exact wk_add (show (-2147483648) ≤ (10 : Int) + x1.toInt by omega) (show (10 : Int) + x1.toInt ≤ 2147483647 by omega)
  refine lv_iload_n hx hb dX12_streetOf_11 rfl (lv_at hl 2 rfl) ?_
  refine lv_iadd hx hb dX12_streetOf_12 ?_
  refine lv_topi (fun x3 ex3 => ?_)
  have ex3 : x3.toInt = x2.toInt + (1 : Int) := by rw [ex3]; exact wk_add (show (-2147483648) ≤ x2.toInt + (1 : Int) by omega) (show x2.toInt + (1 : Int) ≤ 2147483647 by omega)
  refine tk_ialdR hC hK hw hT kM_at12 rfl (show 0 ≤ x3.toInt by first | with_reducible assumption | omega) (show x3.toInt < 296 by first | with_reducible assumption | omega) dX12_streetOf_13 (fun x4 c5 Ex4 => ?_)
  have c5 : gi w0 12 (10 * a1.toInt + 11).toNat = x4 := (congrArg (gi w0 12) (congrArg Int.toNat (show 10 * a1.toInt + 11 = x3.toInt by first | exact Int.le_antisymm (by omega) (by omega) | omega))).trans c5
  have bx4 := tk_rgI rfl 11 10 12 0 9 (by decide +kernel) ⟨(a1.toInt - 0).toNat, by omega, show x3.toInt.toNat = 11 + 10 * (a1.toInt - 0).toNat by omega⟩ Ex4
  exact tk_iret hC hr hlocks hK ⟨rfl, ⟨(show 0 ≤ x4.toInt by first | with_reducible assumption | omega), (show x4.toInt ≤ 9 by first | with_reducible assumption | omega), c5⟩⟩ hw dX12_streetOf_14
abbrev P_X12_isAt_1 (ad : Nat → Nat) (cy : Nat → ClassId) (B : Int) (qr : Nat) (s1 : Int) (a1 : Int32) (a2 : Int32) (w0 : va_W) : Int32 → va_W → Prop := fun r u => w0 = u ∧ ((r = 0 ∧ (¬ mAt w0 a1.toInt a2.toInt)) ∨ (r = 1 ∧ gi u 12 (10 * a1.toInt + 10).toNat = a2 ∧ (mAt w0 a1.toInt a2.toInt)) ∨ (r = 1 ∧ gi u 12 (10 * a1.toInt + 11).toNat = a2 ∧ (mAt w0 a1.toInt a2.toInt)))
set_option maxHeartbeats 4000000 in
set_option maxRecDepth 100000 in
theorem k_X12_isAt_1 (l : Launch) (adK adV : Nat → Nat) (dC : Nat → ClassId) (dI : Nat → Nat → Nat) (cy : Nat → ClassId) (ad : Nat → Nat) (B : Int) (hB0 : 100000 ≤ B) (hB1 : B ≤ 1073741824) (qr : Nat) (s1 : Int)  (a1 : Int32) (ra1 : 0 ≤ a1.toInt) (ta1 : a1.toInt ≤ 11) (a2 : Int32) (ra2 : 0 ≤ a2.toInt) (ta2 : a2.toInt ≤ 9) (w0 : va_W) (sz : Nat) (hT : TW ksM ad cy B qr 12 w0)  : Met l yX12_isAt (wu yX12_isAt cX12_isAt 3 (some .boolean)) ({ frames := 2, cells := 0, slots := 0, locals := 34 }) (va_Pc [.ref (ad 0), .int a1, .int a2] (wpreS adK adV dC dI cy sz w0)) (va_Qi (P_X12_isAt_1 ad cy B qr s1 a1 a2 w0) (fun u : va_W => wpost dC dI cy (va_A w0 sz) u) (va_A w0 sz)) 0 0 (va_A w0 sz) := by
  refine Met.ofW (cc := cX12_isAt) (maxL := 3) (ret := (some .boolean)) (by decide) rfl ?_
  intro p e s m args below meth c s₁ Bk hml hv
  obtain ⟨rfl, ⟨hsz, hP, hK, hD0⟩, hE, hSR⟩ := hv
  have hx := Bk.exec
  have hb := Bk.bytes
  have hr := Bk.returns
  have hlocks := Bk.notSynchronized
  have hC : CallFix p m c cX12_isAt 3 s _ (wu yX12_isAt cX12_isAt 3 (some .boolean)) RX12 := ⟨hx, hb, hml, findClass_of_methodNamed Bk.named, atoms_spec (ws := (wu yX12_isAt cX12_isAt 3 (some .boolean))) Bk.pre⟩
  subst hsz
  have hD := hD0.self (sz := s.heap.size)
  generalize hAe : va_A w0 s.heap.size = A at hD hE ⊢
  have hA : ∀ q : Nat, s.heap.size ≤ q → A q := fun q h => by rw [← hAe]; exact Or.inr h
  have hw : Wd dC dI A s.heap s.heap [] w0 := ⟨hP, hD, va_S.rf⟩
  have hF : FE ksM ([] : List (Nat × Nat × Nat)) w0 w0 := FE.rf
  have hl := lv_entry ([.ref (ad 0), .int a1, .int a2]) (n := 3) (Nat.le_of_ble_eq_true rfl)
  rw [lg_entry_eq]
  generalize (lg_sl ([.ref (ad 0), .int a1, .int a2]) ++ List.replicate (3 - (lg_sl ([.ref (ad 0), .int a1, .int a2])).length) Slot.unset).toArray = ls at hl ⊢
  have hl : lv_has ls 3 [(0, .ref (ad 0)), (1, .int a1), (2, .int a2)] := hl
  generalize hloc : ([] : List Loc) = locs at hw ⊢
  refine lv_aload_n hx hb dX12_isAt_0 rfl (lv_at hl 0 rfl) ?_
  refine lv_iload_n hx hb dX12_isAt_1 rfl (lv_at hl 1 rfl) ?_
  refine lv_iconst (v := 0) hx hb dX12_isAt_2 (by decide) ?_
  refine tk_Vi hC hK hw hT hA hE hSR kM_at0 (by decide) rfl (k_X12_streetOf_2 l adK adV dC dI cy ad B hB0 (Int.le_trans hB1 (by decide)) qr s1   a1 (show 0 ≤ a1.toInt from ra1) (show a1.toInt ≤ 11 from ta1) w0 s.heap.size hT ) (cwV 2 hC.2.2.2.2 uV_RX12_300 rfl rfl rfl (by decide +kernel) ⟨Nat.le_of_ble_eq_true rfl, Nat.le_of_ble_eq_true rfl⟩) rfl hl.1 rfl (Nat.le_of_ble_eq_true rfl) dX12_isAt_3 (fun r1 w3 H locs hp2 hw => ?_)
  obtain ⟨rfl, hg8⟩ := hp2
  obtain ⟨g5, g6, c7⟩ := hg8
  refine lv_iload_n hx hb dX12_isAt_6 rfl (lv_at hl 2 rfl) ?_
  refine lv_icmp_eq (tgt := 20) hx hb dX12_isAt_7 (by decide) (fun c9 => ?_) (fun c9 => ?_)
  · have c9 : r1.toInt = a2.toInt := wk_eq.mp c9
    refine lv_iconst (v := 1) hx hb dX12_isAt_20 (by decide) ?_
    refine lv_goto (tgt := 25) hx hb dX12_isAt_21 (by decide) ?_
    exact tk_zret hC hr rfl hlocks hK ⟨rfl, (Or.inr (Or.inl ⟨rfl, (c7.trans (wk_eq.mpr (show r1.toInt = a2.toInt by first | exact Int.le_antisymm (by omega) (by omega) | omega))), (by unfold mAt; simp only [c7]; omega)⟩))⟩ hw dX12_isAt_25
  · have c9 : ¬ r1.toInt = a2.toInt := wk_eqF c9
    refine lv_aload_n hx hb dX12_isAt_10 rfl (lv_at hl 0 rfl) ?_
    refine lv_iload_n hx hb dX12_isAt_11 rfl (lv_at hl 1 rfl) ?_
    refine lv_iconst (v := 1) hx hb dX12_isAt_12 (by decide) ?_
    refine tk_Vi hC hK hw hT hA hE hSR kM_at0 (by decide) rfl (k_X12_streetOf_3 l adK adV dC dI cy ad B hB0 (Int.le_trans hB1 (by decide)) qr s1   a1 (show 0 ≤ a1.toInt from ra1) (show a1.toInt ≤ 11 from ta1) w0 H.size hT ) (cwV 2 hC.2.2.2.2 uV_RX12_300 rfl rfl rfl (by decide +kernel) ⟨Nat.le_of_ble_eq_true rfl, Nat.le_of_ble_eq_true rfl⟩) rfl hl.1 rfl (Nat.le_of_ble_eq_true rfl) dX12_isAt_13 (fun r10 w12 H locs hp11 hw => ?_)
    obtain ⟨rfl, hg17⟩ := hp11
    obtain ⟨g14, g15, c16⟩ := hg17
    refine lv_iload_n hx hb dX12_isAt_16 rfl (lv_at hl 2 rfl) ?_
    refine lv_icmp_ne (tgt := 24) hx hb dX12_isAt_17 (by decide) (fun c18 => ?_) (fun c18 => ?_)
    · have c18 : ¬ r10.toInt = a2.toInt := wk_eqF c18
      refine lv_iconst (v := 0) hx hb dX12_isAt_24 (by decide) ?_
      exact tk_zret hC hr rfl hlocks hK ⟨rfl, (Or.inl ⟨rfl, (by unfold mAt; simp only [c7, c16]; omega)⟩)⟩ hw dX12_isAt_25
    · have c18 : r10.toInt = a2.toInt := wk_eq.mp c18
      refine lv_iconst (v := 1) hx hb dX12_isAt_20 (by decide) ?_
      refine lv_goto (tgt := 25) hx hb dX12_isAt_21 (by decide) ?_
      exact tk_zret hC hr rfl hlocks hK ⟨rfl, (Or.inr (Or.inr ⟨rfl, (c16.trans (wk_eq.mpr (show r10.toInt = a2.toInt by first | exact Int.le_antisymm (by omega) (by omega) | omega))), (by unfold mAt; simp only [c7, c16]; omega)⟩))⟩ hw dX12_isAt_25
abbrev P_X12_isCorner_1 (ad : Nat → Nat) (cy : Nat → ClassId) (B : Int) (qr : Nat) (s1 : Int) (a1 : Int32) (w0 : va_W) : Int32 → va_W → Prop := fun r u => w0 = u ∧ ((r = 0) ∨ (r = 1 ∧ 0 ≤ a1.toInt ∧ a1.toInt ≤ 9 ∧ (∃ y : Int32, gi u 12 0 = y ∧ 1 ≤ y.toInt ∧ y.toInt ≤ 10)))
set_option maxHeartbeats 4000000 in
set_option maxRecDepth 100000 in
theorem k_X12_isCorner_1 (l : Launch) (adK adV : Nat → Nat) (dC : Nat → ClassId) (dI : Nat → Nat → Nat) (cy : Nat → ClassId) (ad : Nat → Nat) (B : Int) (hB0 : 100000 ≤ B) (hB1 : B ≤ 1073741824) (qr : Nat) (s1 : Int)  (a1 : Int32) (w0 : va_W) (sz : Nat) (hT : TW ksM ad cy B qr 12 w0)  : Met l yX12_isCorner (wu yX12_isCorner cX12_isCorner 2 (some .boolean)) ({ frames := 1, cells := 0, slots := 0, locals := 12 }) (va_Pc [.ref (ad 0), .int a1] (wpreS adK adV dC dI cy sz w0)) (va_Qi (P_X12_isCorner_1 ad cy B qr s1 a1 w0) (fun u : va_W => wpost dC dI cy (va_A w0 sz) u) (va_A w0 sz)) 0 0 (va_A w0 sz) := by
  refine Met.ofW (cc := cX12_isCorner) (maxL := 2) (ret := (some .boolean)) (by decide) rfl ?_
  intro p e s m args below meth c s₁ Bk hml hv
  obtain ⟨rfl, ⟨hsz, hP, hK, hD0⟩, hE, hSR⟩ := hv
  have hx := Bk.exec
  have hb := Bk.bytes
  have hr := Bk.returns
  have hlocks := Bk.notSynchronized
  have hC : CallFix p m c cX12_isCorner 2 s _ (wu yX12_isCorner cX12_isCorner 2 (some .boolean)) RX12 := ⟨hx, hb, hml, findClass_of_methodNamed Bk.named, atoms_spec (ws := (wu yX12_isCorner cX12_isCorner 2 (some .boolean))) Bk.pre⟩
  subst hsz
  have hD := hD0.self (sz := s.heap.size)
  generalize hAe : va_A w0 s.heap.size = A at hD hE ⊢
  have hA : ∀ q : Nat, s.heap.size ≤ q → A q := fun q h => by rw [← hAe]; exact Or.inr h
  have hw : Wd dC dI A s.heap s.heap [] w0 := ⟨hP, hD, va_S.rf⟩
  have hF : FE ksM ([] : List (Nat × Nat × Nat)) w0 w0 := FE.rf
  have hl := lv_entry ([.ref (ad 0), .int a1]) (n := 2) (Nat.le_of_ble_eq_true rfl)
  rw [lg_entry_eq]
  generalize (lg_sl ([.ref (ad 0), .int a1]) ++ List.replicate (2 - (lg_sl ([.ref (ad 0), .int a1])).length) Slot.unset).toArray = ls at hl ⊢
  have hl : lv_has ls 2 [(0, .ref (ad 0)), (1, .int a1)] := hl
  generalize hloc : ([] : List Loc) = locs at hw ⊢
  have hinX12 : ∀ w ∈ u_ws RX12 TX12 42, w ∈ (wu yX12_isCorner cX12_isCorner 2 (some .boolean)) := fun _ h => List.mem_cons_of_mem _ (up_71 h)
  have J18 : ∀ (H : Heap) (locs : List Loc) (ls : Array Slot), Wd dC dI A s.heap H locs w0 → lv_has ls 2 [(0, .ref (ad 0)), (1, .int a1)] → W p l e ({ frames := 1, cells := 0, slots := 0, locals := 12 }) s m (List.toArray [.ref (ad 0), .int a1]) below meth c H locs 0 0 (MQ below (va_Qi (P_X12_isCorner_1 ad cy B qr s1 a1 w0) (fun u : va_W => wpost dC dI cy A u) A) (List.toArray [.ref (ad 0), .int a1]) s 0 0 A) (F0 m 18 ls []) := by
    intro H locs ls hw hl
    refine lv_iconst (v := 0) hx hb dX12_isCorner_18 (by decide) ?_
    exact tk_zret hC hr rfl hlocks hK ⟨rfl, (Or.inl rfl)⟩ hw dX12_isCorner_19
  refine lv_iload_n hx hb dX12_isCorner_0 rfl (lv_at hl 1 rfl) ?_
  refine lv_if_lt (tgt := 18) hx hb dX12_isCorner_1 (by decide) (fun c1 => ?_) (fun c1 => ?_)
  · have c1 : a1.toInt < (0 : Int) := wk_lt.mp c1
    exact J18  s.heap locs ls    hw   (lv_sub hl [0, 1] rfl)
  · have c1 : (0 : Int) ≤ a1.toInt := wk_ltF c1
    refine lv_iload_n hx hb dX12_isCorner_4 rfl (lv_at hl 1 rfl) ?_
    refine lv_aload_n hx hb dX12_isCorner_5 rfl (lv_at hl 0 rfl) ?_
    refine tk_getA hC hK hw hT hinX12 kM_at0 (by decide) rfl 26 (by decide) (List.mem_cons_of_mem _ uw_7_1) rfl rfl dX12_isCorner_6 ?_
    refine lv_iconst (v := 0) hx hb dX12_isCorner_9 (by decide) ?_
    refine tk_ialdR hC hK hw hT kM_at12 rfl (by decide) (by decide) dX12_isCorner_10 (fun x2 c3 Ex2 => ?_)
    have bx2 := tk_rgI rfl 0 1 1 0 10 (by decide +kernel) ⟨0, by decide, by decide⟩ Ex2
    have c3 : gi w0 12 0 = x2 := c3
    refine lv_icmp_ge (tgt := 18) hx hb dX12_isCorner_11 (by decide) (fun c4 => ?_) (fun c4 => ?_)
    · have c4 : x2.toInt ≤ a1.toInt := wk_le.mp c4
      exact J18  s.heap locs ls    hw   (lv_sub hl [0, 1] rfl)
    · have c4 : a1.toInt < x2.toInt := wk_leF c4
      refine lv_iconst (v := 1) hx hb dX12_isCorner_14 (by decide) ?_
      refine lv_goto (tgt := 19) hx hb dX12_isCorner_15 (by decide) ?_
      exact tk_zret hC hr rfl hlocks hK ⟨rfl, (Or.inr ⟨rfl, (show 0 ≤ a1.toInt from c1), (show a1.toInt ≤ 9 by first | with_reducible assumption | omega), ⟨x2, c3, (show 1 ≤ x2.toInt by first | with_reducible assumption | omega), (show x2.toInt ≤ 10 by first | with_reducible assumption | omega)⟩⟩)⟩ hw dX12_isCorner_19
abbrev P_X12_isHour_1 (ad : Nat → Nat) (cy : Nat → ClassId) (B : Int) (qr : Nat) (s1 : Int) (a0 : Int32) (w0 : va_W) : Int32 → va_W → Prop := fun r u => w0 = u ∧ ((r = 0) ∨ (r = 1 ∧ 0 ≤ a0.toInt ∧ a0.toInt ≤ 99999))
set_option maxHeartbeats 4000000 in
set_option maxRecDepth 100000 in
theorem k_X12_isHour_1 (l : Launch) (adK adV : Nat → Nat) (dC : Nat → ClassId) (dI : Nat → Nat → Nat) (cy : Nat → ClassId) (ad : Nat → Nat) (B : Int) (hB0 : 100000 ≤ B) (hB1 : B ≤ 1073741824) (qr : Nat) (s1 : Int)  (a0 : Int32) (w0 : va_W) (sz : Nat) (hT : TW ksM ad cy B qr 12 w0)  : Met l yX12_isHour (wu yX12_isHour cX12_isHour 1 (some .boolean)) ({ frames := 1, cells := 0, slots := 0, locals := 12 }) (va_Pc [.int a0] (wpreS adK adV dC dI cy sz w0)) (va_Qi (P_X12_isHour_1 ad cy B qr s1 a0 w0) (fun u : va_W => wpost dC dI cy (va_A w0 sz) u) (va_A w0 sz)) 0 0 (va_A w0 sz) := by
  refine Met.ofW (cc := cX12_isHour) (maxL := 1) (ret := (some .boolean)) (by decide) rfl ?_
  intro p e s m args below meth c s₁ Bk hml hv
  obtain ⟨rfl, ⟨hsz, hP, hK, hD0⟩, hE, hSR⟩ := hv
  have hx := Bk.exec
  have hb := Bk.bytes
  have hr := Bk.returns
  have hlocks := Bk.notSynchronized
  have hC : CallFix p m c cX12_isHour 1 s _ (wu yX12_isHour cX12_isHour 1 (some .boolean)) RX12 := ⟨hx, hb, hml, findClass_of_methodNamed Bk.named, atoms_spec (ws := (wu yX12_isHour cX12_isHour 1 (some .boolean))) Bk.pre⟩
  subst hsz
  have hD := hD0.self (sz := s.heap.size)
  generalize hAe : va_A w0 s.heap.size = A at hD hE ⊢
  have hA : ∀ q : Nat, s.heap.size ≤ q → A q := fun q h => by rw [← hAe]; exact Or.inr h
  have hw : Wd dC dI A s.heap s.heap [] w0 := ⟨hP, hD, va_S.rf⟩
  have hF : FE ksM ([] : List (Nat × Nat × Nat)) w0 w0 := FE.rf
  have hl := lv_entry ([.int a0]) (n := 1) (Nat.le_of_ble_eq_true rfl)
  rw [lg_entry_eq]
  generalize (lg_sl ([.int a0]) ++ List.replicate (1 - (lg_sl ([.int a0])).length) Slot.unset).toArray = ls at hl ⊢
  have hl : lv_has ls 1 [(0, .int a0)] := hl
  generalize hloc : ([] : List Loc) = locs at hw ⊢
  have J14 : ∀ (H : Heap) (locs : List Loc) (ls : Array Slot), Wd dC dI A s.heap H locs w0 → lv_has ls 1 [(0, .int a0)] → W p l e ({ frames := 1, cells := 0, slots := 0, locals := 12 }) s m (List.toArray [.int a0]) below meth c H locs 0 0 (MQ below (va_Qi (P_X12_isHour_1 ad cy B qr s1 a0 w0) (fun u : va_W => wpost dC dI cy A u) A) (List.toArray [.int a0]) s 0 0 A) (F0 m 14 ls []) := by
    intro H locs ls hw hl
    refine lv_iconst (v := 0) hx hb dX12_isHour_14 (by decide) ?_
    exact tk_zret hC hr rfl hlocks hK ⟨rfl, (Or.inl rfl)⟩ hw dX12_isHour_15
  refine lv_iload_n hx hb dX12_isHour_0 rfl (lv_at hl 0 rfl) ?_
  refine lv_if_lt (tgt := 14) hx hb dX12_isHour_1 (by decide) (fun c1 => ?_) (fun c1 => ?_)
  · have c1 : a0.toInt < (0 : Int) := wk_lt.mp c1
    exact J14  s.heap locs ls    hw   (lv_sub hl [0] rfl)
  · have c1 : (0 : Int) ≤ a0.toInt := wk_ltF c1
    refine lv_iload_n hx hb dX12_isHour_4 rfl (lv_at hl 0 rfl) ?_
    refine lv_ldc (v := 99999) hx hb hC.2.2.2.1 (hC.2.2.2.2 _ (List.mem_cons_of_mem _ uw_24_18)) dX12_isHour_5 ?_
    refine lv_icmp_gt (tgt := 14) hx hb dX12_isHour_7 (by decide) (fun c2 => ?_) (fun c2 => ?_)
    · have c2 : (99999 : Int) < a0.toInt := wk_lt.mp c2
      exact J14  s.heap locs ls    hw   (lv_sub hl [0] rfl)
    · have c2 : a0.toInt ≤ (99999 : Int) := wk_ltF c2
      refine lv_iconst (v := 1) hx hb dX12_isHour_10 (by decide) ?_
      refine lv_goto (tgt := 15) hx hb dX12_isHour_11 (by decide) ?_
      exact tk_zret hC hr rfl hlocks hK ⟨rfl, (Or.inr ⟨rfl, (show 0 ≤ a0.toInt from c1), (show a0.toInt ≤ 99999 from c2)⟩)⟩ hw dX12_isHour_15
abbrev P_X12_isOf_1 (ad : Nat → Nat) (cy : Nat → ClassId) (B : Int) (qr : Nat) (s1 : Int) (a0 : Int32) (w0 : va_W) : Int32 → va_W → Prop := fun r u => w0 = u ∧ ((r = 0 ∧ (¬ mOf a0 (0 : Int32))) ∨ (r = 1 ∧ (mOf a0 (0 : Int32))))
set_option maxHeartbeats 4000000 in
set_option maxRecDepth 100000 in
theorem k_X12_isOf_1 (l : Launch) (adK adV : Nat → Nat) (dC : Nat → ClassId) (dI : Nat → Nat → Nat) (cy : Nat → ClassId) (ad : Nat → Nat) (B : Int) (hB0 : 100000 ≤ B) (hB1 : B ≤ 1073741824) (qr : Nat) (s1 : Int)  (a0 : Int32) (ra0 : 0 ≤ a0.toInt) (ta0 : a0.toInt ≤ 9) (w0 : va_W) (sz : Nat) (hT : TW ksM ad cy B qr 12 w0)  : Met l yX12_isOf (wu yX12_isOf cX12_isOf 2 (some .boolean)) ({ frames := 1, cells := 0, slots := 0, locals := 12 }) (va_Pc [.int a0, .int 0] (wpreS adK adV dC dI cy sz w0)) (va_Qi (P_X12_isOf_1 ad cy B qr s1 a0 w0) (fun u : va_W => wpost dC dI cy (va_A w0 sz) u) (va_A w0 sz)) 0 0 (va_A w0 sz) := by
  refine Met.ofW (cc := cX12_isOf) (maxL := 2) (ret := (some .boolean)) (by decide) rfl ?_
  intro p e s m args below meth c s₁ Bk hml hv
  obtain ⟨rfl, ⟨hsz, hP, hK, hD0⟩, hE, hSR⟩ := hv
  have hx := Bk.exec
  have hb := Bk.bytes
  have hr := Bk.returns
  have hlocks := Bk.notSynchronized
  have hC : CallFix p m c cX12_isOf 2 s _ (wu yX12_isOf cX12_isOf 2 (some .boolean)) RX12 := ⟨hx, hb, hml, findClass_of_methodNamed Bk.named, atoms_spec (ws := (wu yX12_isOf cX12_isOf 2 (some .boolean))) Bk.pre⟩
  subst hsz
  have hD := hD0.self (sz := s.heap.size)
  generalize hAe : va_A w0 s.heap.size = A at hD hE ⊢
  have hA : ∀ q : Nat, s.heap.size ≤ q → A q := fun q h => by rw [← hAe]; exact Or.inr h
  have hw : Wd dC dI A s.heap s.heap [] w0 := ⟨hP, hD, va_S.rf⟩
  have hF : FE ksM ([] : List (Nat × Nat × Nat)) w0 w0 := FE.rf
  have hl := lv_entry ([.int a0, .int 0]) (n := 2) (Nat.le_of_ble_eq_true rfl)
  rw [lg_entry_eq]
  generalize (lg_sl ([.int a0, .int 0]) ++ List.replicate (2 - (lg_sl ([.int a0, .int 0])).length) Slot.unset).toArray = ls at hl ⊢
  have hl : lv_has ls 2 [(0, .int a0), (1, .int 0)] := hl
  generalize hloc : ([] : List Loc) = locs at hw ⊢
  refine lv_iload_n hx hb dX12_isOf_0 rfl (lv_at hl 0 rfl) ?_
  refine lv_iload_n hx hb dX12_isOf_1 rfl (lv_at hl 1 rfl) ?_
  refine lv_ishr hx hb dX12_isOf_2 ?_
  refine lv_topi (fun x1 ex1 => ?_)
  have bx1 : 0 ≤ x1.toInt ∧ x1.toInt ≤ a0.toInt := by rw [ex1]; exact wk_shr (by omega)
  refine lv_iconst (v := 1) hx hb dX12_isOf_3 (by decide) ?_
  refine lv_iand hx hb dX12_isOf_4 ?_
  refine lv_topi (fun x2 ex2 => ?_)
  have bx2 : 0 ≤ x2.toInt ∧ x2.toInt ≤ (1 : Int) := by rw [ex2]; exact wk_and (by decide)
  refine lv_iconst (v := 1) hx hb dX12_isOf_5 (by decide) ?_
  refine lv_icmp_ne (tgt := 13) hx hb dX12_isOf_6 (by decide) (fun c3 => ?_) (fun c3 => ?_)
  · have c3 : ¬ x2.toInt = (1 : Int) := wk_eqF c3
    refine lv_iconst (v := 0) hx hb dX12_isOf_13 (by decide) ?_
    exact tk_zret hC hr rfl hlocks hK ⟨rfl, (Or.inl ⟨rfl, (by unfold mOf; rw [← ex1, ← ex2]; omega)⟩)⟩ hw dX12_isOf_14
  · have c3 : x2.toInt = (1 : Int) := wk_eq.mp c3
    refine lv_iconst (v := 1) hx hb dX12_isOf_9 (by decide) ?_
    refine lv_goto (tgt := 14) hx hb dX12_isOf_10 (by decide) ?_
    exact tk_zret hC hr rfl hlocks hK ⟨rfl, (Or.inr ⟨rfl, (by unfold mOf; rw [← ex1, ← ex2]; omega)⟩)⟩ hw dX12_isOf_14
abbrev P_X12_isOf_2 (ad : Nat → Nat) (cy : Nat → ClassId) (B : Int) (qr : Nat) (s1 : Int) (a0 : Int32) (w0 : va_W) : Int32 → va_W → Prop := fun r u => w0 = u ∧ ((r = 0 ∧ (¬ mOf a0 (1 : Int32))) ∨ (r = 1 ∧ (mOf a0 (1 : Int32))))
set_option maxHeartbeats 4000000 in
set_option maxRecDepth 100000 in
theorem k_X12_isOf_2 (l : Launch) (adK adV : Nat → Nat) (dC : Nat → ClassId) (dI : Nat → Nat → Nat) (cy : Nat → ClassId) (ad : Nat → Nat) (B : Int) (hB0 : 100000 ≤ B) (hB1 : B ≤ 1073741824) (qr : Nat) (s1 : Int)  (a0 : Int32) (ra0 : 0 ≤ a0.toInt) (ta0 : a0.toInt ≤ 9) (w0 : va_W) (sz : Nat) (hT : TW ksM ad cy B qr 12 w0)  : Met l yX12_isOf (wu yX12_isOf cX12_isOf 2 (some .boolean)) ({ frames := 1, cells := 0, slots := 0, locals := 12 }) (va_Pc [.int a0, .int 1] (wpreS adK adV dC dI cy sz w0)) (va_Qi (P_X12_isOf_2 ad cy B qr s1 a0 w0) (fun u : va_W => wpost dC dI cy (va_A w0 sz) u) (va_A w0 sz)) 0 0 (va_A w0 sz) := by
  refine Met.ofW (cc := cX12_isOf) (maxL := 2) (ret := (some .boolean)) (by decide) rfl ?_
  intro p e s m args below meth c s₁ Bk hml hv
  obtain ⟨rfl, ⟨hsz, hP, hK, hD0⟩, hE, hSR⟩ := hv
  have hx := Bk.exec
  have hb := Bk.bytes
  have hr := Bk.returns
  have hlocks := Bk.notSynchronized
  have hC : CallFix p m c cX12_isOf 2 s _ (wu yX12_isOf cX12_isOf 2 (some .boolean)) RX12 := ⟨hx, hb, hml, findClass_of_methodNamed Bk.named, atoms_spec (ws := (wu yX12_isOf cX12_isOf 2 (some .boolean))) Bk.pre⟩
  subst hsz
  have hD := hD0.self (sz := s.heap.size)
  generalize hAe : va_A w0 s.heap.size = A at hD hE ⊢
  have hA : ∀ q : Nat, s.heap.size ≤ q → A q := fun q h => by rw [← hAe]; exact Or.inr h
  have hw : Wd dC dI A s.heap s.heap [] w0 := ⟨hP, hD, va_S.rf⟩
  have hF : FE ksM ([] : List (Nat × Nat × Nat)) w0 w0 := FE.rf
  have hl := lv_entry ([.int a0, .int 1]) (n := 2) (Nat.le_of_ble_eq_true rfl)
  rw [lg_entry_eq]
  generalize (lg_sl ([.int a0, .int 1]) ++ List.replicate (2 - (lg_sl ([.int a0, .int 1])).length) Slot.unset).toArray = ls at hl ⊢
  have hl : lv_has ls 2 [(0, .int a0), (1, .int 1)] := hl
  generalize hloc : ([] : List Loc) = locs at hw ⊢
  refine lv_iload_n hx hb dX12_isOf_0 rfl (lv_at hl 0 rfl) ?_
  refine lv_iload_n hx hb dX12_isOf_1 rfl (lv_at hl 1 rfl) ?_
  refine lv_ishr hx hb dX12_isOf_2 ?_
  refine lv_topi (fun x1 ex1 => ?_)
  have bx1 : 0 ≤ x1.toInt ∧ x1.toInt ≤ a0.toInt := by rw [ex1]; exact wk_shr (by omega)
  refine lv_iconst (v := 1) hx hb dX12_isOf_3 (by decide) ?_
  refine lv_iand hx hb dX12_isOf_4 ?_
  refine lv_topi (fun x2 ex2 => ?_)
  have bx2 : 0 ≤ x2.toInt ∧ x2.toInt ≤ (1 : Int) := by rw [ex2]; exact wk_and (by decide)
  refine lv_iconst (v := 1) hx hb dX12_isOf_5 (by decide) ?_
  refine lv_icmp_ne (tgt := 13) hx hb dX12_isOf_6 (by decide) (fun c3 => ?_) (fun c3 => ?_)
  · have c3 : ¬ x2.toInt = (1 : Int) := wk_eqF c3
    refine lv_iconst (v := 0) hx hb dX12_isOf_13 (by decide) ?_
    exact tk_zret hC hr rfl hlocks hK ⟨rfl, (Or.inl ⟨rfl, (by unfold mOf; rw [← ex1, ← ex2]; omega)⟩)⟩ hw dX12_isOf_14
  · have c3 : x2.toInt = (1 : Int) := wk_eq.mp c3
    refine lv_iconst (v := 1) hx hb dX12_isOf_9 (by decide) ?_
    refine lv_goto (tgt := 14) hx hb dX12_isOf_10 (by decide) ?_
    exact tk_zret hC hr rfl hlocks hK ⟨rfl, (Or.inr ⟨rfl, (by unfold mOf; rw [← ex1, ← ex2]; omega)⟩)⟩ hw dX12_isOf_14
abbrev P_X12_hasSign_1 (ad : Nat → Nat) (cy : Nat → ClassId) (B : Int) (qr : Nat) (s1 : Int) (a1 : Int32) (a2 : Int32) (a3 : Int32) (w0 : va_W) : Int32 → va_W → Prop := fun r u => w0 = u ∧ ((r = 0 ∧ (¬ mSign w0 a1 a2.toInt a3.toInt)) ∨ (r = 0 ∧ gi u 12 (10 * a2.toInt + 10).toNat = a3 ∧ (¬ mSign w0 a1 a2.toInt a3.toInt)) ∨ (r = 1 ∧ (mSign w0 a1 a2.toInt a3.toInt)) ∨ (r = 1 ∧ gi u 12 (10 * a2.toInt + 10).toNat = a3 ∧ (mSign w0 a1 a2.toInt a3.toInt)))
set_option maxHeartbeats 4000000 in
set_option maxRecDepth 100000 in
theorem k_X12_hasSign_1 (l : Launch) (adK adV : Nat → Nat) (dC : Nat → ClassId) (dI : Nat → Nat → Nat) (cy : Nat → ClassId) (ad : Nat → Nat) (B : Int) (hB0 : 100000 ≤ B) (hB1 : B ≤ 1073741824) (qr : Nat) (s1 : Int)  (a1 : Int32) (ra1 : 0 ≤ a1.toInt) (ta1 : a1.toInt ≤ 9) (a2 : Int32) (ra2 : 0 ≤ a2.toInt) (ta2 : a2.toInt ≤ 11) (a3 : Int32) (ra3 : 0 ≤ a3.toInt) (ta3 : a3.toInt ≤ 9) (w0 : va_W) (sz : Nat) (hT : TW ksM ad cy B qr 12 w0)  : Met l yX12_hasSign (wu yX12_hasSign cX12_hasSign 4 (some .boolean)) ({ frames := 2, cells := 0, slots := 0, locals := 34 }) (va_Pc [.ref (ad 0), .int a1, .int a2, .int a3] (wpreS adK adV dC dI cy sz w0)) (va_Qi (P_X12_hasSign_1 ad cy B qr s1 a1 a2 a3 w0) (fun u : va_W => wpost dC dI cy (va_A w0 sz) u) (va_A w0 sz)) 0 0 (va_A w0 sz) := by
  refine Met.ofW (cc := cX12_hasSign) (maxL := 4) (ret := (some .boolean)) (by decide) rfl ?_
  intro p e s m args below meth c s₁ Bk hml hv
  obtain ⟨rfl, ⟨hsz, hP, hK, hD0⟩, hE, hSR⟩ := hv
  have hx := Bk.exec
  have hb := Bk.bytes
  have hr := Bk.returns
  have hlocks := Bk.notSynchronized
  have hC : CallFix p m c cX12_hasSign 4 s _ (wu yX12_hasSign cX12_hasSign 4 (some .boolean)) RX12 := ⟨hx, hb, hml, findClass_of_methodNamed Bk.named, atoms_spec (ws := (wu yX12_hasSign cX12_hasSign 4 (some .boolean))) Bk.pre⟩
  subst hsz
  have hD := hD0.self (sz := s.heap.size)
  generalize hAe : va_A w0 s.heap.size = A at hD hE ⊢
  have hA : ∀ q : Nat, s.heap.size ≤ q → A q := fun q h => by rw [← hAe]; exact Or.inr h
  have hw : Wd dC dI A s.heap s.heap [] w0 := ⟨hP, hD, va_S.rf⟩
  have hF : FE ksM ([] : List (Nat × Nat × Nat)) w0 w0 := FE.rf
  have hl := lv_entry ([.ref (ad 0), .int a1, .int a2, .int a3]) (n := 4) (Nat.le_of_ble_eq_true rfl)
  rw [lg_entry_eq]
  generalize (lg_sl ([.ref (ad 0), .int a1, .int a2, .int a3]) ++ List.replicate (4 - (lg_sl ([.ref (ad 0), .int a1, .int a2, .int a3])).length) Slot.unset).toArray = ls at hl ⊢
  have hl : lv_has ls 4 [(0, .ref (ad 0)), (1, .int a1), (2, .int a2), (3, .int a3)] := hl
  generalize hloc : ([] : List Loc) = locs at hw ⊢
  refine lv_iload_n hx hb dX12_hasSign_0 rfl (lv_at hl 1 rfl) ?_
  refine lv_aload_n hx hb dX12_hasSign_1 rfl (lv_at hl 0 rfl) ?_
  refine lv_iload_n hx hb dX12_hasSign_2 rfl (lv_at hl 2 rfl) ?_
  refine lv_iconst (v := 0) hx hb dX12_hasSign_3 (by decide) ?_
  refine tk_Vi hC hK hw hT hA hE hSR kM_at0 (by decide) rfl (k_X12_streetOf_2 l adK adV dC dI cy ad B hB0 (Int.le_trans hB1 (by decide)) qr s1   a2 (show 0 ≤ a2.toInt from ra2) (show a2.toInt ≤ 11 from ta2) w0 s.heap.size hT ) (cwV 2 hC.2.2.2.2 uV_RX12_300 rfl rfl rfl (by decide +kernel) ⟨Nat.le_of_ble_eq_true rfl, Nat.le_of_ble_eq_true rfl⟩) rfl hl.1 rfl (Nat.le_of_ble_eq_true rfl) dX12_hasSign_4 (fun r1 w3 H locs hp2 hw => ?_)
  obtain ⟨rfl, hg8⟩ := hp2
  obtain ⟨g5, g6, c7⟩ := hg8
  refine lv_iload_n hx hb dX12_hasSign_7 rfl (lv_at hl 3 rfl) ?_
  refine lv_icmp_ne (tgt := 15) hx hb dX12_hasSign_8 (by decide) (fun c9 => ?_) (fun c9 => ?_)
  · have c9 : ¬ r1.toInt = a3.toInt := wk_eqF c9
    refine lv_iconst (v := 1) hx hb dX12_hasSign_15 (by decide) ?_
    refine tk_Si hC hK hw hT hA hE hSR (k_X12_isOf_2 l adK adV dC dI cy ad B hB0 (Int.le_trans hB1 (by decide)) qr s1   a1 (show 0 ≤ a1.toInt from ra1) (show a1.toInt ≤ 9 from ta1) w0 H.size hT ) (va_cwS 2 hC.2.2.2.2 uS_RX12_304 rfl rfl rfl (by decide +kernel) ⟨Nat.le_of_ble_eq_true rfl, Nat.le_of_ble_eq_true rfl⟩) rfl hl.1 rfl (Nat.le_of_ble_eq_true rfl) dX12_hasSign_16 (fun r10 w12 H locs hp11 hw => ?_)
    obtain ⟨rfl, hg16⟩ := hp11
    rcases hg16 with ⟨rfl, hq14⟩ | ⟨rfl, hq15⟩
    · exact tk_zret hC hr rfl hlocks hK ⟨rfl, (Or.inl ⟨rfl, (by unfold mSign; simp only [c7]; first | exact Or.inl ⟨by omega, by assumption⟩ | exact Or.inr ⟨by omega, by assumption⟩ | (rintro (⟨q1, q2⟩ | ⟨q1, q2⟩) <;> first | omega | contradiction))⟩)⟩ hw dX12_hasSign_19
    · exact tk_zret hC hr rfl hlocks hK ⟨rfl, (Or.inr (Or.inr (Or.inl ⟨rfl, (by unfold mSign; simp only [c7]; first | exact Or.inl ⟨by omega, by assumption⟩ | exact Or.inr ⟨by omega, by assumption⟩ | (rintro (⟨q1, q2⟩ | ⟨q1, q2⟩) <;> first | omega | contradiction))⟩)))⟩ hw dX12_hasSign_19
  · have c9 : r1.toInt = a3.toInt := wk_eq.mp c9
    refine lv_iconst (v := 0) hx hb dX12_hasSign_11 (by decide) ?_
    refine lv_goto (tgt := 16) hx hb dX12_hasSign_12 (by decide) ?_
    refine tk_Si hC hK hw hT hA hE hSR (k_X12_isOf_1 l adK adV dC dI cy ad B hB0 (Int.le_trans hB1 (by decide)) qr s1   a1 (show 0 ≤ a1.toInt from ra1) (show a1.toInt ≤ 9 from ta1) w0 H.size hT ) (va_cwS 2 hC.2.2.2.2 uS_RX12_304 rfl rfl rfl (by decide +kernel) ⟨Nat.le_of_ble_eq_true rfl, Nat.le_of_ble_eq_true rfl⟩) rfl hl.1 rfl (Nat.le_of_ble_eq_true rfl) dX12_hasSign_16 (fun r17 w19 H locs hp18 hw => ?_)
    obtain ⟨rfl, hg23⟩ := hp18
    rcases hg23 with ⟨rfl, hq21⟩ | ⟨rfl, hq22⟩
    · exact tk_zret hC hr rfl hlocks hK ⟨rfl, (Or.inr (Or.inl ⟨rfl, (c7.trans (wk_eq.mpr (show r1.toInt = a3.toInt by first | exact Int.le_antisymm (by omega) (by omega) | omega))), (by unfold mSign; simp only [c7]; first | exact Or.inl ⟨by omega, by assumption⟩ | exact Or.inr ⟨by omega, by assumption⟩ | (rintro (⟨q1, q2⟩ | ⟨q1, q2⟩) <;> first | omega | contradiction))⟩))⟩ hw dX12_hasSign_19
    · exact tk_zret hC hr rfl hlocks hK ⟨rfl, (Or.inr (Or.inr (Or.inr ⟨rfl, (c7.trans (wk_eq.mpr (show r1.toInt = a3.toInt by first | exact Int.le_antisymm (by omega) (by omega) | omega))), (by unfold mSign; simp only [c7]; first | exact Or.inl ⟨by omega, by assumption⟩ | exact Or.inr ⟨by omega, by assumption⟩ | (rintro (⟨q1, q2⟩ | ⟨q1, q2⟩) <;> first | omega | contradiction))⟩)))⟩ hw dX12_hasSign_19
abbrev P_X12_isClosed_1 (ad : Nat → Nat) (cy : Nat → ClassId) (B : Int) (qr : Nat) (s1 : Int) (a1 : Int32) (a2 : Int32) (w0 : va_W) : Int32 → va_W → Prop := fun r u => w0 = u ∧ ((r = 0 ∧ (¬ mCl w0 a1.toInt a2.toInt)) ∨ (r = 1 ∧ (∃ y : Int32, gi u 0 27 = y ∧ 1 ≤ y.toInt ∧ y.toInt ≤ 1) ∧ (∃ y : Int32, gi u 12 2 = y ∧ 1 ≤ y.toInt ∧ y.toInt ≤ 8) ∧ (mCl w0 a1.toInt a2.toInt)))
set_option maxHeartbeats 4000000 in
set_option maxRecDepth 100000 in
theorem k_X12_isClosed_1 (l : Launch) (adK adV : Nat → Nat) (dC : Nat → ClassId) (dI : Nat → Nat → Nat) (cy : Nat → ClassId) (ad : Nat → Nat) (B : Int) (hB0 : 100000 ≤ B) (hB1 : B ≤ 1073741824) (qr : Nat) (s1 : Int)  (a1 : Int32) (ra1 : 0 ≤ a1.toInt) (ta1 : a1.toInt ≤ 9) (a2 : Int32) (ra2 : 0 ≤ a2.toInt) (ta2 : a2.toInt ≤ 359) (w0 : va_W) (sz : Nat) (hT : TW ksM ad cy B qr 12 w0)  : Met l yX12_isClosed (wu yX12_isClosed cX12_isClosed 4 (some .boolean)) ({ frames := 1, cells := 0, slots := 0, locals := 12 }) (va_Pc [.ref (ad 0), .int a1, .int a2] (wpreS adK adV dC dI cy sz w0)) (va_Qi (P_X12_isClosed_1 ad cy B qr s1 a1 a2 w0) (fun u : va_W => wpost dC dI cy (va_A w0 sz) u) (va_A w0 sz)) 0 0 (va_A w0 sz) := by
  refine Met.ofW (cc := cX12_isClosed) (maxL := 4) (ret := (some .boolean)) (by decide) rfl ?_
  intro p e s m args below meth c s₁ Bk hml hv
  obtain ⟨rfl, ⟨hsz, hP, hK, hD0⟩, hE, hSR⟩ := hv
  have hx := Bk.exec
  have hb := Bk.bytes
  have hr := Bk.returns
  have hlocks := Bk.notSynchronized
  have hC : CallFix p m c cX12_isClosed 4 s _ (wu yX12_isClosed cX12_isClosed 4 (some .boolean)) RX12 := ⟨hx, hb, hml, findClass_of_methodNamed Bk.named, atoms_spec (ws := (wu yX12_isClosed cX12_isClosed 4 (some .boolean))) Bk.pre⟩
  subst hsz
  have hD := hD0.self (sz := s.heap.size)
  generalize hAe : va_A w0 s.heap.size = A at hD hE ⊢
  have hA : ∀ q : Nat, s.heap.size ≤ q → A q := fun q h => by rw [← hAe]; exact Or.inr h
  have hw : Wd dC dI A s.heap s.heap [] w0 := ⟨hP, hD, va_S.rf⟩
  have hF : FE ksM ([] : List (Nat × Nat × Nat)) w0 w0 := FE.rf
  have hl := lv_entry ([.ref (ad 0), .int a1, .int a2]) (n := 4) (Nat.le_of_ble_eq_true rfl)
  rw [lg_entry_eq]
  generalize (lg_sl ([.ref (ad 0), .int a1, .int a2]) ++ List.replicate (4 - (lg_sl ([.ref (ad 0), .int a1, .int a2])).length) Slot.unset).toArray = ls at hl ⊢
  have hl : lv_has ls 4 [(0, .ref (ad 0)), (1, .int a1), (2, .int a2)] := hl
  generalize hloc : ([] : List Loc) = locs at hw ⊢
  have hinX12 : ∀ w ∈ u_ws RX12 TX12 42, w ∈ (wu yX12_isClosed cX12_isClosed 4 (some .boolean)) := fun _ h => List.mem_cons_of_mem _ (up_71 h)
  have L2 : ∀ (n2 : Nat) (v2_3 : Int32) (H : Heap) (locs : List Loc) (ls : Array Slot), 0 ≤ a1.toInt → a1.toInt ≤ 9 → 0 ≤ a2.toInt → a2.toInt ≤ 359 → 0 ≤ v2_3.toInt → v2_3.toInt ≤ 8 → (∀ k : Int, 0 ≤ k → k < v2_3.toInt → ¬ mCl1 w0 k a1.toInt a2.toInt) → (8 - v2_3.toInt).toNat < n2 → Wd dC dI A s.heap H locs w0 → lv_has ls 4 [(0, .ref (ad 0)), (1, .int a1), (2, .int a2), (3, .int v2_3)] → W p l e ({ frames := 1, cells := 0, slots := 0, locals := 12 }) s m (List.toArray [.ref (ad 0), .int a1, .int a2]) below meth c H locs 0 0 (MQ below (va_Qi (P_X12_isClosed_1 ad cy B qr s1 a1 a2 w0) (fun u : va_W => wpost dC dI cy A u) A) (List.toArray [.ref (ad 0), .int a1, .int a2]) s 0 0 A) (F0 m 2 ls []) := by
    intro n2
    induction n2 with
    | zero => intro v2_3 H locs ls r1 t2 r3 t4 r5 t6 hcr2_0 hm2 hw hl; omega
    | succ n2 ih2 =>
      intro v2_3 H locs ls r1 t2 r3 t4 r5 t6 hcr2_0 hm2 hw hl
      refine lv_iload_n hx hb dX12_isClosed_2 rfl (lv_at hl 3 rfl) ?_
      refine lv_aload_n hx hb dX12_isClosed_3 rfl (lv_at hl 0 rfl) ?_
      refine tk_getA hC hK hw hT hinX12 kM_at0 (by decide) rfl 26 (by decide) (List.mem_cons_of_mem _ uw_7_1) rfl rfl dX12_isClosed_4 ?_
      refine lv_iconst (v := 2) hx hb dX12_isClosed_7 (by decide) ?_
      refine tk_ialdR hC hK hw hT kM_at12 rfl (by decide) (by decide) dX12_isClosed_8 (fun x7 c8 Ex7 => ?_)
      have bx7 := tk_rgI rfl 2 1 1 0 8 (by decide +kernel) ⟨0, by decide, by decide⟩ Ex7
      have c8 : gi w0 12 2 = x7 := c8
      refine lv_icmp_ge (tgt := 61) hx hb dX12_isClosed_9 (by decide) (fun c9 => ?_) (fun c9 => ?_)
      · have c9 : x7.toInt ≤ v2_3.toInt := wk_le.mp c9
        refine lv_iconst (v := 0) hx hb dX12_isClosed_61 (by decide) ?_
        exact tk_zret hC hr rfl hlocks hK ⟨rfl, (Or.inl ⟨rfl, (by first | exact mCl_no hcr2_0 (by simp only [c8]; omega) | exact mCl_off (by simp only [c8]; omega))⟩)⟩ hw dX12_isClosed_62
      · have c9 : v2_3.toInt < x7.toInt := wk_leF c9
        refine lv_aload_n hx hb dX12_isClosed_12 rfl (lv_at hl 0 rfl) ?_
        refine tk_geti hC hK hw hT hinX12 kM_at0 (by decide) rfl 27 (by decide) (List.mem_cons_of_mem _ uw_7_2) rfl rfl dX12_isClosed_13 (fun x10 c11 rx10 tx10 => ?_)
        refine lv_if_eq (tgt := 61) hx hb dX12_isClosed_16 (by decide) (fun c12 => ?_) (fun c12 => ?_)
        · have c12 : x10.toInt = (0 : Int) := wk_eq.mp c12
          refine lv_iconst (v := 0) hx hb dX12_isClosed_61 (by decide) ?_
          exact tk_zret hC hr rfl hlocks hK ⟨rfl, (Or.inl ⟨rfl, (by first | exact mCl_no hcr2_0 (by simp only [c8, c11]; omega) | exact mCl_off (by simp only [c8, c11]; omega))⟩)⟩ hw dX12_isClosed_62
        · have c12 : ¬ x10.toInt = (0 : Int) := wk_eqF c12
          refine lv_aload_n hx hb dX12_isClosed_19 rfl (lv_at hl 0 rfl) ?_
          refine tk_getA hC hK hw hT hinX12 kM_at0 (by decide) rfl 26 (by decide) (List.mem_cons_of_mem _ uw_7_1) rfl rfl dX12_isClosed_20 ?_
          refine lv_sipush (v := 140) hx hb dX12_isClosed_23 (by decide) ?_
          refine lv_iconst (v := 2) hx hb dX12_isClosed_26 (by decide) ?_
          refine lv_iload_n hx hb dX12_isClosed_27 rfl (lv_at hl 3 rfl) ?_
          refine lv_imul hx hb dX12_isClosed_28 ?_
          refine lv_topi (fun x13 ex13 => ?_)
          have ex13 : x13.toInt = (2 : Int) * v2_3.toInt := by rw [ex13]; exact wk_mul (show (-2147483648) ≤ (2 : Int) * v2_3.toInt by omega) (show (2 : Int) * v2_3.toInt ≤ 2147483647 by omega)
          refine lv_iadd hx hb dX12_isClosed_29 ?_
          refine lv_topi (fun x14 ex14 => ?_)
          have ex14 : x14.toInt = (140 : Int) + x13.toInt := by rw [ex14]; exact wk_add (show (-2147483648) ≤ (140 : Int) + x13.toInt by omega) (show (140 : Int) + x13.toInt ≤ 2147483647 by omega)
          refine tk_ialdR hC hK hw hT kM_at12 rfl (show 0 ≤ x14.toInt by first | with_reducible assumption | omega) (show x14.toInt < 296 by first | with_reducible assumption | omega) dX12_isClosed_30 (fun x15 c16 Ex15 => ?_)
          have c16 : gi w0 12 (2 * v2_3.toInt + 140).toNat = x15 := (congrArg (gi w0 12) (congrArg Int.toNat (show 2 * v2_3.toInt + 140 = x14.toInt by first | exact Int.le_antisymm (by omega) (by omega) | omega))).trans c16
          refine lv_iload_n hx hb dX12_isClosed_31 rfl (lv_at hl 1 rfl) ?_
          refine lv_icmp_ne (tgt := 55) hx hb dX12_isClosed_32 (by decide) (fun c17 => ?_) (fun c17 => ?_)
          · have c17 : ¬ x15.toInt = a1.toInt := wk_eqF c17
            obtain ⟨x18, ex18⟩ : ∃ y : Int32, y = v2_3 + Int32.ofInt 1 := ⟨_, rfl⟩
            refine lv_iinc (v := x18) (lv' := [(3, .int x18), (0, .ref (ad 0)), (1, .int a1), (2, .int a2)]) hx hb dX12_isClosed_55 hl (k := 3) rfl ex18.symm (by decide) rfl (fun ls hl => ?_)
            have ex18 : x18.toInt = v2_3.toInt + 1 := by rw [ex18]; exact wk_add (y := 1) (show -2147483648 ≤ v2_3.toInt + 1 by omega) (show v2_3.toInt + 1 ≤ 2147483647 by omega)
            refine lv_goto (tgt := 2) hx hb dX12_isClosed_58 (by decide) ?_
            exact ih2 x18 H locs ls  (show 0 ≤ a1.toInt from r1) (show a1.toInt ≤ 9 from t2) (show 0 ≤ a2.toInt from r3) (show a2.toInt ≤ 359 from t4) (show 0 ≤ x18.toInt by first | with_reducible assumption | omega) (show x18.toInt ≤ 8 by first | with_reducible assumption | omega) (show ∀ k : Int, 0 ≤ k → k < x18.toInt → ¬ mCl1 w0 k a1.toInt a2.toInt from all_step hcr2_0 (show ¬ mCl1 w0 v2_3.toInt a1.toInt a2.toInt by unfold mCl1; simp only [c8, c11, c16]; omega) (by omega)) (show (8 - x18.toInt).toNat < n2 by first | exact tn_lt hm2 (by omega) (by omega) | omega) hw   (lv_sub hl [1, 2, 3, 0] rfl)
          · have c17 : x15.toInt = a1.toInt := wk_eq.mp c17
            refine lv_aload_n hx hb dX12_isClosed_35 rfl (lv_at hl 0 rfl) ?_
            refine tk_getA hC hK hw hT hinX12 kM_at0 (by decide) rfl 26 (by decide) (List.mem_cons_of_mem _ uw_7_1) rfl rfl dX12_isClosed_36 ?_
            refine lv_sipush (v := 140) hx hb dX12_isClosed_39 (by decide) ?_
            refine lv_iconst (v := 2) hx hb dX12_isClosed_42 (by decide) ?_
            refine lv_iload_n hx hb dX12_isClosed_43 rfl (lv_at hl 3 rfl) ?_
            refine lv_imul hx hb dX12_isClosed_44 ?_
            refine lv_topi (fun x19 ex19 => ?_)
            have ex19 : x19.toInt = (2 : Int) * v2_3.toInt := by rw [ex19]; exact wk_mul (show (-2147483648) ≤ (2 : Int) * v2_3.toInt by omega) (show (2 : Int) * v2_3.toInt ≤ 2147483647 by omega)
            refine lv_iadd hx hb dX12_isClosed_45 ?_
            refine lv_topi (fun x20 ex20 => ?_)
            have ex20 : x20.toInt = (140 : Int) + x19.toInt := by rw [ex20]; exact wk_add (show (-2147483648) ≤ (140 : Int) + x19.toInt by omega) (show (140 : Int) + x19.toInt ≤ 2147483647 by omega)
            refine lv_iconst (v := 1) hx hb dX12_isClosed_46 (by decide) ?_
            refine lv_iadd hx hb dX12_isClosed_47 ?_
            refine lv_topi (fun x21 ex21 => ?_)
            have ex21 : x21.toInt = x20.toInt + (1 : Int) := by rw [ex21]; exact wk_add (show (-2147483648) ≤ x20.toInt + (1 : Int) by omega) (show x20.toInt + (1 : Int) ≤ 2147483647 by omega)
            refine tk_ialdR hC hK hw hT kM_at12 rfl (show 0 ≤ x21.toInt by first | with_reducible assumption | omega) (show x21.toInt < 296 by first | with_reducible assumption | omega) dX12_isClosed_48 (fun x22 c23 Ex22 => ?_)
            have c23 : gi w0 12 (2 * v2_3.toInt + 141).toNat = x22 := (congrArg (gi w0 12) (congrArg Int.toNat (show 2 * v2_3.toInt + 141 = x21.toInt by first | exact Int.le_antisymm (by omega) (by omega) | omega))).trans c23
            refine lv_iload_n hx hb dX12_isClosed_49 rfl (lv_at hl 2 rfl) ?_
            refine lv_icmp_ne (tgt := 55) hx hb dX12_isClosed_50 (by decide) (fun c24 => ?_) (fun c24 => ?_)
            · have c24 : ¬ x22.toInt = a2.toInt := wk_eqF c24
              obtain ⟨x25, ex25⟩ : ∃ y : Int32, y = v2_3 + Int32.ofInt 1 := ⟨_, rfl⟩
              refine lv_iinc (v := x25) (lv' := [(3, .int x25), (0, .ref (ad 0)), (1, .int a1), (2, .int a2)]) hx hb dX12_isClosed_55 hl (k := 3) rfl ex25.symm (by decide) rfl (fun ls hl => ?_)
              have ex25 : x25.toInt = v2_3.toInt + 1 := by rw [ex25]; exact wk_add (y := 1) (show -2147483648 ≤ v2_3.toInt + 1 by omega) (show v2_3.toInt + 1 ≤ 2147483647 by omega)
              refine lv_goto (tgt := 2) hx hb dX12_isClosed_58 (by decide) ?_
              exact ih2 x25 H locs ls  (show 0 ≤ a1.toInt from r1) (show a1.toInt ≤ 9 from t2) (show 0 ≤ a2.toInt from r3) (show a2.toInt ≤ 359 from t4) (show 0 ≤ x25.toInt by first | with_reducible assumption | omega) (show x25.toInt ≤ 8 by first | with_reducible assumption | omega) (show ∀ k : Int, 0 ≤ k → k < x25.toInt → ¬ mCl1 w0 k a1.toInt a2.toInt from all_step hcr2_0 (show ¬ mCl1 w0 v2_3.toInt a1.toInt a2.toInt by unfold mCl1; simp only [c8, c11, c16, c23]; omega) (by omega)) (show (8 - x25.toInt).toNat < n2 by first | exact tn_lt hm2 (by omega) (by omega) | omega) hw   (lv_sub hl [1, 2, 3, 0] rfl)
            · have c24 : x22.toInt = a2.toInt := wk_eq.mp c24
              refine lv_iconst (v := 1) hx hb dX12_isClosed_53 (by decide) ?_
              exact tk_zret hC hr rfl hlocks hK ⟨rfl, (Or.inr ⟨rfl, ⟨x10, c11, (show 1 ≤ x10.toInt by first | with_reducible assumption | omega), (show x10.toInt ≤ 1 from tx10)⟩, ⟨x7, c8, (show 1 ≤ x7.toInt by first | with_reducible assumption | omega), (show x7.toInt ≤ 8 by first | with_reducible assumption | omega)⟩, (by exact ⟨v2_3.toInt, by omega, by simp only [c8, c11, c16, c23]; omega, by unfold mCl1; simp only [c8, c11, c16, c23]; omega⟩)⟩)⟩ hw dX12_isClosed_54
  refine lv_iconst (v := 0) hx hb dX12_isClosed_0 (by decide) ?_
  refine lv_istore_n (lv' := [(3, .int 0), (0, .ref (ad 0)), (1, .int a1), (2, .int a2)]) hx hb dX12_isClosed_1 rfl hl (by decide) rfl (fun ls hl => ?_)
  exact L2 ((8 - (0 : Int)).toNat + 1) 0 s.heap locs ls  (show 0 ≤ a1.toInt from ra1) (show a1.toInt ≤ 9 from ta1) (show 0 ≤ a2.toInt from ra2) (show a2.toInt ≤ 359 from ta2) (by decide) (by decide) (show ∀ k : Int, 0 ≤ k → k < (0 : Int) → ¬ mCl1 w0 k a1.toInt a2.toInt from all_none) (Nat.lt_succ_self _) hw   (lv_sub hl [1, 2, 3, 0] rfl)
abbrev P_X12_streetOf_4 (ad : Nat → Nat) (cy : Nat → ClassId) (B : Int) (qr : Nat) (s1 : Int) (a1 : Int32) (a2 : Int32) (w0 : va_W) : Int32 → va_W → Prop := fun r u => w0 = u ∧ ((0 ≤ r.toInt ∧ r.toInt ≤ 9 ∧ gi u 12 (10 * a1.toInt + 1 * a2.toInt + 10).toNat = r))
set_option maxHeartbeats 4000000 in
set_option maxRecDepth 100000 in
theorem k_X12_streetOf_4 (l : Launch) (adK adV : Nat → Nat) (dC : Nat → ClassId) (dI : Nat → Nat → Nat) (cy : Nat → ClassId) (ad : Nat → Nat) (B : Int) (hB0 : 100000 ≤ B) (hB1 : B ≤ 1073741824) (qr : Nat) (s1 : Int)  (a1 : Int32) (ra1 : 0 ≤ a1.toInt) (ta1 : a1.toInt ≤ 11) (a2 : Int32) (ra2 : 3 ≤ a2.toInt) (ta2 : a2.toInt ≤ 9) (w0 : va_W) (sz : Nat) (hT : TW ksM ad cy B qr 12 w0)  : Met l yX12_streetOf (wu yX12_streetOf cX12_streetOf 3 (some .int)) ({ frames := 1, cells := 0, slots := 0, locals := 12 }) (va_Pc [.ref (ad 0), .int a1, .int a2] (wpreS adK adV dC dI cy sz w0)) (va_Qi (P_X12_streetOf_4 ad cy B qr s1 a1 a2 w0) (fun u : va_W => wpost dC dI cy (va_A w0 sz) u) (va_A w0 sz)) 0 0 (va_A w0 sz) := by
  refine Met.ofW (cc := cX12_streetOf) (maxL := 3) (ret := (some .int)) (by decide) rfl ?_
  intro p e s m args below meth c s₁ Bk hml hv
  obtain ⟨rfl, ⟨hsz, hP, hK, hD0⟩, hE, hSR⟩ := hv
  have hx := Bk.exec
  have hb := Bk.bytes
  have hr := Bk.returns
  have hlocks := Bk.notSynchronized
  have hC : CallFix p m c cX12_streetOf 3 s _ (wu yX12_streetOf cX12_streetOf 3 (some .int)) RX12 := ⟨hx, hb, hml, findClass_of_methodNamed Bk.named, atoms_spec (ws := (wu yX12_streetOf cX12_streetOf 3 (some .int))) Bk.pre⟩
  subst hsz
  have hD := hD0.self (sz := s.heap.size)
  generalize hAe : va_A w0 s.heap.size = A at hD hE ⊢
  have hA : ∀ q : Nat, s.heap.size ≤ q → A q := fun q h => by rw [← hAe]; exact Or.inr h
  have hw : Wd dC dI A s.heap s.heap [] w0 := ⟨hP, hD, va_S.rf⟩
  have hF : FE ksM ([] : List (Nat × Nat × Nat)) w0 w0 := FE.rf
  have hl := lv_entry ([.ref (ad 0), .int a1, .int a2]) (n := 3) (Nat.le_of_ble_eq_true rfl)
  rw [lg_entry_eq]
  generalize (lg_sl ([.ref (ad 0), .int a1, .int a2]) ++ List.replicate (3 - (lg_sl ([.ref (ad 0), .int a1, .int a2])).length) Slot.unset).toArray = ls at hl ⊢
  have hl : lv_has ls 3 [(0, .ref (ad 0)), (1, .int a1), (2, .int a2)] := hl
  generalize hloc : ([] : List Loc) = locs at hw ⊢
  have hinX12 : ∀ w ∈ u_ws RX12 TX12 42, w ∈ (wu yX12_streetOf cX12_streetOf 3 (some .int)) := fun _ h => List.mem_cons_of_mem _ (up_71 h)
  refine lv_aload_n hx hb dX12_streetOf_0 rfl (lv_at hl 0 rfl) ?_
  refine tk_getA hC hK hw hT hinX12 kM_at0 (by decide) rfl 26 (by decide) (List.mem_cons_of_mem _ uw_7_1) rfl rfl dX12_streetOf_1 ?_
  refine lv_bipush (v := 10) hx hb dX12_streetOf_4 (by decide) ?_
  refine lv_bipush (v := 10) hx hb dX12_streetOf_6 (by decide) ?_
  refine lv_iload_n hx hb dX12_streetOf_8 rfl (lv_at hl 1 rfl) ?_
  refine lv_imul hx hb dX12_streetOf_9 ?_
  refine lv_topi (fun x1 ex1 => ?_)
  have ex1 : x1.toInt = (10 : Int) * a1.toInt := by rw [ex1]; exact wk_mul (show (-2147483648) ≤ (10 : Int) * a1.toInt by omega) (show (10 : Int) * a1.toInt ≤ 2147483647 by omega)
  refine lv_iadd hx hb dX12_streetOf_10 ?_
  refine lv_topi (fun x2 ex2 => ?_)
  have ex2 : x2.toInt = (10 : Int) + x1.toInt := by rw [ex2]; exact wk_add (show (-2147483648) ≤ (10 : Int) + x1.toInt by omega) (show (10 : Int) + x1.toInt ≤ 2147483647 by omega)
  refine lv_iload_n hx hb dX12_streetOf_11 rfl (lv_at hl 2 rfl) ?_
  refine lv_iadd hx hb dX12_streetOf_12 ?_
  refine lv_topi (fun x3 ex3 => ?_)
  have ex3 : x3.toInt = x2.toInt + a2.toInt := by rw [ex3]; exact wk_add (show (-2147483648) ≤ x2.toInt + a2.toInt by omega) (show x2.toInt + a2.toInt ≤ 2147483647 by omega)
  refine tk_ialdR hC hK hw hT kM_at12 rfl (show 0 ≤ x3.toInt by first | with_reducible assumption | omega) (show x3.toInt < 296 by first | with_reducible assumption | omega) dX12_streetOf_13 (fun x4 c5 Ex4 => ?_)
  have c5 : gi w0 12 (10 * a1.toInt + 1 * a2.toInt + 10).toNat = x4 := (congrArg (gi w0 12) (congrArg Int.toNat (show 10 * a1.toInt + 1 * a2.toInt + 10 = x3.toInt by first | exact Int.le_antisymm (by omega) (by omega) | omega))).trans c5
  have bx4 := tk_rgI rfl 13 1 117 0 9 (by decide +kernel) ⟨(x3.toInt - 13).toNat, by omega, show x3.toInt.toNat = 13 + 1 * (x3.toInt - 13).toNat by omega⟩ Ex4
  exact tk_iret hC hr hlocks hK ⟨rfl, ⟨(show 0 ≤ x4.toInt by first | with_reducible assumption | omega), (show x4.toInt ≤ 9 by first | with_reducible assumption | omega), c5⟩⟩ hw dX12_streetOf_14
