abbrev P_X0_drawFirstBy_1 (ad : Nat → Nat) (cy : Nat → ClassId) (B : Int) (qr : Nat) (s1 : Int) (a1 : Int32) (a2 : Int32) (a3 : Int32) (w0 : va_W) : va_W → Prop := fun u => TW ksC ad cy B qr s1 u ∧ FE ksC [(43, 0, 1100)] w0 u ∧ ((True))
set_option maxHeartbeats 4000000 in
set_option maxRecDepth 100000 in
theorem k_X0_drawFirstBy_1 (l : Launch) (adK adV : Nat → Nat) (dC : Nat → ClassId) (dI : Nat → Nat → Nat) (cy : Nat → ClassId) (ad : Nat → Nat) (B : Int) (hB0 : 2147483648 ≤ B) (hB1 : B ≤ 1152921504606846976) (qr : Nat) (s1 : Int)  (a1 : Int32) (ra1 : 0 ≤ a1.toInt) (ta1 : a1.toInt ≤ 3) (a2 : Int32) (ra2 : 0 ≤ a2.toInt) (ta2 : a2.toInt ≤ 11) (a3 : Int32) (ra3 : 0 ≤ a3.toInt) (ta3 : a3.toInt ≤ 1) (w0 : va_W) (sz : Nat) (hT : TW ksC ad cy B qr s1 w0)  : Met l yX0_drawFirstBy (wu yX0_drawFirstBy cX0_drawFirstBy 10 none) ({ frames := 2, cells := 0, slots := 0, locals := 34 }) (va_Pc [.ref (ad 145), .int a1, .int a2, .int a3] (wpreS adK adV dC dI cy sz w0)) (va_Qv (P_X0_drawFirstBy_1 ad cy B qr s1 a1 a2 a3 w0) (fun u : va_W => wpost dC dI cy (va_A w0 sz) u) (va_A w0 sz)) 0 0 (va_A w0 sz) := by
  refine Met.ofW (cc := cX0_drawFirstBy) (maxL := 10) (ret := none) (by decide) rfl ?_
  intro p e s m args below meth c s₁ Bk hml hv
  obtain ⟨rfl, ⟨hsz, hP, hK, hD0⟩, hE, hSR⟩ := hv
  have hx := Bk.exec
  have hb := Bk.bytes
  have hr := Bk.returns
  have hlocks := Bk.notSynchronized
  have hC : CallFix p m c cX0_drawFirstBy 10 s _ (wu yX0_drawFirstBy cX0_drawFirstBy 10 none) RX0 := ⟨hx, hb, hml, findClass_of_methodNamed Bk.named, atoms_spec (ws := (wu yX0_drawFirstBy cX0_drawFirstBy 10 none)) Bk.pre⟩
  subst hsz
  have hD := hD0.self (sz := s.heap.size)
  generalize hAe : va_A w0 s.heap.size = A at hD hE ⊢
  have hA : ∀ q : Nat, s.heap.size ≤ q → A q := fun q h => by rw [← hAe]; exact Or.inr h
  have hw : Wd dC dI A s.heap s.heap [] w0 := ⟨hP, hD, va_S.rf⟩
  have hF : FE ksC [(43, 0, 1100)] w0 w0 := FE.rf
  have hl := lv_entry ([.ref (ad 145), .int a1, .int a2, .int a3]) (n := 10) (Nat.le_of_ble_eq_true rfl)
  rw [lg_entry_eq]
  generalize (lg_sl ([.ref (ad 145), .int a1, .int a2, .int a3]) ++ List.replicate (10 - (lg_sl ([.ref (ad 145), .int a1, .int a2, .int a3])).length) Slot.unset).toArray = ls at hl ⊢
  have hl : lv_has ls 10 [(0, .ref (ad 145)), (1, .int a1), (2, .int a2), (3, .int a3)] := hl
  generalize hloc : ([] : List Loc) = locs at hw ⊢
  have hinX7 : ∀ w ∈ u_ws RX7 TX7 12, w ∈ (wu yX0_drawFirstBy cX0_drawFirstBy 10 none) := fun _ h => List.mem_cons_of_mem _ (up_73 h)
  have hinX0 : ∀ w ∈ u_ws RX0 TX0 4, w ∈ (wu yX0_drawFirstBy cX0_drawFirstBy 10 none) := fun _ h => List.mem_cons_of_mem _ (up_77 h)
  have hinX5 : ∀ w ∈ u_ws RX5 TX5 14, w ∈ (wu yX0_drawFirstBy cX0_drawFirstBy 10 none) := fun _ h => List.mem_cons_of_mem _ (up_76 h)
  have L32 : ∀ (n32 : Nat) (v32_5 : Int32) (v32_6 : Int32) (v32_7 : Int32) (H : Heap) (locs : List Loc) (ls : Array Slot) (w1 : va_W), 0 ≤ a1.toInt → a1.toInt ≤ 3 → 0 ≤ a2.toInt → a2.toInt ≤ 11 → 0 ≤ a3.toInt → a3.toInt ≤ 1 → 0 ≤ v32_5.toInt → v32_5.toInt ≤ 9 → 0 ≤ v32_6.toInt → v32_6.toInt ≤ 9 → 0 ≤ v32_7.toInt → v32_7.toInt ≤ 10 → (10 - v32_7.toInt).toNat < n32 → Wd dC dI A s.heap H locs w1 → TW ksC ad cy B qr s1 w1 → FE ksC [(43, 0, 1100)] w0 w1 → lv_has ls 10 [(0, .ref (ad 145)), (1, .int a1), (2, .int a2), (3, .int a3), (4, .ref (ad 39)), (5, .int v32_5), (6, .int v32_6), (7, .int v32_7)] → W p l e ({ frames := 2, cells := 0, slots := 0, locals := 34 }) s m (List.toArray [.ref (ad 145), .int a1, .int a2, .int a3]) below meth c H locs 0 0 (MQ below (va_Qv (P_X0_drawFirstBy_1 ad cy B qr s1 a1 a2 a3 w0) (fun u : va_W => wpost dC dI cy A u) A) (List.toArray [.ref (ad 145), .int a1, .int a2, .int a3]) s 0 0 A) (F0 m 32 ls []) := by
    intro n32
    induction n32 with
    | zero => intro v32_5 v32_6 v32_7 H locs ls w1 r2 t3 r4 t5 r6 t7 r8 t9 r10 t11 r12 t13 hm32 hw hT hF hl; omega
    | succ n32 ih32 =>
      intro v32_5 v32_6 v32_7 H locs ls w1 r2 t3 r4 t5 r6 t7 r8 t9 r10 t11 r12 t13 hm32 hw hT hF hl
      have J102 : ∀ (v102_8 : Int32) (v102_9 : Int32) (f102_39_8 : Int32) (H : Heap) (locs : List Loc) (ls : Array Slot) (w14 : va_W), 0 ≤ a1.toInt → a1.toInt ≤ 3 → 0 ≤ a2.toInt → a2.toInt ≤ 11 → 0 ≤ a3.toInt → a3.toInt ≤ 1 → 0 ≤ v32_5.toInt → v32_5.toInt ≤ 9 → 0 ≤ v32_6.toInt → v32_6.toInt ≤ 9 → 0 ≤ v32_7.toInt → v32_7.toInt ≤ 9 → 0 ≤ v102_8.toInt → v102_8.toInt ≤ 1000000 → 0 ≤ v102_9.toInt → v102_9.toInt ≤ 399 → 1 ≤ f102_39_8.toInt → f102_39_8.toInt ≤ 10 → Wd dC dI A s.heap H locs w14 → TW ksC ad cy B qr s1 w14 → FE ksC [(43, 0, 1100)] w0 w14 → gi w14 39 8 = f102_39_8 → lv_has ls 10 [(0, .ref (ad 145)), (1, .int a1), (2, .int a2), (3, .int a3), (4, .ref (ad 39)), (5, .int v32_5), (6, .int v32_6), (7, .int v32_7), (8, .int v102_8), (9, .int v102_9)] → W p l e ({ frames := 2, cells := 0, slots := 0, locals := 34 }) s m (List.toArray [.ref (ad 145), .int a1, .int a2, .int a3]) below meth c H locs 0 0 (MQ below (va_Qv (P_X0_drawFirstBy_1 ad cy B qr s1 a1 a2 a3 w0) (fun u : va_W => wpost dC dI cy A u) A) (List.toArray [.ref (ad 145), .int a1, .int a2, .int a3]) s 0 0 A) (F0 m 102 ls []) := by
        intro v102_8 v102_9 f102_39_8 H locs ls w14 r15 t16 r17 t18 r19 t20 r21 t22 r23 t24 r25 t26 r27 t28 r29 t30 r31 t32 hw hT hF c33 hl
        obtain ⟨x34, ex34⟩ : ∃ y : Int32, y = v32_7 + Int32.ofInt 1 := ⟨_, rfl⟩
        refine lv_iinc (v := x34) (lv' := [(7, .int x34), (0, .ref (ad 145)), (1, .int a1), (2, .int a2), (3, .int a3), (4, .ref (ad 39)), (5, .int v32_5), (6, .int v32_6), (8, .int v102_8), (9, .int v102_9)]) hx hb dX0_drawFirstBy_102 hl (k := 7) rfl ex34.symm (by decide) rfl (fun ls hl => ?_)
        have ex34 : x34.toInt = v32_7.toInt + 1 := by rw [ex34]; exact wk_add (y := 1) (show -2147483648 ≤ v32_7.toInt + 1 by omega) (show v32_7.toInt + 1 ≤ 2147483647 by omega)
        refine lv_goto (tgt := 32) hx hb dX0_drawFirstBy_105 (by decide) ?_
        exact ih32 v32_5 v32_6 x34 H locs ls w14 (show 0 ≤ a1.toInt from r15) (show a1.toInt ≤ 3 from t16) (show 0 ≤ a2.toInt from r17) (show a2.toInt ≤ 11 from t18) (show 0 ≤ a3.toInt from r19) (show a3.toInt ≤ 1 from t20) (show 0 ≤ v32_5.toInt from r21) (show v32_5.toInt ≤ 9 from t22) (show 0 ≤ v32_6.toInt from r23) (show v32_6.toInt ≤ 9 from t24) (show 0 ≤ x34.toInt by first | with_reducible assumption | omega) (show x34.toInt ≤ 10 by first | with_reducible assumption | omega) (show (10 - x34.toInt).toNat < n32 by first | exact tn_lt hm32 (by omega) (by omega) | omega) hw hT hF  (lv_sub hl [1, 2, 3, 4, 5, 6, 7, 0] rfl)
      refine lv_iload hx hb dX0_drawFirstBy_32 (lv_at hl 7 rfl) ?_
      refine lv_aload hx hb dX0_drawFirstBy_34 (lv_at hl 4 rfl) ?_
      refine tk_geti hC hK hw hT hinX7 kC_at39 (by decide) rfl 8 (by decide) (List.mem_cons_of_mem _ uw_37_5) rfl rfl dX0_drawFirstBy_36 (fun x35 c36 rx35 tx35 => ?_)
      refine lv_icmp_ge (tgt := 108) hx hb dX0_drawFirstBy_39 (by decide) (fun c37 => ?_) (fun c37 => ?_)
      · have c37 : x35.toInt ≤ v32_7.toInt := wk_le.mp c37
        exact tk_vret hC hr hlocks hK ⟨hT, hF, trivial⟩ hw dX0_drawFirstBy_108
      · have c37 : v32_7.toInt < x35.toInt := wk_leF c37
        refine lv_aload_n hx hb dX0_drawFirstBy_42 rfl (lv_at hl 0 rfl) ?_
        refine tk_getA hC hK hw hT hinX0 kC_at145 (by decide) rfl 1 (by decide) (List.mem_cons_of_mem _ uw_4_14) rfl rfl dX0_drawFirstBy_43 ?_
        refine lv_iload_n hx hb dX0_drawFirstBy_46 rfl (lv_at hl 1 rfl) ?_
        refine lv_iload hx hb dX0_drawFirstBy_47 (lv_at hl 6 rfl) ?_
        refine lv_iload hx hb dX0_drawFirstBy_49 (lv_at hl 7 rfl) ?_
        refine tk_Si hC hK hw hT hA hE hSR (k_X0_spot_1 l adK adV dC dI cy ad B hB0 (Int.le_trans hB1 (by decide)) qr s1   a1 (show 0 ≤ a1.toInt from r2) (show a1.toInt ≤ 3 from t3) v32_6 (show 0 ≤ v32_6.toInt from r10) (show v32_6.toInt ≤ 9 from t11) v32_7 (show 0 ≤ v32_7.toInt from r12) (show v32_7.toInt ≤ 9 by first | with_reducible assumption | omega) w1 H.size hT ) (va_cwS 3 hC.2.2.2.2 uS_RX0_47 rfl rfl rfl (by decide +kernel) ⟨Nat.le_of_ble_eq_true rfl, Nat.le_of_ble_eq_true rfl⟩) rfl hl.1 rfl (Nat.le_of_ble_eq_true rfl) dX0_drawFirstBy_51 (fun r38 w40 H locs hp39 hw => ?_)
        obtain ⟨hT, k41, hg44⟩ := hp39
        have hF := hF.tr k41 (by decide)
        have c45 := k41.gi kC_at39 (by decide) c36
        obtain ⟨g42, g43⟩ := hg44
        refine tk_iald hC hK hw hT kC_at146 rfl rfl (show 0 ≤ r38.toInt by first | with_reducible assumption | omega) (show r38.toInt < 1100 by first | with_reducible assumption | omega) dX0_drawFirstBy_54 (fun x46 c47 rx46 tx46 => ?_)
        refine lv_istore (lv' := [(8, .int x46), (0, .ref (ad 145)), (1, .int a1), (2, .int a2), (3, .int a3), (4, .ref (ad 39)), (5, .int v32_5), (6, .int v32_6), (7, .int v32_7)]) hx hb dX0_drawFirstBy_55 hl (by decide) rfl (fun ls hl => ?_)
        refine lv_iload_n hx hb dX0_drawFirstBy_57 rfl (lv_at hl 2 rfl) ?_
        refine lv_iload hx hb dX0_drawFirstBy_58 (lv_at hl 6 rfl) ?_
        refine lv_iload hx hb dX0_drawFirstBy_60 (lv_at hl 8 rfl) ?_
        refine tk_Si hC hK hw hT hA hE hSR (k_X0_spot_1 l adK adV dC dI cy ad B hB0 (Int.le_trans hB1 (by decide)) qr s1   a1 (show 0 ≤ a1.toInt from r2) (show a1.toInt ≤ 3 from t3) v32_5 (show 0 ≤ v32_5.toInt from r8) (show v32_5.toInt ≤ 9 from t9) v32_7 (show 0 ≤ v32_7.toInt from r12) (show v32_7.toInt ≤ 9 by first | with_reducible assumption | omega) w40 H.size hT ) (va_cwS 3 hC.2.2.2.2 uS_RX0_47 rfl rfl rfl (by decide +kernel) ⟨Nat.le_of_ble_eq_true rfl, Nat.le_of_ble_eq_true rfl⟩) rfl hl.1 rfl (Nat.le_of_ble_eq_true rfl) dX0_drawFirstBy_62 (fun r48 w50 H locs hp49 hw => ?_)
        obtain ⟨hT, k51, hg54⟩ := hp49
        have hF := hF.tr k51 (by decide)
        have c55 := k51.gi kC_at39 (by decide) c45
        obtain ⟨g52, g53⟩ := hg54
        refine lv_istore (lv' := [(9, .int r48), (8, .int x46), (0, .ref (ad 145)), (1, .int a1), (2, .int a2), (3, .int a3), (4, .ref (ad 39)), (5, .int v32_5), (6, .int v32_6), (7, .int v32_7)]) hx hb dX0_drawFirstBy_65 hl (by decide) rfl (fun ls hl => ?_)
        refine lv_iload hx hb dX0_drawFirstBy_67 (lv_at hl 1 rfl) ?_
        refine lv_ldc (v := 1000000) hx hb hC.2.2.2.1 (hC.2.2.2.2 _ (List.mem_cons_of_mem _ uw_36_8)) dX0_drawFirstBy_69 ?_
        refine lv_icmp_ge (tgt := 102) hx hb dX0_drawFirstBy_71 (by decide) (fun c56 => ?_) (fun c56 => ?_)
        · have c56 : (1000000 : Int) ≤ x46.toInt := wk_le.mp c56
          exact J102 x46 r48 x35 H locs ls w50 (show 0 ≤ a1.toInt from r2) (show a1.toInt ≤ 3 from t3) (show 0 ≤ a2.toInt from r4) (show a2.toInt ≤ 11 from t5) (show 0 ≤ a3.toInt from r6) (show a3.toInt ≤ 1 from t7) (show 0 ≤ v32_5.toInt from r8) (show v32_5.toInt ≤ 9 from t9) (show 0 ≤ v32_6.toInt from r10) (show v32_6.toInt ≤ 9 from t11) (show 0 ≤ v32_7.toInt from r12) (show v32_7.toInt ≤ 9 by first | with_reducible assumption | omega) (show 0 ≤ x46.toInt from rx46) (show x46.toInt ≤ 1000000 from tx46) (show 0 ≤ r48.toInt by first | with_reducible assumption | omega) (show r48.toInt ≤ 399 by first | with_reducible assumption | omega) (show 1 ≤ x35.toInt by first | with_reducible assumption | omega) (show x35.toInt ≤ 10 from tx35)  hw hT hF c55 (lv_sub hl [2, 3, 4, 5, 6, 7, 8, 9, 1, 0] rfl)
        · have c56 : x46.toInt < (1000000 : Int) := wk_leF c56
          refine lv_aload hx hb dX0_drawFirstBy_74 (lv_at hl 6 rfl) ?_
          refine tk_getO hC hK hw hT hinX7 kC_at39 (by decide) rfl 1 (by decide) (List.mem_cons_of_mem _ uw_36_11) rfl rfl dX0_drawFirstBy_76 ?_
          refine lv_iload_n hx hb dX0_drawFirstBy_79 rfl (lv_at hl 4 rfl) ?_
          refine tk_iald hC hK hw hT kC_at41 rfl rfl (show 0 ≤ a2.toInt from r4) (show a2.toInt < 13 from Int.lt_of_le_of_lt t5 (by decide)) dX0_drawFirstBy_80 (fun x57 c58 rx57 tx57 => ?_)
          refine lv_iload hx hb dX0_drawFirstBy_81 (lv_at hl 1 rfl) ?_
          refine lv_iadd hx hb dX0_drawFirstBy_83 ?_
          refine lv_topi (fun x59 ex59 => ?_)
          have ex59 : x59.toInt = x57.toInt + x46.toInt := by rw [ex59]; exact wk_add (show (-2147483648) ≤ x57.toInt + x46.toInt by omega) (show x57.toInt + x46.toInt ≤ 2147483647 by omega)
          refine lv_aload_n hx hb dX0_drawFirstBy_84 rfl (lv_at hl 2 rfl) ?_
          refine tk_getA hC hK hw hT hinX0 kC_at145 (by decide) rfl 1 (by decide) (List.mem_cons_of_mem _ uw_4_14) rfl rfl dX0_drawFirstBy_85 ?_
          refine lv_iload hx hb dX0_drawFirstBy_88 (lv_at hl 0 rfl) ?_
          refine tk_iald hC hK hw hT kC_at146 rfl rfl (show 0 ≤ r48.toInt by first | with_reducible assumption | omega) (show r48.toInt < 1100 by first | with_reducible assumption | omega) dX0_drawFirstBy_90 (fun x60 c61 rx60 tx60 => ?_)
          refine lv_icmp_ne (tgt := 102) hx hb dX0_drawFirstBy_91 (by decide) (fun c62 => ?_) (fun c62 => ?_)
          · have c62 : ¬ x59.toInt = x60.toInt := wk_eqF c62
            exact J102 x46 r48 x35 H locs ls w50 (show 0 ≤ a1.toInt from r2) (show a1.toInt ≤ 3 from t3) (show 0 ≤ a2.toInt from r4) (show a2.toInt ≤ 11 from t5) (show 0 ≤ a3.toInt from r6) (show a3.toInt ≤ 1 from t7) (show 0 ≤ v32_5.toInt from r8) (show v32_5.toInt ≤ 9 from t9) (show 0 ≤ v32_6.toInt from r10) (show v32_6.toInt ≤ 9 from t11) (show 0 ≤ v32_7.toInt from r12) (show v32_7.toInt ≤ 9 by first | with_reducible assumption | omega) (show 0 ≤ x46.toInt from rx46) (show x46.toInt ≤ 1000000 from tx46) (show 0 ≤ r48.toInt by first | with_reducible assumption | omega) (show r48.toInt ≤ 399 by first | with_reducible assumption | omega) (show 1 ≤ x35.toInt by first | with_reducible assumption | omega) (show x35.toInt ≤ 10 from tx35)  hw hT hF c55 (lv_sub hl [2, 3, 4, 5, 6, 7, 8, 9, 1, 0] rfl)
          · have c62 : x59.toInt = x60.toInt := wk_eq.mp c62
            refine lv_aload_n hx hb dX0_drawFirstBy_94 rfl (lv_at hl 2 rfl) ?_
            refine tk_getA hC hK hw hT hinX0 kC_at145 (by decide) rfl 2 (by decide) (List.mem_cons_of_mem _ uw_4_15) rfl rfl dX0_drawFirstBy_95 ?_
            refine lv_iload hx hb dX0_drawFirstBy_98 (lv_at hl 0 rfl) ?_
            refine lv_iload_n hx hb dX0_drawFirstBy_100 rfl (lv_at hl 4 rfl) ?_
            refine tk_iast hC hK hw hT kC_at147 (by decide) rfl rfl (show 0 ≤ r48.toInt by first | with_reducible assumption | omega) (show r48.toInt < 1100 by first | with_reducible assumption | omega) (show (-1) ≤ a2.toInt from Int.le_trans (by decide) r4) (show a2.toInt ≤ 11 from t5) dX0_drawFirstBy_101 (fun H locs w63 hw hT k65 c64 => ?_)
            have hF := hF.put kC_at147 (inE_of (a := 0) (b := 1100) (by decide) (show 0 ≤ r48.toInt.toNat by omega) (show r48.toInt.toNat ≤ 1100 by omega)) k65
            have c66 := k65.gi (Or.inl (tk_ne kC_at39 kC_at147 (by decide))) c55
            exact J102 x46 r48 x35 H locs ls w63 (show 0 ≤ a1.toInt from r2) (show a1.toInt ≤ 3 from t3) (show 0 ≤ a2.toInt from r4) (show a2.toInt ≤ 11 from t5) (show 0 ≤ a3.toInt from r6) (show a3.toInt ≤ 1 from t7) (show 0 ≤ v32_5.toInt from r8) (show v32_5.toInt ≤ 9 from t9) (show 0 ≤ v32_6.toInt from r10) (show v32_6.toInt ≤ 9 from t11) (show 0 ≤ v32_7.toInt from r12) (show v32_7.toInt ≤ 9 by first | with_reducible assumption | omega) (show 0 ≤ x46.toInt from rx46) (show x46.toInt ≤ 1000000 from tx46) (show 0 ≤ r48.toInt by first | with_reducible assumption | omega) (show r48.toInt ≤ 399 by first | with_reducible assumption | omega) (show 1 ≤ x35.toInt by first | with_reducible assumption | omega) (show x35.toInt ≤ 10 from tx35)  hw hT hF c66 (lv_sub hl [2, 3, 4, 5, 6, 7, 8, 9, 1, 0] rfl)
  refine lv_aload_n hx hb dX0_drawFirstBy_0 rfl (lv_at hl 0 rfl) ?_
  refine tk_getA hC hK hw hT hinX0 kC_at145 (by decide) rfl 0 (by decide) (List.mem_cons_of_mem _ uw_4_17) rfl rfl dX0_drawFirstBy_1 ?_
  refine tk_getO hC hK hw hT hinX5 kC_at38 (by decide) rfl 0 (by decide) (List.mem_cons_of_mem _ uw_36_9) rfl rfl dX0_drawFirstBy_4 ?_
  refine lv_astore (lv' := [(4, .ref (ad 39)), (0, .ref (ad 145)), (1, .int a1), (2, .int a2), (3, .int a3)]) hx hb dX0_drawFirstBy_7 hl (by decide) rfl (fun ls hl => ?_)
  refine lv_aload hx hb dX0_drawFirstBy_9 (lv_at hl 0 rfl) ?_
  refine lv_iload_n hx hb dX0_drawFirstBy_11 rfl (lv_at hl 3 rfl) ?_
  refine lv_iconst (v := 1) hx hb dX0_drawFirstBy_12 (by decide) ?_
  refine lv_iload_n hx hb dX0_drawFirstBy_13 rfl (lv_at hl 4 rfl) ?_
  refine lv_isub hx hb dX0_drawFirstBy_14 ?_
  refine lv_topi (fun x67 ex67 => ?_)
  have ex67 : x67.toInt = (1 : Int) - a3.toInt := by rw [ex67]; exact wk_sub (show (-2147483648) ≤ (1 : Int) - a3.toInt by omega) (show (1 : Int) - a3.toInt ≤ 2147483647 by omega)
  refine tk_Vi hC hK hw hT hA hE hSR kC_at39 (by decide) rfl (k_X7_cornerAcross_1 l adK adV dC dI cy ad B hB0 (Int.le_trans hB1 (by decide)) qr s1   a2 (show 0 ≤ a2.toInt from ra2) (show a2.toInt ≤ 11 from ta2) x67 (show 0 ≤ x67.toInt by first | with_reducible assumption | omega) (show x67.toInt ≤ 1 by first | with_reducible assumption | omega) w0 s.heap.size hT ) (cwV 2 hC.2.2.2.2 uV_RX0_71 rfl rfl rfl (by decide +kernel) ⟨Nat.le_of_ble_eq_true rfl, Nat.le_of_ble_eq_true rfl⟩) rfl hl.1 rfl (Nat.le_of_ble_eq_true rfl) dX0_drawFirstBy_15 (fun r68 w70 H locs hp69 hw => ?_)
  obtain ⟨hT, k71, hg74⟩ := hp69
  have hF := hF.tr k71 (by decide)
  obtain ⟨g72, g73⟩ := hg74
  refine lv_istore (lv' := [(5, .int r68), (4, .ref (ad 39)), (0, .ref (ad 145)), (1, .int a1), (2, .int a2), (3, .int a3)]) hx hb dX0_drawFirstBy_18 hl (by decide) rfl (fun ls hl => ?_)
  refine lv_aload hx hb dX0_drawFirstBy_20 (lv_at hl 1 rfl) ?_
  refine lv_iload_n hx hb dX0_drawFirstBy_22 rfl (lv_at hl 4 rfl) ?_
  refine lv_iload_n hx hb dX0_drawFirstBy_23 rfl (lv_at hl 5 rfl) ?_
  refine tk_Vi hC hK hw hT hA hE hSR kC_at39 (by decide) rfl (k_X7_cornerAcross_1 l adK adV dC dI cy ad B hB0 (Int.le_trans hB1 (by decide)) qr s1   a2 (show 0 ≤ a2.toInt from ra2) (show a2.toInt ≤ 11 from ta2) a3 (show 0 ≤ a3.toInt from ra3) (show a3.toInt ≤ 1 from ta3) w70 H.size hT ) (cwV 2 hC.2.2.2.2 uV_RX0_71 rfl rfl rfl (by decide +kernel) ⟨Nat.le_of_ble_eq_true rfl, Nat.le_of_ble_eq_true rfl⟩) rfl hl.1 rfl (Nat.le_of_ble_eq_true rfl) dX0_drawFirstBy_24 (fun r75 w77 H locs hp76 hw => ?_)
  obtain ⟨hT, k78, hg81⟩ := hp76
  have hF := hF.tr k78 (by decide)
  obtain ⟨g79, g80⟩ := hg81
  refine lv_istore (lv' := [(6, .int r75), (5, .int r68), (4, .ref (ad 39)), (0, .ref (ad 145)), (1, .int a1), (2, .int a2), (3, .int a3)]) hx hb dX0_drawFirstBy_27 hl (by decide) rfl (fun ls hl => ?_)
  refine lv_iconst (v := 0) hx hb dX0_drawFirstBy_29 (by decide) ?_
  refine lv_istore (lv' := [(7, .int 0), (6, .int r75), (5, .int r68), (4, .ref (ad 39)), (0, .ref (ad 145)), (1, .int a1), (2, .int a2), (3, .int a3)]) hx hb dX0_drawFirstBy_30 hl (by decide) rfl (fun ls hl => ?_)
  exact L32 ((10 - (0 : Int)).toNat + 1) r68 r75 0 H locs ls w77 (show 0 ≤ a1.toInt from ra1) (show a1.toInt ≤ 3 from ta1) (show 0 ≤ a2.toInt from ra2) (show a2.toInt ≤ 11 from ta2) (show 0 ≤ a3.toInt from ra3) (show a3.toInt ≤ 1 from ta3) (show 0 ≤ r68.toInt by first | with_reducible assumption | omega) (show r68.toInt ≤ 9 by first | with_reducible assumption | omega) (show 0 ≤ r75.toInt by first | with_reducible assumption | omega) (show r75.toInt ≤ 9 by first | with_reducible assumption | omega) (by decide) (by decide) (Nat.lt_succ_self _) hw hT hF  (lv_sub hl [4, 5, 6, 7, 3, 2, 1, 0] rfl)
abbrev P_X0_drawFirst_1 (ad : Nat → Nat) (cy : Nat → ClassId) (B : Int) (qr : Nat) (s1 : Int) (a1 : Int32) (w0 : va_W) : va_W → Prop := fun u => TW ksC ad cy B qr s1 u ∧ FE ksC [(43, 0, 1100)] w0 u ∧ ((True))
set_option maxHeartbeats 4000000 in
set_option maxRecDepth 100000 in
theorem k_X0_drawFirst_1 (l : Launch) (adK adV : Nat → Nat) (dC : Nat → ClassId) (dI : Nat → Nat → Nat) (cy : Nat → ClassId) (ad : Nat → Nat) (B : Int) (hB0 : 2147483648 ≤ B) (hB1 : B ≤ 1152921504606846976) (qr : Nat) (s1 : Int)  (a1 : Int32) (ra1 : 0 ≤ a1.toInt) (ta1 : a1.toInt ≤ 3) (w0 : va_W) (sz : Nat) (hT : TW ksC ad cy B qr s1 w0)  : Met l yX0_drawFirst (wu yX0_drawFirst cX0_drawFirst 6 none) ({ frames := 3, cells := 0, slots := 0, locals := 63 }) (va_Pc [.ref (ad 145), .int a1] (wpreS adK adV dC dI cy sz w0)) (va_Qv (P_X0_drawFirst_1 ad cy B qr s1 a1 w0) (fun u : va_W => wpost dC dI cy (va_A w0 sz) u) (va_A w0 sz)) 0 0 (va_A w0 sz) := by
  refine Met.ofW (cc := cX0_drawFirst) (maxL := 6) (ret := none) (by decide) rfl ?_
  intro p e s m args below meth c s₁ Bk hml hv
  obtain ⟨rfl, ⟨hsz, hP, hK, hD0⟩, hE, hSR⟩ := hv
  have hx := Bk.exec
  have hb := Bk.bytes
  have hr := Bk.returns
  have hlocks := Bk.notSynchronized
  have hC : CallFix p m c cX0_drawFirst 6 s _ (wu yX0_drawFirst cX0_drawFirst 6 none) RX0 := ⟨hx, hb, hml, findClass_of_methodNamed Bk.named, atoms_spec (ws := (wu yX0_drawFirst cX0_drawFirst 6 none)) Bk.pre⟩
  subst hsz
  have hD := hD0.self (sz := s.heap.size)
  generalize hAe : va_A w0 s.heap.size = A at hD hE ⊢
  have hA : ∀ q : Nat, s.heap.size ≤ q → A q := fun q h => by rw [← hAe]; exact Or.inr h
  have hw : Wd dC dI A s.heap s.heap [] w0 := ⟨hP, hD, va_S.rf⟩
  have hF : FE ksC [(43, 0, 1100)] w0 w0 := FE.rf
  have hl := lv_entry ([.ref (ad 145), .int a1]) (n := 6) (Nat.le_of_ble_eq_true rfl)
  rw [lg_entry_eq]
  generalize (lg_sl ([.ref (ad 145), .int a1]) ++ List.replicate (6 - (lg_sl ([.ref (ad 145), .int a1])).length) Slot.unset).toArray = ls at hl ⊢
  have hl : lv_has ls 6 [(0, .ref (ad 145)), (1, .int a1)] := hl
  generalize hloc : ([] : List Loc) = locs at hw ⊢
  have hinX0 : ∀ w ∈ u_ws RX0 TX0 4, w ∈ (wu yX0_drawFirst cX0_drawFirst 6 none) := fun _ h => List.mem_cons_of_mem _ (up_77 h)
  have hinX5 : ∀ w ∈ u_ws RX5 TX5 14, w ∈ (wu yX0_drawFirst cX0_drawFirst 6 none) := fun _ h => List.mem_cons_of_mem _ (up_76 h)
  have hinX7 : ∀ w ∈ u_ws RX7 TX7 12, w ∈ (wu yX0_drawFirst cX0_drawFirst 6 none) := fun _ h => List.mem_cons_of_mem _ (up_73 h)
  have L15 : ∀ (n15 : Nat) (v15_3 : Int32) (f15_39_9 : Int32) (H : Heap) (locs : List Loc) (ls : Array Slot) (w1 : va_W), 0 ≤ a1.toInt → a1.toInt ≤ 3 → (-1) ≤ v15_3.toInt → v15_3.toInt ≤ 11 → 0 ≤ f15_39_9.toInt → f15_39_9.toInt ≤ 12 → (v15_3.toInt - (-1)).toNat < n15 → Wd dC dI A s.heap H locs w1 → TW ksC ad cy B qr s1 w1 → FE ksC [(43, 0, 1100)] w0 w1 → gi w1 39 9 = f15_39_9 → lv_has ls 6 [(0, .ref (ad 145)), (1, .int a1), (2, .ref (ad 39)), (3, .int v15_3)] → W p l e ({ frames := 3, cells := 0, slots := 0, locals := 63 }) s m (List.toArray [.ref (ad 145), .int a1]) below meth c H locs 0 0 (MQ below (va_Qv (P_X0_drawFirst_1 ad cy B qr s1 a1 w0) (fun u : va_W => wpost dC dI cy A u) A) (List.toArray [.ref (ad 145), .int a1]) s 0 0 A) (F0 m 15 ls []) := by
    intro n15
    induction n15 with
    | zero => intro v15_3 f15_39_9 H locs ls w1 r2 t3 r4 t5 r6 t7 hm15 hw hT hF c8 hl; omega
    | succ n15 ih15 =>
      intro v15_3 f15_39_9 H locs ls w1 r2 t3 r4 t5 r6 t7 hm15 hw hT hF c8 hl
      have L30 : ∀ (n30 : Nat) (v30_4 : Int32) (v30_5 : Int32) (H : Heap) (locs : List Loc) (ls : Array Slot) (w9 : va_W), 0 ≤ a1.toInt → a1.toInt ≤ 3 → 0 ≤ v15_3.toInt → v15_3.toInt ≤ 11 → 0 ≤ v30_5.toInt → v30_5.toInt ≤ 2 → 0 ≤ f15_39_9.toInt → f15_39_9.toInt ≤ 12 → (2 - v30_5.toInt).toNat < n30 → Wd dC dI A s.heap H locs w9 → TW ksC ad cy B qr s1 w9 → FE ksC [(43, 0, 1100)] w0 w9 → gi w9 39 9 = f15_39_9 → lv_has ls 6 [(0, .ref (ad 145)), (1, .int a1), (2, .ref (ad 39)), (3, .int v15_3), (4, .int v30_4), (5, .int v30_5)] → W p l e ({ frames := 3, cells := 0, slots := 0, locals := 63 }) s m (List.toArray [.ref (ad 145), .int a1]) below meth c H locs 0 0 (MQ below (va_Qv (P_X0_drawFirst_1 ad cy B qr s1 a1 w0) (fun u : va_W => wpost dC dI cy A u) A) (List.toArray [.ref (ad 145), .int a1]) s 0 0 A) (F0 m 30 ls []) := by
        intro n30
        induction n30 with
        | zero => intro v30_4 v30_5 H locs ls w9 r10 t11 r12 t13 r14 t15 r16 t17 hm30 hw hT hF c18 hl; omega
        | succ n30 ih30 =>
          intro v30_4 v30_5 H locs ls w9 r10 t11 r12 t13 r14 t15 r16 t17 hm30 hw hT hF c18 hl
          have J54 : ∀ (H : Heap) (locs : List Loc) (ls : Array Slot) (w19 : va_W), 0 ≤ a1.toInt → a1.toInt ≤ 3 → 0 ≤ v15_3.toInt → v15_3.toInt ≤ 11 → 0 ≤ v30_5.toInt → v30_5.toInt ≤ 1 → 0 ≤ f15_39_9.toInt → f15_39_9.toInt ≤ 12 → Wd dC dI A s.heap H locs w19 → TW ksC ad cy B qr s1 w19 → FE ksC [(43, 0, 1100)] w0 w19 → gi w19 39 9 = f15_39_9 → lv_has ls 6 [(0, .ref (ad 145)), (1, .int a1), (2, .ref (ad 39)), (3, .int v15_3), (4, .int v30_4), (5, .int v30_5)] → W p l e ({ frames := 3, cells := 0, slots := 0, locals := 63 }) s m (List.toArray [.ref (ad 145), .int a1]) below meth c H locs 0 0 (MQ below (va_Qv (P_X0_drawFirst_1 ad cy B qr s1 a1 w0) (fun u : va_W => wpost dC dI cy A u) A) (List.toArray [.ref (ad 145), .int a1]) s 0 0 A) (F0 m 54 ls []) := by
            intro H locs ls w19 r20 t21 r22 t23 r24 t25 r26 t27 hw hT hF c28 hl
            obtain ⟨x29, ex29⟩ : ∃ y : Int32, y = v30_5 + Int32.ofInt 1 := ⟨_, rfl⟩
            refine lv_iinc (v := x29) (lv' := [(5, .int x29), (0, .ref (ad 145)), (1, .int a1), (2, .ref (ad 39)), (3, .int v15_3), (4, .int v30_4)]) hx hb dX0_drawFirst_54 hl (k := 5) rfl ex29.symm (by decide) rfl (fun ls hl => ?_)
            have ex29 : x29.toInt = v30_5.toInt + 1 := by rw [ex29]; exact wk_add (y := 1) (show -2147483648 ≤ v30_5.toInt + 1 by omega) (show v30_5.toInt + 1 ≤ 2147483647 by omega)
            refine lv_goto (tgt := 30) hx hb dX0_drawFirst_57 (by decide) ?_
            exact ih30 v30_4 x29 H locs ls w19 (show 0 ≤ a1.toInt from r20) (show a1.toInt ≤ 3 from t21) (show 0 ≤ v15_3.toInt from r22) (show v15_3.toInt ≤ 11 from t23) (show 0 ≤ x29.toInt by first | with_reducible assumption | omega) (show x29.toInt ≤ 2 by first | with_reducible assumption | omega) (show 0 ≤ f15_39_9.toInt from r26) (show f15_39_9.toInt ≤ 12 from t27) (show (2 - x29.toInt).toNat < n30 by first | exact tn_lt hm30 (by omega) (by omega) | omega) hw hT hF c28 (lv_sub hl [1, 2, 3, 4, 5, 0] rfl)
          refine lv_iload hx hb dX0_drawFirst_30 (lv_at hl 5 rfl) ?_
          refine lv_iconst (v := 2) hx hb dX0_drawFirst_32 (by decide) ?_
          refine lv_icmp_ge (tgt := 60) hx hb dX0_drawFirst_33 (by decide) (fun c30 => ?_) (fun c30 => ?_)
          · have c30 : (2 : Int) ≤ v30_5.toInt := wk_le.mp c30
            obtain ⟨x31, ex31⟩ : ∃ y : Int32, y = v15_3 + Int32.ofInt (-1) := ⟨_, rfl⟩
            refine lv_iinc (v := x31) (lv' := [(3, .int x31), (0, .ref (ad 145)), (1, .int a1), (2, .ref (ad 39)), (4, .int v30_4), (5, .int v30_5)]) hx hb dX0_drawFirst_60 hl (k := 3) rfl ex31.symm (by decide) rfl (fun ls hl => ?_)
            have ex31 : x31.toInt = v15_3.toInt + (-1) := by rw [ex31]; exact wk_add (y := (-1)) (show -2147483648 ≤ v15_3.toInt + (-1) by omega) (show v15_3.toInt + (-1) ≤ 2147483647 by omega)
            refine lv_goto (tgt := 15) hx hb dX0_drawFirst_63 (by decide) ?_
            exact ih15 x31 f15_39_9 H locs ls w9 (show 0 ≤ a1.toInt from r10) (show a1.toInt ≤ 3 from t11) (show (-1) ≤ x31.toInt by first | with_reducible assumption | omega) (show x31.toInt ≤ 11 by first | with_reducible assumption | omega) (show 0 ≤ f15_39_9.toInt from r16) (show f15_39_9.toInt ≤ 12 from t17) (show (x31.toInt - (-1)).toNat < n15 by first | exact tn_lt hm15 (by omega) (by omega) | omega) hw hT hF c18 (lv_sub hl [1, 2, 3, 0] rfl)
          · have c30 : v30_5.toInt < (2 : Int) := wk_leF c30
            refine lv_iload hx hb dX0_drawFirst_36 (lv_at hl 4 rfl) ?_
            refine lv_iload hx hb dX0_drawFirst_38 (lv_at hl 5 rfl) ?_
            refine lv_ishr hx hb dX0_drawFirst_40 ?_
            refine lv_topi (fun x32 ex32 => ?_)
            refine lv_iconst (v := 1) hx hb dX0_drawFirst_41 (by decide) ?_
            refine lv_iand hx hb dX0_drawFirst_42 ?_
            refine lv_topi (fun x33 ex33 => ?_)
            have bx33 : 0 ≤ x33.toInt ∧ x33.toInt ≤ (1 : Int) := by rw [ex33]; exact wk_and (by decide)
            refine lv_if_eq (tgt := 54) hx hb dX0_drawFirst_43 (by decide) (fun c34 => ?_) (fun c34 => ?_)
            · have c34 : x33.toInt = (0 : Int) := wk_eq.mp c34
              exact J54  H locs ls w9 (show 0 ≤ a1.toInt from r10) (show a1.toInt ≤ 3 from t11) (show 0 ≤ v15_3.toInt from r12) (show v15_3.toInt ≤ 11 from t13) (show 0 ≤ v30_5.toInt from r14) (show v30_5.toInt ≤ 1 by first | with_reducible assumption | omega) (show 0 ≤ f15_39_9.toInt from r16) (show f15_39_9.toInt ≤ 12 from t17)  hw hT hF c18 (lv_sub hl [0, 1, 2, 3, 4, 5] rfl)
            · have c34 : ¬ x33.toInt = (0 : Int) := wk_eqF c34
              refine lv_aload_n hx hb dX0_drawFirst_46 rfl (lv_at hl 0 rfl) ?_
              refine lv_iload_n hx hb dX0_drawFirst_47 rfl (lv_at hl 1 rfl) ?_
              refine lv_iload_n hx hb dX0_drawFirst_48 rfl (lv_at hl 3 rfl) ?_
              refine lv_iload hx hb dX0_drawFirst_49 (lv_at hl 5 rfl) ?_
              refine tk_Vv hC hK hw hT hA hE hSR kC_at145 (by decide) rfl (k_X0_drawFirstBy_1 l adK adV dC dI cy ad B hB0 (Int.le_trans hB1 (by decide)) qr s1   a1 (show 0 ≤ a1.toInt from r10) (show a1.toInt ≤ 3 from t11) v15_3 (show 0 ≤ v15_3.toInt from r12) (show v15_3.toInt ≤ 11 from t13) v30_5 (show 0 ≤ v30_5.toInt from r14) (show v30_5.toInt ≤ 1 by first | with_reducible assumption | omega) w9 H.size hT ) (cwV 3 hC.2.2.2.2 uV_RX0_78 rfl rfl rfl (by decide +kernel) ⟨Nat.le_of_ble_eq_true rfl, Nat.le_of_ble_eq_true rfl⟩) rfl hl.1 rfl (Nat.le_of_ble_eq_true rfl) dX0_drawFirst_51 (fun w37 H locs hp36 hw => ?_)
              obtain ⟨hT, k38, hg39⟩ := hp36
              have hF := hF.tr k38 (by decide)
              have c40 := k38.gi kC_at39 (by decide) c18
              clear hg39
              exact J54  H locs ls w37 (show 0 ≤ a1.toInt from r10) (show a1.toInt ≤ 3 from t11) (show 0 ≤ v15_3.toInt from r12) (show v15_3.toInt ≤ 11 from t13) (show 0 ≤ v30_5.toInt from r14) (show v30_5.toInt ≤ 1 by first | with_reducible assumption | omega) (show 0 ≤ f15_39_9.toInt from r16) (show f15_39_9.toInt ≤ 12 from t17)  hw hT hF c40 (lv_sub hl [0, 1, 2, 3, 4, 5] rfl)
      refine lv_iload_n hx hb dX0_drawFirst_15 rfl (lv_at hl 3 rfl) ?_
      refine lv_if_lt (tgt := 66) hx hb dX0_drawFirst_16 (by decide) (fun c41 => ?_) (fun c41 => ?_)
      · have c41 : v15_3.toInt < (0 : Int) := wk_lt.mp c41
        exact tk_vret hC hr hlocks hK ⟨hT, hF, trivial⟩ hw dX0_drawFirst_66
      · have c41 : (0 : Int) ≤ v15_3.toInt := wk_ltF c41
        refine lv_aload_n hx hb dX0_drawFirst_19 rfl (lv_at hl 0 rfl) ?_
        refine lv_iload_n hx hb dX0_drawFirst_20 rfl (lv_at hl 1 rfl) ?_
        refine lv_iload_n hx hb dX0_drawFirst_21 rfl (lv_at hl 3 rfl) ?_
        refine tk_Vi hC hK hw hT hA hE hSR kC_at145 (by decide) rfl (k_X0_signOf_1 l adK adV dC dI cy ad B hB0 (Int.le_trans hB1 (by decide)) qr s1   a1 (show 0 ≤ a1.toInt from r2) (show a1.toInt ≤ 3 from t3) v15_3 (show 0 ≤ v15_3.toInt from c41) (show v15_3.toInt ≤ 11 from t5) w1 H.size hT ) (cwV 2 hC.2.2.2.2 uV_RX0_68 rfl rfl rfl (by decide +kernel) ⟨Nat.le_of_ble_eq_true rfl, Nat.le_of_ble_eq_true rfl⟩) rfl hl.1 rfl (Nat.le_of_ble_eq_true rfl) dX0_drawFirst_22 (fun r42 w44 H locs hp43 hw => ?_)
        obtain ⟨hT, k45, hg46⟩ := hp43
        have hF := hF.tr k45 (by decide)
        have c47 := k45.gi kC_at39 (by decide) c8
        clear hg46
        refine lv_istore (lv' := [(4, .int r42), (0, .ref (ad 145)), (1, .int a1), (2, .ref (ad 39)), (3, .int v15_3)]) hx hb dX0_drawFirst_25 hl (by decide) rfl (fun ls hl => ?_)
        refine lv_iconst (v := 0) hx hb dX0_drawFirst_27 (by decide) ?_
        refine lv_istore (lv' := [(5, .int 0), (4, .int r42), (0, .ref (ad 145)), (1, .int a1), (2, .ref (ad 39)), (3, .int v15_3)]) hx hb dX0_drawFirst_28 hl (by decide) rfl (fun ls hl => ?_)
        exact L30 ((2 - (0 : Int)).toNat + 1) r42 0 H locs ls w44 (show 0 ≤ a1.toInt from r2) (show a1.toInt ≤ 3 from t3) (show 0 ≤ v15_3.toInt from c41) (show v15_3.toInt ≤ 11 from t5) (by decide) (by decide) (show 0 ≤ f15_39_9.toInt from r6) (show f15_39_9.toInt ≤ 12 from t7) (Nat.lt_succ_self _) hw hT hF c47 (lv_sub hl [2, 3, 4, 5, 1, 0] rfl)
  refine lv_aload_n hx hb dX0_drawFirst_0 rfl (lv_at hl 0 rfl) ?_
  refine tk_getA hC hK hw hT hinX0 kC_at145 (by decide) rfl 0 (by decide) (List.mem_cons_of_mem _ uw_4_17) rfl rfl dX0_drawFirst_1 ?_
  refine tk_getO hC hK hw hT hinX5 kC_at38 (by decide) rfl 0 (by decide) (List.mem_cons_of_mem _ uw_36_9) rfl rfl dX0_drawFirst_4 ?_
  refine lv_astore_n (lv' := [(2, .ref (ad 39)), (0, .ref (ad 145)), (1, .int a1)]) hx hb dX0_drawFirst_7 rfl hl (by decide) rfl (fun ls hl => ?_)
  refine lv_aload_n hx hb dX0_drawFirst_8 rfl (lv_at hl 0 rfl) ?_
  refine tk_geti hC hK hw hT hinX7 kC_at39 (by decide) rfl 9 (by decide) (List.mem_cons_of_mem _ uw_36_10) rfl rfl dX0_drawFirst_9 (fun x48 c49 rx48 tx48 => ?_)
  refine lv_iconst (v := 1) hx hb dX0_drawFirst_12 (by decide) ?_
  refine lv_isub hx hb dX0_drawFirst_13 ?_
  refine lv_topi (fun x50 ex50 => ?_)
  have ex50 : x50.toInt = x48.toInt - (1 : Int) := by rw [ex50]; exact wk_sub (show (-2147483648) ≤ x48.toInt - (1 : Int) by omega) (show x48.toInt - (1 : Int) ≤ 2147483647 by omega)
  refine lv_istore_n (lv' := [(3, .int x50), (2, .ref (ad 39)), (0, .ref (ad 145)), (1, .int a1)]) hx hb dX0_drawFirst_14 rfl hl (by decide) rfl (fun ls hl => ?_)
  exact L15 ((x50.toInt - (-1)).toNat + 1) x50 x48 s.heap locs ls w0 (show 0 ≤ a1.toInt from ra1) (show a1.toInt ≤ 3 from ta1) (show (-1) ≤ x50.toInt by first | with_reducible assumption | omega) (show x50.toInt ≤ 11 by first | with_reducible assumption | omega) (show 0 ≤ x48.toInt from rx48) (show x48.toInt ≤ 12 from tx48) (Nat.lt_succ_self _) hw hT hF c49 (lv_sub hl [2, 3, 1, 0] rfl)
abbrev P_X0_refresh_1 (ad : Nat → Nat) (cy : Nat → ClassId) (B : Int) (qr : Nat) (s1 : Int) (a1 : Int32) (w0 : va_W) : va_W → Prop := fun u => TW ksC ad cy B qr s1 u ∧ FE ksC [(42, 0, 1100), (43, 0, 1100), (44, 0, 11)] w0 u ∧ ((True))
set_option maxHeartbeats 4000000 in
set_option maxRecDepth 100000 in
theorem k_X0_refresh_1 (l : Launch) (adK adV : Nat → Nat) (dC : Nat → ClassId) (dI : Nat → Nat → Nat) (cy : Nat → ClassId) (ad : Nat → Nat) (B : Int) (hB0 : 2147483648 ≤ B) (hB1 : B ≤ 1152921504606846976) (qr : Nat) (s1 : Int)  (a1 : Int32) (ra1 : 0 ≤ a1.toInt) (ta1 : a1.toInt ≤ 3) (w0 : va_W) (sz : Nat) (hT : TW ksC ad cy B qr s1 w0)  : Met l yX0_refresh (wu yX0_refresh cX0_refresh 2 none) ({ frames := 4, cells := 0, slots := 0, locals := 88 }) (va_Pc [.ref (ad 145), .int a1] (wpreS adK adV dC dI cy sz w0)) (va_Qv (P_X0_refresh_1 ad cy B qr s1 a1 w0) (fun u : va_W => wpost dC dI cy (va_A w0 sz) u) (va_A w0 sz)) 0 0 (va_A w0 sz) := by
  refine Met.ofW (cc := cX0_refresh) (maxL := 2) (ret := none) (by decide) rfl ?_
  intro p e s m args below meth c s₁ Bk hml hv
  obtain ⟨rfl, ⟨hsz, hP, hK, hD0⟩, hE, hSR⟩ := hv
  have hx := Bk.exec
  have hb := Bk.bytes
  have hr := Bk.returns
  have hlocks := Bk.notSynchronized
  have hC : CallFix p m c cX0_refresh 2 s _ (wu yX0_refresh cX0_refresh 2 none) RX0 := ⟨hx, hb, hml, findClass_of_methodNamed Bk.named, atoms_spec (ws := (wu yX0_refresh cX0_refresh 2 none)) Bk.pre⟩
  subst hsz
  have hD := hD0.self (sz := s.heap.size)
  generalize hAe : va_A w0 s.heap.size = A at hD hE ⊢
  have hA : ∀ q : Nat, s.heap.size ≤ q → A q := fun q h => by rw [← hAe]; exact Or.inr h
  have hw : Wd dC dI A s.heap s.heap [] w0 := ⟨hP, hD, va_S.rf⟩
  have hF : FE ksC [(42, 0, 1100), (43, 0, 1100), (44, 0, 11)] w0 w0 := FE.rf
  have hl := lv_entry ([.ref (ad 145), .int a1]) (n := 2) (Nat.le_of_ble_eq_true rfl)
  rw [lg_entry_eq]
  generalize (lg_sl ([.ref (ad 145), .int a1]) ++ List.replicate (2 - (lg_sl ([.ref (ad 145), .int a1])).length) Slot.unset).toArray = ls at hl ⊢
  have hl : lv_has ls 2 [(0, .ref (ad 145)), (1, .int a1)] := hl
  generalize hloc : ([] : List Loc) = locs at hw ⊢
  have hinX0 : ∀ w ∈ u_ws RX0 TX0 4, w ∈ (wu yX0_refresh cX0_refresh 2 none) := fun _ h => List.mem_cons_of_mem _ (up_77 h)
  have J31 : ∀ (H : Heap) (locs : List Loc) (ls : Array Slot) (w1 : va_W), 0 ≤ a1.toInt → a1.toInt ≤ 3 → Wd dC dI A s.heap H locs w1 → TW ksC ad cy B qr s1 w1 → FE ksC [(42, 0, 1100), (43, 0, 1100), (44, 0, 11)] w0 w1 → lv_has ls 2 [(0, .ref (ad 145)), (1, .int a1)] → W p l e ({ frames := 4, cells := 0, slots := 0, locals := 88 }) s m (List.toArray [.ref (ad 145), .int a1]) below meth c H locs 0 0 (MQ below (va_Qv (P_X0_refresh_1 ad cy B qr s1 a1 w0) (fun u : va_W => wpost dC dI cy A u) A) (List.toArray [.ref (ad 145), .int a1]) s 0 0 A) (F0 m 31 ls []) := by
    intro H locs ls w1 r2 t3 hw hT hF hl
    exact tk_vret hC hr hlocks hK ⟨hT, hF, trivial⟩ hw dX0_refresh_31
  refine lv_aload_n hx hb dX0_refresh_0 rfl (lv_at hl 0 rfl) ?_
  refine tk_getA hC hK hw hT hinX0 kC_at145 (by decide) rfl 3 (by decide) (List.mem_cons_of_mem _ uw_4_16) rfl rfl dX0_refresh_1 ?_
  refine lv_iload_n hx hb dX0_refresh_4 rfl (lv_at hl 1 rfl) ?_
  refine tk_zald hC hK hw hT kC_at148 rfl rfl (show 0 ≤ a1.toInt from ra1) (show a1.toInt < 11 from Int.lt_of_le_of_lt ta1 (by decide)) dX0_refresh_5 (fun x4 c5 rx4 tx4 => ?_)
  refine lv_if_ne (tgt := 31) hx hb dX0_refresh_6 (by decide) (fun c6 => ?_) (fun c6 => ?_)
  · have c6 : ¬ x4.toInt = (0 : Int) := wk_eqF c6
    exact J31  s.heap locs ls w0 (show 0 ≤ a1.toInt from ra1) (show a1.toInt ≤ 3 from ta1)  hw hT hF  (lv_sub hl [0, 1] rfl)
  · have c6 : x4.toInt = (0 : Int) := wk_eq.mp c6
    refine lv_aload_n hx hb dX0_refresh_9 rfl (lv_at hl 0 rfl) ?_
    refine lv_iload_n hx hb dX0_refresh_10 rfl (lv_at hl 1 rfl) ?_
    refine tk_Vv hC hK hw hT hA hE hSR kC_at145 (by decide) rfl (k_X0_drawStreets_1 l adK adV dC dI cy ad B hB0 (Int.le_trans hB1 (by decide)) qr s1   a1 (show 0 ≤ a1.toInt from ra1) (show a1.toInt ≤ 3 from ta1) w0 s.heap.size hT ) (cwV 1 hC.2.2.2.2 uV_RX0_38 rfl rfl rfl (by decide +kernel) ⟨Nat.le_of_ble_eq_true rfl, Nat.le_of_ble_eq_true rfl⟩) rfl hl.1 rfl (Nat.le_of_ble_eq_true rfl) dX0_refresh_11 (fun w9 H locs hp8 hw => ?_)
    obtain ⟨hT, k10, hg11⟩ := hp8
    have hF := hF.tr k10 (by decide)
    clear hg11
    refine lv_aload_n hx hb dX0_refresh_14 rfl (lv_at hl 0 rfl) ?_
    refine lv_iload_n hx hb dX0_refresh_15 rfl (lv_at hl 1 rfl) ?_
    refine tk_Vv hC hK hw hT hA hE hSR kC_at145 (by decide) rfl (k_X0_drawHours_1 l adK adV dC dI cy ad B hB0 (Int.le_trans hB1 (by decide)) qr s1   a1 (show 0 ≤ a1.toInt from ra1) (show a1.toInt ≤ 3 from ta1) w9 H.size hT ) (cwV 1 hC.2.2.2.2 uV_RX0_41 rfl rfl rfl (by decide +kernel) ⟨Nat.le_of_ble_eq_true rfl, Nat.le_of_ble_eq_true rfl⟩) rfl hl.1 rfl (Nat.le_of_ble_eq_true rfl) dX0_refresh_16 (fun w14 H locs hp13 hw => ?_)
    obtain ⟨hT, k15, hg16⟩ := hp13
    have hF := hF.tr k15 (by decide)
    clear hg16
    refine lv_aload_n hx hb dX0_refresh_19 rfl (lv_at hl 0 rfl) ?_
    refine lv_iload_n hx hb dX0_refresh_20 rfl (lv_at hl 1 rfl) ?_
    refine tk_Vv hC hK hw hT hA hE hSR kC_at145 (by decide) rfl (k_X0_drawFirst_1 l adK adV dC dI cy ad B hB0 (Int.le_trans hB1 (by decide)) qr s1   a1 (show 0 ≤ a1.toInt from ra1) (show a1.toInt ≤ 3 from ta1) w14 H.size hT ) (cwV 1 hC.2.2.2.2 uV_RX0_44 rfl rfl rfl (by decide +kernel) ⟨Nat.le_of_ble_eq_true rfl, Nat.le_of_ble_eq_true rfl⟩) rfl hl.1 rfl (Nat.le_of_ble_eq_true rfl) dX0_refresh_21 (fun w19 H locs hp18 hw => ?_)
    obtain ⟨hT, k20, hg21⟩ := hp18
    have hF := hF.tr k20 (by decide)
    clear hg21
    refine lv_aload_n hx hb dX0_refresh_24 rfl (lv_at hl 0 rfl) ?_
    refine tk_getA hC hK hw hT hinX0 kC_at145 (by decide) rfl 3 (by decide) (List.mem_cons_of_mem _ uw_4_16) rfl rfl dX0_refresh_25 ?_
    refine lv_iload_n hx hb dX0_refresh_28 rfl (lv_at hl 1 rfl) ?_
    refine lv_iconst (v := 1) hx hb dX0_refresh_29 (by decide) ?_
    refine tk_zast hC hK hw hT kC_at148 (by decide) rfl rfl (show 0 ≤ a1.toInt from ra1) (show a1.toInt < 11 from Int.lt_of_le_of_lt ta1 (by decide)) (by decide) (by decide) dX0_refresh_30 (fun H locs w22 hw hT k24 c23 => ?_)
    have hF := hF.put kC_at148 (inE_of (a := 0) (b := 11) (by decide) (show 0 ≤ a1.toInt.toNat by omega) (show a1.toInt.toNat ≤ 11 by omega)) k24
    exact J31  H locs ls w22 (show 0 ≤ a1.toInt from ra1) (show a1.toInt ≤ 3 from ta1)  hw hT hF  (lv_sub hl [0, 1] rfl)
abbrev P_X0_streetBy_1 (ad : Nat → Nat) (cy : Nat → ClassId) (B : Int) (qr : Nat) (s1 : Int) (a1 : Int32) (a2 : Int32) (a3 : Int32) (w0 : va_W) : Int32 → va_W → Prop := fun r u => TW ksC ad cy B qr s1 u ∧ FE ksC ([] : List (Nat × Nat × Nat)) w0 u ∧ (((-1) ≤ r.toInt ∧ r.toInt ≤ 11))
set_option maxHeartbeats 4000000 in
set_option maxRecDepth 100000 in
theorem k_X0_streetBy_1 (l : Launch) (adK adV : Nat → Nat) (dC : Nat → ClassId) (dI : Nat → Nat → Nat) (cy : Nat → ClassId) (ad : Nat → Nat) (B : Int) (hB0 : 2147483648 ≤ B) (hB1 : B ≤ 1152921504606846976) (qr : Nat) (s1 : Int)  (a1 : Int32) (ra1 : 0 ≤ a1.toInt) (ta1 : a1.toInt ≤ 3) (a2 : Int32) (ra2 : 0 ≤ a2.toInt) (ta2 : a2.toInt ≤ 9) (a3 : Int32) (ra3 : 0 ≤ a3.toInt) (ta3 : a3.toInt ≤ 9) (w0 : va_W) (sz : Nat) (hT : TW ksC ad cy B qr s1 w0)  : Met l yX0_streetBy (wu yX0_streetBy cX0_streetBy 4 (some .int)) ({ frames := 2, cells := 0, slots := 0, locals := 34 }) (va_Pc [.ref (ad 145), .int a1, .int a2, .int a3] (wpreS adK adV dC dI cy sz w0)) (va_Qi (P_X0_streetBy_1 ad cy B qr s1 a1 a2 a3 w0) (fun u : va_W => wpost dC dI cy (va_A w0 sz) u) (va_A w0 sz)) 0 0 (va_A w0 sz) := by
  refine Met.ofW (cc := cX0_streetBy) (maxL := 4) (ret := (some .int)) (by decide) rfl ?_
  intro p e s m args below meth c s₁ Bk hml hv
  obtain ⟨rfl, ⟨hsz, hP, hK, hD0⟩, hE, hSR⟩ := hv
  have hx := Bk.exec
  have hb := Bk.bytes
  have hr := Bk.returns
  have hlocks := Bk.notSynchronized
  have hC : CallFix p m c cX0_streetBy 4 s _ (wu yX0_streetBy cX0_streetBy 4 (some .int)) RX0 := ⟨hx, hb, hml, findClass_of_methodNamed Bk.named, atoms_spec (ws := (wu yX0_streetBy cX0_streetBy 4 (some .int))) Bk.pre⟩
  subst hsz
  have hD := hD0.self (sz := s.heap.size)
  generalize hAe : va_A w0 s.heap.size = A at hD hE ⊢
  have hA : ∀ q : Nat, s.heap.size ≤ q → A q := fun q h => by rw [← hAe]; exact Or.inr h
  have hw : Wd dC dI A s.heap s.heap [] w0 := ⟨hP, hD, va_S.rf⟩
  have hF : FE ksC ([] : List (Nat × Nat × Nat)) w0 w0 := FE.rf
  have hl := lv_entry ([.ref (ad 145), .int a1, .int a2, .int a3]) (n := 4) (Nat.le_of_ble_eq_true rfl)
  rw [lg_entry_eq]
  generalize (lg_sl ([.ref (ad 145), .int a1, .int a2, .int a3]) ++ List.replicate (4 - (lg_sl ([.ref (ad 145), .int a1, .int a2, .int a3])).length) Slot.unset).toArray = ls at hl ⊢
  have hl : lv_has ls 4 [(0, .ref (ad 145)), (1, .int a1), (2, .int a2), (3, .int a3)] := hl
  generalize hloc : ([] : List Loc) = locs at hw ⊢
  have hinX0 : ∀ w ∈ u_ws RX0 TX0 4, w ∈ (wu yX0_streetBy cX0_streetBy 4 (some .int)) := fun _ h => List.mem_cons_of_mem _ (up_77 h)
  refine lv_aload_n hx hb dX0_streetBy_0 rfl (lv_at hl 0 rfl) ?_
  refine tk_getA hC hK hw hT hinX0 kC_at145 (by decide) rfl 2 (by decide) (List.mem_cons_of_mem _ uw_4_15) rfl rfl dX0_streetBy_1 ?_
  refine lv_iload_n hx hb dX0_streetBy_4 rfl (lv_at hl 1 rfl) ?_
  refine lv_iload_n hx hb dX0_streetBy_5 rfl (lv_at hl 2 rfl) ?_
  refine lv_iload_n hx hb dX0_streetBy_6 rfl (lv_at hl 3 rfl) ?_
  refine tk_Si hC hK hw hT hA hE hSR (k_X0_spot_1 l adK adV dC dI cy ad B hB0 (Int.le_trans hB1 (by decide)) qr s1   a1 (show 0 ≤ a1.toInt from ra1) (show a1.toInt ≤ 3 from ta1) a2 (show 0 ≤ a2.toInt from ra2) (show a2.toInt ≤ 9 from ta2) a3 (show 0 ≤ a3.toInt from ra3) (show a3.toInt ≤ 9 from ta3) w0 s.heap.size hT ) (va_cwS 3 hC.2.2.2.2 uS_RX0_47 rfl rfl rfl (by decide +kernel) ⟨Nat.le_of_ble_eq_true rfl, Nat.le_of_ble_eq_true rfl⟩) rfl hl.1 rfl (Nat.le_of_ble_eq_true rfl) dX0_streetBy_7 (fun r1 w3 H locs hp2 hw => ?_)
  obtain ⟨hT, k4, hg7⟩ := hp2
  have hF := hF.tr k4 (by decide)
  obtain ⟨g5, g6⟩ := hg7
  refine tk_iald hC hK hw hT kC_at147 rfl rfl (show 0 ≤ r1.toInt by first | with_reducible assumption | omega) (show r1.toInt < 1100 by first | with_reducible assumption | omega) dX0_streetBy_10 (fun x8 c9 rx8 tx8 => ?_)
  exact tk_iret hC hr hlocks hK ⟨hT, hF, ⟨(show (-1) ≤ x8.toInt from rx8), (show x8.toInt ≤ 11 from tx8)⟩⟩ hw dX0_streetBy_11
abbrev P_X0_hoursBy_1 (ad : Nat → Nat) (cy : Nat → ClassId) (B : Int) (qr : Nat) (s1 : Int) (a1 : Int32) (a2 : Int32) (a3 : Int32) (w0 : va_W) : Int32 → va_W → Prop := fun r u => TW ksC ad cy B qr s1 u ∧ FE ksC ([] : List (Nat × Nat × Nat)) w0 u ∧ ((0 ≤ r.toInt ∧ r.toInt ≤ 999999) ∨ (r = (-1)))
set_option maxHeartbeats 4000000 in
set_option maxRecDepth 100000 in
theorem k_X0_hoursBy_1 (l : Launch) (adK adV : Nat → Nat) (dC : Nat → ClassId) (dI : Nat → Nat → Nat) (cy : Nat → ClassId) (ad : Nat → Nat) (B : Int) (hB0 : 2147483648 ≤ B) (hB1 : B ≤ 1152921504606846976) (qr : Nat) (s1 : Int)  (a1 : Int32) (ra1 : 0 ≤ a1.toInt) (ta1 : a1.toInt ≤ 3) (a2 : Int32) (ra2 : 0 ≤ a2.toInt) (ta2 : a2.toInt ≤ 9) (a3 : Int32) (ra3 : 0 ≤ a3.toInt) (ta3 : a3.toInt ≤ 9) (w0 : va_W) (sz : Nat) (hT : TW ksC ad cy B qr s1 w0)  : Met l yX0_hoursBy (wu yX0_hoursBy cX0_hoursBy 5 (some .int)) ({ frames := 2, cells := 0, slots := 0, locals := 34 }) (va_Pc [.ref (ad 145), .int a1, .int a2, .int a3] (wpreS adK adV dC dI cy sz w0)) (va_Qi (P_X0_hoursBy_1 ad cy B qr s1 a1 a2 a3 w0) (fun u : va_W => wpost dC dI cy (va_A w0 sz) u) (va_A w0 sz)) 0 0 (va_A w0 sz) := by
  refine Met.ofW (cc := cX0_hoursBy) (maxL := 5) (ret := (some .int)) (by decide) rfl ?_
  intro p e s m args below meth c s₁ Bk hml hv
  obtain ⟨rfl, ⟨hsz, hP, hK, hD0⟩, hE, hSR⟩ := hv
  have hx := Bk.exec
  have hb := Bk.bytes
  have hr := Bk.returns
  have hlocks := Bk.notSynchronized
  have hC : CallFix p m c cX0_hoursBy 5 s _ (wu yX0_hoursBy cX0_hoursBy 5 (some .int)) RX0 := ⟨hx, hb, hml, findClass_of_methodNamed Bk.named, atoms_spec (ws := (wu yX0_hoursBy cX0_hoursBy 5 (some .int))) Bk.pre⟩
  subst hsz
  have hD := hD0.self (sz := s.heap.size)
  generalize hAe : va_A w0 s.heap.size = A at hD hE ⊢
  have hA : ∀ q : Nat, s.heap.size ≤ q → A q := fun q h => by rw [← hAe]; exact Or.inr h
  have hw : Wd dC dI A s.heap s.heap [] w0 := ⟨hP, hD, va_S.rf⟩
  have hF : FE ksC ([] : List (Nat × Nat × Nat)) w0 w0 := FE.rf
  have hl := lv_entry ([.ref (ad 145), .int a1, .int a2, .int a3]) (n := 5) (Nat.le_of_ble_eq_true rfl)
  rw [lg_entry_eq]
  generalize (lg_sl ([.ref (ad 145), .int a1, .int a2, .int a3]) ++ List.replicate (5 - (lg_sl ([.ref (ad 145), .int a1, .int a2, .int a3])).length) Slot.unset).toArray = ls at hl ⊢
  have hl : lv_has ls 5 [(0, .ref (ad 145)), (1, .int a1), (2, .int a2), (3, .int a3)] := hl
  generalize hloc : ([] : List Loc) = locs at hw ⊢
  have hinX0 : ∀ w ∈ u_ws RX0 TX0 4, w ∈ (wu yX0_hoursBy cX0_hoursBy 5 (some .int)) := fun _ h => List.mem_cons_of_mem _ (up_77 h)
  refine lv_aload_n hx hb dX0_hoursBy_0 rfl (lv_at hl 0 rfl) ?_
  refine tk_getA hC hK hw hT hinX0 kC_at145 (by decide) rfl 1 (by decide) (List.mem_cons_of_mem _ uw_4_14) rfl rfl dX0_hoursBy_1 ?_
  refine lv_iload_n hx hb dX0_hoursBy_4 rfl (lv_at hl 1 rfl) ?_
  refine lv_iload_n hx hb dX0_hoursBy_5 rfl (lv_at hl 2 rfl) ?_
  refine lv_iload_n hx hb dX0_hoursBy_6 rfl (lv_at hl 3 rfl) ?_
  refine tk_Si hC hK hw hT hA hE hSR (k_X0_spot_1 l adK adV dC dI cy ad B hB0 (Int.le_trans hB1 (by decide)) qr s1   a1 (show 0 ≤ a1.toInt from ra1) (show a1.toInt ≤ 3 from ta1) a2 (show 0 ≤ a2.toInt from ra2) (show a2.toInt ≤ 9 from ta2) a3 (show 0 ≤ a3.toInt from ra3) (show a3.toInt ≤ 9 from ta3) w0 s.heap.size hT ) (va_cwS 3 hC.2.2.2.2 uS_RX0_47 rfl rfl rfl (by decide +kernel) ⟨Nat.le_of_ble_eq_true rfl, Nat.le_of_ble_eq_true rfl⟩) rfl hl.1 rfl (Nat.le_of_ble_eq_true rfl) dX0_hoursBy_7 (fun r1 w3 H locs hp2 hw => ?_)
  obtain ⟨hT, k4, hg7⟩ := hp2
  have hF := hF.tr k4 (by decide)
  obtain ⟨g5, g6⟩ := hg7
  refine tk_iald hC hK hw hT kC_at146 rfl rfl (show 0 ≤ r1.toInt by first | with_reducible assumption | omega) (show r1.toInt < 1100 by first | with_reducible assumption | omega) dX0_hoursBy_10 (fun x8 c9 rx8 tx8 => ?_)
  refine lv_istore (lv' := [(4, .int x8), (0, .ref (ad 145)), (1, .int a1), (2, .int a2), (3, .int a3)]) hx hb dX0_hoursBy_11 hl (by decide) rfl (fun ls hl => ?_)
  refine lv_iload hx hb dX0_hoursBy_13 (lv_at hl 0 rfl) ?_
  refine lv_ldc (v := 1000000) hx hb hC.2.2.2.1 (hC.2.2.2.2 _ (List.mem_cons_of_mem _ uw_36_8)) dX0_hoursBy_15 ?_
  refine lv_icmp_lt (tgt := 24) hx hb dX0_hoursBy_17 (by decide) (fun c10 => ?_) (fun c10 => ?_)
  · have c10 : x8.toInt < (1000000 : Int) := wk_lt.mp c10
    refine lv_iload hx hb dX0_hoursBy_24 (lv_at hl 0 rfl) ?_
    exact tk_iret hC hr hlocks hK ⟨hT, hF, (Or.inl ⟨(show 0 ≤ x8.toInt from rx8), (show x8.toInt ≤ 999999 by first | with_reducible assumption | omega)⟩)⟩ hw dX0_hoursBy_26
  · have c10 : (1000000 : Int) ≤ x8.toInt := wk_ltF c10
    refine lv_iconst (v := (-1)) hx hb dX0_hoursBy_20 (by decide) ?_
    refine lv_goto (tgt := 26) hx hb dX0_hoursBy_21 (by decide) ?_
    exact tk_iret hC hr hlocks hK ⟨hT, hF, (Or.inr rfl)⟩ hw dX0_hoursBy_26
abbrev P_X11_by_1 (ad : Nat → Nat) (cy : Nat → ClassId) (B : Int) (qr : Nat) (s1 : Int) (a1 : Int32) (a2 : Int32) (a3 : Int32) (a4 : Int32) (w0 : va_W) : Int32 → va_W → Prop := fun r u => TW ksC ad cy B qr s1 u ∧ FE ksC [(42, 0, 1100), (43, 0, 1100), (44, 0, 11)] w0 u ∧ ((r = (-2) ∧ 0 ≤ a1.toInt ∧ a1.toInt ≤ 3 ∧ 0 ≤ a2.toInt ∧ a2.toInt ≤ 9 ∧ 0 ≤ a3.toInt ∧ a3.toInt ≤ 9 ∧ 0 ≤ a4.toInt ∧ a4.toInt ≤ 1 ∧ (∃ y : Int32, gi u 38 8 = y ∧ 1 ≤ y.toInt ∧ y.toInt ≤ 4) ∧ (∃ y : Int32, gi u 39 8 = y ∧ 1 ≤ y.toInt ∧ y.toInt ≤ 10)) ∨ (0 ≤ r.toInt ∧ r.toInt ≤ 999999 ∧ 0 ≤ a1.toInt ∧ a1.toInt ≤ 3 ∧ 0 ≤ a2.toInt ∧ a2.toInt ≤ 9 ∧ 0 ≤ a3.toInt ∧ a3.toInt ≤ 9 ∧ 0 ≤ a4.toInt ∧ a4.toInt ≤ 1 ∧ (∃ y : Int32, gi u 38 8 = y ∧ 1 ≤ y.toInt ∧ y.toInt ≤ 4) ∧ (∃ y : Int32, gi u 39 8 = y ∧ 1 ≤ y.toInt ∧ y.toInt ≤ 10)) ∨ (r = (-1)))
set_option maxHeartbeats 4000000 in
set_option maxRecDepth 100000 in
theorem k_X11_by_1 (l : Launch) (adK adV : Nat → Nat) (dC : Nat → ClassId) (dI : Nat → Nat → Nat) (cy : Nat → ClassId) (ad : Nat → Nat) (B : Int) (hB0 : 2147483648 ≤ B) (hB1 : B ≤ 1152921504606846976) (qr : Nat) (s1 : Int)  (a1 : Int32) (a2 : Int32) (a3 : Int32) (a4 : Int32) (w0 : va_W) (sz : Nat) (hT : TW ksC ad cy B qr s1 w0)  : Met l yX11_by (wu yX11_by cX11_by 6 (some .int)) ({ frames := 5, cells := 0, slots := 0, locals := 109 }) (va_Pc [.ref (ad 0), .int a1, .int a2, .int a3, .int a4] (wpreS adK adV dC dI cy sz w0)) (va_Qi (P_X11_by_1 ad cy B qr s1 a1 a2 a3 a4 w0) (fun u : va_W => wpost dC dI cy (va_A w0 sz) u) (va_A w0 sz)) 0 0 (va_A w0 sz) := by
  refine Met.ofW (cc := cX11_by) (maxL := 6) (ret := (some .int)) (by decide) rfl ?_
  intro p e s m args below meth c s₁ Bk hml hv
  obtain ⟨rfl, ⟨hsz, hP, hK, hD0⟩, hE, hSR⟩ := hv
  have hx := Bk.exec
  have hb := Bk.bytes
  have hr := Bk.returns
  have hlocks := Bk.notSynchronized
  have hC : CallFix p m c cX11_by 6 s _ (wu yX11_by cX11_by 6 (some .int)) RX11 := ⟨hx, hb, hml, findClass_of_methodNamed Bk.named, atoms_spec (ws := (wu yX11_by cX11_by 6 (some .int))) Bk.pre⟩
  subst hsz
  have hD := hD0.self (sz := s.heap.size)
  generalize hAe : va_A w0 s.heap.size = A at hD hE ⊢
  have hA : ∀ q : Nat, s.heap.size ≤ q → A q := fun q h => by rw [← hAe]; exact Or.inr h
  have hw : Wd dC dI A s.heap s.heap [] w0 := ⟨hP, hD, va_S.rf⟩
  have hF : FE ksC [(42, 0, 1100), (43, 0, 1100), (44, 0, 11)] w0 w0 := FE.rf
  have hl := lv_entry ([.ref (ad 0), .int a1, .int a2, .int a3, .int a4]) (n := 6) (Nat.le_of_ble_eq_true rfl)
  rw [lg_entry_eq]
  generalize (lg_sl ([.ref (ad 0), .int a1, .int a2, .int a3, .int a4]) ++ List.replicate (6 - (lg_sl ([.ref (ad 0), .int a1, .int a2, .int a3, .int a4])).length) Slot.unset).toArray = ls at hl ⊢
  have hl : lv_has ls 6 [(0, .ref (ad 0)), (1, .int a1), (2, .int a2), (3, .int a3), (4, .int a4)] := hl
  generalize hloc : ([] : List Loc) = locs at hw ⊢
  have hinX11 : ∀ w ∈ u_ws RX11 TX11 13, w ∈ (wu yX11_by cX11_by 6 (some .int)) := fun _ h => List.mem_cons_of_mem _ (up_70 h)
  have J35 : ∀ (H : Heap) (locs : List Loc) (ls : Array Slot) (w1 : va_W), Wd dC dI A s.heap H locs w1 → TW ksC ad cy B qr s1 w1 → FE ksC [(42, 0, 1100), (43, 0, 1100), (44, 0, 11)] w0 w1 → lv_has ls 6 [(0, .ref (ad 0)), (1, .int a1), (2, .int a2), (3, .int a3), (4, .int a4)] → W p l e ({ frames := 5, cells := 0, slots := 0, locals := 109 }) s m (List.toArray [.ref (ad 0), .int a1, .int a2, .int a3, .int a4]) below meth c H locs 0 0 (MQ below (va_Qi (P_X11_by_1 ad cy B qr s1 a1 a2 a3 a4 w0) (fun u : va_W => wpost dC dI cy A u) A) (List.toArray [.ref (ad 0), .int a1, .int a2, .int a3, .int a4]) s 0 0 A) (F0 m 35 ls []) := by
    intro H locs ls w1 hw hT hF hl
    refine lv_iconst (v := (-1)) hx hb dX11_by_35 (by decide) ?_
    exact tk_iret hC hr hlocks hK ⟨hT, hF, (Or.inr (Or.inr rfl))⟩ hw dX11_by_36
  refine lv_aload_n hx hb dX11_by_0 rfl (lv_at hl 0 rfl) ?_
  refine lv_iload_n hx hb dX11_by_1 rfl (lv_at hl 1 rfl) ?_
  refine tk_Vi hC hK hw hT hA hE hSR kC_at0 (by decide) rfl (k_X11_hasMap_1 l adK adV dC dI cy ad B hB0 (Int.le_trans hB1 (by decide)) qr s1   a1 w0 s.heap.size hT ) (cwV 1 hC.2.2.2.2 uV_RX11_170 rfl rfl rfl (by decide +kernel) ⟨Nat.le_of_ble_eq_true rfl, Nat.le_of_ble_eq_true rfl⟩) rfl hl.1 rfl (Nat.le_of_ble_eq_true rfl) dX11_by_2 (fun r2 w4 H locs hp3 hw => ?_)
  obtain ⟨hT, k5, hg10⟩ := hp3
  have hF := hF.tr k5 (by decide)
  rcases hg10 with rfl | ⟨rfl, g6, g7, ⟨x8, c9, rx8, tx8⟩⟩
  · refine lv_if_eq (tgt := 35) hx hb dX11_by_5 (by decide) (fun _ => ?_) (fun c => absurd (by decide) c)
    exact J35  H locs ls w4   hw hT hF  (lv_sub hl [0, 1, 2, 3, 4] rfl)
  · refine lv_if_eq (tgt := 35) hx hb dX11_by_5 (by decide) (fun c => absurd c (by decide)) (fun _ => ?_)
    refine lv_aload_n hx hb dX11_by_8 rfl (lv_at hl 0 rfl) ?_
    refine lv_iload_n hx hb dX11_by_9 rfl (lv_at hl 2 rfl) ?_
    refine tk_Vi hC hK hw hT hA hE hSR kC_at0 (by decide) rfl (k_X11_hasCorner_1 l adK adV dC dI cy ad B hB0 (Int.le_trans hB1 (by decide)) qr s1   a2 w4 H.size hT ) (cwV 1 hC.2.2.2.2 uV_RX11_176 rfl rfl rfl (by decide +kernel) ⟨Nat.le_of_ble_eq_true rfl, Nat.le_of_ble_eq_true rfl⟩) rfl hl.1 rfl (Nat.le_of_ble_eq_true rfl) dX11_by_10 (fun r11 w13 H locs hp12 hw => ?_)
    obtain ⟨hT, k14, hg19⟩ := hp12
    have hF := hF.tr k14 (by decide)
    have c20 := k14.gi kC_at38 (by decide) c9
    rcases hg19 with rfl | ⟨rfl, g15, g16, ⟨x17, c18, rx17, tx17⟩⟩
    · refine lv_if_eq (tgt := 35) hx hb dX11_by_13 (by decide) (fun _ => ?_) (fun c => absurd (by decide) c)
      exact J35  H locs ls w13   hw hT hF  (lv_sub hl [0, 1, 2, 3, 4] rfl)
    · refine lv_if_eq (tgt := 35) hx hb dX11_by_13 (by decide) (fun c => absurd c (by decide)) (fun _ => ?_)
      refine lv_aload_n hx hb dX11_by_16 rfl (lv_at hl 0 rfl) ?_
      refine lv_iload_n hx hb dX11_by_17 rfl (lv_at hl 3 rfl) ?_
      refine tk_Vi hC hK hw hT hA hE hSR kC_at0 (by decide) rfl (k_X11_hasCorner_1 l adK adV dC dI cy ad B hB0 (Int.le_trans hB1 (by decide)) qr s1   a3 w13 H.size hT ) (cwV 1 hC.2.2.2.2 uV_RX11_176 rfl rfl rfl (by decide +kernel) ⟨Nat.le_of_ble_eq_true rfl, Nat.le_of_ble_eq_true rfl⟩) rfl hl.1 rfl (Nat.le_of_ble_eq_true rfl) dX11_by_18 (fun r21 w23 H locs hp22 hw => ?_)
      obtain ⟨hT, k24, hg29⟩ := hp22
      have hF := hF.tr k24 (by decide)
      have c30 := k24.gi kC_at38 (by decide) c20
      have c31 := k24.gi kC_at39 (by decide) c18
      rcases hg29 with rfl | ⟨rfl, g25, g26, ⟨x27, c28, rx27, tx27⟩⟩
      · refine lv_if_eq (tgt := 35) hx hb dX11_by_21 (by decide) (fun _ => ?_) (fun c => absurd (by decide) c)
        exact J35  H locs ls w23   hw hT hF  (lv_sub hl [0, 1, 2, 3, 4] rfl)
      · have ex27 : x27.toInt = x17.toInt := by rw [← c31.symm.trans c28]
        refine lv_if_eq (tgt := 35) hx hb dX11_by_21 (by decide) (fun c => absurd c (by decide)) (fun _ => ?_)
        refine lv_iload hx hb dX11_by_24 (lv_at hl 4 rfl) ?_
        refine lv_if_lt (tgt := 35) hx hb dX11_by_26 (by decide) (fun c32 => ?_) (fun c32 => ?_)
        · have c32 : a4.toInt < (0 : Int) := wk_lt.mp c32
          exact J35  H locs ls w23   hw hT hF  (lv_sub hl [0, 1, 2, 3, 4] rfl)
        · have c32 : (0 : Int) ≤ a4.toInt := wk_ltF c32
          refine lv_iload hx hb dX11_by_29 (lv_at hl 4 rfl) ?_
          refine lv_iconst (v := 1) hx hb dX11_by_31 (by decide) ?_
          refine lv_icmp_le (tgt := 37) hx hb dX11_by_32 (by decide) (fun c33 => ?_) (fun c33 => ?_)
          · have c33 : a4.toInt ≤ (1 : Int) := wk_le.mp c33
            refine lv_aload_n hx hb dX11_by_37 rfl (lv_at hl 0 rfl) ?_
            refine tk_getA hC hK hw hT hinX11 kC_at0 (by decide) rfl 7 (by decide) (List.mem_cons_of_mem _ uw_1_14) rfl rfl dX11_by_38 ?_
            refine lv_iload_n hx hb dX11_by_41 rfl (lv_at hl 1 rfl) ?_
            refine tk_Vv hC hK hw hT hA hE hSR kC_at145 (by decide) rfl (k_X0_refresh_1 l adK adV dC dI cy ad B hB0 (Int.le_trans hB1 (by decide)) qr s1   a1 (show 0 ≤ a1.toInt by first | with_reducible assumption | omega) (show a1.toInt ≤ 3 by first | with_reducible assumption | omega) w23 H.size hT ) (cwV 1 hC.2.2.2.2 uV_RX11_179 rfl rfl rfl (by decide +kernel) ⟨Nat.le_of_ble_eq_true rfl, Nat.le_of_ble_eq_true rfl⟩) rfl hl.1 rfl (Nat.le_of_ble_eq_true rfl) dX11_by_42 (fun w36 H locs hp35 hw => ?_)
            obtain ⟨hT, k37, hg38⟩ := hp35
            have hF := hF.tr k37 (by decide)
            have c39 := k37.gi kC_at38 (by decide) c30
            have c40 := k37.gi kC_at39 (by decide) c31
            clear hg38
            refine lv_iload hx hb dX11_by_45 (lv_at hl 4 rfl) ?_
            refine lv_if_ne (tgt := 63) hx hb dX11_by_47 (by decide) (fun c41 => ?_) (fun c41 => ?_)
            · have c41 : ¬ a4.toInt = (0 : Int) := wk_eqF c41
              refine lv_aload_n hx hb dX11_by_63 rfl (lv_at hl 0 rfl) ?_
              refine tk_getA hC hK hw hT hinX11 kC_at0 (by decide) rfl 7 (by decide) (List.mem_cons_of_mem _ uw_1_14) rfl rfl dX11_by_64 ?_
              refine lv_iload_n hx hb dX11_by_67 rfl (lv_at hl 1 rfl) ?_
              refine lv_iload_n hx hb dX11_by_68 rfl (lv_at hl 2 rfl) ?_
              refine lv_iload_n hx hb dX11_by_69 rfl (lv_at hl 3 rfl) ?_
              refine tk_Vi hC hK hw hT hA hE hSR kC_at145 (by decide) rfl (k_X0_streetBy_1 l adK adV dC dI cy ad B hB0 (Int.le_trans hB1 (by decide)) qr s1   a1 (show 0 ≤ a1.toInt by first | with_reducible assumption | omega) (show a1.toInt ≤ 3 by first | with_reducible assumption | omega) a2 (show 0 ≤ a2.toInt by first | with_reducible assumption | omega) (show a2.toInt ≤ 9 by first | with_reducible assumption | omega) a3 (show 0 ≤ a3.toInt by first | with_reducible assumption | omega) (show a3.toInt ≤ 9 by first | with_reducible assumption | omega) w36 H.size hT ) (cwV 3 hC.2.2.2.2 uV_RX11_186 rfl rfl rfl (by decide +kernel) ⟨Nat.le_of_ble_eq_true rfl, Nat.le_of_ble_eq_true rfl⟩) rfl hl.1 rfl (Nat.le_of_ble_eq_true rfl) dX11_by_70 (fun r42 w44 H locs hp43 hw => ?_)
              obtain ⟨hT, k45, hg48⟩ := hp43
              have hF := hF.tr k45 (by decide)
              have c49 := k45.gi kC_at38 (by decide) c39
              have c50 := k45.gi kC_at39 (by decide) c40
              obtain ⟨g46, g47⟩ := hg48
              refine lv_istore (lv' := [(5, .int r42), (0, .ref (ad 0)), (1, .int a1), (2, .int a2), (3, .int a3), (4, .int a4)]) hx hb dX11_by_73 hl (by decide) rfl (fun ls hl => ?_)
              refine lv_iload hx hb dX11_by_75 (lv_at hl 0 rfl) ?_
              refine lv_iconst (v := (-1)) hx hb dX11_by_77 (by decide) ?_
              refine lv_icmp_ne (tgt := 86) hx hb dX11_by_78 (by decide) (fun c51 => ?_) (fun c51 => ?_)
              · have c51 : ¬ r42.toInt = (-1 : Int) := wk_eqF c51
                refine lv_iload hx hb dX11_by_86 (lv_at hl 0 rfl) ?_
                exact tk_iret hC hr hlocks hK ⟨hT, hF, (Or.inr (Or.inl ⟨(show 0 ≤ r42.toInt by first | with_reducible assumption | omega), (show r42.toInt ≤ 999999 by first | with_reducible assumption | omega), (show 0 ≤ a1.toInt by first | with_reducible assumption | omega), (show a1.toInt ≤ 3 by first | with_reducible assumption | omega), (show 0 ≤ a2.toInt by first | with_reducible assumption | omega), (show a2.toInt ≤ 9 by first | with_reducible assumption | omega), (show 0 ≤ a3.toInt by first | with_reducible assumption | omega), (show a3.toInt ≤ 9 by first | with_reducible assumption | omega), (show 0 ≤ a4.toInt from c32), (show a4.toInt ≤ 1 from c33), ⟨x8, c49, (show 1 ≤ x8.toInt by first | with_reducible assumption | omega), (show x8.toInt ≤ 4 by first | with_reducible assumption | omega)⟩, ⟨x17, c50, (show 1 ≤ x17.toInt by first | with_reducible assumption | omega), (show x17.toInt ≤ 10 by first | with_reducible assumption | omega)⟩⟩))⟩ hw dX11_by_88
              · have c51 : r42.toInt = (-1 : Int) := wk_eq.mp c51
                refine lv_bipush (v := (-2)) hx hb dX11_by_81 (by decide) ?_
                refine lv_goto (tgt := 88) hx hb dX11_by_83 (by decide) ?_
                exact tk_iret hC hr hlocks hK ⟨hT, hF, (Or.inl ⟨rfl, (show 0 ≤ a1.toInt by first | with_reducible assumption | omega), (show a1.toInt ≤ 3 by first | with_reducible assumption | omega), (show 0 ≤ a2.toInt by first | with_reducible assumption | omega), (show a2.toInt ≤ 9 by first | with_reducible assumption | omega), (show 0 ≤ a3.toInt by first | with_reducible assumption | omega), (show a3.toInt ≤ 9 by first | with_reducible assumption | omega), (show 0 ≤ a4.toInt from c32), (show a4.toInt ≤ 1 from c33), ⟨x8, c49, (show 1 ≤ x8.toInt by first | with_reducible assumption | omega), (show x8.toInt ≤ 4 by first | with_reducible assumption | omega)⟩, ⟨x17, c50, (show 1 ≤ x17.toInt by first | with_reducible assumption | omega), (show x17.toInt ≤ 10 by first | with_reducible assumption | omega)⟩⟩)⟩ hw dX11_by_88
            · have c41 : a4.toInt = (0 : Int) := wk_eq.mp c41
              refine lv_aload_n hx hb dX11_by_50 rfl (lv_at hl 0 rfl) ?_
              refine tk_getA hC hK hw hT hinX11 kC_at0 (by decide) rfl 7 (by decide) (List.mem_cons_of_mem _ uw_1_14) rfl rfl dX11_by_51 ?_
              refine lv_iload_n hx hb dX11_by_54 rfl (lv_at hl 1 rfl) ?_
              refine lv_iload_n hx hb dX11_by_55 rfl (lv_at hl 2 rfl) ?_
              refine lv_iload_n hx hb dX11_by_56 rfl (lv_at hl 3 rfl) ?_
              refine tk_Vi hC hK hw hT hA hE hSR kC_at145 (by decide) rfl (k_X0_hoursBy_1 l adK adV dC dI cy ad B hB0 (Int.le_trans hB1 (by decide)) qr s1   a1 (show 0 ≤ a1.toInt by first | with_reducible assumption | omega) (show a1.toInt ≤ 3 by first | with_reducible assumption | omega) a2 (show 0 ≤ a2.toInt by first | with_reducible assumption | omega) (show a2.toInt ≤ 9 by first | with_reducible assumption | omega) a3 (show 0 ≤ a3.toInt by first | with_reducible assumption | omega) (show a3.toInt ≤ 9 by first | with_reducible assumption | omega) w36 H.size hT ) (cwV 3 hC.2.2.2.2 uV_RX11_182 rfl rfl rfl (by decide +kernel) ⟨Nat.le_of_ble_eq_true rfl, Nat.le_of_ble_eq_true rfl⟩) rfl hl.1 rfl (Nat.le_of_ble_eq_true rfl) dX11_by_57 (fun r52 w54 H locs hp53 hw => ?_)
              obtain ⟨hT, k55, hg58⟩ := hp53
              have hF := hF.tr k55 (by decide)
              have c59 := k55.gi kC_at38 (by decide) c39
              have c60 := k55.gi kC_at39 (by decide) c40
              rcases hg58 with ⟨g56, g57⟩ | rfl
              · refine lv_goto (tgt := 73) hx hb dX11_by_60 (by decide) ?_
                refine lv_istore (lv' := [(5, .int r52), (0, .ref (ad 0)), (1, .int a1), (2, .int a2), (3, .int a3), (4, .int a4)]) hx hb dX11_by_73 hl (by decide) rfl (fun ls hl => ?_)
                refine lv_iload hx hb dX11_by_75 (lv_at hl 0 rfl) ?_
                refine lv_iconst (v := (-1)) hx hb dX11_by_77 (by decide) ?_
                refine lv_icmp_ne (tgt := 86) hx hb dX11_by_78 (by decide) (fun _ => ?_) (fun c => absurd (show r52.toInt = (-1 : Int) from wk_eq.mp c) (by omega))
                refine lv_iload hx hb dX11_by_86 (lv_at hl 0 rfl) ?_
                exact tk_iret hC hr hlocks hK ⟨hT, hF, (Or.inr (Or.inl ⟨(show 0 ≤ r52.toInt by first | with_reducible assumption | omega), (show r52.toInt ≤ 999999 by first | with_reducible assumption | omega), (show 0 ≤ a1.toInt by first | with_reducible assumption | omega), (show a1.toInt ≤ 3 by first | with_reducible assumption | omega), (show 0 ≤ a2.toInt by first | with_reducible assumption | omega), (show a2.toInt ≤ 9 by first | with_reducible assumption | omega), (show 0 ≤ a3.toInt by first | with_reducible assumption | omega), (show a3.toInt ≤ 9 by first | with_reducible assumption | omega), (show 0 ≤ a4.toInt from c32), (show a4.toInt ≤ 1 from c33), ⟨x8, c59, (show 1 ≤ x8.toInt by first | with_reducible assumption | omega), (show x8.toInt ≤ 4 by first | with_reducible assumption | omega)⟩, ⟨x17, c60, (show 1 ≤ x17.toInt by first | with_reducible assumption | omega), (show x17.toInt ≤ 10 by first | with_reducible assumption | omega)⟩⟩))⟩ hw dX11_by_88
              · refine lv_goto (tgt := 73) hx hb dX11_by_60 (by decide) ?_
                refine lv_istore (lv' := [(5, .int (-1)), (0, .ref (ad 0)), (1, .int a1), (2, .int a2), (3, .int a3), (4, .int a4)]) hx hb dX11_by_73 hl (by decide) rfl (fun ls hl => ?_)
                refine lv_iload hx hb dX11_by_75 (lv_at hl 0 rfl) ?_
                refine lv_iconst (v := (-1)) hx hb dX11_by_77 (by decide) ?_
                refine lv_icmp_ne (tgt := 86) hx hb dX11_by_78 (by decide) (fun c => absurd (by decide) c) (fun _ => ?_)
                refine lv_bipush (v := (-2)) hx hb dX11_by_81 (by decide) ?_
                refine lv_goto (tgt := 88) hx hb dX11_by_83 (by decide) ?_
                exact tk_iret hC hr hlocks hK ⟨hT, hF, (Or.inl ⟨rfl, (show 0 ≤ a1.toInt by first | with_reducible assumption | omega), (show a1.toInt ≤ 3 by first | with_reducible assumption | omega), (show 0 ≤ a2.toInt by first | with_reducible assumption | omega), (show a2.toInt ≤ 9 by first | with_reducible assumption | omega), (show 0 ≤ a3.toInt by first | with_reducible assumption | omega), (show a3.toInt ≤ 9 by first | with_reducible assumption | omega), (show 0 ≤ a4.toInt from c32), (show a4.toInt ≤ 1 from c33), ⟨x8, c59, (show 1 ≤ x8.toInt by first | with_reducible assumption | omega), (show x8.toInt ≤ 4 by first | with_reducible assumption | omega)⟩, ⟨x17, c60, (show 1 ≤ x17.toInt by first | with_reducible assumption | omega), (show x17.toInt ≤ 10 by first | with_reducible assumption | omega)⟩⟩)⟩ hw dX11_by_88
          · have c33 : (1 : Int) < a4.toInt := wk_leF c33
            exact J35  H locs ls w23   hw hT hF  (lv_sub hl [0, 1, 2, 3, 4] rfl)
abbrev P_X11_hasRuleOrNone_1 (ad : Nat → Nat) (cy : Nat → ClassId) (B : Int) (qr : Nat) (s1 : Int) (a1 : Int32) (w0 : va_W) : Int32 → va_W → Prop := fun r u => TW ksC ad cy B qr s1 u ∧ FE ksC ([] : List (Nat × Nat × Nat)) w0 u ∧ ((r = 0) ∨ (r = 1 ∧ (-1) ≤ a1.toInt ∧ a1.toInt ≤ 5))
set_option maxHeartbeats 4000000 in
set_option maxRecDepth 100000 in
theorem k_X11_hasRuleOrNone_1 (l : Launch) (adK adV : Nat → Nat) (dC : Nat → ClassId) (dI : Nat → Nat → Nat) (cy : Nat → ClassId) (ad : Nat → Nat) (B : Int) (hB0 : 2147483648 ≤ B) (hB1 : B ≤ 1152921504606846976) (qr : Nat) (s1 : Int)  (a1 : Int32) (w0 : va_W) (sz : Nat) (hT : TW ksC ad cy B qr s1 w0)  : Met l yX11_hasRuleOrNone (wu yX11_hasRuleOrNone cX11_hasRuleOrNone 2 (some .boolean)) ({ frames := 1, cells := 0, slots := 0, locals := 12 }) (va_Pc [.ref (ad 0), .int a1] (wpreS adK adV dC dI cy sz w0)) (va_Qi (P_X11_hasRuleOrNone_1 ad cy B qr s1 a1 w0) (fun u : va_W => wpost dC dI cy (va_A w0 sz) u) (va_A w0 sz)) 0 0 (va_A w0 sz) := by
  refine Met.ofW (cc := cX11_hasRuleOrNone) (maxL := 2) (ret := (some .boolean)) (by decide) rfl ?_
  intro p e s m args below meth c s₁ Bk hml hv
  obtain ⟨rfl, ⟨hsz, hP, hK, hD0⟩, hE, hSR⟩ := hv
  have hx := Bk.exec
  have hb := Bk.bytes
  have hr := Bk.returns
  have hlocks := Bk.notSynchronized
  have hC : CallFix p m c cX11_hasRuleOrNone 2 s _ (wu yX11_hasRuleOrNone cX11_hasRuleOrNone 2 (some .boolean)) RX11 := ⟨hx, hb, hml, findClass_of_methodNamed Bk.named, atoms_spec (ws := (wu yX11_hasRuleOrNone cX11_hasRuleOrNone 2 (some .boolean))) Bk.pre⟩
  subst hsz
  have hD := hD0.self (sz := s.heap.size)
  generalize hAe : va_A w0 s.heap.size = A at hD hE ⊢
  have hA : ∀ q : Nat, s.heap.size ≤ q → A q := fun q h => by rw [← hAe]; exact Or.inr h
  have hw : Wd dC dI A s.heap s.heap [] w0 := ⟨hP, hD, va_S.rf⟩
  have hF : FE ksC ([] : List (Nat × Nat × Nat)) w0 w0 := FE.rf
  have hl := lv_entry ([.ref (ad 0), .int a1]) (n := 2) (Nat.le_of_ble_eq_true rfl)
  rw [lg_entry_eq]
  generalize (lg_sl ([.ref (ad 0), .int a1]) ++ List.replicate (2 - (lg_sl ([.ref (ad 0), .int a1])).length) Slot.unset).toArray = ls at hl ⊢
  have hl : lv_has ls 2 [(0, .ref (ad 0)), (1, .int a1)] := hl
  generalize hloc : ([] : List Loc) = locs at hw ⊢
  have hinX11 : ∀ w ∈ u_ws RX11 TX11 13, w ∈ (wu yX11_hasRuleOrNone cX11_hasRuleOrNone 2 (some .boolean)) := fun _ h => List.mem_cons_of_mem _ (up_70 h)
  have J17 : ∀ (H : Heap) (locs : List Loc) (ls : Array Slot) (w1 : va_W), Wd dC dI A s.heap H locs w1 → TW ksC ad cy B qr s1 w1 → FE ksC ([] : List (Nat × Nat × Nat)) w0 w1 → lv_has ls 2 [(0, .ref (ad 0)), (1, .int a1)] → W p l e ({ frames := 1, cells := 0, slots := 0, locals := 12 }) s m (List.toArray [.ref (ad 0), .int a1]) below meth c H locs 0 0 (MQ below (va_Qi (P_X11_hasRuleOrNone_1 ad cy B qr s1 a1 w0) (fun u : va_W => wpost dC dI cy A u) A) (List.toArray [.ref (ad 0), .int a1]) s 0 0 A) (F0 m 17 ls []) := by
    intro H locs ls w1 hw hT hF hl
    refine lv_iconst (v := 0) hx hb dX11_hasRuleOrNone_17 (by decide) ?_
    exact tk_zret hC hr rfl hlocks hK ⟨hT, hF, (Or.inl rfl)⟩ hw dX11_hasRuleOrNone_18
  refine lv_iload_n hx hb dX11_hasRuleOrNone_0 rfl (lv_at hl 1 rfl) ?_
  refine lv_iconst (v := (-1)) hx hb dX11_hasRuleOrNone_1 (by decide) ?_
  refine lv_icmp_lt (tgt := 17) hx hb dX11_hasRuleOrNone_2 (by decide) (fun c2 => ?_) (fun c2 => ?_)
  · have c2 : a1.toInt < (-1 : Int) := wk_lt.mp c2
    exact J17  s.heap locs ls w0   hw hT hF  (lv_sub hl [0, 1] rfl)
  · have c2 : (-1 : Int) ≤ a1.toInt := wk_ltF c2
    refine lv_iload_n hx hb dX11_hasRuleOrNone_5 rfl (lv_at hl 1 rfl) ?_
    refine lv_aload_n hx hb dX11_hasRuleOrNone_6 rfl (lv_at hl 0 rfl) ?_
    refine tk_geti hC hK hw hT hinX11 kC_at0 (by decide) rfl 12 (by decide) (List.mem_cons_of_mem _ uw_26_12) rfl rfl dX11_hasRuleOrNone_7 (fun x3 c4 rx3 tx3 => ?_)
    refine lv_icmp_ge (tgt := 17) hx hb dX11_hasRuleOrNone_10 (by decide) (fun c5 => ?_) (fun c5 => ?_)
    · have c5 : x3.toInt ≤ a1.toInt := wk_le.mp c5
      exact J17  s.heap locs ls w0   hw hT hF  (lv_sub hl [0, 1] rfl)
    · have c5 : a1.toInt < x3.toInt := wk_leF c5
      refine lv_iconst (v := 1) hx hb dX11_hasRuleOrNone_13 (by decide) ?_
      refine lv_goto (tgt := 18) hx hb dX11_hasRuleOrNone_14 (by decide) ?_
      exact tk_zret hC hr rfl hlocks hK ⟨hT, hF, (Or.inr ⟨rfl, (show (-1) ≤ a1.toInt from c2), (show a1.toInt ≤ 5 by first | with_reducible assumption | omega)⟩)⟩ hw dX11_hasRuleOrNone_18
abbrev P_X9_setOut_1 (ad : Nat → Nat) (cy : Nat → ClassId) (B : Int) (qr : Nat) (s1 : Int) (q0_ : Nat) (a1 : Int32) (a2 : Int32) (a3 : Int32) (a4 : Int32) (a5 : Int64) (w0 : va_W) : va_W → Prop := fun u => TW ksC ad cy B qr s1 u ∧ FE ksC [(9, 0, 0), (9, 1, 1), (9, 2, 2), (9, 3, 3), (9, 4, 4), (9, 5, 5), (9, 6, 6), (9, 7, 7), (9, 8, 8)] w0 u ∧ (((∃ y : Int32, gi u q0_ 3 = y ∧ (-1) ≤ y.toInt ∧ y.toInt ≤ 5) ∧ (∃ y : Int32, gi u q0_ 5 = y ∧ 0 ≤ y.toInt ∧ y.toInt ≤ 0) ∧ (∃ y : Int32, gi u q0_ 6 = y ∧ 0 ≤ y.toInt ∧ y.toInt ≤ 0) ∧ (∃ y : Int32, gi u q0_ 7 = y ∧ (-1) ≤ y.toInt ∧ y.toInt ≤ (-1))))
set_option maxHeartbeats 4000000 in
set_option maxRecDepth 100000 in
theorem k_X9_setOut_1 (l : Launch) (adK adV : Nat → Nat) (dC : Nat → ClassId) (dI : Nat → Nat → Nat) (cy : Nat → ClassId) (ad : Nat → Nat) (B : Int) (hB0 : 2147483648 ≤ B) (hB1 : B ≤ 1152921504606846976) (qr : Nat) (s1 : Int)  (q0_ : Nat) (hkq0_ : ksC[q0_]? = some 9) (a1 : Int32) (ra1 : 0 ≤ a1.toInt) (ta1 : a1.toInt ≤ 9) (a2 : Int32) (ra2 : 0 ≤ a2.toInt) (ta2 : a2.toInt ≤ 9) (a3 : Int32) (ra3 : 0 ≤ a3.toInt) (ta3 : a3.toInt ≤ 3) (a4 : Int32) (ra4 : (-1) ≤ a4.toInt) (ta4 : a4.toInt ≤ 5) (a5 : Int64) (ra5 : 0 ≤ a5.toInt) (ta5 : a5.toInt ≤ 2147483647) (w0 : va_W) (sz : Nat) (hT : TW ksC ad cy B qr s1 w0)  : Met l yX9_setOut (wu yX9_setOut cX9_setOut 7 none) ({ frames := 1, cells := 0, slots := 0, locals := 12 }) (va_Pc [.ref (ad q0_), .int a1, .int a2, .int a3, .int a4, .long a5] (wpreS adK adV dC dI cy sz w0)) (va_Qv (P_X9_setOut_1 ad cy B qr s1 q0_ a1 a2 a3 a4 a5 w0) (fun u : va_W => wpost dC dI cy (va_A w0 sz) u) (va_A w0 sz)) 0 0 (va_A w0 sz) := by
  refine Met.ofW (cc := cX9_setOut) (maxL := 7) (ret := none) (by decide) rfl ?_
  intro p e s m args below meth c s₁ Bk hml hv
  obtain ⟨rfl, ⟨hsz, hP, hK, hD0⟩, hE, hSR⟩ := hv
  have hx := Bk.exec
  have hb := Bk.bytes
  have hr := Bk.returns
  have hlocks := Bk.notSynchronized
  have hC : CallFix p m c cX9_setOut 7 s _ (wu yX9_setOut cX9_setOut 7 none) RX9 := ⟨hx, hb, hml, findClass_of_methodNamed Bk.named, atoms_spec (ws := (wu yX9_setOut cX9_setOut 7 none)) Bk.pre⟩
  subst hsz
  have hD := hD0.self (sz := s.heap.size)
  generalize hAe : va_A w0 s.heap.size = A at hD hE ⊢
  have hA : ∀ q : Nat, s.heap.size ≤ q → A q := fun q h => by rw [← hAe]; exact Or.inr h
  have hw : Wd dC dI A s.heap s.heap [] w0 := ⟨hP, hD, va_S.rf⟩
  have hF : FE ksC [(9, 0, 0), (9, 1, 1), (9, 2, 2), (9, 3, 3), (9, 4, 4), (9, 5, 5), (9, 6, 6), (9, 7, 7), (9, 8, 8)] w0 w0 := FE.rf
  have hl := lv_entry ([.ref (ad q0_), .int a1, .int a2, .int a3, .int a4, .long a5]) (n := 7) (Nat.le_of_ble_eq_true rfl)
  rw [lg_entry_eq]
  generalize (lg_sl ([.ref (ad q0_), .int a1, .int a2, .int a3, .int a4, .long a5]) ++ List.replicate (7 - (lg_sl ([.ref (ad q0_), .int a1, .int a2, .int a3, .int a4, .long a5])).length) Slot.unset).toArray = ls at hl ⊢
  have hl : lv_has ls 7 [(0, .ref (ad q0_)), (1, .int a1), (2, .int a2), (3, .int a3), (4, .int a4), (5, .long a5)] := hl
  generalize hloc : ([] : List Loc) = locs at hw ⊢
  have hinX9 : ∀ w ∈ u_ws RX9 TX9 9, w ∈ (wu yX9_setOut cX9_setOut 7 none) := fun _ h => List.mem_cons_of_mem _ (up_82 h)
  refine lv_aload_n hx hb dX9_setOut_0 rfl (lv_at hl 0 rfl) ?_
  refine lv_iload_n hx hb dX9_setOut_1 rfl (lv_at hl 1 rfl) ?_
  refine tk_puti hC hK hw hT hinX9 tyX9_ok nmX9 hkq0_ (by decide) rfl rfl 0 (by decide) (List.mem_cons_of_mem _ uw_39_9) rfl rfl rfl rfl (show 0 ≤ a1.toInt from ra1) (show a1.toInt ≤ 9 from ta1) dX9_setOut_2 (fun H locs w1 hw hT k3 c2 => ?_)
  have hF := hF.put hkq0_ (k := 0) (by decide) k3
  refine lv_aload_n hx hb dX9_setOut_5 rfl (lv_at hl 0 rfl) ?_
  refine lv_iload_n hx hb dX9_setOut_6 rfl (lv_at hl 2 rfl) ?_
  refine tk_puti hC hK hw hT hinX9 tyX9_ok nmX9 hkq0_ (by decide) rfl rfl 1 (by decide) (List.mem_cons_of_mem _ uw_39_10) rfl rfl rfl rfl (show 0 ≤ a2.toInt from ra2) (show a2.toInt ≤ 9 from ta2) dX9_setOut_7 (fun H locs w4 hw hT k6 c5 => ?_)
  have hF := hF.put hkq0_ (k := 1) (by decide) k6
  have c7 := k6.gi (Or.inr (by decide)) c2
  refine lv_aload_n hx hb dX9_setOut_10 rfl (lv_at hl 0 rfl) ?_
  refine lv_iload_n hx hb dX9_setOut_11 rfl (lv_at hl 3 rfl) ?_
  refine tk_puti hC hK hw hT hinX9 tyX9_ok nmX9 hkq0_ (by decide) rfl rfl 2 (by decide) (List.mem_cons_of_mem _ uw_39_11) rfl rfl rfl rfl (show 0 ≤ a3.toInt from ra3) (show a3.toInt ≤ 3 from ta3) dX9_setOut_12 (fun H locs w8 hw hT k10 c9 => ?_)
  have hF := hF.put hkq0_ (k := 2) (by decide) k10
  have c11 := k10.gi (Or.inr (by decide)) c7
  have c12 := k10.gi (Or.inr (by decide)) c5
  refine lv_aload_n hx hb dX9_setOut_15 rfl (lv_at hl 0 rfl) ?_
  refine lv_iload hx hb dX9_setOut_16 (lv_at hl 4 rfl) ?_
  refine tk_puti hC hK hw hT hinX9 tyX9_ok nmX9 hkq0_ (by decide) rfl rfl 3 (by decide) (List.mem_cons_of_mem _ uw_39_12) rfl rfl rfl rfl (wk_i32 a4).1 (wk_i32 a4).2 dX9_setOut_18 (fun H locs w13 hw hT k15 c14 => ?_)
  have hF := hF.put hkq0_ (k := 3) (by decide) k15
  have c16 := k15.gi (Or.inr (by decide)) c11
  have c17 := k15.gi (Or.inr (by decide)) c12
  have c18 := k15.gi (Or.inr (by decide)) c9
  refine lv_aload_n hx hb dX9_setOut_21 rfl (lv_at hl 0 rfl) ?_
  refine lv_lload hx hb dX9_setOut_22 (lv_at hl 5 rfl) ?_
  refine tk_putB hC hK hw hT hinX9 tyX9_ok nmX9 hkq0_ (by decide) rfl rfl 4 (by decide) (List.mem_cons_of_mem _ uw_39_13) rfl rfl rfl rfl (show 0 ≤ a5.toInt from ra5) (show a5.toInt ≤ B by omega) dX9_setOut_24 (fun H locs w19 hw hT k21 c20 => ?_)
  have hF := hF.put hkq0_ (k := 4) (by decide) k21
  have c22 := k21.gi (Or.inr (by decide)) c16
  have c23 := k21.gi (Or.inr (by decide)) c17
  have c24 := k21.gi (Or.inr (by decide)) c18
  have c25 := k21.gi (Or.inr (by decide)) c14
  refine lv_aload_n hx hb dX9_setOut_27 rfl (lv_at hl 0 rfl) ?_
  refine lv_iconst (v := 0) hx hb dX9_setOut_28 (by decide) ?_
  refine tk_puti hC hK hw hT hinX9 tyX9_ok nmX9 hkq0_ (by decide) rfl rfl 5 (by decide) (List.mem_cons_of_mem _ uw_39_14) rfl rfl rfl rfl (by decide) (by decide) dX9_setOut_29 (fun H locs w26 hw hT k28 c27 => ?_)
  have hF := hF.put hkq0_ (k := 5) (by decide) k28
  have c29 := k28.gi (Or.inr (by decide)) c22
  have c30 := k28.gi (Or.inr (by decide)) c23
  have c31 := k28.gi (Or.inr (by decide)) c24
  have c32 := k28.gi (Or.inr (by decide)) c25
  have c33 := k28.gl (Or.inr (by decide)) c20
  refine lv_aload_n hx hb dX9_setOut_32 rfl (lv_at hl 0 rfl) ?_
  refine lv_iconst (v := 0) hx hb dX9_setOut_33 (by decide) ?_
  refine tk_puti hC hK hw hT hinX9 tyX9_ok nmX9 hkq0_ (by decide) rfl rfl 6 (by decide) (List.mem_cons_of_mem _ uw_39_15) rfl rfl rfl rfl (by decide) (by decide) dX9_setOut_34 (fun H locs w34 hw hT k36 c35 => ?_)
  have hF := hF.put hkq0_ (k := 6) (by decide) k36
  have c37 := k36.gi (Or.inr (by decide)) c29
  have c38 := k36.gi (Or.inr (by decide)) c30
  have c39 := k36.gi (Or.inr (by decide)) c31
  have c40 := k36.gi (Or.inr (by decide)) c32
  have c41 := k36.gl (Or.inr (by decide)) c33
  have c42 := k36.gi (Or.inr (by decide)) c27
  refine lv_aload_n hx hb dX9_setOut_37 rfl (lv_at hl 0 rfl) ?_
  refine lv_iconst (v := (-1)) hx hb dX9_setOut_38 (by decide) ?_
  refine tk_puti hC hK hw hT hinX9 tyX9_ok nmX9 hkq0_ (by decide) rfl rfl 7 (by decide) (List.mem_cons_of_mem _ uw_39_16) rfl rfl rfl rfl (by decide) (by decide) dX9_setOut_39 (fun H locs w43 hw hT k45 c44 => ?_)
  have hF := hF.put hkq0_ (k := 7) (by decide) k45
  have c46 := k45.gi (Or.inr (by decide)) c37
  have c47 := k45.gi (Or.inr (by decide)) c38
  have c48 := k45.gi (Or.inr (by decide)) c39
  have c49 := k45.gi (Or.inr (by decide)) c40
  have c50 := k45.gl (Or.inr (by decide)) c41
  have c51 := k45.gi (Or.inr (by decide)) c42
  have c52 := k45.gi (Or.inr (by decide)) c35
  refine lv_aload_n hx hb dX9_setOut_42 rfl (lv_at hl 0 rfl) ?_
  refine lv_ldc2 (v := (-1)) hx hb hC.2.2.2.1 (hC.2.2.2.2 _ (List.mem_cons_of_mem _ uw_39_17)) dX9_setOut_43 ?_
  refine tk_putl hC hK hw hT hinX9 tyX9_ok nmX9 hkq0_ (by decide) rfl rfl 8 (by decide) (List.mem_cons_of_mem _ uw_39_18) rfl rfl rfl rfl (by decide) (by decide) dX9_setOut_46 (fun H locs w53 hw hT k55 c54 => ?_)
  have hF := hF.put hkq0_ (k := 8) (by decide) k55
  have c56 := k55.gi (Or.inr (by decide)) c46
  have c57 := k55.gi (Or.inr (by decide)) c47
  have c58 := k55.gi (Or.inr (by decide)) c48
  have c59 := k55.gi (Or.inr (by decide)) c49
  have c60 := k55.gl (Or.inr (by decide)) c50
  have c61 := k55.gi (Or.inr (by decide)) c51
  have c62 := k55.gi (Or.inr (by decide)) c52
  have c63 := k55.gi (Or.inr (by decide)) c44
  exact tk_vret hC hr hlocks hK ⟨hT, hF, ⟨⟨a4, c59, (show (-1) ≤ a4.toInt from ra4), (show a4.toInt ≤ 5 from ta4)⟩, ⟨0, c61, (by decide), (by decide)⟩, ⟨0, c62, (by decide), (by decide)⟩, ⟨(-1), c63, (by decide), (by decide)⟩⟩⟩ hw dX9_setOut_49
abbrev P_X11_walker_1 (ad : Nat → Nat) (cy : Nat → ClassId) (B : Int) (qr : Nat) (s1 : Int) (a1 : Int32) (a2 : Int32) (a3 : Int32) (a4 : Int32) (a5 : Int32) (w0 : va_W) : Int32 → va_W → Prop := fun r u => TW ksC ad cy B qr s1 u ∧ FE ksC [(5, 9, 9), (9, 0, 0), (9, 1, 1), (9, 2, 2), (9, 3, 3), (9, 4, 4), (9, 5, 5), (9, 6, 6), (9, 7, 7), (9, 8, 8)] w0 u ∧ ((r = (-2)) ∨ (0 ≤ r.toInt ∧ r.toInt ≤ 3 ∧ 0 ≤ a1.toInt ∧ a1.toInt ≤ 9 ∧ 0 ≤ a2.toInt ∧ a2.toInt ≤ 9 ∧ 0 ≤ a3.toInt ∧ a3.toInt ≤ 3 ∧ (-1) ≤ a4.toInt ∧ a4.toInt ≤ 5 ∧ 0 ≤ a5.toInt ∧ (∃ y : Int32, gi u 38 8 = y ∧ 1 ≤ y.toInt ∧ y.toInt ≤ 4) ∧ (∃ y : Int32, gi u 38 9 = y ∧ 1 ≤ y.toInt ∧ y.toInt ≤ 4) ∧ (∃ y : Int32, gi u 39 8 = y ∧ 1 ≤ y.toInt ∧ y.toInt ≤ 10)))
set_option maxHeartbeats 4000000 in
set_option maxRecDepth 100000 in
theorem k_X11_walker_1 (l : Launch) (adK adV : Nat → Nat) (dC : Nat → ClassId) (dI : Nat → Nat → Nat) (cy : Nat → ClassId) (ad : Nat → Nat) (B : Int) (hB0 : 2147483648 ≤ B) (hB1 : B ≤ 1152921504606846976) (qr : Nat) (s1 : Int)  (a1 : Int32) (a2 : Int32) (a3 : Int32) (a4 : Int32) (a5 : Int32) (w0 : va_W) (sz : Nat) (hT : TW ksC ad cy B qr s1 w0)  : Met l yX11_walker (wu yX11_walker cX11_walker 7 (some .int)) ({ frames := 2, cells := 0, slots := 0, locals := 38 }) (va_Pc [.ref (ad 0), .int a1, .int a2, .int a3, .int a4, .int a5] (wpreS adK adV dC dI cy sz w0)) (va_Qi (P_X11_walker_1 ad cy B qr s1 a1 a2 a3 a4 a5 w0) (fun u : va_W => wpost dC dI cy (va_A w0 sz) u) (va_A w0 sz)) 0 0 (va_A w0 sz) := by
  refine Met.ofW (cc := cX11_walker) (maxL := 7) (ret := (some .int)) (by decide) rfl ?_
  intro p e s m args below meth c s₁ Bk hml hv
  obtain ⟨rfl, ⟨hsz, hP, hK, hD0⟩, hE, hSR⟩ := hv
  have hx := Bk.exec
  have hb := Bk.bytes
  have hr := Bk.returns
  have hlocks := Bk.notSynchronized
  have hC : CallFix p m c cX11_walker 7 s _ (wu yX11_walker cX11_walker 7 (some .int)) RX11 := ⟨hx, hb, hml, findClass_of_methodNamed Bk.named, atoms_spec (ws := (wu yX11_walker cX11_walker 7 (some .int))) Bk.pre⟩
  subst hsz
  have hD := hD0.self (sz := s.heap.size)
  generalize hAe : va_A w0 s.heap.size = A at hD hE ⊢
  have hA : ∀ q : Nat, s.heap.size ≤ q → A q := fun q h => by rw [← hAe]; exact Or.inr h
  have hw : Wd dC dI A s.heap s.heap [] w0 := ⟨hP, hD, va_S.rf⟩
  have hF : FE ksC [(5, 9, 9), (9, 0, 0), (9, 1, 1), (9, 2, 2), (9, 3, 3), (9, 4, 4), (9, 5, 5), (9, 6, 6), (9, 7, 7), (9, 8, 8)] w0 w0 := FE.rf
  have hl := lv_entry ([.ref (ad 0), .int a1, .int a2, .int a3, .int a4, .int a5]) (n := 7) (Nat.le_of_ble_eq_true rfl)
  rw [lg_entry_eq]
  generalize (lg_sl ([.ref (ad 0), .int a1, .int a2, .int a3, .int a4, .int a5]) ++ List.replicate (7 - (lg_sl ([.ref (ad 0), .int a1, .int a2, .int a3, .int a4, .int a5])).length) Slot.unset).toArray = ls at hl ⊢
  have hl : lv_has ls 7 [(0, .ref (ad 0)), (1, .int a1), (2, .int a2), (3, .int a3), (4, .int a4), (5, .int a5)] := hl
  generalize hloc : ([] : List Loc) = locs at hw ⊢
  have hinX11 : ∀ w ∈ u_ws RX11 TX11 13, w ∈ (wu yX11_walker cX11_walker 7 (some .int)) := fun _ h => List.mem_cons_of_mem _ (up_70 h)
  have hinX5 : ∀ w ∈ u_ws RX5 TX5 14, w ∈ (wu yX11_walker cX11_walker 7 (some .int)) := fun _ h => List.mem_cons_of_mem _ (up_76 h)
  have J24 : ∀ (H : Heap) (locs : List Loc) (ls : Array Slot) (w1 : va_W), Wd dC dI A s.heap H locs w1 → TW ksC ad cy B qr s1 w1 → FE ksC [(5, 9, 9), (9, 0, 0), (9, 1, 1), (9, 2, 2), (9, 3, 3), (9, 4, 4), (9, 5, 5), (9, 6, 6), (9, 7, 7), (9, 8, 8)] w0 w1 → lv_has ls 7 [(0, .ref (ad 0)), (1, .int a1), (2, .int a2), (3, .int a3), (4, .int a4), (5, .int a5)] → W p l e ({ frames := 2, cells := 0, slots := 0, locals := 38 }) s m (List.toArray [.ref (ad 0), .int a1, .int a2, .int a3, .int a4, .int a5]) below meth c H locs 0 0 (MQ below (va_Qi (P_X11_walker_1 ad cy B qr s1 a1 a2 a3 a4 a5 w0) (fun u : va_W => wpost dC dI cy A u) A) (List.toArray [.ref (ad 0), .int a1, .int a2, .int a3, .int a4, .int a5]) s 0 0 A) (F0 m 24 ls []) := by
    intro H locs ls w1 hw hT hF hl
    refine lv_bipush (v := (-2)) hx hb dX11_walker_24 (by decide) ?_
    exact tk_iret hC hr hlocks hK ⟨hT, hF, (Or.inl rfl)⟩ hw dX11_walker_26
  have J52 : ∀ (f52_38_8 : Int32) (f52_39_8 : Int32) (H : Heap) (locs : List Loc) (ls : Array Slot) (w2 : va_W), 0 ≤ a1.toInt → a1.toInt ≤ 9 → 0 ≤ a2.toInt → a2.toInt ≤ 9 → 0 ≤ a3.toInt → a3.toInt ≤ 3 → 1 ≤ f52_38_8.toInt → f52_38_8.toInt ≤ 4 → 1 ≤ f52_39_8.toInt → f52_39_8.toInt ≤ 10 → Wd dC dI A s.heap H locs w2 → TW ksC ad cy B qr s1 w2 → FE ksC [(5, 9, 9), (9, 0, 0), (9, 1, 1), (9, 2, 2), (9, 3, 3), (9, 4, 4), (9, 5, 5), (9, 6, 6), (9, 7, 7), (9, 8, 8)] w0 w2 → gi w2 38 8 = f52_38_8 → gi w2 39 8 = f52_39_8 → lv_has ls 7 [(0, .ref (ad 0)), (1, .int a1), (2, .int a2), (3, .int a3), (4, .int a4), (5, .int a5)] → W p l e ({ frames := 2, cells := 0, slots := 0, locals := 38 }) s m (List.toArray [.ref (ad 0), .int a1, .int a2, .int a3, .int a4, .int a5]) below meth c H locs 0 0 (MQ below (va_Qi (P_X11_walker_1 ad cy B qr s1 a1 a2 a3 a4 a5 w0) (fun u : va_W => wpost dC dI cy A u) A) (List.toArray [.ref (ad 0), .int a1, .int a2, .int a3, .int a4, .int a5]) s 0 0 A) (F0 m 52 ls []) := by
    intro f52_38_8 f52_39_8 H locs ls w2 r3 t4 r5 t6 r7 t8 r9 t10 r12 t13 hw hT hF c11 c14 hl
    refine lv_bipush (v := (-2)) hx hb dX11_walker_52 (by decide) ?_
    exact tk_iret hC hr hlocks hK ⟨hT, hF, (Or.inl rfl)⟩ hw dX11_walker_54
  refine lv_aload_n hx hb dX11_walker_0 rfl (lv_at hl 0 rfl) ?_
  refine lv_iload_n hx hb dX11_walker_1 rfl (lv_at hl 1 rfl) ?_
  refine tk_Vi hC hK hw hT hA hE hSR kC_at0 (by decide) rfl (k_X11_hasCorner_1 l adK adV dC dI cy ad B hB0 (Int.le_trans hB1 (by decide)) qr s1   a1 w0 s.heap.size hT ) (cwV 1 hC.2.2.2.2 uV_RX11_176 rfl rfl rfl (by decide +kernel) ⟨Nat.le_of_ble_eq_true rfl, Nat.le_of_ble_eq_true rfl⟩) rfl hl.1 rfl (Nat.le_of_ble_eq_true rfl) dX11_walker_2 (fun r15 w17 H locs hp16 hw => ?_)
  obtain ⟨hT, k18, hg23⟩ := hp16
  have hF := hF.tr k18 (by decide)
  rcases hg23 with rfl | ⟨rfl, g19, g20, ⟨x21, c22, rx21, tx21⟩⟩
  · refine lv_if_eq (tgt := 24) hx hb dX11_walker_5 (by decide) (fun _ => ?_) (fun c => absurd (by decide) c)
    exact J24  H locs ls w17   hw hT hF  (lv_sub hl [0, 1, 2, 3, 4, 5] rfl)
  · refine lv_if_eq (tgt := 24) hx hb dX11_walker_5 (by decide) (fun c => absurd c (by decide)) (fun _ => ?_)
    refine lv_aload_n hx hb dX11_walker_8 rfl (lv_at hl 0 rfl) ?_
    refine lv_iload_n hx hb dX11_walker_9 rfl (lv_at hl 2 rfl) ?_
    refine tk_Vi hC hK hw hT hA hE hSR kC_at0 (by decide) rfl (k_X11_hasCorner_1 l adK adV dC dI cy ad B hB0 (Int.le_trans hB1 (by decide)) qr s1   a2 w17 H.size hT ) (cwV 1 hC.2.2.2.2 uV_RX11_176 rfl rfl rfl (by decide +kernel) ⟨Nat.le_of_ble_eq_true rfl, Nat.le_of_ble_eq_true rfl⟩) rfl hl.1 rfl (Nat.le_of_ble_eq_true rfl) dX11_walker_10 (fun r24 w26 H locs hp25 hw => ?_)
    obtain ⟨hT, k27, hg32⟩ := hp25
    have hF := hF.tr k27 (by decide)
    have c33 := k27.gi kC_at39 (by decide) c22
    rcases hg32 with rfl | ⟨rfl, g28, g29, ⟨x30, c31, rx30, tx30⟩⟩
    · refine lv_if_eq (tgt := 24) hx hb dX11_walker_13 (by decide) (fun _ => ?_) (fun c => absurd (by decide) c)
      exact J24  H locs ls w26   hw hT hF  (lv_sub hl [0, 1, 2, 3, 4, 5] rfl)
    · have ex30 : x30.toInt = x21.toInt := by rw [← c33.symm.trans c31]
      refine lv_if_eq (tgt := 24) hx hb dX11_walker_13 (by decide) (fun c => absurd c (by decide)) (fun _ => ?_)
      refine lv_aload_n hx hb dX11_walker_16 rfl (lv_at hl 0 rfl) ?_
      refine lv_iload_n hx hb dX11_walker_17 rfl (lv_at hl 3 rfl) ?_
      refine tk_Vi hC hK hw hT hA hE hSR kC_at0 (by decide) rfl (k_X11_hasMap_1 l adK adV dC dI cy ad B hB0 (Int.le_trans hB1 (by decide)) qr s1   a3 w26 H.size hT ) (cwV 1 hC.2.2.2.2 uV_RX11_170 rfl rfl rfl (by decide +kernel) ⟨Nat.le_of_ble_eq_true rfl, Nat.le_of_ble_eq_true rfl⟩) rfl hl.1 rfl (Nat.le_of_ble_eq_true rfl) dX11_walker_18 (fun r34 w36 H locs hp35 hw => ?_)
      obtain ⟨hT, k37, hg42⟩ := hp35
      have hF := hF.tr k37 (by decide)
      have c43 := k37.gi kC_at39 (by decide) c33
      rcases hg42 with rfl | ⟨rfl, g38, g39, ⟨x40, c41, rx40, tx40⟩⟩
      · refine lv_if_ne (tgt := 27) hx hb dX11_walker_21 (by decide) (fun c => absurd (by decide) c) (fun _ => ?_)
        exact J24  H locs ls w36   hw hT hF  (lv_sub hl [0, 1, 2, 3, 4, 5] rfl)
      · refine lv_if_ne (tgt := 27) hx hb dX11_walker_21 (by decide) (fun _ => ?_) (fun c => absurd c (by decide))
        refine lv_aload_n hx hb dX11_walker_27 rfl (lv_at hl 0 rfl) ?_
        refine lv_iload hx hb dX11_walker_28 (lv_at hl 4 rfl) ?_
        refine tk_Vi hC hK hw hT hA hE hSR kC_at0 (by decide) rfl (k_X11_hasRuleOrNone_1 l adK adV dC dI cy ad B hB0 (Int.le_trans hB1 (by decide)) qr s1   a4 w36 H.size hT ) (cwV 1 hC.2.2.2.2 uV_RX11_189 rfl rfl rfl (by decide +kernel) ⟨Nat.le_of_ble_eq_true rfl, Nat.le_of_ble_eq_true rfl⟩) rfl hl.1 rfl (Nat.le_of_ble_eq_true rfl) dX11_walker_30 (fun r44 w46 H locs hp45 hw => ?_)
        obtain ⟨hT, k47, hg50⟩ := hp45
        have hF := hF.tr k47 (by decide)
        have c51 := k47.gi kC_at39 (by decide) c43
        have c52 := k47.gi kC_at38 (by decide) c41
        rcases hg50 with rfl | ⟨rfl, g48, g49⟩
        · refine lv_if_eq (tgt := 52) hx hb dX11_walker_33 (by decide) (fun _ => ?_) (fun c => absurd (by decide) c)
          exact J52 x40 x21 H locs ls w46 (show 0 ≤ a1.toInt by first | with_reducible assumption | omega) (show a1.toInt ≤ 9 by first | with_reducible assumption | omega) (show 0 ≤ a2.toInt by first | with_reducible assumption | omega) (show a2.toInt ≤ 9 by first | with_reducible assumption | omega) (show 0 ≤ a3.toInt by first | with_reducible assumption | omega) (show a3.toInt ≤ 3 by first | with_reducible assumption | omega) (show 1 ≤ x40.toInt by first | with_reducible assumption | omega) (show x40.toInt ≤ 4 by first | with_reducible assumption | omega) (show 1 ≤ x21.toInt by first | with_reducible assumption | omega) (show x21.toInt ≤ 10 by first | with_reducible assumption | omega)  hw hT hF c52 c51 (lv_sub hl [0, 1, 2, 3, 4, 5] rfl)
        · refine lv_if_eq (tgt := 52) hx hb dX11_walker_33 (by decide) (fun c => absurd c (by decide)) (fun _ => ?_)
          refine lv_iload hx hb dX11_walker_36 (lv_at hl 5 rfl) ?_
          refine lv_if_lt (tgt := 52) hx hb dX11_walker_38 (by decide) (fun c53 => ?_) (fun c53 => ?_)
          · have c53 : a5.toInt < (0 : Int) := wk_lt.mp c53
            exact J52 x40 x21 H locs ls w46 (show 0 ≤ a1.toInt by first | with_reducible assumption | omega) (show a1.toInt ≤ 9 by first | with_reducible assumption | omega) (show 0 ≤ a2.toInt by first | with_reducible assumption | omega) (show a2.toInt ≤ 9 by first | with_reducible assumption | omega) (show 0 ≤ a3.toInt by first | with_reducible assumption | omega) (show a3.toInt ≤ 3 by first | with_reducible assumption | omega) (show 1 ≤ x40.toInt by first | with_reducible assumption | omega) (show x40.toInt ≤ 4 by first | with_reducible assumption | omega) (show 1 ≤ x21.toInt by first | with_reducible assumption | omega) (show x21.toInt ≤ 10 by first | with_reducible assumption | omega)  hw hT hF c52 c51 (lv_sub hl [0, 1, 2, 3, 4, 5] rfl)
          · have c53 : (0 : Int) ≤ a5.toInt := wk_ltF c53
            refine lv_aload_n hx hb dX11_walker_41 rfl (lv_at hl 0 rfl) ?_
            refine tk_getA hC hK hw hT hinX11 kC_at0 (by decide) rfl 4 (by decide) (List.mem_cons_of_mem _ uw_1_7) rfl rfl dX11_walker_42 ?_
            refine tk_geti hC hK hw hT hinX5 kC_at38 (by decide) rfl 9 (by decide) (List.mem_cons_of_mem _ uw_38_23) rfl rfl dX11_walker_45 (fun x54 c55 rx54 tx54 => ?_)
            refine lv_iconst (v := 4) hx hb dX11_walker_48 (by decide) ?_
            refine lv_icmp_lt (tgt := 55) hx hb dX11_walker_49 (by decide) (fun c56 => ?_) (fun c56 => ?_)
            · have c56 : x54.toInt < (4 : Int) := wk_lt.mp c56
              refine lv_aload_n hx hb dX11_walker_55 rfl (lv_at hl 0 rfl) ?_
              refine tk_getA hC hK hw hT hinX11 kC_at0 (by decide) rfl 4 (by decide) (List.mem_cons_of_mem _ uw_1_7) rfl rfl dX11_walker_56 ?_
              refine tk_getO hC hK hw hT hinX5 kC_at38 (by decide) rfl 2 (by decide) (List.mem_cons_of_mem _ uw_39_0) rfl rfl dX11_walker_59 ?_
              refine lv_aload_n hx hb dX11_walker_62 rfl (lv_at hl 0 rfl) ?_
              refine tk_getA hC hK hw hT hinX11 kC_at0 (by decide) rfl 4 (by decide) (List.mem_cons_of_mem _ uw_1_7) rfl rfl dX11_walker_63 ?_
              refine tk_geti hC hK hw hT hinX5 kC_at38 (by decide) rfl 9 (by decide) (List.mem_cons_of_mem _ uw_38_23) rfl rfl dX11_walker_66 (fun x57 c58 rx57 tx57 => ?_)
              refine wk_top x54 (c58.symm.trans c55) ?_
              refine tk_aald hC hK hw hT kC_at49 rfl (by decide) rfl (show 0 ≤ x54.toInt from rx54) (show x54.toInt < 4 from c56) dX11_walker_69 (fun j59 hj59 gj59 => ?_)
              refine lv_astore (lv' := [(6, .ref (ad (el 33 49 j59))), (0, .ref (ad 0)), (1, .int a1), (2, .int a2), (3, .int a3), (4, .int a4), (5, .int a5)]) hx hb dX11_walker_70 hl (by decide) rfl (fun ls hl => ?_)
              refine lv_aload hx hb dX11_walker_72 (lv_at hl 0 rfl) ?_
              refine lv_iload_n hx hb dX11_walker_74 rfl (lv_at hl 2 rfl) ?_
              refine lv_iload_n hx hb dX11_walker_75 rfl (lv_at hl 3 rfl) ?_
              refine lv_iload_n hx hb dX11_walker_76 rfl (lv_at hl 4 rfl) ?_
              refine lv_iload hx hb dX11_walker_77 (lv_at hl 5 rfl) ?_
              refine lv_iload hx hb dX11_walker_79 (lv_at hl 6 rfl) ?_
              refine lv_i2l hx hb dX11_walker_81 rfl ?_
              refine lv_topl (fun x60 ex60 => ?_)
              have ex60 : x60.toInt = a5.toInt := by rw [ex60]; exact wk_i2l _
              have bx60 := wk_i32 a5
              refine tk_Vv hC hK hw hT hA hE hSR (kC_el33 kC_at49 hj59) (by decide) rfl (k_X9_setOut_1 l adK adV dC dI cy ad B hB0 (Int.le_trans hB1 (by decide)) qr s1   (el 33 49 j59) (kC_el33 kC_at49 hj59) a1 (show 0 ≤ a1.toInt by first | with_reducible assumption | omega) (show a1.toInt ≤ 9 by first | with_reducible assumption | omega) a2 (show 0 ≤ a2.toInt by first | with_reducible assumption | omega) (show a2.toInt ≤ 9 by first | with_reducible assumption | omega) a3 (show 0 ≤ a3.toInt by first | with_reducible assumption | omega) (show a3.toInt ≤ 3 by first | with_reducible assumption | omega) a4 (show (-1) ≤ a4.toInt by first | with_reducible assumption | omega) (show a4.toInt ≤ 5 by first | with_reducible assumption | omega) x60 (show 0 ≤ x60.toInt by first | with_reducible assumption | omega) (show x60.toInt ≤ 2147483647 by first | with_reducible assumption | omega) w46 H.size hT ) (cwV 5 hC.2.2.2.2 uV_RX11_199 rfl rfl rfl (by decide +kernel) ⟨Nat.le_of_ble_eq_true rfl, Nat.le_of_ble_eq_true rfl⟩) rfl hl.1 rfl (Nat.le_of_ble_eq_true rfl) dX11_walker_82 (fun w63 H locs hp62 hw => ?_)
              obtain ⟨hT, k64, hg73⟩ := hp62
              have hF := hF.tr k64 (by decide)
              have c74 := k64.gi kC_at39 (by decide) c51
              have c75 := k64.gi kC_at38 (by decide) c52
              have c76 := k64.gi kC_at38 (by decide) c55
              obtain ⟨⟨x65, c66, rx65, tx65⟩, ⟨x67, c68, rx67, tx67⟩, ⟨x69, c70, rx69, tx69⟩, ⟨x71, c72, rx71, tx71⟩⟩ := hg73
              refine lv_aload_n hx hb dX11_walker_85 rfl (lv_at hl 1 rfl) ?_
              refine tk_getA hC hK hw hT hinX11 kC_at0 (by decide) rfl 4 (by decide) (List.mem_cons_of_mem _ uw_1_7) rfl rfl dX11_walker_86 ?_
              refine lv_dup hx hb dX11_walker_89 rfl ?_
              refine tk_geti hC hK hw hT hinX5 kC_at38 (by decide) rfl 9 (by decide) (List.mem_cons_of_mem _ uw_38_23) rfl rfl dX11_walker_90 (fun x77 c78 rx77 tx77 => ?_)
              refine wk_top x54 (c78.symm.trans c76) ?_
              refine lv_iconst (v := 1) hx hb dX11_walker_93 (by decide) ?_
              refine lv_iadd hx hb dX11_walker_94 ?_
              refine lv_topi (fun x79 ex79 => ?_)
              have ex79 : x79.toInt = x54.toInt + (1 : Int) := by rw [ex79]; exact wk_add (show (-2147483648) ≤ x54.toInt + (1 : Int) by omega) (show x54.toInt + (1 : Int) ≤ 2147483647 by omega)
              refine tk_puti hC hK hw hT hinX5 tyX5_ok nmX5 kC_at38 (by decide) rfl rfl 9 (by decide) (List.mem_cons_of_mem _ uw_38_23) rfl rfl rfl rfl (show 0 ≤ x79.toInt by first | with_reducible assumption | omega) (show x79.toInt ≤ 4 by first | with_reducible assumption | omega) dX11_walker_95 (fun H locs w80 hw hT k82 c81 => ?_)
              have hF := hF.put kC_at38 (k := 9) (by decide) k82
              have c83 := k82.gi (Or.inr (by decide)) c74
              have c84 := k82.gi (Or.inr (by decide)) c75
              have c85 := k82.gi (Or.inr (by decide)) c66
              have c86 := k82.gi (Or.inr (by decide)) c68
              have c87 := k82.gi (Or.inr (by decide)) c70
              have c88 := k82.gi (Or.inr (by decide)) c72
              refine lv_aload_n hx hb dX11_walker_98 rfl (lv_at hl 1 rfl) ?_
              refine tk_getA hC hK hw hT hinX11 kC_at0 (by decide) rfl 4 (by decide) (List.mem_cons_of_mem _ uw_1_7) rfl rfl dX11_walker_99 ?_
              refine tk_geti hC hK hw hT hinX5 kC_at38 (by decide) rfl 9 (by decide) (List.mem_cons_of_mem _ uw_38_23) rfl rfl dX11_walker_102 (fun x89 c90 rx89 tx89 => ?_)
              refine wk_top x79 (c90.symm.trans c81) ?_
              refine lv_iconst (v := 1) hx hb dX11_walker_105 (by decide) ?_
              refine lv_isub hx hb dX11_walker_106 ?_
              refine lv_topi (fun x91 ex91 => ?_)
              have ex91 : x91.toInt = x79.toInt - (1 : Int) := by rw [ex91]; exact wk_sub (show (-2147483648) ≤ x79.toInt - (1 : Int) by omega) (show x79.toInt - (1 : Int) ≤ 2147483647 by omega)
              exact tk_iret hC hr hlocks hK ⟨hT, hF, (Or.inr ⟨(show 0 ≤ x91.toInt by first | with_reducible assumption | omega), (show x91.toInt ≤ 3 by first | with_reducible assumption | omega), (show 0 ≤ a1.toInt by first | with_reducible assumption | omega), (show a1.toInt ≤ 9 by first | with_reducible assumption | omega), (show 0 ≤ a2.toInt by first | with_reducible assumption | omega), (show a2.toInt ≤ 9 by first | with_reducible assumption | omega), (show 0 ≤ a3.toInt by first | with_reducible assumption | omega), (show a3.toInt ≤ 3 by first | with_reducible assumption | omega), (show (-1) ≤ a4.toInt by first | with_reducible assumption | omega), (show a4.toInt ≤ 5 by first | with_reducible assumption | omega), (show 0 ≤ a5.toInt from c53), ⟨x40, c84, (show 1 ≤ x40.toInt by first | with_reducible assumption | omega), (show x40.toInt ≤ 4 by first | with_reducible assumption | omega)⟩, ⟨x79, c81, (show 1 ≤ x79.toInt by first | with_reducible assumption | omega), (show x79.toInt ≤ 4 by first | with_reducible assumption | omega)⟩, ⟨x21, c83, (show 1 ≤ x21.toInt by first | with_reducible assumption | omega), (show x21.toInt ≤ 10 by first | with_reducible assumption | omega)⟩⟩)⟩ hw dX11_walker_107
            · have c56 : (4 : Int) ≤ x54.toInt := wk_ltF c56
              exact J52 x40 x21 H locs ls w46 (show 0 ≤ a1.toInt by first | with_reducible assumption | omega) (show a1.toInt ≤ 9 by first | with_reducible assumption | omega) (show 0 ≤ a2.toInt by first | with_reducible assumption | omega) (show a2.toInt ≤ 9 by first | with_reducible assumption | omega) (show 0 ≤ a3.toInt by first | with_reducible assumption | omega) (show a3.toInt ≤ 3 by first | with_reducible assumption | omega) (show 1 ≤ x40.toInt by first | with_reducible assumption | omega) (show x40.toInt ≤ 4 by first | with_reducible assumption | omega) (show 1 ≤ x21.toInt by first | with_reducible assumption | omega) (show x21.toInt ≤ 10 by first | with_reducible assumption | omega)  hw hT hF c52 c51 (lv_sub hl [0, 1, 2, 3, 4, 5] rfl)
abbrev P_X11_hasWalker_1 (ad : Nat → Nat) (cy : Nat → ClassId) (B : Int) (qr : Nat) (s1 : Int) (a1 : Int32) (w0 : va_W) : Int32 → va_W → Prop := fun r u => TW ksC ad cy B qr s1 u ∧ FE ksC ([] : List (Nat × Nat × Nat)) w0 u ∧ ((r = 0) ∨ (r = 1 ∧ 0 ≤ a1.toInt ∧ a1.toInt ≤ 3 ∧ (∃ y : Int32, gi u 38 9 = y ∧ 1 ≤ y.toInt ∧ y.toInt ≤ 4)))
set_option maxHeartbeats 4000000 in
set_option maxRecDepth 100000 in
theorem k_X11_hasWalker_1 (l : Launch) (adK adV : Nat → Nat) (dC : Nat → ClassId) (dI : Nat → Nat → Nat) (cy : Nat → ClassId) (ad : Nat → Nat) (B : Int) (hB0 : 2147483648 ≤ B) (hB1 : B ≤ 1152921504606846976) (qr : Nat) (s1 : Int)  (a1 : Int32) (w0 : va_W) (sz : Nat) (hT : TW ksC ad cy B qr s1 w0)  : Met l yX11_hasWalker (wu yX11_hasWalker cX11_hasWalker 2 (some .boolean)) ({ frames := 1, cells := 0, slots := 0, locals := 12 }) (va_Pc [.ref (ad 0), .int a1] (wpreS adK adV dC dI cy sz w0)) (va_Qi (P_X11_hasWalker_1 ad cy B qr s1 a1 w0) (fun u : va_W => wpost dC dI cy (va_A w0 sz) u) (va_A w0 sz)) 0 0 (va_A w0 sz) := by
  refine Met.ofW (cc := cX11_hasWalker) (maxL := 2) (ret := (some .boolean)) (by decide) rfl ?_
  intro p e s m args below meth c s₁ Bk hml hv
  obtain ⟨rfl, ⟨hsz, hP, hK, hD0⟩, hE, hSR⟩ := hv
  have hx := Bk.exec
  have hb := Bk.bytes
  have hr := Bk.returns
  have hlocks := Bk.notSynchronized
  have hC : CallFix p m c cX11_hasWalker 2 s _ (wu yX11_hasWalker cX11_hasWalker 2 (some .boolean)) RX11 := ⟨hx, hb, hml, findClass_of_methodNamed Bk.named, atoms_spec (ws := (wu yX11_hasWalker cX11_hasWalker 2 (some .boolean))) Bk.pre⟩
  subst hsz
  have hD := hD0.self (sz := s.heap.size)
  generalize hAe : va_A w0 s.heap.size = A at hD hE ⊢
  have hA : ∀ q : Nat, s.heap.size ≤ q → A q := fun q h => by rw [← hAe]; exact Or.inr h
  have hw : Wd dC dI A s.heap s.heap [] w0 := ⟨hP, hD, va_S.rf⟩
  have hF : FE ksC ([] : List (Nat × Nat × Nat)) w0 w0 := FE.rf
  have hl := lv_entry ([.ref (ad 0), .int a1]) (n := 2) (Nat.le_of_ble_eq_true rfl)
  rw [lg_entry_eq]
  generalize (lg_sl ([.ref (ad 0), .int a1]) ++ List.replicate (2 - (lg_sl ([.ref (ad 0), .int a1])).length) Slot.unset).toArray = ls at hl ⊢
  have hl : lv_has ls 2 [(0, .ref (ad 0)), (1, .int a1)] := hl
  generalize hloc : ([] : List Loc) = locs at hw ⊢
  have hinX11 : ∀ w ∈ u_ws RX11 TX11 13, w ∈ (wu yX11_hasWalker cX11_hasWalker 2 (some .boolean)) := fun _ h => List.mem_cons_of_mem _ (up_70 h)
  have hinX5 : ∀ w ∈ u_ws RX5 TX5 14, w ∈ (wu yX11_hasWalker cX11_hasWalker 2 (some .boolean)) := fun _ h => List.mem_cons_of_mem _ (up_76 h)
  have J19 : ∀ (H : Heap) (locs : List Loc) (ls : Array Slot) (w1 : va_W), Wd dC dI A s.heap H locs w1 → TW ksC ad cy B qr s1 w1 → FE ksC ([] : List (Nat × Nat × Nat)) w0 w1 → lv_has ls 2 [(0, .ref (ad 0)), (1, .int a1)] → W p l e ({ frames := 1, cells := 0, slots := 0, locals := 12 }) s m (List.toArray [.ref (ad 0), .int a1]) below meth c H locs 0 0 (MQ below (va_Qi (P_X11_hasWalker_1 ad cy B qr s1 a1 w0) (fun u : va_W => wpost dC dI cy A u) A) (List.toArray [.ref (ad 0), .int a1]) s 0 0 A) (F0 m 19 ls []) := by
    intro H locs ls w1 hw hT hF hl
    refine lv_iconst (v := 0) hx hb dX11_hasWalker_19 (by decide) ?_
    exact tk_zret hC hr rfl hlocks hK ⟨hT, hF, (Or.inl rfl)⟩ hw dX11_hasWalker_20
  refine lv_iload_n hx hb dX11_hasWalker_0 rfl (lv_at hl 1 rfl) ?_
  refine lv_if_lt (tgt := 19) hx hb dX11_hasWalker_1 (by decide) (fun c2 => ?_) (fun c2 => ?_)
  · have c2 : a1.toInt < (0 : Int) := wk_lt.mp c2
    exact J19  s.heap locs ls w0   hw hT hF  (lv_sub hl [0, 1] rfl)
  · have c2 : (0 : Int) ≤ a1.toInt := wk_ltF c2
    refine lv_iload_n hx hb dX11_hasWalker_4 rfl (lv_at hl 1 rfl) ?_
    refine lv_aload_n hx hb dX11_hasWalker_5 rfl (lv_at hl 0 rfl) ?_
    refine tk_getA hC hK hw hT hinX11 kC_at0 (by decide) rfl 4 (by decide) (List.mem_cons_of_mem _ uw_1_7) rfl rfl dX11_hasWalker_6 ?_
    refine tk_geti hC hK hw hT hinX5 kC_at38 (by decide) rfl 9 (by decide) (List.mem_cons_of_mem _ uw_38_23) rfl rfl dX11_hasWalker_9 (fun x3 c4 rx3 tx3 => ?_)
    refine lv_icmp_ge (tgt := 19) hx hb dX11_hasWalker_12 (by decide) (fun c5 => ?_) (fun c5 => ?_)
    · have c5 : x3.toInt ≤ a1.toInt := wk_le.mp c5
      exact J19  s.heap locs ls w0   hw hT hF  (lv_sub hl [0, 1] rfl)
    · have c5 : a1.toInt < x3.toInt := wk_leF c5
      refine lv_iconst (v := 1) hx hb dX11_hasWalker_15 (by decide) ?_
      refine lv_goto (tgt := 20) hx hb dX11_hasWalker_16 (by decide) ?_
      exact tk_zret hC hr rfl hlocks hK ⟨hT, hF, (Or.inr ⟨rfl, (show 0 ≤ a1.toInt from c2), (show a1.toInt ≤ 3 by first | with_reducible assumption | omega), ⟨x3, c4, (show 1 ≤ x3.toInt by first | with_reducible assumption | omega), (show x3.toInt ≤ 4 from tx3)⟩⟩)⟩ hw dX11_hasWalker_20
abbrev P_X9_tell_1 (ad : Nat → Nat) (cy : Nat → ClassId) (B : Int) (qr : Nat) (s1 : Int) (q0_ : Nat) (a1 : Int32) (w0 : va_W) : Int32 → va_W → Prop := fun r u => TW ksC ad cy B qr s1 u ∧ FE ksC ([] : List (Nat × Nat × Nat)) w0 u ∧ ((3 ≤ a1.toInt) ∨ (0 ≤ r.toInt ∧ r.toInt ≤ 9 ∧ a1.toInt ≤ 2))
set_option maxHeartbeats 4000000 in
set_option maxRecDepth 100000 in
theorem k_X9_tell_1 (l : Launch) (adK adV : Nat → Nat) (dC : Nat → ClassId) (dI : Nat → Nat → Nat) (cy : Nat → ClassId) (ad : Nat → Nat) (B : Int) (hB0 : 2147483648 ≤ B) (hB1 : B ≤ 1152921504606846976) (qr : Nat) (s1 : Int)  (q0_ : Nat) (hkq0_ : ksC[q0_]? = some 9) (a1 : Int32) (ra1 : 0 ≤ a1.toInt) (ta1 : a1.toInt ≤ 7) (w0 : va_W) (sz : Nat) (hT : TW ksC ad cy B qr s1 w0)  : Met l yX9_tell (wu yX9_tell cX9_tell 2 (some .int)) ({ frames := 1, cells := 0, slots := 0, locals := 12 }) (va_Pc [.ref (ad q0_), .int a1] (wpreS adK adV dC dI cy sz w0)) (va_Qi (P_X9_tell_1 ad cy B qr s1 q0_ a1 w0) (fun u : va_W => wpost dC dI cy (va_A w0 sz) u) (va_A w0 sz)) 0 0 (va_A w0 sz) := by
  refine Met.ofW (cc := cX9_tell) (maxL := 2) (ret := (some .int)) (by decide) rfl ?_
  intro p e s m args below meth c s₁ Bk hml hv
  obtain ⟨rfl, ⟨hsz, hP, hK, hD0⟩, hE, hSR⟩ := hv
  have hx := Bk.exec
  have hb := Bk.bytes
  have hr := Bk.returns
  have hlocks := Bk.notSynchronized
  have hC : CallFix p m c cX9_tell 2 s _ (wu yX9_tell cX9_tell 2 (some .int)) RX9 := ⟨hx, hb, hml, findClass_of_methodNamed Bk.named, atoms_spec (ws := (wu yX9_tell cX9_tell 2 (some .int))) Bk.pre⟩
  subst hsz
  have hD := hD0.self (sz := s.heap.size)
  generalize hAe : va_A w0 s.heap.size = A at hD hE ⊢
  have hA : ∀ q : Nat, s.heap.size ≤ q → A q := fun q h => by rw [← hAe]; exact Or.inr h
  have hw : Wd dC dI A s.heap s.heap [] w0 := ⟨hP, hD, va_S.rf⟩
  have hF : FE ksC ([] : List (Nat × Nat × Nat)) w0 w0 := FE.rf
  have hl := lv_entry ([.ref (ad q0_), .int a1]) (n := 2) (Nat.le_of_ble_eq_true rfl)
  rw [lg_entry_eq]
  generalize (lg_sl ([.ref (ad q0_), .int a1]) ++ List.replicate (2 - (lg_sl ([.ref (ad q0_), .int a1])).length) Slot.unset).toArray = ls at hl ⊢
  have hl : lv_has ls 2 [(0, .ref (ad q0_)), (1, .int a1)] := hl
  generalize hloc : ([] : List Loc) = locs at hw ⊢
  have hinX9 : ∀ w ∈ u_ws RX9 TX9 9, w ∈ (wu yX9_tell cX9_tell 2 (some .int)) := fun _ h => List.mem_cons_of_mem _ (up_82 h)
  refine lv_iload_n hx hb dX9_tell_0 rfl (lv_at hl 1 rfl) ?_
  rcases (show a1.toInt = 0 ∨ a1.toInt = 1 ∨ a1.toInt = 2 ∨ a1.toInt = 3 ∨ a1.toInt = 4 ∨ a1.toInt = 5 ∨ a1.toInt = 6 ∨ (a1.toInt < 0 ∨ 6 < a1.toInt) by omega) with c1 | c1 | c1 | c1 | c1 | c1 | c1 | c1
  · refine lv_tableIn (off := 43) (tgt := 44) hx hb dX9_tell_1 (by omega) (by omega) (by rw [c1]; rfl) (by decide) ?_
    refine lv_aload_n hx hb dX9_tell_44 rfl (lv_at hl 0 rfl) ?_
    refine tk_geti hC hK hw hT hinX9 hkq0_ (by decide) rfl 0 (by decide) (List.mem_cons_of_mem _ uw_39_9) rfl rfl dX9_tell_45 (fun x2 c3 rx2 tx2 => ?_)
    exact tk_iret hC hr hlocks hK ⟨hT, hF, (Or.inr ⟨(show 0 ≤ x2.toInt by first | with_reducible assumption | omega), (show x2.toInt ≤ 9 by first | with_reducible assumption | omega), (show a1.toInt ≤ 2 by first | with_reducible assumption | omega)⟩)⟩ hw dX9_tell_48
  · refine lv_tableIn (off := 48) (tgt := 49) hx hb dX9_tell_1 (by omega) (by omega) (by rw [c1]; rfl) (by decide) ?_
    refine lv_aload_n hx hb dX9_tell_49 rfl (lv_at hl 0 rfl) ?_
    refine tk_geti hC hK hw hT hinX9 hkq0_ (by decide) rfl 1 (by decide) (List.mem_cons_of_mem _ uw_39_10) rfl rfl dX9_tell_50 (fun x4 c5 rx4 tx4 => ?_)
    exact tk_iret hC hr hlocks hK ⟨hT, hF, (Or.inr ⟨(show 0 ≤ x4.toInt by first | with_reducible assumption | omega), (show x4.toInt ≤ 9 by first | with_reducible assumption | omega), (show a1.toInt ≤ 2 by first | with_reducible assumption | omega)⟩)⟩ hw dX9_tell_53
  · refine lv_tableIn (off := 53) (tgt := 54) hx hb dX9_tell_1 (by omega) (by omega) (by rw [c1]; rfl) (by decide) ?_
    refine lv_aload_n hx hb dX9_tell_54 rfl (lv_at hl 0 rfl) ?_
    refine tk_geti hC hK hw hT hinX9 hkq0_ (by decide) rfl 2 (by decide) (List.mem_cons_of_mem _ uw_39_11) rfl rfl dX9_tell_55 (fun x6 c7 rx6 tx6 => ?_)
    exact tk_iret hC hr hlocks hK ⟨hT, hF, (Or.inr ⟨(show 0 ≤ x6.toInt by first | with_reducible assumption | omega), (show x6.toInt ≤ 9 by first | with_reducible assumption | omega), (show a1.toInt ≤ 2 by first | with_reducible assumption | omega)⟩)⟩ hw dX9_tell_58
  · refine lv_tableIn (off := 58) (tgt := 59) hx hb dX9_tell_1 (by omega) (by omega) (by rw [c1]; rfl) (by decide) ?_
    refine lv_aload_n hx hb dX9_tell_59 rfl (lv_at hl 0 rfl) ?_
    refine tk_geti hC hK hw hT hinX9 hkq0_ (by decide) rfl 3 (by decide) (List.mem_cons_of_mem _ uw_39_12) rfl rfl dX9_tell_60 (fun x8 c9 rx8 tx8 => ?_)
    exact tk_iret hC hr hlocks hK ⟨hT, hF, (Or.inl (show 3 ≤ a1.toInt by first | with_reducible assumption | omega))⟩ hw dX9_tell_63
  · refine lv_tableIn (off := 63) (tgt := 64) hx hb dX9_tell_1 (by omega) (by omega) (by rw [c1]; rfl) (by decide) ?_
    refine lv_aload_n hx hb dX9_tell_64 rfl (lv_at hl 0 rfl) ?_
    refine tk_getB hC hK hw hT hinX9 hkq0_ (by decide) rfl 4 (by decide) (List.mem_cons_of_mem _ uw_39_13) rfl rfl dX9_tell_65 (fun x10 c11 rx10 tx10 => ?_)
    refine lv_l2i hx hb dX9_tell_68 rfl ?_
    refine lv_topi (fun x12 ex12 => ?_)
    exact tk_iret hC hr hlocks hK ⟨hT, hF, (Or.inl (show 3 ≤ a1.toInt by first | with_reducible assumption | omega))⟩ hw dX9_tell_69
  · refine lv_tableIn (off := 69) (tgt := 70) hx hb dX9_tell_1 (by omega) (by omega) (by rw [c1]; rfl) (by decide) ?_
    refine lv_aload_n hx hb dX9_tell_70 rfl (lv_at hl 0 rfl) ?_
    refine tk_geti hC hK hw hT hinX9 hkq0_ (by decide) rfl 5 (by decide) (List.mem_cons_of_mem _ uw_39_14) rfl rfl dX9_tell_71 (fun x13 c14 rx13 tx13 => ?_)
    exact tk_iret hC hr hlocks hK ⟨hT, hF, (Or.inl (show 3 ≤ a1.toInt by first | with_reducible assumption | omega))⟩ hw dX9_tell_74
  · refine lv_tableIn (off := 74) (tgt := 75) hx hb dX9_tell_1 (by omega) (by omega) (by rw [c1]; rfl) (by decide) ?_
    refine lv_aload_n hx hb dX9_tell_75 rfl (lv_at hl 0 rfl) ?_
    refine tk_geti hC hK hw hT hinX9 hkq0_ (by decide) rfl 6 (by decide) (List.mem_cons_of_mem _ uw_39_15) rfl rfl dX9_tell_76 (fun x15 c16 rx15 tx15 => ?_)
    exact tk_iret hC hr hlocks hK ⟨hT, hF, (Or.inl (show 3 ≤ a1.toInt by first | with_reducible assumption | omega))⟩ hw dX9_tell_79
  · refine lv_tableOut (tgt := 80) hx hb dX9_tell_1 c1 (by decide) ?_
    refine lv_aload_n hx hb dX9_tell_80 rfl (lv_at hl 0 rfl) ?_
    refine tk_geti hC hK hw hT hinX9 hkq0_ (by decide) rfl 7 (by decide) (List.mem_cons_of_mem _ uw_39_16) rfl rfl dX9_tell_81 (fun x17 c18 rx17 tx17 => ?_)
    exact tk_iret hC hr hlocks hK ⟨hT, hF, (Or.inl (show 3 ≤ a1.toInt by first | with_reducible assumption | omega))⟩ hw dX9_tell_84
abbrev P_X11_about_1 (ad : Nat → Nat) (cy : Nat → ClassId) (B : Int) (qr : Nat) (s1 : Int) (a1 : Int32) (a2 : Int32) (w0 : va_W) : Int32 → va_W → Prop := fun r u => TW ksC ad cy B qr s1 u ∧ FE ksC ([] : List (Nat × Nat × Nat)) w0 u ∧ ((0 ≤ a1.toInt ∧ a1.toInt ≤ 3 ∧ 3 ≤ a2.toInt ∧ a2.toInt ≤ 7 ∧ (∃ y : Int32, gi u 38 9 = y ∧ 1 ≤ y.toInt ∧ y.toInt ≤ 4)) ∨ (0 ≤ r.toInt ∧ r.toInt ≤ 9 ∧ 0 ≤ a1.toInt ∧ a1.toInt ≤ 3 ∧ 0 ≤ a2.toInt ∧ a2.toInt ≤ 2 ∧ (∃ y : Int32, gi u 38 9 = y ∧ 1 ≤ y.toInt ∧ y.toInt ≤ 4)) ∨ (r = (-1)))
set_option maxHeartbeats 4000000 in
set_option maxRecDepth 100000 in
theorem k_X11_about_1 (l : Launch) (adK adV : Nat → Nat) (dC : Nat → ClassId) (dI : Nat → Nat → Nat) (cy : Nat → ClassId) (ad : Nat → Nat) (B : Int) (hB0 : 2147483648 ≤ B) (hB1 : B ≤ 1152921504606846976) (qr : Nat) (s1 : Int)  (a1 : Int32) (a2 : Int32) (w0 : va_W) (sz : Nat) (hT : TW ksC ad cy B qr s1 w0)  : Met l yX11_about (wu yX11_about cX11_about 3 (some .int)) ({ frames := 2, cells := 0, slots := 0, locals := 33 }) (va_Pc [.ref (ad 0), .int a1, .int a2] (wpreS adK adV dC dI cy sz w0)) (va_Qi (P_X11_about_1 ad cy B qr s1 a1 a2 w0) (fun u : va_W => wpost dC dI cy (va_A w0 sz) u) (va_A w0 sz)) 0 0 (va_A w0 sz) := by
  refine Met.ofW (cc := cX11_about) (maxL := 3) (ret := (some .int)) (by decide) rfl ?_
  intro p e s m args below meth c s₁ Bk hml hv
  obtain ⟨rfl, ⟨hsz, hP, hK, hD0⟩, hE, hSR⟩ := hv
  have hx := Bk.exec
  have hb := Bk.bytes
  have hr := Bk.returns
  have hlocks := Bk.notSynchronized
  have hC : CallFix p m c cX11_about 3 s _ (wu yX11_about cX11_about 3 (some .int)) RX11 := ⟨hx, hb, hml, findClass_of_methodNamed Bk.named, atoms_spec (ws := (wu yX11_about cX11_about 3 (some .int))) Bk.pre⟩
  subst hsz
  have hD := hD0.self (sz := s.heap.size)
  generalize hAe : va_A w0 s.heap.size = A at hD hE ⊢
  have hA : ∀ q : Nat, s.heap.size ≤ q → A q := fun q h => by rw [← hAe]; exact Or.inr h
  have hw : Wd dC dI A s.heap s.heap [] w0 := ⟨hP, hD, va_S.rf⟩
  have hF : FE ksC ([] : List (Nat × Nat × Nat)) w0 w0 := FE.rf
  have hl := lv_entry ([.ref (ad 0), .int a1, .int a2]) (n := 3) (Nat.le_of_ble_eq_true rfl)
  rw [lg_entry_eq]
  generalize (lg_sl ([.ref (ad 0), .int a1, .int a2]) ++ List.replicate (3 - (lg_sl ([.ref (ad 0), .int a1, .int a2])).length) Slot.unset).toArray = ls at hl ⊢
  have hl : lv_has ls 3 [(0, .ref (ad 0)), (1, .int a1), (2, .int a2)] := hl
  generalize hloc : ([] : List Loc) = locs at hw ⊢
  have hinX11 : ∀ w ∈ u_ws RX11 TX11 13, w ∈ (wu yX11_about cX11_about 3 (some .int)) := fun _ h => List.mem_cons_of_mem _ (up_70 h)
  have hinX5 : ∀ w ∈ u_ws RX5 TX5 14, w ∈ (wu yX11_about cX11_about 3 (some .int)) := fun _ h => List.mem_cons_of_mem _ (up_76 h)
  have J18 : ∀ (H : Heap) (locs : List Loc) (ls : Array Slot) (w1 : va_W), Wd dC dI A s.heap H locs w1 → TW ksC ad cy B qr s1 w1 → FE ksC ([] : List (Nat × Nat × Nat)) w0 w1 → lv_has ls 3 [(0, .ref (ad 0)), (1, .int a1), (2, .int a2)] → W p l e ({ frames := 2, cells := 0, slots := 0, locals := 33 }) s m (List.toArray [.ref (ad 0), .int a1, .int a2]) below meth c H locs 0 0 (MQ below (va_Qi (P_X11_about_1 ad cy B qr s1 a1 a2 w0) (fun u : va_W => wpost dC dI cy A u) A) (List.toArray [.ref (ad 0), .int a1, .int a2]) s 0 0 A) (F0 m 18 ls []) := by
    intro H locs ls w1 hw hT hF hl
    refine lv_iconst (v := (-1)) hx hb dX11_about_18 (by decide) ?_
    exact tk_iret hC hr hlocks hK ⟨hT, hF, (Or.inr (Or.inr rfl))⟩ hw dX11_about_19
  refine lv_aload_n hx hb dX11_about_0 rfl (lv_at hl 0 rfl) ?_
  refine lv_iload_n hx hb dX11_about_1 rfl (lv_at hl 1 rfl) ?_
  refine tk_Vi hC hK hw hT hA hE hSR kC_at0 (by decide) rfl (k_X11_hasWalker_1 l adK adV dC dI cy ad B hB0 (Int.le_trans hB1 (by decide)) qr s1   a1 w0 s.heap.size hT ) (cwV 1 hC.2.2.2.2 uV_RX11_205 rfl rfl rfl (by decide +kernel) ⟨Nat.le_of_ble_eq_true rfl, Nat.le_of_ble_eq_true rfl⟩) rfl hl.1 rfl (Nat.le_of_ble_eq_true rfl) dX11_about_2 (fun r2 w4 H locs hp3 hw => ?_)
  obtain ⟨hT, k5, hg10⟩ := hp3
  have hF := hF.tr k5 (by decide)
  rcases hg10 with rfl | ⟨rfl, g6, g7, ⟨x8, c9, rx8, tx8⟩⟩
  · refine lv_if_eq (tgt := 18) hx hb dX11_about_5 (by decide) (fun _ => ?_) (fun c => absurd (by decide) c)
    exact J18  H locs ls w4   hw hT hF  (lv_sub hl [0, 1, 2] rfl)
  · refine lv_if_eq (tgt := 18) hx hb dX11_about_5 (by decide) (fun c => absurd c (by decide)) (fun _ => ?_)
    refine lv_iload_n hx hb dX11_about_8 rfl (lv_at hl 2 rfl) ?_
    refine lv_if_lt (tgt := 18) hx hb dX11_about_9 (by decide) (fun c11 => ?_) (fun c11 => ?_)
    · have c11 : a2.toInt < (0 : Int) := wk_lt.mp c11
      exact J18  H locs ls w4   hw hT hF  (lv_sub hl [0, 1, 2] rfl)
    · have c11 : (0 : Int) ≤ a2.toInt := wk_ltF c11
      refine lv_iload_n hx hb dX11_about_12 rfl (lv_at hl 2 rfl) ?_
      refine lv_bipush (v := 7) hx hb dX11_about_13 (by decide) ?_
      refine lv_icmp_le (tgt := 20) hx hb dX11_about_15 (by decide) (fun c12 => ?_) (fun c12 => ?_)
      · have c12 : a2.toInt ≤ (7 : Int) := wk_le.mp c12
        refine lv_aload_n hx hb dX11_about_20 rfl (lv_at hl 0 rfl) ?_
        refine tk_getA hC hK hw hT hinX11 kC_at0 (by decide) rfl 4 (by decide) (List.mem_cons_of_mem _ uw_1_7) rfl rfl dX11_about_21 ?_
        refine tk_getO hC hK hw hT hinX5 kC_at38 (by decide) rfl 2 (by decide) (List.mem_cons_of_mem _ uw_39_0) rfl rfl dX11_about_24 ?_
        refine lv_iload_n hx hb dX11_about_27 rfl (lv_at hl 1 rfl) ?_
        refine tk_aald hC hK hw hT kC_at49 rfl (by decide) rfl (show 0 ≤ a1.toInt by first | with_reducible assumption | omega) (show a1.toInt < 4 by first | with_reducible assumption | omega) dX11_about_28 (fun j13 hj13 gj13 => ?_)
        refine lv_iload_n hx hb dX11_about_29 rfl (lv_at hl 2 rfl) ?_
        refine tk_Vi hC hK hw hT hA hE hSR (kC_el33 kC_at49 hj13) (by decide) rfl (k_X9_tell_1 l adK adV dC dI cy ad B hB0 (Int.le_trans hB1 (by decide)) qr s1   (el 33 49 j13) (kC_el33 kC_at49 hj13) a2 (show 0 ≤ a2.toInt from c11) (show a2.toInt ≤ 7 from c12) w4 H.size hT ) (cwV 1 hC.2.2.2.2 uV_RX11_208 rfl rfl rfl (by decide +kernel) ⟨Nat.le_of_ble_eq_true rfl, Nat.le_of_ble_eq_true rfl⟩) rfl hl.1 rfl (Nat.le_of_ble_eq_true rfl) dX11_about_30 (fun r14 w16 H locs hp15 hw => ?_)
        obtain ⟨hT, k17, hg22⟩ := hp15
        have hF := hF.tr k17 (by decide)
        have c23 := k17.gi kC_at38 (by decide) c9
        rcases hg22 with g18 | ⟨g19, g20, g21⟩
        · exact tk_iret hC hr hlocks hK ⟨hT, hF, (Or.inl ⟨(show 0 ≤ a1.toInt by first | with_reducible assumption | omega), (show a1.toInt ≤ 3 by first | with_reducible assumption | omega), (show 3 ≤ a2.toInt by first | with_reducible assumption | omega), (show a2.toInt ≤ 7 from c12), ⟨x8, c23, (show 1 ≤ x8.toInt by first | with_reducible assumption | omega), (show x8.toInt ≤ 4 by first | with_reducible assumption | omega)⟩⟩)⟩ hw dX11_about_33
        · exact tk_iret hC hr hlocks hK ⟨hT, hF, (Or.inr (Or.inl ⟨(show 0 ≤ r14.toInt by first | with_reducible assumption | omega), (show r14.toInt ≤ 9 by first | with_reducible assumption | omega), (show 0 ≤ a1.toInt by first | with_reducible assumption | omega), (show a1.toInt ≤ 3 by first | with_reducible assumption | omega), (show 0 ≤ a2.toInt from c11), (show a2.toInt ≤ 2 by first | with_reducible assumption | omega), ⟨x8, c23, (show 1 ≤ x8.toInt by first | with_reducible assumption | omega), (show x8.toInt ≤ 4 by first | with_reducible assumption | omega)⟩⟩))⟩ hw dX11_about_33
      · have c12 : (7 : Int) < a2.toInt := wk_leF c12
        exact J18  H locs ls w4   hw hT hF  (lv_sub hl [0, 1, 2] rfl)
abbrev P_X0_spot_2 (ad : Nat → Nat) (cy : Nat → ClassId) (B : Int) (qr : Nat) (s1 : Int) (a0 : Int32) (a1 : Int32) (a2 : Int32) (w0 : va_W) : Int32 → va_W → Prop := fun r u => TW ksC ad cy B qr s1 u ∧ FE ksC ([] : List (Nat × Nat × Nat)) w0 u ∧ ((0 ≤ r.toInt ∧ r.toInt ≤ 1099))
set_option maxHeartbeats 4000000 in
set_option maxRecDepth 100000 in
theorem k_X0_spot_2 (l : Launch) (adK adV : Nat → Nat) (dC : Nat → ClassId) (dI : Nat → Nat → Nat) (cy : Nat → ClassId) (ad : Nat → Nat) (B : Int) (hB0 : 2147483648 ≤ B) (hB1 : B ≤ 1152921504606846976) (qr : Nat) (s1 : Int)  (a0 : Int32) (ra0 : 0 ≤ a0.toInt) (ta0 : a0.toInt ≤ 10) (a1 : Int32) (ra1 : 0 ≤ a1.toInt) (ta1 : a1.toInt ≤ 9) (a2 : Int32) (ra2 : 0 ≤ a2.toInt) (ta2 : a2.toInt ≤ 9) (w0 : va_W) (sz : Nat) (hT : TW ksC ad cy B qr s1 w0)  : Met l yX0_spot (wu yX0_spot cX0_spot 3 (some .int)) ({ frames := 1, cells := 0, slots := 0, locals := 12 }) (va_Pc [.int a0, .int a1, .int a2] (wpreS adK adV dC dI cy sz w0)) (va_Qi (P_X0_spot_2 ad cy B qr s1 a0 a1 a2 w0) (fun u : va_W => wpost dC dI cy (va_A w0 sz) u) (va_A w0 sz)) 0 0 (va_A w0 sz) := by
  refine Met.ofW (cc := cX0_spot) (maxL := 3) (ret := (some .int)) (by decide) rfl ?_
  intro p e s m args below meth c s₁ Bk hml hv
  obtain ⟨rfl, ⟨hsz, hP, hK, hD0⟩, hE, hSR⟩ := hv
  have hx := Bk.exec
  have hb := Bk.bytes
  have hr := Bk.returns
  have hlocks := Bk.notSynchronized
  have hC : CallFix p m c cX0_spot 3 s _ (wu yX0_spot cX0_spot 3 (some .int)) RX0 := ⟨hx, hb, hml, findClass_of_methodNamed Bk.named, atoms_spec (ws := (wu yX0_spot cX0_spot 3 (some .int))) Bk.pre⟩
  subst hsz
  have hD := hD0.self (sz := s.heap.size)
  generalize hAe : va_A w0 s.heap.size = A at hD hE ⊢
  have hA : ∀ q : Nat, s.heap.size ≤ q → A q := fun q h => by rw [← hAe]; exact Or.inr h
  have hw : Wd dC dI A s.heap s.heap [] w0 := ⟨hP, hD, va_S.rf⟩
  have hF : FE ksC ([] : List (Nat × Nat × Nat)) w0 w0 := FE.rf
  have hl := lv_entry ([.int a0, .int a1, .int a2]) (n := 3) (Nat.le_of_ble_eq_true rfl)
  rw [lg_entry_eq]
  generalize (lg_sl ([.int a0, .int a1, .int a2]) ++ List.replicate (3 - (lg_sl ([.int a0, .int a1, .int a2])).length) Slot.unset).toArray = ls at hl ⊢
  have hl : lv_has ls 3 [(0, .int a0), (1, .int a1), (2, .int a2)] := hl
  generalize hloc : ([] : List Loc) = locs at hw ⊢
  refine lv_iload_n hx hb dX0_spot_0 rfl (lv_at hl 0 rfl) ?_
  refine lv_bipush (v := 100) hx hb dX0_spot_1 (by decide) ?_
  refine lv_imul hx hb dX0_spot_3 ?_
  refine lv_topi (fun x1 ex1 => ?_)
  have ex1 : x1.toInt = a0.toInt * (100 : Int) := by rw [ex1]; exact wk_mul (show (-2147483648) ≤ a0.toInt * (100 : Int) by omega) (show a0.toInt * (100 : Int) ≤ 2147483647 by omega)
  refine lv_iload_n hx hb dX0_spot_4 rfl (lv_at hl 1 rfl) ?_
  refine lv_bipush (v := 10) hx hb dX0_spot_5 (by decide) ?_
  refine lv_imul hx hb dX0_spot_7 ?_
  refine lv_topi (fun x2 ex2 => ?_)
  have ex2 : x2.toInt = a1.toInt * (10 : Int) := by rw [ex2]; exact wk_mul (show (-2147483648) ≤ a1.toInt * (10 : Int) by omega) (show a1.toInt * (10 : Int) ≤ 2147483647 by omega)
  refine lv_iadd hx hb dX0_spot_8 ?_
  refine lv_topi (fun x3 ex3 => ?_)
  have ex3 : x3.toInt = x1.toInt + x2.toInt := by rw [ex3]; exact wk_add (show (-2147483648) ≤ x1.toInt + x2.toInt by omega) (show x1.toInt + x2.toInt ≤ 2147483647 by omega)
  refine lv_iload_n hx hb dX0_spot_9 rfl (lv_at hl 2 rfl) ?_
  refine lv_iadd hx hb dX0_spot_10 ?_
  refine lv_topi (fun x4 ex4 => ?_)
  have ex4 : x4.toInt = x3.toInt + a2.toInt := by rw [ex4]; exact wk_add (show (-2147483648) ≤ x3.toInt + a2.toInt by omega) (show x3.toInt + a2.toInt ≤ 2147483647 by omega)
  exact tk_iret hC hr hlocks hK ⟨hT, hF, ⟨(show 0 ≤ x4.toInt by first | with_reducible assumption | omega), (show x4.toInt ≤ 1099 by first | with_reducible assumption | omega)⟩⟩ hw dX0_spot_11
abbrev P_X0_signOf_2 (ad : Nat → Nat) (cy : Nat → ClassId) (B : Int) (qr : Nat) (s1 : Int) (a1 : Int32) (a2 : Int32) (w0 : va_W) : Int32 → va_W → Prop := fun r u => TW ksC ad cy B qr s1 u ∧ FE ksC ([] : List (Nat × Nat × Nat)) w0 u ∧ ((a1.toInt ≤ 3) ∨ (0 ≤ r.toInt ∧ r.toInt ≤ 3 ∧ 4 ≤ a1.toInt))
set_option maxHeartbeats 4000000 in
set_option maxRecDepth 100000 in
theorem k_X0_signOf_2 (l : Launch) (adK adV : Nat → Nat) (dC : Nat → ClassId) (dI : Nat → Nat → Nat) (cy : Nat → ClassId) (ad : Nat → Nat) (B : Int) (hB0 : 2147483648 ≤ B) (hB1 : B ≤ 1152921504606846976) (qr : Nat) (s1 : Int)  (a1 : Int32) (ra1 : 0 ≤ a1.toInt) (ta1 : a1.toInt ≤ 10) (a2 : Int32) (ra2 : 0 ≤ a2.toInt) (ta2 : a2.toInt ≤ 11) (w0 : va_W) (sz : Nat) (hT : TW ksC ad cy B qr s1 w0)  : Met l yX0_signOf (wu yX0_signOf cX0_signOf 3 (some .int)) ({ frames := 2, cells := 0, slots := 0, locals := 34 }) (va_Pc [.ref (ad 145), .int a1, .int a2] (wpreS adK adV dC dI cy sz w0)) (va_Qi (P_X0_signOf_2 ad cy B qr s1 a1 a2 w0) (fun u : va_W => wpost dC dI cy (va_A w0 sz) u) (va_A w0 sz)) 0 0 (va_A w0 sz) := by
  refine Met.ofW (cc := cX0_signOf) (maxL := 3) (ret := (some .int)) (by decide) rfl ?_
  intro p e s m args below meth c s₁ Bk hml hv
  obtain ⟨rfl, ⟨hsz, hP, hK, hD0⟩, hE, hSR⟩ := hv
  have hx := Bk.exec
  have hb := Bk.bytes
  have hr := Bk.returns
  have hlocks := Bk.notSynchronized
  have hC : CallFix p m c cX0_signOf 3 s _ (wu yX0_signOf cX0_signOf 3 (some .int)) RX0 := ⟨hx, hb, hml, findClass_of_methodNamed Bk.named, atoms_spec (ws := (wu yX0_signOf cX0_signOf 3 (some .int))) Bk.pre⟩
  subst hsz
  have hD := hD0.self (sz := s.heap.size)
  generalize hAe : va_A w0 s.heap.size = A at hD hE ⊢
  have hA : ∀ q : Nat, s.heap.size ≤ q → A q := fun q h => by rw [← hAe]; exact Or.inr h
  have hw : Wd dC dI A s.heap s.heap [] w0 := ⟨hP, hD, va_S.rf⟩
  have hF : FE ksC ([] : List (Nat × Nat × Nat)) w0 w0 := FE.rf
  have hl := lv_entry ([.ref (ad 145), .int a1, .int a2]) (n := 3) (Nat.le_of_ble_eq_true rfl)
  rw [lg_entry_eq]
  generalize (lg_sl ([.ref (ad 145), .int a1, .int a2]) ++ List.replicate (3 - (lg_sl ([.ref (ad 145), .int a1, .int a2])).length) Slot.unset).toArray = ls at hl ⊢
  have hl : lv_has ls 3 [(0, .ref (ad 145)), (1, .int a1), (2, .int a2)] := hl
  generalize hloc : ([] : List Loc) = locs at hw ⊢
  have hinX0 : ∀ w ∈ u_ws RX0 TX0 4, w ∈ (wu yX0_signOf cX0_signOf 3 (some .int)) := fun _ h => List.mem_cons_of_mem _ (up_77 h)
  have hinX5 : ∀ w ∈ u_ws RX5 TX5 14, w ∈ (wu yX0_signOf cX0_signOf 3 (some .int)) := fun _ h => List.mem_cons_of_mem _ (up_76 h)
  refine lv_iload_n hx hb dX0_signOf_0 rfl (lv_at hl 1 rfl) ?_
  refine lv_iconst (v := 4) hx hb dX0_signOf_1 (by decide) ?_
  refine lv_icmp_ge (tgt := 20) hx hb dX0_signOf_2 (by decide) (fun c1 => ?_) (fun c1 => ?_)
  · have c1 : (4 : Int) ≤ a1.toInt := wk_le.mp c1
    refine lv_aload_n hx hb dX0_signOf_20 rfl (lv_at hl 0 rfl) ?_
    refine tk_getA hC hK hw hT hinX0 kC_at145 (by decide) rfl 0 (by decide) (List.mem_cons_of_mem _ uw_4_17) rfl rfl dX0_signOf_21 ?_
    refine tk_getO hC hK hw hT hinX5 kC_at38 (by decide) rfl 0 (by decide) (List.mem_cons_of_mem _ uw_36_9) rfl rfl dX0_signOf_24 ?_
    refine lv_iload_n hx hb dX0_signOf_27 rfl (lv_at hl 2 rfl) ?_
    refine lv_iload_n hx hb dX0_signOf_28 rfl (lv_at hl 1 rfl) ?_
    refine lv_iconst (v := 4) hx hb dX0_signOf_29 (by decide) ?_
    refine lv_isub hx hb dX0_signOf_30 ?_
    refine lv_topi (fun x2 ex2 => ?_)
    have ex2 : x2.toInt = a1.toInt - (4 : Int) := by rw [ex2]; exact wk_sub (show (-2147483648) ≤ a1.toInt - (4 : Int) by omega) (show a1.toInt - (4 : Int) ≤ 2147483647 by omega)
    refine tk_Vi hC hK hw hT hA hE hSR kC_at39 (by decide) rfl (k_X7_signOn_1 l adK adV dC dI cy ad B hB0 (Int.le_trans hB1 (by decide)) qr s1   a2 (show 0 ≤ a2.toInt from ra2) (show a2.toInt ≤ 11 from ta2) x2 (show 0 ≤ x2.toInt by first | with_reducible assumption | omega) (show x2.toInt ≤ 6 by first | with_reducible assumption | omega) w0 s.heap.size hT ) (cwV 2 hC.2.2.2.2 uV_RX0_59 rfl rfl rfl (by decide +kernel) ⟨Nat.le_of_ble_eq_true rfl, Nat.le_of_ble_eq_true rfl⟩) rfl hl.1 rfl (Nat.le_of_ble_eq_true rfl) dX0_signOf_31 (fun r3 w5 H locs hp4 hw => ?_)
    obtain ⟨hT, k6, hg9⟩ := hp4
    have hF := hF.tr k6 (by decide)
    obtain ⟨g7, g8⟩ := hg9
    exact tk_iret hC hr hlocks hK ⟨hT, hF, (Or.inr ⟨(show 0 ≤ r3.toInt by first | with_reducible assumption | omega), (show r3.toInt ≤ 3 by first | with_reducible assumption | omega), (show 4 ≤ a1.toInt from c1)⟩)⟩ hw dX0_signOf_34
  · have c1 : a1.toInt < (4 : Int) := wk_leF c1
    refine lv_aload_n hx hb dX0_signOf_5 rfl (lv_at hl 0 rfl) ?_
    refine tk_getA hC hK hw hT hinX0 kC_at145 (by decide) rfl 0 (by decide) (List.mem_cons_of_mem _ uw_4_17) rfl rfl dX0_signOf_6 ?_
    refine tk_getO hC hK hw hT hinX5 kC_at38 (by decide) rfl 1 (by decide) (List.mem_cons_of_mem _ uw_36_19) rfl rfl dX0_signOf_9 ?_
    refine lv_iload_n hx hb dX0_signOf_12 rfl (lv_at hl 1 rfl) ?_
    refine lv_bipush (v := 12) hx hb dX0_signOf_13 (by decide) ?_
    refine lv_imul hx hb dX0_signOf_15 ?_
    refine lv_topi (fun x10 ex10 => ?_)
    have ex10 : x10.toInt = a1.toInt * (12 : Int) := by rw [ex10]; exact wk_mul (show (-2147483648) ≤ a1.toInt * (12 : Int) by omega) (show a1.toInt * (12 : Int) ≤ 2147483647 by omega)
    refine lv_iload_n hx hb dX0_signOf_16 rfl (lv_at hl 2 rfl) ?_
    refine lv_iadd hx hb dX0_signOf_17 ?_
    refine lv_topi (fun x11 ex11 => ?_)
    have ex11 : x11.toInt = x10.toInt + a2.toInt := by rw [ex11]; exact wk_add (show (-2147483648) ≤ x10.toInt + a2.toInt by omega) (show x10.toInt + a2.toInt ≤ 2147483647 by omega)
    refine tk_iald hC hK hw hT kC_at48 rfl rfl (show 0 ≤ x11.toInt by first | with_reducible assumption | omega) (show x11.toInt < 48 by first | with_reducible assumption | omega) dX0_signOf_18 (fun x12 c13 rx12 tx12 => ?_)
    exact tk_iret hC hr hlocks hK ⟨hT, hF, (Or.inl (show a1.toInt ≤ 3 by first | with_reducible assumption | omega))⟩ hw dX0_signOf_19
abbrev P_X0_drawStreets_2 (ad : Nat → Nat) (cy : Nat → ClassId) (B : Int) (qr : Nat) (s1 : Int) (a1 : Int32) (w0 : va_W) : va_W → Prop := fun u => TW ksC ad cy B qr s1 u ∧ FE ksC [(42, 0, 1100), (43, 0, 1100)] w0 u ∧ ((True))
set_option maxHeartbeats 4000000 in
set_option maxRecDepth 100000 in
theorem k_X0_drawStreets_2 (l : Launch) (adK adV : Nat → Nat) (dC : Nat → ClassId) (dI : Nat → Nat → Nat) (cy : Nat → ClassId) (ad : Nat → Nat) (B : Int) (hB0 : 2147483648 ≤ B) (hB1 : B ≤ 1152921504606846976) (qr : Nat) (s1 : Int)  (a1 : Int32) (ra1 : 0 ≤ a1.toInt) (ta1 : a1.toInt ≤ 10) (w0 : va_W) (sz : Nat) (hT : TW ksC ad cy B qr s1 w0)  : Met l yX0_drawStreets (wu yX0_drawStreets cX0_drawStreets 7 none) ({ frames := 3, cells := 0, slots := 0, locals := 56 }) (va_Pc [.ref (ad 145), .int a1] (wpreS adK adV dC dI cy sz w0)) (va_Qv (P_X0_drawStreets_2 ad cy B qr s1 a1 w0) (fun u : va_W => wpost dC dI cy (va_A w0 sz) u) (va_A w0 sz)) 0 0 (va_A w0 sz) := by
  refine Met.ofW (cc := cX0_drawStreets) (maxL := 7) (ret := none) (by decide) rfl ?_
  intro p e s m args below meth c s₁ Bk hml hv
  obtain ⟨rfl, ⟨hsz, hP, hK, hD0⟩, hE, hSR⟩ := hv
  have hx := Bk.exec
  have hb := Bk.bytes
  have hr := Bk.returns
  have hlocks := Bk.notSynchronized
  have hC : CallFix p m c cX0_drawStreets 7 s _ (wu yX0_drawStreets cX0_drawStreets 7 none) RX0 := ⟨hx, hb, hml, findClass_of_methodNamed Bk.named, atoms_spec (ws := (wu yX0_drawStreets cX0_drawStreets 7 none)) Bk.pre⟩
  subst hsz
  have hD := hD0.self (sz := s.heap.size)
  generalize hAe : va_A w0 s.heap.size = A at hD hE ⊢
  have hA : ∀ q : Nat, s.heap.size ≤ q → A q := fun q h => by rw [← hAe]; exact Or.inr h
  have hw : Wd dC dI A s.heap s.heap [] w0 := ⟨hP, hD, va_S.rf⟩
  have hF : FE ksC [(42, 0, 1100), (43, 0, 1100)] w0 w0 := FE.rf
  have hl := lv_entry ([.ref (ad 145), .int a1]) (n := 7) (Nat.le_of_ble_eq_true rfl)
  rw [lg_entry_eq]
  generalize (lg_sl ([.ref (ad 145), .int a1]) ++ List.replicate (7 - (lg_sl ([.ref (ad 145), .int a1])).length) Slot.unset).toArray = ls at hl ⊢
  have hl : lv_has ls 7 [(0, .ref (ad 145)), (1, .int a1)] := hl
  generalize hloc : ([] : List Loc) = locs at hw ⊢
  have hinX7 : ∀ w ∈ u_ws RX7 TX7 12, w ∈ (wu yX0_drawStreets cX0_drawStreets 7 none) := fun _ h => List.mem_cons_of_mem _ (up_73 h)
  have hinX0 : ∀ w ∈ u_ws RX0 TX0 4, w ∈ (wu yX0_drawStreets cX0_drawStreets 7 none) := fun _ h => List.mem_cons_of_mem _ (up_77 h)
  have hinX5 : ∀ w ∈ u_ws RX5 TX5 14, w ∈ (wu yX0_drawStreets cX0_drawStreets 7 none) := fun _ h => List.mem_cons_of_mem _ (up_76 h)
  have L72 : ∀ (n72 : Nat) (v72_3 : Int32) (H : Heap) (locs : List Loc) (ls : Array Slot) (w1 : va_W), 0 ≤ a1.toInt → a1.toInt ≤ 10 → 0 ≤ v72_3.toInt → v72_3.toInt ≤ 12 → (12 - v72_3.toInt).toNat < n72 → Wd dC dI A s.heap H locs w1 → TW ksC ad cy B qr s1 w1 → FE ksC [(42, 0, 1100), (43, 0, 1100)] w0 w1 → lv_has ls 7 [(0, .ref (ad 145)), (1, .int a1), (2, .ref (ad 39)), (3, .int v72_3)] → W p l e ({ frames := 3, cells := 0, slots := 0, locals := 56 }) s m (List.toArray [.ref (ad 145), .int a1]) below meth c H locs 0 0 (MQ below (va_Qv (P_X0_drawStreets_2 ad cy B qr s1 a1 w0) (fun u : va_W => wpost dC dI cy A u) A) (List.toArray [.ref (ad 145), .int a1]) s 0 0 A) (F0 m 72 ls []) := by
    intro n72
    induction n72 with
    | zero => intro v72_3 H locs ls w1 r2 t3 r4 t5 hm72 hw hT hF hl; omega
    | succ n72 ih72 =>
      intro v72_3 H locs ls w1 r2 t3 r4 t5 hm72 hw hT hF hl
      have L91 : ∀ (n91 : Nat) (v91_4 : Int32) (v91_5 : Int32) (f91_39_9 : Int32) (H : Heap) (locs : List Loc) (ls : Array Slot) (w6 : va_W), 0 ≤ a1.toInt → a1.toInt ≤ 10 → 0 ≤ v72_3.toInt → v72_3.toInt ≤ 11 → 0 ≤ v91_5.toInt → v91_5.toInt ≤ 2 → 1 ≤ f91_39_9.toInt → f91_39_9.toInt ≤ 12 → (2 - v91_5.toInt).toNat < n91 → Wd dC dI A s.heap H locs w6 → TW ksC ad cy B qr s1 w6 → FE ksC [(42, 0, 1100), (43, 0, 1100)] w0 w6 → gi w6 39 9 = f91_39_9 → lv_has ls 7 [(0, .ref (ad 145)), (1, .int a1), (2, .ref (ad 39)), (3, .int v72_3), (4, .int v91_4), (5, .int v91_5)] → W p l e ({ frames := 3, cells := 0, slots := 0, locals := 56 }) s m (List.toArray [.ref (ad 145), .int a1]) below meth c H locs 0 0 (MQ below (va_Qv (P_X0_drawStreets_2 ad cy B qr s1 a1 w0) (fun u : va_W => wpost dC dI cy A u) A) (List.toArray [.ref (ad 145), .int a1]) s 0 0 A) (F0 m 91 ls []) := by
        intro n91
        induction n91 with
        | zero => intro v91_4 v91_5 f91_39_9 H locs ls w6 r7 t8 r9 t10 r11 t12 r13 t14 hm91 hw hT hF c15 hl; omega
        | succ n91 ih91 =>
          intro v91_4 v91_5 f91_39_9 H locs ls w6 r7 t8 r9 t10 r11 t12 r13 t14 hm91 hw hT hF c15 hl
          have J158 : ∀ (v158_6 : Int32) (H : Heap) (locs : List Loc) (ls : Array Slot) (w16 : va_W), 0 ≤ a1.toInt → a1.toInt ≤ 10 → 0 ≤ v72_3.toInt → v72_3.toInt ≤ 11 → 0 ≤ v91_5.toInt → v91_5.toInt ≤ 1 → 0 ≤ v158_6.toInt → v158_6.toInt ≤ 1099 → 1 ≤ f91_39_9.toInt → f91_39_9.toInt ≤ 12 → Wd dC dI A s.heap H locs w16 → TW ksC ad cy B qr s1 w16 → FE ksC [(42, 0, 1100), (43, 0, 1100)] w0 w16 → gi w16 39 9 = f91_39_9 → lv_has ls 7 [(0, .ref (ad 145)), (1, .int a1), (2, .ref (ad 39)), (3, .int v72_3), (4, .int v91_4), (5, .int v91_5), (6, .int v158_6)] → W p l e ({ frames := 3, cells := 0, slots := 0, locals := 56 }) s m (List.toArray [.ref (ad 145), .int a1]) below meth c H locs 0 0 (MQ below (va_Qv (P_X0_drawStreets_2 ad cy B qr s1 a1 w0) (fun u : va_W => wpost dC dI cy A u) A) (List.toArray [.ref (ad 145), .int a1]) s 0 0 A) (F0 m 158 ls []) := by
            intro v158_6 H locs ls w16 r17 t18 r19 t20 r21 t22 r23 t24 r25 t26 hw hT hF c27 hl
            obtain ⟨x28, ex28⟩ : ∃ y : Int32, y = v91_5 + Int32.ofInt 1 := ⟨_, rfl⟩
            refine lv_iinc (v := x28) (lv' := [(5, .int x28), (0, .ref (ad 145)), (1, .int a1), (2, .ref (ad 39)), (3, .int v72_3), (4, .int v91_4), (6, .int v158_6)]) hx hb dX0_drawStreets_158 hl (k := 5) rfl ex28.symm (by decide) rfl (fun ls hl => ?_)
            have ex28 : x28.toInt = v91_5.toInt + 1 := by rw [ex28]; exact wk_add (y := 1) (show -2147483648 ≤ v91_5.toInt + 1 by omega) (show v91_5.toInt + 1 ≤ 2147483647 by omega)
            refine lv_goto (tgt := 91) hx hb dX0_drawStreets_161 (by decide) ?_
            exact ih91 v91_4 x28 f91_39_9 H locs ls w16 (show 0 ≤ a1.toInt from r17) (show a1.toInt ≤ 10 from t18) (show 0 ≤ v72_3.toInt from r19) (show v72_3.toInt ≤ 11 from t20) (show 0 ≤ x28.toInt by first | with_reducible assumption | omega) (show x28.toInt ≤ 2 by first | with_reducible assumption | omega) (show 1 ≤ f91_39_9.toInt from r25) (show f91_39_9.toInt ≤ 12 from t26) (show (2 - x28.toInt).toNat < n91 by first | exact tn_lt hm91 (by omega) (by omega) | omega) hw hT hF c27 (lv_sub hl [1, 2, 3, 4, 5, 0] rfl)
          refine lv_iload hx hb dX0_drawStreets_91 (lv_at hl 5 rfl) ?_
          refine lv_iconst (v := 2) hx hb dX0_drawStreets_93 (by decide) ?_
          refine lv_icmp_ge (tgt := 164) hx hb dX0_drawStreets_94 (by decide) (fun c29 => ?_) (fun c29 => ?_)
          · have c29 : (2 : Int) ≤ v91_5.toInt := wk_le.mp c29
            obtain ⟨x30, ex30⟩ : ∃ y : Int32, y = v72_3 + Int32.ofInt 1 := ⟨_, rfl⟩
            refine lv_iinc (v := x30) (lv' := [(3, .int x30), (0, .ref (ad 145)), (1, .int a1), (2, .ref (ad 39)), (4, .int v91_4), (5, .int v91_5)]) hx hb dX0_drawStreets_164 hl (k := 3) rfl ex30.symm (by decide) rfl (fun ls hl => ?_)
            have ex30 : x30.toInt = v72_3.toInt + 1 := by rw [ex30]; exact wk_add (y := 1) (show -2147483648 ≤ v72_3.toInt + 1 by omega) (show v72_3.toInt + 1 ≤ 2147483647 by omega)
            refine lv_goto (tgt := 72) hx hb dX0_drawStreets_167 (by decide) ?_
            exact ih72 x30 H locs ls w6 (show 0 ≤ a1.toInt from r7) (show a1.toInt ≤ 10 from t8) (show 0 ≤ x30.toInt by first | with_reducible assumption | omega) (show x30.toInt ≤ 12 by first | with_reducible assumption | omega) (show (12 - x30.toInt).toNat < n72 by first | exact tn_lt hm72 (by omega) (by omega) | omega) hw hT hF  (lv_sub hl [1, 2, 3, 0] rfl)
          · have c29 : v91_5.toInt < (2 : Int) := wk_leF c29
            refine lv_iload_n hx hb dX0_drawStreets_97 rfl (lv_at hl 1 rfl) ?_
            refine lv_aload_n hx hb dX0_drawStreets_98 rfl (lv_at hl 2 rfl) ?_
            refine lv_iload_n hx hb dX0_drawStreets_99 rfl (lv_at hl 3 rfl) ?_
            refine lv_iconst (v := 1) hx hb dX0_drawStreets_100 (by decide) ?_
            refine lv_iload hx hb dX0_drawStreets_101 (lv_at hl 5 rfl) ?_
            refine lv_isub hx hb dX0_drawStreets_103 ?_
            refine lv_topi (fun x31 ex31 => ?_)
            have ex31 : x31.toInt = (1 : Int) - v91_5.toInt := by rw [ex31]; exact wk_sub (show (-2147483648) ≤ (1 : Int) - v91_5.toInt by omega) (show (1 : Int) - v91_5.toInt ≤ 2147483647 by omega)
            refine tk_Vi hC hK hw hT hA hE hSR kC_at39 (by decide) rfl (k_X7_cornerAcross_1 l adK adV dC dI cy ad B hB0 (Int.le_trans hB1 (by decide)) qr s1   v72_3 (show 0 ≤ v72_3.toInt from r9) (show v72_3.toInt ≤ 11 from t10) x31 (show 0 ≤ x31.toInt by first | with_reducible assumption | omega) (show x31.toInt ≤ 1 by first | with_reducible assumption | omega) w6 H.size hT ) (cwV 2 hC.2.2.2.2 uV_RX0_71 rfl rfl rfl (by decide +kernel) ⟨Nat.le_of_ble_eq_true rfl, Nat.le_of_ble_eq_true rfl⟩) rfl hl.1 rfl (Nat.le_of_ble_eq_true rfl) dX0_drawStreets_104 (fun r32 w34 H locs hp33 hw => ?_)
            obtain ⟨hT, k35, hg38⟩ := hp33
            have hF := hF.tr k35 (by decide)
            have c39 := k35.gi kC_at39 (by decide) c15
            obtain ⟨g36, g37⟩ := hg38
            refine lv_aload_n hx hb dX0_drawStreets_107 rfl (lv_at hl 2 rfl) ?_
            refine lv_iload_n hx hb dX0_drawStreets_108 rfl (lv_at hl 3 rfl) ?_
            refine lv_iload hx hb dX0_drawStreets_109 (lv_at hl 5 rfl) ?_
            refine tk_Vi hC hK hw hT hA hE hSR kC_at39 (by decide) rfl (k_X7_cornerAcross_1 l adK adV dC dI cy ad B hB0 (Int.le_trans hB1 (by decide)) qr s1   v72_3 (show 0 ≤ v72_3.toInt from r9) (show v72_3.toInt ≤ 11 from t10) v91_5 (show 0 ≤ v91_5.toInt from r11) (show v91_5.toInt ≤ 1 by first | with_reducible assumption | omega) w34 H.size hT ) (cwV 2 hC.2.2.2.2 uV_RX0_71 rfl rfl rfl (by decide +kernel) ⟨Nat.le_of_ble_eq_true rfl, Nat.le_of_ble_eq_true rfl⟩) rfl hl.1 rfl (Nat.le_of_ble_eq_true rfl) dX0_drawStreets_111 (fun r40 w42 H locs hp41 hw => ?_)
            obtain ⟨hT, k43, hg46⟩ := hp41
            have hF := hF.tr k43 (by decide)
            have c47 := k43.gi kC_at39 (by decide) c39
            obtain ⟨g44, g45⟩ := hg46
            refine tk_Si hC hK hw hT hA hE hSR (k_X0_spot_2 l adK adV dC dI cy ad B hB0 (Int.le_trans hB1 (by decide)) qr s1   a1 (show 0 ≤ a1.toInt from r7) (show a1.toInt ≤ 10 from t8) r32 (show 0 ≤ r32.toInt by first | with_reducible assumption | omega) (show r32.toInt ≤ 9 by first | with_reducible assumption | omega) r40 (show 0 ≤ r40.toInt by first | with_reducible assumption | omega) (show r40.toInt ≤ 9 by first | with_reducible assumption | omega) w42 H.size hT ) (va_cwS 3 hC.2.2.2.2 uS_RX0_47 rfl rfl rfl (by decide +kernel) ⟨Nat.le_of_ble_eq_true rfl, Nat.le_of_ble_eq_true rfl⟩) rfl hl.1 rfl (Nat.le_of_ble_eq_true rfl) dX0_drawStreets_114 (fun r48 w50 H locs hp49 hw => ?_)
            obtain ⟨hT, k51, hg54⟩ := hp49
            have hF := hF.tr k51 (by decide)
            have c55 := k51.gi kC_at39 (by decide) c47
            obtain ⟨g52, g53⟩ := hg54
            refine lv_istore (lv' := [(6, .int r48), (0, .ref (ad 145)), (1, .int a1), (2, .ref (ad 39)), (3, .int v72_3), (4, .int v91_4), (5, .int v91_5)]) hx hb dX0_drawStreets_117 hl (by decide) rfl (fun ls hl => ?_)
            refine lv_iload hx hb dX0_drawStreets_119 (lv_at hl 5 rfl) ?_
            refine lv_iload hx hb dX0_drawStreets_121 (lv_at hl 6 rfl) ?_
            refine lv_ishr hx hb dX0_drawStreets_123 ?_
            refine lv_topi (fun x56 ex56 => ?_)
            refine lv_iconst (v := 1) hx hb dX0_drawStreets_124 (by decide) ?_
            refine lv_iand hx hb dX0_drawStreets_125 ?_
            refine lv_topi (fun x57 ex57 => ?_)
            have bx57 : 0 ≤ x57.toInt ∧ x57.toInt ≤ (1 : Int) := by rw [ex57]; exact wk_and (by decide)
            refine lv_if_eq (tgt := 158) hx hb dX0_drawStreets_126 (by decide) (fun c58 => ?_) (fun c58 => ?_)
            · have c58 : x57.toInt = (0 : Int) := wk_eq.mp c58
              exact J158 r48 H locs ls w50 (show 0 ≤ a1.toInt from r7) (show a1.toInt ≤ 10 from t8) (show 0 ≤ v72_3.toInt from r9) (show v72_3.toInt ≤ 11 from t10) (show 0 ≤ v91_5.toInt from r11) (show v91_5.toInt ≤ 1 by first | with_reducible assumption | omega) (show 0 ≤ r48.toInt by first | with_reducible assumption | omega) (show r48.toInt ≤ 1099 by first | with_reducible assumption | omega) (show 1 ≤ f91_39_9.toInt from r13) (show f91_39_9.toInt ≤ 12 from t14)  hw hT hF c55 (lv_sub hl [1, 2, 3, 4, 5, 6, 0] rfl)
            · have c58 : ¬ x57.toInt = (0 : Int) := wk_eqF c58
              refine lv_aload_n hx hb dX0_drawStreets_129 rfl (lv_at hl 3 rfl) ?_
              refine tk_getO hC hK hw hT hinX7 kC_at39 (by decide) rfl 1 (by decide) (List.mem_cons_of_mem _ uw_36_11) rfl rfl dX0_drawStreets_130 ?_
              refine lv_iload_n hx hb dX0_drawStreets_133 rfl (lv_at hl 4 rfl) ?_
              refine tk_iald hC hK hw hT kC_at41 rfl rfl (show 0 ≤ v72_3.toInt from r9) (show v72_3.toInt < 13 from Int.lt_of_le_of_lt t10 (by decide)) dX0_drawStreets_134 (fun x59 c60 rx59 tx59 => ?_)
              refine lv_aload_n hx hb dX0_drawStreets_135 rfl (lv_at hl 1 rfl) ?_
              refine tk_getA hC hK hw hT hinX0 kC_at145 (by decide) rfl 1 (by decide) (List.mem_cons_of_mem _ uw_4_14) rfl rfl dX0_drawStreets_136 ?_
              refine lv_iload hx hb dX0_drawStreets_139 (lv_at hl 0 rfl) ?_
              refine tk_iald hC hK hw hT kC_at146 rfl rfl (show 0 ≤ r48.toInt by first | with_reducible assumption | omega) (show r48.toInt < 1100 by first | with_reducible assumption | omega) dX0_drawStreets_141 (fun x61 c62 rx61 tx61 => ?_)
              refine lv_icmp_ge (tgt := 158) hx hb dX0_drawStreets_142 (by decide) (fun c63 => ?_) (fun c63 => ?_)
              · have c63 : x61.toInt ≤ x59.toInt := wk_le.mp c63
                exact J158 r48 H locs ls w50 (show 0 ≤ a1.toInt from r7) (show a1.toInt ≤ 10 from t8) (show 0 ≤ v72_3.toInt from r9) (show v72_3.toInt ≤ 11 from t10) (show 0 ≤ v91_5.toInt from r11) (show v91_5.toInt ≤ 1 by first | with_reducible assumption | omega) (show 0 ≤ r48.toInt by first | with_reducible assumption | omega) (show r48.toInt ≤ 1099 by first | with_reducible assumption | omega) (show 1 ≤ f91_39_9.toInt from r13) (show f91_39_9.toInt ≤ 12 from t14)  hw hT hF c55 (lv_sub hl [1, 2, 3, 4, 5, 6, 0] rfl)
              · have c63 : x59.toInt < x61.toInt := wk_leF c63
                refine lv_aload_n hx hb dX0_drawStreets_145 rfl (lv_at hl 1 rfl) ?_
                refine tk_getA hC hK hw hT hinX0 kC_at145 (by decide) rfl 1 (by decide) (List.mem_cons_of_mem _ uw_4_14) rfl rfl dX0_drawStreets_146 ?_
                refine lv_iload hx hb dX0_drawStreets_149 (lv_at hl 0 rfl) ?_
                refine lv_aload_n hx hb dX0_drawStreets_151 rfl (lv_at hl 3 rfl) ?_
                refine tk_getO hC hK hw hT hinX7 kC_at39 (by decide) rfl 1 (by decide) (List.mem_cons_of_mem _ uw_36_11) rfl rfl dX0_drawStreets_152 ?_
                refine lv_iload_n hx hb dX0_drawStreets_155 rfl (lv_at hl 4 rfl) ?_
                refine tk_iald hC hK hw hT kC_at41 rfl rfl (show 0 ≤ v72_3.toInt from r9) (show v72_3.toInt < 13 from Int.lt_of_le_of_lt t10 (by decide)) dX0_drawStreets_156 (fun x64 c65 rx64 tx64 => ?_)
                refine tk_iast hC hK hw hT kC_at146 (by decide) rfl rfl (show 0 ≤ r48.toInt by first | with_reducible assumption | omega) (show r48.toInt < 1100 by first | with_reducible assumption | omega) (show 0 ≤ x64.toInt from rx64) (show x64.toInt ≤ 1000000 from Int.le_trans tx64 (by decide)) dX0_drawStreets_157 (fun H locs w66 hw hT k68 c67 => ?_)
                have hF := hF.put kC_at146 (inE_of (a := 0) (b := 1100) (by decide) (show 0 ≤ r48.toInt.toNat by omega) (show r48.toInt.toNat ≤ 1100 by omega)) k68
                have c69 := k68.gi (Or.inl (tk_ne kC_at39 kC_at146 (by decide))) c55
                exact J158 r48 H locs ls w66 (show 0 ≤ a1.toInt from r7) (show a1.toInt ≤ 10 from t8) (show 0 ≤ v72_3.toInt from r9) (show v72_3.toInt ≤ 11 from t10) (show 0 ≤ v91_5.toInt from r11) (show v91_5.toInt ≤ 1 by first | with_reducible assumption | omega) (show 0 ≤ r48.toInt by first | with_reducible assumption | omega) (show r48.toInt ≤ 1099 by first | with_reducible assumption | omega) (show 1 ≤ f91_39_9.toInt from r13) (show f91_39_9.toInt ≤ 12 from t14)  hw hT hF c69 (lv_sub hl [1, 2, 3, 4, 5, 6, 0] rfl)
      refine lv_iload_n hx hb dX0_drawStreets_72 rfl (lv_at hl 3 rfl) ?_
      refine lv_aload_n hx hb dX0_drawStreets_73 rfl (lv_at hl 2 rfl) ?_
      refine tk_geti hC hK hw hT hinX7 kC_at39 (by decide) rfl 9 (by decide) (List.mem_cons_of_mem _ uw_36_10) rfl rfl dX0_drawStreets_74 (fun x70 c71 rx70 tx70 => ?_)
      refine lv_icmp_ge (tgt := 170) hx hb dX0_drawStreets_77 (by decide) (fun c72 => ?_) (fun c72 => ?_)
      · have c72 : x70.toInt ≤ v72_3.toInt := wk_le.mp c72
        exact tk_vret hC hr hlocks hK ⟨hT, hF, trivial⟩ hw dX0_drawStreets_170
      · have c72 : v72_3.toInt < x70.toInt := wk_leF c72
        refine lv_aload_n hx hb dX0_drawStreets_80 rfl (lv_at hl 0 rfl) ?_
        refine lv_iload_n hx hb dX0_drawStreets_81 rfl (lv_at hl 1 rfl) ?_
        refine lv_iload_n hx hb dX0_drawStreets_82 rfl (lv_at hl 3 rfl) ?_
        refine tk_Vi hC hK hw hT hA hE hSR kC_at145 (by decide) rfl (k_X0_signOf_2 l adK adV dC dI cy ad B hB0 (Int.le_trans hB1 (by decide)) qr s1   a1 (show 0 ≤ a1.toInt from r2) (show a1.toInt ≤ 10 from t3) v72_3 (show 0 ≤ v72_3.toInt from r4) (show v72_3.toInt ≤ 11 by first | with_reducible assumption | omega) w1 H.size hT ) (cwV 2 hC.2.2.2.2 uV_RX0_68 rfl rfl rfl (by decide +kernel) ⟨Nat.le_of_ble_eq_true rfl, Nat.le_of_ble_eq_true rfl⟩) rfl hl.1 rfl (Nat.le_of_ble_eq_true rfl) dX0_drawStreets_83 (fun r73 w75 H locs hp74 hw => ?_)
        obtain ⟨hT, k76, hg81⟩ := hp74
        have hF := hF.tr k76 (by decide)
        have c82 := k76.gi kC_at39 (by decide) c71
        rcases hg81 with g77 | ⟨g78, g79, g80⟩
        · refine lv_istore (lv' := [(4, .int r73), (0, .ref (ad 145)), (1, .int a1), (2, .ref (ad 39)), (3, .int v72_3)]) hx hb dX0_drawStreets_86 hl (by decide) rfl (fun ls hl => ?_)
          refine lv_iconst (v := 0) hx hb dX0_drawStreets_88 (by decide) ?_
          refine lv_istore (lv' := [(5, .int 0), (4, .int r73), (0, .ref (ad 145)), (1, .int a1), (2, .ref (ad 39)), (3, .int v72_3)]) hx hb dX0_drawStreets_89 hl (by decide) rfl (fun ls hl => ?_)
          exact L91 ((2 - (0 : Int)).toNat + 1) r73 0 x70 H locs ls w75 (show 0 ≤ a1.toInt from r2) (show a1.toInt ≤ 10 from t3) (show 0 ≤ v72_3.toInt from r4) (show v72_3.toInt ≤ 11 by first | with_reducible assumption | omega) (by decide) (by decide) (show 1 ≤ x70.toInt by first | with_reducible assumption | omega) (show x70.toInt ≤ 12 from tx70) (Nat.lt_succ_self _) hw hT hF c82 (lv_sub hl [2, 3, 4, 5, 1, 0] rfl)
        · refine lv_istore (lv' := [(4, .int r73), (0, .ref (ad 145)), (1, .int a1), (2, .ref (ad 39)), (3, .int v72_3)]) hx hb dX0_drawStreets_86 hl (by decide) rfl (fun ls hl => ?_)
          refine lv_iconst (v := 0) hx hb dX0_drawStreets_88 (by decide) ?_
          refine lv_istore (lv' := [(5, .int 0), (4, .int r73), (0, .ref (ad 145)), (1, .int a1), (2, .ref (ad 39)), (3, .int v72_3)]) hx hb dX0_drawStreets_89 hl (by decide) rfl (fun ls hl => ?_)
          exact L91 ((2 - (0 : Int)).toNat + 1) r73 0 x70 H locs ls w75 (show 0 ≤ a1.toInt from r2) (show a1.toInt ≤ 10 from t3) (show 0 ≤ v72_3.toInt from r4) (show v72_3.toInt ≤ 11 by first | with_reducible assumption | omega) (by decide) (by decide) (show 1 ≤ x70.toInt by first | with_reducible assumption | omega) (show x70.toInt ≤ 12 from tx70) (Nat.lt_succ_self _) hw hT hF c82 (lv_sub hl [2, 3, 4, 5, 1, 0] rfl)
  have L2 : ∀ (n2 : Nat) (v2_2 : Int32) (H : Heap) (locs : List Loc) (ls : Array Slot) (w83 : va_W), 0 ≤ a1.toInt → a1.toInt ≤ 10 → 0 ≤ v2_2.toInt → v2_2.toInt ≤ 10 → (10 - v2_2.toInt).toNat < n2 → Wd dC dI A s.heap H locs w83 → TW ksC ad cy B qr s1 w83 → FE ksC [(42, 0, 1100), (43, 0, 1100)] w0 w83 → lv_has ls 7 [(0, .ref (ad 145)), (1, .int a1), (2, .int v2_2)] → W p l e ({ frames := 3, cells := 0, slots := 0, locals := 56 }) s m (List.toArray [.ref (ad 145), .int a1]) below meth c H locs 0 0 (MQ below (va_Qv (P_X0_drawStreets_2 ad cy B qr s1 a1 w0) (fun u : va_W => wpost dC dI cy A u) A) (List.toArray [.ref (ad 145), .int a1]) s 0 0 A) (F0 m 2 ls []) := by
    intro n2
    induction n2 with
    | zero => intro v2_2 H locs ls w83 r84 t85 r86 t87 hm2 hw hT hF hl; omega
    | succ n2 ih2 =>
      intro v2_2 H locs ls w83 r84 t85 r86 t87 hm2 hw hT hF hl
      have L10 : ∀ (n10 : Nat) (v10_3 : Int32) (H : Heap) (locs : List Loc) (ls : Array Slot) (w88 : va_W), 0 ≤ a1.toInt → a1.toInt ≤ 10 → 0 ≤ v2_2.toInt → v2_2.toInt ≤ 9 → 0 ≤ v10_3.toInt → v10_3.toInt ≤ 10 → (10 - v10_3.toInt).toNat < n10 → Wd dC dI A s.heap H locs w88 → TW ksC ad cy B qr s1 w88 → FE ksC [(42, 0, 1100), (43, 0, 1100)] w0 w88 → lv_has ls 7 [(0, .ref (ad 145)), (1, .int a1), (2, .int v2_2), (3, .int v10_3)] → W p l e ({ frames := 3, cells := 0, slots := 0, locals := 56 }) s m (List.toArray [.ref (ad 145), .int a1]) below meth c H locs 0 0 (MQ below (va_Qv (P_X0_drawStreets_2 ad cy B qr s1 a1 w0) (fun u : va_W => wpost dC dI cy A u) A) (List.toArray [.ref (ad 145), .int a1]) s 0 0 A) (F0 m 10 ls []) := by
        intro n10
        induction n10 with
        | zero => intro v10_3 H locs ls w88 r89 t90 r91 t92 r93 t94 hm10 hw hT hF hl; omega
        | succ n10 ih10 =>
          intro v10_3 H locs ls w88 r89 t90 r91 t92 r93 t94 hm10 hw hT hF hl
          refine lv_iload_n hx hb dX0_drawStreets_10 rfl (lv_at hl 3 rfl) ?_
          refine lv_bipush (v := 10) hx hb dX0_drawStreets_11 (by decide) ?_
          refine lv_icmp_ge (tgt := 56) hx hb dX0_drawStreets_13 (by decide) (fun c95 => ?_) (fun c95 => ?_)
          · have c95 : (10 : Int) ≤ v10_3.toInt := wk_le.mp c95
            obtain ⟨x96, ex96⟩ : ∃ y : Int32, y = v2_2 + Int32.ofInt 1 := ⟨_, rfl⟩
            refine lv_iinc (v := x96) (lv' := [(2, .int x96), (0, .ref (ad 145)), (1, .int a1), (3, .int v10_3)]) hx hb dX0_drawStreets_56 hl (k := 2) rfl ex96.symm (by decide) rfl (fun ls hl => ?_)
            have ex96 : x96.toInt = v2_2.toInt + 1 := by rw [ex96]; exact wk_add (y := 1) (show -2147483648 ≤ v2_2.toInt + 1 by omega) (show v2_2.toInt + 1 ≤ 2147483647 by omega)
            refine lv_goto (tgt := 2) hx hb dX0_drawStreets_59 (by decide) ?_
            exact ih2 x96 H locs ls w88 (show 0 ≤ a1.toInt from r89) (show a1.toInt ≤ 10 from t90) (show 0 ≤ x96.toInt by first | with_reducible assumption | omega) (show x96.toInt ≤ 10 by first | with_reducible assumption | omega) (show (10 - x96.toInt).toNat < n2 by first | exact tn_lt hm2 (by omega) (by omega) | omega) hw hT hF  (lv_sub hl [1, 2, 0] rfl)
          · have c95 : v10_3.toInt < (10 : Int) := wk_leF c95
            refine lv_aload_n hx hb dX0_drawStreets_16 rfl (lv_at hl 0 rfl) ?_
            refine tk_getA hC hK hw hT hinX0 kC_at145 (by decide) rfl 1 (by decide) (List.mem_cons_of_mem _ uw_4_14) rfl rfl dX0_drawStreets_17 ?_
            refine lv_iload_n hx hb dX0_drawStreets_20 rfl (lv_at hl 1 rfl) ?_
            refine lv_iload_n hx hb dX0_drawStreets_21 rfl (lv_at hl 2 rfl) ?_
            refine lv_iload_n hx hb dX0_drawStreets_22 rfl (lv_at hl 3 rfl) ?_
            refine tk_Si hC hK hw hT hA hE hSR (k_X0_spot_2 l adK adV dC dI cy ad B hB0 (Int.le_trans hB1 (by decide)) qr s1   a1 (show 0 ≤ a1.toInt from r89) (show a1.toInt ≤ 10 from t90) v2_2 (show 0 ≤ v2_2.toInt from r91) (show v2_2.toInt ≤ 9 from t92) v10_3 (show 0 ≤ v10_3.toInt from r93) (show v10_3.toInt ≤ 9 by first | with_reducible assumption | omega) w88 H.size hT ) (va_cwS 3 hC.2.2.2.2 uS_RX0_47 rfl rfl rfl (by decide +kernel) ⟨Nat.le_of_ble_eq_true rfl, Nat.le_of_ble_eq_true rfl⟩) rfl hl.1 rfl (Nat.le_of_ble_eq_true rfl) dX0_drawStreets_23 (fun r97 w99 H locs hp98 hw => ?_)
            obtain ⟨hT, k100, hg103⟩ := hp98
            have hF := hF.tr k100 (by decide)
            obtain ⟨g101, g102⟩ := hg103
            refine lv_iload_n hx hb dX0_drawStreets_26 rfl (lv_at hl 2 rfl) ?_
            refine lv_iload_n hx hb dX0_drawStreets_27 rfl (lv_at hl 3 rfl) ?_
            refine lv_icmp_ne (tgt := 35) hx hb dX0_drawStreets_28 (by decide) (fun c104 => ?_) (fun c104 => ?_)
            · have c104 : ¬ v2_2.toInt = v10_3.toInt := wk_eqF c104
              refine lv_ldc (v := 1000000) hx hb hC.2.2.2.1 (hC.2.2.2.2 _ (List.mem_cons_of_mem _ uw_36_8)) dX0_drawStreets_35 ?_
              refine tk_iast hC hK hw hT kC_at146 (by decide) rfl rfl (show 0 ≤ r97.toInt by first | with_reducible assumption | omega) (show r97.toInt < 1100 by first | with_reducible assumption | omega) (by decide) (by decide) dX0_drawStreets_37 (fun H locs w105 hw hT k107 c106 => ?_)
              have hF := hF.put kC_at146 (inE_of (a := 0) (b := 1100) (by decide) (show 0 ≤ r97.toInt.toNat by omega) (show r97.toInt.toNat ≤ 1100 by omega)) k107
              refine lv_aload_n hx hb dX0_drawStreets_38 rfl (lv_at hl 0 rfl) ?_
              refine tk_getA hC hK hw hT hinX0 kC_at145 (by decide) rfl 2 (by decide) (List.mem_cons_of_mem _ uw_4_15) rfl rfl dX0_drawStreets_39 ?_
              refine lv_iload_n hx hb dX0_drawStreets_42 rfl (lv_at hl 1 rfl) ?_
              refine lv_iload_n hx hb dX0_drawStreets_43 rfl (lv_at hl 2 rfl) ?_
              refine lv_iload_n hx hb dX0_drawStreets_44 rfl (lv_at hl 3 rfl) ?_
              refine tk_Si hC hK hw hT hA hE hSR (k_X0_spot_2 l adK adV dC dI cy ad B hB0 (Int.le_trans hB1 (by decide)) qr s1   a1 (show 0 ≤ a1.toInt from r89) (show a1.toInt ≤ 10 from t90) v2_2 (show 0 ≤ v2_2.toInt from r91) (show v2_2.toInt ≤ 9 from t92) v10_3 (show 0 ≤ v10_3.toInt from r93) (show v10_3.toInt ≤ 9 by first | with_reducible assumption | omega) w105 H.size hT ) (va_cwS 3 hC.2.2.2.2 uS_RX0_47 rfl rfl rfl (by decide +kernel) ⟨Nat.le_of_ble_eq_true rfl, Nat.le_of_ble_eq_true rfl⟩) rfl hl.1 rfl (Nat.le_of_ble_eq_true rfl) dX0_drawStreets_45 (fun r108 w110 H locs hp109 hw => ?_)
              obtain ⟨hT, k111, hg114⟩ := hp109
              have hF := hF.tr k111 (by decide)
              obtain ⟨g112, g113⟩ := hg114
              refine lv_iconst (v := (-1)) hx hb dX0_drawStreets_48 (by decide) ?_
              refine tk_iast hC hK hw hT kC_at147 (by decide) rfl rfl (show 0 ≤ r108.toInt by first | with_reducible assumption | omega) (show r108.toInt < 1100 by first | with_reducible assumption | omega) (by decide) (by decide) dX0_drawStreets_49 (fun H locs w115 hw hT k117 c116 => ?_)
              have hF := hF.put kC_at147 (inE_of (a := 0) (b := 1100) (by decide) (show 0 ≤ r108.toInt.toNat by omega) (show r108.toInt.toNat ≤ 1100 by omega)) k117
              obtain ⟨x118, ex118⟩ : ∃ y : Int32, y = v10_3 + Int32.ofInt 1 := ⟨_, rfl⟩
              refine lv_iinc (v := x118) (lv' := [(3, .int x118), (0, .ref (ad 145)), (1, .int a1), (2, .int v2_2)]) hx hb dX0_drawStreets_50 hl (k := 3) rfl ex118.symm (by decide) rfl (fun ls hl => ?_)
              have ex118 : x118.toInt = v10_3.toInt + 1 := by rw [ex118]; exact wk_add (y := 1) (show -2147483648 ≤ v10_3.toInt + 1 by omega) (show v10_3.toInt + 1 ≤ 2147483647 by omega)
              refine lv_goto (tgt := 10) hx hb dX0_drawStreets_53 (by decide) ?_
              exact ih10 x118 H locs ls w115 (show 0 ≤ a1.toInt from r89) (show a1.toInt ≤ 10 from t90) (show 0 ≤ v2_2.toInt from r91) (show v2_2.toInt ≤ 9 from t92) (show 0 ≤ x118.toInt by first | with_reducible assumption | omega) (show x118.toInt ≤ 10 by first | with_reducible assumption | omega) (show (10 - x118.toInt).toNat < n10 by first | exact tn_lt hm10 (by omega) (by omega) | omega) hw hT hF  (lv_sub hl [1, 2, 3, 0] rfl)
            · have c104 : v2_2.toInt = v10_3.toInt := wk_eq.mp c104
              refine lv_iconst (v := 0) hx hb dX0_drawStreets_31 (by decide) ?_
              refine lv_goto (tgt := 37) hx hb dX0_drawStreets_32 (by decide) ?_
              refine tk_iast hC hK hw hT kC_at146 (by decide) rfl rfl (show 0 ≤ r97.toInt by first | with_reducible assumption | omega) (show r97.toInt < 1100 by first | with_reducible assumption | omega) (by decide) (by decide) dX0_drawStreets_37 (fun H locs w119 hw hT k121 c120 => ?_)
              have hF := hF.put kC_at146 (inE_of (a := 0) (b := 1100) (by decide) (show 0 ≤ r97.toInt.toNat by omega) (show r97.toInt.toNat ≤ 1100 by omega)) k121
              refine lv_aload_n hx hb dX0_drawStreets_38 rfl (lv_at hl 0 rfl) ?_
              refine tk_getA hC hK hw hT hinX0 kC_at145 (by decide) rfl 2 (by decide) (List.mem_cons_of_mem _ uw_4_15) rfl rfl dX0_drawStreets_39 ?_
              refine lv_iload_n hx hb dX0_drawStreets_42 rfl (lv_at hl 1 rfl) ?_
              refine lv_iload_n hx hb dX0_drawStreets_43 rfl (lv_at hl 2 rfl) ?_
              refine lv_iload_n hx hb dX0_drawStreets_44 rfl (lv_at hl 3 rfl) ?_
              refine tk_Si hC hK hw hT hA hE hSR (k_X0_spot_2 l adK adV dC dI cy ad B hB0 (Int.le_trans hB1 (by decide)) qr s1   a1 (show 0 ≤ a1.toInt from r89) (show a1.toInt ≤ 10 from t90) v2_2 (show 0 ≤ v2_2.toInt from r91) (show v2_2.toInt ≤ 9 from t92) v10_3 (show 0 ≤ v10_3.toInt from r93) (show v10_3.toInt ≤ 9 by first | with_reducible assumption | omega) w119 H.size hT ) (va_cwS 3 hC.2.2.2.2 uS_RX0_47 rfl rfl rfl (by decide +kernel) ⟨Nat.le_of_ble_eq_true rfl, Nat.le_of_ble_eq_true rfl⟩) rfl hl.1 rfl (Nat.le_of_ble_eq_true rfl) dX0_drawStreets_45 (fun r122 w124 H locs hp123 hw => ?_)
              obtain ⟨hT, k125, hg128⟩ := hp123
              have hF := hF.tr k125 (by decide)
              obtain ⟨g126, g127⟩ := hg128
              refine lv_iconst (v := (-1)) hx hb dX0_drawStreets_48 (by decide) ?_
              refine tk_iast hC hK hw hT kC_at147 (by decide) rfl rfl (show 0 ≤ r122.toInt by first | with_reducible assumption | omega) (show r122.toInt < 1100 by first | with_reducible assumption | omega) (by decide) (by decide) dX0_drawStreets_49 (fun H locs w129 hw hT k131 c130 => ?_)
              have hF := hF.put kC_at147 (inE_of (a := 0) (b := 1100) (by decide) (show 0 ≤ r122.toInt.toNat by omega) (show r122.toInt.toNat ≤ 1100 by omega)) k131
              obtain ⟨x132, ex132⟩ : ∃ y : Int32, y = v10_3 + Int32.ofInt 1 := ⟨_, rfl⟩
              refine lv_iinc (v := x132) (lv' := [(3, .int x132), (0, .ref (ad 145)), (1, .int a1), (2, .int v2_2)]) hx hb dX0_drawStreets_50 hl (k := 3) rfl ex132.symm (by decide) rfl (fun ls hl => ?_)
              have ex132 : x132.toInt = v10_3.toInt + 1 := by rw [ex132]; exact wk_add (y := 1) (show -2147483648 ≤ v10_3.toInt + 1 by omega) (show v10_3.toInt + 1 ≤ 2147483647 by omega)
              refine lv_goto (tgt := 10) hx hb dX0_drawStreets_53 (by decide) ?_
              exact ih10 x132 H locs ls w129 (show 0 ≤ a1.toInt from r89) (show a1.toInt ≤ 10 from t90) (show 0 ≤ v2_2.toInt from r91) (show v2_2.toInt ≤ 9 from t92) (show 0 ≤ x132.toInt by first | with_reducible assumption | omega) (show x132.toInt ≤ 10 by first | with_reducible assumption | omega) (show (10 - x132.toInt).toNat < n10 by first | exact tn_lt hm10 (by omega) (by omega) | omega) hw hT hF  (lv_sub hl [1, 2, 3, 0] rfl)
      refine lv_iload_n hx hb dX0_drawStreets_2 rfl (lv_at hl 2 rfl) ?_
      refine lv_bipush (v := 10) hx hb dX0_drawStreets_3 (by decide) ?_
      refine lv_icmp_ge (tgt := 62) hx hb dX0_drawStreets_5 (by decide) (fun c133 => ?_) (fun c133 => ?_)
      · have c133 : (10 : Int) ≤ v2_2.toInt := wk_le.mp c133
        refine lv_aload_n hx hb dX0_drawStreets_62 rfl (lv_at hl 0 rfl) ?_
        refine tk_getA hC hK hw hT hinX0 kC_at145 (by decide) rfl 0 (by decide) (List.mem_cons_of_mem _ uw_4_17) rfl rfl dX0_drawStreets_63 ?_
        refine tk_getO hC hK hw hT hinX5 kC_at38 (by decide) rfl 0 (by decide) (List.mem_cons_of_mem _ uw_36_9) rfl rfl dX0_drawStreets_66 ?_
        refine lv_astore_n (lv' := [(2, .ref (ad 39)), (0, .ref (ad 145)), (1, .int a1)]) hx hb dX0_drawStreets_69 rfl hl (by decide) rfl (fun ls hl => ?_)
        refine lv_iconst (v := 0) hx hb dX0_drawStreets_70 (by decide) ?_
        refine lv_istore_n (lv' := [(3, .int 0), (2, .ref (ad 39)), (0, .ref (ad 145)), (1, .int a1)]) hx hb dX0_drawStreets_71 rfl hl (by decide) rfl (fun ls hl => ?_)
        exact L72 ((12 - (0 : Int)).toNat + 1) 0 H locs ls w83 (show 0 ≤ a1.toInt from r84) (show a1.toInt ≤ 10 from t85) (by decide) (by decide) (Nat.lt_succ_self _) hw hT hF  (lv_sub hl [2, 3, 1, 0] rfl)
      · have c133 : v2_2.toInt < (10 : Int) := wk_leF c133
        refine lv_iconst (v := 0) hx hb dX0_drawStreets_8 (by decide) ?_
        refine lv_istore_n (lv' := [(3, .int 0), (0, .ref (ad 145)), (1, .int a1), (2, .int v2_2)]) hx hb dX0_drawStreets_9 rfl hl (by decide) rfl (fun ls hl => ?_)
        exact L10 ((10 - (0 : Int)).toNat + 1) 0 H locs ls w83 (show 0 ≤ a1.toInt from r84) (show a1.toInt ≤ 10 from t85) (show 0 ≤ v2_2.toInt from r86) (show v2_2.toInt ≤ 9 by first | with_reducible assumption | omega) (by decide) (by decide) (Nat.lt_succ_self _) hw hT hF  (lv_sub hl [1, 2, 3, 0] rfl)
  refine lv_iconst (v := 0) hx hb dX0_drawStreets_0 (by decide) ?_
  refine lv_istore_n (lv' := [(2, .int 0), (0, .ref (ad 145)), (1, .int a1)]) hx hb dX0_drawStreets_1 rfl hl (by decide) rfl (fun ls hl => ?_)
  exact L2 ((10 - (0 : Int)).toNat + 1) 0 s.heap locs ls w0 (show 0 ≤ a1.toInt from ra1) (show a1.toInt ≤ 10 from ta1) (by decide) (by decide) (Nat.lt_succ_self _) hw hT hF  (lv_sub hl [1, 2, 0] rfl)
