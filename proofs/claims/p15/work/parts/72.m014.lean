abbrev P_X4_leastStreet_1 (ad : Nat → Nat) (cy : Nat → ClassId) (B : Int) (qr : Nat) (s1 : Int) (a1 : Int32) (a2 : Int32) (w0 : va_W) : Int32 → va_W → Prop := fun r u => TW ksC ad cy B qr s1 u ∧ FE ksC ([] : List (Nat × Nat × Nat)) w0 u ∧ ((0 ≤ r.toInt ∧ r.toInt ≤ 11 ∧ a2.toInt ≤ 102119 ∧ (∃ y : Int32, gi u 39 9 = y ∧ 1 ≤ y.toInt ∧ y.toInt ≤ 12) ∧ gi u 40 (2 * r.toInt + 0).toNat = a1) ∨ (0 ≤ r.toInt ∧ r.toInt ≤ 11 ∧ a2.toInt ≤ 102119 ∧ (∃ y : Int32, gi u 39 9 = y ∧ 1 ≤ y.toInt ∧ y.toInt ≤ 12) ∧ gi u 40 (2 * r.toInt + 1).toNat = a1) ∨ (r = (-1)))
set_option maxHeartbeats 4000000 in
set_option maxRecDepth 100000 in
theorem k_X4_leastStreet_1 (l : Launch) (adK adV : Nat → Nat) (dC : Nat → ClassId) (dI : Nat → Nat → Nat) (cy : Nat → ClassId) (ad : Nat → Nat) (B : Int) (hB0 : 2147483648 ≤ B) (hB1 : B ≤ 1152921504606846976) (qr : Nat) (s1 : Int)  (a1 : Int32) (ra1 : 0 ≤ a1.toInt) (ta1 : a1.toInt ≤ 9) (a2 : Int32) (ra2 : (-1) ≤ a2.toInt) (ta2 : a2.toInt ≤ 102128) (w0 : va_W) (sz : Nat) (hT : TW ksC ad cy B qr s1 w0)  : Met l yX4_leastStreet (wu yX4_leastStreet cX4_leastStreet 6 (some .int)) ({ frames := 3, cells := 0, slots := 0, locals := 68 }) (va_Pc [.ref (ad 155), .int a1, .int a2] (wpreS adK adV dC dI cy sz w0)) (va_Qi (P_X4_leastStreet_1 ad cy B qr s1 a1 a2 w0) (fun u : va_W => wpost dC dI cy (va_A w0 sz) u) (va_A w0 sz)) 0 0 (va_A w0 sz) := by
  refine Met.ofW (cc := cX4_leastStreet) (maxL := 6) (ret := (some .int)) (by decide) rfl ?_
  intro p e s m args below meth c s₁ Bk hml hv
  obtain ⟨rfl, ⟨hsz, hP, hK, hD0⟩, hE, hSR⟩ := hv
  have hx := Bk.exec
  have hb := Bk.bytes
  have hr := Bk.returns
  have hlocks := Bk.notSynchronized
  have hC : CallFix p m c cX4_leastStreet 6 s _ (wu yX4_leastStreet cX4_leastStreet 6 (some .int)) RX4 := ⟨hx, hb, hml, findClass_of_methodNamed Bk.named, atoms_spec (ws := (wu yX4_leastStreet cX4_leastStreet 6 (some .int))) Bk.pre⟩
  subst hsz
  have hD := hD0.self (sz := s.heap.size)
  generalize hAe : va_A w0 s.heap.size = A at hD hE ⊢
  have hA : ∀ q : Nat, s.heap.size ≤ q → A q := fun q h => by rw [← hAe]; exact Or.inr h
  have hw : Wd dC dI A s.heap s.heap [] w0 := ⟨hP, hD, va_S.rf⟩
  have hF : FE ksC ([] : List (Nat × Nat × Nat)) w0 w0 := FE.rf
  have hl := lv_entry ([.ref (ad 155), .int a1, .int a2]) (n := 6) (Nat.le_of_ble_eq_true rfl)
  rw [lg_entry_eq]
  generalize (lg_sl ([.ref (ad 155), .int a1, .int a2]) ++ List.replicate (6 - (lg_sl ([.ref (ad 155), .int a1, .int a2])).length) Slot.unset).toArray = ls at hl ⊢
  have hl : lv_has ls 6 [(0, .ref (ad 155)), (1, .int a1), (2, .int a2)] := hl
  generalize hloc : ([] : List Loc) = locs at hw ⊢
  have hinX4 : ∀ w ∈ u_ws RX4 TX4 4, w ∈ (wu yX4_leastStreet cX4_leastStreet 6 (some .int)) := fun _ h => List.mem_cons_of_mem _ (up_80 h)
  have hinX7 : ∀ w ∈ u_ws RX7 TX7 12, w ∈ (wu yX4_leastStreet cX4_leastStreet 6 (some .int)) := fun _ h => List.mem_cons_of_mem _ (up_73 h)
  have L2 : ∀ (n2 : Nat) (v2_3 : Int32) (H : Heap) (locs : List Loc) (ls : Array Slot) (w1 : va_W), 0 ≤ a1.toInt → a1.toInt ≤ 9 → (-1) ≤ a2.toInt → a2.toInt ≤ 102128 → 0 ≤ v2_3.toInt → v2_3.toInt ≤ 12 → (12 - v2_3.toInt).toNat < n2 → Wd dC dI A s.heap H locs w1 → TW ksC ad cy B qr s1 w1 → FE ksC ([] : List (Nat × Nat × Nat)) w0 w1 → lv_has ls 6 [(0, .ref (ad 155)), (1, .int a1), (2, .int a2), (3, .int v2_3)] → W p l e ({ frames := 3, cells := 0, slots := 0, locals := 68 }) s m (List.toArray [.ref (ad 155), .int a1, .int a2]) below meth c H locs 0 0 (MQ below (va_Qi (P_X4_leastStreet_1 ad cy B qr s1 a1 a2 w0) (fun u : va_W => wpost dC dI cy A u) A) (List.toArray [.ref (ad 155), .int a1, .int a2]) s 0 0 A) (F0 m 2 ls []) := by
    intro n2
    induction n2 with
    | zero => intro v2_3 H locs ls w1 r2 t3 r4 t5 r6 t7 hm2 hw hT hF hl; omega
    | succ n2 ih2 =>
      intro v2_3 H locs ls w1 r2 t3 r4 t5 r6 t7 hm2 hw hT hF hl
      refine lv_iload_n hx hb dX4_leastStreet_2 rfl (lv_at hl 3 rfl) ?_
      refine lv_aload_n hx hb dX4_leastStreet_3 rfl (lv_at hl 0 rfl) ?_
      refine tk_getA hC hK hw hT hinX4 kC_at155 (by decide) rfl 1 (by decide) (List.mem_cons_of_mem _ uw_5_23) rfl rfl dX4_leastStreet_4 ?_
      refine tk_geti hC hK hw hT hinX7 kC_at39 (by decide) rfl 9 (by decide) (List.mem_cons_of_mem _ uw_51_18) rfl rfl dX4_leastStreet_7 (fun x8 c9 rx8 tx8 => ?_)
      refine lv_icmp_ge (tgt := 88) hx hb dX4_leastStreet_10 (by decide) (fun c10 => ?_) (fun c10 => ?_)
      · have c10 : x8.toInt ≤ v2_3.toInt := wk_le.mp c10
        refine lv_iconst (v := (-1)) hx hb dX4_leastStreet_88 (by decide) ?_
        exact tk_iret hC hr hlocks hK ⟨hT, hF, (Or.inr (Or.inr rfl))⟩ hw dX4_leastStreet_89
      · have c10 : v2_3.toInt < x8.toInt := wk_leF c10
        refine lv_aload_n hx hb dX4_leastStreet_13 rfl (lv_at hl 0 rfl) ?_
        refine tk_getA hC hK hw hT hinX4 kC_at155 (by decide) rfl 1 (by decide) (List.mem_cons_of_mem _ uw_5_23) rfl rfl dX4_leastStreet_14 ?_
        refine lv_iload_n hx hb dX4_leastStreet_17 rfl (lv_at hl 3 rfl) ?_
        refine lv_iload_n hx hb dX4_leastStreet_18 rfl (lv_at hl 1 rfl) ?_
        refine tk_Vi hC hK hw hT hA hE hSR kC_at39 (by decide) rfl (k_X7_sideOf_2 l adK adV dC dI cy ad B hB0 (Int.le_trans hB1 (by decide)) qr s1   v2_3 (show 0 ≤ v2_3.toInt from r6) (show v2_3.toInt ≤ 11 by first | with_reducible assumption | omega) a1 (show 0 ≤ a1.toInt from r2) (show a1.toInt ≤ 9 from t3) w1 H.size hT ) (cwV 2 hC.2.2.2.2 uV_RX4_47 rfl rfl rfl (by decide +kernel) ⟨Nat.le_of_ble_eq_true rfl, Nat.le_of_ble_eq_true rfl⟩) rfl hl.1 rfl (Nat.le_of_ble_eq_true rfl) dX4_leastStreet_19 (fun r11 w13 H locs hp12 hw => ?_)
        obtain ⟨hT, k14, hg17⟩ := hp12
        have hF := hF.tr k14 (by decide)
        have c18 := k14.gi kC_at39 (by decide) c9
        rcases hg17 with rfl | ⟨rfl, c15⟩ | ⟨rfl, c16⟩
        · refine lv_istore (lv' := [(4, .int (-1)), (0, .ref (ad 155)), (1, .int a1), (2, .int a2), (3, .int v2_3)]) hx hb dX4_leastStreet_22 hl (by decide) rfl (fun ls hl => ?_)
          refine lv_iload hx hb dX4_leastStreet_24 (lv_at hl 0 rfl) ?_
          refine lv_iconst (v := (-1)) hx hb dX4_leastStreet_26 (by decide) ?_
          refine lv_icmp_eq (tgt := 82) hx hb dX4_leastStreet_27 (by decide) (fun _ => ?_) (fun c => absurd (by decide) c)
          obtain ⟨x19, ex19⟩ : ∃ y : Int32, y = v2_3 + Int32.ofInt 1 := ⟨_, rfl⟩
          refine lv_iinc (v := x19) (lv' := [(3, .int x19), (4, .int (-1)), (0, .ref (ad 155)), (1, .int a1), (2, .int a2)]) hx hb dX4_leastStreet_82 hl (k := 4) rfl ex19.symm (by decide) rfl (fun ls hl => ?_)
          have ex19 : x19.toInt = v2_3.toInt + 1 := by rw [ex19]; exact wk_add (y := 1) (show -2147483648 ≤ v2_3.toInt + 1 by omega) (show v2_3.toInt + 1 ≤ 2147483647 by omega)
          refine lv_goto (tgt := 2) hx hb dX4_leastStreet_85 (by decide) ?_
          exact ih2 x19 H locs ls w13 (show 0 ≤ a1.toInt from r2) (show a1.toInt ≤ 9 from t3) (show (-1) ≤ a2.toInt from r4) (show a2.toInt ≤ 102128 from t5) (show 0 ≤ x19.toInt by first | with_reducible assumption | omega) (show x19.toInt ≤ 12 by first | with_reducible assumption | omega) (show (12 - x19.toInt).toNat < n2 by first | exact tn_lt hm2 (by omega) (by omega) | omega) hw hT hF  (lv_sub hl [2, 3, 4, 0] rfl)
        · refine lv_istore (lv' := [(4, .int 0), (0, .ref (ad 155)), (1, .int a1), (2, .int a2), (3, .int v2_3)]) hx hb dX4_leastStreet_22 hl (by decide) rfl (fun ls hl => ?_)
          refine lv_iload hx hb dX4_leastStreet_24 (lv_at hl 0 rfl) ?_
          refine lv_iconst (v := (-1)) hx hb dX4_leastStreet_26 (by decide) ?_
          refine lv_icmp_eq (tgt := 82) hx hb dX4_leastStreet_27 (by decide) (fun c => absurd c (by decide)) (fun _ => ?_)
          refine lv_aload_n hx hb dX4_leastStreet_30 rfl (lv_at hl 1 rfl) ?_
          refine tk_getA hC hK hw hT hinX4 kC_at155 (by decide) rfl 2 (by decide) (List.mem_cons_of_mem _ uw_5_19) rfl rfl dX4_leastStreet_31 ?_
          refine lv_aload_n hx hb dX4_leastStreet_34 rfl (lv_at hl 1 rfl) ?_
          refine tk_getA hC hK hw hT hinX4 kC_at155 (by decide) rfl 1 (by decide) (List.mem_cons_of_mem _ uw_5_23) rfl rfl dX4_leastStreet_35 ?_
          refine lv_iload_n hx hb dX4_leastStreet_38 rfl (lv_at hl 4 rfl) ?_
          refine lv_iload hx hb dX4_leastStreet_39 (lv_at hl 0 rfl) ?_
          refine tk_Vi hC hK hw hT hA hE hSR kC_at39 (by decide) rfl (k_X7_cornerAcross_2 l adK adV dC dI cy ad B hB0 (Int.le_trans hB1 (by decide)) qr s1   v2_3 (show 0 ≤ v2_3.toInt from r6) (show v2_3.toInt ≤ 11 by first | with_reducible assumption | omega) w13 H.size hT ) (cwV 2 hC.2.2.2.2 uV_RX4_51 rfl rfl rfl (by decide +kernel) ⟨Nat.le_of_ble_eq_true rfl, Nat.le_of_ble_eq_true rfl⟩) rfl hl.1 rfl (Nat.le_of_ble_eq_true rfl) dX4_leastStreet_41 (fun r20 w22 H locs hp21 hw => ?_)
          obtain ⟨hT, k23, hg26⟩ := hp21
          have hF := hF.tr k23 (by decide)
          have c27 := k23.gi kC_at39 (by decide) c18
          have c28 := k23.gi kC_at40 rfl c15
          obtain ⟨g24, g25⟩ := hg26
          refine tk_iald hC hK hw hT kC_at156 rfl rfl (show 0 ≤ r20.toInt by first | with_reducible assumption | omega) (show r20.toInt < 10 by first | with_reducible assumption | omega) dX4_leastStreet_44 (fun x29 c30 rx29 tx29 => ?_)
          refine lv_aload_n hx hb dX4_leastStreet_45 rfl (lv_at hl 1 rfl) ?_
          refine tk_getA hC hK hw hT hinX4 kC_at155 (by decide) rfl 1 (by decide) (List.mem_cons_of_mem _ uw_5_23) rfl rfl dX4_leastStreet_46 ?_
          refine tk_getO hC hK hw hT hinX7 kC_at39 (by decide) rfl 1 (by decide) (List.mem_cons_of_mem _ uw_50_7) rfl rfl dX4_leastStreet_49 ?_
          refine lv_iload_n hx hb dX4_leastStreet_52 rfl (lv_at hl 4 rfl) ?_
          refine tk_iald hC hK hw hT kC_at41 rfl rfl (show 0 ≤ v2_3.toInt from r6) (show v2_3.toInt < 13 from Int.lt_of_le_of_lt t7 (by decide)) dX4_leastStreet_53 (fun x31 c32 rx31 tx31 => ?_)
          refine lv_isub hx hb dX4_leastStreet_54 ?_
          refine lv_topi (fun x33 ex33 => ?_)
          have ex33 : x33.toInt = x29.toInt - x31.toInt := by rw [ex33]; exact wk_sub (show (-2147483648) ≤ x29.toInt - x31.toInt by omega) (show x29.toInt - x31.toInt ≤ 2147483647 by omega)
          refine lv_istore (lv' := [(5, .int x33), (4, .int 0), (0, .ref (ad 155)), (1, .int a1), (2, .int a2), (3, .int v2_3)]) hx hb dX4_leastStreet_55 hl (by decide) rfl (fun ls hl => ?_)
          refine lv_iload hx hb dX4_leastStreet_57 (lv_at hl 0 rfl) ?_
          refine lv_iload_n hx hb dX4_leastStreet_59 rfl (lv_at hl 4 rfl) ?_
          refine lv_icmp_lt (tgt := 82) hx hb dX4_leastStreet_60 (by decide) (fun c34 => ?_) (fun c34 => ?_)
          · have c34 : x33.toInt < a2.toInt := wk_lt.mp c34
            obtain ⟨x35, ex35⟩ : ∃ y : Int32, y = v2_3 + Int32.ofInt 1 := ⟨_, rfl⟩
            refine lv_iinc (v := x35) (lv' := [(3, .int x35), (5, .int x33), (4, .int 0), (0, .ref (ad 155)), (1, .int a1), (2, .int a2)]) hx hb dX4_leastStreet_82 hl (k := 5) rfl ex35.symm (by decide) rfl (fun ls hl => ?_)
            have ex35 : x35.toInt = v2_3.toInt + 1 := by rw [ex35]; exact wk_add (y := 1) (show -2147483648 ≤ v2_3.toInt + 1 by omega) (show v2_3.toInt + 1 ≤ 2147483647 by omega)
            refine lv_goto (tgt := 2) hx hb dX4_leastStreet_85 (by decide) ?_
            exact ih2 x35 H locs ls w22 (show 0 ≤ a1.toInt from r2) (show a1.toInt ≤ 9 from t3) (show (-1) ≤ a2.toInt from r4) (show a2.toInt ≤ 102128 from t5) (show 0 ≤ x35.toInt by first | with_reducible assumption | omega) (show x35.toInt ≤ 12 by first | with_reducible assumption | omega) (show (12 - x35.toInt).toNat < n2 by first | exact tn_lt hm2 (by omega) (by omega) | omega) hw hT hF  (lv_sub hl [3, 4, 5, 0] rfl)
          · have c34 : a2.toInt ≤ x33.toInt := wk_ltF c34
            refine lv_aload_n hx hb dX4_leastStreet_63 rfl (lv_at hl 2 rfl) ?_
            refine tk_getA hC hK hw hT hinX4 kC_at155 (by decide) rfl 1 (by decide) (List.mem_cons_of_mem _ uw_5_23) rfl rfl dX4_leastStreet_64 ?_
            refine lv_iload_n hx hb dX4_leastStreet_67 rfl (lv_at hl 5 rfl) ?_
            refine lv_iload hx hb dX4_leastStreet_68 (lv_at hl 1 rfl) ?_
            refine lv_iload_n hx hb dX4_leastStreet_70 rfl (lv_at hl 4 rfl) ?_
            refine lv_iload hx hb dX4_leastStreet_71 (lv_at hl 0 rfl) ?_
            refine tk_Vi hC hK hw hT hA hE hSR kC_at39 (by decide) rfl (k_X7_firstOpen_5 l adK adV dC dI cy ad B hB0 (Int.le_trans hB1 (by decide)) qr s1   v2_3 (show 0 ≤ v2_3.toInt from r6) (show v2_3.toInt ≤ 11 by first | with_reducible assumption | omega) a2 (show (-1) ≤ a2.toInt from r4) (show a2.toInt ≤ 102119 by first | with_reducible assumption | omega) x33 (show (-1) ≤ x33.toInt by first | with_reducible assumption | omega) (show x33.toInt ≤ 102119 by first | with_reducible assumption | omega) w22 H.size hT ) (cwV 4 hC.2.2.2.2 uV_RX4_57 rfl rfl rfl (by decide +kernel) ⟨Nat.le_of_ble_eq_true rfl, Nat.le_of_ble_eq_true rfl⟩) rfl hl.1 rfl (Nat.le_of_ble_eq_true rfl) dX4_leastStreet_73 (fun r36 w38 H locs hp37 hw => ?_)
            obtain ⟨hT, k39, hg43⟩ := hp37
            have hF := hF.tr k39 (by decide)
            have c44 := k39.gi kC_at39 (by decide) c27
            have c45 := k39.gi kC_at40 rfl c28
            rcases hg43 with ⟨g40, g41, g42⟩ | rfl
            · refine lv_iconst (v := (-1)) hx hb dX4_leastStreet_76 (by decide) ?_
              refine lv_icmp_eq (tgt := 82) hx hb dX4_leastStreet_77 (by decide) (fun c => absurd c (fun h => absurd (show r36.toInt = (-1 : Int) from wk_eq.mp h) (by omega))) (fun _ => ?_)
              refine lv_iload_n hx hb dX4_leastStreet_80 rfl (lv_at hl 5 rfl) ?_
              exact tk_iret hC hr hlocks hK ⟨hT, hF, (Or.inl ⟨(show 0 ≤ v2_3.toInt from r6), (show v2_3.toInt ≤ 11 by first | with_reducible assumption | omega), (show a2.toInt ≤ 102119 by first | with_reducible assumption | omega), ⟨x8, c44, (show 1 ≤ x8.toInt by first | with_reducible assumption | omega), (show x8.toInt ≤ 12 from tx8)⟩, c45⟩)⟩ hw dX4_leastStreet_81
            · refine lv_iconst (v := (-1)) hx hb dX4_leastStreet_76 (by decide) ?_
              refine lv_icmp_eq (tgt := 82) hx hb dX4_leastStreet_77 (by decide) (fun _ => ?_) (fun c => absurd (by decide) c)
              obtain ⟨x46, ex46⟩ : ∃ y : Int32, y = v2_3 + Int32.ofInt 1 := ⟨_, rfl⟩
              refine lv_iinc (v := x46) (lv' := [(3, .int x46), (5, .int x33), (4, .int 0), (0, .ref (ad 155)), (1, .int a1), (2, .int a2)]) hx hb dX4_leastStreet_82 hl (k := 5) rfl ex46.symm (by decide) rfl (fun ls hl => ?_)
              have ex46 : x46.toInt = v2_3.toInt + 1 := by rw [ex46]; exact wk_add (y := 1) (show -2147483648 ≤ v2_3.toInt + 1 by omega) (show v2_3.toInt + 1 ≤ 2147483647 by omega)
              refine lv_goto (tgt := 2) hx hb dX4_leastStreet_85 (by decide) ?_
              exact ih2 x46 H locs ls w38 (show 0 ≤ a1.toInt from r2) (show a1.toInt ≤ 9 from t3) (show (-1) ≤ a2.toInt from r4) (show a2.toInt ≤ 102128 from t5) (show 0 ≤ x46.toInt by first | with_reducible assumption | omega) (show x46.toInt ≤ 12 by first | with_reducible assumption | omega) (show (12 - x46.toInt).toNat < n2 by first | exact tn_lt hm2 (by omega) (by omega) | omega) hw hT hF  (lv_sub hl [3, 4, 5, 0] rfl)
        · refine lv_istore (lv' := [(4, .int 1), (0, .ref (ad 155)), (1, .int a1), (2, .int a2), (3, .int v2_3)]) hx hb dX4_leastStreet_22 hl (by decide) rfl (fun ls hl => ?_)
          refine lv_iload hx hb dX4_leastStreet_24 (lv_at hl 0 rfl) ?_
          refine lv_iconst (v := (-1)) hx hb dX4_leastStreet_26 (by decide) ?_
          refine lv_icmp_eq (tgt := 82) hx hb dX4_leastStreet_27 (by decide) (fun c => absurd c (by decide)) (fun _ => ?_)
          refine lv_aload_n hx hb dX4_leastStreet_30 rfl (lv_at hl 1 rfl) ?_
          refine tk_getA hC hK hw hT hinX4 kC_at155 (by decide) rfl 2 (by decide) (List.mem_cons_of_mem _ uw_5_19) rfl rfl dX4_leastStreet_31 ?_
          refine lv_aload_n hx hb dX4_leastStreet_34 rfl (lv_at hl 1 rfl) ?_
          refine tk_getA hC hK hw hT hinX4 kC_at155 (by decide) rfl 1 (by decide) (List.mem_cons_of_mem _ uw_5_23) rfl rfl dX4_leastStreet_35 ?_
          refine lv_iload_n hx hb dX4_leastStreet_38 rfl (lv_at hl 4 rfl) ?_
          refine lv_iload hx hb dX4_leastStreet_39 (lv_at hl 0 rfl) ?_
          refine tk_Vi hC hK hw hT hA hE hSR kC_at39 (by decide) rfl (k_X7_cornerAcross_3 l adK adV dC dI cy ad B hB0 (Int.le_trans hB1 (by decide)) qr s1   v2_3 (show 0 ≤ v2_3.toInt from r6) (show v2_3.toInt ≤ 11 by first | with_reducible assumption | omega) w13 H.size hT ) (cwV 2 hC.2.2.2.2 uV_RX4_51 rfl rfl rfl (by decide +kernel) ⟨Nat.le_of_ble_eq_true rfl, Nat.le_of_ble_eq_true rfl⟩) rfl hl.1 rfl (Nat.le_of_ble_eq_true rfl) dX4_leastStreet_41 (fun r47 w49 H locs hp48 hw => ?_)
          obtain ⟨hT, k50, hg53⟩ := hp48
          have hF := hF.tr k50 (by decide)
          have c54 := k50.gi kC_at39 (by decide) c18
          have c55 := k50.gi kC_at40 rfl c16
          obtain ⟨g51, g52⟩ := hg53
          refine tk_iald hC hK hw hT kC_at156 rfl rfl (show 0 ≤ r47.toInt by first | with_reducible assumption | omega) (show r47.toInt < 10 by first | with_reducible assumption | omega) dX4_leastStreet_44 (fun x56 c57 rx56 tx56 => ?_)
          refine lv_aload_n hx hb dX4_leastStreet_45 rfl (lv_at hl 1 rfl) ?_
          refine tk_getA hC hK hw hT hinX4 kC_at155 (by decide) rfl 1 (by decide) (List.mem_cons_of_mem _ uw_5_23) rfl rfl dX4_leastStreet_46 ?_
          refine tk_getO hC hK hw hT hinX7 kC_at39 (by decide) rfl 1 (by decide) (List.mem_cons_of_mem _ uw_50_7) rfl rfl dX4_leastStreet_49 ?_
          refine lv_iload_n hx hb dX4_leastStreet_52 rfl (lv_at hl 4 rfl) ?_
          refine tk_iald hC hK hw hT kC_at41 rfl rfl (show 0 ≤ v2_3.toInt from r6) (show v2_3.toInt < 13 from Int.lt_of_le_of_lt t7 (by decide)) dX4_leastStreet_53 (fun x58 c59 rx58 tx58 => ?_)
          refine lv_isub hx hb dX4_leastStreet_54 ?_
          refine lv_topi (fun x60 ex60 => ?_)
          have ex60 : x60.toInt = x56.toInt - x58.toInt := by rw [ex60]; exact wk_sub (show (-2147483648) ≤ x56.toInt - x58.toInt by omega) (show x56.toInt - x58.toInt ≤ 2147483647 by omega)
          refine lv_istore (lv' := [(5, .int x60), (4, .int 1), (0, .ref (ad 155)), (1, .int a1), (2, .int a2), (3, .int v2_3)]) hx hb dX4_leastStreet_55 hl (by decide) rfl (fun ls hl => ?_)
          refine lv_iload hx hb dX4_leastStreet_57 (lv_at hl 0 rfl) ?_
          refine lv_iload_n hx hb dX4_leastStreet_59 rfl (lv_at hl 4 rfl) ?_
          refine lv_icmp_lt (tgt := 82) hx hb dX4_leastStreet_60 (by decide) (fun c61 => ?_) (fun c61 => ?_)
          · have c61 : x60.toInt < a2.toInt := wk_lt.mp c61
            obtain ⟨x62, ex62⟩ : ∃ y : Int32, y = v2_3 + Int32.ofInt 1 := ⟨_, rfl⟩
            refine lv_iinc (v := x62) (lv' := [(3, .int x62), (5, .int x60), (4, .int 1), (0, .ref (ad 155)), (1, .int a1), (2, .int a2)]) hx hb dX4_leastStreet_82 hl (k := 5) rfl ex62.symm (by decide) rfl (fun ls hl => ?_)
            have ex62 : x62.toInt = v2_3.toInt + 1 := by rw [ex62]; exact wk_add (y := 1) (show -2147483648 ≤ v2_3.toInt + 1 by omega) (show v2_3.toInt + 1 ≤ 2147483647 by omega)
            refine lv_goto (tgt := 2) hx hb dX4_leastStreet_85 (by decide) ?_
            exact ih2 x62 H locs ls w49 (show 0 ≤ a1.toInt from r2) (show a1.toInt ≤ 9 from t3) (show (-1) ≤ a2.toInt from r4) (show a2.toInt ≤ 102128 from t5) (show 0 ≤ x62.toInt by first | with_reducible assumption | omega) (show x62.toInt ≤ 12 by first | with_reducible assumption | omega) (show (12 - x62.toInt).toNat < n2 by first | exact tn_lt hm2 (by omega) (by omega) | omega) hw hT hF  (lv_sub hl [3, 4, 5, 0] rfl)
          · have c61 : a2.toInt ≤ x60.toInt := wk_ltF c61
            refine lv_aload_n hx hb dX4_leastStreet_63 rfl (lv_at hl 2 rfl) ?_
            refine tk_getA hC hK hw hT hinX4 kC_at155 (by decide) rfl 1 (by decide) (List.mem_cons_of_mem _ uw_5_23) rfl rfl dX4_leastStreet_64 ?_
            refine lv_iload_n hx hb dX4_leastStreet_67 rfl (lv_at hl 5 rfl) ?_
            refine lv_iload hx hb dX4_leastStreet_68 (lv_at hl 1 rfl) ?_
            refine lv_iload_n hx hb dX4_leastStreet_70 rfl (lv_at hl 4 rfl) ?_
            refine lv_iload hx hb dX4_leastStreet_71 (lv_at hl 0 rfl) ?_
            refine tk_Vi hC hK hw hT hA hE hSR kC_at39 (by decide) rfl (k_X7_firstOpen_6 l adK adV dC dI cy ad B hB0 (Int.le_trans hB1 (by decide)) qr s1   v2_3 (show 0 ≤ v2_3.toInt from r6) (show v2_3.toInt ≤ 11 by first | with_reducible assumption | omega) a2 (show (-1) ≤ a2.toInt from r4) (show a2.toInt ≤ 102119 by first | with_reducible assumption | omega) x60 (show (-1) ≤ x60.toInt by first | with_reducible assumption | omega) (show x60.toInt ≤ 102119 by first | with_reducible assumption | omega) w49 H.size hT ) (cwV 4 hC.2.2.2.2 uV_RX4_57 rfl rfl rfl (by decide +kernel) ⟨Nat.le_of_ble_eq_true rfl, Nat.le_of_ble_eq_true rfl⟩) rfl hl.1 rfl (Nat.le_of_ble_eq_true rfl) dX4_leastStreet_73 (fun r63 w65 H locs hp64 hw => ?_)
            obtain ⟨hT, k66, hg70⟩ := hp64
            have hF := hF.tr k66 (by decide)
            have c71 := k66.gi kC_at39 (by decide) c54
            have c72 := k66.gi kC_at40 rfl c55
            rcases hg70 with ⟨g67, g68, g69⟩ | rfl
            · refine lv_iconst (v := (-1)) hx hb dX4_leastStreet_76 (by decide) ?_
              refine lv_icmp_eq (tgt := 82) hx hb dX4_leastStreet_77 (by decide) (fun c => absurd c (fun h => absurd (show r63.toInt = (-1 : Int) from wk_eq.mp h) (by omega))) (fun _ => ?_)
              refine lv_iload_n hx hb dX4_leastStreet_80 rfl (lv_at hl 5 rfl) ?_
              exact tk_iret hC hr hlocks hK ⟨hT, hF, (Or.inr (Or.inl ⟨(show 0 ≤ v2_3.toInt from r6), (show v2_3.toInt ≤ 11 by first | with_reducible assumption | omega), (show a2.toInt ≤ 102119 by first | with_reducible assumption | omega), ⟨x8, c71, (show 1 ≤ x8.toInt by first | with_reducible assumption | omega), (show x8.toInt ≤ 12 from tx8)⟩, c72⟩))⟩ hw dX4_leastStreet_81
            · refine lv_iconst (v := (-1)) hx hb dX4_leastStreet_76 (by decide) ?_
              refine lv_icmp_eq (tgt := 82) hx hb dX4_leastStreet_77 (by decide) (fun _ => ?_) (fun c => absurd (by decide) c)
              obtain ⟨x73, ex73⟩ : ∃ y : Int32, y = v2_3 + Int32.ofInt 1 := ⟨_, rfl⟩
              refine lv_iinc (v := x73) (lv' := [(3, .int x73), (5, .int x60), (4, .int 1), (0, .ref (ad 155)), (1, .int a1), (2, .int a2)]) hx hb dX4_leastStreet_82 hl (k := 5) rfl ex73.symm (by decide) rfl (fun ls hl => ?_)
              have ex73 : x73.toInt = v2_3.toInt + 1 := by rw [ex73]; exact wk_add (y := 1) (show -2147483648 ≤ v2_3.toInt + 1 by omega) (show v2_3.toInt + 1 ≤ 2147483647 by omega)
              refine lv_goto (tgt := 2) hx hb dX4_leastStreet_85 (by decide) ?_
              exact ih2 x73 H locs ls w65 (show 0 ≤ a1.toInt from r2) (show a1.toInt ≤ 9 from t3) (show (-1) ≤ a2.toInt from r4) (show a2.toInt ≤ 102128 from t5) (show 0 ≤ x73.toInt by first | with_reducible assumption | omega) (show x73.toInt ≤ 12 by first | with_reducible assumption | omega) (show (12 - x73.toInt).toNat < n2 by first | exact tn_lt hm2 (by omega) (by omega) | omega) hw hT hF  (lv_sub hl [3, 4, 5, 0] rfl)
  refine lv_iconst (v := 0) hx hb dX4_leastStreet_0 (by decide) ?_
  refine lv_istore_n (lv' := [(3, .int 0), (0, .ref (ad 155)), (1, .int a1), (2, .int a2)]) hx hb dX4_leastStreet_1 rfl hl (by decide) rfl (fun ls hl => ?_)
  exact L2 ((12 - (0 : Int)).toNat + 1) 0 s.heap locs ls w0 (show 0 ≤ a1.toInt from ra1) (show a1.toInt ≤ 9 from ta1) (show (-1) ≤ a2.toInt from ra2) (show a2.toInt ≤ 102128 from ta2) (by decide) (by decide) (Nat.lt_succ_self _) hw hT hF  (lv_sub hl [1, 2, 3, 0] rfl)
abbrev P_X7_sideOf_6 (ad : Nat → Nat) (cy : Nat → ClassId) (B : Int) (qr : Nat) (s1 : Int) (a1 : Int32) (a2 : Int32) (w0 : va_W) : Int32 → va_W → Prop := fun r u => TW ksC ad cy B qr s1 u ∧ FE ksC ([] : List (Nat × Nat × Nat)) w0 u ∧ ((r = 0 ∧ gi u 40 (2 * a1.toInt + 0).toNat = a2))
set_option maxHeartbeats 4000000 in
set_option maxRecDepth 100000 in
theorem k_X7_sideOf_6 (l : Launch) (adK adV : Nat → Nat) (dC : Nat → ClassId) (dI : Nat → Nat → Nat) (cy : Nat → ClassId) (ad : Nat → Nat) (B : Int) (hB0 : 2147483648 ≤ B) (hB1 : B ≤ 1152921504606846976) (qr : Nat) (s1 : Int)  (a1 : Int32) (ra1 : 0 ≤ a1.toInt) (ta1 : a1.toInt ≤ 11) (a2 : Int32) (ra2 : 0 ≤ a2.toInt) (ta2 : a2.toInt ≤ 9) (w0 : va_W) (sz : Nat) (hT : TW ksC ad cy B qr s1 w0) (cf0_ : gi w0 40 (2 * a1.toInt + 0).toNat = a2) : Met l yX7_sideOf (wu yX7_sideOf cX7_sideOf 3 (some .int)) ({ frames := 1, cells := 0, slots := 0, locals := 12 }) (va_Pc [.ref (ad 39), .int a1, .int a2] (wpreS adK adV dC dI cy sz w0)) (va_Qi (P_X7_sideOf_6 ad cy B qr s1 a1 a2 w0) (fun u : va_W => wpost dC dI cy (va_A w0 sz) u) (va_A w0 sz)) 0 0 (va_A w0 sz) := by
  refine Met.ofW (cc := cX7_sideOf) (maxL := 3) (ret := (some .int)) (by decide) rfl ?_
  intro p e s m args below meth c s₁ Bk hml hv
  obtain ⟨rfl, ⟨hsz, hP, hK, hD0⟩, hE, hSR⟩ := hv
  have hx := Bk.exec
  have hb := Bk.bytes
  have hr := Bk.returns
  have hlocks := Bk.notSynchronized
  have hC : CallFix p m c cX7_sideOf 3 s _ (wu yX7_sideOf cX7_sideOf 3 (some .int)) RX7 := ⟨hx, hb, hml, findClass_of_methodNamed Bk.named, atoms_spec (ws := (wu yX7_sideOf cX7_sideOf 3 (some .int))) Bk.pre⟩
  subst hsz
  have hD := hD0.self (sz := s.heap.size)
  generalize hAe : va_A w0 s.heap.size = A at hD hE ⊢
  have hA : ∀ q : Nat, s.heap.size ≤ q → A q := fun q h => by rw [← hAe]; exact Or.inr h
  have hw : Wd dC dI A s.heap s.heap [] w0 := ⟨hP, hD, va_S.rf⟩
  have hF : FE ksC ([] : List (Nat × Nat × Nat)) w0 w0 := FE.rf
  have hl := lv_entry ([.ref (ad 39), .int a1, .int a2]) (n := 3) (Nat.le_of_ble_eq_true rfl)
  rw [lg_entry_eq]
  generalize (lg_sl ([.ref (ad 39), .int a1, .int a2]) ++ List.replicate (3 - (lg_sl ([.ref (ad 39), .int a1, .int a2])).length) Slot.unset).toArray = ls at hl ⊢
  have hl : lv_has ls 3 [(0, .ref (ad 39)), (1, .int a1), (2, .int a2)] := hl
  generalize hloc : ([] : List Loc) = locs at hw ⊢
  have hinX7 : ∀ w ∈ u_ws RX7 TX7 12, w ∈ (wu yX7_sideOf cX7_sideOf 3 (some .int)) := fun _ h => List.mem_cons_of_mem _ (up_73 h)
  refine lv_aload_n hx hb dX7_sideOf_0 rfl (lv_at hl 0 rfl) ?_
  refine tk_getO hC hK hw hT hinX7 kC_at39 (by decide) rfl 0 (by decide) (List.mem_cons_of_mem _ uw_2_17) rfl rfl dX7_sideOf_1 ?_
  refine lv_iconst (v := 2) hx hb dX7_sideOf_4 (by decide) ?_
  refine lv_iload_n hx hb dX7_sideOf_5 rfl (lv_at hl 1 rfl) ?_
  refine lv_imul hx hb dX7_sideOf_6 ?_
  refine lv_topi (fun x1 ex1 => ?_)
  have ex1 : x1.toInt = (2 : Int) * a1.toInt := by rw [ex1]; exact wk_mul (show (-2147483648) ≤ (2 : Int) * a1.toInt by omega) (show (2 : Int) * a1.toInt ≤ 2147483647 by omega)
  refine tk_iald hC hK hw hT kC_at40 rfl rfl (show 0 ≤ x1.toInt by first | with_reducible assumption | omega) (show x1.toInt < 26 by first | with_reducible assumption | omega) dX7_sideOf_7 (fun x2 c3 rx2 tx2 => ?_)
  have c3 : gi w0 40 (2 * a1.toInt + 0).toNat = x2 := (congrArg (gi w0 40) (congrArg Int.toNat (show 2 * a1.toInt + 0 = x1.toInt by first | exact Int.le_antisymm (by omega) (by omega) | omega))).trans c3
  refine wk_top a2 (c3.symm.trans cf0_) ?_
  refine lv_iload_n hx hb dX7_sideOf_8 rfl (lv_at hl 2 rfl) ?_
  refine lv_icmp_ne (tgt := 14) hx hb dX7_sideOf_9 (by decide) (fun c => (c (wk_eq.mpr (show a2.toInt = a2.toInt from rfl))).elim) (fun _ => ?_)
  refine lv_iconst (v := 0) hx hb dX7_sideOf_12 (by decide) ?_
  exact tk_iret hC hr hlocks hK ⟨hT, hF, ⟨rfl, cf0_⟩⟩ hw dX7_sideOf_13
abbrev P_X7_firstOpen_7 (ad : Nat → Nat) (cy : Nat → ClassId) (B : Int) (qr : Nat) (s1 : Int) (a1 : Int32) (a3 : Int32) (a4 : Int32) (w0 : va_W) : Int32 → va_W → Prop := fun r u => TW ksC ad cy B qr s1 u ∧ FE ksC ([] : List (Nat × Nat × Nat)) w0 u ∧ ((0 ≤ r.toInt ∧ r.toInt ≤ 102119) ∨ (r = (-1)))
set_option maxHeartbeats 4000000 in
set_option maxRecDepth 100000 in
theorem k_X7_firstOpen_7 (l : Launch) (adK adV : Nat → Nat) (dC : Nat → ClassId) (dI : Nat → Nat → Nat) (cy : Nat → ClassId) (ad : Nat → Nat) (B : Int) (hB0 : 2147483648 ≤ B) (hB1 : B ≤ 1152921504606846976) (qr : Nat) (s1 : Int)  (a1 : Int32) (ra1 : 0 ≤ a1.toInt) (ta1 : a1.toInt ≤ 11) (a3 : Int32) (ra3 : (-1) ≤ a3.toInt) (ta3 : a3.toInt ≤ 102119) (a4 : Int32) (ra4 : 0 ≤ a4.toInt) (ta4 : a4.toInt ≤ 102119) (w0 : va_W) (sz : Nat) (hT : TW ksC ad cy B qr s1 w0)  : Met l yX7_firstOpen (wu yX7_firstOpen cX7_firstOpen 10 (some .int)) ({ frames := 2, cells := 0, slots := 0, locals := 39 }) (va_Pc [.ref (ad 39), .int a1, .int 0, .int a3, .int a4] (wpreS adK adV dC dI cy sz w0)) (va_Qi (P_X7_firstOpen_7 ad cy B qr s1 a1 a3 a4 w0) (fun u : va_W => wpost dC dI cy (va_A w0 sz) u) (va_A w0 sz)) 0 0 (va_A w0 sz) := by
  refine Met.ofW (cc := cX7_firstOpen) (maxL := 10) (ret := (some .int)) (by decide) rfl ?_
  intro p e s m args below meth c s₁ Bk hml hv
  obtain ⟨rfl, ⟨hsz, hP, hK, hD0⟩, hE, hSR⟩ := hv
  have hx := Bk.exec
  have hb := Bk.bytes
  have hr := Bk.returns
  have hlocks := Bk.notSynchronized
  have hC : CallFix p m c cX7_firstOpen 10 s _ (wu yX7_firstOpen cX7_firstOpen 10 (some .int)) RX7 := ⟨hx, hb, hml, findClass_of_methodNamed Bk.named, atoms_spec (ws := (wu yX7_firstOpen cX7_firstOpen 10 (some .int))) Bk.pre⟩
  subst hsz
  have hD := hD0.self (sz := s.heap.size)
  generalize hAe : va_A w0 s.heap.size = A at hD hE ⊢
  have hA : ∀ q : Nat, s.heap.size ≤ q → A q := fun q h => by rw [← hAe]; exact Or.inr h
  have hw : Wd dC dI A s.heap s.heap [] w0 := ⟨hP, hD, va_S.rf⟩
  have hF : FE ksC ([] : List (Nat × Nat × Nat)) w0 w0 := FE.rf
  have hl := lv_entry ([.ref (ad 39), .int a1, .int 0, .int a3, .int a4]) (n := 10) (Nat.le_of_ble_eq_true rfl)
  rw [lg_entry_eq]
  generalize (lg_sl ([.ref (ad 39), .int a1, .int 0, .int a3, .int a4]) ++ List.replicate (10 - (lg_sl ([.ref (ad 39), .int a1, .int 0, .int a3, .int a4])).length) Slot.unset).toArray = ls at hl ⊢
  have hl : lv_has ls 10 [(0, .ref (ad 39)), (1, .int a1), (2, .int 0), (3, .int a3), (4, .int a4)] := hl
  generalize hloc : ([] : List Loc) = locs at hw ⊢
  have L25 : ∀ (n25 : Nat) (v25_5 : Int32) (v25_6 : Int32) (H : Heap) (locs : List Loc) (ls : Array Slot) (w1 : va_W), 0 ≤ a1.toInt → a1.toInt ≤ 11 → (-1) ≤ a3.toInt → a3.toInt ≤ 102119 → 0 ≤ a4.toInt → a4.toInt ≤ 102119 → 0 ≤ v25_6.toInt → v25_6.toInt ≤ 4255 → (4255 - v25_6.toInt).toNat < n25 → Wd dC dI A s.heap H locs w1 → TW ksC ad cy B qr s1 w1 → FE ksC ([] : List (Nat × Nat × Nat)) w0 w1 → lv_has ls 10 [(0, .ref (ad 39)), (1, .int a1), (2, .int 0), (3, .int a3), (4, .int a4), (5, .int v25_5), (6, .int v25_6)] → W p l e ({ frames := 2, cells := 0, slots := 0, locals := 39 }) s m (List.toArray [.ref (ad 39), .int a1, .int 0, .int a3, .int a4]) below meth c H locs 0 0 (MQ below (va_Qi (P_X7_firstOpen_7 ad cy B qr s1 a1 a3 a4 w0) (fun u : va_W => wpost dC dI cy A u) A) (List.toArray [.ref (ad 39), .int a1, .int 0, .int a3, .int a4]) s 0 0 A) (F0 m 25 ls []) := by
    intro n25
    induction n25 with
    | zero => intro v25_5 v25_6 H locs ls w1 r2 t3 r4 t5 r6 t7 r8 t9 hm25 hw hT hF hl; omega
    | succ n25 ih25 =>
      intro v25_5 v25_6 H locs ls w1 r2 t3 r4 t5 r6 t7 r8 t9 hm25 hw hT hF hl
      have J108 : ∀ (v108_7 : Int32) (v108_8 : Int32) (H : Heap) (locs : List Loc) (ls : Array Slot) (w10 : va_W), 0 ≤ a1.toInt → a1.toInt ≤ 11 → (-1) ≤ a3.toInt → a3.toInt ≤ 102119 → 0 ≤ a4.toInt → a4.toInt ≤ 102119 → 0 ≤ v25_6.toInt → v25_6.toInt ≤ 4254 → 0 ≤ v108_7.toInt → v108_7.toInt ≤ 16777215 → 0 ≤ v108_8.toInt → v108_8.toInt ≤ 24 → Wd dC dI A s.heap H locs w10 → TW ksC ad cy B qr s1 w10 → FE ksC ([] : List (Nat × Nat × Nat)) w0 w10 → lv_has ls 10 [(0, .ref (ad 39)), (1, .int a1), (2, .int 0), (3, .int a3), (4, .int a4), (5, .int (-1)), (6, .int v25_6), (7, .int v108_7), (8, .int v108_8)] → W p l e ({ frames := 2, cells := 0, slots := 0, locals := 39 }) s m (List.toArray [.ref (ad 39), .int a1, .int 0, .int a3, .int a4]) below meth c H locs 0 0 (MQ below (va_Qi (P_X7_firstOpen_7 ad cy B qr s1 a1 a3 a4 w0) (fun u : va_W => wpost dC dI cy A u) A) (List.toArray [.ref (ad 39), .int a1, .int 0, .int a3, .int a4]) s 0 0 A) (F0 m 108 ls []) := by
        intro v108_7 v108_8 H locs ls w10 r11 t12 r13 t14 r15 t16 r17 t18 r19 t20 r21 t22 hw hT hF hl
        obtain ⟨x23, ex23⟩ : ∃ y : Int32, y = v25_6 + Int32.ofInt 1 := ⟨_, rfl⟩
        refine lv_iinc (v := x23) (lv' := [(6, .int x23), (0, .ref (ad 39)), (1, .int a1), (2, .int 0), (3, .int a3), (4, .int a4), (5, .int (-1)), (7, .int v108_7), (8, .int v108_8)]) hx hb dX7_firstOpen_108 hl (k := 6) rfl ex23.symm (by decide) rfl (fun ls hl => ?_)
        have ex23 : x23.toInt = v25_6.toInt + 1 := by rw [ex23]; exact wk_add (y := 1) (show -2147483648 ≤ v25_6.toInt + 1 by omega) (show v25_6.toInt + 1 ≤ 2147483647 by omega)
        refine lv_goto (tgt := 25) hx hb dX7_firstOpen_111 (by decide) ?_
        exact ih25 (-1) x23 H locs ls w10 (show 0 ≤ a1.toInt from r11) (show a1.toInt ≤ 11 from t12) (show (-1) ≤ a3.toInt from r13) (show a3.toInt ≤ 102119 from t14) (show 0 ≤ a4.toInt from r15) (show a4.toInt ≤ 102119 from t16) (show 0 ≤ x23.toInt by first | with_reducible assumption | omega) (show x23.toInt ≤ 4255 by first | with_reducible assumption | omega) (show (4255 - x23.toInt).toNat < n25 by first | exact tn_lt hm25 (by omega) (by omega) | omega) hw hT hF  (lv_sub hl [1, 2, 3, 4, 5, 6, 0] rfl)
      have L56 : ∀ (n56 : Nat) (v56_7 : Int32) (v56_8 : Int32) (H : Heap) (locs : List Loc) (ls : Array Slot) (w24 : va_W), 0 ≤ a1.toInt → a1.toInt ≤ 11 → (-1) ≤ a3.toInt → a3.toInt ≤ 102119 → 0 ≤ a4.toInt → a4.toInt ≤ 102119 → 0 ≤ v25_6.toInt → v25_6.toInt ≤ 4254 → 0 ≤ v56_7.toInt → v56_7.toInt ≤ 16777215 → 0 ≤ v56_8.toInt → v56_8.toInt ≤ 24 → (24 - v56_8.toInt).toNat < n56 → Wd dC dI A s.heap H locs w24 → TW ksC ad cy B qr s1 w24 → FE ksC ([] : List (Nat × Nat × Nat)) w0 w24 → lv_has ls 10 [(0, .ref (ad 39)), (1, .int a1), (2, .int 0), (3, .int a3), (4, .int a4), (5, .int (-1)), (6, .int v25_6), (7, .int v56_7), (8, .int v56_8)] → W p l e ({ frames := 2, cells := 0, slots := 0, locals := 39 }) s m (List.toArray [.ref (ad 39), .int a1, .int 0, .int a3, .int a4]) below meth c H locs 0 0 (MQ below (va_Qi (P_X7_firstOpen_7 ad cy B qr s1 a1 a3 a4 w0) (fun u : va_W => wpost dC dI cy A u) A) (List.toArray [.ref (ad 39), .int a1, .int 0, .int a3, .int a4]) s 0 0 A) (F0 m 56 ls []) := by
        intro n56
        induction n56 with
        | zero => intro v56_7 v56_8 H locs ls w24 r25 t26 r27 t28 r29 t30 r31 t32 r33 t34 r35 t36 hm56 hw hT hF hl; omega
        | succ n56 ih56 =>
          intro v56_7 v56_8 H locs ls w24 r25 t26 r27 t28 r29 t30 r31 t32 r33 t34 r35 t36 hm56 hw hT hF hl
          refine lv_iload hx hb dX7_firstOpen_56 (lv_at hl 7 rfl) ?_
          refine lv_if_eq (tgt := 108) hx hb dX7_firstOpen_58 (by decide) (fun c37 => ?_) (fun c37 => ?_)
          · have c37 : v56_7.toInt = (0 : Int) := wk_eq.mp c37
            exact J108 v56_7 v56_8 H locs ls w24 (show 0 ≤ a1.toInt from r25) (show a1.toInt ≤ 11 from t26) (show (-1) ≤ a3.toInt from r27) (show a3.toInt ≤ 102119 from t28) (show 0 ≤ a4.toInt from r29) (show a4.toInt ≤ 102119 from t30) (show 0 ≤ v25_6.toInt from r31) (show v25_6.toInt ≤ 4254 from t32) (show 0 ≤ v56_7.toInt from r33) (show v56_7.toInt ≤ 16777215 from t34) (show 0 ≤ v56_8.toInt from r35) (show v56_8.toInt ≤ 24 from t36)  hw hT hF  (lv_sub hl [0, 1, 2, 3, 4, 5, 6, 7, 8] rfl)
          · have c37 : ¬ v56_7.toInt = (0 : Int) := wk_eqF c37
            refine lv_iload hx hb dX7_firstOpen_61 (lv_at hl 8 rfl) ?_
            refine lv_bipush (v := 24) hx hb dX7_firstOpen_63 (by decide) ?_
            refine lv_icmp_ge (tgt := 108) hx hb dX7_firstOpen_65 (by decide) (fun c38 => ?_) (fun c38 => ?_)
            · have c38 : (24 : Int) ≤ v56_8.toInt := wk_le.mp c38
              exact J108 v56_7 v56_8 H locs ls w24 (show 0 ≤ a1.toInt from r25) (show a1.toInt ≤ 11 from t26) (show (-1) ≤ a3.toInt from r27) (show a3.toInt ≤ 102119 from t28) (show 0 ≤ a4.toInt from r29) (show a4.toInt ≤ 102119 from t30) (show 0 ≤ v25_6.toInt from r31) (show v25_6.toInt ≤ 4254 from t32) (show 0 ≤ v56_7.toInt from r33) (show v56_7.toInt ≤ 16777215 from t34) (show 0 ≤ v56_8.toInt from r35) (show v56_8.toInt ≤ 24 from t36)  hw hT hF  (lv_sub hl [0, 1, 2, 3, 4, 5, 6, 7, 8] rfl)
            · have c38 : v56_8.toInt < (24 : Int) := wk_leF c38
              refine lv_iload hx hb dX7_firstOpen_68 (lv_at hl 7 rfl) ?_
              refine lv_iload hx hb dX7_firstOpen_70 (lv_at hl 8 rfl) ?_
              refine lv_ishr hx hb dX7_firstOpen_72 ?_
              refine lv_topi (fun x39 ex39 => ?_)
              have bx39 : 0 ≤ x39.toInt ∧ x39.toInt ≤ v56_7.toInt := by rw [ex39]; exact wk_shr (by omega)
              refine lv_iconst (v := 1) hx hb dX7_firstOpen_73 (by decide) ?_
              refine lv_iand hx hb dX7_firstOpen_74 ?_
              refine lv_topi (fun x40 ex40 => ?_)
              have bx40 : 0 ≤ x40.toInt ∧ x40.toInt ≤ (1 : Int) := by rw [ex40]; exact wk_and (by decide)
              refine lv_if_eq (tgt := 102) hx hb dX7_firstOpen_75 (by decide) (fun c41 => ?_) (fun c41 => ?_)
              · have c41 : x40.toInt = (0 : Int) := wk_eq.mp c41
                obtain ⟨x42, ex42⟩ : ∃ y : Int32, y = v56_8 + Int32.ofInt 1 := ⟨_, rfl⟩
                refine lv_iinc (v := x42) (lv' := [(8, .int x42), (0, .ref (ad 39)), (1, .int a1), (2, .int 0), (3, .int a3), (4, .int a4), (5, .int (-1)), (6, .int v25_6), (7, .int v56_7)]) hx hb dX7_firstOpen_102 hl (k := 8) rfl ex42.symm (by decide) rfl (fun ls hl => ?_)
                have ex42 : x42.toInt = v56_8.toInt + 1 := by rw [ex42]; exact wk_add (y := 1) (show -2147483648 ≤ v56_8.toInt + 1 by omega) (show v56_8.toInt + 1 ≤ 2147483647 by omega)
                refine lv_goto (tgt := 56) hx hb dX7_firstOpen_105 (by decide) ?_
                exact ih56 v56_7 x42 H locs ls w24 (show 0 ≤ a1.toInt from r25) (show a1.toInt ≤ 11 from t26) (show (-1) ≤ a3.toInt from r27) (show a3.toInt ≤ 102119 from t28) (show 0 ≤ a4.toInt from r29) (show a4.toInt ≤ 102119 from t30) (show 0 ≤ v25_6.toInt from r31) (show v25_6.toInt ≤ 4254 from t32) (show 0 ≤ v56_7.toInt from r33) (show v56_7.toInt ≤ 16777215 from t34) (show 0 ≤ x42.toInt by first | with_reducible assumption | omega) (show x42.toInt ≤ 24 by first | with_reducible assumption | omega) (show (24 - x42.toInt).toNat < n56 by first | exact tn_lt hm56 (by omega) (by omega) | omega) hw hT hF  (lv_sub hl [1, 2, 3, 4, 5, 6, 7, 8, 0] rfl)
              · have c41 : ¬ x40.toInt = (0 : Int) := wk_eqF c41
                refine lv_iload hx hb dX7_firstOpen_78 (lv_at hl 6 rfl) ?_
                refine lv_bipush (v := 24) hx hb dX7_firstOpen_80 (by decide) ?_
                refine lv_imul hx hb dX7_firstOpen_82 ?_
                refine lv_topi (fun x43 ex43 => ?_)
                have ex43 : x43.toInt = v25_6.toInt * (24 : Int) := by rw [ex43]; exact wk_mul (show (-2147483648) ≤ v25_6.toInt * (24 : Int) by omega) (show v25_6.toInt * (24 : Int) ≤ 2147483647 by omega)
                refine lv_iload hx hb dX7_firstOpen_83 (lv_at hl 8 rfl) ?_
                refine lv_iadd hx hb dX7_firstOpen_85 ?_
                refine lv_topi (fun x44 ex44 => ?_)
                have ex44 : x44.toInt = x43.toInt + v56_8.toInt := by rw [ex44]; exact wk_add (show (-2147483648) ≤ x43.toInt + v56_8.toInt by omega) (show x43.toInt + v56_8.toInt ≤ 2147483647 by omega)
                refine lv_istore (lv' := [(9, .int x44), (0, .ref (ad 39)), (1, .int a1), (2, .int 0), (3, .int a3), (4, .int a4), (5, .int (-1)), (6, .int v25_6), (7, .int v56_7), (8, .int v56_8)]) hx hb dX7_firstOpen_86 hl (by decide) rfl (fun ls hl => ?_)
                refine lv_iload hx hb dX7_firstOpen_88 (lv_at hl 0 rfl) ?_
                refine lv_iload hx hb dX7_firstOpen_90 (lv_at hl 5 rfl) ?_
                refine lv_icmp_gt (tgt := 100) hx hb dX7_firstOpen_92 (by decide) (fun c45 => ?_) (fun c45 => ?_)
                · have c45 : a4.toInt < x44.toInt := wk_lt.mp c45
                  refine lv_iconst (v := (-1)) hx hb dX7_firstOpen_100 (by decide) ?_
                  exact tk_iret hC hr hlocks hK ⟨hT, hF, (Or.inr rfl)⟩ hw dX7_firstOpen_101
                · have c45 : x44.toInt ≤ a4.toInt := wk_ltF c45
                  refine lv_iload hx hb dX7_firstOpen_95 (lv_at hl 0 rfl) ?_
                  refine lv_goto (tgt := 101) hx hb dX7_firstOpen_97 (by decide) ?_
                  exact tk_iret hC hr hlocks hK ⟨hT, hF, (Or.inl ⟨(show 0 ≤ x44.toInt by first | with_reducible assumption | omega), (show x44.toInt ≤ 102119 by first | with_reducible assumption | omega)⟩)⟩ hw dX7_firstOpen_101
      refine lv_iload hx hb dX7_firstOpen_25 (lv_at hl 6 rfl) ?_
      refine lv_bipush (v := 24) hx hb dX7_firstOpen_27 (by decide) ?_
      refine lv_imul hx hb dX7_firstOpen_29 ?_
      refine lv_topi (fun x46 ex46 => ?_)
      have ex46 : x46.toInt = v25_6.toInt * (24 : Int) := by rw [ex46]; exact wk_mul (show (-2147483648) ≤ v25_6.toInt * (24 : Int) by omega) (show v25_6.toInt * (24 : Int) ≤ 2147483647 by omega)
      refine lv_iload hx hb dX7_firstOpen_30 (lv_at hl 4 rfl) ?_
      refine lv_icmp_gt (tgt := 114) hx hb dX7_firstOpen_32 (by decide) (fun c47 => ?_) (fun c47 => ?_)
      · have c47 : a4.toInt < x46.toInt := wk_lt.mp c47
        refine lv_iconst (v := (-1)) hx hb dX7_firstOpen_114 (by decide) ?_
        exact tk_iret hC hr hlocks hK ⟨hT, hF, (Or.inr rfl)⟩ hw dX7_firstOpen_115
      · have c47 : x46.toInt ≤ a4.toInt := wk_ltF c47
        refine lv_aload_n hx hb dX7_firstOpen_35 rfl (lv_at hl 0 rfl) ?_
        refine lv_iload_n hx hb dX7_firstOpen_36 rfl (lv_at hl 1 rfl) ?_
        refine lv_iload_n hx hb dX7_firstOpen_37 rfl (lv_at hl 2 rfl) ?_
        refine lv_iload hx hb dX7_firstOpen_38 (lv_at hl 6 rfl) ?_
        refine lv_i2l hx hb dX7_firstOpen_40 rfl ?_
        refine lv_topl (fun x48 ex48 => ?_)
        have ex48 : x48.toInt = v25_6.toInt := by rw [ex48]; exact wk_i2l _
        have bx48 := wk_i32 v25_6
        refine lv_iconst (v := 1) hx hb dX7_firstOpen_41 (by decide) ?_
        refine tk_Vi hC hK hw hT hA hE hSR kC_at39 (by decide) rfl (k_X7_openHours_11 l adK adV dC dI cy ad B hB0 (Int.le_trans hB1 (by decide)) qr s1   a1 (show 0 ≤ a1.toInt from r2) (show a1.toInt ≤ 11 from t3) x48 (show 0 ≤ x48.toInt by first | with_reducible assumption | omega) (show x48.toInt ≤ 4254 by first | with_reducible assumption | omega) w1 H.size hT ) (cwV 4 hC.2.2.2.2 uV_RX7_148 rfl rfl rfl (by decide +kernel) ⟨Nat.le_of_ble_eq_true rfl, Nat.le_of_ble_eq_true rfl⟩) rfl hl.1 rfl (Nat.le_of_ble_eq_true rfl) dX7_firstOpen_42 (fun r49 w51 H locs hp50 hw => ?_)
        obtain ⟨hT, k52, hg55⟩ := hp50
        have hF := hF.tr k52 (by decide)
        obtain ⟨g53, g54⟩ := hg55
        refine lv_iload hx hb dX7_firstOpen_45 (lv_at hl 5 rfl) ?_
        refine lv_iand hx hb dX7_firstOpen_47 ?_
        refine lv_topi (fun x56 ex56 => ?_)
        have bx56 : 0 ≤ x56.toInt ∧ x56.toInt ≤ r49.toInt := by rw [ex56]; exact wk_andC (by omega)
        refine lv_istore (lv' := [(7, .int x56), (0, .ref (ad 39)), (1, .int a1), (2, .int 0), (3, .int a3), (4, .int a4), (5, .int v25_5), (6, .int v25_6)]) hx hb dX7_firstOpen_48 hl (by decide) rfl (fun ls hl => ?_)
        refine lv_iconst (v := (-1)) hx hb dX7_firstOpen_50 (by decide) ?_
        refine lv_istore (lv' := [(5, .int (-1)), (7, .int x56), (0, .ref (ad 39)), (1, .int a1), (2, .int 0), (3, .int a3), (4, .int a4), (6, .int v25_6)]) hx hb dX7_firstOpen_51 hl (by decide) rfl (fun ls hl => ?_)
        refine lv_iconst (v := 0) hx hb dX7_firstOpen_53 (by decide) ?_
        refine lv_istore (lv' := [(8, .int 0), (5, .int (-1)), (7, .int x56), (0, .ref (ad 39)), (1, .int a1), (2, .int 0), (3, .int a3), (4, .int a4), (6, .int v25_6)]) hx hb dX7_firstOpen_54 hl (by decide) rfl (fun ls hl => ?_)
        exact L56 ((24 - (0 : Int)).toNat + 1) x56 0 H locs ls w51 (show 0 ≤ a1.toInt from r2) (show a1.toInt ≤ 11 from t3) (show (-1) ≤ a3.toInt from r4) (show a3.toInt ≤ 102119 from t5) (show 0 ≤ a4.toInt from r6) (show a4.toInt ≤ 102119 from t7) (show 0 ≤ v25_6.toInt from r8) (show v25_6.toInt ≤ 4254 by first | with_reducible assumption | omega) (show 0 ≤ x56.toInt by first | with_reducible assumption | omega) (show x56.toInt ≤ 16777215 by first | with_reducible assumption | omega) (by decide) (by decide) (Nat.lt_succ_self _) hw hT hF  (lv_sub hl [3, 4, 5, 6, 7, 1, 8, 2, 0] rfl)
  refine lv_aload_n hx hb dX7_firstOpen_0 rfl (lv_at hl 0 rfl) ?_
  refine lv_iload_n hx hb dX7_firstOpen_1 rfl (lv_at hl 1 rfl) ?_
  refine lv_iload_n hx hb dX7_firstOpen_2 rfl (lv_at hl 2 rfl) ?_
  refine tk_Vi hC hK hw hT hA hE hSR kC_at39 (by decide) rfl (k_X7_isNeverOpen_1 l adK adV dC dI cy ad B hB0 (Int.le_trans hB1 (by decide)) qr s1   a1 (show 0 ≤ a1.toInt from ra1) (show a1.toInt ≤ 11 from ta1) w0 s.heap.size hT ) (cwV 2 hC.2.2.2.2 uV_RX7_152 rfl rfl rfl (by decide +kernel) ⟨Nat.le_of_ble_eq_true rfl, Nat.le_of_ble_eq_true rfl⟩) rfl hl.1 rfl (Nat.le_of_ble_eq_true rfl) dX7_firstOpen_3 (fun r57 w59 H locs hp58 hw => ?_)
  obtain ⟨hT, k60, hg61⟩ := hp58
  have hF := hF.tr k60 (by decide)
  rcases hg61 with rfl | rfl
  · refine lv_if_eq (tgt := 11) hx hb dX7_firstOpen_6 (by decide) (fun _ => ?_) (fun c => absurd (by decide) c)
    refine lv_iconst (v := (-1)) hx hb dX7_firstOpen_11 (by decide) ?_
    refine lv_iload_n hx hb dX7_firstOpen_12 rfl (lv_at hl 3 rfl) ?_
    refine lv_bipush (v := 24) hx hb dX7_firstOpen_13 (by decide) ?_
    refine lv_irem hx hb dX7_firstOpen_15 (by decide) ?_
    refine lv_topi (fun x62 ex62 => ?_)
    refine lv_ishl hx hb dX7_firstOpen_16 ?_
    refine lv_topi (fun x63 ex63 => ?_)
    refine lv_istore (lv' := [(5, .int x63), (0, .ref (ad 39)), (1, .int a1), (2, .int 0), (3, .int a3), (4, .int a4)]) hx hb dX7_firstOpen_17 hl (by decide) rfl (fun ls hl => ?_)
    refine lv_iload_n hx hb dX7_firstOpen_19 rfl (lv_at hl 4 rfl) ?_
    refine lv_bipush (v := 24) hx hb dX7_firstOpen_20 (by decide) ?_
    refine lv_idiv hx hb dX7_firstOpen_22 (by decide) ?_
    refine lv_topi (fun x64 ex64 => ?_)
    have bx64 : -(1 / (24 : Int)) ≤ x64.toInt ∧ x64.toInt ≤ 102119 / (24 : Int) := by rw [ex64]; exact wk_divB (m := 1) (n := 102119) (show 0 < (24 : Int) by decide) (by decide) (by decide) (by omega) (by omega)
    refine lv_istore (lv' := [(6, .int x64), (5, .int x63), (0, .ref (ad 39)), (1, .int a1), (2, .int 0), (3, .int a3), (4, .int a4)]) hx hb dX7_firstOpen_23 hl (by decide) rfl (fun ls hl => ?_)
    exact L25 ((4255 - x64.toInt).toNat + 1) x63 x64 H locs ls w59 (show 0 ≤ a1.toInt from ra1) (show a1.toInt ≤ 11 from ta1) (show (-1) ≤ a3.toInt from ra3) (show a3.toInt ≤ 102119 from ta3) (show 0 ≤ a4.toInt from ra4) (show a4.toInt ≤ 102119 from ta4) (show 0 ≤ x64.toInt by first | with_reducible assumption | omega) (show x64.toInt ≤ 4255 by first | with_reducible assumption | omega) (Nat.lt_succ_self _) hw hT hF  (lv_sub hl [2, 3, 4, 5, 6, 1, 0] rfl)
  · refine lv_if_eq (tgt := 11) hx hb dX7_firstOpen_6 (by decide) (fun c => absurd c (by decide)) (fun _ => ?_)
    refine lv_iconst (v := (-1)) hx hb dX7_firstOpen_9 (by decide) ?_
    exact tk_iret hC hr hlocks hK ⟨hT, hF, (Or.inr rfl)⟩ hw dX7_firstOpen_10
abbrev P_X7_sideOf_7 (ad : Nat → Nat) (cy : Nat → ClassId) (B : Int) (qr : Nat) (s1 : Int) (a1 : Int32) (a2 : Int32) (w0 : va_W) : Int32 → va_W → Prop := fun r u => TW ksC ad cy B qr s1 u ∧ FE ksC ([] : List (Nat × Nat × Nat)) w0 u ∧ ((r = 0 ∧ gi u 40 (2 * a1.toInt + 0).toNat = a2 ∧ gi u 40 (2 * a1.toInt + 1).toNat = a2) ∨ (r = 1 ∧ gi u 40 (2 * a1.toInt + 1).toNat = a2))
set_option maxHeartbeats 4000000 in
set_option maxRecDepth 100000 in
theorem k_X7_sideOf_7 (l : Launch) (adK adV : Nat → Nat) (dC : Nat → ClassId) (dI : Nat → Nat → Nat) (cy : Nat → ClassId) (ad : Nat → Nat) (B : Int) (hB0 : 2147483648 ≤ B) (hB1 : B ≤ 1152921504606846976) (qr : Nat) (s1 : Int)  (a1 : Int32) (ra1 : 0 ≤ a1.toInt) (ta1 : a1.toInt ≤ 11) (a2 : Int32) (ra2 : 0 ≤ a2.toInt) (ta2 : a2.toInt ≤ 9) (w0 : va_W) (sz : Nat) (hT : TW ksC ad cy B qr s1 w0) (cf0_ : gi w0 40 (2 * a1.toInt + 1).toNat = a2) : Met l yX7_sideOf (wu yX7_sideOf cX7_sideOf 3 (some .int)) ({ frames := 1, cells := 0, slots := 0, locals := 12 }) (va_Pc [.ref (ad 39), .int a1, .int a2] (wpreS adK adV dC dI cy sz w0)) (va_Qi (P_X7_sideOf_7 ad cy B qr s1 a1 a2 w0) (fun u : va_W => wpost dC dI cy (va_A w0 sz) u) (va_A w0 sz)) 0 0 (va_A w0 sz) := by
  refine Met.ofW (cc := cX7_sideOf) (maxL := 3) (ret := (some .int)) (by decide) rfl ?_
  intro p e s m args below meth c s₁ Bk hml hv
  obtain ⟨rfl, ⟨hsz, hP, hK, hD0⟩, hE, hSR⟩ := hv
  have hx := Bk.exec
  have hb := Bk.bytes
  have hr := Bk.returns
  have hlocks := Bk.notSynchronized
  have hC : CallFix p m c cX7_sideOf 3 s _ (wu yX7_sideOf cX7_sideOf 3 (some .int)) RX7 := ⟨hx, hb, hml, findClass_of_methodNamed Bk.named, atoms_spec (ws := (wu yX7_sideOf cX7_sideOf 3 (some .int))) Bk.pre⟩
  subst hsz
  have hD := hD0.self (sz := s.heap.size)
  generalize hAe : va_A w0 s.heap.size = A at hD hE ⊢
  have hA : ∀ q : Nat, s.heap.size ≤ q → A q := fun q h => by rw [← hAe]; exact Or.inr h
  have hw : Wd dC dI A s.heap s.heap [] w0 := ⟨hP, hD, va_S.rf⟩
  have hF : FE ksC ([] : List (Nat × Nat × Nat)) w0 w0 := FE.rf
  have hl := lv_entry ([.ref (ad 39), .int a1, .int a2]) (n := 3) (Nat.le_of_ble_eq_true rfl)
  rw [lg_entry_eq]
  generalize (lg_sl ([.ref (ad 39), .int a1, .int a2]) ++ List.replicate (3 - (lg_sl ([.ref (ad 39), .int a1, .int a2])).length) Slot.unset).toArray = ls at hl ⊢
  have hl : lv_has ls 3 [(0, .ref (ad 39)), (1, .int a1), (2, .int a2)] := hl
  generalize hloc : ([] : List Loc) = locs at hw ⊢
  have hinX7 : ∀ w ∈ u_ws RX7 TX7 12, w ∈ (wu yX7_sideOf cX7_sideOf 3 (some .int)) := fun _ h => List.mem_cons_of_mem _ (up_73 h)
  refine lv_aload_n hx hb dX7_sideOf_0 rfl (lv_at hl 0 rfl) ?_
  refine tk_getO hC hK hw hT hinX7 kC_at39 (by decide) rfl 0 (by decide) (List.mem_cons_of_mem _ uw_2_17) rfl rfl dX7_sideOf_1 ?_
  refine lv_iconst (v := 2) hx hb dX7_sideOf_4 (by decide) ?_
  refine lv_iload_n hx hb dX7_sideOf_5 rfl (lv_at hl 1 rfl) ?_
  refine lv_imul hx hb dX7_sideOf_6 ?_
  refine lv_topi (fun x1 ex1 => ?_)
  have ex1 : x1.toInt = (2 : Int) * a1.toInt := by rw [ex1]; exact wk_mul (show (-2147483648) ≤ (2 : Int) * a1.toInt by omega) (show (2 : Int) * a1.toInt ≤ 2147483647 by omega)
  refine tk_iald hC hK hw hT kC_at40 rfl rfl (show 0 ≤ x1.toInt by first | with_reducible assumption | omega) (show x1.toInt < 26 by first | with_reducible assumption | omega) dX7_sideOf_7 (fun x2 c3 rx2 tx2 => ?_)
  have c3 : gi w0 40 (2 * a1.toInt + 0).toNat = x2 := (congrArg (gi w0 40) (congrArg Int.toNat (show 2 * a1.toInt + 0 = x1.toInt by first | exact Int.le_antisymm (by omega) (by omega) | omega))).trans c3
  refine lv_iload_n hx hb dX7_sideOf_8 rfl (lv_at hl 2 rfl) ?_
  refine lv_icmp_ne (tgt := 14) hx hb dX7_sideOf_9 (by decide) (fun c4 => ?_) (fun c4 => ?_)
  · have c4 : ¬ x2.toInt = a2.toInt := wk_eqF c4
    refine lv_aload_n hx hb dX7_sideOf_14 rfl (lv_at hl 0 rfl) ?_
    refine tk_getO hC hK hw hT hinX7 kC_at39 (by decide) rfl 0 (by decide) (List.mem_cons_of_mem _ uw_2_17) rfl rfl dX7_sideOf_15 ?_
    refine lv_iconst (v := 2) hx hb dX7_sideOf_18 (by decide) ?_
    refine lv_iload_n hx hb dX7_sideOf_19 rfl (lv_at hl 1 rfl) ?_
    refine lv_imul hx hb dX7_sideOf_20 ?_
    refine lv_topi (fun x5 ex5 => ?_)
    have ex5 : x5.toInt = (2 : Int) * a1.toInt := by rw [ex5]; exact wk_mul (show (-2147483648) ≤ (2 : Int) * a1.toInt by omega) (show (2 : Int) * a1.toInt ≤ 2147483647 by omega)
    refine lv_iconst (v := 1) hx hb dX7_sideOf_21 (by decide) ?_
    refine lv_iadd hx hb dX7_sideOf_22 ?_
    refine lv_topi (fun x6 ex6 => ?_)
    have ex6 : x6.toInt = x5.toInt + (1 : Int) := by rw [ex6]; exact wk_add (show (-2147483648) ≤ x5.toInt + (1 : Int) by omega) (show x5.toInt + (1 : Int) ≤ 2147483647 by omega)
    refine tk_iald hC hK hw hT kC_at40 rfl rfl (show 0 ≤ x6.toInt by first | with_reducible assumption | omega) (show x6.toInt < 26 by first | with_reducible assumption | omega) dX7_sideOf_23 (fun x7 c8 rx7 tx7 => ?_)
    have c8 : gi w0 40 (2 * a1.toInt + 1).toNat = x7 := (congrArg (gi w0 40) (congrArg Int.toNat (show 2 * a1.toInt + 1 = x6.toInt by first | exact Int.le_antisymm (by omega) (by omega) | omega))).trans c8
    refine wk_top a2 (c8.symm.trans cf0_) ?_
    refine lv_iload_n hx hb dX7_sideOf_24 rfl (lv_at hl 2 rfl) ?_
    refine lv_icmp_ne (tgt := 32) hx hb dX7_sideOf_25 (by decide) (fun c => (c (wk_eq.mpr (show a2.toInt = a2.toInt from rfl))).elim) (fun _ => ?_)
    refine lv_iconst (v := 1) hx hb dX7_sideOf_28 (by decide) ?_
    refine lv_goto (tgt := 33) hx hb dX7_sideOf_29 (by decide) ?_
    exact tk_iret hC hr hlocks hK ⟨hT, hF, (Or.inr ⟨rfl, cf0_⟩)⟩ hw dX7_sideOf_33
  · have c4 : x2.toInt = a2.toInt := wk_eq.mp c4
    refine lv_iconst (v := 0) hx hb dX7_sideOf_12 (by decide) ?_
    exact tk_iret hC hr hlocks hK ⟨hT, hF, (Or.inl ⟨rfl, (c3.trans (wk_eq.mpr (show x2.toInt = a2.toInt by first | exact Int.le_antisymm (by omega) (by omega) | omega))), cf0_⟩)⟩ hw dX7_sideOf_13
abbrev P_X7_firstOpen_8 (ad : Nat → Nat) (cy : Nat → ClassId) (B : Int) (qr : Nat) (s1 : Int) (a1 : Int32) (a3 : Int32) (a4 : Int32) (w0 : va_W) : Int32 → va_W → Prop := fun r u => TW ksC ad cy B qr s1 u ∧ FE ksC ([] : List (Nat × Nat × Nat)) w0 u ∧ ((0 ≤ r.toInt ∧ r.toInt ≤ 102119) ∨ (r = (-1)))
set_option maxHeartbeats 4000000 in
set_option maxRecDepth 100000 in
theorem k_X7_firstOpen_8 (l : Launch) (adK adV : Nat → Nat) (dC : Nat → ClassId) (dI : Nat → Nat → Nat) (cy : Nat → ClassId) (ad : Nat → Nat) (B : Int) (hB0 : 2147483648 ≤ B) (hB1 : B ≤ 1152921504606846976) (qr : Nat) (s1 : Int)  (a1 : Int32) (ra1 : 0 ≤ a1.toInt) (ta1 : a1.toInt ≤ 11) (a3 : Int32) (ra3 : (-1) ≤ a3.toInt) (ta3 : a3.toInt ≤ 102119) (a4 : Int32) (ra4 : 0 ≤ a4.toInt) (ta4 : a4.toInt ≤ 102119) (w0 : va_W) (sz : Nat) (hT : TW ksC ad cy B qr s1 w0)  : Met l yX7_firstOpen (wu yX7_firstOpen cX7_firstOpen 10 (some .int)) ({ frames := 2, cells := 0, slots := 0, locals := 39 }) (va_Pc [.ref (ad 39), .int a1, .int 1, .int a3, .int a4] (wpreS adK adV dC dI cy sz w0)) (va_Qi (P_X7_firstOpen_8 ad cy B qr s1 a1 a3 a4 w0) (fun u : va_W => wpost dC dI cy (va_A w0 sz) u) (va_A w0 sz)) 0 0 (va_A w0 sz) := by
  refine Met.ofW (cc := cX7_firstOpen) (maxL := 10) (ret := (some .int)) (by decide) rfl ?_
  intro p e s m args below meth c s₁ Bk hml hv
  obtain ⟨rfl, ⟨hsz, hP, hK, hD0⟩, hE, hSR⟩ := hv
  have hx := Bk.exec
  have hb := Bk.bytes
  have hr := Bk.returns
  have hlocks := Bk.notSynchronized
  have hC : CallFix p m c cX7_firstOpen 10 s _ (wu yX7_firstOpen cX7_firstOpen 10 (some .int)) RX7 := ⟨hx, hb, hml, findClass_of_methodNamed Bk.named, atoms_spec (ws := (wu yX7_firstOpen cX7_firstOpen 10 (some .int))) Bk.pre⟩
  subst hsz
  have hD := hD0.self (sz := s.heap.size)
  generalize hAe : va_A w0 s.heap.size = A at hD hE ⊢
  have hA : ∀ q : Nat, s.heap.size ≤ q → A q := fun q h => by rw [← hAe]; exact Or.inr h
  have hw : Wd dC dI A s.heap s.heap [] w0 := ⟨hP, hD, va_S.rf⟩
  have hF : FE ksC ([] : List (Nat × Nat × Nat)) w0 w0 := FE.rf
  have hl := lv_entry ([.ref (ad 39), .int a1, .int 1, .int a3, .int a4]) (n := 10) (Nat.le_of_ble_eq_true rfl)
  rw [lg_entry_eq]
  generalize (lg_sl ([.ref (ad 39), .int a1, .int 1, .int a3, .int a4]) ++ List.replicate (10 - (lg_sl ([.ref (ad 39), .int a1, .int 1, .int a3, .int a4])).length) Slot.unset).toArray = ls at hl ⊢
  have hl : lv_has ls 10 [(0, .ref (ad 39)), (1, .int a1), (2, .int 1), (3, .int a3), (4, .int a4)] := hl
  generalize hloc : ([] : List Loc) = locs at hw ⊢
  have L25 : ∀ (n25 : Nat) (v25_5 : Int32) (v25_6 : Int32) (H : Heap) (locs : List Loc) (ls : Array Slot) (w1 : va_W), 0 ≤ a1.toInt → a1.toInt ≤ 11 → (-1) ≤ a3.toInt → a3.toInt ≤ 102119 → 0 ≤ a4.toInt → a4.toInt ≤ 102119 → 0 ≤ v25_6.toInt → v25_6.toInt ≤ 4255 → (4255 - v25_6.toInt).toNat < n25 → Wd dC dI A s.heap H locs w1 → TW ksC ad cy B qr s1 w1 → FE ksC ([] : List (Nat × Nat × Nat)) w0 w1 → lv_has ls 10 [(0, .ref (ad 39)), (1, .int a1), (2, .int 1), (3, .int a3), (4, .int a4), (5, .int v25_5), (6, .int v25_6)] → W p l e ({ frames := 2, cells := 0, slots := 0, locals := 39 }) s m (List.toArray [.ref (ad 39), .int a1, .int 1, .int a3, .int a4]) below meth c H locs 0 0 (MQ below (va_Qi (P_X7_firstOpen_8 ad cy B qr s1 a1 a3 a4 w0) (fun u : va_W => wpost dC dI cy A u) A) (List.toArray [.ref (ad 39), .int a1, .int 1, .int a3, .int a4]) s 0 0 A) (F0 m 25 ls []) := by
    intro n25
    induction n25 with
    | zero => intro v25_5 v25_6 H locs ls w1 r2 t3 r4 t5 r6 t7 r8 t9 hm25 hw hT hF hl; omega
    | succ n25 ih25 =>
      intro v25_5 v25_6 H locs ls w1 r2 t3 r4 t5 r6 t7 r8 t9 hm25 hw hT hF hl
      have J108 : ∀ (v108_7 : Int32) (v108_8 : Int32) (H : Heap) (locs : List Loc) (ls : Array Slot) (w10 : va_W), 0 ≤ a1.toInt → a1.toInt ≤ 11 → (-1) ≤ a3.toInt → a3.toInt ≤ 102119 → 0 ≤ a4.toInt → a4.toInt ≤ 102119 → 0 ≤ v25_6.toInt → v25_6.toInt ≤ 4254 → 0 ≤ v108_7.toInt → v108_7.toInt ≤ 16777215 → 0 ≤ v108_8.toInt → v108_8.toInt ≤ 24 → Wd dC dI A s.heap H locs w10 → TW ksC ad cy B qr s1 w10 → FE ksC ([] : List (Nat × Nat × Nat)) w0 w10 → lv_has ls 10 [(0, .ref (ad 39)), (1, .int a1), (2, .int 1), (3, .int a3), (4, .int a4), (5, .int (-1)), (6, .int v25_6), (7, .int v108_7), (8, .int v108_8)] → W p l e ({ frames := 2, cells := 0, slots := 0, locals := 39 }) s m (List.toArray [.ref (ad 39), .int a1, .int 1, .int a3, .int a4]) below meth c H locs 0 0 (MQ below (va_Qi (P_X7_firstOpen_8 ad cy B qr s1 a1 a3 a4 w0) (fun u : va_W => wpost dC dI cy A u) A) (List.toArray [.ref (ad 39), .int a1, .int 1, .int a3, .int a4]) s 0 0 A) (F0 m 108 ls []) := by
        intro v108_7 v108_8 H locs ls w10 r11 t12 r13 t14 r15 t16 r17 t18 r19 t20 r21 t22 hw hT hF hl
        obtain ⟨x23, ex23⟩ : ∃ y : Int32, y = v25_6 + Int32.ofInt 1 := ⟨_, rfl⟩
        refine lv_iinc (v := x23) (lv' := [(6, .int x23), (0, .ref (ad 39)), (1, .int a1), (2, .int 1), (3, .int a3), (4, .int a4), (5, .int (-1)), (7, .int v108_7), (8, .int v108_8)]) hx hb dX7_firstOpen_108 hl (k := 6) rfl ex23.symm (by decide) rfl (fun ls hl => ?_)
        have ex23 : x23.toInt = v25_6.toInt + 1 := by rw [ex23]; exact wk_add (y := 1) (show -2147483648 ≤ v25_6.toInt + 1 by omega) (show v25_6.toInt + 1 ≤ 2147483647 by omega)
        refine lv_goto (tgt := 25) hx hb dX7_firstOpen_111 (by decide) ?_
        exact ih25 (-1) x23 H locs ls w10 (show 0 ≤ a1.toInt from r11) (show a1.toInt ≤ 11 from t12) (show (-1) ≤ a3.toInt from r13) (show a3.toInt ≤ 102119 from t14) (show 0 ≤ a4.toInt from r15) (show a4.toInt ≤ 102119 from t16) (show 0 ≤ x23.toInt by first | with_reducible assumption | omega) (show x23.toInt ≤ 4255 by first | with_reducible assumption | omega) (show (4255 - x23.toInt).toNat < n25 by first | exact tn_lt hm25 (by omega) (by omega) | omega) hw hT hF  (lv_sub hl [1, 2, 3, 4, 5, 6, 0] rfl)
      have L56 : ∀ (n56 : Nat) (v56_7 : Int32) (v56_8 : Int32) (H : Heap) (locs : List Loc) (ls : Array Slot) (w24 : va_W), 0 ≤ a1.toInt → a1.toInt ≤ 11 → (-1) ≤ a3.toInt → a3.toInt ≤ 102119 → 0 ≤ a4.toInt → a4.toInt ≤ 102119 → 0 ≤ v25_6.toInt → v25_6.toInt ≤ 4254 → 0 ≤ v56_7.toInt → v56_7.toInt ≤ 16777215 → 0 ≤ v56_8.toInt → v56_8.toInt ≤ 24 → (24 - v56_8.toInt).toNat < n56 → Wd dC dI A s.heap H locs w24 → TW ksC ad cy B qr s1 w24 → FE ksC ([] : List (Nat × Nat × Nat)) w0 w24 → lv_has ls 10 [(0, .ref (ad 39)), (1, .int a1), (2, .int 1), (3, .int a3), (4, .int a4), (5, .int (-1)), (6, .int v25_6), (7, .int v56_7), (8, .int v56_8)] → W p l e ({ frames := 2, cells := 0, slots := 0, locals := 39 }) s m (List.toArray [.ref (ad 39), .int a1, .int 1, .int a3, .int a4]) below meth c H locs 0 0 (MQ below (va_Qi (P_X7_firstOpen_8 ad cy B qr s1 a1 a3 a4 w0) (fun u : va_W => wpost dC dI cy A u) A) (List.toArray [.ref (ad 39), .int a1, .int 1, .int a3, .int a4]) s 0 0 A) (F0 m 56 ls []) := by
        intro n56
        induction n56 with
        | zero => intro v56_7 v56_8 H locs ls w24 r25 t26 r27 t28 r29 t30 r31 t32 r33 t34 r35 t36 hm56 hw hT hF hl; omega
        | succ n56 ih56 =>
          intro v56_7 v56_8 H locs ls w24 r25 t26 r27 t28 r29 t30 r31 t32 r33 t34 r35 t36 hm56 hw hT hF hl
          refine lv_iload hx hb dX7_firstOpen_56 (lv_at hl 7 rfl) ?_
          refine lv_if_eq (tgt := 108) hx hb dX7_firstOpen_58 (by decide) (fun c37 => ?_) (fun c37 => ?_)
          · have c37 : v56_7.toInt = (0 : Int) := wk_eq.mp c37
            exact J108 v56_7 v56_8 H locs ls w24 (show 0 ≤ a1.toInt from r25) (show a1.toInt ≤ 11 from t26) (show (-1) ≤ a3.toInt from r27) (show a3.toInt ≤ 102119 from t28) (show 0 ≤ a4.toInt from r29) (show a4.toInt ≤ 102119 from t30) (show 0 ≤ v25_6.toInt from r31) (show v25_6.toInt ≤ 4254 from t32) (show 0 ≤ v56_7.toInt from r33) (show v56_7.toInt ≤ 16777215 from t34) (show 0 ≤ v56_8.toInt from r35) (show v56_8.toInt ≤ 24 from t36)  hw hT hF  (lv_sub hl [0, 1, 2, 3, 4, 5, 6, 7, 8] rfl)
          · have c37 : ¬ v56_7.toInt = (0 : Int) := wk_eqF c37
            refine lv_iload hx hb dX7_firstOpen_61 (lv_at hl 8 rfl) ?_
            refine lv_bipush (v := 24) hx hb dX7_firstOpen_63 (by decide) ?_
            refine lv_icmp_ge (tgt := 108) hx hb dX7_firstOpen_65 (by decide) (fun c38 => ?_) (fun c38 => ?_)
            · have c38 : (24 : Int) ≤ v56_8.toInt := wk_le.mp c38
              exact J108 v56_7 v56_8 H locs ls w24 (show 0 ≤ a1.toInt from r25) (show a1.toInt ≤ 11 from t26) (show (-1) ≤ a3.toInt from r27) (show a3.toInt ≤ 102119 from t28) (show 0 ≤ a4.toInt from r29) (show a4.toInt ≤ 102119 from t30) (show 0 ≤ v25_6.toInt from r31) (show v25_6.toInt ≤ 4254 from t32) (show 0 ≤ v56_7.toInt from r33) (show v56_7.toInt ≤ 16777215 from t34) (show 0 ≤ v56_8.toInt from r35) (show v56_8.toInt ≤ 24 from t36)  hw hT hF  (lv_sub hl [0, 1, 2, 3, 4, 5, 6, 7, 8] rfl)
            · have c38 : v56_8.toInt < (24 : Int) := wk_leF c38
              refine lv_iload hx hb dX7_firstOpen_68 (lv_at hl 7 rfl) ?_
              refine lv_iload hx hb dX7_firstOpen_70 (lv_at hl 8 rfl) ?_
              refine lv_ishr hx hb dX7_firstOpen_72 ?_
              refine lv_topi (fun x39 ex39 => ?_)
              have bx39 : 0 ≤ x39.toInt ∧ x39.toInt ≤ v56_7.toInt := by rw [ex39]; exact wk_shr (by omega)
              refine lv_iconst (v := 1) hx hb dX7_firstOpen_73 (by decide) ?_
              refine lv_iand hx hb dX7_firstOpen_74 ?_
              refine lv_topi (fun x40 ex40 => ?_)
              have bx40 : 0 ≤ x40.toInt ∧ x40.toInt ≤ (1 : Int) := by rw [ex40]; exact wk_and (by decide)
              refine lv_if_eq (tgt := 102) hx hb dX7_firstOpen_75 (by decide) (fun c41 => ?_) (fun c41 => ?_)
              · have c41 : x40.toInt = (0 : Int) := wk_eq.mp c41
                obtain ⟨x42, ex42⟩ : ∃ y : Int32, y = v56_8 + Int32.ofInt 1 := ⟨_, rfl⟩
                refine lv_iinc (v := x42) (lv' := [(8, .int x42), (0, .ref (ad 39)), (1, .int a1), (2, .int 1), (3, .int a3), (4, .int a4), (5, .int (-1)), (6, .int v25_6), (7, .int v56_7)]) hx hb dX7_firstOpen_102 hl (k := 8) rfl ex42.symm (by decide) rfl (fun ls hl => ?_)
                have ex42 : x42.toInt = v56_8.toInt + 1 := by rw [ex42]; exact wk_add (y := 1) (show -2147483648 ≤ v56_8.toInt + 1 by omega) (show v56_8.toInt + 1 ≤ 2147483647 by omega)
                refine lv_goto (tgt := 56) hx hb dX7_firstOpen_105 (by decide) ?_
                exact ih56 v56_7 x42 H locs ls w24 (show 0 ≤ a1.toInt from r25) (show a1.toInt ≤ 11 from t26) (show (-1) ≤ a3.toInt from r27) (show a3.toInt ≤ 102119 from t28) (show 0 ≤ a4.toInt from r29) (show a4.toInt ≤ 102119 from t30) (show 0 ≤ v25_6.toInt from r31) (show v25_6.toInt ≤ 4254 from t32) (show 0 ≤ v56_7.toInt from r33) (show v56_7.toInt ≤ 16777215 from t34) (show 0 ≤ x42.toInt by first | with_reducible assumption | omega) (show x42.toInt ≤ 24 by first | with_reducible assumption | omega) (show (24 - x42.toInt).toNat < n56 by first | exact tn_lt hm56 (by omega) (by omega) | omega) hw hT hF  (lv_sub hl [1, 2, 3, 4, 5, 6, 7, 8, 0] rfl)
              · have c41 : ¬ x40.toInt = (0 : Int) := wk_eqF c41
                refine lv_iload hx hb dX7_firstOpen_78 (lv_at hl 6 rfl) ?_
                refine lv_bipush (v := 24) hx hb dX7_firstOpen_80 (by decide) ?_
                refine lv_imul hx hb dX7_firstOpen_82 ?_
                refine lv_topi (fun x43 ex43 => ?_)
                have ex43 : x43.toInt = v25_6.toInt * (24 : Int) := by rw [ex43]; exact wk_mul (show (-2147483648) ≤ v25_6.toInt * (24 : Int) by omega) (show v25_6.toInt * (24 : Int) ≤ 2147483647 by omega)
                refine lv_iload hx hb dX7_firstOpen_83 (lv_at hl 8 rfl) ?_
                refine lv_iadd hx hb dX7_firstOpen_85 ?_
                refine lv_topi (fun x44 ex44 => ?_)
                have ex44 : x44.toInt = x43.toInt + v56_8.toInt := by rw [ex44]; exact wk_add (show (-2147483648) ≤ x43.toInt + v56_8.toInt by omega) (show x43.toInt + v56_8.toInt ≤ 2147483647 by omega)
                refine lv_istore (lv' := [(9, .int x44), (0, .ref (ad 39)), (1, .int a1), (2, .int 1), (3, .int a3), (4, .int a4), (5, .int (-1)), (6, .int v25_6), (7, .int v56_7), (8, .int v56_8)]) hx hb dX7_firstOpen_86 hl (by decide) rfl (fun ls hl => ?_)
                refine lv_iload hx hb dX7_firstOpen_88 (lv_at hl 0 rfl) ?_
                refine lv_iload hx hb dX7_firstOpen_90 (lv_at hl 5 rfl) ?_
                refine lv_icmp_gt (tgt := 100) hx hb dX7_firstOpen_92 (by decide) (fun c45 => ?_) (fun c45 => ?_)
                · have c45 : a4.toInt < x44.toInt := wk_lt.mp c45
                  refine lv_iconst (v := (-1)) hx hb dX7_firstOpen_100 (by decide) ?_
                  exact tk_iret hC hr hlocks hK ⟨hT, hF, (Or.inr rfl)⟩ hw dX7_firstOpen_101
                · have c45 : x44.toInt ≤ a4.toInt := wk_ltF c45
                  refine lv_iload hx hb dX7_firstOpen_95 (lv_at hl 0 rfl) ?_
                  refine lv_goto (tgt := 101) hx hb dX7_firstOpen_97 (by decide) ?_
                  exact tk_iret hC hr hlocks hK ⟨hT, hF, (Or.inl ⟨(show 0 ≤ x44.toInt by first | with_reducible assumption | omega), (show x44.toInt ≤ 102119 by first | with_reducible assumption | omega)⟩)⟩ hw dX7_firstOpen_101
      refine lv_iload hx hb dX7_firstOpen_25 (lv_at hl 6 rfl) ?_
      refine lv_bipush (v := 24) hx hb dX7_firstOpen_27 (by decide) ?_
      refine lv_imul hx hb dX7_firstOpen_29 ?_
      refine lv_topi (fun x46 ex46 => ?_)
      have ex46 : x46.toInt = v25_6.toInt * (24 : Int) := by rw [ex46]; exact wk_mul (show (-2147483648) ≤ v25_6.toInt * (24 : Int) by omega) (show v25_6.toInt * (24 : Int) ≤ 2147483647 by omega)
      refine lv_iload hx hb dX7_firstOpen_30 (lv_at hl 4 rfl) ?_
      refine lv_icmp_gt (tgt := 114) hx hb dX7_firstOpen_32 (by decide) (fun c47 => ?_) (fun c47 => ?_)
      · have c47 : a4.toInt < x46.toInt := wk_lt.mp c47
        refine lv_iconst (v := (-1)) hx hb dX7_firstOpen_114 (by decide) ?_
        exact tk_iret hC hr hlocks hK ⟨hT, hF, (Or.inr rfl)⟩ hw dX7_firstOpen_115
      · have c47 : x46.toInt ≤ a4.toInt := wk_ltF c47
        refine lv_aload_n hx hb dX7_firstOpen_35 rfl (lv_at hl 0 rfl) ?_
        refine lv_iload_n hx hb dX7_firstOpen_36 rfl (lv_at hl 1 rfl) ?_
        refine lv_iload_n hx hb dX7_firstOpen_37 rfl (lv_at hl 2 rfl) ?_
        refine lv_iload hx hb dX7_firstOpen_38 (lv_at hl 6 rfl) ?_
        refine lv_i2l hx hb dX7_firstOpen_40 rfl ?_
        refine lv_topl (fun x48 ex48 => ?_)
        have ex48 : x48.toInt = v25_6.toInt := by rw [ex48]; exact wk_i2l _
        have bx48 := wk_i32 v25_6
        refine lv_iconst (v := 1) hx hb dX7_firstOpen_41 (by decide) ?_
        refine tk_Vi hC hK hw hT hA hE hSR kC_at39 (by decide) rfl (k_X7_openHours_12 l adK adV dC dI cy ad B hB0 (Int.le_trans hB1 (by decide)) qr s1   a1 (show 0 ≤ a1.toInt from r2) (show a1.toInt ≤ 11 from t3) x48 (show 0 ≤ x48.toInt by first | with_reducible assumption | omega) (show x48.toInt ≤ 4254 by first | with_reducible assumption | omega) w1 H.size hT ) (cwV 4 hC.2.2.2.2 uV_RX7_148 rfl rfl rfl (by decide +kernel) ⟨Nat.le_of_ble_eq_true rfl, Nat.le_of_ble_eq_true rfl⟩) rfl hl.1 rfl (Nat.le_of_ble_eq_true rfl) dX7_firstOpen_42 (fun r49 w51 H locs hp50 hw => ?_)
        obtain ⟨hT, k52, hg55⟩ := hp50
        have hF := hF.tr k52 (by decide)
        obtain ⟨g53, g54⟩ := hg55
        refine lv_iload hx hb dX7_firstOpen_45 (lv_at hl 5 rfl) ?_
        refine lv_iand hx hb dX7_firstOpen_47 ?_
        refine lv_topi (fun x56 ex56 => ?_)
        have bx56 : 0 ≤ x56.toInt ∧ x56.toInt ≤ r49.toInt := by rw [ex56]; exact wk_andC (by omega)
        refine lv_istore (lv' := [(7, .int x56), (0, .ref (ad 39)), (1, .int a1), (2, .int 1), (3, .int a3), (4, .int a4), (5, .int v25_5), (6, .int v25_6)]) hx hb dX7_firstOpen_48 hl (by decide) rfl (fun ls hl => ?_)
        refine lv_iconst (v := (-1)) hx hb dX7_firstOpen_50 (by decide) ?_
        refine lv_istore (lv' := [(5, .int (-1)), (7, .int x56), (0, .ref (ad 39)), (1, .int a1), (2, .int 1), (3, .int a3), (4, .int a4), (6, .int v25_6)]) hx hb dX7_firstOpen_51 hl (by decide) rfl (fun ls hl => ?_)
        refine lv_iconst (v := 0) hx hb dX7_firstOpen_53 (by decide) ?_
        refine lv_istore (lv' := [(8, .int 0), (5, .int (-1)), (7, .int x56), (0, .ref (ad 39)), (1, .int a1), (2, .int 1), (3, .int a3), (4, .int a4), (6, .int v25_6)]) hx hb dX7_firstOpen_54 hl (by decide) rfl (fun ls hl => ?_)
        exact L56 ((24 - (0 : Int)).toNat + 1) x56 0 H locs ls w51 (show 0 ≤ a1.toInt from r2) (show a1.toInt ≤ 11 from t3) (show (-1) ≤ a3.toInt from r4) (show a3.toInt ≤ 102119 from t5) (show 0 ≤ a4.toInt from r6) (show a4.toInt ≤ 102119 from t7) (show 0 ≤ v25_6.toInt from r8) (show v25_6.toInt ≤ 4254 by first | with_reducible assumption | omega) (show 0 ≤ x56.toInt by first | with_reducible assumption | omega) (show x56.toInt ≤ 16777215 by first | with_reducible assumption | omega) (by decide) (by decide) (Nat.lt_succ_self _) hw hT hF  (lv_sub hl [3, 4, 5, 6, 7, 1, 8, 2, 0] rfl)
  refine lv_aload_n hx hb dX7_firstOpen_0 rfl (lv_at hl 0 rfl) ?_
  refine lv_iload_n hx hb dX7_firstOpen_1 rfl (lv_at hl 1 rfl) ?_
  refine lv_iload_n hx hb dX7_firstOpen_2 rfl (lv_at hl 2 rfl) ?_
  refine tk_Vi hC hK hw hT hA hE hSR kC_at39 (by decide) rfl (k_X7_isNeverOpen_2 l adK adV dC dI cy ad B hB0 (Int.le_trans hB1 (by decide)) qr s1   a1 (show 0 ≤ a1.toInt from ra1) (show a1.toInt ≤ 11 from ta1) w0 s.heap.size hT ) (cwV 2 hC.2.2.2.2 uV_RX7_152 rfl rfl rfl (by decide +kernel) ⟨Nat.le_of_ble_eq_true rfl, Nat.le_of_ble_eq_true rfl⟩) rfl hl.1 rfl (Nat.le_of_ble_eq_true rfl) dX7_firstOpen_3 (fun r57 w59 H locs hp58 hw => ?_)
  obtain ⟨hT, k60, hg61⟩ := hp58
  have hF := hF.tr k60 (by decide)
  rcases hg61 with rfl | rfl
  · refine lv_if_eq (tgt := 11) hx hb dX7_firstOpen_6 (by decide) (fun _ => ?_) (fun c => absurd (by decide) c)
    refine lv_iconst (v := (-1)) hx hb dX7_firstOpen_11 (by decide) ?_
    refine lv_iload_n hx hb dX7_firstOpen_12 rfl (lv_at hl 3 rfl) ?_
    refine lv_bipush (v := 24) hx hb dX7_firstOpen_13 (by decide) ?_
    refine lv_irem hx hb dX7_firstOpen_15 (by decide) ?_
    refine lv_topi (fun x62 ex62 => ?_)
    refine lv_ishl hx hb dX7_firstOpen_16 ?_
    refine lv_topi (fun x63 ex63 => ?_)
    refine lv_istore (lv' := [(5, .int x63), (0, .ref (ad 39)), (1, .int a1), (2, .int 1), (3, .int a3), (4, .int a4)]) hx hb dX7_firstOpen_17 hl (by decide) rfl (fun ls hl => ?_)
    refine lv_iload_n hx hb dX7_firstOpen_19 rfl (lv_at hl 4 rfl) ?_
    refine lv_bipush (v := 24) hx hb dX7_firstOpen_20 (by decide) ?_
    refine lv_idiv hx hb dX7_firstOpen_22 (by decide) ?_
    refine lv_topi (fun x64 ex64 => ?_)
    have bx64 : -(1 / (24 : Int)) ≤ x64.toInt ∧ x64.toInt ≤ 102119 / (24 : Int) := by rw [ex64]; exact wk_divB (m := 1) (n := 102119) (show 0 < (24 : Int) by decide) (by decide) (by decide) (by omega) (by omega)
    refine lv_istore (lv' := [(6, .int x64), (5, .int x63), (0, .ref (ad 39)), (1, .int a1), (2, .int 1), (3, .int a3), (4, .int a4)]) hx hb dX7_firstOpen_23 hl (by decide) rfl (fun ls hl => ?_)
    exact L25 ((4255 - x64.toInt).toNat + 1) x63 x64 H locs ls w59 (show 0 ≤ a1.toInt from ra1) (show a1.toInt ≤ 11 from ta1) (show (-1) ≤ a3.toInt from ra3) (show a3.toInt ≤ 102119 from ta3) (show 0 ≤ a4.toInt from ra4) (show a4.toInt ≤ 102119 from ta4) (show 0 ≤ x64.toInt by first | with_reducible assumption | omega) (show x64.toInt ≤ 4255 by first | with_reducible assumption | omega) (Nat.lt_succ_self _) hw hT hF  (lv_sub hl [2, 3, 4, 5, 6, 1, 0] rfl)
  · refine lv_if_eq (tgt := 11) hx hb dX7_firstOpen_6 (by decide) (fun c => absurd c (by decide)) (fun _ => ?_)
    refine lv_iconst (v := (-1)) hx hb dX7_firstOpen_9 (by decide) ?_
    exact tk_iret hC hr hlocks hK ⟨hT, hF, (Or.inr rfl)⟩ hw dX7_firstOpen_10
abbrev P_X7_lastOpen_1 (ad : Nat → Nat) (cy : Nat → ClassId) (B : Int) (qr : Nat) (s1 : Int) (a1 : Int32) (a3 : Int32) (a4 : Int32) (w0 : va_W) : Int32 → va_W → Prop := fun r u => TW ksC ad cy B qr s1 u ∧ FE ksC ([] : List (Nat × Nat × Nat)) w0 u ∧ ((0 ≤ r.toInt ∧ r.toInt ≤ 102119 ∧ 0 ≤ a4.toInt) ∨ (r = (-1)))
set_option maxHeartbeats 4000000 in
set_option maxRecDepth 100000 in
theorem k_X7_lastOpen_1 (l : Launch) (adK adV : Nat → Nat) (dC : Nat → ClassId) (dI : Nat → Nat → Nat) (cy : Nat → ClassId) (ad : Nat → Nat) (B : Int) (hB0 : 2147483648 ≤ B) (hB1 : B ≤ 1152921504606846976) (qr : Nat) (s1 : Int)  (a1 : Int32) (ra1 : 0 ≤ a1.toInt) (ta1 : a1.toInt ≤ 11) (a3 : Int32) (ra3 : 0 ≤ a3.toInt) (ta3 : a3.toInt ≤ 99999) (a4 : Int32) (ra4 : (-10) ≤ a4.toInt) (ta4 : a4.toInt ≤ 102119) (w0 : va_W) (sz : Nat) (hT : TW ksC ad cy B qr s1 w0)  : Met l yX7_lastOpen (wu yX7_lastOpen cX7_lastOpen 10 (some .int)) ({ frames := 2, cells := 0, slots := 0, locals := 39 }) (va_Pc [.ref (ad 39), .int a1, .int 1, .int a3, .int a4] (wpreS adK adV dC dI cy sz w0)) (va_Qi (P_X7_lastOpen_1 ad cy B qr s1 a1 a3 a4 w0) (fun u : va_W => wpost dC dI cy (va_A w0 sz) u) (va_A w0 sz)) 0 0 (va_A w0 sz) := by
  refine Met.ofW (cc := cX7_lastOpen) (maxL := 10) (ret := (some .int)) (by decide) rfl ?_
  intro p e s m args below meth c s₁ Bk hml hv
  obtain ⟨rfl, ⟨hsz, hP, hK, hD0⟩, hE, hSR⟩ := hv
  have hx := Bk.exec
  have hb := Bk.bytes
  have hr := Bk.returns
  have hlocks := Bk.notSynchronized
  have hC : CallFix p m c cX7_lastOpen 10 s _ (wu yX7_lastOpen cX7_lastOpen 10 (some .int)) RX7 := ⟨hx, hb, hml, findClass_of_methodNamed Bk.named, atoms_spec (ws := (wu yX7_lastOpen cX7_lastOpen 10 (some .int))) Bk.pre⟩
  subst hsz
  have hD := hD0.self (sz := s.heap.size)
  generalize hAe : va_A w0 s.heap.size = A at hD hE ⊢
  have hA : ∀ q : Nat, s.heap.size ≤ q → A q := fun q h => by rw [← hAe]; exact Or.inr h
  have hw : Wd dC dI A s.heap s.heap [] w0 := ⟨hP, hD, va_S.rf⟩
  have hF : FE ksC ([] : List (Nat × Nat × Nat)) w0 w0 := FE.rf
  have hl := lv_entry ([.ref (ad 39), .int a1, .int 1, .int a3, .int a4]) (n := 10) (Nat.le_of_ble_eq_true rfl)
  rw [lg_entry_eq]
  generalize (lg_sl ([.ref (ad 39), .int a1, .int 1, .int a3, .int a4]) ++ List.replicate (10 - (lg_sl ([.ref (ad 39), .int a1, .int 1, .int a3, .int a4])).length) Slot.unset).toArray = ls at hl ⊢
  have hl : lv_has ls 10 [(0, .ref (ad 39)), (1, .int a1), (2, .int 1), (3, .int a3), (4, .int a4)] := hl
  generalize hloc : ([] : List Loc) = locs at hw ⊢
  have J15 : ∀ (H : Heap) (locs : List Loc) (ls : Array Slot) (w1 : va_W), 0 ≤ a1.toInt → a1.toInt ≤ 11 → 0 ≤ a3.toInt → a3.toInt ≤ 99999 → (-10) ≤ a4.toInt → a4.toInt ≤ 102119 → Wd dC dI A s.heap H locs w1 → TW ksC ad cy B qr s1 w1 → FE ksC ([] : List (Nat × Nat × Nat)) w0 w1 → lv_has ls 10 [(0, .ref (ad 39)), (1, .int a1), (2, .int 1), (3, .int a3), (4, .int a4)] → W p l e ({ frames := 2, cells := 0, slots := 0, locals := 39 }) s m (List.toArray [.ref (ad 39), .int a1, .int 1, .int a3, .int a4]) below meth c H locs 0 0 (MQ below (va_Qi (P_X7_lastOpen_1 ad cy B qr s1 a1 a3 a4 w0) (fun u : va_W => wpost dC dI cy A u) A) (List.toArray [.ref (ad 39), .int a1, .int 1, .int a3, .int a4]) s 0 0 A) (F0 m 15 ls []) := by
    intro H locs ls w1 r2 t3 r4 t5 r6 t7 hw hT hF hl
    refine lv_iconst (v := (-1)) hx hb dX7_lastOpen_15 (by decide) ?_
    exact tk_iret hC hr hlocks hK ⟨hT, hF, (Or.inr rfl)⟩ hw dX7_lastOpen_16
  have L35 : ∀ (n35 : Nat) (v35_5 : Int32) (v35_6 : Int32) (H : Heap) (locs : List Loc) (ls : Array Slot) (w8 : va_W), 0 ≤ a1.toInt → a1.toInt ≤ 11 → 0 ≤ a3.toInt → a3.toInt ≤ 99999 → 0 ≤ a4.toInt → a4.toInt ≤ 102119 → (-1) ≤ v35_6.toInt → v35_6.toInt ≤ 4254 → (v35_6.toInt - (-1)).toNat < n35 → Wd dC dI A s.heap H locs w8 → TW ksC ad cy B qr s1 w8 → FE ksC ([] : List (Nat × Nat × Nat)) w0 w8 → lv_has ls 10 [(0, .ref (ad 39)), (1, .int a1), (2, .int 1), (3, .int a3), (4, .int a4), (5, .int v35_5), (6, .int v35_6)] → W p l e ({ frames := 2, cells := 0, slots := 0, locals := 39 }) s m (List.toArray [.ref (ad 39), .int a1, .int 1, .int a3, .int a4]) below meth c H locs 0 0 (MQ below (va_Qi (P_X7_lastOpen_1 ad cy B qr s1 a1 a3 a4 w0) (fun u : va_W => wpost dC dI cy A u) A) (List.toArray [.ref (ad 39), .int a1, .int 1, .int a3, .int a4]) s 0 0 A) (F0 m 35 ls []) := by
    intro n35
    induction n35 with
    | zero => intro v35_5 v35_6 H locs ls w8 r9 t10 r11 t12 r13 t14 r15 t16 hm35 hw hT hF hl; omega
    | succ n35 ih35 =>
      intro v35_5 v35_6 H locs ls w8 r9 t10 r11 t12 r13 t14 r15 t16 hm35 hw hT hF hl
      have J115 : ∀ (v115_7 : Int32) (v115_8 : Int32) (H : Heap) (locs : List Loc) (ls : Array Slot) (w17 : va_W), 0 ≤ a1.toInt → a1.toInt ≤ 11 → 0 ≤ a3.toInt → a3.toInt ≤ 99999 → 0 ≤ a4.toInt → a4.toInt ≤ 102119 → 0 ≤ v35_6.toInt → v35_6.toInt ≤ 4254 → 0 ≤ v115_7.toInt → v115_7.toInt ≤ 16777215 → (-1) ≤ v115_8.toInt → v115_8.toInt ≤ 23 → Wd dC dI A s.heap H locs w17 → TW ksC ad cy B qr s1 w17 → FE ksC ([] : List (Nat × Nat × Nat)) w0 w17 → lv_has ls 10 [(0, .ref (ad 39)), (1, .int a1), (2, .int 1), (3, .int a3), (4, .int a4), (5, .int (-1)), (6, .int v35_6), (7, .int v115_7), (8, .int v115_8)] → W p l e ({ frames := 2, cells := 0, slots := 0, locals := 39 }) s m (List.toArray [.ref (ad 39), .int a1, .int 1, .int a3, .int a4]) below meth c H locs 0 0 (MQ below (va_Qi (P_X7_lastOpen_1 ad cy B qr s1 a1 a3 a4 w0) (fun u : va_W => wpost dC dI cy A u) A) (List.toArray [.ref (ad 39), .int a1, .int 1, .int a3, .int a4]) s 0 0 A) (F0 m 115 ls []) := by
        intro v115_7 v115_8 H locs ls w17 r18 t19 r20 t21 r22 t23 r24 t25 r26 t27 r28 t29 hw hT hF hl
        obtain ⟨x30, ex30⟩ : ∃ y : Int32, y = v35_6 + Int32.ofInt (-1) := ⟨_, rfl⟩
        refine lv_iinc (v := x30) (lv' := [(6, .int x30), (0, .ref (ad 39)), (1, .int a1), (2, .int 1), (3, .int a3), (4, .int a4), (5, .int (-1)), (7, .int v115_7), (8, .int v115_8)]) hx hb dX7_lastOpen_115 hl (k := 6) rfl ex30.symm (by decide) rfl (fun ls hl => ?_)
        have ex30 : x30.toInt = v35_6.toInt + (-1) := by rw [ex30]; exact wk_add (y := (-1)) (show -2147483648 ≤ v35_6.toInt + (-1) by omega) (show v35_6.toInt + (-1) ≤ 2147483647 by omega)
        refine lv_goto (tgt := 35) hx hb dX7_lastOpen_118 (by decide) ?_
        exact ih35 (-1) x30 H locs ls w17 (show 0 ≤ a1.toInt from r18) (show a1.toInt ≤ 11 from t19) (show 0 ≤ a3.toInt from r20) (show a3.toInt ≤ 99999 from t21) (show 0 ≤ a4.toInt from r22) (show a4.toInt ≤ 102119 from t23) (show (-1) ≤ x30.toInt by first | with_reducible assumption | omega) (show x30.toInt ≤ 4254 by first | with_reducible assumption | omega) (show (x30.toInt - (-1)).toNat < n35 by first | exact tn_lt hm35 (by omega) (by omega) | omega) hw hT hF  (lv_sub hl [1, 2, 3, 4, 5, 6, 0] rfl)
      have L66 : ∀ (n66 : Nat) (v66_7 : Int32) (v66_8 : Int32) (H : Heap) (locs : List Loc) (ls : Array Slot) (w31 : va_W), 0 ≤ a1.toInt → a1.toInt ≤ 11 → 0 ≤ a3.toInt → a3.toInt ≤ 99999 → 0 ≤ a4.toInt → a4.toInt ≤ 102119 → 0 ≤ v35_6.toInt → v35_6.toInt ≤ 4254 → 0 ≤ v66_7.toInt → v66_7.toInt ≤ 16777215 → (-1) ≤ v66_8.toInt → v66_8.toInt ≤ 23 → (v66_8.toInt - (-1)).toNat < n66 → Wd dC dI A s.heap H locs w31 → TW ksC ad cy B qr s1 w31 → FE ksC ([] : List (Nat × Nat × Nat)) w0 w31 → lv_has ls 10 [(0, .ref (ad 39)), (1, .int a1), (2, .int 1), (3, .int a3), (4, .int a4), (5, .int (-1)), (6, .int v35_6), (7, .int v66_7), (8, .int v66_8)] → W p l e ({ frames := 2, cells := 0, slots := 0, locals := 39 }) s m (List.toArray [.ref (ad 39), .int a1, .int 1, .int a3, .int a4]) below meth c H locs 0 0 (MQ below (va_Qi (P_X7_lastOpen_1 ad cy B qr s1 a1 a3 a4 w0) (fun u : va_W => wpost dC dI cy A u) A) (List.toArray [.ref (ad 39), .int a1, .int 1, .int a3, .int a4]) s 0 0 A) (F0 m 66 ls []) := by
        intro n66
        induction n66 with
        | zero => intro v66_7 v66_8 H locs ls w31 r32 t33 r34 t35 r36 t37 r38 t39 r40 t41 r42 t43 hm66 hw hT hF hl; omega
        | succ n66 ih66 =>
          intro v66_7 v66_8 H locs ls w31 r32 t33 r34 t35 r36 t37 r38 t39 r40 t41 r42 t43 hm66 hw hT hF hl
          refine lv_iload hx hb dX7_lastOpen_66 (lv_at hl 7 rfl) ?_
          refine lv_if_eq (tgt := 115) hx hb dX7_lastOpen_68 (by decide) (fun c44 => ?_) (fun c44 => ?_)
          · have c44 : v66_7.toInt = (0 : Int) := wk_eq.mp c44
            exact J115 v66_7 v66_8 H locs ls w31 (show 0 ≤ a1.toInt from r32) (show a1.toInt ≤ 11 from t33) (show 0 ≤ a3.toInt from r34) (show a3.toInt ≤ 99999 from t35) (show 0 ≤ a4.toInt from r36) (show a4.toInt ≤ 102119 from t37) (show 0 ≤ v35_6.toInt from r38) (show v35_6.toInt ≤ 4254 from t39) (show 0 ≤ v66_7.toInt from r40) (show v66_7.toInt ≤ 16777215 from t41) (show (-1) ≤ v66_8.toInt from r42) (show v66_8.toInt ≤ 23 from t43)  hw hT hF  (lv_sub hl [0, 1, 2, 3, 4, 5, 6, 7, 8] rfl)
          · have c44 : ¬ v66_7.toInt = (0 : Int) := wk_eqF c44
            refine lv_iload hx hb dX7_lastOpen_71 (lv_at hl 8 rfl) ?_
            refine lv_if_lt (tgt := 115) hx hb dX7_lastOpen_73 (by decide) (fun c45 => ?_) (fun c45 => ?_)
            · have c45 : v66_8.toInt < (0 : Int) := wk_lt.mp c45
              exact J115 v66_7 v66_8 H locs ls w31 (show 0 ≤ a1.toInt from r32) (show a1.toInt ≤ 11 from t33) (show 0 ≤ a3.toInt from r34) (show a3.toInt ≤ 99999 from t35) (show 0 ≤ a4.toInt from r36) (show a4.toInt ≤ 102119 from t37) (show 0 ≤ v35_6.toInt from r38) (show v35_6.toInt ≤ 4254 from t39) (show 0 ≤ v66_7.toInt from r40) (show v66_7.toInt ≤ 16777215 from t41) (show (-1) ≤ v66_8.toInt from r42) (show v66_8.toInt ≤ 23 from t43)  hw hT hF  (lv_sub hl [0, 1, 2, 3, 4, 5, 6, 7, 8] rfl)
            · have c45 : (0 : Int) ≤ v66_8.toInt := wk_ltF c45
              refine lv_iload hx hb dX7_lastOpen_76 (lv_at hl 7 rfl) ?_
              refine lv_iload hx hb dX7_lastOpen_78 (lv_at hl 8 rfl) ?_
              refine lv_ishr hx hb dX7_lastOpen_80 ?_
              refine lv_topi (fun x46 ex46 => ?_)
              have bx46 : 0 ≤ x46.toInt ∧ x46.toInt ≤ v66_7.toInt := by rw [ex46]; exact wk_shr (by omega)
              refine lv_iconst (v := 1) hx hb dX7_lastOpen_81 (by decide) ?_
              refine lv_iand hx hb dX7_lastOpen_82 ?_
              refine lv_topi (fun x47 ex47 => ?_)
              have bx47 : 0 ≤ x47.toInt ∧ x47.toInt ≤ (1 : Int) := by rw [ex47]; exact wk_and (by decide)
              refine lv_if_eq (tgt := 109) hx hb dX7_lastOpen_83 (by decide) (fun c48 => ?_) (fun c48 => ?_)
              · have c48 : x47.toInt = (0 : Int) := wk_eq.mp c48
                obtain ⟨x49, ex49⟩ : ∃ y : Int32, y = v66_8 + Int32.ofInt (-1) := ⟨_, rfl⟩
                refine lv_iinc (v := x49) (lv' := [(8, .int x49), (0, .ref (ad 39)), (1, .int a1), (2, .int 1), (3, .int a3), (4, .int a4), (5, .int (-1)), (6, .int v35_6), (7, .int v66_7)]) hx hb dX7_lastOpen_109 hl (k := 8) rfl ex49.symm (by decide) rfl (fun ls hl => ?_)
                have ex49 : x49.toInt = v66_8.toInt + (-1) := by rw [ex49]; exact wk_add (y := (-1)) (show -2147483648 ≤ v66_8.toInt + (-1) by omega) (show v66_8.toInt + (-1) ≤ 2147483647 by omega)
                refine lv_goto (tgt := 66) hx hb dX7_lastOpen_112 (by decide) ?_
                exact ih66 v66_7 x49 H locs ls w31 (show 0 ≤ a1.toInt from r32) (show a1.toInt ≤ 11 from t33) (show 0 ≤ a3.toInt from r34) (show a3.toInt ≤ 99999 from t35) (show 0 ≤ a4.toInt from r36) (show a4.toInt ≤ 102119 from t37) (show 0 ≤ v35_6.toInt from r38) (show v35_6.toInt ≤ 4254 from t39) (show 0 ≤ v66_7.toInt from r40) (show v66_7.toInt ≤ 16777215 from t41) (show (-1) ≤ x49.toInt by first | with_reducible assumption | omega) (show x49.toInt ≤ 23 by first | with_reducible assumption | omega) (show (x49.toInt - (-1)).toNat < n66 by first | exact tn_lt hm66 (by omega) (by omega) | omega) hw hT hF  (lv_sub hl [1, 2, 3, 4, 5, 6, 7, 8, 0] rfl)
              · have c48 : ¬ x47.toInt = (0 : Int) := wk_eqF c48
                refine lv_iload hx hb dX7_lastOpen_86 (lv_at hl 6 rfl) ?_
                refine lv_bipush (v := 24) hx hb dX7_lastOpen_88 (by decide) ?_
                refine lv_imul hx hb dX7_lastOpen_90 ?_
                refine lv_topi (fun x50 ex50 => ?_)
                have ex50 : x50.toInt = v35_6.toInt * (24 : Int) := by rw [ex50]; exact wk_mul (show (-2147483648) ≤ v35_6.toInt * (24 : Int) by omega) (show v35_6.toInt * (24 : Int) ≤ 2147483647 by omega)
                refine lv_iload hx hb dX7_lastOpen_91 (lv_at hl 8 rfl) ?_
                refine lv_iadd hx hb dX7_lastOpen_93 ?_
                refine lv_topi (fun x51 ex51 => ?_)
                have ex51 : x51.toInt = x50.toInt + v66_8.toInt := by rw [ex51]; exact wk_add (show (-2147483648) ≤ x50.toInt + v66_8.toInt by omega) (show x50.toInt + v66_8.toInt ≤ 2147483647 by omega)
                refine lv_istore (lv' := [(9, .int x51), (0, .ref (ad 39)), (1, .int a1), (2, .int 1), (3, .int a3), (4, .int a4), (5, .int (-1)), (6, .int v35_6), (7, .int v66_7), (8, .int v66_8)]) hx hb dX7_lastOpen_94 hl (by decide) rfl (fun ls hl => ?_)
                refine lv_iload hx hb dX7_lastOpen_96 (lv_at hl 0 rfl) ?_
                refine lv_iload_n hx hb dX7_lastOpen_98 rfl (lv_at hl 4 rfl) ?_
                refine lv_icmp_lt (tgt := 107) hx hb dX7_lastOpen_99 (by decide) (fun c52 => ?_) (fun c52 => ?_)
                · have c52 : x51.toInt < a3.toInt := wk_lt.mp c52
                  refine lv_iconst (v := (-1)) hx hb dX7_lastOpen_107 (by decide) ?_
                  exact tk_iret hC hr hlocks hK ⟨hT, hF, (Or.inr rfl)⟩ hw dX7_lastOpen_108
                · have c52 : a3.toInt ≤ x51.toInt := wk_ltF c52
                  refine lv_iload hx hb dX7_lastOpen_102 (lv_at hl 0 rfl) ?_
                  refine lv_goto (tgt := 108) hx hb dX7_lastOpen_104 (by decide) ?_
                  exact tk_iret hC hr hlocks hK ⟨hT, hF, (Or.inl ⟨(show 0 ≤ x51.toInt by first | with_reducible assumption | omega), (show x51.toInt ≤ 102119 by first | with_reducible assumption | omega), (show 0 ≤ a4.toInt from r36)⟩)⟩ hw dX7_lastOpen_108
      refine lv_iload hx hb dX7_lastOpen_35 (lv_at hl 6 rfl) ?_
      refine lv_iload_n hx hb dX7_lastOpen_37 rfl (lv_at hl 3 rfl) ?_
      refine lv_bipush (v := 24) hx hb dX7_lastOpen_38 (by decide) ?_
      refine lv_idiv hx hb dX7_lastOpen_40 (by decide) ?_
      refine lv_topi (fun x53 ex53 => ?_)
      have ex53 : x53.toInt = a3.toInt / (24 : Int) := by rw [ex53]; exact wk_div (show 0 ≤ a3.toInt from r11) (show 0 < (24 : Int) by decide)
      refine lv_icmp_lt (tgt := 121) hx hb dX7_lastOpen_41 (by decide) (fun c54 => ?_) (fun c54 => ?_)
      · have c54 : v35_6.toInt < x53.toInt := wk_lt.mp c54
        refine lv_iconst (v := (-1)) hx hb dX7_lastOpen_121 (by decide) ?_
        exact tk_iret hC hr hlocks hK ⟨hT, hF, (Or.inr rfl)⟩ hw dX7_lastOpen_122
      · have c54 : x53.toInt ≤ v35_6.toInt := wk_ltF c54
        refine lv_aload_n hx hb dX7_lastOpen_44 rfl (lv_at hl 0 rfl) ?_
        refine lv_iload_n hx hb dX7_lastOpen_45 rfl (lv_at hl 1 rfl) ?_
        refine lv_iload_n hx hb dX7_lastOpen_46 rfl (lv_at hl 2 rfl) ?_
        refine lv_iload hx hb dX7_lastOpen_47 (lv_at hl 6 rfl) ?_
        refine lv_i2l hx hb dX7_lastOpen_49 rfl ?_
        refine lv_topl (fun x55 ex55 => ?_)
        have ex55 : x55.toInt = v35_6.toInt := by rw [ex55]; exact wk_i2l _
        have bx55 := wk_i32 v35_6
        refine lv_iconst (v := 1) hx hb dX7_lastOpen_50 (by decide) ?_
        refine tk_Vi hC hK hw hT hA hE hSR kC_at39 (by decide) rfl (k_X7_openHours_12 l adK adV dC dI cy ad B hB0 (Int.le_trans hB1 (by decide)) qr s1   a1 (show 0 ≤ a1.toInt from r9) (show a1.toInt ≤ 11 from t10) x55 (show 0 ≤ x55.toInt by first | with_reducible assumption | omega) (show x55.toInt ≤ 4254 by first | with_reducible assumption | omega) w8 H.size hT ) (cwV 4 hC.2.2.2.2 uV_RX7_148 rfl rfl rfl (by decide +kernel) ⟨Nat.le_of_ble_eq_true rfl, Nat.le_of_ble_eq_true rfl⟩) rfl hl.1 rfl (Nat.le_of_ble_eq_true rfl) dX7_lastOpen_51 (fun r56 w58 H locs hp57 hw => ?_)
        obtain ⟨hT, k59, hg62⟩ := hp57
        have hF := hF.tr k59 (by decide)
        obtain ⟨g60, g61⟩ := hg62
        refine lv_iload hx hb dX7_lastOpen_54 (lv_at hl 5 rfl) ?_
        refine lv_iand hx hb dX7_lastOpen_56 ?_
        refine lv_topi (fun x63 ex63 => ?_)
        have bx63 : 0 ≤ x63.toInt ∧ x63.toInt ≤ r56.toInt := by rw [ex63]; exact wk_andC (by omega)
        refine lv_istore (lv' := [(7, .int x63), (0, .ref (ad 39)), (1, .int a1), (2, .int 1), (3, .int a3), (4, .int a4), (5, .int v35_5), (6, .int v35_6)]) hx hb dX7_lastOpen_57 hl (by decide) rfl (fun ls hl => ?_)
        refine lv_iconst (v := (-1)) hx hb dX7_lastOpen_59 (by decide) ?_
        refine lv_istore (lv' := [(5, .int (-1)), (7, .int x63), (0, .ref (ad 39)), (1, .int a1), (2, .int 1), (3, .int a3), (4, .int a4), (6, .int v35_6)]) hx hb dX7_lastOpen_60 hl (by decide) rfl (fun ls hl => ?_)
        refine lv_bipush (v := 23) hx hb dX7_lastOpen_62 (by decide) ?_
        refine lv_istore (lv' := [(8, .int 23), (5, .int (-1)), (7, .int x63), (0, .ref (ad 39)), (1, .int a1), (2, .int 1), (3, .int a3), (4, .int a4), (6, .int v35_6)]) hx hb dX7_lastOpen_64 hl (by decide) rfl (fun ls hl => ?_)
        exact L66 (((23 : Int) - (-1)).toNat + 1) x63 23 H locs ls w58 (show 0 ≤ a1.toInt from r9) (show a1.toInt ≤ 11 from t10) (show 0 ≤ a3.toInt from r11) (show a3.toInt ≤ 99999 from t12) (show 0 ≤ a4.toInt from r13) (show a4.toInt ≤ 102119 from t14) (show 0 ≤ v35_6.toInt by first | with_reducible assumption | omega) (show v35_6.toInt ≤ 4254 from t16) (show 0 ≤ x63.toInt by first | with_reducible assumption | omega) (show x63.toInt ≤ 16777215 by first | with_reducible assumption | omega) (by decide) (by decide) (Nat.lt_succ_self _) hw hT hF  (lv_sub hl [3, 4, 5, 6, 7, 1, 8, 2, 0] rfl)
  refine lv_iload hx hb dX7_lastOpen_0 (lv_at hl 4 rfl) ?_
  refine lv_iload_n hx hb dX7_lastOpen_2 rfl (lv_at hl 3 rfl) ?_
  refine lv_icmp_lt (tgt := 15) hx hb dX7_lastOpen_3 (by decide) (fun c64 => ?_) (fun c64 => ?_)
  · have c64 : a4.toInt < a3.toInt := wk_lt.mp c64
    exact J15  s.heap locs ls w0 (show 0 ≤ a1.toInt from ra1) (show a1.toInt ≤ 11 from ta1) (show 0 ≤ a3.toInt from ra3) (show a3.toInt ≤ 99999 from ta3) (show (-10) ≤ a4.toInt from ra4) (show a4.toInt ≤ 102119 from ta4)  hw hT hF  (lv_sub hl [0, 1, 2, 3, 4] rfl)
  · have c64 : a3.toInt ≤ a4.toInt := wk_ltF c64
    refine lv_aload_n hx hb dX7_lastOpen_6 rfl (lv_at hl 0 rfl) ?_
    refine lv_iload_n hx hb dX7_lastOpen_7 rfl (lv_at hl 1 rfl) ?_
    refine lv_iload_n hx hb dX7_lastOpen_8 rfl (lv_at hl 2 rfl) ?_
    refine tk_Vi hC hK hw hT hA hE hSR kC_at39 (by decide) rfl (k_X7_isNeverOpen_2 l adK adV dC dI cy ad B hB0 (Int.le_trans hB1 (by decide)) qr s1   a1 (show 0 ≤ a1.toInt from ra1) (show a1.toInt ≤ 11 from ta1) w0 s.heap.size hT ) (cwV 2 hC.2.2.2.2 uV_RX7_152 rfl rfl rfl (by decide +kernel) ⟨Nat.le_of_ble_eq_true rfl, Nat.le_of_ble_eq_true rfl⟩) rfl hl.1 rfl (Nat.le_of_ble_eq_true rfl) dX7_lastOpen_9 (fun r65 w67 H locs hp66 hw => ?_)
    obtain ⟨hT, k68, hg69⟩ := hp66
    have hF := hF.tr k68 (by decide)
    rcases hg69 with rfl | rfl
    · refine lv_if_eq (tgt := 17) hx hb dX7_lastOpen_12 (by decide) (fun _ => ?_) (fun c => absurd (by decide) c)
      refine lv_iconst (v := 2) hx hb dX7_lastOpen_17 (by decide) ?_
      refine lv_iload hx hb dX7_lastOpen_18 (lv_at hl 4 rfl) ?_
      refine lv_bipush (v := 24) hx hb dX7_lastOpen_20 (by decide) ?_
      refine lv_irem hx hb dX7_lastOpen_22 (by decide) ?_
      refine lv_topi (fun x70 ex70 => ?_)
      have ex70 : x70.toInt = a4.toInt % (24 : Int) := by rw [ex70]; exact wk_rem (show 0 ≤ a4.toInt by first | with_reducible assumption | omega) (show 0 < (24 : Int) by decide)
      refine lv_ishl hx hb dX7_lastOpen_23 ?_
      refine lv_topi (fun x71 ex71 => ?_)
      refine lv_iconst (v := 1) hx hb dX7_lastOpen_24 (by decide) ?_
      refine lv_isub hx hb dX7_lastOpen_25 ?_
      have nx72 := wk_i32 x71
      refine lv_topi (fun x73 ex73 => ?_)
      refine lv_istore (lv' := [(5, .int x73), (0, .ref (ad 39)), (1, .int a1), (2, .int 1), (3, .int a3), (4, .int a4)]) hx hb dX7_lastOpen_26 hl (by decide) rfl (fun ls hl => ?_)
      refine lv_iload hx hb dX7_lastOpen_28 (lv_at hl 5 rfl) ?_
      refine lv_bipush (v := 24) hx hb dX7_lastOpen_30 (by decide) ?_
      refine lv_idiv hx hb dX7_lastOpen_32 (by decide) ?_
      refine lv_topi (fun x74 ex74 => ?_)
      have ex74 : x74.toInt = a4.toInt / (24 : Int) := by rw [ex74]; exact wk_div (show 0 ≤ a4.toInt by first | with_reducible assumption | omega) (show 0 < (24 : Int) by decide)
      refine lv_istore (lv' := [(6, .int x74), (5, .int x73), (0, .ref (ad 39)), (1, .int a1), (2, .int 1), (3, .int a3), (4, .int a4)]) hx hb dX7_lastOpen_33 hl (by decide) rfl (fun ls hl => ?_)
      exact L35 ((x74.toInt - (-1)).toNat + 1) x73 x74 H locs ls w67 (show 0 ≤ a1.toInt from ra1) (show a1.toInt ≤ 11 from ta1) (show 0 ≤ a3.toInt from ra3) (show a3.toInt ≤ 99999 from ta3) (show 0 ≤ a4.toInt by first | with_reducible assumption | omega) (show a4.toInt ≤ 102119 from ta4) (show (-1) ≤ x74.toInt by first | with_reducible assumption | omega) (show x74.toInt ≤ 4254 by first | with_reducible assumption | omega) (Nat.lt_succ_self _) hw hT hF  (lv_sub hl [2, 3, 4, 5, 6, 1, 0] rfl)
    · refine lv_if_eq (tgt := 17) hx hb dX7_lastOpen_12 (by decide) (fun c => absurd c (by decide)) (fun _ => ?_)
      exact J15  H locs ls w67 (show 0 ≤ a1.toInt from ra1) (show a1.toInt ≤ 11 from ta1) (show 0 ≤ a3.toInt from ra3) (show a3.toInt ≤ 99999 from ta3) (show (-10) ≤ a4.toInt from ra4) (show a4.toInt ≤ 102119 from ta4)  hw hT hF  (lv_sub hl [0, 1, 2, 3, 4] rfl)
abbrev P_X7_lastOpen_2 (ad : Nat → Nat) (cy : Nat → ClassId) (B : Int) (qr : Nat) (s1 : Int) (a1 : Int32) (a3 : Int32) (a4 : Int32) (w0 : va_W) : Int32 → va_W → Prop := fun r u => TW ksC ad cy B qr s1 u ∧ FE ksC ([] : List (Nat × Nat × Nat)) w0 u ∧ ((0 ≤ r.toInt ∧ r.toInt ≤ 102119 ∧ 0 ≤ a4.toInt) ∨ (r = (-1)))
set_option maxHeartbeats 4000000 in
set_option maxRecDepth 100000 in
theorem k_X7_lastOpen_2 (l : Launch) (adK adV : Nat → Nat) (dC : Nat → ClassId) (dI : Nat → Nat → Nat) (cy : Nat → ClassId) (ad : Nat → Nat) (B : Int) (hB0 : 2147483648 ≤ B) (hB1 : B ≤ 1152921504606846976) (qr : Nat) (s1 : Int)  (a1 : Int32) (ra1 : 0 ≤ a1.toInt) (ta1 : a1.toInt ≤ 11) (a3 : Int32) (ra3 : 0 ≤ a3.toInt) (ta3 : a3.toInt ≤ 99999) (a4 : Int32) (ra4 : (-10) ≤ a4.toInt) (ta4 : a4.toInt ≤ 102119) (w0 : va_W) (sz : Nat) (hT : TW ksC ad cy B qr s1 w0)  : Met l yX7_lastOpen (wu yX7_lastOpen cX7_lastOpen 10 (some .int)) ({ frames := 2, cells := 0, slots := 0, locals := 39 }) (va_Pc [.ref (ad 39), .int a1, .int 0, .int a3, .int a4] (wpreS adK adV dC dI cy sz w0)) (va_Qi (P_X7_lastOpen_2 ad cy B qr s1 a1 a3 a4 w0) (fun u : va_W => wpost dC dI cy (va_A w0 sz) u) (va_A w0 sz)) 0 0 (va_A w0 sz) := by
  refine Met.ofW (cc := cX7_lastOpen) (maxL := 10) (ret := (some .int)) (by decide) rfl ?_
  intro p e s m args below meth c s₁ Bk hml hv
  obtain ⟨rfl, ⟨hsz, hP, hK, hD0⟩, hE, hSR⟩ := hv
  have hx := Bk.exec
  have hb := Bk.bytes
  have hr := Bk.returns
  have hlocks := Bk.notSynchronized
  have hC : CallFix p m c cX7_lastOpen 10 s _ (wu yX7_lastOpen cX7_lastOpen 10 (some .int)) RX7 := ⟨hx, hb, hml, findClass_of_methodNamed Bk.named, atoms_spec (ws := (wu yX7_lastOpen cX7_lastOpen 10 (some .int))) Bk.pre⟩
  subst hsz
  have hD := hD0.self (sz := s.heap.size)
  generalize hAe : va_A w0 s.heap.size = A at hD hE ⊢
  have hA : ∀ q : Nat, s.heap.size ≤ q → A q := fun q h => by rw [← hAe]; exact Or.inr h
  have hw : Wd dC dI A s.heap s.heap [] w0 := ⟨hP, hD, va_S.rf⟩
  have hF : FE ksC ([] : List (Nat × Nat × Nat)) w0 w0 := FE.rf
  have hl := lv_entry ([.ref (ad 39), .int a1, .int 0, .int a3, .int a4]) (n := 10) (Nat.le_of_ble_eq_true rfl)
  rw [lg_entry_eq]
  generalize (lg_sl ([.ref (ad 39), .int a1, .int 0, .int a3, .int a4]) ++ List.replicate (10 - (lg_sl ([.ref (ad 39), .int a1, .int 0, .int a3, .int a4])).length) Slot.unset).toArray = ls at hl ⊢
  have hl : lv_has ls 10 [(0, .ref (ad 39)), (1, .int a1), (2, .int 0), (3, .int a3), (4, .int a4)] := hl
  generalize hloc : ([] : List Loc) = locs at hw ⊢
  have J15 : ∀ (H : Heap) (locs : List Loc) (ls : Array Slot) (w1 : va_W), 0 ≤ a1.toInt → a1.toInt ≤ 11 → 0 ≤ a3.toInt → a3.toInt ≤ 99999 → (-10) ≤ a4.toInt → a4.toInt ≤ 102119 → Wd dC dI A s.heap H locs w1 → TW ksC ad cy B qr s1 w1 → FE ksC ([] : List (Nat × Nat × Nat)) w0 w1 → lv_has ls 10 [(0, .ref (ad 39)), (1, .int a1), (2, .int 0), (3, .int a3), (4, .int a4)] → W p l e ({ frames := 2, cells := 0, slots := 0, locals := 39 }) s m (List.toArray [.ref (ad 39), .int a1, .int 0, .int a3, .int a4]) below meth c H locs 0 0 (MQ below (va_Qi (P_X7_lastOpen_2 ad cy B qr s1 a1 a3 a4 w0) (fun u : va_W => wpost dC dI cy A u) A) (List.toArray [.ref (ad 39), .int a1, .int 0, .int a3, .int a4]) s 0 0 A) (F0 m 15 ls []) := by
    intro H locs ls w1 r2 t3 r4 t5 r6 t7 hw hT hF hl
    refine lv_iconst (v := (-1)) hx hb dX7_lastOpen_15 (by decide) ?_
    exact tk_iret hC hr hlocks hK ⟨hT, hF, (Or.inr rfl)⟩ hw dX7_lastOpen_16
  have L35 : ∀ (n35 : Nat) (v35_5 : Int32) (v35_6 : Int32) (H : Heap) (locs : List Loc) (ls : Array Slot) (w8 : va_W), 0 ≤ a1.toInt → a1.toInt ≤ 11 → 0 ≤ a3.toInt → a3.toInt ≤ 99999 → 0 ≤ a4.toInt → a4.toInt ≤ 102119 → (-1) ≤ v35_6.toInt → v35_6.toInt ≤ 4254 → (v35_6.toInt - (-1)).toNat < n35 → Wd dC dI A s.heap H locs w8 → TW ksC ad cy B qr s1 w8 → FE ksC ([] : List (Nat × Nat × Nat)) w0 w8 → lv_has ls 10 [(0, .ref (ad 39)), (1, .int a1), (2, .int 0), (3, .int a3), (4, .int a4), (5, .int v35_5), (6, .int v35_6)] → W p l e ({ frames := 2, cells := 0, slots := 0, locals := 39 }) s m (List.toArray [.ref (ad 39), .int a1, .int 0, .int a3, .int a4]) below meth c H locs 0 0 (MQ below (va_Qi (P_X7_lastOpen_2 ad cy B qr s1 a1 a3 a4 w0) (fun u : va_W => wpost dC dI cy A u) A) (List.toArray [.ref (ad 39), .int a1, .int 0, .int a3, .int a4]) s 0 0 A) (F0 m 35 ls []) := by
    intro n35
    induction n35 with
    | zero => intro v35_5 v35_6 H locs ls w8 r9 t10 r11 t12 r13 t14 r15 t16 hm35 hw hT hF hl; omega
    | succ n35 ih35 =>
      intro v35_5 v35_6 H locs ls w8 r9 t10 r11 t12 r13 t14 r15 t16 hm35 hw hT hF hl
      have J115 : ∀ (v115_7 : Int32) (v115_8 : Int32) (H : Heap) (locs : List Loc) (ls : Array Slot) (w17 : va_W), 0 ≤ a1.toInt → a1.toInt ≤ 11 → 0 ≤ a3.toInt → a3.toInt ≤ 99999 → 0 ≤ a4.toInt → a4.toInt ≤ 102119 → 0 ≤ v35_6.toInt → v35_6.toInt ≤ 4254 → 0 ≤ v115_7.toInt → v115_7.toInt ≤ 16777215 → (-1) ≤ v115_8.toInt → v115_8.toInt ≤ 23 → Wd dC dI A s.heap H locs w17 → TW ksC ad cy B qr s1 w17 → FE ksC ([] : List (Nat × Nat × Nat)) w0 w17 → lv_has ls 10 [(0, .ref (ad 39)), (1, .int a1), (2, .int 0), (3, .int a3), (4, .int a4), (5, .int (-1)), (6, .int v35_6), (7, .int v115_7), (8, .int v115_8)] → W p l e ({ frames := 2, cells := 0, slots := 0, locals := 39 }) s m (List.toArray [.ref (ad 39), .int a1, .int 0, .int a3, .int a4]) below meth c H locs 0 0 (MQ below (va_Qi (P_X7_lastOpen_2 ad cy B qr s1 a1 a3 a4 w0) (fun u : va_W => wpost dC dI cy A u) A) (List.toArray [.ref (ad 39), .int a1, .int 0, .int a3, .int a4]) s 0 0 A) (F0 m 115 ls []) := by
        intro v115_7 v115_8 H locs ls w17 r18 t19 r20 t21 r22 t23 r24 t25 r26 t27 r28 t29 hw hT hF hl
        obtain ⟨x30, ex30⟩ : ∃ y : Int32, y = v35_6 + Int32.ofInt (-1) := ⟨_, rfl⟩
        refine lv_iinc (v := x30) (lv' := [(6, .int x30), (0, .ref (ad 39)), (1, .int a1), (2, .int 0), (3, .int a3), (4, .int a4), (5, .int (-1)), (7, .int v115_7), (8, .int v115_8)]) hx hb dX7_lastOpen_115 hl (k := 6) rfl ex30.symm (by decide) rfl (fun ls hl => ?_)
        have ex30 : x30.toInt = v35_6.toInt + (-1) := by rw [ex30]; exact wk_add (y := (-1)) (show -2147483648 ≤ v35_6.toInt + (-1) by omega) (show v35_6.toInt + (-1) ≤ 2147483647 by omega)
        refine lv_goto (tgt := 35) hx hb dX7_lastOpen_118 (by decide) ?_
        exact ih35 (-1) x30 H locs ls w17 (show 0 ≤ a1.toInt from r18) (show a1.toInt ≤ 11 from t19) (show 0 ≤ a3.toInt from r20) (show a3.toInt ≤ 99999 from t21) (show 0 ≤ a4.toInt from r22) (show a4.toInt ≤ 102119 from t23) (show (-1) ≤ x30.toInt by first | with_reducible assumption | omega) (show x30.toInt ≤ 4254 by first | with_reducible assumption | omega) (show (x30.toInt - (-1)).toNat < n35 by first | exact tn_lt hm35 (by omega) (by omega) | omega) hw hT hF  (lv_sub hl [1, 2, 3, 4, 5, 6, 0] rfl)
      have L66 : ∀ (n66 : Nat) (v66_7 : Int32) (v66_8 : Int32) (H : Heap) (locs : List Loc) (ls : Array Slot) (w31 : va_W), 0 ≤ a1.toInt → a1.toInt ≤ 11 → 0 ≤ a3.toInt → a3.toInt ≤ 99999 → 0 ≤ a4.toInt → a4.toInt ≤ 102119 → 0 ≤ v35_6.toInt → v35_6.toInt ≤ 4254 → 0 ≤ v66_7.toInt → v66_7.toInt ≤ 16777215 → (-1) ≤ v66_8.toInt → v66_8.toInt ≤ 23 → (v66_8.toInt - (-1)).toNat < n66 → Wd dC dI A s.heap H locs w31 → TW ksC ad cy B qr s1 w31 → FE ksC ([] : List (Nat × Nat × Nat)) w0 w31 → lv_has ls 10 [(0, .ref (ad 39)), (1, .int a1), (2, .int 0), (3, .int a3), (4, .int a4), (5, .int (-1)), (6, .int v35_6), (7, .int v66_7), (8, .int v66_8)] → W p l e ({ frames := 2, cells := 0, slots := 0, locals := 39 }) s m (List.toArray [.ref (ad 39), .int a1, .int 0, .int a3, .int a4]) below meth c H locs 0 0 (MQ below (va_Qi (P_X7_lastOpen_2 ad cy B qr s1 a1 a3 a4 w0) (fun u : va_W => wpost dC dI cy A u) A) (List.toArray [.ref (ad 39), .int a1, .int 0, .int a3, .int a4]) s 0 0 A) (F0 m 66 ls []) := by
        intro n66
        induction n66 with
        | zero => intro v66_7 v66_8 H locs ls w31 r32 t33 r34 t35 r36 t37 r38 t39 r40 t41 r42 t43 hm66 hw hT hF hl; omega
        | succ n66 ih66 =>
          intro v66_7 v66_8 H locs ls w31 r32 t33 r34 t35 r36 t37 r38 t39 r40 t41 r42 t43 hm66 hw hT hF hl
          refine lv_iload hx hb dX7_lastOpen_66 (lv_at hl 7 rfl) ?_
          refine lv_if_eq (tgt := 115) hx hb dX7_lastOpen_68 (by decide) (fun c44 => ?_) (fun c44 => ?_)
          · have c44 : v66_7.toInt = (0 : Int) := wk_eq.mp c44
            exact J115 v66_7 v66_8 H locs ls w31 (show 0 ≤ a1.toInt from r32) (show a1.toInt ≤ 11 from t33) (show 0 ≤ a3.toInt from r34) (show a3.toInt ≤ 99999 from t35) (show 0 ≤ a4.toInt from r36) (show a4.toInt ≤ 102119 from t37) (show 0 ≤ v35_6.toInt from r38) (show v35_6.toInt ≤ 4254 from t39) (show 0 ≤ v66_7.toInt from r40) (show v66_7.toInt ≤ 16777215 from t41) (show (-1) ≤ v66_8.toInt from r42) (show v66_8.toInt ≤ 23 from t43)  hw hT hF  (lv_sub hl [0, 1, 2, 3, 4, 5, 6, 7, 8] rfl)
          · have c44 : ¬ v66_7.toInt = (0 : Int) := wk_eqF c44
            refine lv_iload hx hb dX7_lastOpen_71 (lv_at hl 8 rfl) ?_
            refine lv_if_lt (tgt := 115) hx hb dX7_lastOpen_73 (by decide) (fun c45 => ?_) (fun c45 => ?_)
            · have c45 : v66_8.toInt < (0 : Int) := wk_lt.mp c45
              exact J115 v66_7 v66_8 H locs ls w31 (show 0 ≤ a1.toInt from r32) (show a1.toInt ≤ 11 from t33) (show 0 ≤ a3.toInt from r34) (show a3.toInt ≤ 99999 from t35) (show 0 ≤ a4.toInt from r36) (show a4.toInt ≤ 102119 from t37) (show 0 ≤ v35_6.toInt from r38) (show v35_6.toInt ≤ 4254 from t39) (show 0 ≤ v66_7.toInt from r40) (show v66_7.toInt ≤ 16777215 from t41) (show (-1) ≤ v66_8.toInt from r42) (show v66_8.toInt ≤ 23 from t43)  hw hT hF  (lv_sub hl [0, 1, 2, 3, 4, 5, 6, 7, 8] rfl)
            · have c45 : (0 : Int) ≤ v66_8.toInt := wk_ltF c45
              refine lv_iload hx hb dX7_lastOpen_76 (lv_at hl 7 rfl) ?_
              refine lv_iload hx hb dX7_lastOpen_78 (lv_at hl 8 rfl) ?_
              refine lv_ishr hx hb dX7_lastOpen_80 ?_
              refine lv_topi (fun x46 ex46 => ?_)
              have bx46 : 0 ≤ x46.toInt ∧ x46.toInt ≤ v66_7.toInt := by rw [ex46]; exact wk_shr (by omega)
              refine lv_iconst (v := 1) hx hb dX7_lastOpen_81 (by decide) ?_
              refine lv_iand hx hb dX7_lastOpen_82 ?_
              refine lv_topi (fun x47 ex47 => ?_)
              have bx47 : 0 ≤ x47.toInt ∧ x47.toInt ≤ (1 : Int) := by rw [ex47]; exact wk_and (by decide)
              refine lv_if_eq (tgt := 109) hx hb dX7_lastOpen_83 (by decide) (fun c48 => ?_) (fun c48 => ?_)
              · have c48 : x47.toInt = (0 : Int) := wk_eq.mp c48
                obtain ⟨x49, ex49⟩ : ∃ y : Int32, y = v66_8 + Int32.ofInt (-1) := ⟨_, rfl⟩
                refine lv_iinc (v := x49) (lv' := [(8, .int x49), (0, .ref (ad 39)), (1, .int a1), (2, .int 0), (3, .int a3), (4, .int a4), (5, .int (-1)), (6, .int v35_6), (7, .int v66_7)]) hx hb dX7_lastOpen_109 hl (k := 8) rfl ex49.symm (by decide) rfl (fun ls hl => ?_)
                have ex49 : x49.toInt = v66_8.toInt + (-1) := by rw [ex49]; exact wk_add (y := (-1)) (show -2147483648 ≤ v66_8.toInt + (-1) by omega) (show v66_8.toInt + (-1) ≤ 2147483647 by omega)
                refine lv_goto (tgt := 66) hx hb dX7_lastOpen_112 (by decide) ?_
                exact ih66 v66_7 x49 H locs ls w31 (show 0 ≤ a1.toInt from r32) (show a1.toInt ≤ 11 from t33) (show 0 ≤ a3.toInt from r34) (show a3.toInt ≤ 99999 from t35) (show 0 ≤ a4.toInt from r36) (show a4.toInt ≤ 102119 from t37) (show 0 ≤ v35_6.toInt from r38) (show v35_6.toInt ≤ 4254 from t39) (show 0 ≤ v66_7.toInt from r40) (show v66_7.toInt ≤ 16777215 from t41) (show (-1) ≤ x49.toInt by first | with_reducible assumption | omega) (show x49.toInt ≤ 23 by first | with_reducible assumption | omega) (show (x49.toInt - (-1)).toNat < n66 by first | exact tn_lt hm66 (by omega) (by omega) | omega) hw hT hF  (lv_sub hl [1, 2, 3, 4, 5, 6, 7, 8, 0] rfl)
              · have c48 : ¬ x47.toInt = (0 : Int) := wk_eqF c48
                refine lv_iload hx hb dX7_lastOpen_86 (lv_at hl 6 rfl) ?_
                refine lv_bipush (v := 24) hx hb dX7_lastOpen_88 (by decide) ?_
                refine lv_imul hx hb dX7_lastOpen_90 ?_
                refine lv_topi (fun x50 ex50 => ?_)
                have ex50 : x50.toInt = v35_6.toInt * (24 : Int) := by rw [ex50]; exact wk_mul (show (-2147483648) ≤ v35_6.toInt * (24 : Int) by omega) (show v35_6.toInt * (24 : Int) ≤ 2147483647 by omega)
                refine lv_iload hx hb dX7_lastOpen_91 (lv_at hl 8 rfl) ?_
                refine lv_iadd hx hb dX7_lastOpen_93 ?_
                refine lv_topi (fun x51 ex51 => ?_)
                have ex51 : x51.toInt = x50.toInt + v66_8.toInt := by rw [ex51]; exact wk_add (show (-2147483648) ≤ x50.toInt + v66_8.toInt by omega) (show x50.toInt + v66_8.toInt ≤ 2147483647 by omega)
                refine lv_istore (lv' := [(9, .int x51), (0, .ref (ad 39)), (1, .int a1), (2, .int 0), (3, .int a3), (4, .int a4), (5, .int (-1)), (6, .int v35_6), (7, .int v66_7), (8, .int v66_8)]) hx hb dX7_lastOpen_94 hl (by decide) rfl (fun ls hl => ?_)
                refine lv_iload hx hb dX7_lastOpen_96 (lv_at hl 0 rfl) ?_
                refine lv_iload_n hx hb dX7_lastOpen_98 rfl (lv_at hl 4 rfl) ?_
                refine lv_icmp_lt (tgt := 107) hx hb dX7_lastOpen_99 (by decide) (fun c52 => ?_) (fun c52 => ?_)
                · have c52 : x51.toInt < a3.toInt := wk_lt.mp c52
                  refine lv_iconst (v := (-1)) hx hb dX7_lastOpen_107 (by decide) ?_
                  exact tk_iret hC hr hlocks hK ⟨hT, hF, (Or.inr rfl)⟩ hw dX7_lastOpen_108
                · have c52 : a3.toInt ≤ x51.toInt := wk_ltF c52
                  refine lv_iload hx hb dX7_lastOpen_102 (lv_at hl 0 rfl) ?_
                  refine lv_goto (tgt := 108) hx hb dX7_lastOpen_104 (by decide) ?_
                  exact tk_iret hC hr hlocks hK ⟨hT, hF, (Or.inl ⟨(show 0 ≤ x51.toInt by first | with_reducible assumption | omega), (show x51.toInt ≤ 102119 by first | with_reducible assumption | omega), (show 0 ≤ a4.toInt from r36)⟩)⟩ hw dX7_lastOpen_108
      refine lv_iload hx hb dX7_lastOpen_35 (lv_at hl 6 rfl) ?_
      refine lv_iload_n hx hb dX7_lastOpen_37 rfl (lv_at hl 3 rfl) ?_
      refine lv_bipush (v := 24) hx hb dX7_lastOpen_38 (by decide) ?_
      refine lv_idiv hx hb dX7_lastOpen_40 (by decide) ?_
      refine lv_topi (fun x53 ex53 => ?_)
      have ex53 : x53.toInt = a3.toInt / (24 : Int) := by rw [ex53]; exact wk_div (show 0 ≤ a3.toInt from r11) (show 0 < (24 : Int) by decide)
      refine lv_icmp_lt (tgt := 121) hx hb dX7_lastOpen_41 (by decide) (fun c54 => ?_) (fun c54 => ?_)
      · have c54 : v35_6.toInt < x53.toInt := wk_lt.mp c54
        refine lv_iconst (v := (-1)) hx hb dX7_lastOpen_121 (by decide) ?_
        exact tk_iret hC hr hlocks hK ⟨hT, hF, (Or.inr rfl)⟩ hw dX7_lastOpen_122
      · have c54 : x53.toInt ≤ v35_6.toInt := wk_ltF c54
        refine lv_aload_n hx hb dX7_lastOpen_44 rfl (lv_at hl 0 rfl) ?_
        refine lv_iload_n hx hb dX7_lastOpen_45 rfl (lv_at hl 1 rfl) ?_
        refine lv_iload_n hx hb dX7_lastOpen_46 rfl (lv_at hl 2 rfl) ?_
        refine lv_iload hx hb dX7_lastOpen_47 (lv_at hl 6 rfl) ?_
        refine lv_i2l hx hb dX7_lastOpen_49 rfl ?_
        refine lv_topl (fun x55 ex55 => ?_)
        have ex55 : x55.toInt = v35_6.toInt := by rw [ex55]; exact wk_i2l _
        have bx55 := wk_i32 v35_6
        refine lv_iconst (v := 1) hx hb dX7_lastOpen_50 (by decide) ?_
        refine tk_Vi hC hK hw hT hA hE hSR kC_at39 (by decide) rfl (k_X7_openHours_11 l adK adV dC dI cy ad B hB0 (Int.le_trans hB1 (by decide)) qr s1   a1 (show 0 ≤ a1.toInt from r9) (show a1.toInt ≤ 11 from t10) x55 (show 0 ≤ x55.toInt by first | with_reducible assumption | omega) (show x55.toInt ≤ 4254 by first | with_reducible assumption | omega) w8 H.size hT ) (cwV 4 hC.2.2.2.2 uV_RX7_148 rfl rfl rfl (by decide +kernel) ⟨Nat.le_of_ble_eq_true rfl, Nat.le_of_ble_eq_true rfl⟩) rfl hl.1 rfl (Nat.le_of_ble_eq_true rfl) dX7_lastOpen_51 (fun r56 w58 H locs hp57 hw => ?_)
        obtain ⟨hT, k59, hg62⟩ := hp57
        have hF := hF.tr k59 (by decide)
        obtain ⟨g60, g61⟩ := hg62
        refine lv_iload hx hb dX7_lastOpen_54 (lv_at hl 5 rfl) ?_
        refine lv_iand hx hb dX7_lastOpen_56 ?_
        refine lv_topi (fun x63 ex63 => ?_)
        have bx63 : 0 ≤ x63.toInt ∧ x63.toInt ≤ r56.toInt := by rw [ex63]; exact wk_andC (by omega)
        refine lv_istore (lv' := [(7, .int x63), (0, .ref (ad 39)), (1, .int a1), (2, .int 0), (3, .int a3), (4, .int a4), (5, .int v35_5), (6, .int v35_6)]) hx hb dX7_lastOpen_57 hl (by decide) rfl (fun ls hl => ?_)
        refine lv_iconst (v := (-1)) hx hb dX7_lastOpen_59 (by decide) ?_
        refine lv_istore (lv' := [(5, .int (-1)), (7, .int x63), (0, .ref (ad 39)), (1, .int a1), (2, .int 0), (3, .int a3), (4, .int a4), (6, .int v35_6)]) hx hb dX7_lastOpen_60 hl (by decide) rfl (fun ls hl => ?_)
        refine lv_bipush (v := 23) hx hb dX7_lastOpen_62 (by decide) ?_
        refine lv_istore (lv' := [(8, .int 23), (5, .int (-1)), (7, .int x63), (0, .ref (ad 39)), (1, .int a1), (2, .int 0), (3, .int a3), (4, .int a4), (6, .int v35_6)]) hx hb dX7_lastOpen_64 hl (by decide) rfl (fun ls hl => ?_)
        exact L66 (((23 : Int) - (-1)).toNat + 1) x63 23 H locs ls w58 (show 0 ≤ a1.toInt from r9) (show a1.toInt ≤ 11 from t10) (show 0 ≤ a3.toInt from r11) (show a3.toInt ≤ 99999 from t12) (show 0 ≤ a4.toInt from r13) (show a4.toInt ≤ 102119 from t14) (show 0 ≤ v35_6.toInt by first | with_reducible assumption | omega) (show v35_6.toInt ≤ 4254 from t16) (show 0 ≤ x63.toInt by first | with_reducible assumption | omega) (show x63.toInt ≤ 16777215 by first | with_reducible assumption | omega) (by decide) (by decide) (Nat.lt_succ_self _) hw hT hF  (lv_sub hl [3, 4, 5, 6, 7, 1, 8, 2, 0] rfl)
  refine lv_iload hx hb dX7_lastOpen_0 (lv_at hl 4 rfl) ?_
  refine lv_iload_n hx hb dX7_lastOpen_2 rfl (lv_at hl 3 rfl) ?_
  refine lv_icmp_lt (tgt := 15) hx hb dX7_lastOpen_3 (by decide) (fun c64 => ?_) (fun c64 => ?_)
  · have c64 : a4.toInt < a3.toInt := wk_lt.mp c64
    exact J15  s.heap locs ls w0 (show 0 ≤ a1.toInt from ra1) (show a1.toInt ≤ 11 from ta1) (show 0 ≤ a3.toInt from ra3) (show a3.toInt ≤ 99999 from ta3) (show (-10) ≤ a4.toInt from ra4) (show a4.toInt ≤ 102119 from ta4)  hw hT hF  (lv_sub hl [0, 1, 2, 3, 4] rfl)
  · have c64 : a3.toInt ≤ a4.toInt := wk_ltF c64
    refine lv_aload_n hx hb dX7_lastOpen_6 rfl (lv_at hl 0 rfl) ?_
    refine lv_iload_n hx hb dX7_lastOpen_7 rfl (lv_at hl 1 rfl) ?_
    refine lv_iload_n hx hb dX7_lastOpen_8 rfl (lv_at hl 2 rfl) ?_
    refine tk_Vi hC hK hw hT hA hE hSR kC_at39 (by decide) rfl (k_X7_isNeverOpen_1 l adK adV dC dI cy ad B hB0 (Int.le_trans hB1 (by decide)) qr s1   a1 (show 0 ≤ a1.toInt from ra1) (show a1.toInt ≤ 11 from ta1) w0 s.heap.size hT ) (cwV 2 hC.2.2.2.2 uV_RX7_152 rfl rfl rfl (by decide +kernel) ⟨Nat.le_of_ble_eq_true rfl, Nat.le_of_ble_eq_true rfl⟩) rfl hl.1 rfl (Nat.le_of_ble_eq_true rfl) dX7_lastOpen_9 (fun r65 w67 H locs hp66 hw => ?_)
    obtain ⟨hT, k68, hg69⟩ := hp66
    have hF := hF.tr k68 (by decide)
    rcases hg69 with rfl | rfl
    · refine lv_if_eq (tgt := 17) hx hb dX7_lastOpen_12 (by decide) (fun _ => ?_) (fun c => absurd (by decide) c)
      refine lv_iconst (v := 2) hx hb dX7_lastOpen_17 (by decide) ?_
      refine lv_iload hx hb dX7_lastOpen_18 (lv_at hl 4 rfl) ?_
      refine lv_bipush (v := 24) hx hb dX7_lastOpen_20 (by decide) ?_
      refine lv_irem hx hb dX7_lastOpen_22 (by decide) ?_
      refine lv_topi (fun x70 ex70 => ?_)
      have ex70 : x70.toInt = a4.toInt % (24 : Int) := by rw [ex70]; exact wk_rem (show 0 ≤ a4.toInt by first | with_reducible assumption | omega) (show 0 < (24 : Int) by decide)
      refine lv_ishl hx hb dX7_lastOpen_23 ?_
      refine lv_topi (fun x71 ex71 => ?_)
      refine lv_iconst (v := 1) hx hb dX7_lastOpen_24 (by decide) ?_
      refine lv_isub hx hb dX7_lastOpen_25 ?_
      have nx72 := wk_i32 x71
      refine lv_topi (fun x73 ex73 => ?_)
      refine lv_istore (lv' := [(5, .int x73), (0, .ref (ad 39)), (1, .int a1), (2, .int 0), (3, .int a3), (4, .int a4)]) hx hb dX7_lastOpen_26 hl (by decide) rfl (fun ls hl => ?_)
      refine lv_iload hx hb dX7_lastOpen_28 (lv_at hl 5 rfl) ?_
      refine lv_bipush (v := 24) hx hb dX7_lastOpen_30 (by decide) ?_
      refine lv_idiv hx hb dX7_lastOpen_32 (by decide) ?_
      refine lv_topi (fun x74 ex74 => ?_)
      have ex74 : x74.toInt = a4.toInt / (24 : Int) := by rw [ex74]; exact wk_div (show 0 ≤ a4.toInt by first | with_reducible assumption | omega) (show 0 < (24 : Int) by decide)
      refine lv_istore (lv' := [(6, .int x74), (5, .int x73), (0, .ref (ad 39)), (1, .int a1), (2, .int 0), (3, .int a3), (4, .int a4)]) hx hb dX7_lastOpen_33 hl (by decide) rfl (fun ls hl => ?_)
      exact L35 ((x74.toInt - (-1)).toNat + 1) x73 x74 H locs ls w67 (show 0 ≤ a1.toInt from ra1) (show a1.toInt ≤ 11 from ta1) (show 0 ≤ a3.toInt from ra3) (show a3.toInt ≤ 99999 from ta3) (show 0 ≤ a4.toInt by first | with_reducible assumption | omega) (show a4.toInt ≤ 102119 from ta4) (show (-1) ≤ x74.toInt by first | with_reducible assumption | omega) (show x74.toInt ≤ 4254 by first | with_reducible assumption | omega) (Nat.lt_succ_self _) hw hT hF  (lv_sub hl [2, 3, 4, 5, 6, 1, 0] rfl)
    · refine lv_if_eq (tgt := 17) hx hb dX7_lastOpen_12 (by decide) (fun c => absurd c (by decide)) (fun _ => ?_)
      exact J15  H locs ls w67 (show 0 ≤ a1.toInt from ra1) (show a1.toInt ≤ 11 from ta1) (show 0 ≤ a3.toInt from ra3) (show a3.toInt ≤ 99999 from ta3) (show (-10) ≤ a4.toInt from ra4) (show a4.toInt ≤ 102119 from ta4)  hw hT hF  (lv_sub hl [0, 1, 2, 3, 4] rfl)
abbrev P_X4_leaveBy_1 (ad : Nat → Nat) (cy : Nat → ClassId) (B : Int) (qr : Nat) (s1 : Int) (a1 : Int32) (a2 : Int32) (a3 : Int32) (w0 : va_W) : va_W → Prop := fun u => TW ksC ad cy B qr s1 u ∧ FE ksC [(48, 0, 10)] w0 u ∧ ((gi u 40 (2 * a1.toInt + 0).toNat = a2) ∨ (gi u 40 (2 * a1.toInt + 1).toNat = a2) ∨ (True))
set_option maxHeartbeats 4000000 in
set_option maxRecDepth 100000 in
theorem k_X4_leaveBy_1 (l : Launch) (adK adV : Nat → Nat) (dC : Nat → ClassId) (dI : Nat → Nat → Nat) (cy : Nat → ClassId) (ad : Nat → Nat) (B : Int) (hB0 : 2147483648 ≤ B) (hB1 : B ≤ 1152921504606846976) (qr : Nat) (s1 : Int)  (a1 : Int32) (ra1 : 0 ≤ a1.toInt) (ta1 : a1.toInt ≤ 11) (a2 : Int32) (ra2 : 0 ≤ a2.toInt) (ta2 : a2.toInt ≤ 9) (a3 : Int32) (ra3 : 0 ≤ a3.toInt) (ta3 : a3.toInt ≤ 99999) (w0 : va_W) (sz : Nat) (hT : TW ksC ad cy B qr s1 w0)  : Met l yX4_leaveBy (wu yX4_leaveBy cX4_leaveBy 7 none) ({ frames := 3, cells := 0, slots := 0, locals := 68 }) (va_Pc [.ref (ad 155), .int a1, .int a2, .int a3] (wpreS adK adV dC dI cy sz w0)) (va_Qv (P_X4_leaveBy_1 ad cy B qr s1 a1 a2 a3 w0) (fun u : va_W => wpost dC dI cy (va_A w0 sz) u) (va_A w0 sz)) 0 0 (va_A w0 sz) := by
  refine Met.ofW (cc := cX4_leaveBy) (maxL := 7) (ret := none) (by decide) rfl ?_
  intro p e s m args below meth c s₁ Bk hml hv
  obtain ⟨rfl, ⟨hsz, hP, hK, hD0⟩, hE, hSR⟩ := hv
  have hx := Bk.exec
  have hb := Bk.bytes
  have hr := Bk.returns
  have hlocks := Bk.notSynchronized
  have hC : CallFix p m c cX4_leaveBy 7 s _ (wu yX4_leaveBy cX4_leaveBy 7 none) RX4 := ⟨hx, hb, hml, findClass_of_methodNamed Bk.named, atoms_spec (ws := (wu yX4_leaveBy cX4_leaveBy 7 none)) Bk.pre⟩
  subst hsz
  have hD := hD0.self (sz := s.heap.size)
  generalize hAe : va_A w0 s.heap.size = A at hD hE ⊢
  have hA : ∀ q : Nat, s.heap.size ≤ q → A q := fun q h => by rw [← hAe]; exact Or.inr h
  have hw : Wd dC dI A s.heap s.heap [] w0 := ⟨hP, hD, va_S.rf⟩
  have hF : FE ksC [(48, 0, 10)] w0 w0 := FE.rf
  have hl := lv_entry ([.ref (ad 155), .int a1, .int a2, .int a3]) (n := 7) (Nat.le_of_ble_eq_true rfl)
  rw [lg_entry_eq]
  generalize (lg_sl ([.ref (ad 155), .int a1, .int a2, .int a3]) ++ List.replicate (7 - (lg_sl ([.ref (ad 155), .int a1, .int a2, .int a3])).length) Slot.unset).toArray = ls at hl ⊢
  have hl : lv_has ls 7 [(0, .ref (ad 155)), (1, .int a1), (2, .int a2), (3, .int a3)] := hl
  generalize hloc : ([] : List Loc) = locs at hw ⊢
  have hinX4 : ∀ w ∈ u_ws RX4 TX4 4, w ∈ (wu yX4_leaveBy cX4_leaveBy 7 none) := fun _ h => List.mem_cons_of_mem _ (up_80 h)
  have hinX7 : ∀ w ∈ u_ws RX7 TX7 12, w ∈ (wu yX4_leaveBy cX4_leaveBy 7 none) := fun _ h => List.mem_cons_of_mem _ (up_73 h)
  refine lv_aload_n hx hb dX4_leaveBy_0 rfl (lv_at hl 0 rfl) ?_
  refine tk_getA hC hK hw hT hinX4 kC_at155 (by decide) rfl 1 (by decide) (List.mem_cons_of_mem _ uw_5_23) rfl rfl dX4_leaveBy_1 ?_
  refine lv_iload_n hx hb dX4_leaveBy_4 rfl (lv_at hl 1 rfl) ?_
  refine lv_iload_n hx hb dX4_leaveBy_5 rfl (lv_at hl 2 rfl) ?_
  refine tk_Vi hC hK hw hT hA hE hSR kC_at39 (by decide) rfl (k_X7_sideOf_2 l adK adV dC dI cy ad B hB0 (Int.le_trans hB1 (by decide)) qr s1   a1 (show 0 ≤ a1.toInt from ra1) (show a1.toInt ≤ 11 from ta1) a2 (show 0 ≤ a2.toInt from ra2) (show a2.toInt ≤ 9 from ta2) w0 s.heap.size hT ) (cwV 2 hC.2.2.2.2 uV_RX4_47 rfl rfl rfl (by decide +kernel) ⟨Nat.le_of_ble_eq_true rfl, Nat.le_of_ble_eq_true rfl⟩) rfl hl.1 rfl (Nat.le_of_ble_eq_true rfl) dX4_leaveBy_6 (fun r1 w3 H locs hp2 hw => ?_)
  obtain ⟨hT, k4, hg7⟩ := hp2
  have hF := hF.tr k4 (by decide)
  rcases hg7 with rfl | ⟨rfl, c5⟩ | ⟨rfl, c6⟩
  · refine lv_istore (lv' := [(4, .int (-1)), (0, .ref (ad 155)), (1, .int a1), (2, .int a2), (3, .int a3)]) hx hb dX4_leaveBy_9 hl (by decide) rfl (fun ls hl => ?_)
    refine lv_iload hx hb dX4_leaveBy_11 (lv_at hl 0 rfl) ?_
    refine lv_iconst (v := (-1)) hx hb dX4_leaveBy_13 (by decide) ?_
    refine lv_icmp_ne (tgt := 18) hx hb dX4_leaveBy_14 (by decide) (fun c => absurd (by decide) c) (fun _ => ?_)
    exact tk_vret hC hr hlocks hK ⟨hT, hF, (Or.inr (Or.inr trivial))⟩ hw dX4_leaveBy_17
  · refine lv_istore (lv' := [(4, .int 0), (0, .ref (ad 155)), (1, .int a1), (2, .int a2), (3, .int a3)]) hx hb dX4_leaveBy_9 hl (by decide) rfl (fun ls hl => ?_)
    refine lv_iload hx hb dX4_leaveBy_11 (lv_at hl 0 rfl) ?_
    refine lv_iconst (v := (-1)) hx hb dX4_leaveBy_13 (by decide) ?_
    refine lv_icmp_ne (tgt := 18) hx hb dX4_leaveBy_14 (by decide) (fun _ => ?_) (fun c => absurd c (by decide))
    refine lv_aload_n hx hb dX4_leaveBy_18 rfl (lv_at hl 1 rfl) ?_
    refine tk_getA hC hK hw hT hinX4 kC_at155 (by decide) rfl 1 (by decide) (List.mem_cons_of_mem _ uw_5_23) rfl rfl dX4_leaveBy_19 ?_
    refine lv_iload_n hx hb dX4_leaveBy_22 rfl (lv_at hl 2 rfl) ?_
    refine lv_iload hx hb dX4_leaveBy_23 (lv_at hl 0 rfl) ?_
    refine tk_Vi hC hK hw hT hA hE hSR kC_at39 (by decide) rfl (k_X7_cornerAcross_2 l adK adV dC dI cy ad B hB0 (Int.le_trans hB1 (by decide)) qr s1   a1 (show 0 ≤ a1.toInt from ra1) (show a1.toInt ≤ 11 from ta1) w3 H.size hT ) (cwV 2 hC.2.2.2.2 uV_RX4_51 rfl rfl rfl (by decide +kernel) ⟨Nat.le_of_ble_eq_true rfl, Nat.le_of_ble_eq_true rfl⟩) rfl hl.1 rfl (Nat.le_of_ble_eq_true rfl) dX4_leaveBy_25 (fun r8 w10 H locs hp9 hw => ?_)
    obtain ⟨hT, k11, hg14⟩ := hp9
    have hF := hF.tr k11 (by decide)
    have c15 := k11.gi kC_at40 rfl c5
    obtain ⟨g12, g13⟩ := hg14
    refine lv_istore (lv' := [(5, .int r8), (4, .int 0), (0, .ref (ad 155)), (1, .int a1), (2, .int a2), (3, .int a3)]) hx hb dX4_leaveBy_28 hl (by decide) rfl (fun ls hl => ?_)
    refine lv_aload_n hx hb dX4_leaveBy_30 rfl (lv_at hl 2 rfl) ?_
    refine tk_getA hC hK hw hT hinX4 kC_at155 (by decide) rfl 2 (by decide) (List.mem_cons_of_mem _ uw_5_19) rfl rfl dX4_leaveBy_31 ?_
    refine lv_iload_n hx hb dX4_leaveBy_34 rfl (lv_at hl 4 rfl) ?_
    refine tk_iald hC hK hw hT kC_at156 rfl rfl (show 0 ≤ a2.toInt from ra2) (show a2.toInt < 10 from Int.lt_of_le_of_lt ta2 (by decide)) dX4_leaveBy_35 (fun x16 c17 rx16 tx16 => ?_)
    refine lv_aload_n hx hb dX4_leaveBy_36 rfl (lv_at hl 2 rfl) ?_
    refine tk_getA hC hK hw hT hinX4 kC_at155 (by decide) rfl 1 (by decide) (List.mem_cons_of_mem _ uw_5_23) rfl rfl dX4_leaveBy_37 ?_
    refine tk_getO hC hK hw hT hinX7 kC_at39 (by decide) rfl 1 (by decide) (List.mem_cons_of_mem _ uw_50_7) rfl rfl dX4_leaveBy_40 ?_
    refine lv_iload_n hx hb dX4_leaveBy_43 rfl (lv_at hl 3 rfl) ?_
    refine tk_iald hC hK hw hT kC_at41 rfl rfl (show 0 ≤ a1.toInt from ra1) (show a1.toInt < 13 from Int.lt_of_le_of_lt ta1 (by decide)) dX4_leaveBy_44 (fun x18 c19 rx18 tx18 => ?_)
    refine lv_isub hx hb dX4_leaveBy_45 ?_
    refine lv_topi (fun x20 ex20 => ?_)
    have ex20 : x20.toInt = x16.toInt - x18.toInt := by rw [ex20]; exact wk_sub (show (-2147483648) ≤ x16.toInt - x18.toInt by omega) (show x16.toInt - x18.toInt ≤ 2147483647 by omega)
    refine lv_istore (lv' := [(6, .int x20), (5, .int r8), (4, .int 0), (0, .ref (ad 155)), (1, .int a1), (2, .int a2), (3, .int a3)]) hx hb dX4_leaveBy_46 hl (by decide) rfl (fun ls hl => ?_)
    refine lv_aload_n hx hb dX4_leaveBy_48 rfl (lv_at hl 3 rfl) ?_
    refine tk_getA hC hK hw hT hinX4 kC_at155 (by decide) rfl 2 (by decide) (List.mem_cons_of_mem _ uw_5_19) rfl rfl dX4_leaveBy_49 ?_
    refine lv_iload hx hb dX4_leaveBy_52 (lv_at hl 1 rfl) ?_
    refine lv_aload_n hx hb dX4_leaveBy_54 rfl (lv_at hl 3 rfl) ?_
    refine tk_getA hC hK hw hT hinX4 kC_at155 (by decide) rfl 2 (by decide) (List.mem_cons_of_mem _ uw_5_19) rfl rfl dX4_leaveBy_55 ?_
    refine lv_iload hx hb dX4_leaveBy_58 (lv_at hl 1 rfl) ?_
    refine tk_iald hC hK hw hT kC_at156 rfl rfl (show 0 ≤ r8.toInt by first | with_reducible assumption | omega) (show r8.toInt < 10 by first | with_reducible assumption | omega) dX4_leaveBy_60 (fun x21 c22 rx21 tx21 => ?_)
    refine lv_aload_n hx hb dX4_leaveBy_61 rfl (lv_at hl 3 rfl) ?_
    refine tk_getA hC hK hw hT hinX4 kC_at155 (by decide) rfl 1 (by decide) (List.mem_cons_of_mem _ uw_5_23) rfl rfl dX4_leaveBy_62 ?_
    refine lv_iload_n hx hb dX4_leaveBy_65 rfl (lv_at hl 4 rfl) ?_
    refine lv_iconst (v := 1) hx hb dX4_leaveBy_66 (by decide) ?_
    refine lv_iload hx hb dX4_leaveBy_67 (lv_at hl 2 rfl) ?_
    refine lv_isub hx hb dX4_leaveBy_69 ?_
    refine wk_top 1 (by decide) ?_
    refine lv_iload_n hx hb dX4_leaveBy_70 rfl (lv_at hl 6 rfl) ?_
    refine lv_iload hx hb dX4_leaveBy_71 (lv_at hl 0 rfl) ?_
    refine tk_Vi hC hK hw hT hA hE hSR kC_at39 (by decide) rfl (k_X7_lastOpen_1 l adK adV dC dI cy ad B hB0 (Int.le_trans hB1 (by decide)) qr s1   a1 (show 0 ≤ a1.toInt from ra1) (show a1.toInt ≤ 11 from ta1) a3 (show 0 ≤ a3.toInt from ra3) (show a3.toInt ≤ 99999 from ta3) x20 (show (-10) ≤ x20.toInt by first | with_reducible assumption | omega) (show x20.toInt ≤ 102119 by first | with_reducible assumption | omega) w10 H.size hT ) (cwV 4 hC.2.2.2.2 uV_RX4_79 rfl rfl rfl (by decide +kernel) ⟨Nat.le_of_ble_eq_true rfl, Nat.le_of_ble_eq_true rfl⟩) rfl hl.1 rfl (Nat.le_of_ble_eq_true rfl) dX4_leaveBy_73 (fun r23 w25 H locs hp24 hw => ?_)
    obtain ⟨hT, k26, hg30⟩ := hp24
    have hF := hF.tr k26 (by decide)
    have c31 := k26.gi kC_at40 rfl c15
    rcases hg30 with ⟨g27, g28, g29⟩ | rfl
    · refine va_mmax hx hb (hC.2.2.1.trans hl.1.symm) hC.2.2.2.1 (hC.2.2.2.2 _ (List.mem_cons_of_mem _ uw_52_8)) (hC.2.2.2.2 _ (List.mem_cons_of_mem _ uw_14_15)) (hC.2.2.2.2 _ (List.mem_cons_of_mem _ uw_14_16)) (hC.2.2.2.2 _ (List.mem_cons_of_mem _ uw_14_17)) (Nat.le_of_ble_eq_true rfl) (Nat.le_of_ble_eq_true rfl) (Nat.zero_le _) (Nat.zero_le _) dX4_leaveBy_76 ?_
      refine lv_topi (fun x32 ex32 => ?_)
      have bx32 : (x32.toInt = x21.toInt ∧ r23.toInt ≤ x21.toInt) ∨ (x32.toInt = r23.toInt ∧ x21.toInt < r23.toInt) := by rw [ex32]; exact wk_max
      refine tk_iast hC hK hw hT kC_at156 (by decide) rfl rfl (show 0 ≤ r8.toInt by first | with_reducible assumption | omega) (show r8.toInt < 10 by first | with_reducible assumption | omega) (show (-1) ≤ x32.toInt by first | with_reducible assumption | omega) (show x32.toInt ≤ 102119 by first | with_reducible assumption | omega) dX4_leaveBy_79 (fun H locs w33 hw hT k35 c34 => ?_)
      have hF := hF.put kC_at156 (inE_of (a := 0) (b := 10) (by decide) (show 0 ≤ r8.toInt.toNat by omega) (show r8.toInt.toNat ≤ 10 by omega)) k35
      have c36 := k35.gi (Or.inl (tk_ne kC_at40 kC_at156 (by decide))) c31
      exact tk_vret hC hr hlocks hK ⟨hT, hF, (Or.inl c36)⟩ hw dX4_leaveBy_80
    · refine va_mmax hx hb (hC.2.2.1.trans hl.1.symm) hC.2.2.2.1 (hC.2.2.2.2 _ (List.mem_cons_of_mem _ uw_52_8)) (hC.2.2.2.2 _ (List.mem_cons_of_mem _ uw_14_15)) (hC.2.2.2.2 _ (List.mem_cons_of_mem _ uw_14_16)) (hC.2.2.2.2 _ (List.mem_cons_of_mem _ uw_14_17)) (Nat.le_of_ble_eq_true rfl) (Nat.le_of_ble_eq_true rfl) (Nat.zero_le _) (Nat.zero_le _) dX4_leaveBy_76 ?_
      refine lv_topi (fun x37 ex37 => ?_)
      have bx37 : (x37.toInt = x21.toInt ∧ (-1 : Int) ≤ x21.toInt) ∨ (x37.toInt = (-1 : Int) ∧ x21.toInt < (-1 : Int)) := by rw [ex37]; exact wk_max
      refine tk_iast hC hK hw hT kC_at156 (by decide) rfl rfl (show 0 ≤ r8.toInt by first | with_reducible assumption | omega) (show r8.toInt < 10 by first | with_reducible assumption | omega) (show (-1) ≤ x37.toInt by first | with_reducible assumption | omega) (show x37.toInt ≤ 102119 by first | with_reducible assumption | omega) dX4_leaveBy_79 (fun H locs w38 hw hT k40 c39 => ?_)
      have hF := hF.put kC_at156 (inE_of (a := 0) (b := 10) (by decide) (show 0 ≤ r8.toInt.toNat by omega) (show r8.toInt.toNat ≤ 10 by omega)) k40
      have c41 := k40.gi (Or.inl (tk_ne kC_at40 kC_at156 (by decide))) c31
      exact tk_vret hC hr hlocks hK ⟨hT, hF, (Or.inl c41)⟩ hw dX4_leaveBy_80
  · refine lv_istore (lv' := [(4, .int 1), (0, .ref (ad 155)), (1, .int a1), (2, .int a2), (3, .int a3)]) hx hb dX4_leaveBy_9 hl (by decide) rfl (fun ls hl => ?_)
    refine lv_iload hx hb dX4_leaveBy_11 (lv_at hl 0 rfl) ?_
    refine lv_iconst (v := (-1)) hx hb dX4_leaveBy_13 (by decide) ?_
    refine lv_icmp_ne (tgt := 18) hx hb dX4_leaveBy_14 (by decide) (fun _ => ?_) (fun c => absurd c (by decide))
    refine lv_aload_n hx hb dX4_leaveBy_18 rfl (lv_at hl 1 rfl) ?_
    refine tk_getA hC hK hw hT hinX4 kC_at155 (by decide) rfl 1 (by decide) (List.mem_cons_of_mem _ uw_5_23) rfl rfl dX4_leaveBy_19 ?_
    refine lv_iload_n hx hb dX4_leaveBy_22 rfl (lv_at hl 2 rfl) ?_
    refine lv_iload hx hb dX4_leaveBy_23 (lv_at hl 0 rfl) ?_
    refine tk_Vi hC hK hw hT hA hE hSR kC_at39 (by decide) rfl (k_X7_cornerAcross_3 l adK adV dC dI cy ad B hB0 (Int.le_trans hB1 (by decide)) qr s1   a1 (show 0 ≤ a1.toInt from ra1) (show a1.toInt ≤ 11 from ta1) w3 H.size hT ) (cwV 2 hC.2.2.2.2 uV_RX4_51 rfl rfl rfl (by decide +kernel) ⟨Nat.le_of_ble_eq_true rfl, Nat.le_of_ble_eq_true rfl⟩) rfl hl.1 rfl (Nat.le_of_ble_eq_true rfl) dX4_leaveBy_25 (fun r42 w44 H locs hp43 hw => ?_)
    obtain ⟨hT, k45, hg48⟩ := hp43
    have hF := hF.tr k45 (by decide)
    have c49 := k45.gi kC_at40 rfl c6
    obtain ⟨g46, g47⟩ := hg48
    refine lv_istore (lv' := [(5, .int r42), (4, .int 1), (0, .ref (ad 155)), (1, .int a1), (2, .int a2), (3, .int a3)]) hx hb dX4_leaveBy_28 hl (by decide) rfl (fun ls hl => ?_)
    refine lv_aload_n hx hb dX4_leaveBy_30 rfl (lv_at hl 2 rfl) ?_
    refine tk_getA hC hK hw hT hinX4 kC_at155 (by decide) rfl 2 (by decide) (List.mem_cons_of_mem _ uw_5_19) rfl rfl dX4_leaveBy_31 ?_
    refine lv_iload_n hx hb dX4_leaveBy_34 rfl (lv_at hl 4 rfl) ?_
    refine tk_iald hC hK hw hT kC_at156 rfl rfl (show 0 ≤ a2.toInt from ra2) (show a2.toInt < 10 from Int.lt_of_le_of_lt ta2 (by decide)) dX4_leaveBy_35 (fun x50 c51 rx50 tx50 => ?_)
    refine lv_aload_n hx hb dX4_leaveBy_36 rfl (lv_at hl 2 rfl) ?_
    refine tk_getA hC hK hw hT hinX4 kC_at155 (by decide) rfl 1 (by decide) (List.mem_cons_of_mem _ uw_5_23) rfl rfl dX4_leaveBy_37 ?_
    refine tk_getO hC hK hw hT hinX7 kC_at39 (by decide) rfl 1 (by decide) (List.mem_cons_of_mem _ uw_50_7) rfl rfl dX4_leaveBy_40 ?_
    refine lv_iload_n hx hb dX4_leaveBy_43 rfl (lv_at hl 3 rfl) ?_
    refine tk_iald hC hK hw hT kC_at41 rfl rfl (show 0 ≤ a1.toInt from ra1) (show a1.toInt < 13 from Int.lt_of_le_of_lt ta1 (by decide)) dX4_leaveBy_44 (fun x52 c53 rx52 tx52 => ?_)
    refine lv_isub hx hb dX4_leaveBy_45 ?_
    refine lv_topi (fun x54 ex54 => ?_)
    have ex54 : x54.toInt = x50.toInt - x52.toInt := by rw [ex54]; exact wk_sub (show (-2147483648) ≤ x50.toInt - x52.toInt by omega) (show x50.toInt - x52.toInt ≤ 2147483647 by omega)
    refine lv_istore (lv' := [(6, .int x54), (5, .int r42), (4, .int 1), (0, .ref (ad 155)), (1, .int a1), (2, .int a2), (3, .int a3)]) hx hb dX4_leaveBy_46 hl (by decide) rfl (fun ls hl => ?_)
    refine lv_aload_n hx hb dX4_leaveBy_48 rfl (lv_at hl 3 rfl) ?_
    refine tk_getA hC hK hw hT hinX4 kC_at155 (by decide) rfl 2 (by decide) (List.mem_cons_of_mem _ uw_5_19) rfl rfl dX4_leaveBy_49 ?_
    refine lv_iload hx hb dX4_leaveBy_52 (lv_at hl 1 rfl) ?_
    refine lv_aload_n hx hb dX4_leaveBy_54 rfl (lv_at hl 3 rfl) ?_
    refine tk_getA hC hK hw hT hinX4 kC_at155 (by decide) rfl 2 (by decide) (List.mem_cons_of_mem _ uw_5_19) rfl rfl dX4_leaveBy_55 ?_
    refine lv_iload hx hb dX4_leaveBy_58 (lv_at hl 1 rfl) ?_
    refine tk_iald hC hK hw hT kC_at156 rfl rfl (show 0 ≤ r42.toInt by first | with_reducible assumption | omega) (show r42.toInt < 10 by first | with_reducible assumption | omega) dX4_leaveBy_60 (fun x55 c56 rx55 tx55 => ?_)
    refine lv_aload_n hx hb dX4_leaveBy_61 rfl (lv_at hl 3 rfl) ?_
    refine tk_getA hC hK hw hT hinX4 kC_at155 (by decide) rfl 1 (by decide) (List.mem_cons_of_mem _ uw_5_23) rfl rfl dX4_leaveBy_62 ?_
    refine lv_iload_n hx hb dX4_leaveBy_65 rfl (lv_at hl 4 rfl) ?_
    refine lv_iconst (v := 1) hx hb dX4_leaveBy_66 (by decide) ?_
    refine lv_iload hx hb dX4_leaveBy_67 (lv_at hl 2 rfl) ?_
    refine lv_isub hx hb dX4_leaveBy_69 ?_
    refine wk_top 0 (by decide) ?_
    refine lv_iload_n hx hb dX4_leaveBy_70 rfl (lv_at hl 6 rfl) ?_
    refine lv_iload hx hb dX4_leaveBy_71 (lv_at hl 0 rfl) ?_
    refine tk_Vi hC hK hw hT hA hE hSR kC_at39 (by decide) rfl (k_X7_lastOpen_2 l adK adV dC dI cy ad B hB0 (Int.le_trans hB1 (by decide)) qr s1   a1 (show 0 ≤ a1.toInt from ra1) (show a1.toInt ≤ 11 from ta1) a3 (show 0 ≤ a3.toInt from ra3) (show a3.toInt ≤ 99999 from ta3) x54 (show (-10) ≤ x54.toInt by first | with_reducible assumption | omega) (show x54.toInt ≤ 102119 by first | with_reducible assumption | omega) w44 H.size hT ) (cwV 4 hC.2.2.2.2 uV_RX4_79 rfl rfl rfl (by decide +kernel) ⟨Nat.le_of_ble_eq_true rfl, Nat.le_of_ble_eq_true rfl⟩) rfl hl.1 rfl (Nat.le_of_ble_eq_true rfl) dX4_leaveBy_73 (fun r57 w59 H locs hp58 hw => ?_)
    obtain ⟨hT, k60, hg64⟩ := hp58
    have hF := hF.tr k60 (by decide)
    have c65 := k60.gi kC_at40 rfl c49
    rcases hg64 with ⟨g61, g62, g63⟩ | rfl
    · refine va_mmax hx hb (hC.2.2.1.trans hl.1.symm) hC.2.2.2.1 (hC.2.2.2.2 _ (List.mem_cons_of_mem _ uw_52_8)) (hC.2.2.2.2 _ (List.mem_cons_of_mem _ uw_14_15)) (hC.2.2.2.2 _ (List.mem_cons_of_mem _ uw_14_16)) (hC.2.2.2.2 _ (List.mem_cons_of_mem _ uw_14_17)) (Nat.le_of_ble_eq_true rfl) (Nat.le_of_ble_eq_true rfl) (Nat.zero_le _) (Nat.zero_le _) dX4_leaveBy_76 ?_
      refine lv_topi (fun x66 ex66 => ?_)
      have bx66 : (x66.toInt = x55.toInt ∧ r57.toInt ≤ x55.toInt) ∨ (x66.toInt = r57.toInt ∧ x55.toInt < r57.toInt) := by rw [ex66]; exact wk_max
      refine tk_iast hC hK hw hT kC_at156 (by decide) rfl rfl (show 0 ≤ r42.toInt by first | with_reducible assumption | omega) (show r42.toInt < 10 by first | with_reducible assumption | omega) (show (-1) ≤ x66.toInt by first | with_reducible assumption | omega) (show x66.toInt ≤ 102119 by first | with_reducible assumption | omega) dX4_leaveBy_79 (fun H locs w67 hw hT k69 c68 => ?_)
      have hF := hF.put kC_at156 (inE_of (a := 0) (b := 10) (by decide) (show 0 ≤ r42.toInt.toNat by omega) (show r42.toInt.toNat ≤ 10 by omega)) k69
      have c70 := k69.gi (Or.inl (tk_ne kC_at40 kC_at156 (by decide))) c65
      exact tk_vret hC hr hlocks hK ⟨hT, hF, (Or.inr (Or.inl c70))⟩ hw dX4_leaveBy_80
    · refine va_mmax hx hb (hC.2.2.1.trans hl.1.symm) hC.2.2.2.1 (hC.2.2.2.2 _ (List.mem_cons_of_mem _ uw_52_8)) (hC.2.2.2.2 _ (List.mem_cons_of_mem _ uw_14_15)) (hC.2.2.2.2 _ (List.mem_cons_of_mem _ uw_14_16)) (hC.2.2.2.2 _ (List.mem_cons_of_mem _ uw_14_17)) (Nat.le_of_ble_eq_true rfl) (Nat.le_of_ble_eq_true rfl) (Nat.zero_le _) (Nat.zero_le _) dX4_leaveBy_76 ?_
      refine lv_topi (fun x71 ex71 => ?_)
      have bx71 : (x71.toInt = x55.toInt ∧ (-1 : Int) ≤ x55.toInt) ∨ (x71.toInt = (-1 : Int) ∧ x55.toInt < (-1 : Int)) := by rw [ex71]; exact wk_max
      refine tk_iast hC hK hw hT kC_at156 (by decide) rfl rfl (show 0 ≤ r42.toInt by first | with_reducible assumption | omega) (show r42.toInt < 10 by first | with_reducible assumption | omega) (show (-1) ≤ x71.toInt by first | with_reducible assumption | omega) (show x71.toInt ≤ 102119 by first | with_reducible assumption | omega) dX4_leaveBy_79 (fun H locs w72 hw hT k74 c73 => ?_)
      have hF := hF.put kC_at156 (inE_of (a := 0) (b := 10) (by decide) (show 0 ≤ r42.toInt.toNat by omega) (show r42.toInt.toNat ≤ 10 by omega)) k74
      have c75 := k74.gi (Or.inl (tk_ne kC_at40 kC_at156 (by decide))) c65
      exact tk_vret hC hr hlocks hK ⟨hT, hF, (Or.inr (Or.inl c75))⟩ hw dX4_leaveBy_80
abbrev P_X4_latestUnsettled_1 (ad : Nat → Nat) (cy : Nat → ClassId) (B : Int) (qr : Nat) (s1 : Int)  (w0 : va_W) : Int32 → va_W → Prop := fun r u => TW ksC ad cy B qr s1 u ∧ FE ksC ([] : List (Nat × Nat × Nat)) w0 u ∧ (((-1) ≤ r.toInt ∧ r.toInt ≤ 9))
set_option maxHeartbeats 4000000 in
set_option maxRecDepth 100000 in
theorem k_X4_latestUnsettled_1 (l : Launch) (adK adV : Nat → Nat) (dC : Nat → ClassId) (dI : Nat → Nat → Nat) (cy : Nat → ClassId) (ad : Nat → Nat) (B : Int) (hB0 : 2147483648 ≤ B) (hB1 : B ≤ 1152921504606846976) (qr : Nat) (s1 : Int)   (w0 : va_W) (sz : Nat) (hT : TW ksC ad cy B qr s1 w0)  : Met l yX4_latestUnsettled (wu yX4_latestUnsettled cX4_latestUnsettled 3 (some .int)) ({ frames := 1, cells := 0, slots := 0, locals := 12 }) (va_Pc [.ref (ad 155)] (wpreS adK adV dC dI cy sz w0)) (va_Qi (P_X4_latestUnsettled_1 ad cy B qr s1  w0) (fun u : va_W => wpost dC dI cy (va_A w0 sz) u) (va_A w0 sz)) 0 0 (va_A w0 sz) := by
  refine Met.ofW (cc := cX4_latestUnsettled) (maxL := 3) (ret := (some .int)) (by decide) rfl ?_
  intro p e s m args below meth c s₁ Bk hml hv
  obtain ⟨rfl, ⟨hsz, hP, hK, hD0⟩, hE, hSR⟩ := hv
  have hx := Bk.exec
  have hb := Bk.bytes
  have hr := Bk.returns
  have hlocks := Bk.notSynchronized
  have hC : CallFix p m c cX4_latestUnsettled 3 s _ (wu yX4_latestUnsettled cX4_latestUnsettled 3 (some .int)) RX4 := ⟨hx, hb, hml, findClass_of_methodNamed Bk.named, atoms_spec (ws := (wu yX4_latestUnsettled cX4_latestUnsettled 3 (some .int))) Bk.pre⟩
  subst hsz
  have hD := hD0.self (sz := s.heap.size)
  generalize hAe : va_A w0 s.heap.size = A at hD hE ⊢
  have hA : ∀ q : Nat, s.heap.size ≤ q → A q := fun q h => by rw [← hAe]; exact Or.inr h
  have hw : Wd dC dI A s.heap s.heap [] w0 := ⟨hP, hD, va_S.rf⟩
  have hF : FE ksC ([] : List (Nat × Nat × Nat)) w0 w0 := FE.rf
  have hl := lv_entry ([.ref (ad 155)]) (n := 3) (Nat.le_of_ble_eq_true rfl)
  rw [lg_entry_eq]
  generalize (lg_sl ([.ref (ad 155)]) ++ List.replicate (3 - (lg_sl ([.ref (ad 155)])).length) Slot.unset).toArray = ls at hl ⊢
  have hl : lv_has ls 3 [(0, .ref (ad 155))] := hl
  generalize hloc : ([] : List Loc) = locs at hw ⊢
  have hinX4 : ∀ w ∈ u_ws RX4 TX4 4, w ∈ (wu yX4_latestUnsettled cX4_latestUnsettled 3 (some .int)) := fun _ h => List.mem_cons_of_mem _ (up_80 h)
  have hinX7 : ∀ w ∈ u_ws RX7 TX7 12, w ∈ (wu yX4_latestUnsettled cX4_latestUnsettled 3 (some .int)) := fun _ h => List.mem_cons_of_mem _ (up_73 h)
  have L4 : ∀ (n4 : Nat) (v4_1 : Int32) (v4_2 : Int32) (H : Heap) (locs : List Loc) (ls : Array Slot) (w1 : va_W), (-1) ≤ v4_1.toInt → v4_1.toInt ≤ 9 → 0 ≤ v4_2.toInt → v4_2.toInt ≤ 10 → (10 - v4_2.toInt).toNat < n4 → Wd dC dI A s.heap H locs w1 → TW ksC ad cy B qr s1 w1 → FE ksC ([] : List (Nat × Nat × Nat)) w0 w1 → lv_has ls 3 [(0, .ref (ad 155)), (1, .int v4_1), (2, .int v4_2)] → W p l e ({ frames := 1, cells := 0, slots := 0, locals := 12 }) s m (List.toArray [.ref (ad 155)]) below meth c H locs 0 0 (MQ below (va_Qi (P_X4_latestUnsettled_1 ad cy B qr s1  w0) (fun u : va_W => wpost dC dI cy A u) A) (List.toArray [.ref (ad 155)]) s 0 0 A) (F0 m 4 ls []) := by
    intro n4
    induction n4 with
    | zero => intro v4_1 v4_2 H locs ls w1 r2 t3 r4 t5 hm4 hw hT hF hl; omega
    | succ n4 ih4 =>
      intro v4_1 v4_2 H locs ls w1 r2 t3 r4 t5 hm4 hw hT hF hl
      have J56 : ∀ (v56_1 : Int32) (f56_39_8 : Int32) (H : Heap) (locs : List Loc) (ls : Array Slot) (w6 : va_W), (-1) ≤ v56_1.toInt → v56_1.toInt ≤ 9 → 0 ≤ v4_2.toInt → v4_2.toInt ≤ 9 → 1 ≤ f56_39_8.toInt → f56_39_8.toInt ≤ 10 → Wd dC dI A s.heap H locs w6 → TW ksC ad cy B qr s1 w6 → FE ksC ([] : List (Nat × Nat × Nat)) w0 w6 → gi w6 39 8 = f56_39_8 → lv_has ls 3 [(0, .ref (ad 155)), (1, .int v56_1), (2, .int v4_2)] → W p l e ({ frames := 1, cells := 0, slots := 0, locals := 12 }) s m (List.toArray [.ref (ad 155)]) below meth c H locs 0 0 (MQ below (va_Qi (P_X4_latestUnsettled_1 ad cy B qr s1  w0) (fun u : va_W => wpost dC dI cy A u) A) (List.toArray [.ref (ad 155)]) s 0 0 A) (F0 m 56 ls []) := by
        intro v56_1 f56_39_8 H locs ls w6 r7 t8 r9 t10 r11 t12 hw hT hF c13 hl
        obtain ⟨x14, ex14⟩ : ∃ y : Int32, y = v4_2 + Int32.ofInt 1 := ⟨_, rfl⟩
        refine lv_iinc (v := x14) (lv' := [(2, .int x14), (0, .ref (ad 155)), (1, .int v56_1)]) hx hb dX4_latestUnsettled_56 hl (k := 2) rfl ex14.symm (by decide) rfl (fun ls hl => ?_)
        have ex14 : x14.toInt = v4_2.toInt + 1 := by rw [ex14]; exact wk_add (y := 1) (show -2147483648 ≤ v4_2.toInt + 1 by omega) (show v4_2.toInt + 1 ≤ 2147483647 by omega)
        refine lv_goto (tgt := 4) hx hb dX4_latestUnsettled_59 (by decide) ?_
        exact ih4 v56_1 x14 H locs ls w6 (show (-1) ≤ v56_1.toInt from r7) (show v56_1.toInt ≤ 9 from t8) (show 0 ≤ x14.toInt by first | with_reducible assumption | omega) (show x14.toInt ≤ 10 by first | with_reducible assumption | omega) (show (10 - x14.toInt).toNat < n4 by first | exact tn_lt hm4 (by omega) (by omega) | omega) hw hT hF  (lv_sub hl [1, 2, 0] rfl)
      have J54 : ∀ (f54_39_8 : Int32) (H : Heap) (locs : List Loc) (ls : Array Slot) (w15 : va_W), (-1) ≤ v4_1.toInt → v4_1.toInt ≤ 9 → 0 ≤ v4_2.toInt → v4_2.toInt ≤ 9 → 1 ≤ f54_39_8.toInt → f54_39_8.toInt ≤ 10 → Wd dC dI A s.heap H locs w15 → TW ksC ad cy B qr s1 w15 → FE ksC ([] : List (Nat × Nat × Nat)) w0 w15 → gi w15 39 8 = f54_39_8 → lv_has ls 3 [(0, .ref (ad 155)), (1, .int v4_1), (2, .int v4_2)] → W p l e ({ frames := 1, cells := 0, slots := 0, locals := 12 }) s m (List.toArray [.ref (ad 155)]) below meth c H locs 0 0 (MQ below (va_Qi (P_X4_latestUnsettled_1 ad cy B qr s1  w0) (fun u : va_W => wpost dC dI cy A u) A) (List.toArray [.ref (ad 155)]) s 0 0 A) (F0 m 54 ls []) := by
        intro f54_39_8 H locs ls w15 r16 t17 r18 t19 r20 t21 hw hT hF c22 hl
        refine lv_iload_n hx hb dX4_latestUnsettled_54 rfl (lv_at hl 2 rfl) ?_
        refine lv_istore_n (lv' := [(1, .int v4_2), (0, .ref (ad 155)), (2, .int v4_2)]) hx hb dX4_latestUnsettled_55 rfl hl (by decide) rfl (fun ls hl => ?_)
        exact J56 v4_2 f54_39_8 H locs ls w15 (show (-1) ≤ v4_2.toInt from Int.le_trans (by decide) r18) (show v4_2.toInt ≤ 9 from t19) (show 0 ≤ v4_2.toInt from r18) (show v4_2.toInt ≤ 9 from t19) (show 1 ≤ f54_39_8.toInt from r20) (show f54_39_8.toInt ≤ 10 from t21)  hw hT hF c22 (lv_sub hl [1, 0, 2] rfl)
      refine lv_iload_n hx hb dX4_latestUnsettled_4 rfl (lv_at hl 2 rfl) ?_
      refine lv_aload_n hx hb dX4_latestUnsettled_5 rfl (lv_at hl 0 rfl) ?_
      refine tk_getA hC hK hw hT hinX4 kC_at155 (by decide) rfl 1 (by decide) (List.mem_cons_of_mem _ uw_5_23) rfl rfl dX4_latestUnsettled_6 ?_
      refine tk_geti hC hK hw hT hinX7 kC_at39 (by decide) rfl 8 (by decide) (List.mem_cons_of_mem _ uw_49_18) rfl rfl dX4_latestUnsettled_9 (fun x23 c24 rx23 tx23 => ?_)
      refine lv_icmp_ge (tgt := 62) hx hb dX4_latestUnsettled_12 (by decide) (fun c25 => ?_) (fun c25 => ?_)
      · have c25 : x23.toInt ≤ v4_2.toInt := wk_le.mp c25
        refine lv_iload_n hx hb dX4_latestUnsettled_62 rfl (lv_at hl 1 rfl) ?_
        exact tk_iret hC hr hlocks hK ⟨hT, hF, ⟨(show (-1) ≤ v4_1.toInt from r2), (show v4_1.toInt ≤ 9 from t3)⟩⟩ hw dX4_latestUnsettled_63
      · have c25 : v4_2.toInt < x23.toInt := wk_leF c25
        refine lv_aload_n hx hb dX4_latestUnsettled_15 rfl (lv_at hl 0 rfl) ?_
        refine tk_getA hC hK hw hT hinX4 kC_at155 (by decide) rfl 3 (by decide) (List.mem_cons_of_mem _ uw_5_20) rfl rfl dX4_latestUnsettled_16 ?_
        refine lv_iload_n hx hb dX4_latestUnsettled_19 rfl (lv_at hl 2 rfl) ?_
        refine tk_zald hC hK hw hT kC_at157 rfl rfl (show 0 ≤ v4_2.toInt from r4) (show v4_2.toInt < 10 by first | with_reducible assumption | omega) dX4_latestUnsettled_20 (fun x26 c27 rx26 tx26 => ?_)
        refine lv_if_ne (tgt := 56) hx hb dX4_latestUnsettled_21 (by decide) (fun c28 => ?_) (fun c28 => ?_)
        · have c28 : ¬ x26.toInt = (0 : Int) := wk_eqF c28
          exact J56 v4_1 x23 H locs ls w1 (show (-1) ≤ v4_1.toInt from r2) (show v4_1.toInt ≤ 9 from t3) (show 0 ≤ v4_2.toInt from r4) (show v4_2.toInt ≤ 9 by first | with_reducible assumption | omega) (show 1 ≤ x23.toInt by first | with_reducible assumption | omega) (show x23.toInt ≤ 10 from tx23)  hw hT hF c24 (lv_sub hl [0, 1, 2] rfl)
        · have c28 : x26.toInt = (0 : Int) := wk_eq.mp c28
          refine lv_aload_n hx hb dX4_latestUnsettled_24 rfl (lv_at hl 0 rfl) ?_
          refine tk_getA hC hK hw hT hinX4 kC_at155 (by decide) rfl 2 (by decide) (List.mem_cons_of_mem _ uw_5_19) rfl rfl dX4_latestUnsettled_25 ?_
          refine lv_iload_n hx hb dX4_latestUnsettled_28 rfl (lv_at hl 2 rfl) ?_
          refine tk_iald hC hK hw hT kC_at156 rfl rfl (show 0 ≤ v4_2.toInt from r4) (show v4_2.toInt < 10 by first | with_reducible assumption | omega) dX4_latestUnsettled_29 (fun x29 c30 rx29 tx29 => ?_)
          refine lv_iconst (v := (-1)) hx hb dX4_latestUnsettled_30 (by decide) ?_
          refine lv_icmp_eq (tgt := 56) hx hb dX4_latestUnsettled_31 (by decide) (fun c31 => ?_) (fun c31 => ?_)
          · have c31 : x29.toInt = (-1 : Int) := wk_eq.mp c31
            exact J56 v4_1 x23 H locs ls w1 (show (-1) ≤ v4_1.toInt from r2) (show v4_1.toInt ≤ 9 from t3) (show 0 ≤ v4_2.toInt from r4) (show v4_2.toInt ≤ 9 by first | with_reducible assumption | omega) (show 1 ≤ x23.toInt by first | with_reducible assumption | omega) (show x23.toInt ≤ 10 from tx23)  hw hT hF c24 (lv_sub hl [0, 1, 2] rfl)
          · have c31 : ¬ x29.toInt = (-1 : Int) := wk_eqF c31
            refine lv_iload_n hx hb dX4_latestUnsettled_34 rfl (lv_at hl 1 rfl) ?_
            refine lv_iconst (v := (-1)) hx hb dX4_latestUnsettled_35 (by decide) ?_
            refine lv_icmp_eq (tgt := 54) hx hb dX4_latestUnsettled_36 (by decide) (fun c32 => ?_) (fun c32 => ?_)
            · have c32 : v4_1.toInt = (-1 : Int) := wk_eq.mp c32
              exact J54 x23 H locs ls w1 (show (-1) ≤ v4_1.toInt from r2) (show v4_1.toInt ≤ 9 from t3) (show 0 ≤ v4_2.toInt from r4) (show v4_2.toInt ≤ 9 by first | with_reducible assumption | omega) (show 1 ≤ x23.toInt by first | with_reducible assumption | omega) (show x23.toInt ≤ 10 from tx23)  hw hT hF c24 (lv_sub hl [0, 1, 2] rfl)
            · have c32 : ¬ v4_1.toInt = (-1 : Int) := wk_eqF c32
              refine lv_aload_n hx hb dX4_latestUnsettled_39 rfl (lv_at hl 0 rfl) ?_
              refine tk_getA hC hK hw hT hinX4 kC_at155 (by decide) rfl 2 (by decide) (List.mem_cons_of_mem _ uw_5_19) rfl rfl dX4_latestUnsettled_40 ?_
              refine lv_iload_n hx hb dX4_latestUnsettled_43 rfl (lv_at hl 2 rfl) ?_
              refine tk_iald hC hK hw hT kC_at156 rfl rfl (show 0 ≤ v4_2.toInt from r4) (show v4_2.toInt < 10 by first | with_reducible assumption | omega) dX4_latestUnsettled_44 (fun x33 c34 rx33 tx33 => ?_)
              refine lv_aload_n hx hb dX4_latestUnsettled_45 rfl (lv_at hl 0 rfl) ?_
              refine tk_getA hC hK hw hT hinX4 kC_at155 (by decide) rfl 2 (by decide) (List.mem_cons_of_mem _ uw_5_19) rfl rfl dX4_latestUnsettled_46 ?_
              refine lv_iload_n hx hb dX4_latestUnsettled_49 rfl (lv_at hl 1 rfl) ?_
              refine tk_iald hC hK hw hT kC_at156 rfl rfl (show 0 ≤ v4_1.toInt by first | with_reducible assumption | omega) (show v4_1.toInt < 10 from Int.lt_of_le_of_lt t3 (by decide)) dX4_latestUnsettled_50 (fun x35 c36 rx35 tx35 => ?_)
              refine lv_icmp_le (tgt := 56) hx hb dX4_latestUnsettled_51 (by decide) (fun c37 => ?_) (fun c37 => ?_)
              · have c37 : x33.toInt ≤ x35.toInt := wk_le.mp c37
                exact J56 v4_1 x23 H locs ls w1 (show (-1) ≤ v4_1.toInt from r2) (show v4_1.toInt ≤ 9 from t3) (show 0 ≤ v4_2.toInt from r4) (show v4_2.toInt ≤ 9 by first | with_reducible assumption | omega) (show 1 ≤ x23.toInt by first | with_reducible assumption | omega) (show x23.toInt ≤ 10 from tx23)  hw hT hF c24 (lv_sub hl [0, 1, 2] rfl)
              · have c37 : x35.toInt < x33.toInt := wk_leF c37
                exact J54 x23 H locs ls w1 (show (-1) ≤ v4_1.toInt from r2) (show v4_1.toInt ≤ 9 from t3) (show 0 ≤ v4_2.toInt from r4) (show v4_2.toInt ≤ 9 by first | with_reducible assumption | omega) (show 1 ≤ x23.toInt by first | with_reducible assumption | omega) (show x23.toInt ≤ 10 from tx23)  hw hT hF c24 (lv_sub hl [0, 1, 2] rfl)
  refine lv_iconst (v := (-1)) hx hb dX4_latestUnsettled_0 (by decide) ?_
  refine lv_istore_n (lv' := [(1, .int (-1)), (0, .ref (ad 155))]) hx hb dX4_latestUnsettled_1 rfl hl (by decide) rfl (fun ls hl => ?_)
  refine lv_iconst (v := 0) hx hb dX4_latestUnsettled_2 (by decide) ?_
  refine lv_istore_n (lv' := [(2, .int 0), (1, .int (-1)), (0, .ref (ad 155))]) hx hb dX4_latestUnsettled_3 rfl hl (by decide) rfl (fun ls hl => ?_)
  exact L4 ((10 - (0 : Int)).toNat + 1) (-1) 0 s.heap locs ls w0 (by decide) (by decide) (by decide) (by decide) (Nat.lt_succ_self _) hw hT hF  (lv_sub hl [2, 1, 0] rfl)
