abbrev P_X12_wayFrom_1 (ad : Nat → Nat) (cy : Nat → ClassId) (B : Int) (qr : Nat) (s1 : Int) (a1 : Int32) (a2 : Int32) (a3 : Int32) (a4 : Int32) (w0 : va_W) : Int32 → va_W → Prop := fun r u => TW ksM ad cy B qr 12 u ∧ FE ksM [(12, 37, 37), (77, 0, 10), (78, 0, 10)] w0 u ∧ ((0 ≤ r.toInt ∧ r.toInt ≤ 11 ∧ a1.toInt ≤ 9 ∧ (∃ y : Int32, gi u 0 37 = y ∧ 0 ≤ y.toInt ∧ y.toInt ≤ 100000100) ∧ (∃ y : Int32, gi u 12 1 = y ∧ 1 ≤ y.toInt ∧ y.toInt ≤ 12) ∧ gi u 12 (10 * r.toInt + 10).toNat = a1 ∧ gi u 12 (10 * r.toInt + 11).toNat = a1) ∨ (0 ≤ r.toInt ∧ r.toInt ≤ 11 ∧ a1.toInt ≤ 9 ∧ (∃ y : Int32, gi u 0 37 = y ∧ 0 ≤ y.toInt ∧ y.toInt ≤ 100000100) ∧ (∃ y : Int32, gi u 12 1 = y ∧ 1 ≤ y.toInt ∧ y.toInt ≤ 12) ∧ gi u 12 (10 * r.toInt + 10).toNat = a1) ∨ (0 ≤ r.toInt ∧ r.toInt ≤ 11 ∧ a1.toInt ≤ 9 ∧ (∃ y : Int32, gi u 0 37 = y ∧ 0 ≤ y.toInt ∧ y.toInt ≤ 100000100) ∧ (∃ y : Int32, gi u 12 1 = y ∧ 1 ≤ y.toInt ∧ y.toInt ≤ 12) ∧ gi u 12 (10 * r.toInt + 11).toNat = a1) ∨ (r = (-1)))
set_option maxHeartbeats 4000000 in
set_option maxRecDepth 100000 in
theorem k_X12_wayFrom_1 (l : Launch) (adK adV : Nat → Nat) (dC : Nat → ClassId) (dI : Nat → Nat → Nat) (cy : Nat → ClassId) (ad : Nat → Nat) (B : Int) (hB0 : 100000 ≤ B) (hB1 : B ≤ 1073741824) (qr : Nat) (s1 : Int)  (a1 : Int32) (ra1 : 0 ≤ a1.toInt) (ta1 : a1.toInt ≤ 12) (a2 : Int32) (ra2 : 0 ≤ a2.toInt) (ta2 : a2.toInt ≤ 9) (a3 : Int32) (ra3 : 0 ≤ a3.toInt) (ta3 : a3.toInt ≤ 100000208) (a4 : Int32) (ra4 : 0 ≤ a4.toInt) (ta4 : a4.toInt ≤ 100000100) (w0 : va_W) (sz : Nat) (hT : TW ksM ad cy B qr 12 w0)  : Met l yX12_wayFrom wsX12_wayFrom ({ frames := 6, cells := 0, slots := 0, locals := 133 }) (va_Pc [.ref (ad 0), .int a1, .int a2, .int a3, .int a4] (wpreS adK adV dC dI cy sz w0)) (va_Qi (P_X12_wayFrom_1 ad cy B qr s1 a1 a2 a3 a4 w0) (fun u : va_W => wpost dC dI cy (va_A w0 sz) u) (va_A w0 sz)) 0 0 (va_A w0 sz) := by
  refine Met.ofW (cc := cX12_wayFrom) (maxL := 6) (ret := (some .int)) (by decide) rfl ?_
  intro p e s m args below meth c s₁ Bk hml hv
  obtain ⟨rfl, ⟨hsz, hP, hK, hD0⟩, hE, hSR⟩ := hv
  have hx := Bk.exec
  have hb := Bk.bytes
  have hr := Bk.returns
  have hlocks := Bk.notSynchronized
  have hC : CallFix p m c cX12_wayFrom 6 s _ wsX12_wayFrom RX12 := ⟨hx, hb, hml, findClass_of_methodNamed Bk.named, atoms_spec (ws := wsX12_wayFrom) Bk.pre⟩
  subst hsz
  have hD := hD0.self (sz := s.heap.size)
  generalize hAe : va_A w0 s.heap.size = A at hD hE ⊢
  have hA : ∀ q : Nat, s.heap.size ≤ q → A q := fun q h => by rw [← hAe]; exact Or.inr h
  have hw : Wd dC dI A s.heap s.heap [] w0 := ⟨hP, hD, va_S.rf⟩
  have hF : FE ksM [(12, 37, 37), (77, 0, 10), (78, 0, 10)] w0 w0 := FE.rf
  have hl := lv_entry ([.ref (ad 0), .int a1, .int a2, .int a3, .int a4]) (n := 6) (Nat.le_of_ble_eq_true rfl)
  rw [lg_entry_eq]
  generalize (lg_sl ([.ref (ad 0), .int a1, .int a2, .int a3, .int a4]) ++ List.replicate (6 - (lg_sl ([.ref (ad 0), .int a1, .int a2, .int a3, .int a4])).length) Slot.unset).toArray = ls at hl ⊢
  have hl : lv_has ls 6 [(0, .ref (ad 0)), (1, .int a1), (2, .int a2), (3, .int a3), (4, .int a4)] := hl
  generalize hloc : ([] : List Loc) = locs at hw ⊢
  have hinX12 : ∀ w ∈ u_ws RX12 TX12 42, w ∈ wsX12_wayFrom := fun _ h => List.mem_cons_of_mem _ (List.mem_append_right _ (h))
  have L3 : ∀ (n3 : Nat) (v3_5 : Int32) (H : Heap) (locs : List Loc) (ls : Array Slot) (w1 : va_W), 0 ≤ a1.toInt → a1.toInt ≤ 12 → 0 ≤ a2.toInt → a2.toInt ≤ 9 → 0 ≤ a3.toInt → a3.toInt ≤ 100000208 → 0 ≤ a4.toInt → a4.toInt ≤ 100000100 → 0 ≤ v3_5.toInt → v3_5.toInt ≤ 12 → (12 - v3_5.toInt).toNat < n3 → Wd dC dI A s.heap H locs w1 → TW ksM ad cy B qr 12 w1 → FE ksM [(12, 37, 37), (77, 0, 10), (78, 0, 10)] w0 w1 → lv_has ls 6 [(0, .ref (ad 0)), (1, .int a1), (2, .int a2), (3, .int a3), (4, .int a4), (5, .int v3_5)] → W p l e ({ frames := 6, cells := 0, slots := 0, locals := 133 }) s m (List.toArray [.ref (ad 0), .int a1, .int a2, .int a3, .int a4]) below meth c H locs 0 0 (MQ below (va_Qi (P_X12_wayFrom_1 ad cy B qr s1 a1 a2 a3 a4 w0) (fun u : va_W => wpost dC dI cy A u) A) (List.toArray [.ref (ad 0), .int a1, .int a2, .int a3, .int a4]) s 0 0 A) (F0 m 3 ls []) := by
    intro n3
    induction n3 with
    | zero => intro v3_5 H locs ls w1 r2 t3 r4 t5 r6 t7 r8 t9 r10 t11 hm3 hw hT hF hl; omega
    | succ n3 ih3 =>
      intro v3_5 H locs ls w1 r2 t3 r4 t5 r6 t7 r8 t9 r10 t11 hm3 hw hT hF hl
      have J105 : ∀ (f105_12_1 : Int32) (H : Heap) (locs : List Loc) (ls : Array Slot) (w12 : va_W), 0 ≤ a1.toInt → a1.toInt ≤ 12 → 0 ≤ a2.toInt → a2.toInt ≤ 9 → 0 ≤ a3.toInt → a3.toInt ≤ 100000208 → 0 ≤ a4.toInt → a4.toInt ≤ 100000100 → 0 ≤ v3_5.toInt → v3_5.toInt ≤ 11 → 1 ≤ f105_12_1.toInt → f105_12_1.toInt ≤ 12 → Wd dC dI A s.heap H locs w12 → TW ksM ad cy B qr 12 w12 → FE ksM [(12, 37, 37), (77, 0, 10), (78, 0, 10)] w0 w12 → gi w12 12 1 = f105_12_1 → lv_has ls 6 [(0, .ref (ad 0)), (1, .int a1), (2, .int a2), (3, .int a3), (4, .int a4), (5, .int v3_5)] → W p l e ({ frames := 6, cells := 0, slots := 0, locals := 133 }) s m (List.toArray [.ref (ad 0), .int a1, .int a2, .int a3, .int a4]) below meth c H locs 0 0 (MQ below (va_Qi (P_X12_wayFrom_1 ad cy B qr s1 a1 a2 a3 a4 w0) (fun u : va_W => wpost dC dI cy A u) A) (List.toArray [.ref (ad 0), .int a1, .int a2, .int a3, .int a4]) s 0 0 A) (F0 m 105 ls []) := by
        intro f105_12_1 H locs ls w12 r13 t14 r15 t16 r17 t18 r19 t20 r21 t22 r23 t24 hw hT hF c25 hl
        obtain ⟨x26, ex26⟩ : ∃ y : Int32, y = v3_5 + Int32.ofInt 1 := ⟨_, rfl⟩
        refine lv_iinc (v := x26) (lv' := [(5, .int x26), (0, .ref (ad 0)), (1, .int a1), (2, .int a2), (3, .int a3), (4, .int a4)]) hx hb dX12_wayFrom_105 hl (k := 5) rfl ex26.symm (by decide) rfl (fun ls hl => ?_)
        have ex26 : x26.toInt = v3_5.toInt + 1 := by rw [ex26]; exact wk_add (y := 1) (show -2147483648 ≤ v3_5.toInt + 1 by omega) (show v3_5.toInt + 1 ≤ 2147483647 by omega)
        refine lv_goto (tgt := 3) hx hb dX12_wayFrom_108 (by decide) ?_
        exact ih3 x26 H locs ls w12 (show 0 ≤ a1.toInt by omega) (show a1.toInt ≤ 12 by omega) (show 0 ≤ a2.toInt by omega) (show a2.toInt ≤ 9 by omega) (show 0 ≤ a3.toInt by omega) (show a3.toInt ≤ 100000208 by omega) (show 0 ≤ a4.toInt by omega) (show a4.toInt ≤ 100000100 by omega) (show 0 ≤ x26.toInt by omega) (show x26.toInt ≤ 12 by omega) (show (12 - x26.toInt).toNat < n3 by omega) hw hT hF  (lv_sub hl [1, 2, 3, 4, 5, 0] rfl)
      refine lv_iload hx hb dX12_wayFrom_3 (lv_at hl 5 rfl) ?_
      refine lv_aload_n hx hb dX12_wayFrom_5 rfl (lv_at hl 0 rfl) ?_
      refine tk_getA hC hK hw hT hinX12 kM_at0 (by decide) rfl 26 (by decide) (List.mem_of_getElem? (i := 1) rfl) rfl rfl dX12_wayFrom_6 ?_
      refine lv_iconst (v := 1) hx hb dX12_wayFrom_9 (by decide) ?_
      refine tk_ialdR hC hK hw hT kM_at12 rfl (by decide) (by decide) dX12_wayFrom_10 (fun x27 c28 Ex27 => ?_)
      have bx27 : 0 ≤ x27.toInt ∧ x27.toInt ≤ 12 := (tk_rg1 rfl).mp Ex27
      have c28 : gi w1 12 1 = x27 := c28
      refine lv_icmp_ge (tgt := 111) hx hb dX12_wayFrom_11 (by decide) (fun c29 => ?_) (fun c29 => ?_)
      · have c29 : x27.toInt ≤ v3_5.toInt := wk_le.mp c29
        refine lv_iconst (v := (-1)) hx hb dX12_wayFrom_111 (by decide) ?_
        exact tk_iret hC hr hlocks hK ⟨hT, hF, (Or.inr (Or.inr (Or.inr rfl)))⟩ hw dX12_wayFrom_112
      · have c29 : v3_5.toInt < x27.toInt := wk_leF c29
        refine lv_aload_n hx hb dX12_wayFrom_14 rfl (lv_at hl 0 rfl) ?_
        refine lv_iload hx hb dX12_wayFrom_15 (lv_at hl 5 rfl) ?_
        refine lv_iload_n hx hb dX12_wayFrom_17 rfl (lv_at hl 1 rfl) ?_
        refine tk_Vi hC hK hw hT hA hE hSR kM_at0 (by decide) rfl (k_X12_isAt_2 l adK adV dC dI cy ad B (by omega) (by omega) qr s1   v3_5 (show 0 ≤ v3_5.toInt by omega) (show v3_5.toInt ≤ 11 by omega) a1 (show 0 ≤ a1.toInt by omega) (show a1.toInt ≤ 12 by omega) w1 H.size hT ) (cwV 2 hC.2.2.2.2 gX12_wayFrom_X12_isAt rfl rfl rfl (by decide +kernel) ⟨Nat.le_of_ble_eq_true rfl, Nat.le_of_ble_eq_true rfl⟩) rfl hl.1 rfl (Nat.le_of_ble_eq_true rfl) dX12_wayFrom_18 (fun r30 w32 H locs hp31 hw => ?_)
        obtain ⟨rfl, hg41⟩ := hp31
        rcases hg41 with ⟨rfl, hq34⟩ | ⟨rfl, g35, c36, hq37⟩ | ⟨rfl, g38, c39, hq40⟩
        · refine lv_if_ne (tgt := 27) hx hb dX12_wayFrom_21 (by decide) (fun c => absurd (by decide) c) (fun _ => ?_)
          refine lv_goto (tgt := 105) hx hb dX12_wayFrom_24 (by decide) ?_
          exact J105 x27 H locs ls w1 (show 0 ≤ a1.toInt by omega) (show a1.toInt ≤ 12 by omega) (show 0 ≤ a2.toInt by omega) (show a2.toInt ≤ 9 by omega) (show 0 ≤ a3.toInt by omega) (show a3.toInt ≤ 100000208 by omega) (show 0 ≤ a4.toInt by omega) (show a4.toInt ≤ 100000100 by omega) (show 0 ≤ v3_5.toInt by omega) (show v3_5.toInt ≤ 11 by omega) (show 1 ≤ x27.toInt by omega) (show x27.toInt ≤ 12 by omega)  hw hT hF c28 (lv_sub hl [0, 1, 2, 3, 4, 5] rfl)
        · refine lv_if_ne (tgt := 27) hx hb dX12_wayFrom_21 (by decide) (fun _ => ?_) (fun c => absurd c (by decide))
          refine lv_aload_n hx hb dX12_wayFrom_27 rfl (lv_at hl 0 rfl) ?_
          refine lv_aload_n hx hb dX12_wayFrom_28 rfl (lv_at hl 0 rfl) ?_
          refine lv_iload hx hb dX12_wayFrom_29 (lv_at hl 5 rfl) ?_
          refine lv_iload_n hx hb dX12_wayFrom_31 rfl (lv_at hl 1 rfl) ?_
          refine lv_iload_n hx hb dX12_wayFrom_32 rfl (lv_at hl 3 rfl) ?_
          refine lv_iload hx hb dX12_wayFrom_33 (lv_at hl 4 rfl) ?_
          refine tk_Vi hC hK hw hT hA hE hSR kM_at0 (by decide) rfl (k_X12_firstOpen_2 l adK adV dC dI cy ad B (by omega) (by omega) qr s1   v3_5 (show 0 ≤ v3_5.toInt by omega) (show v3_5.toInt ≤ 11 by omega) a1 (show 0 ≤ a1.toInt by omega) (show a1.toInt ≤ 9 by omega) a3 (show 0 ≤ a3.toInt by omega) (show a3.toInt ≤ 100000208 by omega) a4 (show 0 ≤ a4.toInt by omega) (show a4.toInt ≤ 100000100 by omega) w1 H.size hT ) (cwV 4 hC.2.2.2.2 gX12_wayFrom_X12_firstOpen rfl rfl rfl (by decide +kernel) ⟨Nat.le_of_ble_eq_true rfl, Nat.le_of_ble_eq_true rfl⟩) rfl hl.1 rfl (Nat.le_of_ble_eq_true rfl) dX12_wayFrom_35 (fun r42 w44 H locs hp43 hw => ?_)
          obtain ⟨rfl, hg51⟩ := hp43
          rcases hg51 with ⟨g46, g47⟩ | ⟨g48, g49, c50⟩
          · refine tk_puti hC hK hw hT hinX12 tyX12_ok nmX12 kM_at0 (by decide) rfl rfl 37 (by decide) (List.mem_of_getElem? (i := 2) rfl) rfl rfl rfl rfl (show 0 ≤ r42.toInt by omega) (show r42.toInt ≤ 100000200 by omega) dX12_wayFrom_38 (fun H locs w52 hw hT k54 c53 => ?_)
            have hF := hF.put kM_at0 (k := 37) (by decide) k54
            have c55 := k54.gi (Or.inr (by decide)) c28
            have c56 := k54.gi (Or.inl (tk_ne kM_at12 kM_at0 (by decide))) c36
            refine lv_aload_n hx hb dX12_wayFrom_41 rfl (lv_at hl 0 rfl) ?_
            refine tk_geti hC hK hw hT hinX12 kM_at0 (by decide) rfl 37 (by decide) (List.mem_of_getElem? (i := 2) rfl) rfl rfl dX12_wayFrom_42 (fun x57 c58 rx57 tx57 => ?_)
            refine wk_top r42 (c58.symm.trans c53) ?_
            refine lv_ldcw (v := 100000000) hx hb hC.2.2.2.1 (hC.2.2.2.2 _ (List.mem_of_getElem? (i := 3) rfl)) dX12_wayFrom_45 ?_
            refine lv_icmp_eq (tgt := 105) hx hb dX12_wayFrom_48 (by decide) (fun c59 => ?_) (fun c59 => ?_)
            · have c59 : r42.toInt = (100000000 : Int) := wk_eq.mp c59
              exact J105 x27 H locs ls w52 (show 0 ≤ a1.toInt by omega) (show a1.toInt ≤ 12 by omega) (show 0 ≤ a2.toInt by omega) (show a2.toInt ≤ 9 by omega) (show 0 ≤ a3.toInt by omega) (show a3.toInt ≤ 100000208 by omega) (show 0 ≤ a4.toInt by omega) (show a4.toInt ≤ 100000100 by omega) (show 0 ≤ v3_5.toInt by omega) (show v3_5.toInt ≤ 11 by omega) (show 1 ≤ x27.toInt by omega) (show x27.toInt ≤ 12 by omega)  hw hT hF c55 (lv_sub hl [0, 1, 2, 3, 4, 5] rfl)
            · have c59 : ¬ r42.toInt = (100000000 : Int) := wk_eqF c59
              refine lv_aload_n hx hb dX12_wayFrom_51 rfl (lv_at hl 0 rfl) ?_
              refine tk_geti hC hK hw hT hinX12 kM_at0 (by decide) rfl 37 (by decide) (List.mem_of_getElem? (i := 2) rfl) rfl rfl dX12_wayFrom_52 (fun x60 c61 rx60 tx60 => ?_)
              refine wk_top r42 (c61.symm.trans c53) ?_
              refine lv_aload_n hx hb dX12_wayFrom_55 rfl (lv_at hl 0 rfl) ?_
              refine lv_iload hx hb dX12_wayFrom_56 (lv_at hl 5 rfl) ?_
              refine lv_iconst (v := 2) hx hb dX12_wayFrom_58 (by decide) ?_
              refine tk_Vi hC hK hw hT hA hE hSR kM_at0 (by decide) rfl (k_X12_streetOf_6 l adK adV dC dI cy ad B (by omega) (by omega) qr s1   v3_5 (show 0 ≤ v3_5.toInt by omega) (show v3_5.toInt ≤ 11 by omega) w52 H.size hT ) (cwV 2 hC.2.2.2.2 gX12_wayFrom_X12_streetOf rfl rfl rfl (by decide +kernel) ⟨Nat.le_of_ble_eq_true rfl, Nat.le_of_ble_eq_true rfl⟩) rfl hl.1 rfl (Nat.le_of_ble_eq_true rfl) dX12_wayFrom_59 (fun r62 w64 H locs hp63 hw => ?_)
              obtain ⟨rfl, hg69⟩ := hp63
              obtain ⟨g66, g67, c68⟩ := hg69
              refine lv_iadd hx hb dX12_wayFrom_62 ?_
              refine lv_topi (fun x70 ex70 => ?_)
              have ex70 : x70.toInt = r42.toInt + r62.toInt := by rw [ex70]; exact wk_add (show (-2147483648) ≤ r42.toInt + r62.toInt by omega) (show r42.toInt + r62.toInt ≤ 2147483647 by omega)
              refine lv_iload hx hb dX12_wayFrom_63 (lv_at hl 4 rfl) ?_
              refine lv_icmp_le (tgt := 71) hx hb dX12_wayFrom_65 (by decide) (fun c71 => ?_) (fun c71 => ?_)
              · have c71 : x70.toInt ≤ a4.toInt := wk_le.mp c71
                refine lv_aload_n hx hb dX12_wayFrom_71 rfl (lv_at hl 0 rfl) ?_
                refine lv_aload_n hx hb dX12_wayFrom_72 rfl (lv_at hl 0 rfl) ?_
                refine lv_iload hx hb dX12_wayFrom_73 (lv_at hl 5 rfl) ?_
                refine lv_iload_n hx hb dX12_wayFrom_75 rfl (lv_at hl 1 rfl) ?_
                refine tk_Vi hC hK hw hT hA hE hSR kM_at0 (by decide) rfl (k_X12_otherOf_1 l adK adV dC dI cy ad B (by omega) (by omega) qr s1   v3_5 (show 0 ≤ v3_5.toInt by omega) (show v3_5.toInt ≤ 11 by omega) a1 (show 0 ≤ a1.toInt by omega) (show a1.toInt ≤ 9 by omega) w52 H.size hT ) (cwV 2 hC.2.2.2.2 gX12_wayFrom_X12_otherOf rfl rfl rfl (by decide +kernel) ⟨Nat.le_of_ble_eq_true rfl, Nat.le_of_ble_eq_true rfl⟩) rfl hl.1 rfl (Nat.le_of_ble_eq_true rfl) dX12_wayFrom_76 (fun r72 w74 H locs hp73 hw => ?_)
                obtain ⟨rfl, hg81⟩ := hp73
                rcases hg81 with ⟨g76, g77⟩ | ⟨g78, g79, c80⟩
                · refine lv_iload_n hx hb dX12_wayFrom_79 rfl (lv_at hl 2 rfl) ?_
                  refine lv_aload_n hx hb dX12_wayFrom_80 rfl (lv_at hl 0 rfl) ?_
                  refine tk_geti hC hK hw hT hinX12 kM_at0 (by decide) rfl 37 (by decide) (List.mem_of_getElem? (i := 2) rfl) rfl rfl dX12_wayFrom_81 (fun x82 c83 rx82 tx82 => ?_)
                  refine wk_top r42 (c83.symm.trans c53) ?_
                  refine lv_aload_n hx hb dX12_wayFrom_84 rfl (lv_at hl 0 rfl) ?_
                  refine lv_iload hx hb dX12_wayFrom_85 (lv_at hl 5 rfl) ?_
                  refine lv_iconst (v := 2) hx hb dX12_wayFrom_87 (by decide) ?_
                  refine tk_Vi hC hK hw hT hA hE hSR kM_at0 (by decide) rfl (k_X12_streetOf_6 l adK adV dC dI cy ad B (by omega) (by omega) qr s1   v3_5 (show 0 ≤ v3_5.toInt by omega) (show v3_5.toInt ≤ 11 by omega) w52 H.size hT ) (cwV 2 hC.2.2.2.2 gX12_wayFrom_X12_streetOf rfl rfl rfl (by decide +kernel) ⟨Nat.le_of_ble_eq_true rfl, Nat.le_of_ble_eq_true rfl⟩) rfl hl.1 rfl (Nat.le_of_ble_eq_true rfl) dX12_wayFrom_88 (fun r84 w86 H locs hp85 hw => ?_)
                  obtain ⟨rfl, hg91⟩ := hp85
                  obtain ⟨g88, g89, c90⟩ := hg91
                  obtain rfl : r62 = r84 := c68.symm.trans c90
                  refine lv_iadd hx hb dX12_wayFrom_91 ?_
                  refine lv_topi (fun x92 ex92 => ?_)
                  have ex92 : x92.toInt = r42.toInt + r62.toInt := by rw [ex92]; exact wk_add (show (-2147483648) ≤ r42.toInt + r62.toInt by omega) (show r42.toInt + r62.toInt ≤ 2147483647 by omega)
                  refine lv_iload hx hb dX12_wayFrom_92 (lv_at hl 4 rfl) ?_
                  refine tk_Vi hC hK hw hT hA hE hSR kM_at0 (by decide) rfl (k_X12_reaches_2 l adK adV dC dI cy ad B (by omega) (by omega) qr s1   r72 (show 0 ≤ r72.toInt by omega) (show r72.toInt ≤ 9 by omega) a2 (show 0 ≤ a2.toInt by omega) (show a2.toInt ≤ 9 by omega) x92 (show 0 ≤ x92.toInt by omega) (show x92.toInt ≤ 100000100 by omega) a4 (show 0 ≤ a4.toInt by omega) (show a4.toInt ≤ 100000100 by omega) w52 H.size hT ) (cwV 4 hC.2.2.2.2 gX12_wayFrom_X12_reaches rfl rfl rfl (by decide +kernel) ⟨Nat.le_of_ble_eq_true rfl, Nat.le_of_ble_eq_true rfl⟩) rfl hl.1 rfl (Nat.le_of_ble_eq_true rfl) dX12_wayFrom_94 (fun r93 w95 H locs hp94 hw => ?_)
                  obtain ⟨hT, k96, hg99⟩ := hp94
                  have hF := hF.tr k96 (by decide)
                  have c100 := k96.gi kM_at12 (by decide) c55
                  have c101 := k96.gi kM_at12 rfl c56
                  have c102 := k96.gi kM_at0 (by decide) c53
                  have c103 := k96.gi kM_at12 rfl c68
                  obtain ⟨g97, g98⟩ := hg99
                  refine lv_iload hx hb dX12_wayFrom_97 (lv_at hl 4 rfl) ?_
                  refine lv_icmp_ne (tgt := 105) hx hb dX12_wayFrom_99 (by decide) (fun c104 => ?_) (fun c104 => ?_)
                  · have c104 : ¬ r93.toInt = a4.toInt := wk_eqF c104
                    exact J105 x27 H locs ls w95 (show 0 ≤ a1.toInt by omega) (show a1.toInt ≤ 12 by omega) (show 0 ≤ a2.toInt by omega) (show a2.toInt ≤ 9 by omega) (show 0 ≤ a3.toInt by omega) (show a3.toInt ≤ 100000208 by omega) (show 0 ≤ a4.toInt by omega) (show a4.toInt ≤ 100000100 by omega) (show 0 ≤ v3_5.toInt by omega) (show v3_5.toInt ≤ 11 by omega) (show 1 ≤ x27.toInt by omega) (show x27.toInt ≤ 12 by omega)  hw hT hF c100 (lv_sub hl [0, 1, 2, 3, 4, 5] rfl)
                  · have c104 : r93.toInt = a4.toInt := wk_eq.mp c104
                    refine lv_iload hx hb dX12_wayFrom_102 (lv_at hl 5 rfl) ?_
                    exact tk_iret hC hr hlocks hK ⟨hT, hF, (Or.inr (Or.inl ⟨(show 0 ≤ v3_5.toInt by omega), (show v3_5.toInt ≤ 11 by omega), (show a1.toInt ≤ 9 by omega), ⟨r42, c102, (show 0 ≤ r42.toInt by omega), (show r42.toInt ≤ 100000100 by omega)⟩, ⟨x27, c100, (show 1 ≤ x27.toInt by omega), (show x27.toInt ≤ 12 by omega)⟩, c101⟩))⟩ hw dX12_wayFrom_104
                · refine lv_iload_n hx hb dX12_wayFrom_79 rfl (lv_at hl 2 rfl) ?_
                  refine lv_aload_n hx hb dX12_wayFrom_80 rfl (lv_at hl 0 rfl) ?_
                  refine tk_geti hC hK hw hT hinX12 kM_at0 (by decide) rfl 37 (by decide) (List.mem_of_getElem? (i := 2) rfl) rfl rfl dX12_wayFrom_81 (fun x105 c106 rx105 tx105 => ?_)
                  refine wk_top r42 (c106.symm.trans c53) ?_
                  refine lv_aload_n hx hb dX12_wayFrom_84 rfl (lv_at hl 0 rfl) ?_
                  refine lv_iload hx hb dX12_wayFrom_85 (lv_at hl 5 rfl) ?_
                  refine lv_iconst (v := 2) hx hb dX12_wayFrom_87 (by decide) ?_
                  refine tk_Vi hC hK hw hT hA hE hSR kM_at0 (by decide) rfl (k_X12_streetOf_6 l adK adV dC dI cy ad B (by omega) (by omega) qr s1   v3_5 (show 0 ≤ v3_5.toInt by omega) (show v3_5.toInt ≤ 11 by omega) w52 H.size hT ) (cwV 2 hC.2.2.2.2 gX12_wayFrom_X12_streetOf rfl rfl rfl (by decide +kernel) ⟨Nat.le_of_ble_eq_true rfl, Nat.le_of_ble_eq_true rfl⟩) rfl hl.1 rfl (Nat.le_of_ble_eq_true rfl) dX12_wayFrom_88 (fun r107 w109 H locs hp108 hw => ?_)
                  obtain ⟨rfl, hg114⟩ := hp108
                  obtain ⟨g111, g112, c113⟩ := hg114
                  obtain rfl : r62 = r107 := c68.symm.trans c113
                  refine lv_iadd hx hb dX12_wayFrom_91 ?_
                  refine lv_topi (fun x115 ex115 => ?_)
                  have ex115 : x115.toInt = r42.toInt + r62.toInt := by rw [ex115]; exact wk_add (show (-2147483648) ≤ r42.toInt + r62.toInt by omega) (show r42.toInt + r62.toInt ≤ 2147483647 by omega)
                  refine lv_iload hx hb dX12_wayFrom_92 (lv_at hl 4 rfl) ?_
                  refine tk_Vi hC hK hw hT hA hE hSR kM_at0 (by decide) rfl (k_X12_reaches_2 l adK adV dC dI cy ad B (by omega) (by omega) qr s1   r72 (show 0 ≤ r72.toInt by omega) (show r72.toInt ≤ 9 by omega) a2 (show 0 ≤ a2.toInt by omega) (show a2.toInt ≤ 9 by omega) x115 (show 0 ≤ x115.toInt by omega) (show x115.toInt ≤ 100000100 by omega) a4 (show 0 ≤ a4.toInt by omega) (show a4.toInt ≤ 100000100 by omega) w52 H.size hT ) (cwV 4 hC.2.2.2.2 gX12_wayFrom_X12_reaches rfl rfl rfl (by decide +kernel) ⟨Nat.le_of_ble_eq_true rfl, Nat.le_of_ble_eq_true rfl⟩) rfl hl.1 rfl (Nat.le_of_ble_eq_true rfl) dX12_wayFrom_94 (fun r116 w118 H locs hp117 hw => ?_)
                  obtain ⟨hT, k119, hg122⟩ := hp117
                  have hF := hF.tr k119 (by decide)
                  have c123 := k119.gi kM_at12 (by decide) c55
                  have c124 := k119.gi kM_at12 rfl c56
                  have c125 := k119.gi kM_at0 (by decide) c53
                  have c126 := k119.gi kM_at12 rfl c68
                  obtain ⟨g120, g121⟩ := hg122
                  refine lv_iload hx hb dX12_wayFrom_97 (lv_at hl 4 rfl) ?_
                  refine lv_icmp_ne (tgt := 105) hx hb dX12_wayFrom_99 (by decide) (fun c127 => ?_) (fun c127 => ?_)
                  · have c127 : ¬ r116.toInt = a4.toInt := wk_eqF c127
                    exact J105 x27 H locs ls w118 (show 0 ≤ a1.toInt by omega) (show a1.toInt ≤ 12 by omega) (show 0 ≤ a2.toInt by omega) (show a2.toInt ≤ 9 by omega) (show 0 ≤ a3.toInt by omega) (show a3.toInt ≤ 100000208 by omega) (show 0 ≤ a4.toInt by omega) (show a4.toInt ≤ 100000100 by omega) (show 0 ≤ v3_5.toInt by omega) (show v3_5.toInt ≤ 11 by omega) (show 1 ≤ x27.toInt by omega) (show x27.toInt ≤ 12 by omega)  hw hT hF c123 (lv_sub hl [0, 1, 2, 3, 4, 5] rfl)
                  · have c127 : r116.toInt = a4.toInt := wk_eq.mp c127
                    refine lv_iload hx hb dX12_wayFrom_102 (lv_at hl 5 rfl) ?_
                    exact tk_iret hC hr hlocks hK ⟨hT, hF, (Or.inr (Or.inl ⟨(show 0 ≤ v3_5.toInt by omega), (show v3_5.toInt ≤ 11 by omega), (show a1.toInt ≤ 9 by omega), ⟨r42, c125, (show 0 ≤ r42.toInt by omega), (show r42.toInt ≤ 100000100 by omega)⟩, ⟨x27, c123, (show 1 ≤ x27.toInt by omega), (show x27.toInt ≤ 12 by omega)⟩, c124⟩))⟩ hw dX12_wayFrom_104
              · have c71 : a4.toInt < x70.toInt := wk_leF c71
                refine lv_goto (tgt := 105) hx hb dX12_wayFrom_68 (by decide) ?_
                exact J105 x27 H locs ls w52 (show 0 ≤ a1.toInt by omega) (show a1.toInt ≤ 12 by omega) (show 0 ≤ a2.toInt by omega) (show a2.toInt ≤ 9 by omega) (show 0 ≤ a3.toInt by omega) (show a3.toInt ≤ 100000208 by omega) (show 0 ≤ a4.toInt by omega) (show a4.toInt ≤ 100000100 by omega) (show 0 ≤ v3_5.toInt by omega) (show v3_5.toInt ≤ 11 by omega) (show 1 ≤ x27.toInt by omega) (show x27.toInt ≤ 12 by omega)  hw hT hF c55 (lv_sub hl [0, 1, 2, 3, 4, 5] rfl)
          · refine tk_puti hC hK hw hT hinX12 tyX12_ok nmX12 kM_at0 (by decide) rfl rfl 37 (by decide) (List.mem_of_getElem? (i := 2) rfl) rfl rfl rfl rfl (show 0 ≤ r42.toInt by omega) (show r42.toInt ≤ 100000200 by omega) dX12_wayFrom_38 (fun H locs w128 hw hT k130 c129 => ?_)
            have hF := hF.put kM_at0 (k := 37) (by decide) k130
            have c131 := k130.gi (Or.inr (by decide)) c28
            have c132 := k130.gi (Or.inl (tk_ne kM_at12 kM_at0 (by decide))) c36
            refine lv_aload_n hx hb dX12_wayFrom_41 rfl (lv_at hl 0 rfl) ?_
            refine tk_geti hC hK hw hT hinX12 kM_at0 (by decide) rfl 37 (by decide) (List.mem_of_getElem? (i := 2) rfl) rfl rfl dX12_wayFrom_42 (fun x133 c134 rx133 tx133 => ?_)
            refine wk_top r42 (c134.symm.trans c129) ?_
            refine lv_ldcw (v := 100000000) hx hb hC.2.2.2.1 (hC.2.2.2.2 _ (List.mem_of_getElem? (i := 3) rfl)) dX12_wayFrom_45 ?_
            refine lv_icmp_eq (tgt := 105) hx hb dX12_wayFrom_48 (by decide) (fun c135 => ?_) (fun c135 => ?_)
            · have c135 : r42.toInt = (100000000 : Int) := wk_eq.mp c135
              exact J105 x27 H locs ls w128 (show 0 ≤ a1.toInt by omega) (show a1.toInt ≤ 12 by omega) (show 0 ≤ a2.toInt by omega) (show a2.toInt ≤ 9 by omega) (show 0 ≤ a3.toInt by omega) (show a3.toInt ≤ 100000208 by omega) (show 0 ≤ a4.toInt by omega) (show a4.toInt ≤ 100000100 by omega) (show 0 ≤ v3_5.toInt by omega) (show v3_5.toInt ≤ 11 by omega) (show 1 ≤ x27.toInt by omega) (show x27.toInt ≤ 12 by omega)  hw hT hF c131 (lv_sub hl [0, 1, 2, 3, 4, 5] rfl)
            · have c135 : ¬ r42.toInt = (100000000 : Int) := wk_eqF c135
              refine lv_aload_n hx hb dX12_wayFrom_51 rfl (lv_at hl 0 rfl) ?_
              refine tk_geti hC hK hw hT hinX12 kM_at0 (by decide) rfl 37 (by decide) (List.mem_of_getElem? (i := 2) rfl) rfl rfl dX12_wayFrom_52 (fun x136 c137 rx136 tx136 => ?_)
              refine wk_top r42 (c137.symm.trans c129) ?_
              refine lv_aload_n hx hb dX12_wayFrom_55 rfl (lv_at hl 0 rfl) ?_
              refine lv_iload hx hb dX12_wayFrom_56 (lv_at hl 5 rfl) ?_
              refine lv_iconst (v := 2) hx hb dX12_wayFrom_58 (by decide) ?_
              refine tk_Vi hC hK hw hT hA hE hSR kM_at0 (by decide) rfl (k_X12_streetOf_6 l adK adV dC dI cy ad B (by omega) (by omega) qr s1   v3_5 (show 0 ≤ v3_5.toInt by omega) (show v3_5.toInt ≤ 11 by omega) w128 H.size hT ) (cwV 2 hC.2.2.2.2 gX12_wayFrom_X12_streetOf rfl rfl rfl (by decide +kernel) ⟨Nat.le_of_ble_eq_true rfl, Nat.le_of_ble_eq_true rfl⟩) rfl hl.1 rfl (Nat.le_of_ble_eq_true rfl) dX12_wayFrom_59 (fun r138 w140 H locs hp139 hw => ?_)
              obtain ⟨rfl, hg145⟩ := hp139
              obtain ⟨g142, g143, c144⟩ := hg145
              refine lv_iadd hx hb dX12_wayFrom_62 ?_
              refine lv_topi (fun x146 ex146 => ?_)
              have ex146 : x146.toInt = r42.toInt + r138.toInt := by rw [ex146]; exact wk_add (show (-2147483648) ≤ r42.toInt + r138.toInt by omega) (show r42.toInt + r138.toInt ≤ 2147483647 by omega)
              refine lv_iload hx hb dX12_wayFrom_63 (lv_at hl 4 rfl) ?_
              refine lv_icmp_le (tgt := 71) hx hb dX12_wayFrom_65 (by decide) (fun c147 => ?_) (fun c147 => ?_)
              · have c147 : x146.toInt ≤ a4.toInt := wk_le.mp c147
                refine lv_aload_n hx hb dX12_wayFrom_71 rfl (lv_at hl 0 rfl) ?_
                refine lv_aload_n hx hb dX12_wayFrom_72 rfl (lv_at hl 0 rfl) ?_
                refine lv_iload hx hb dX12_wayFrom_73 (lv_at hl 5 rfl) ?_
                refine lv_iload_n hx hb dX12_wayFrom_75 rfl (lv_at hl 1 rfl) ?_
                refine tk_Vi hC hK hw hT hA hE hSR kM_at0 (by decide) rfl (k_X12_otherOf_1 l adK adV dC dI cy ad B (by omega) (by omega) qr s1   v3_5 (show 0 ≤ v3_5.toInt by omega) (show v3_5.toInt ≤ 11 by omega) a1 (show 0 ≤ a1.toInt by omega) (show a1.toInt ≤ 9 by omega) w128 H.size hT ) (cwV 2 hC.2.2.2.2 gX12_wayFrom_X12_otherOf rfl rfl rfl (by decide +kernel) ⟨Nat.le_of_ble_eq_true rfl, Nat.le_of_ble_eq_true rfl⟩) rfl hl.1 rfl (Nat.le_of_ble_eq_true rfl) dX12_wayFrom_76 (fun r148 w150 H locs hp149 hw => ?_)
                obtain ⟨rfl, hg157⟩ := hp149
                rcases hg157 with ⟨g152, g153⟩ | ⟨g154, g155, c156⟩
                · refine lv_iload_n hx hb dX12_wayFrom_79 rfl (lv_at hl 2 rfl) ?_
                  refine lv_aload_n hx hb dX12_wayFrom_80 rfl (lv_at hl 0 rfl) ?_
                  refine tk_geti hC hK hw hT hinX12 kM_at0 (by decide) rfl 37 (by decide) (List.mem_of_getElem? (i := 2) rfl) rfl rfl dX12_wayFrom_81 (fun x158 c159 rx158 tx158 => ?_)
                  refine wk_top r42 (c159.symm.trans c129) ?_
                  refine lv_aload_n hx hb dX12_wayFrom_84 rfl (lv_at hl 0 rfl) ?_
                  refine lv_iload hx hb dX12_wayFrom_85 (lv_at hl 5 rfl) ?_
                  refine lv_iconst (v := 2) hx hb dX12_wayFrom_87 (by decide) ?_
                  refine tk_Vi hC hK hw hT hA hE hSR kM_at0 (by decide) rfl (k_X12_streetOf_6 l adK adV dC dI cy ad B (by omega) (by omega) qr s1   v3_5 (show 0 ≤ v3_5.toInt by omega) (show v3_5.toInt ≤ 11 by omega) w128 H.size hT ) (cwV 2 hC.2.2.2.2 gX12_wayFrom_X12_streetOf rfl rfl rfl (by decide +kernel) ⟨Nat.le_of_ble_eq_true rfl, Nat.le_of_ble_eq_true rfl⟩) rfl hl.1 rfl (Nat.le_of_ble_eq_true rfl) dX12_wayFrom_88 (fun r160 w162 H locs hp161 hw => ?_)
                  obtain ⟨rfl, hg167⟩ := hp161
                  obtain ⟨g164, g165, c166⟩ := hg167
                  obtain rfl : r138 = r160 := c144.symm.trans c166
                  refine lv_iadd hx hb dX12_wayFrom_91 ?_
                  refine lv_topi (fun x168 ex168 => ?_)
                  have ex168 : x168.toInt = r42.toInt + r138.toInt := by rw [ex168]; exact wk_add (show (-2147483648) ≤ r42.toInt + r138.toInt by omega) (show r42.toInt + r138.toInt ≤ 2147483647 by omega)
                  refine lv_iload hx hb dX12_wayFrom_92 (lv_at hl 4 rfl) ?_
                  refine tk_Vi hC hK hw hT hA hE hSR kM_at0 (by decide) rfl (k_X12_reaches_2 l adK adV dC dI cy ad B (by omega) (by omega) qr s1   r148 (show 0 ≤ r148.toInt by omega) (show r148.toInt ≤ 9 by omega) a2 (show 0 ≤ a2.toInt by omega) (show a2.toInt ≤ 9 by omega) x168 (show 0 ≤ x168.toInt by omega) (show x168.toInt ≤ 100000100 by omega) a4 (show 0 ≤ a4.toInt by omega) (show a4.toInt ≤ 100000100 by omega) w128 H.size hT ) (cwV 4 hC.2.2.2.2 gX12_wayFrom_X12_reaches rfl rfl rfl (by decide +kernel) ⟨Nat.le_of_ble_eq_true rfl, Nat.le_of_ble_eq_true rfl⟩) rfl hl.1 rfl (Nat.le_of_ble_eq_true rfl) dX12_wayFrom_94 (fun r169 w171 H locs hp170 hw => ?_)
                  obtain ⟨hT, k172, hg175⟩ := hp170
                  have hF := hF.tr k172 (by decide)
                  have c176 := k172.gi kM_at12 (by decide) c131
                  have c177 := k172.gi kM_at12 rfl c132
                  have c178 := k172.gi kM_at0 (by decide) c129
                  have c179 := k172.gi kM_at12 rfl c144
                  obtain ⟨g173, g174⟩ := hg175
                  refine lv_iload hx hb dX12_wayFrom_97 (lv_at hl 4 rfl) ?_
                  refine lv_icmp_ne (tgt := 105) hx hb dX12_wayFrom_99 (by decide) (fun c180 => ?_) (fun c180 => ?_)
                  · have c180 : ¬ r169.toInt = a4.toInt := wk_eqF c180
                    exact J105 x27 H locs ls w171 (show 0 ≤ a1.toInt by omega) (show a1.toInt ≤ 12 by omega) (show 0 ≤ a2.toInt by omega) (show a2.toInt ≤ 9 by omega) (show 0 ≤ a3.toInt by omega) (show a3.toInt ≤ 100000208 by omega) (show 0 ≤ a4.toInt by omega) (show a4.toInt ≤ 100000100 by omega) (show 0 ≤ v3_5.toInt by omega) (show v3_5.toInt ≤ 11 by omega) (show 1 ≤ x27.toInt by omega) (show x27.toInt ≤ 12 by omega)  hw hT hF c176 (lv_sub hl [0, 1, 2, 3, 4, 5] rfl)
                  · have c180 : r169.toInt = a4.toInt := wk_eq.mp c180
                    refine lv_iload hx hb dX12_wayFrom_102 (lv_at hl 5 rfl) ?_
                    exact tk_iret hC hr hlocks hK ⟨hT, hF, (Or.inr (Or.inl ⟨(show 0 ≤ v3_5.toInt by omega), (show v3_5.toInt ≤ 11 by omega), (show a1.toInt ≤ 9 by omega), ⟨r42, c178, (show 0 ≤ r42.toInt by omega), (show r42.toInt ≤ 100000100 by omega)⟩, ⟨x27, c176, (show 1 ≤ x27.toInt by omega), (show x27.toInt ≤ 12 by omega)⟩, c177⟩))⟩ hw dX12_wayFrom_104
                · refine lv_iload_n hx hb dX12_wayFrom_79 rfl (lv_at hl 2 rfl) ?_
                  refine lv_aload_n hx hb dX12_wayFrom_80 rfl (lv_at hl 0 rfl) ?_
                  refine tk_geti hC hK hw hT hinX12 kM_at0 (by decide) rfl 37 (by decide) (List.mem_of_getElem? (i := 2) rfl) rfl rfl dX12_wayFrom_81 (fun x181 c182 rx181 tx181 => ?_)
                  refine wk_top r42 (c182.symm.trans c129) ?_
                  refine lv_aload_n hx hb dX12_wayFrom_84 rfl (lv_at hl 0 rfl) ?_
                  refine lv_iload hx hb dX12_wayFrom_85 (lv_at hl 5 rfl) ?_
                  refine lv_iconst (v := 2) hx hb dX12_wayFrom_87 (by decide) ?_
                  refine tk_Vi hC hK hw hT hA hE hSR kM_at0 (by decide) rfl (k_X12_streetOf_6 l adK adV dC dI cy ad B (by omega) (by omega) qr s1   v3_5 (show 0 ≤ v3_5.toInt by omega) (show v3_5.toInt ≤ 11 by omega) w128 H.size hT ) (cwV 2 hC.2.2.2.2 gX12_wayFrom_X12_streetOf rfl rfl rfl (by decide +kernel) ⟨Nat.le_of_ble_eq_true rfl, Nat.le_of_ble_eq_true rfl⟩) rfl hl.1 rfl (Nat.le_of_ble_eq_true rfl) dX12_wayFrom_88 (fun r183 w185 H locs hp184 hw => ?_)
                  obtain ⟨rfl, hg190⟩ := hp184
                  obtain ⟨g187, g188, c189⟩ := hg190
                  obtain rfl : r138 = r183 := c144.symm.trans c189
                  refine lv_iadd hx hb dX12_wayFrom_91 ?_
                  refine lv_topi (fun x191 ex191 => ?_)
                  have ex191 : x191.toInt = r42.toInt + r138.toInt := by rw [ex191]; exact wk_add (show (-2147483648) ≤ r42.toInt + r138.toInt by omega) (show r42.toInt + r138.toInt ≤ 2147483647 by omega)
                  refine lv_iload hx hb dX12_wayFrom_92 (lv_at hl 4 rfl) ?_
                  refine tk_Vi hC hK hw hT hA hE hSR kM_at0 (by decide) rfl (k_X12_reaches_2 l adK adV dC dI cy ad B (by omega) (by omega) qr s1   r148 (show 0 ≤ r148.toInt by omega) (show r148.toInt ≤ 9 by omega) a2 (show 0 ≤ a2.toInt by omega) (show a2.toInt ≤ 9 by omega) x191 (show 0 ≤ x191.toInt by omega) (show x191.toInt ≤ 100000100 by omega) a4 (show 0 ≤ a4.toInt by omega) (show a4.toInt ≤ 100000100 by omega) w128 H.size hT ) (cwV 4 hC.2.2.2.2 gX12_wayFrom_X12_reaches rfl rfl rfl (by decide +kernel) ⟨Nat.le_of_ble_eq_true rfl, Nat.le_of_ble_eq_true rfl⟩) rfl hl.1 rfl (Nat.le_of_ble_eq_true rfl) dX12_wayFrom_94 (fun r192 w194 H locs hp193 hw => ?_)
                  obtain ⟨hT, k195, hg198⟩ := hp193
                  have hF := hF.tr k195 (by decide)
                  have c199 := k195.gi kM_at12 (by decide) c131
                  have c200 := k195.gi kM_at12 rfl c132
                  have c201 := k195.gi kM_at0 (by decide) c129
                  have c202 := k195.gi kM_at12 rfl c144
                  obtain ⟨g196, g197⟩ := hg198
                  refine lv_iload hx hb dX12_wayFrom_97 (lv_at hl 4 rfl) ?_
                  refine lv_icmp_ne (tgt := 105) hx hb dX12_wayFrom_99 (by decide) (fun c203 => ?_) (fun c203 => ?_)
                  · have c203 : ¬ r192.toInt = a4.toInt := wk_eqF c203
                    exact J105 x27 H locs ls w194 (show 0 ≤ a1.toInt by omega) (show a1.toInt ≤ 12 by omega) (show 0 ≤ a2.toInt by omega) (show a2.toInt ≤ 9 by omega) (show 0 ≤ a3.toInt by omega) (show a3.toInt ≤ 100000208 by omega) (show 0 ≤ a4.toInt by omega) (show a4.toInt ≤ 100000100 by omega) (show 0 ≤ v3_5.toInt by omega) (show v3_5.toInt ≤ 11 by omega) (show 1 ≤ x27.toInt by omega) (show x27.toInt ≤ 12 by omega)  hw hT hF c199 (lv_sub hl [0, 1, 2, 3, 4, 5] rfl)
                  · have c203 : r192.toInt = a4.toInt := wk_eq.mp c203
                    refine lv_iload hx hb dX12_wayFrom_102 (lv_at hl 5 rfl) ?_
                    exact tk_iret hC hr hlocks hK ⟨hT, hF, (Or.inr (Or.inl ⟨(show 0 ≤ v3_5.toInt by omega), (show v3_5.toInt ≤ 11 by omega), (show a1.toInt ≤ 9 by omega), ⟨r42, c201, (show 0 ≤ r42.toInt by omega), (show r42.toInt ≤ 100000100 by omega)⟩, ⟨x27, c199, (show 1 ≤ x27.toInt by omega), (show x27.toInt ≤ 12 by omega)⟩, c200⟩))⟩ hw dX12_wayFrom_104
              · have c147 : a4.toInt < x146.toInt := wk_leF c147
                refine lv_goto (tgt := 105) hx hb dX12_wayFrom_68 (by decide) ?_
                exact J105 x27 H locs ls w128 (show 0 ≤ a1.toInt by omega) (show a1.toInt ≤ 12 by omega) (show 0 ≤ a2.toInt by omega) (show a2.toInt ≤ 9 by omega) (show 0 ≤ a3.toInt by omega) (show a3.toInt ≤ 100000208 by omega) (show 0 ≤ a4.toInt by omega) (show a4.toInt ≤ 100000100 by omega) (show 0 ≤ v3_5.toInt by omega) (show v3_5.toInt ≤ 11 by omega) (show 1 ≤ x27.toInt by omega) (show x27.toInt ≤ 12 by omega)  hw hT hF c131 (lv_sub hl [0, 1, 2, 3, 4, 5] rfl)
        · refine lv_if_ne (tgt := 27) hx hb dX12_wayFrom_21 (by decide) (fun _ => ?_) (fun c => absurd c (by decide))
          refine lv_aload_n hx hb dX12_wayFrom_27 rfl (lv_at hl 0 rfl) ?_
          refine lv_aload_n hx hb dX12_wayFrom_28 rfl (lv_at hl 0 rfl) ?_
          refine lv_iload hx hb dX12_wayFrom_29 (lv_at hl 5 rfl) ?_
          refine lv_iload_n hx hb dX12_wayFrom_31 rfl (lv_at hl 1 rfl) ?_
          refine lv_iload_n hx hb dX12_wayFrom_32 rfl (lv_at hl 3 rfl) ?_
          refine lv_iload hx hb dX12_wayFrom_33 (lv_at hl 4 rfl) ?_
          refine tk_Vi hC hK hw hT hA hE hSR kM_at0 (by decide) rfl (k_X12_firstOpen_2 l adK adV dC dI cy ad B (by omega) (by omega) qr s1   v3_5 (show 0 ≤ v3_5.toInt by omega) (show v3_5.toInt ≤ 11 by omega) a1 (show 0 ≤ a1.toInt by omega) (show a1.toInt ≤ 9 by omega) a3 (show 0 ≤ a3.toInt by omega) (show a3.toInt ≤ 100000208 by omega) a4 (show 0 ≤ a4.toInt by omega) (show a4.toInt ≤ 100000100 by omega) w1 H.size hT ) (cwV 4 hC.2.2.2.2 gX12_wayFrom_X12_firstOpen rfl rfl rfl (by decide +kernel) ⟨Nat.le_of_ble_eq_true rfl, Nat.le_of_ble_eq_true rfl⟩) rfl hl.1 rfl (Nat.le_of_ble_eq_true rfl) dX12_wayFrom_35 (fun r204 w206 H locs hp205 hw => ?_)
          obtain ⟨rfl, hg213⟩ := hp205
          rcases hg213 with ⟨g208, g209⟩ | ⟨g210, g211, c212⟩
          · refine tk_puti hC hK hw hT hinX12 tyX12_ok nmX12 kM_at0 (by decide) rfl rfl 37 (by decide) (List.mem_of_getElem? (i := 2) rfl) rfl rfl rfl rfl (show 0 ≤ r204.toInt by omega) (show r204.toInt ≤ 100000200 by omega) dX12_wayFrom_38 (fun H locs w214 hw hT k216 c215 => ?_)
            have hF := hF.put kM_at0 (k := 37) (by decide) k216
            have c217 := k216.gi (Or.inr (by decide)) c28
            have c218 := k216.gi (Or.inl (tk_ne kM_at12 kM_at0 (by decide))) c39
            refine lv_aload_n hx hb dX12_wayFrom_41 rfl (lv_at hl 0 rfl) ?_
            refine tk_geti hC hK hw hT hinX12 kM_at0 (by decide) rfl 37 (by decide) (List.mem_of_getElem? (i := 2) rfl) rfl rfl dX12_wayFrom_42 (fun x219 c220 rx219 tx219 => ?_)
            refine wk_top r204 (c220.symm.trans c215) ?_
            refine lv_ldcw (v := 100000000) hx hb hC.2.2.2.1 (hC.2.2.2.2 _ (List.mem_of_getElem? (i := 3) rfl)) dX12_wayFrom_45 ?_
            refine lv_icmp_eq (tgt := 105) hx hb dX12_wayFrom_48 (by decide) (fun c221 => ?_) (fun c221 => ?_)
            · have c221 : r204.toInt = (100000000 : Int) := wk_eq.mp c221
              exact J105 x27 H locs ls w214 (show 0 ≤ a1.toInt by omega) (show a1.toInt ≤ 12 by omega) (show 0 ≤ a2.toInt by omega) (show a2.toInt ≤ 9 by omega) (show 0 ≤ a3.toInt by omega) (show a3.toInt ≤ 100000208 by omega) (show 0 ≤ a4.toInt by omega) (show a4.toInt ≤ 100000100 by omega) (show 0 ≤ v3_5.toInt by omega) (show v3_5.toInt ≤ 11 by omega) (show 1 ≤ x27.toInt by omega) (show x27.toInt ≤ 12 by omega)  hw hT hF c217 (lv_sub hl [0, 1, 2, 3, 4, 5] rfl)
            · have c221 : ¬ r204.toInt = (100000000 : Int) := wk_eqF c221
              refine lv_aload_n hx hb dX12_wayFrom_51 rfl (lv_at hl 0 rfl) ?_
              refine tk_geti hC hK hw hT hinX12 kM_at0 (by decide) rfl 37 (by decide) (List.mem_of_getElem? (i := 2) rfl) rfl rfl dX12_wayFrom_52 (fun x222 c223 rx222 tx222 => ?_)
              refine wk_top r204 (c223.symm.trans c215) ?_
              refine lv_aload_n hx hb dX12_wayFrom_55 rfl (lv_at hl 0 rfl) ?_
              refine lv_iload hx hb dX12_wayFrom_56 (lv_at hl 5 rfl) ?_
              refine lv_iconst (v := 2) hx hb dX12_wayFrom_58 (by decide) ?_
              refine tk_Vi hC hK hw hT hA hE hSR kM_at0 (by decide) rfl (k_X12_streetOf_6 l adK adV dC dI cy ad B (by omega) (by omega) qr s1   v3_5 (show 0 ≤ v3_5.toInt by omega) (show v3_5.toInt ≤ 11 by omega) w214 H.size hT ) (cwV 2 hC.2.2.2.2 gX12_wayFrom_X12_streetOf rfl rfl rfl (by decide +kernel) ⟨Nat.le_of_ble_eq_true rfl, Nat.le_of_ble_eq_true rfl⟩) rfl hl.1 rfl (Nat.le_of_ble_eq_true rfl) dX12_wayFrom_59 (fun r224 w226 H locs hp225 hw => ?_)
              obtain ⟨rfl, hg231⟩ := hp225
              obtain ⟨g228, g229, c230⟩ := hg231
              refine lv_iadd hx hb dX12_wayFrom_62 ?_
              refine lv_topi (fun x232 ex232 => ?_)
              have ex232 : x232.toInt = r204.toInt + r224.toInt := by rw [ex232]; exact wk_add (show (-2147483648) ≤ r204.toInt + r224.toInt by omega) (show r204.toInt + r224.toInt ≤ 2147483647 by omega)
              refine lv_iload hx hb dX12_wayFrom_63 (lv_at hl 4 rfl) ?_
              refine lv_icmp_le (tgt := 71) hx hb dX12_wayFrom_65 (by decide) (fun c233 => ?_) (fun c233 => ?_)
              · have c233 : x232.toInt ≤ a4.toInt := wk_le.mp c233
                refine lv_aload_n hx hb dX12_wayFrom_71 rfl (lv_at hl 0 rfl) ?_
                refine lv_aload_n hx hb dX12_wayFrom_72 rfl (lv_at hl 0 rfl) ?_
                refine lv_iload hx hb dX12_wayFrom_73 (lv_at hl 5 rfl) ?_
                refine lv_iload_n hx hb dX12_wayFrom_75 rfl (lv_at hl 1 rfl) ?_
                refine tk_Vi hC hK hw hT hA hE hSR kM_at0 (by decide) rfl (k_X12_otherOf_1 l adK adV dC dI cy ad B (by omega) (by omega) qr s1   v3_5 (show 0 ≤ v3_5.toInt by omega) (show v3_5.toInt ≤ 11 by omega) a1 (show 0 ≤ a1.toInt by omega) (show a1.toInt ≤ 9 by omega) w214 H.size hT ) (cwV 2 hC.2.2.2.2 gX12_wayFrom_X12_otherOf rfl rfl rfl (by decide +kernel) ⟨Nat.le_of_ble_eq_true rfl, Nat.le_of_ble_eq_true rfl⟩) rfl hl.1 rfl (Nat.le_of_ble_eq_true rfl) dX12_wayFrom_76 (fun r234 w236 H locs hp235 hw => ?_)
                obtain ⟨rfl, hg243⟩ := hp235
                rcases hg243 with ⟨g238, g239⟩ | ⟨g240, g241, c242⟩
                · refine lv_iload_n hx hb dX12_wayFrom_79 rfl (lv_at hl 2 rfl) ?_
                  refine lv_aload_n hx hb dX12_wayFrom_80 rfl (lv_at hl 0 rfl) ?_
                  refine tk_geti hC hK hw hT hinX12 kM_at0 (by decide) rfl 37 (by decide) (List.mem_of_getElem? (i := 2) rfl) rfl rfl dX12_wayFrom_81 (fun x244 c245 rx244 tx244 => ?_)
                  refine wk_top r204 (c245.symm.trans c215) ?_
                  refine lv_aload_n hx hb dX12_wayFrom_84 rfl (lv_at hl 0 rfl) ?_
                  refine lv_iload hx hb dX12_wayFrom_85 (lv_at hl 5 rfl) ?_
                  refine lv_iconst (v := 2) hx hb dX12_wayFrom_87 (by decide) ?_
                  refine tk_Vi hC hK hw hT hA hE hSR kM_at0 (by decide) rfl (k_X12_streetOf_6 l adK adV dC dI cy ad B (by omega) (by omega) qr s1   v3_5 (show 0 ≤ v3_5.toInt by omega) (show v3_5.toInt ≤ 11 by omega) w214 H.size hT ) (cwV 2 hC.2.2.2.2 gX12_wayFrom_X12_streetOf rfl rfl rfl (by decide +kernel) ⟨Nat.le_of_ble_eq_true rfl, Nat.le_of_ble_eq_true rfl⟩) rfl hl.1 rfl (Nat.le_of_ble_eq_true rfl) dX12_wayFrom_88 (fun r246 w248 H locs hp247 hw => ?_)
                  obtain ⟨rfl, hg253⟩ := hp247
                  obtain ⟨g250, g251, c252⟩ := hg253
                  obtain rfl : r224 = r246 := c230.symm.trans c252
                  refine lv_iadd hx hb dX12_wayFrom_91 ?_
                  refine lv_topi (fun x254 ex254 => ?_)
                  have ex254 : x254.toInt = r204.toInt + r224.toInt := by rw [ex254]; exact wk_add (show (-2147483648) ≤ r204.toInt + r224.toInt by omega) (show r204.toInt + r224.toInt ≤ 2147483647 by omega)
                  refine lv_iload hx hb dX12_wayFrom_92 (lv_at hl 4 rfl) ?_
                  refine tk_Vi hC hK hw hT hA hE hSR kM_at0 (by decide) rfl (k_X12_reaches_2 l adK adV dC dI cy ad B (by omega) (by omega) qr s1   r234 (show 0 ≤ r234.toInt by omega) (show r234.toInt ≤ 9 by omega) a2 (show 0 ≤ a2.toInt by omega) (show a2.toInt ≤ 9 by omega) x254 (show 0 ≤ x254.toInt by omega) (show x254.toInt ≤ 100000100 by omega) a4 (show 0 ≤ a4.toInt by omega) (show a4.toInt ≤ 100000100 by omega) w214 H.size hT ) (cwV 4 hC.2.2.2.2 gX12_wayFrom_X12_reaches rfl rfl rfl (by decide +kernel) ⟨Nat.le_of_ble_eq_true rfl, Nat.le_of_ble_eq_true rfl⟩) rfl hl.1 rfl (Nat.le_of_ble_eq_true rfl) dX12_wayFrom_94 (fun r255 w257 H locs hp256 hw => ?_)
                  obtain ⟨hT, k258, hg261⟩ := hp256
                  have hF := hF.tr k258 (by decide)
                  have c262 := k258.gi kM_at12 (by decide) c217
                  have c263 := k258.gi kM_at12 rfl c218
                  have c264 := k258.gi kM_at0 (by decide) c215
                  have c265 := k258.gi kM_at12 rfl c230
                  obtain ⟨g259, g260⟩ := hg261
                  refine lv_iload hx hb dX12_wayFrom_97 (lv_at hl 4 rfl) ?_
                  refine lv_icmp_ne (tgt := 105) hx hb dX12_wayFrom_99 (by decide) (fun c266 => ?_) (fun c266 => ?_)
                  · have c266 : ¬ r255.toInt = a4.toInt := wk_eqF c266
                    exact J105 x27 H locs ls w257 (show 0 ≤ a1.toInt by omega) (show a1.toInt ≤ 12 by omega) (show 0 ≤ a2.toInt by omega) (show a2.toInt ≤ 9 by omega) (show 0 ≤ a3.toInt by omega) (show a3.toInt ≤ 100000208 by omega) (show 0 ≤ a4.toInt by omega) (show a4.toInt ≤ 100000100 by omega) (show 0 ≤ v3_5.toInt by omega) (show v3_5.toInt ≤ 11 by omega) (show 1 ≤ x27.toInt by omega) (show x27.toInt ≤ 12 by omega)  hw hT hF c262 (lv_sub hl [0, 1, 2, 3, 4, 5] rfl)
                  · have c266 : r255.toInt = a4.toInt := wk_eq.mp c266
                    refine lv_iload hx hb dX12_wayFrom_102 (lv_at hl 5 rfl) ?_
                    exact tk_iret hC hr hlocks hK ⟨hT, hF, (Or.inr (Or.inr (Or.inl ⟨(show 0 ≤ v3_5.toInt by omega), (show v3_5.toInt ≤ 11 by omega), (show a1.toInt ≤ 9 by omega), ⟨r204, c264, (show 0 ≤ r204.toInt by omega), (show r204.toInt ≤ 100000100 by omega)⟩, ⟨x27, c262, (show 1 ≤ x27.toInt by omega), (show x27.toInt ≤ 12 by omega)⟩, c263⟩)))⟩ hw dX12_wayFrom_104
                · refine lv_iload_n hx hb dX12_wayFrom_79 rfl (lv_at hl 2 rfl) ?_
                  refine lv_aload_n hx hb dX12_wayFrom_80 rfl (lv_at hl 0 rfl) ?_
                  refine tk_geti hC hK hw hT hinX12 kM_at0 (by decide) rfl 37 (by decide) (List.mem_of_getElem? (i := 2) rfl) rfl rfl dX12_wayFrom_81 (fun x267 c268 rx267 tx267 => ?_)
                  refine wk_top r204 (c268.symm.trans c215) ?_
                  refine lv_aload_n hx hb dX12_wayFrom_84 rfl (lv_at hl 0 rfl) ?_
                  refine lv_iload hx hb dX12_wayFrom_85 (lv_at hl 5 rfl) ?_
                  refine lv_iconst (v := 2) hx hb dX12_wayFrom_87 (by decide) ?_
                  refine tk_Vi hC hK hw hT hA hE hSR kM_at0 (by decide) rfl (k_X12_streetOf_6 l adK adV dC dI cy ad B (by omega) (by omega) qr s1   v3_5 (show 0 ≤ v3_5.toInt by omega) (show v3_5.toInt ≤ 11 by omega) w214 H.size hT ) (cwV 2 hC.2.2.2.2 gX12_wayFrom_X12_streetOf rfl rfl rfl (by decide +kernel) ⟨Nat.le_of_ble_eq_true rfl, Nat.le_of_ble_eq_true rfl⟩) rfl hl.1 rfl (Nat.le_of_ble_eq_true rfl) dX12_wayFrom_88 (fun r269 w271 H locs hp270 hw => ?_)
                  obtain ⟨rfl, hg276⟩ := hp270
                  obtain ⟨g273, g274, c275⟩ := hg276
                  obtain rfl : r224 = r269 := c230.symm.trans c275
                  refine lv_iadd hx hb dX12_wayFrom_91 ?_
                  refine lv_topi (fun x277 ex277 => ?_)
                  have ex277 : x277.toInt = r204.toInt + r224.toInt := by rw [ex277]; exact wk_add (show (-2147483648) ≤ r204.toInt + r224.toInt by omega) (show r204.toInt + r224.toInt ≤ 2147483647 by omega)
                  refine lv_iload hx hb dX12_wayFrom_92 (lv_at hl 4 rfl) ?_
                  refine tk_Vi hC hK hw hT hA hE hSR kM_at0 (by decide) rfl (k_X12_reaches_2 l adK adV dC dI cy ad B (by omega) (by omega) qr s1   r234 (show 0 ≤ r234.toInt by omega) (show r234.toInt ≤ 9 by omega) a2 (show 0 ≤ a2.toInt by omega) (show a2.toInt ≤ 9 by omega) x277 (show 0 ≤ x277.toInt by omega) (show x277.toInt ≤ 100000100 by omega) a4 (show 0 ≤ a4.toInt by omega) (show a4.toInt ≤ 100000100 by omega) w214 H.size hT ) (cwV 4 hC.2.2.2.2 gX12_wayFrom_X12_reaches rfl rfl rfl (by decide +kernel) ⟨Nat.le_of_ble_eq_true rfl, Nat.le_of_ble_eq_true rfl⟩) rfl hl.1 rfl (Nat.le_of_ble_eq_true rfl) dX12_wayFrom_94 (fun r278 w280 H locs hp279 hw => ?_)
                  obtain ⟨hT, k281, hg284⟩ := hp279
                  have hF := hF.tr k281 (by decide)
                  have c285 := k281.gi kM_at12 (by decide) c217
                  have c286 := k281.gi kM_at12 rfl c218
                  have c287 := k281.gi kM_at0 (by decide) c215
                  have c288 := k281.gi kM_at12 rfl c230
                  have c289 := k281.gi kM_at12 rfl c242
                  obtain ⟨g282, g283⟩ := hg284
                  refine lv_iload hx hb dX12_wayFrom_97 (lv_at hl 4 rfl) ?_
                  refine lv_icmp_ne (tgt := 105) hx hb dX12_wayFrom_99 (by decide) (fun c290 => ?_) (fun c290 => ?_)
                  · have c290 : ¬ r278.toInt = a4.toInt := wk_eqF c290
                    exact J105 x27 H locs ls w280 (show 0 ≤ a1.toInt by omega) (show a1.toInt ≤ 12 by omega) (show 0 ≤ a2.toInt by omega) (show a2.toInt ≤ 9 by omega) (show 0 ≤ a3.toInt by omega) (show a3.toInt ≤ 100000208 by omega) (show 0 ≤ a4.toInt by omega) (show a4.toInt ≤ 100000100 by omega) (show 0 ≤ v3_5.toInt by omega) (show v3_5.toInt ≤ 11 by omega) (show 1 ≤ x27.toInt by omega) (show x27.toInt ≤ 12 by omega)  hw hT hF c285 (lv_sub hl [0, 1, 2, 3, 4, 5] rfl)
                  · have c290 : r278.toInt = a4.toInt := wk_eq.mp c290
                    refine lv_iload hx hb dX12_wayFrom_102 (lv_at hl 5 rfl) ?_
                    exact tk_iret hC hr hlocks hK ⟨hT, hF, (Or.inl ⟨(show 0 ≤ v3_5.toInt by omega), (show v3_5.toInt ≤ 11 by omega), (show a1.toInt ≤ 9 by omega), ⟨r204, c287, (show 0 ≤ r204.toInt by omega), (show r204.toInt ≤ 100000100 by omega)⟩, ⟨x27, c285, (show 1 ≤ x27.toInt by omega), (show x27.toInt ≤ 12 by omega)⟩, c289, c286⟩)⟩ hw dX12_wayFrom_104
              · have c233 : a4.toInt < x232.toInt := wk_leF c233
                refine lv_goto (tgt := 105) hx hb dX12_wayFrom_68 (by decide) ?_
                exact J105 x27 H locs ls w214 (show 0 ≤ a1.toInt by omega) (show a1.toInt ≤ 12 by omega) (show 0 ≤ a2.toInt by omega) (show a2.toInt ≤ 9 by omega) (show 0 ≤ a3.toInt by omega) (show a3.toInt ≤ 100000208 by omega) (show 0 ≤ a4.toInt by omega) (show a4.toInt ≤ 100000100 by omega) (show 0 ≤ v3_5.toInt by omega) (show v3_5.toInt ≤ 11 by omega) (show 1 ≤ x27.toInt by omega) (show x27.toInt ≤ 12 by omega)  hw hT hF c217 (lv_sub hl [0, 1, 2, 3, 4, 5] rfl)
          · refine tk_puti hC hK hw hT hinX12 tyX12_ok nmX12 kM_at0 (by decide) rfl rfl 37 (by decide) (List.mem_of_getElem? (i := 2) rfl) rfl rfl rfl rfl (show 0 ≤ r204.toInt by omega) (show r204.toInt ≤ 100000200 by omega) dX12_wayFrom_38 (fun H locs w291 hw hT k293 c292 => ?_)
            have hF := hF.put kM_at0 (k := 37) (by decide) k293
            have c294 := k293.gi (Or.inr (by decide)) c28
            have c295 := k293.gi (Or.inl (tk_ne kM_at12 kM_at0 (by decide))) c39
            have c296 := k293.gi (Or.inl (tk_ne kM_at12 kM_at0 (by decide))) c212
            refine lv_aload_n hx hb dX12_wayFrom_41 rfl (lv_at hl 0 rfl) ?_
            refine tk_geti hC hK hw hT hinX12 kM_at0 (by decide) rfl 37 (by decide) (List.mem_of_getElem? (i := 2) rfl) rfl rfl dX12_wayFrom_42 (fun x297 c298 rx297 tx297 => ?_)
            refine wk_top r204 (c298.symm.trans c292) ?_
            refine lv_ldcw (v := 100000000) hx hb hC.2.2.2.1 (hC.2.2.2.2 _ (List.mem_of_getElem? (i := 3) rfl)) dX12_wayFrom_45 ?_
            refine lv_icmp_eq (tgt := 105) hx hb dX12_wayFrom_48 (by decide) (fun c299 => ?_) (fun c299 => ?_)
            · have c299 : r204.toInt = (100000000 : Int) := wk_eq.mp c299
              exact J105 x27 H locs ls w291 (show 0 ≤ a1.toInt by omega) (show a1.toInt ≤ 12 by omega) (show 0 ≤ a2.toInt by omega) (show a2.toInt ≤ 9 by omega) (show 0 ≤ a3.toInt by omega) (show a3.toInt ≤ 100000208 by omega) (show 0 ≤ a4.toInt by omega) (show a4.toInt ≤ 100000100 by omega) (show 0 ≤ v3_5.toInt by omega) (show v3_5.toInt ≤ 11 by omega) (show 1 ≤ x27.toInt by omega) (show x27.toInt ≤ 12 by omega)  hw hT hF c294 (lv_sub hl [0, 1, 2, 3, 4, 5] rfl)
            · have c299 : ¬ r204.toInt = (100000000 : Int) := wk_eqF c299
              refine lv_aload_n hx hb dX12_wayFrom_51 rfl (lv_at hl 0 rfl) ?_
              refine tk_geti hC hK hw hT hinX12 kM_at0 (by decide) rfl 37 (by decide) (List.mem_of_getElem? (i := 2) rfl) rfl rfl dX12_wayFrom_52 (fun x300 c301 rx300 tx300 => ?_)
              refine wk_top r204 (c301.symm.trans c292) ?_
              refine lv_aload_n hx hb dX12_wayFrom_55 rfl (lv_at hl 0 rfl) ?_
              refine lv_iload hx hb dX12_wayFrom_56 (lv_at hl 5 rfl) ?_
              refine lv_iconst (v := 2) hx hb dX12_wayFrom_58 (by decide) ?_
              refine tk_Vi hC hK hw hT hA hE hSR kM_at0 (by decide) rfl (k_X12_streetOf_6 l adK adV dC dI cy ad B (by omega) (by omega) qr s1   v3_5 (show 0 ≤ v3_5.toInt by omega) (show v3_5.toInt ≤ 11 by omega) w291 H.size hT ) (cwV 2 hC.2.2.2.2 gX12_wayFrom_X12_streetOf rfl rfl rfl (by decide +kernel) ⟨Nat.le_of_ble_eq_true rfl, Nat.le_of_ble_eq_true rfl⟩) rfl hl.1 rfl (Nat.le_of_ble_eq_true rfl) dX12_wayFrom_59 (fun r302 w304 H locs hp303 hw => ?_)
              obtain ⟨rfl, hg309⟩ := hp303
              obtain ⟨g306, g307, c308⟩ := hg309
              refine lv_iadd hx hb dX12_wayFrom_62 ?_
              refine lv_topi (fun x310 ex310 => ?_)
              have ex310 : x310.toInt = r204.toInt + r302.toInt := by rw [ex310]; exact wk_add (show (-2147483648) ≤ r204.toInt + r302.toInt by omega) (show r204.toInt + r302.toInt ≤ 2147483647 by omega)
              refine lv_iload hx hb dX12_wayFrom_63 (lv_at hl 4 rfl) ?_
              refine lv_icmp_le (tgt := 71) hx hb dX12_wayFrom_65 (by decide) (fun c311 => ?_) (fun c311 => ?_)
              · have c311 : x310.toInt ≤ a4.toInt := wk_le.mp c311
                refine lv_aload_n hx hb dX12_wayFrom_71 rfl (lv_at hl 0 rfl) ?_
                refine lv_aload_n hx hb dX12_wayFrom_72 rfl (lv_at hl 0 rfl) ?_
                refine lv_iload hx hb dX12_wayFrom_73 (lv_at hl 5 rfl) ?_
                refine lv_iload_n hx hb dX12_wayFrom_75 rfl (lv_at hl 1 rfl) ?_
                refine tk_Vi hC hK hw hT hA hE hSR kM_at0 (by decide) rfl (k_X12_otherOf_1 l adK adV dC dI cy ad B (by omega) (by omega) qr s1   v3_5 (show 0 ≤ v3_5.toInt by omega) (show v3_5.toInt ≤ 11 by omega) a1 (show 0 ≤ a1.toInt by omega) (show a1.toInt ≤ 9 by omega) w291 H.size hT ) (cwV 2 hC.2.2.2.2 gX12_wayFrom_X12_otherOf rfl rfl rfl (by decide +kernel) ⟨Nat.le_of_ble_eq_true rfl, Nat.le_of_ble_eq_true rfl⟩) rfl hl.1 rfl (Nat.le_of_ble_eq_true rfl) dX12_wayFrom_76 (fun r312 w314 H locs hp313 hw => ?_)
                obtain ⟨rfl, hg321⟩ := hp313
                rcases hg321 with ⟨g316, g317⟩ | ⟨g318, g319, c320⟩
                · refine lv_iload_n hx hb dX12_wayFrom_79 rfl (lv_at hl 2 rfl) ?_
                  refine lv_aload_n hx hb dX12_wayFrom_80 rfl (lv_at hl 0 rfl) ?_
                  refine tk_geti hC hK hw hT hinX12 kM_at0 (by decide) rfl 37 (by decide) (List.mem_of_getElem? (i := 2) rfl) rfl rfl dX12_wayFrom_81 (fun x322 c323 rx322 tx322 => ?_)
                  refine wk_top r204 (c323.symm.trans c292) ?_
                  refine lv_aload_n hx hb dX12_wayFrom_84 rfl (lv_at hl 0 rfl) ?_
                  refine lv_iload hx hb dX12_wayFrom_85 (lv_at hl 5 rfl) ?_
                  refine lv_iconst (v := 2) hx hb dX12_wayFrom_87 (by decide) ?_
                  refine tk_Vi hC hK hw hT hA hE hSR kM_at0 (by decide) rfl (k_X12_streetOf_6 l adK adV dC dI cy ad B (by omega) (by omega) qr s1   v3_5 (show 0 ≤ v3_5.toInt by omega) (show v3_5.toInt ≤ 11 by omega) w291 H.size hT ) (cwV 2 hC.2.2.2.2 gX12_wayFrom_X12_streetOf rfl rfl rfl (by decide +kernel) ⟨Nat.le_of_ble_eq_true rfl, Nat.le_of_ble_eq_true rfl⟩) rfl hl.1 rfl (Nat.le_of_ble_eq_true rfl) dX12_wayFrom_88 (fun r324 w326 H locs hp325 hw => ?_)
                  obtain ⟨rfl, hg331⟩ := hp325
                  obtain ⟨g328, g329, c330⟩ := hg331
                  obtain rfl : r302 = r324 := c308.symm.trans c330
                  refine lv_iadd hx hb dX12_wayFrom_91 ?_
                  refine lv_topi (fun x332 ex332 => ?_)
                  have ex332 : x332.toInt = r204.toInt + r302.toInt := by rw [ex332]; exact wk_add (show (-2147483648) ≤ r204.toInt + r302.toInt by omega) (show r204.toInt + r302.toInt ≤ 2147483647 by omega)
                  refine lv_iload hx hb dX12_wayFrom_92 (lv_at hl 4 rfl) ?_
                  refine tk_Vi hC hK hw hT hA hE hSR kM_at0 (by decide) rfl (k_X12_reaches_2 l adK adV dC dI cy ad B (by omega) (by omega) qr s1   r312 (show 0 ≤ r312.toInt by omega) (show r312.toInt ≤ 9 by omega) a2 (show 0 ≤ a2.toInt by omega) (show a2.toInt ≤ 9 by omega) x332 (show 0 ≤ x332.toInt by omega) (show x332.toInt ≤ 100000100 by omega) a4 (show 0 ≤ a4.toInt by omega) (show a4.toInt ≤ 100000100 by omega) w291 H.size hT ) (cwV 4 hC.2.2.2.2 gX12_wayFrom_X12_reaches rfl rfl rfl (by decide +kernel) ⟨Nat.le_of_ble_eq_true rfl, Nat.le_of_ble_eq_true rfl⟩) rfl hl.1 rfl (Nat.le_of_ble_eq_true rfl) dX12_wayFrom_94 (fun r333 w335 H locs hp334 hw => ?_)
                  obtain ⟨hT, k336, hg339⟩ := hp334
                  have hF := hF.tr k336 (by decide)
                  have c340 := k336.gi kM_at12 (by decide) c294
                  have c341 := k336.gi kM_at12 rfl c295
                  have c342 := k336.gi kM_at12 rfl c296
                  have c343 := k336.gi kM_at0 (by decide) c292
                  have c344 := k336.gi kM_at12 rfl c308
                  obtain ⟨g337, g338⟩ := hg339
                  refine lv_iload hx hb dX12_wayFrom_97 (lv_at hl 4 rfl) ?_
                  refine lv_icmp_ne (tgt := 105) hx hb dX12_wayFrom_99 (by decide) (fun c345 => ?_) (fun c345 => ?_)
                  · have c345 : ¬ r333.toInt = a4.toInt := wk_eqF c345
                    exact J105 x27 H locs ls w335 (show 0 ≤ a1.toInt by omega) (show a1.toInt ≤ 12 by omega) (show 0 ≤ a2.toInt by omega) (show a2.toInt ≤ 9 by omega) (show 0 ≤ a3.toInt by omega) (show a3.toInt ≤ 100000208 by omega) (show 0 ≤ a4.toInt by omega) (show a4.toInt ≤ 100000100 by omega) (show 0 ≤ v3_5.toInt by omega) (show v3_5.toInt ≤ 11 by omega) (show 1 ≤ x27.toInt by omega) (show x27.toInt ≤ 12 by omega)  hw hT hF c340 (lv_sub hl [0, 1, 2, 3, 4, 5] rfl)
                  · have c345 : r333.toInt = a4.toInt := wk_eq.mp c345
                    refine lv_iload hx hb dX12_wayFrom_102 (lv_at hl 5 rfl) ?_
                    exact tk_iret hC hr hlocks hK ⟨hT, hF, (Or.inl ⟨(show 0 ≤ v3_5.toInt by omega), (show v3_5.toInt ≤ 11 by omega), (show a1.toInt ≤ 9 by omega), ⟨r204, c343, (show 0 ≤ r204.toInt by omega), (show r204.toInt ≤ 100000100 by omega)⟩, ⟨x27, c340, (show 1 ≤ x27.toInt by omega), (show x27.toInt ≤ 12 by omega)⟩, c342, c341⟩)⟩ hw dX12_wayFrom_104
                · refine lv_iload_n hx hb dX12_wayFrom_79 rfl (lv_at hl 2 rfl) ?_
                  refine lv_aload_n hx hb dX12_wayFrom_80 rfl (lv_at hl 0 rfl) ?_
                  refine tk_geti hC hK hw hT hinX12 kM_at0 (by decide) rfl 37 (by decide) (List.mem_of_getElem? (i := 2) rfl) rfl rfl dX12_wayFrom_81 (fun x346 c347 rx346 tx346 => ?_)
                  refine wk_top r204 (c347.symm.trans c292) ?_
                  refine lv_aload_n hx hb dX12_wayFrom_84 rfl (lv_at hl 0 rfl) ?_
                  refine lv_iload hx hb dX12_wayFrom_85 (lv_at hl 5 rfl) ?_
                  refine lv_iconst (v := 2) hx hb dX12_wayFrom_87 (by decide) ?_
                  refine tk_Vi hC hK hw hT hA hE hSR kM_at0 (by decide) rfl (k_X12_streetOf_6 l adK adV dC dI cy ad B (by omega) (by omega) qr s1   v3_5 (show 0 ≤ v3_5.toInt by omega) (show v3_5.toInt ≤ 11 by omega) w291 H.size hT ) (cwV 2 hC.2.2.2.2 gX12_wayFrom_X12_streetOf rfl rfl rfl (by decide +kernel) ⟨Nat.le_of_ble_eq_true rfl, Nat.le_of_ble_eq_true rfl⟩) rfl hl.1 rfl (Nat.le_of_ble_eq_true rfl) dX12_wayFrom_88 (fun r348 w350 H locs hp349 hw => ?_)
                  obtain ⟨rfl, hg355⟩ := hp349
                  obtain ⟨g352, g353, c354⟩ := hg355
                  obtain rfl : r302 = r348 := c308.symm.trans c354
                  refine lv_iadd hx hb dX12_wayFrom_91 ?_
                  refine lv_topi (fun x356 ex356 => ?_)
                  have ex356 : x356.toInt = r204.toInt + r302.toInt := by rw [ex356]; exact wk_add (show (-2147483648) ≤ r204.toInt + r302.toInt by omega) (show r204.toInt + r302.toInt ≤ 2147483647 by omega)
                  refine lv_iload hx hb dX12_wayFrom_92 (lv_at hl 4 rfl) ?_
                  refine tk_Vi hC hK hw hT hA hE hSR kM_at0 (by decide) rfl (k_X12_reaches_2 l adK adV dC dI cy ad B (by omega) (by omega) qr s1   r312 (show 0 ≤ r312.toInt by omega) (show r312.toInt ≤ 9 by omega) a2 (show 0 ≤ a2.toInt by omega) (show a2.toInt ≤ 9 by omega) x356 (show 0 ≤ x356.toInt by omega) (show x356.toInt ≤ 100000100 by omega) a4 (show 0 ≤ a4.toInt by omega) (show a4.toInt ≤ 100000100 by omega) w291 H.size hT ) (cwV 4 hC.2.2.2.2 gX12_wayFrom_X12_reaches rfl rfl rfl (by decide +kernel) ⟨Nat.le_of_ble_eq_true rfl, Nat.le_of_ble_eq_true rfl⟩) rfl hl.1 rfl (Nat.le_of_ble_eq_true rfl) dX12_wayFrom_94 (fun r357 w359 H locs hp358 hw => ?_)
                  obtain ⟨hT, k360, hg363⟩ := hp358
                  have hF := hF.tr k360 (by decide)
                  have c364 := k360.gi kM_at12 (by decide) c294
                  have c365 := k360.gi kM_at12 rfl c295
                  have c366 := k360.gi kM_at12 rfl c296
                  have c367 := k360.gi kM_at0 (by decide) c292
                  have c368 := k360.gi kM_at12 rfl c308
                  obtain ⟨g361, g362⟩ := hg363
                  refine lv_iload hx hb dX12_wayFrom_97 (lv_at hl 4 rfl) ?_
                  refine lv_icmp_ne (tgt := 105) hx hb dX12_wayFrom_99 (by decide) (fun c369 => ?_) (fun c369 => ?_)
                  · have c369 : ¬ r357.toInt = a4.toInt := wk_eqF c369
                    exact J105 x27 H locs ls w359 (show 0 ≤ a1.toInt by omega) (show a1.toInt ≤ 12 by omega) (show 0 ≤ a2.toInt by omega) (show a2.toInt ≤ 9 by omega) (show 0 ≤ a3.toInt by omega) (show a3.toInt ≤ 100000208 by omega) (show 0 ≤ a4.toInt by omega) (show a4.toInt ≤ 100000100 by omega) (show 0 ≤ v3_5.toInt by omega) (show v3_5.toInt ≤ 11 by omega) (show 1 ≤ x27.toInt by omega) (show x27.toInt ≤ 12 by omega)  hw hT hF c364 (lv_sub hl [0, 1, 2, 3, 4, 5] rfl)
                  · have c369 : r357.toInt = a4.toInt := wk_eq.mp c369
                    refine lv_iload hx hb dX12_wayFrom_102 (lv_at hl 5 rfl) ?_
                    exact tk_iret hC hr hlocks hK ⟨hT, hF, (Or.inl ⟨(show 0 ≤ v3_5.toInt by omega), (show v3_5.toInt ≤ 11 by omega), (show a1.toInt ≤ 9 by omega), ⟨r204, c367, (show 0 ≤ r204.toInt by omega), (show r204.toInt ≤ 100000100 by omega)⟩, ⟨x27, c364, (show 1 ≤ x27.toInt by omega), (show x27.toInt ≤ 12 by omega)⟩, c366, c365⟩)⟩ hw dX12_wayFrom_104
              · have c311 : a4.toInt < x310.toInt := wk_leF c311
                refine lv_goto (tgt := 105) hx hb dX12_wayFrom_68 (by decide) ?_
                exact J105 x27 H locs ls w291 (show 0 ≤ a1.toInt by omega) (show a1.toInt ≤ 12 by omega) (show 0 ≤ a2.toInt by omega) (show a2.toInt ≤ 9 by omega) (show 0 ≤ a3.toInt by omega) (show a3.toInt ≤ 100000208 by omega) (show 0 ≤ a4.toInt by omega) (show a4.toInt ≤ 100000100 by omega) (show 0 ≤ v3_5.toInt by omega) (show v3_5.toInt ≤ 11 by omega) (show 1 ≤ x27.toInt by omega) (show x27.toInt ≤ 12 by omega)  hw hT hF c294 (lv_sub hl [0, 1, 2, 3, 4, 5] rfl)
  refine lv_iconst (v := 0) hx hb dX12_wayFrom_0 (by decide) ?_
  refine lv_istore (lv' := [(5, .int 0), (0, .ref (ad 0)), (1, .int a1), (2, .int a2), (3, .int a3), (4, .int a4)]) hx hb dX12_wayFrom_1 hl (by decide) rfl (fun ls hl => ?_)
  exact L3 ((12 - (0 : Int)).toNat + 1) 0 s.heap locs ls w0 (show 0 ≤ a1.toInt by omega) (show a1.toInt ≤ 12 by omega) (show 0 ≤ a2.toInt by omega) (show a2.toInt ≤ 9 by omega) (show 0 ≤ a3.toInt by omega) (show a3.toInt ≤ 100000208 by omega) (show 0 ≤ a4.toInt by omega) (show a4.toInt ≤ 100000100 by omega) (by decide) (by decide) (Nat.lt_succ_self _) hw hT hF  (lv_sub hl [1, 2, 3, 4, 5, 0] rfl)
abbrev P_X12_way_1 (ad : Nat → Nat) (cy : Nat → ClassId) (B : Int) (qr : Nat) (s1 : Int) (a1 : Int32) (a2 : Int32) (a3 : Int32) (a4 : Int32) (w0 : va_W) : Int32 → va_W → Prop := fun r u => TW ksM ad cy B qr 12 u ∧ FE ksM [(12, 37, 37), (77, 0, 10), (78, 0, 10)] w0 u ∧ ((r = (-2) ∧ 0 ≤ a1.toInt ∧ a1.toInt ≤ 9 ∧ 0 ≤ a2.toInt ∧ a2.toInt ≤ 9 ∧ 0 ≤ a3.toInt ∧ a3.toInt ≤ 99999 ∧ 0 ≤ a4.toInt ∧ (∃ y : Int32, gi u 12 0 = y ∧ 1 ≤ y.toInt ∧ y.toInt ≤ 10)) ∨ (0 ≤ r.toInt ∧ r.toInt ≤ 11 ∧ 0 ≤ a1.toInt ∧ a1.toInt ≤ 9 ∧ 0 ≤ a2.toInt ∧ a2.toInt ≤ 9 ∧ 0 ≤ a3.toInt ∧ a3.toInt ≤ 99999 ∧ 0 ≤ a4.toInt ∧ (∃ y : Int32, gi u 0 37 = y ∧ 0 ≤ y.toInt ∧ y.toInt ≤ 100000100) ∧ (∃ y : Int32, gi u 12 0 = y ∧ 1 ≤ y.toInt ∧ y.toInt ≤ 10) ∧ (∃ y : Int32, gi u 12 1 = y ∧ 1 ≤ y.toInt ∧ y.toInt ≤ 12)) ∨ (r = (-1)))
set_option maxHeartbeats 4000000 in
set_option maxRecDepth 100000 in
theorem k_X12_way_1 (l : Launch) (adK adV : Nat → Nat) (dC : Nat → ClassId) (dI : Nat → Nat → Nat) (cy : Nat → ClassId) (ad : Nat → Nat) (B : Int) (hB0 : 100000 ≤ B) (hB1 : B ≤ 1073741824) (qr : Nat) (s1 : Int)  (a1 : Int32) (a2 : Int32) (a3 : Int32) (a4 : Int32) (w0 : va_W) (sz : Nat) (hT : TW ksM ad cy B qr 12 w0)  : Met l yX12_way wsX12_way ({ frames := 7, cells := 0, slots := 0, locals := 158 }) (va_Pc [.ref (ad 0), .int a1, .int a2, .int a3, .int a4] (wpreS adK adV dC dI cy sz w0)) (va_Qi (P_X12_way_1 ad cy B qr s1 a1 a2 a3 a4 w0) (fun u : va_W => wpost dC dI cy (va_A w0 sz) u) (va_A w0 sz)) 0 0 (va_A w0 sz) := by
  refine Met.ofW (cc := cX12_way) (maxL := 10) (ret := (some .int)) (by decide) rfl ?_
  intro p e s m args below meth c s₁ Bk hml hv
  obtain ⟨rfl, ⟨hsz, hP, hK, hD0⟩, hE, hSR⟩ := hv
  have hx := Bk.exec
  have hb := Bk.bytes
  have hr := Bk.returns
  have hlocks := Bk.notSynchronized
  have hC : CallFix p m c cX12_way 10 s _ wsX12_way RX12 := ⟨hx, hb, hml, findClass_of_methodNamed Bk.named, atoms_spec (ws := wsX12_way) Bk.pre⟩
  subst hsz
  have hD := hD0.self (sz := s.heap.size)
  generalize hAe : va_A w0 s.heap.size = A at hD hE ⊢
  have hA : ∀ q : Nat, s.heap.size ≤ q → A q := fun q h => by rw [← hAe]; exact Or.inr h
  have hw : Wd dC dI A s.heap s.heap [] w0 := ⟨hP, hD, va_S.rf⟩
  have hF : FE ksM [(12, 37, 37), (77, 0, 10), (78, 0, 10)] w0 w0 := FE.rf
  have hl := lv_entry ([.ref (ad 0), .int a1, .int a2, .int a3, .int a4]) (n := 10) (Nat.le_of_ble_eq_true rfl)
  rw [lg_entry_eq]
  generalize (lg_sl ([.ref (ad 0), .int a1, .int a2, .int a3, .int a4]) ++ List.replicate (10 - (lg_sl ([.ref (ad 0), .int a1, .int a2, .int a3, .int a4])).length) Slot.unset).toArray = ls at hl ⊢
  have hl : lv_has ls 10 [(0, .ref (ad 0)), (1, .int a1), (2, .int a2), (3, .int a3), (4, .int a4)] := hl
  generalize hloc : ([] : List Loc) = locs at hw ⊢
  have hinX12 : ∀ w ∈ u_ws RX12 TX12 42, w ∈ wsX12_way := fun _ h => List.mem_cons_of_mem _ (List.mem_append_right _ (h))
  have ba4 := wk_i32 a4
  have J15 : ∀ (H : Heap) (locs : List Loc) (ls : Array Slot) (w1 : va_W), Wd dC dI A s.heap H locs w1 → TW ksM ad cy B qr 12 w1 → FE ksM [(12, 37, 37), (77, 0, 10), (78, 0, 10)] w0 w1 → lv_has ls 10 [(0, .ref (ad 0)), (1, .int a1), (2, .int a2), (3, .int a3), (4, .int a4)] → W p l e ({ frames := 7, cells := 0, slots := 0, locals := 158 }) s m (List.toArray [.ref (ad 0), .int a1, .int a2, .int a3, .int a4]) below meth c H locs 0 0 (MQ below (va_Qi (P_X12_way_1 ad cy B qr s1 a1 a2 a3 a4 w0) (fun u : va_W => wpost dC dI cy A u) A) (List.toArray [.ref (ad 0), .int a1, .int a2, .int a3, .int a4]) s 0 0 A) (F0 m 15 ls []) := by
    intro H locs ls w1 hw hT hF hl
    refine lv_iconst (v := (-1)) hx hb dX12_way_15 (by decide) ?_
    exact tk_iret hC hr hlocks hK ⟨hT, hF, (Or.inr (Or.inr rfl))⟩ hw dX12_way_16
  have L51 : ∀ (n51 : Nat) (v51_5 : Int32) (v51_6 : Int32) (v51_7 : Int32) (v51_8 : Int32) (f51_12_0 : Int32) (H : Heap) (locs : List Loc) (ls : Array Slot) (w2 : va_W), 0 ≤ a1.toInt → a1.toInt ≤ 9 → 0 ≤ a2.toInt → a2.toInt ≤ 9 → 0 ≤ a3.toInt → a3.toInt ≤ 99999 → 0 ≤ a4.toInt → 0 ≤ v51_5.toInt → v51_5.toInt ≤ 100000100 → 0 ≤ v51_6.toInt → v51_6.toInt ≤ 12 → 0 ≤ v51_7.toInt → v51_7.toInt ≤ 100000208 → 0 ≤ v51_8.toInt → 1 ≤ f51_12_0.toInt → f51_12_0.toInt ≤ 10 → v51_8.toInt ≤ a4.toInt + 0 → (2147483647 - v51_8.toInt).toNat < n51 → Wd dC dI A s.heap H locs w2 → TW ksM ad cy B qr 12 w2 → FE ksM [(12, 37, 37), (77, 0, 10), (78, 0, 10)] w0 w2 → gi w2 12 0 = f51_12_0 → lv_has ls 10 [(0, .ref (ad 0)), (1, .int a1), (2, .int a2), (3, .int a3), (4, .int a4), (5, .int v51_5), (6, .int v51_6), (7, .int v51_7), (8, .int v51_8)] → W p l e ({ frames := 7, cells := 0, slots := 0, locals := 158 }) s m (List.toArray [.ref (ad 0), .int a1, .int a2, .int a3, .int a4]) below meth c H locs 0 0 (MQ below (va_Qi (P_X12_way_1 ad cy B qr s1 a1 a2 a3 a4 w0) (fun u : va_W => wpost dC dI cy A u) A) (List.toArray [.ref (ad 0), .int a1, .int a2, .int a3, .int a4]) s 0 0 A) (F0 m 51 ls []) := by
    intro n51
    induction n51 with
    | zero => intro v51_5 v51_6 v51_7 v51_8 f51_12_0 H locs ls w2 r3 t4 r5 t6 r7 t8 r9 r10 t11 r12 t13 r14 t15 r16 r17 t18 i20 hm51 hw hT hF c19 hl; omega
    | succ n51 ih51 =>
      intro v51_5 v51_6 v51_7 v51_8 f51_12_0 H locs ls w2 r3 t4 r5 t6 r7 t8 r9 r10 t11 r12 t13 r14 t15 r16 r17 t18 i20 hm51 hw hT hF c19 hl
      refine lv_iload hx hb dX12_way_51 (lv_at hl 6 rfl) ?_
      refine lv_iload_n hx hb dX12_way_53 rfl (lv_at hl 2 rfl) ?_
      refine lv_icmp_eq (tgt := 110) hx hb dX12_way_54 (by decide) (fun c21 => ?_) (fun c21 => ?_)
      · have c21 : v51_6.toInt = a2.toInt := wk_eq.mp c21
        refine lv_bipush (v := (-2)) hx hb dX12_way_110 (by decide) ?_
        exact tk_iret hC hr hlocks hK ⟨hT, hF, (Or.inl ⟨rfl, (show 0 ≤ a1.toInt by omega), (show a1.toInt ≤ 9 by omega), (show 0 ≤ a2.toInt by omega), (show a2.toInt ≤ 9 by omega), (show 0 ≤ a3.toInt by omega), (show a3.toInt ≤ 99999 by omega), (show 0 ≤ a4.toInt by omega), ⟨f51_12_0, c19, (show 1 ≤ f51_12_0.toInt by omega), (show f51_12_0.toInt ≤ 10 by omega)⟩⟩)⟩ hw dX12_way_112
      · have c21 : ¬ v51_6.toInt = a2.toInt := wk_eqF c21
        refine lv_aload_n hx hb dX12_way_57 rfl (lv_at hl 0 rfl) ?_
        refine lv_iload hx hb dX12_way_58 (lv_at hl 6 rfl) ?_
        refine lv_iload_n hx hb dX12_way_60 rfl (lv_at hl 2 rfl) ?_
        refine lv_iload hx hb dX12_way_61 (lv_at hl 7 rfl) ?_
        refine lv_iload hx hb dX12_way_63 (lv_at hl 5 rfl) ?_
        refine tk_Vi hC hK hw hT hA hE hSR kM_at0 (by decide) rfl (k_X12_wayFrom_1 l adK adV dC dI cy ad B (by omega) (by omega) qr s1   v51_6 (show 0 ≤ v51_6.toInt by omega) (show v51_6.toInt ≤ 12 by omega) a2 (show 0 ≤ a2.toInt by omega) (show a2.toInt ≤ 9 by omega) v51_7 (show 0 ≤ v51_7.toInt by omega) (show v51_7.toInt ≤ 100000208 by omega) v51_5 (show 0 ≤ v51_5.toInt by omega) (show v51_5.toInt ≤ 100000100 by omega) w2 H.size hT ) (cwV 4 hC.2.2.2.2 gX12_way_X12_wayFrom rfl rfl rfl (by decide +kernel) ⟨Nat.le_of_ble_eq_true rfl, Nat.le_of_ble_eq_true rfl⟩) rfl hl.1 rfl (Nat.le_of_ble_eq_true rfl) dX12_way_65 (fun r22 w24 H locs hp23 hw => ?_)
        obtain ⟨hT, k25, hg51⟩ := hp23
        have hF := hF.tr k25 (by decide)
        have c52 := k25.gi kM_at12 (by decide) c19
        rcases hg51 with ⟨g26, g27, g28, ⟨x29, c30, rx29, tx29⟩, ⟨x31, c32, rx31, tx31⟩, c33, c34⟩ | ⟨g35, g36, g37, ⟨x38, c39, rx38, tx38⟩, ⟨x40, c41, rx40, tx40⟩, c42⟩ | ⟨g43, g44, g45, ⟨x46, c47, rx46, tx46⟩, ⟨x48, c49, rx48, tx48⟩, c50⟩ | rfl
        · refine lv_istore (lv' := [(9, .int r22), (0, .ref (ad 0)), (1, .int a1), (2, .int a2), (3, .int a3), (4, .int a4), (5, .int v51_5), (6, .int v51_6), (7, .int v51_7), (8, .int v51_8)]) hx hb dX12_way_68 hl (by decide) rfl (fun ls hl => ?_)
          refine lv_iload hx hb dX12_way_70 (lv_at hl 9 rfl) ?_
          refine lv_iload hx hb dX12_way_72 (lv_at hl 5 rfl) ?_
          refine lv_icmp_ne (tgt := 80) hx hb dX12_way_74 (by decide) (fun c53 => ?_) (fun c53 => ?_)
          · have c53 : ¬ v51_8.toInt = a4.toInt := wk_eqF c53
            refine lv_aload_n hx hb dX12_way_80 rfl (lv_at hl 1 rfl) ?_
            refine tk_geti hC hK hw hT hinX12 kM_at0 (by decide) rfl 37 (by decide) (List.mem_of_getElem? (i := 2) rfl) rfl rfl dX12_way_81 (fun x54 c55 rx54 tx54 => ?_)
            refine wk_top x29 (c55.symm.trans c30) ?_
            refine lv_aload_n hx hb dX12_way_84 rfl (lv_at hl 1 rfl) ?_
            refine lv_iload hx hb dX12_way_85 (lv_at hl 0 rfl) ?_
            refine lv_iconst (v := 2) hx hb dX12_way_87 (by decide) ?_
            refine tk_Vi hC hK hw hT hA hE hSR kM_at0 (by decide) rfl (k_X12_streetOf_6 l adK adV dC dI cy ad B (by omega) (by omega) qr s1   r22 (show 0 ≤ r22.toInt by omega) (show r22.toInt ≤ 11 by omega) w24 H.size hT ) (cwV 2 hC.2.2.2.2 gX12_way_X12_streetOf rfl rfl rfl (by decide +kernel) ⟨Nat.le_of_ble_eq_true rfl, Nat.le_of_ble_eq_true rfl⟩) rfl hl.1 rfl (Nat.le_of_ble_eq_true rfl) dX12_way_88 (fun r56 w58 H locs hp57 hw => ?_)
            obtain ⟨rfl, hg63⟩ := hp57
            obtain ⟨g60, g61, c62⟩ := hg63
            refine lv_iadd hx hb dX12_way_91 ?_
            refine lv_topi (fun x64 ex64 => ?_)
            have ex64 : x64.toInt = x29.toInt + r56.toInt := by rw [ex64]; exact wk_add (show (-2147483648) ≤ x29.toInt + r56.toInt by omega) (show x29.toInt + r56.toInt ≤ 2147483647 by omega)
            refine lv_istore (lv' := [(7, .int x64), (9, .int r22), (0, .ref (ad 0)), (1, .int a1), (2, .int a2), (3, .int a3), (4, .int a4), (5, .int v51_5), (6, .int v51_6), (8, .int v51_8)]) hx hb dX12_way_92 hl (by decide) rfl (fun ls hl => ?_)
            refine lv_aload_n hx hb dX12_way_94 rfl (lv_at hl 2 rfl) ?_
            refine lv_iload hx hb dX12_way_95 (lv_at hl 1 rfl) ?_
            refine lv_iload hx hb dX12_way_97 (lv_at hl 8 rfl) ?_
            refine tk_Vi hC hK hw hT hA hE hSR kM_at0 (by decide) rfl (k_X12_otherOf_1 l adK adV dC dI cy ad B (by omega) (by omega) qr s1   r22 (show 0 ≤ r22.toInt by omega) (show r22.toInt ≤ 11 by omega) v51_6 (show 0 ≤ v51_6.toInt by omega) (show v51_6.toInt ≤ 9 by omega) w24 H.size hT ) (cwV 2 hC.2.2.2.2 gX12_way_X12_otherOf rfl rfl rfl (by decide +kernel) ⟨Nat.le_of_ble_eq_true rfl, Nat.le_of_ble_eq_true rfl⟩) rfl hl.1 rfl (Nat.le_of_ble_eq_true rfl) dX12_way_99 (fun r65 w67 H locs hp66 hw => ?_)
            obtain ⟨rfl, hg74⟩ := hp66
            rcases hg74 with ⟨g69, g70⟩ | ⟨g71, g72, c73⟩
            · refine lv_istore (lv' := [(6, .int r65), (7, .int x64), (9, .int r22), (0, .ref (ad 0)), (1, .int a1), (2, .int a2), (3, .int a3), (4, .int a4), (5, .int v51_5), (8, .int v51_8)]) hx hb dX12_way_102 hl (by decide) rfl (fun ls hl => ?_)
              obtain ⟨x75, ex75⟩ : ∃ y : Int32, y = v51_8 + Int32.ofInt 1 := ⟨_, rfl⟩
              refine lv_iinc (v := x75) (lv' := [(8, .int x75), (6, .int r65), (7, .int x64), (9, .int r22), (0, .ref (ad 0)), (1, .int a1), (2, .int a2), (3, .int a3), (4, .int a4), (5, .int v51_5)]) hx hb dX12_way_104 hl (k := 9) rfl ex75.symm (by decide) rfl (fun ls hl => ?_)
              have ex75 : x75.toInt = v51_8.toInt + 1 := by rw [ex75]; exact wk_add (y := 1) (show -2147483648 ≤ v51_8.toInt + 1 by omega) (show v51_8.toInt + 1 ≤ 2147483647 by omega)
              refine lv_goto (tgt := 51) hx hb dX12_way_107 (by decide) ?_
              exact ih51 v51_5 r65 x64 x75 f51_12_0 H locs ls w24 (show 0 ≤ a1.toInt by omega) (show a1.toInt ≤ 9 by omega) (show 0 ≤ a2.toInt by omega) (show a2.toInt ≤ 9 by omega) (show 0 ≤ a3.toInt by omega) (show a3.toInt ≤ 99999 by omega) (show 0 ≤ a4.toInt by omega) (show 0 ≤ v51_5.toInt by omega) (show v51_5.toInt ≤ 100000100 by omega) (show 0 ≤ r65.toInt by omega) (show r65.toInt ≤ 12 by omega) (show 0 ≤ x64.toInt by omega) (show x64.toInt ≤ 100000208 by omega) (show 0 ≤ x75.toInt by omega) (show 1 ≤ f51_12_0.toInt by omega) (show f51_12_0.toInt ≤ 10 by omega) (show x75.toInt ≤ a4.toInt + 0 by omega) (show (2147483647 - x75.toInt).toNat < n51 by omega) hw hT hF c52 (lv_sub hl [4, 5, 6, 7, 8, 9, 1, 2, 0] rfl)
            · refine lv_istore (lv' := [(6, .int r65), (7, .int x64), (9, .int r22), (0, .ref (ad 0)), (1, .int a1), (2, .int a2), (3, .int a3), (4, .int a4), (5, .int v51_5), (8, .int v51_8)]) hx hb dX12_way_102 hl (by decide) rfl (fun ls hl => ?_)
              obtain ⟨x76, ex76⟩ : ∃ y : Int32, y = v51_8 + Int32.ofInt 1 := ⟨_, rfl⟩
              refine lv_iinc (v := x76) (lv' := [(8, .int x76), (6, .int r65), (7, .int x64), (9, .int r22), (0, .ref (ad 0)), (1, .int a1), (2, .int a2), (3, .int a3), (4, .int a4), (5, .int v51_5)]) hx hb dX12_way_104 hl (k := 9) rfl ex76.symm (by decide) rfl (fun ls hl => ?_)
              have ex76 : x76.toInt = v51_8.toInt + 1 := by rw [ex76]; exact wk_add (y := 1) (show -2147483648 ≤ v51_8.toInt + 1 by omega) (show v51_8.toInt + 1 ≤ 2147483647 by omega)
              refine lv_goto (tgt := 51) hx hb dX12_way_107 (by decide) ?_
              exact ih51 v51_5 r65 x64 x76 f51_12_0 H locs ls w24 (show 0 ≤ a1.toInt by omega) (show a1.toInt ≤ 9 by omega) (show 0 ≤ a2.toInt by omega) (show a2.toInt ≤ 9 by omega) (show 0 ≤ a3.toInt by omega) (show a3.toInt ≤ 99999 by omega) (show 0 ≤ a4.toInt by omega) (show 0 ≤ v51_5.toInt by omega) (show v51_5.toInt ≤ 100000100 by omega) (show 0 ≤ r65.toInt by omega) (show r65.toInt ≤ 12 by omega) (show 0 ≤ x64.toInt by omega) (show x64.toInt ≤ 100000208 by omega) (show 0 ≤ x76.toInt by omega) (show 1 ≤ f51_12_0.toInt by omega) (show f51_12_0.toInt ≤ 10 by omega) (show x76.toInt ≤ a4.toInt + 0 by omega) (show (2147483647 - x76.toInt).toNat < n51 by omega) hw hT hF c52 (lv_sub hl [4, 5, 6, 7, 8, 9, 1, 2, 0] rfl)
          · have c53 : v51_8.toInt = a4.toInt := wk_eq.mp c53
            refine lv_iload hx hb dX12_way_77 (lv_at hl 0 rfl) ?_
            exact tk_iret hC hr hlocks hK ⟨hT, hF, (Or.inr (Or.inl ⟨(show 0 ≤ r22.toInt by omega), (show r22.toInt ≤ 11 by omega), (show 0 ≤ a1.toInt by omega), (show a1.toInt ≤ 9 by omega), (show 0 ≤ a2.toInt by omega), (show a2.toInt ≤ 9 by omega), (show 0 ≤ a3.toInt by omega), (show a3.toInt ≤ 99999 by omega), (show 0 ≤ a4.toInt by omega), ⟨x29, c30, (show 0 ≤ x29.toInt by omega), (show x29.toInt ≤ 100000100 by omega)⟩, ⟨f51_12_0, c52, (show 1 ≤ f51_12_0.toInt by omega), (show f51_12_0.toInt ≤ 10 by omega)⟩, ⟨x31, c32, (show 1 ≤ x31.toInt by omega), (show x31.toInt ≤ 12 by omega)⟩⟩))⟩ hw dX12_way_79
        · refine lv_istore (lv' := [(9, .int r22), (0, .ref (ad 0)), (1, .int a1), (2, .int a2), (3, .int a3), (4, .int a4), (5, .int v51_5), (6, .int v51_6), (7, .int v51_7), (8, .int v51_8)]) hx hb dX12_way_68 hl (by decide) rfl (fun ls hl => ?_)
          refine lv_iload hx hb dX12_way_70 (lv_at hl 9 rfl) ?_
          refine lv_iload hx hb dX12_way_72 (lv_at hl 5 rfl) ?_
          refine lv_icmp_ne (tgt := 80) hx hb dX12_way_74 (by decide) (fun c77 => ?_) (fun c77 => ?_)
          · have c77 : ¬ v51_8.toInt = a4.toInt := wk_eqF c77
            refine lv_aload_n hx hb dX12_way_80 rfl (lv_at hl 1 rfl) ?_
            refine tk_geti hC hK hw hT hinX12 kM_at0 (by decide) rfl 37 (by decide) (List.mem_of_getElem? (i := 2) rfl) rfl rfl dX12_way_81 (fun x78 c79 rx78 tx78 => ?_)
            refine wk_top x38 (c79.symm.trans c39) ?_
            refine lv_aload_n hx hb dX12_way_84 rfl (lv_at hl 1 rfl) ?_
            refine lv_iload hx hb dX12_way_85 (lv_at hl 0 rfl) ?_
            refine lv_iconst (v := 2) hx hb dX12_way_87 (by decide) ?_
            refine tk_Vi hC hK hw hT hA hE hSR kM_at0 (by decide) rfl (k_X12_streetOf_6 l adK adV dC dI cy ad B (by omega) (by omega) qr s1   r22 (show 0 ≤ r22.toInt by omega) (show r22.toInt ≤ 11 by omega) w24 H.size hT ) (cwV 2 hC.2.2.2.2 gX12_way_X12_streetOf rfl rfl rfl (by decide +kernel) ⟨Nat.le_of_ble_eq_true rfl, Nat.le_of_ble_eq_true rfl⟩) rfl hl.1 rfl (Nat.le_of_ble_eq_true rfl) dX12_way_88 (fun r80 w82 H locs hp81 hw => ?_)
            obtain ⟨rfl, hg87⟩ := hp81
            obtain ⟨g84, g85, c86⟩ := hg87
            refine lv_iadd hx hb dX12_way_91 ?_
            refine lv_topi (fun x88 ex88 => ?_)
            have ex88 : x88.toInt = x38.toInt + r80.toInt := by rw [ex88]; exact wk_add (show (-2147483648) ≤ x38.toInt + r80.toInt by omega) (show x38.toInt + r80.toInt ≤ 2147483647 by omega)
            refine lv_istore (lv' := [(7, .int x88), (9, .int r22), (0, .ref (ad 0)), (1, .int a1), (2, .int a2), (3, .int a3), (4, .int a4), (5, .int v51_5), (6, .int v51_6), (8, .int v51_8)]) hx hb dX12_way_92 hl (by decide) rfl (fun ls hl => ?_)
            refine lv_aload_n hx hb dX12_way_94 rfl (lv_at hl 2 rfl) ?_
            refine lv_iload hx hb dX12_way_95 (lv_at hl 1 rfl) ?_
            refine lv_iload hx hb dX12_way_97 (lv_at hl 8 rfl) ?_
            refine tk_Vi hC hK hw hT hA hE hSR kM_at0 (by decide) rfl (k_X12_otherOf_1 l adK adV dC dI cy ad B (by omega) (by omega) qr s1   r22 (show 0 ≤ r22.toInt by omega) (show r22.toInt ≤ 11 by omega) v51_6 (show 0 ≤ v51_6.toInt by omega) (show v51_6.toInt ≤ 9 by omega) w24 H.size hT ) (cwV 2 hC.2.2.2.2 gX12_way_X12_otherOf rfl rfl rfl (by decide +kernel) ⟨Nat.le_of_ble_eq_true rfl, Nat.le_of_ble_eq_true rfl⟩) rfl hl.1 rfl (Nat.le_of_ble_eq_true rfl) dX12_way_99 (fun r89 w91 H locs hp90 hw => ?_)
            obtain ⟨rfl, hg98⟩ := hp90
            rcases hg98 with ⟨g93, g94⟩ | ⟨g95, g96, c97⟩
            · refine lv_istore (lv' := [(6, .int r89), (7, .int x88), (9, .int r22), (0, .ref (ad 0)), (1, .int a1), (2, .int a2), (3, .int a3), (4, .int a4), (5, .int v51_5), (8, .int v51_8)]) hx hb dX12_way_102 hl (by decide) rfl (fun ls hl => ?_)
              obtain ⟨x99, ex99⟩ : ∃ y : Int32, y = v51_8 + Int32.ofInt 1 := ⟨_, rfl⟩
              refine lv_iinc (v := x99) (lv' := [(8, .int x99), (6, .int r89), (7, .int x88), (9, .int r22), (0, .ref (ad 0)), (1, .int a1), (2, .int a2), (3, .int a3), (4, .int a4), (5, .int v51_5)]) hx hb dX12_way_104 hl (k := 9) rfl ex99.symm (by decide) rfl (fun ls hl => ?_)
              have ex99 : x99.toInt = v51_8.toInt + 1 := by rw [ex99]; exact wk_add (y := 1) (show -2147483648 ≤ v51_8.toInt + 1 by omega) (show v51_8.toInt + 1 ≤ 2147483647 by omega)
              refine lv_goto (tgt := 51) hx hb dX12_way_107 (by decide) ?_
              exact ih51 v51_5 r89 x88 x99 f51_12_0 H locs ls w24 (show 0 ≤ a1.toInt by omega) (show a1.toInt ≤ 9 by omega) (show 0 ≤ a2.toInt by omega) (show a2.toInt ≤ 9 by omega) (show 0 ≤ a3.toInt by omega) (show a3.toInt ≤ 99999 by omega) (show 0 ≤ a4.toInt by omega) (show 0 ≤ v51_5.toInt by omega) (show v51_5.toInt ≤ 100000100 by omega) (show 0 ≤ r89.toInt by omega) (show r89.toInt ≤ 12 by omega) (show 0 ≤ x88.toInt by omega) (show x88.toInt ≤ 100000208 by omega) (show 0 ≤ x99.toInt by omega) (show 1 ≤ f51_12_0.toInt by omega) (show f51_12_0.toInt ≤ 10 by omega) (show x99.toInt ≤ a4.toInt + 0 by omega) (show (2147483647 - x99.toInt).toNat < n51 by omega) hw hT hF c52 (lv_sub hl [4, 5, 6, 7, 8, 9, 1, 2, 0] rfl)
            · refine lv_istore (lv' := [(6, .int r89), (7, .int x88), (9, .int r22), (0, .ref (ad 0)), (1, .int a1), (2, .int a2), (3, .int a3), (4, .int a4), (5, .int v51_5), (8, .int v51_8)]) hx hb dX12_way_102 hl (by decide) rfl (fun ls hl => ?_)
              obtain ⟨x100, ex100⟩ : ∃ y : Int32, y = v51_8 + Int32.ofInt 1 := ⟨_, rfl⟩
              refine lv_iinc (v := x100) (lv' := [(8, .int x100), (6, .int r89), (7, .int x88), (9, .int r22), (0, .ref (ad 0)), (1, .int a1), (2, .int a2), (3, .int a3), (4, .int a4), (5, .int v51_5)]) hx hb dX12_way_104 hl (k := 9) rfl ex100.symm (by decide) rfl (fun ls hl => ?_)
              have ex100 : x100.toInt = v51_8.toInt + 1 := by rw [ex100]; exact wk_add (y := 1) (show -2147483648 ≤ v51_8.toInt + 1 by omega) (show v51_8.toInt + 1 ≤ 2147483647 by omega)
              refine lv_goto (tgt := 51) hx hb dX12_way_107 (by decide) ?_
              exact ih51 v51_5 r89 x88 x100 f51_12_0 H locs ls w24 (show 0 ≤ a1.toInt by omega) (show a1.toInt ≤ 9 by omega) (show 0 ≤ a2.toInt by omega) (show a2.toInt ≤ 9 by omega) (show 0 ≤ a3.toInt by omega) (show a3.toInt ≤ 99999 by omega) (show 0 ≤ a4.toInt by omega) (show 0 ≤ v51_5.toInt by omega) (show v51_5.toInt ≤ 100000100 by omega) (show 0 ≤ r89.toInt by omega) (show r89.toInt ≤ 12 by omega) (show 0 ≤ x88.toInt by omega) (show x88.toInt ≤ 100000208 by omega) (show 0 ≤ x100.toInt by omega) (show 1 ≤ f51_12_0.toInt by omega) (show f51_12_0.toInt ≤ 10 by omega) (show x100.toInt ≤ a4.toInt + 0 by omega) (show (2147483647 - x100.toInt).toNat < n51 by omega) hw hT hF c52 (lv_sub hl [4, 5, 6, 7, 8, 9, 1, 2, 0] rfl)
          · have c77 : v51_8.toInt = a4.toInt := wk_eq.mp c77
            refine lv_iload hx hb dX12_way_77 (lv_at hl 0 rfl) ?_
            exact tk_iret hC hr hlocks hK ⟨hT, hF, (Or.inr (Or.inl ⟨(show 0 ≤ r22.toInt by omega), (show r22.toInt ≤ 11 by omega), (show 0 ≤ a1.toInt by omega), (show a1.toInt ≤ 9 by omega), (show 0 ≤ a2.toInt by omega), (show a2.toInt ≤ 9 by omega), (show 0 ≤ a3.toInt by omega), (show a3.toInt ≤ 99999 by omega), (show 0 ≤ a4.toInt by omega), ⟨x38, c39, (show 0 ≤ x38.toInt by omega), (show x38.toInt ≤ 100000100 by omega)⟩, ⟨f51_12_0, c52, (show 1 ≤ f51_12_0.toInt by omega), (show f51_12_0.toInt ≤ 10 by omega)⟩, ⟨x40, c41, (show 1 ≤ x40.toInt by omega), (show x40.toInt ≤ 12 by omega)⟩⟩))⟩ hw dX12_way_79
        · refine lv_istore (lv' := [(9, .int r22), (0, .ref (ad 0)), (1, .int a1), (2, .int a2), (3, .int a3), (4, .int a4), (5, .int v51_5), (6, .int v51_6), (7, .int v51_7), (8, .int v51_8)]) hx hb dX12_way_68 hl (by decide) rfl (fun ls hl => ?_)
          refine lv_iload hx hb dX12_way_70 (lv_at hl 9 rfl) ?_
          refine lv_iload hx hb dX12_way_72 (lv_at hl 5 rfl) ?_
          refine lv_icmp_ne (tgt := 80) hx hb dX12_way_74 (by decide) (fun c101 => ?_) (fun c101 => ?_)
          · have c101 : ¬ v51_8.toInt = a4.toInt := wk_eqF c101
            refine lv_aload_n hx hb dX12_way_80 rfl (lv_at hl 1 rfl) ?_
            refine tk_geti hC hK hw hT hinX12 kM_at0 (by decide) rfl 37 (by decide) (List.mem_of_getElem? (i := 2) rfl) rfl rfl dX12_way_81 (fun x102 c103 rx102 tx102 => ?_)
            refine wk_top x46 (c103.symm.trans c47) ?_
            refine lv_aload_n hx hb dX12_way_84 rfl (lv_at hl 1 rfl) ?_
            refine lv_iload hx hb dX12_way_85 (lv_at hl 0 rfl) ?_
            refine lv_iconst (v := 2) hx hb dX12_way_87 (by decide) ?_
            refine tk_Vi hC hK hw hT hA hE hSR kM_at0 (by decide) rfl (k_X12_streetOf_6 l adK adV dC dI cy ad B (by omega) (by omega) qr s1   r22 (show 0 ≤ r22.toInt by omega) (show r22.toInt ≤ 11 by omega) w24 H.size hT ) (cwV 2 hC.2.2.2.2 gX12_way_X12_streetOf rfl rfl rfl (by decide +kernel) ⟨Nat.le_of_ble_eq_true rfl, Nat.le_of_ble_eq_true rfl⟩) rfl hl.1 rfl (Nat.le_of_ble_eq_true rfl) dX12_way_88 (fun r104 w106 H locs hp105 hw => ?_)
            obtain ⟨rfl, hg111⟩ := hp105
            obtain ⟨g108, g109, c110⟩ := hg111
            refine lv_iadd hx hb dX12_way_91 ?_
            refine lv_topi (fun x112 ex112 => ?_)
            have ex112 : x112.toInt = x46.toInt + r104.toInt := by rw [ex112]; exact wk_add (show (-2147483648) ≤ x46.toInt + r104.toInt by omega) (show x46.toInt + r104.toInt ≤ 2147483647 by omega)
            refine lv_istore (lv' := [(7, .int x112), (9, .int r22), (0, .ref (ad 0)), (1, .int a1), (2, .int a2), (3, .int a3), (4, .int a4), (5, .int v51_5), (6, .int v51_6), (8, .int v51_8)]) hx hb dX12_way_92 hl (by decide) rfl (fun ls hl => ?_)
            refine lv_aload_n hx hb dX12_way_94 rfl (lv_at hl 2 rfl) ?_
            refine lv_iload hx hb dX12_way_95 (lv_at hl 1 rfl) ?_
            refine lv_iload hx hb dX12_way_97 (lv_at hl 8 rfl) ?_
            refine tk_Vi hC hK hw hT hA hE hSR kM_at0 (by decide) rfl (k_X12_otherOf_1 l adK adV dC dI cy ad B (by omega) (by omega) qr s1   r22 (show 0 ≤ r22.toInt by omega) (show r22.toInt ≤ 11 by omega) v51_6 (show 0 ≤ v51_6.toInt by omega) (show v51_6.toInt ≤ 9 by omega) w24 H.size hT ) (cwV 2 hC.2.2.2.2 gX12_way_X12_otherOf rfl rfl rfl (by decide +kernel) ⟨Nat.le_of_ble_eq_true rfl, Nat.le_of_ble_eq_true rfl⟩) rfl hl.1 rfl (Nat.le_of_ble_eq_true rfl) dX12_way_99 (fun r113 w115 H locs hp114 hw => ?_)
            obtain ⟨rfl, hg122⟩ := hp114
            rcases hg122 with ⟨g117, g118⟩ | ⟨g119, g120, c121⟩
            · refine lv_istore (lv' := [(6, .int r113), (7, .int x112), (9, .int r22), (0, .ref (ad 0)), (1, .int a1), (2, .int a2), (3, .int a3), (4, .int a4), (5, .int v51_5), (8, .int v51_8)]) hx hb dX12_way_102 hl (by decide) rfl (fun ls hl => ?_)
              obtain ⟨x123, ex123⟩ : ∃ y : Int32, y = v51_8 + Int32.ofInt 1 := ⟨_, rfl⟩
              refine lv_iinc (v := x123) (lv' := [(8, .int x123), (6, .int r113), (7, .int x112), (9, .int r22), (0, .ref (ad 0)), (1, .int a1), (2, .int a2), (3, .int a3), (4, .int a4), (5, .int v51_5)]) hx hb dX12_way_104 hl (k := 9) rfl ex123.symm (by decide) rfl (fun ls hl => ?_)
              have ex123 : x123.toInt = v51_8.toInt + 1 := by rw [ex123]; exact wk_add (y := 1) (show -2147483648 ≤ v51_8.toInt + 1 by omega) (show v51_8.toInt + 1 ≤ 2147483647 by omega)
              refine lv_goto (tgt := 51) hx hb dX12_way_107 (by decide) ?_
              exact ih51 v51_5 r113 x112 x123 f51_12_0 H locs ls w24 (show 0 ≤ a1.toInt by omega) (show a1.toInt ≤ 9 by omega) (show 0 ≤ a2.toInt by omega) (show a2.toInt ≤ 9 by omega) (show 0 ≤ a3.toInt by omega) (show a3.toInt ≤ 99999 by omega) (show 0 ≤ a4.toInt by omega) (show 0 ≤ v51_5.toInt by omega) (show v51_5.toInt ≤ 100000100 by omega) (show 0 ≤ r113.toInt by omega) (show r113.toInt ≤ 12 by omega) (show 0 ≤ x112.toInt by omega) (show x112.toInt ≤ 100000208 by omega) (show 0 ≤ x123.toInt by omega) (show 1 ≤ f51_12_0.toInt by omega) (show f51_12_0.toInt ≤ 10 by omega) (show x123.toInt ≤ a4.toInt + 0 by omega) (show (2147483647 - x123.toInt).toNat < n51 by omega) hw hT hF c52 (lv_sub hl [4, 5, 6, 7, 8, 9, 1, 2, 0] rfl)
            · refine lv_istore (lv' := [(6, .int r113), (7, .int x112), (9, .int r22), (0, .ref (ad 0)), (1, .int a1), (2, .int a2), (3, .int a3), (4, .int a4), (5, .int v51_5), (8, .int v51_8)]) hx hb dX12_way_102 hl (by decide) rfl (fun ls hl => ?_)
              obtain ⟨x124, ex124⟩ : ∃ y : Int32, y = v51_8 + Int32.ofInt 1 := ⟨_, rfl⟩
              refine lv_iinc (v := x124) (lv' := [(8, .int x124), (6, .int r113), (7, .int x112), (9, .int r22), (0, .ref (ad 0)), (1, .int a1), (2, .int a2), (3, .int a3), (4, .int a4), (5, .int v51_5)]) hx hb dX12_way_104 hl (k := 9) rfl ex124.symm (by decide) rfl (fun ls hl => ?_)
              have ex124 : x124.toInt = v51_8.toInt + 1 := by rw [ex124]; exact wk_add (y := 1) (show -2147483648 ≤ v51_8.toInt + 1 by omega) (show v51_8.toInt + 1 ≤ 2147483647 by omega)
              refine lv_goto (tgt := 51) hx hb dX12_way_107 (by decide) ?_
              exact ih51 v51_5 r113 x112 x124 f51_12_0 H locs ls w24 (show 0 ≤ a1.toInt by omega) (show a1.toInt ≤ 9 by omega) (show 0 ≤ a2.toInt by omega) (show a2.toInt ≤ 9 by omega) (show 0 ≤ a3.toInt by omega) (show a3.toInt ≤ 99999 by omega) (show 0 ≤ a4.toInt by omega) (show 0 ≤ v51_5.toInt by omega) (show v51_5.toInt ≤ 100000100 by omega) (show 0 ≤ r113.toInt by omega) (show r113.toInt ≤ 12 by omega) (show 0 ≤ x112.toInt by omega) (show x112.toInt ≤ 100000208 by omega) (show 0 ≤ x124.toInt by omega) (show 1 ≤ f51_12_0.toInt by omega) (show f51_12_0.toInt ≤ 10 by omega) (show x124.toInt ≤ a4.toInt + 0 by omega) (show (2147483647 - x124.toInt).toNat < n51 by omega) hw hT hF c52 (lv_sub hl [4, 5, 6, 7, 8, 9, 1, 2, 0] rfl)
          · have c101 : v51_8.toInt = a4.toInt := wk_eq.mp c101
            refine lv_iload hx hb dX12_way_77 (lv_at hl 0 rfl) ?_
            exact tk_iret hC hr hlocks hK ⟨hT, hF, (Or.inr (Or.inl ⟨(show 0 ≤ r22.toInt by omega), (show r22.toInt ≤ 11 by omega), (show 0 ≤ a1.toInt by omega), (show a1.toInt ≤ 9 by omega), (show 0 ≤ a2.toInt by omega), (show a2.toInt ≤ 9 by omega), (show 0 ≤ a3.toInt by omega), (show a3.toInt ≤ 99999 by omega), (show 0 ≤ a4.toInt by omega), ⟨x46, c47, (show 0 ≤ x46.toInt by omega), (show x46.toInt ≤ 100000100 by omega)⟩, ⟨f51_12_0, c52, (show 1 ≤ f51_12_0.toInt by omega), (show f51_12_0.toInt ≤ 10 by omega)⟩, ⟨x48, c49, (show 1 ≤ x48.toInt by omega), (show x48.toInt ≤ 12 by omega)⟩⟩))⟩ hw dX12_way_79
        · refine lv_istore (lv' := [(9, .int (-1)), (0, .ref (ad 0)), (1, .int a1), (2, .int a2), (3, .int a3), (4, .int a4), (5, .int v51_5), (6, .int v51_6), (7, .int v51_7), (8, .int v51_8)]) hx hb dX12_way_68 hl (by decide) rfl (fun ls hl => ?_)
          refine lv_iload hx hb dX12_way_70 (lv_at hl 9 rfl) ?_
          refine lv_iload hx hb dX12_way_72 (lv_at hl 5 rfl) ?_
          refine lv_icmp_ne (tgt := 80) hx hb dX12_way_74 (by decide) (fun c125 => ?_) (fun c125 => ?_)
          · have c125 : ¬ v51_8.toInt = a4.toInt := wk_eqF c125
            refine lv_aload_n hx hb dX12_way_80 rfl (lv_at hl 1 rfl) ?_
            refine tk_geti hC hK hw hT hinX12 kM_at0 (by decide) rfl 37 (by decide) (List.mem_of_getElem? (i := 2) rfl) rfl rfl dX12_way_81 (fun x126 c127 rx126 tx126 => ?_)
            refine lv_aload_n hx hb dX12_way_84 rfl (lv_at hl 1 rfl) ?_
            refine lv_iload hx hb dX12_way_85 (lv_at hl 0 rfl) ?_
            refine lv_iconst (v := 2) hx hb dX12_way_87 (by decide) ?_
            refine tk_Vi hC hK hw hT hA hE hSR kM_at0 (by decide) rfl (k_X12_streetOf_9 l adK adV dC dI cy ad B (by omega) (by omega) qr s1    w24 H.size hT ) (cwV 2 hC.2.2.2.2 gX12_way_X12_streetOf rfl rfl rfl (by decide +kernel) ⟨Nat.le_of_ble_eq_true rfl, Nat.le_of_ble_eq_true rfl⟩) rfl hl.1 rfl (Nat.le_of_ble_eq_true rfl) dX12_way_88 (fun r128 w130 H locs hp129 hw => ?_)
            obtain ⟨rfl, hg135⟩ := hp129
            obtain ⟨g132, g133, c134⟩ := hg135
            refine lv_iadd hx hb dX12_way_91 ?_
            refine lv_topi (fun x136 ex136 => ?_)
            have ex136 : x136.toInt = x126.toInt + r128.toInt := by rw [ex136]; exact wk_add (show (-2147483648) ≤ x126.toInt + r128.toInt by omega) (show x126.toInt + r128.toInt ≤ 2147483647 by omega)
            refine lv_istore (lv' := [(7, .int x136), (9, .int (-1)), (0, .ref (ad 0)), (1, .int a1), (2, .int a2), (3, .int a3), (4, .int a4), (5, .int v51_5), (6, .int v51_6), (8, .int v51_8)]) hx hb dX12_way_92 hl (by decide) rfl (fun ls hl => ?_)
            refine lv_aload_n hx hb dX12_way_94 rfl (lv_at hl 2 rfl) ?_
            refine lv_iload hx hb dX12_way_95 (lv_at hl 1 rfl) ?_
            refine lv_iload hx hb dX12_way_97 (lv_at hl 8 rfl) ?_
            refine tk_Vi hC hK hw hT hA hE hSR kM_at0 (by decide) rfl (k_X12_otherOf_2 l adK adV dC dI cy ad B (by omega) (by omega) qr s1   v51_6 (show 0 ≤ v51_6.toInt by omega) (show v51_6.toInt ≤ 12 by omega) w24 H.size hT ) (cwV 2 hC.2.2.2.2 gX12_way_X12_otherOf rfl rfl rfl (by decide +kernel) ⟨Nat.le_of_ble_eq_true rfl, Nat.le_of_ble_eq_true rfl⟩) rfl hl.1 rfl (Nat.le_of_ble_eq_true rfl) dX12_way_99 (fun r137 w139 H locs hp138 hw => ?_)
            obtain ⟨rfl, hg143⟩ := hp138
            obtain ⟨g141, g142⟩ := hg143
            refine lv_istore (lv' := [(6, .int r137), (7, .int x136), (9, .int (-1)), (0, .ref (ad 0)), (1, .int a1), (2, .int a2), (3, .int a3), (4, .int a4), (5, .int v51_5), (8, .int v51_8)]) hx hb dX12_way_102 hl (by decide) rfl (fun ls hl => ?_)
            obtain ⟨x144, ex144⟩ : ∃ y : Int32, y = v51_8 + Int32.ofInt 1 := ⟨_, rfl⟩
            refine lv_iinc (v := x144) (lv' := [(8, .int x144), (6, .int r137), (7, .int x136), (9, .int (-1)), (0, .ref (ad 0)), (1, .int a1), (2, .int a2), (3, .int a3), (4, .int a4), (5, .int v51_5)]) hx hb dX12_way_104 hl (k := 9) rfl ex144.symm (by decide) rfl (fun ls hl => ?_)
            have ex144 : x144.toInt = v51_8.toInt + 1 := by rw [ex144]; exact wk_add (y := 1) (show -2147483648 ≤ v51_8.toInt + 1 by omega) (show v51_8.toInt + 1 ≤ 2147483647 by omega)
            refine lv_goto (tgt := 51) hx hb dX12_way_107 (by decide) ?_
            exact ih51 v51_5 r137 x136 x144 f51_12_0 H locs ls w24 (show 0 ≤ a1.toInt by omega) (show a1.toInt ≤ 9 by omega) (show 0 ≤ a2.toInt by omega) (show a2.toInt ≤ 9 by omega) (show 0 ≤ a3.toInt by omega) (show a3.toInt ≤ 99999 by omega) (show 0 ≤ a4.toInt by omega) (show 0 ≤ v51_5.toInt by omega) (show v51_5.toInt ≤ 100000100 by omega) (show 0 ≤ r137.toInt by omega) (show r137.toInt ≤ 12 by omega) (show 0 ≤ x136.toInt by omega) (show x136.toInt ≤ 100000208 by omega) (show 0 ≤ x144.toInt by omega) (show 1 ≤ f51_12_0.toInt by omega) (show f51_12_0.toInt ≤ 10 by omega) (show x144.toInt ≤ a4.toInt + 0 by omega) (show (2147483647 - x144.toInt).toNat < n51 by omega) hw hT hF c52 (lv_sub hl [4, 5, 6, 7, 8, 9, 1, 2, 0] rfl)
          · have c125 : v51_8.toInt = a4.toInt := wk_eq.mp c125
            refine lv_iload hx hb dX12_way_77 (lv_at hl 0 rfl) ?_
            exact tk_iret hC hr hlocks hK ⟨hT, hF, (Or.inr (Or.inr rfl))⟩ hw dX12_way_79
  refine lv_aload_n hx hb dX12_way_0 rfl (lv_at hl 0 rfl) ?_
  refine lv_iload_n hx hb dX12_way_1 rfl (lv_at hl 1 rfl) ?_
  refine lv_iload_n hx hb dX12_way_2 rfl (lv_at hl 2 rfl) ?_
  refine lv_iload_n hx hb dX12_way_3 rfl (lv_at hl 3 rfl) ?_
  refine tk_Vi hC hK hw hT hA hE hSR kM_at0 (by decide) rfl (k_X12_canLook_1 l adK adV dC dI cy ad B (by omega) (by omega) qr s1   a1 a2 a3 w0 s.heap.size hT ) (cwV 3 hC.2.2.2.2 gX12_way_X12_canLook rfl rfl rfl (by decide +kernel) ⟨Nat.le_of_ble_eq_true rfl, Nat.le_of_ble_eq_true rfl⟩) rfl hl.1 rfl (Nat.le_of_ble_eq_true rfl) dX12_way_4 (fun r145 w147 H locs hp146 hw => ?_)
  obtain ⟨rfl, hg157⟩ := hp146
  rcases hg157 with rfl | ⟨rfl, g149, g150, g151, g152, g153, g154, ⟨x155, c156, rx155, tx155⟩⟩
  · refine lv_if_eq (tgt := 15) hx hb dX12_way_7 (by decide) (fun _ => ?_) (fun c => absurd (by decide) c)
    exact J15  H locs ls w0   hw hT hF  (lv_sub hl [0, 1, 2, 3, 4] rfl)
  · refine lv_if_eq (tgt := 15) hx hb dX12_way_7 (by decide) (fun c => absurd c (by decide)) (fun _ => ?_)
    refine lv_iload hx hb dX12_way_10 (lv_at hl 4 rfl) ?_
    refine lv_if_ge (tgt := 17) hx hb dX12_way_12 (by decide) (fun c158 => ?_) (fun c158 => ?_)
    · have c158 : (0 : Int) ≤ a4.toInt := wk_le.mp c158
      refine lv_aload_n hx hb dX12_way_17 rfl (lv_at hl 0 rfl) ?_
      refine lv_iload_n hx hb dX12_way_18 rfl (lv_at hl 1 rfl) ?_
      refine lv_iload_n hx hb dX12_way_19 rfl (lv_at hl 2 rfl) ?_
      refine lv_iload_n hx hb dX12_way_20 rfl (lv_at hl 3 rfl) ?_
      refine lv_iload_n hx hb dX12_way_21 rfl (lv_at hl 3 rfl) ?_
      refine lv_sipush (v := 2000) hx hb dX12_way_22 (by decide) ?_
      refine lv_iadd hx hb dX12_way_25 ?_
      refine lv_topi (fun x159 ex159 => ?_)
      have ex159 : x159.toInt = a3.toInt + (2000 : Int) := by rw [ex159]; exact wk_add (show (-2147483648) ≤ a3.toInt + (2000 : Int) by omega) (show a3.toInt + (2000 : Int) ≤ 2147483647 by omega)
      refine tk_Vi hC hK hw hT hA hE hSR kM_at0 (by decide) rfl (k_X12_reaches_1 l adK adV dC dI cy ad B (by omega) (by omega) qr s1   a1 (show 0 ≤ a1.toInt by omega) (show a1.toInt ≤ 9 by omega) a2 (show 0 ≤ a2.toInt by omega) (show a2.toInt ≤ 9 by omega) a3 (show 0 ≤ a3.toInt by omega) (show a3.toInt ≤ 99999 by omega) x159 (show 2000 ≤ x159.toInt by omega) (show x159.toInt ≤ 101999 by omega) w0 H.size hT ) (cwV 4 hC.2.2.2.2 gX12_way_X12_reaches rfl rfl rfl (by decide +kernel) ⟨Nat.le_of_ble_eq_true rfl, Nat.le_of_ble_eq_true rfl⟩) rfl hl.1 rfl (Nat.le_of_ble_eq_true rfl) dX12_way_26 (fun r160 w162 H locs hp161 hw => ?_)
      obtain ⟨hT, k163, hg166⟩ := hp161
      have hF := hF.tr k163 (by decide)
      have c167 := k163.gi kM_at12 (by decide) c156
      obtain ⟨g164, g165⟩ := hg166
      refine lv_istore (lv' := [(5, .int r160), (0, .ref (ad 0)), (1, .int a1), (2, .int a2), (3, .int a3), (4, .int a4)]) hx hb dX12_way_29 hl (by decide) rfl (fun ls hl => ?_)
      refine lv_iload hx hb dX12_way_31 (lv_at hl 0 rfl) ?_
      refine lv_ldcw (v := 100000000) hx hb hC.2.2.2.1 (hC.2.2.2.2 _ (List.mem_of_getElem? (i := 1) rfl)) dX12_way_33 ?_
      refine lv_icmp_ne (tgt := 42) hx hb dX12_way_36 (by decide) (fun c168 => ?_) (fun c168 => ?_)
      · have c168 : ¬ r160.toInt = (100000000 : Int) := wk_eqF c168
        refine lv_iload_n hx hb dX12_way_42 rfl (lv_at hl 2 rfl) ?_
        refine lv_istore (lv' := [(6, .int a1), (5, .int r160), (0, .ref (ad 0)), (1, .int a1), (2, .int a2), (3, .int a3), (4, .int a4)]) hx hb dX12_way_43 hl (by decide) rfl (fun ls hl => ?_)
        refine lv_iload_n hx hb dX12_way_45 rfl (lv_at hl 5 rfl) ?_
        refine lv_istore (lv' := [(7, .int a3), (6, .int a1), (5, .int r160), (0, .ref (ad 0)), (1, .int a1), (2, .int a2), (3, .int a3), (4, .int a4)]) hx hb dX12_way_46 hl (by decide) rfl (fun ls hl => ?_)
        refine lv_iconst (v := 0) hx hb dX12_way_48 (by decide) ?_
        refine lv_istore (lv' := [(8, .int 0), (7, .int a3), (6, .int a1), (5, .int r160), (0, .ref (ad 0)), (1, .int a1), (2, .int a2), (3, .int a3), (4, .int a4)]) hx hb dX12_way_49 hl (by decide) rfl (fun ls hl => ?_)
        exact L51 ((2147483647 - (0 : Int)).toNat + 1) r160 a1 a3 0 x155 H locs ls w162 (show 0 ≤ a1.toInt by omega) (show a1.toInt ≤ 9 by omega) (show 0 ≤ a2.toInt by omega) (show a2.toInt ≤ 9 by omega) (show 0 ≤ a3.toInt by omega) (show a3.toInt ≤ 99999 by omega) (show 0 ≤ a4.toInt by omega) (show 0 ≤ r160.toInt by omega) (show r160.toInt ≤ 100000100 by omega) (show 0 ≤ a1.toInt by omega) (show a1.toInt ≤ 12 by omega) (show 0 ≤ a3.toInt by omega) (show a3.toInt ≤ 100000208 by omega) (by decide) (show 1 ≤ x155.toInt by omega) (show x155.toInt ≤ 10 by omega) (show (0 : Int) ≤ a4.toInt + 0 by omega) (Nat.lt_succ_self _) hw hT hF c167 (lv_sub hl [4, 5, 6, 7, 8, 3, 2, 1, 0] rfl)
      · have c168 : r160.toInt = (100000000 : Int) := wk_eq.mp c168
        refine lv_bipush (v := (-2)) hx hb dX12_way_39 (by decide) ?_
        exact tk_iret hC hr hlocks hK ⟨hT, hF, (Or.inl ⟨rfl, (show 0 ≤ a1.toInt by omega), (show a1.toInt ≤ 9 by omega), (show 0 ≤ a2.toInt by omega), (show a2.toInt ≤ 9 by omega), (show 0 ≤ a3.toInt by omega), (show a3.toInt ≤ 99999 by omega), (show 0 ≤ a4.toInt by omega), ⟨x155, c167, (show 1 ≤ x155.toInt by omega), (show x155.toInt ≤ 10 by omega)⟩⟩)⟩ hw dX12_way_41
    · have c158 : a4.toInt < (0 : Int) := wk_leF c158
      exact J15  H locs ls w0   hw hT hF  (lv_sub hl [0, 1, 2, 3, 4] rfl)
abbrev P_X12_in_15 (ad : Nat → Nat) (cy : Nat → ClassId) (B : Int) (qr : Nat) (s1 : Int) (a0 : Int64) (w0 : va_W) : Int32 → va_W → Prop := fun r u => w0 = u ∧ ((r = 0) ∨ (r = 1 ∧ 0 ≤ a0.toInt ∧ a0.toInt ≤ 2))
set_option maxHeartbeats 4000000 in
set_option maxRecDepth 100000 in
theorem k_X12_in_15 (l : Launch) (adK adV : Nat → Nat) (dC : Nat → ClassId) (dI : Nat → Nat → Nat) (cy : Nat → ClassId) (ad : Nat → Nat) (B : Int) (hB0 : 100000 ≤ B) (hB1 : B ≤ 1073741824) (qr : Nat) (s1 : Int)  (a0 : Int64) (ra0 : (-2147483648) ≤ a0.toInt) (ta0 : a0.toInt ≤ 2147483647) (w0 : va_W) (sz : Nat) (hT : TW ksM ad cy B qr 12 w0)  : Met l yX12_in wsX12_in ({ frames := 1, cells := 0, slots := 0, locals := 12 }) (va_Pc [.long a0, .long 0, .long 2] (wpreS adK adV dC dI cy sz w0)) (va_Qi (P_X12_in_15 ad cy B qr s1 a0 w0) (fun u : va_W => wpost dC dI cy (va_A w0 sz) u) (va_A w0 sz)) 0 0 (va_A w0 sz) := by
  refine Met.ofW (cc := cX12_in) (maxL := 6) (ret := (some .boolean)) (by decide) rfl ?_
  intro p e s m args below meth c s₁ Bk hml hv
  obtain ⟨rfl, ⟨hsz, hP, hK, hD0⟩, hE, hSR⟩ := hv
  have hx := Bk.exec
  have hb := Bk.bytes
  have hr := Bk.returns
  have hlocks := Bk.notSynchronized
  have hC : CallFix p m c cX12_in 6 s _ wsX12_in RX12 := ⟨hx, hb, hml, findClass_of_methodNamed Bk.named, atoms_spec (ws := wsX12_in) Bk.pre⟩
  subst hsz
  have hD := hD0.self (sz := s.heap.size)
  generalize hAe : va_A w0 s.heap.size = A at hD hE ⊢
  have hA : ∀ q : Nat, s.heap.size ≤ q → A q := fun q h => by rw [← hAe]; exact Or.inr h
  have hw : Wd dC dI A s.heap s.heap [] w0 := ⟨hP, hD, va_S.rf⟩
  have hF : FE ksM ([] : List (Nat × Nat × Nat)) w0 w0 := FE.rf
  have hl := lv_entry ([.long a0, .long 0, .long 2]) (n := 6) (Nat.le_of_ble_eq_true rfl)
  rw [lg_entry_eq]
  generalize (lg_sl ([.long a0, .long 0, .long 2]) ++ List.replicate (6 - (lg_sl ([.long a0, .long 0, .long 2])).length) Slot.unset).toArray = ls at hl ⊢
  have hl : lv_has ls 6 [(0, .long a0), (2, .long 0), (4, .long 2)] := hl
  generalize hloc : ([] : List Loc) = locs at hw ⊢
  have J17 : ∀ (H : Heap) (locs : List Loc) (ls : Array Slot), (-2147483648) ≤ a0.toInt → a0.toInt ≤ 2147483647 → Wd dC dI A s.heap H locs w0 → lv_has ls 6 [(0, .long a0), (2, .long 0), (4, .long 2)] → W p l e ({ frames := 1, cells := 0, slots := 0, locals := 12 }) s m (List.toArray [.long a0, .long 0, .long 2]) below meth c H locs 0 0 (MQ below (va_Qi (P_X12_in_15 ad cy B qr s1 a0 w0) (fun u : va_W => wpost dC dI cy A u) A) (List.toArray [.long a0, .long 0, .long 2]) s 0 0 A) (F0 m 17 ls []) := by
    intro H locs ls r1 t2 hw hl
    refine lv_iconst (v := 0) hx hb dX12_in_17 (by decide) ?_
    exact tk_zret hC hr rfl hlocks hK ⟨rfl, (Or.inl rfl)⟩ hw dX12_in_18
  refine lv_lload_n hx hb dX12_in_0 rfl (lv_at hl 0 rfl) ?_
  refine lv_lload_n hx hb dX12_in_1 rfl (lv_at hl 1 rfl) ?_
  refine W.lcmp hx hb dX12_in_2 ?_
  refine lv_if_lt (tgt := 17) hx hb dX12_in_3 (by decide) (fun c3 => ?_) (fun c3 => ?_)
  · have c3 : a0.toInt < (0 : Int) := wk_cltT c3
    exact J17  s.heap locs ls  (show (-2147483648) ≤ a0.toInt by omega) (show a0.toInt ≤ 2147483647 by omega)  hw   (lv_sub hl [0, 1, 2] rfl)
  · have c3 : (0 : Int) ≤ a0.toInt := wk_cltF c3
    refine lv_lload_n hx hb dX12_in_6 rfl (lv_at hl 0 rfl) ?_
    refine lv_lload hx hb dX12_in_7 (lv_at hl 2 rfl) ?_
    refine W.lcmp hx hb dX12_in_9 ?_
    refine lv_if_gt (tgt := 17) hx hb dX12_in_10 (by decide) (fun c4 => ?_) (fun c4 => ?_)
    · have c4 : (2 : Int) < a0.toInt := wk_cgtT c4
      exact J17  s.heap locs ls  (show (-2147483648) ≤ a0.toInt by omega) (show a0.toInt ≤ 2147483647 by omega)  hw   (lv_sub hl [0, 1, 2] rfl)
    · have c4 : a0.toInt ≤ (2 : Int) := wk_cgtF c4
      refine lv_iconst (v := 1) hx hb dX12_in_13 (by decide) ?_
      refine lv_goto (tgt := 18) hx hb dX12_in_14 (by decide) ?_
      exact tk_zret hC hr rfl hlocks hK ⟨rfl, (Or.inr ⟨rfl, (show 0 ≤ a0.toInt by omega), (show a0.toInt ≤ 2 by omega)⟩)⟩ hw dX12_in_18
abbrev P_X12_in_16 (ad : Nat → Nat) (cy : Nat → ClassId) (B : Int) (qr : Nat) (s1 : Int) (a0 : Int64) (w0 : va_W) : Int32 → va_W → Prop := fun r u => w0 = u ∧ ((r = 0) ∨ (r = 1 ∧ 0 ≤ a0.toInt ∧ a0.toInt ≤ 400))
set_option maxHeartbeats 4000000 in
set_option maxRecDepth 100000 in
theorem k_X12_in_16 (l : Launch) (adK adV : Nat → Nat) (dC : Nat → ClassId) (dI : Nat → Nat → Nat) (cy : Nat → ClassId) (ad : Nat → Nat) (B : Int) (hB0 : 100000 ≤ B) (hB1 : B ≤ 1073741824) (qr : Nat) (s1 : Int)  (a0 : Int64) (ra0 : (-2147483648) ≤ a0.toInt) (ta0 : a0.toInt ≤ 2147483647) (w0 : va_W) (sz : Nat) (hT : TW ksM ad cy B qr 12 w0)  : Met l yX12_in wsX12_in ({ frames := 1, cells := 0, slots := 0, locals := 12 }) (va_Pc [.long a0, .long 0, .long 400] (wpreS adK adV dC dI cy sz w0)) (va_Qi (P_X12_in_16 ad cy B qr s1 a0 w0) (fun u : va_W => wpost dC dI cy (va_A w0 sz) u) (va_A w0 sz)) 0 0 (va_A w0 sz) := by
  refine Met.ofW (cc := cX12_in) (maxL := 6) (ret := (some .boolean)) (by decide) rfl ?_
  intro p e s m args below meth c s₁ Bk hml hv
  obtain ⟨rfl, ⟨hsz, hP, hK, hD0⟩, hE, hSR⟩ := hv
  have hx := Bk.exec
  have hb := Bk.bytes
  have hr := Bk.returns
  have hlocks := Bk.notSynchronized
  have hC : CallFix p m c cX12_in 6 s _ wsX12_in RX12 := ⟨hx, hb, hml, findClass_of_methodNamed Bk.named, atoms_spec (ws := wsX12_in) Bk.pre⟩
  subst hsz
  have hD := hD0.self (sz := s.heap.size)
  generalize hAe : va_A w0 s.heap.size = A at hD hE ⊢
  have hA : ∀ q : Nat, s.heap.size ≤ q → A q := fun q h => by rw [← hAe]; exact Or.inr h
  have hw : Wd dC dI A s.heap s.heap [] w0 := ⟨hP, hD, va_S.rf⟩
  have hF : FE ksM ([] : List (Nat × Nat × Nat)) w0 w0 := FE.rf
  have hl := lv_entry ([.long a0, .long 0, .long 400]) (n := 6) (Nat.le_of_ble_eq_true rfl)
  rw [lg_entry_eq]
  generalize (lg_sl ([.long a0, .long 0, .long 400]) ++ List.replicate (6 - (lg_sl ([.long a0, .long 0, .long 400])).length) Slot.unset).toArray = ls at hl ⊢
  have hl : lv_has ls 6 [(0, .long a0), (2, .long 0), (4, .long 400)] := hl
  generalize hloc : ([] : List Loc) = locs at hw ⊢
  have J17 : ∀ (H : Heap) (locs : List Loc) (ls : Array Slot), (-2147483648) ≤ a0.toInt → a0.toInt ≤ 2147483647 → Wd dC dI A s.heap H locs w0 → lv_has ls 6 [(0, .long a0), (2, .long 0), (4, .long 400)] → W p l e ({ frames := 1, cells := 0, slots := 0, locals := 12 }) s m (List.toArray [.long a0, .long 0, .long 400]) below meth c H locs 0 0 (MQ below (va_Qi (P_X12_in_16 ad cy B qr s1 a0 w0) (fun u : va_W => wpost dC dI cy A u) A) (List.toArray [.long a0, .long 0, .long 400]) s 0 0 A) (F0 m 17 ls []) := by
    intro H locs ls r1 t2 hw hl
    refine lv_iconst (v := 0) hx hb dX12_in_17 (by decide) ?_
    exact tk_zret hC hr rfl hlocks hK ⟨rfl, (Or.inl rfl)⟩ hw dX12_in_18
  refine lv_lload_n hx hb dX12_in_0 rfl (lv_at hl 0 rfl) ?_
  refine lv_lload_n hx hb dX12_in_1 rfl (lv_at hl 1 rfl) ?_
  refine W.lcmp hx hb dX12_in_2 ?_
  refine lv_if_lt (tgt := 17) hx hb dX12_in_3 (by decide) (fun c3 => ?_) (fun c3 => ?_)
  · have c3 : a0.toInt < (0 : Int) := wk_cltT c3
    exact J17  s.heap locs ls  (show (-2147483648) ≤ a0.toInt by omega) (show a0.toInt ≤ 2147483647 by omega)  hw   (lv_sub hl [0, 1, 2] rfl)
  · have c3 : (0 : Int) ≤ a0.toInt := wk_cltF c3
    refine lv_lload_n hx hb dX12_in_6 rfl (lv_at hl 0 rfl) ?_
    refine lv_lload hx hb dX12_in_7 (lv_at hl 2 rfl) ?_
    refine W.lcmp hx hb dX12_in_9 ?_
    refine lv_if_gt (tgt := 17) hx hb dX12_in_10 (by decide) (fun c4 => ?_) (fun c4 => ?_)
    · have c4 : (400 : Int) < a0.toInt := wk_cgtT c4
      exact J17  s.heap locs ls  (show (-2147483648) ≤ a0.toInt by omega) (show a0.toInt ≤ 2147483647 by omega)  hw   (lv_sub hl [0, 1, 2] rfl)
    · have c4 : a0.toInt ≤ (400 : Int) := wk_cgtF c4
      refine lv_iconst (v := 1) hx hb dX12_in_13 (by decide) ?_
      refine lv_goto (tgt := 18) hx hb dX12_in_14 (by decide) ?_
      exact tk_zret hC hr rfl hlocks hK ⟨rfl, (Or.inr ⟨rfl, (show 0 ≤ a0.toInt by omega), (show a0.toInt ≤ 400 by omega)⟩)⟩ hw dX12_in_18
abbrev P_X12_keeps_1 (ad : Nat → Nat) (cy : Nat → ClassId) (B : Int) (qr : Nat) (s1 : Int)  (w0 : va_W) : va_W → Prop := fun u => TW ksM ad cy B qr 12 u ∧ FE ksM [(74, 0, 296)] w0 u ∧ ((gi u 15 (0) = gi w0 12 0 ∧ gi u 15 (4) = gi w0 12 4 ∧ gi u 15 (9) = gi w0 12 9))
set_option maxHeartbeats 4000000 in
set_option maxRecDepth 100000 in
theorem k_X12_keeps_1 (l : Launch) (adK adV : Nat → Nat) (dC : Nat → ClassId) (dI : Nat → Nat → Nat) (cy : Nat → ClassId) (ad : Nat → Nat) (B : Int) (hB0 : 100000 ≤ B) (hB1 : B ≤ 1073741824) (qr : Nat) (s1 : Int)   (w0 : va_W) (sz : Nat) (hT : TW ksM ad cy B qr 12 w0)  : Met l yX12_keeps wsX12_keeps ({ frames := 1, cells := 0, slots := 0, locals := 12 }) (va_Pc [.ref (ad 0)] (wpreS adK adV dC dI cy sz w0)) (va_Qv (P_X12_keeps_1 ad cy B qr s1  w0) (fun u : va_W => wpost dC dI cy (va_A w0 sz) u) (va_A w0 sz)) 0 0 (va_A w0 sz) := by
  refine Met.ofW (cc := cX12_keeps) (maxL := 2) (ret := none) (by decide) rfl ?_
  intro p e s m args below meth c s₁ Bk hml hv
  obtain ⟨rfl, ⟨hsz, hP, hK, hD0⟩, hE, hSR⟩ := hv
  have hx := Bk.exec
  have hb := Bk.bytes
  have hr := Bk.returns
  have hlocks := Bk.notSynchronized
  have hC : CallFix p m c cX12_keeps 2 s _ wsX12_keeps RX12 := ⟨hx, hb, hml, findClass_of_methodNamed Bk.named, atoms_spec (ws := wsX12_keeps) Bk.pre⟩
  subst hsz
  have hD := hD0.self (sz := s.heap.size)
  generalize hAe : va_A w0 s.heap.size = A at hD hE ⊢
  have hA : ∀ q : Nat, s.heap.size ≤ q → A q := fun q h => by rw [← hAe]; exact Or.inr h
  have hw : Wd dC dI A s.heap s.heap [] w0 := ⟨hP, hD, va_S.rf⟩
  have hF : FE ksM [(74, 0, 296)] w0 w0 := FE.rf
  have hl := lv_entry ([.ref (ad 0)]) (n := 2) (Nat.le_of_ble_eq_true rfl)
  rw [lg_entry_eq]
  generalize (lg_sl ([.ref (ad 0)]) ++ List.replicate (2 - (lg_sl ([.ref (ad 0)])).length) Slot.unset).toArray = ls at hl ⊢
  have hl : lv_has ls 2 [(0, .ref (ad 0))] := hl
  generalize hloc : ([] : List Loc) = locs at hw ⊢
  have hinX12 : ∀ w ∈ u_ws RX12 TX12 42, w ∈ wsX12_keeps := fun _ h => List.mem_cons_of_mem _ (List.mem_append_right _ (h))
  have L2 : ∀ (n2 : Nat) (v2_1 : Int32) (H : Heap) (locs : List Loc) (ls : Array Slot) (w1 : va_W), 0 ≤ v2_1.toInt → v2_1.toInt ≤ 296 → (v2_1.toInt ≤ 0 ∨ gi w1 15 (0) = gi w0 12 0) → (v2_1.toInt ≤ 4 ∨ gi w1 15 (4) = gi w0 12 4) → (v2_1.toInt ≤ 9 ∨ gi w1 15 (9) = gi w0 12 9) → (296 - v2_1.toInt).toNat < n2 → Wd dC dI A s.heap H locs w1 → TW ksM ad cy B qr 12 w1 → FE ksM [(74, 0, 296)] w0 w1 → lv_has ls 2 [(0, .ref (ad 0)), (1, .int v2_1)] → W p l e ({ frames := 1, cells := 0, slots := 0, locals := 12 }) s m (List.toArray [.ref (ad 0)]) below meth c H locs 0 0 (MQ below (va_Qv (P_X12_keeps_1 ad cy B qr s1  w0) (fun u : va_W => wpost dC dI cy A u) A) (List.toArray [.ref (ad 0)]) s 0 0 A) (F0 m 2 ls []) := by
    intro n2
    induction n2 with
    | zero => intro v2_1 H locs ls w1 r2 t3 hcp0 hcp1 hcp2 hm2 hw hT hF hl; omega
    | succ n2 ih2 =>
      intro v2_1 H locs ls w1 r2 t3 hcp0 hcp1 hcp2 hm2 hw hT hF hl
      refine lv_iload_n hx hb dX12_keeps_2 rfl (lv_at hl 1 rfl) ?_
      refine lv_sipush (v := 296) hx hb dX12_keeps_3 (by decide) ?_
      refine lv_icmp_ge (tgt := 27) hx hb dX12_keeps_6 (by decide) (fun c4 => ?_) (fun c4 => ?_)
      · have c4 : (296 : Int) ≤ v2_1.toInt := wk_le.mp c4
        exact tk_vret hC hr hlocks hK ⟨hT, hF, ⟨(hcp0.resolve_left (by omega)), (hcp1.resolve_left (by omega)), (hcp2.resolve_left (by omega))⟩⟩ hw dX12_keeps_27
      · have c4 : v2_1.toInt < (296 : Int) := wk_leF c4
        refine lv_aload_n hx hb dX12_keeps_9 rfl (lv_at hl 0 rfl) ?_
        refine tk_getA hC hK hw hT hinX12 kM_at0 (by decide) rfl 32 (by decide) (List.mem_of_getElem? (i := 1) rfl) rfl rfl dX12_keeps_10 ?_
        refine lv_iload_n hx hb dX12_keeps_13 rfl (lv_at hl 1 rfl) ?_
        refine lv_aload_n hx hb dX12_keeps_14 rfl (lv_at hl 0 rfl) ?_
        refine tk_getA hC hK hw hT hinX12 kM_at0 (by decide) rfl 26 (by decide) (List.mem_of_getElem? (i := 2) rfl) rfl rfl dX12_keeps_15 ?_
        refine lv_iload_n hx hb dX12_keeps_18 rfl (lv_at hl 1 rfl) ?_
        refine tk_ialdR hC hK hw hT kM_at12 rfl (show 0 ≤ v2_1.toInt by omega) (show v2_1.toInt < 296 by omega) dX12_keeps_19 (fun x5 c6 Ex5 => ?_)
        have lEx5 : gi w1 12 (v2_1.toInt).toNat = x5 := c6
        have c6 : gi w1 12 (v2_1.toInt).toNat = x5 := (congrArg (gi w1 12) (congrArg Int.toNat (show v2_1.toInt = v2_1.toInt by omega))).trans c6
        have hF0 := hF
        refine tk_iastR hC hK hw hT kM_at15 (by decide) rfl (show 0 ≤ v2_1.toInt by omega) (show v2_1.toInt < 296 by omega) (tk_rgC rfl rfl (show v2_1.toInt.toNat % 296 = v2_1.toInt.toNat % 296 by omega) Ex5) dX12_keeps_20 (fun H locs w7 hw hT k9 c8 => ?_)
        have hF := hF.put kM_at15 (inE_of (a := 0) (b := 296) (by decide) (show 0 ≤ v2_1.toInt.toNat by omega) (show v2_1.toInt.toNat ≤ 296 by omega)) k9
        have c10 := k9.gi (Or.inl (tk_ne kM_at12 kM_at15 (by decide))) c6
        obtain ⟨x11, ex11⟩ : ∃ y : Int32, y = v2_1 + Int32.ofInt 1 := ⟨_, rfl⟩
        refine lv_iinc (v := x11) (lv' := [(1, .int x11), (0, .ref (ad 0))]) hx hb dX12_keeps_21 hl (k := 1) rfl ex11.symm (by decide) rfl (fun ls hl => ?_)
        have ex11 : x11.toInt = v2_1.toInt + 1 := by rw [ex11]; exact wk_add (y := 1) (show -2147483648 ≤ v2_1.toInt + 1 by omega) (show v2_1.toInt + 1 ≤ 2147483647 by omega)
        refine lv_goto (tgt := 2) hx hb dX12_keeps_24 (by decide) ?_
        exact ih2 x11 H locs ls w7 (show 0 ≤ x11.toInt by omega) (show x11.toInt ≤ 296 by omega) (copy_at (d := 0) (by first | rfl | omega) hcp0 k9 (show v2_1.toInt = v2_1.toInt + 0 by omega) c8 lEx5 (hF0.gi kM_at12 rfl rfl) (by omega) (by omega) (by omega)) (copy_at (d := 0) (by first | rfl | omega) hcp1 k9 (show v2_1.toInt = v2_1.toInt + 0 by omega) c8 lEx5 (hF0.gi kM_at12 rfl rfl) (by omega) (by omega) (by omega)) (copy_at (d := 0) (by first | rfl | omega) hcp2 k9 (show v2_1.toInt = v2_1.toInt + 0 by omega) c8 lEx5 (hF0.gi kM_at12 rfl rfl) (by omega) (by omega) (by omega)) (show (296 - x11.toInt).toNat < n2 by omega) hw hT hF  (lv_sub hl [1, 0] rfl)
  refine lv_iconst (v := 0) hx hb dX12_keeps_0 (by decide) ?_
  refine lv_istore_n (lv' := [(1, .int 0), (0, .ref (ad 0))]) hx hb dX12_keeps_1 rfl hl (by decide) rfl (fun ls hl => ?_)
  exact L2 ((296 - (0 : Int)).toNat + 1) 0 s.heap locs ls w0 (by decide) (by decide) (show ((0 : Int) ≤ 0 ∨ gi w0 15 (0) = gi w0 12 0) from Or.inl (by omega)) (show ((0 : Int) ≤ 4 ∨ gi w0 15 (4) = gi w0 12 4) from Or.inl (by omega)) (show ((0 : Int) ≤ 9 ∨ gi w0 15 (9) = gi w0 12 9) from Or.inl (by omega)) (Nat.lt_succ_self _) hw hT hF  (lv_sub hl [1, 0] rfl)
abbrev P_X12_putsBack_1 (ad : Nat → Nat) (cy : Nat → ClassId) (B : Int) (qr : Nat) (s1 : Int)  (w0 : va_W) : va_W → Prop := fun u => TW ksM ad cy B qr 12 u ∧ FE ksM [(71, 0, 295)] w0 u ∧ ((gi u 12 (0) = gi w0 15 0 ∧ gi u 12 (4) = gi w0 15 4 ∧ gi u 12 (9) = gi w0 15 9))
set_option maxHeartbeats 4000000 in
set_option maxRecDepth 100000 in
theorem k_X12_putsBack_1 (l : Launch) (adK adV : Nat → Nat) (dC : Nat → ClassId) (dI : Nat → Nat → Nat) (cy : Nat → ClassId) (ad : Nat → Nat) (B : Int) (hB0 : 100000 ≤ B) (hB1 : B ≤ 1073741824) (qr : Nat) (s1 : Int)   (w0 : va_W) (sz : Nat) (hT : TW ksM ad cy B qr 12 w0)  : Met l yX12_putsBack wsX12_putsBack ({ frames := 1, cells := 0, slots := 0, locals := 12 }) (va_Pc [.ref (ad 0)] (wpreS adK adV dC dI cy sz w0)) (va_Qv (P_X12_putsBack_1 ad cy B qr s1  w0) (fun u : va_W => wpost dC dI cy (va_A w0 sz) u) (va_A w0 sz)) 0 0 (va_A w0 sz) := by
  refine Met.ofW (cc := cX12_putsBack) (maxL := 2) (ret := none) (by decide) rfl ?_
  intro p e s m args below meth c s₁ Bk hml hv
  obtain ⟨rfl, ⟨hsz, hP, hK, hD0⟩, hE, hSR⟩ := hv
  have hx := Bk.exec
  have hb := Bk.bytes
  have hr := Bk.returns
  have hlocks := Bk.notSynchronized
  have hC : CallFix p m c cX12_putsBack 2 s _ wsX12_putsBack RX12 := ⟨hx, hb, hml, findClass_of_methodNamed Bk.named, atoms_spec (ws := wsX12_putsBack) Bk.pre⟩
  subst hsz
  have hD := hD0.self (sz := s.heap.size)
  generalize hAe : va_A w0 s.heap.size = A at hD hE ⊢
  have hA : ∀ q : Nat, s.heap.size ≤ q → A q := fun q h => by rw [← hAe]; exact Or.inr h
  have hw : Wd dC dI A s.heap s.heap [] w0 := ⟨hP, hD, va_S.rf⟩
  have hF : FE ksM [(71, 0, 295)] w0 w0 := FE.rf
  have hl := lv_entry ([.ref (ad 0)]) (n := 2) (Nat.le_of_ble_eq_true rfl)
  rw [lg_entry_eq]
  generalize (lg_sl ([.ref (ad 0)]) ++ List.replicate (2 - (lg_sl ([.ref (ad 0)])).length) Slot.unset).toArray = ls at hl ⊢
  have hl : lv_has ls 2 [(0, .ref (ad 0))] := hl
  generalize hloc : ([] : List Loc) = locs at hw ⊢
  have hinX12 : ∀ w ∈ u_ws RX12 TX12 42, w ∈ wsX12_putsBack := fun _ h => List.mem_cons_of_mem _ (List.mem_append_right _ (h))
  have L2 : ∀ (n2 : Nat) (v2_1 : Int32) (H : Heap) (locs : List Loc) (ls : Array Slot) (w1 : va_W), 0 ≤ v2_1.toInt → v2_1.toInt ≤ 296 → (v2_1.toInt ≤ 0 ∨ gi w1 12 (0) = gi w0 15 0) → (v2_1.toInt ≤ 4 ∨ gi w1 12 (4) = gi w0 15 4) → (v2_1.toInt ≤ 9 ∨ gi w1 12 (9) = gi w0 15 9) → (296 - v2_1.toInt).toNat < n2 → Wd dC dI A s.heap H locs w1 → TW ksM ad cy B qr 12 w1 → FE ksM [(71, 0, 295)] w0 w1 → lv_has ls 2 [(0, .ref (ad 0)), (1, .int v2_1)] → W p l e ({ frames := 1, cells := 0, slots := 0, locals := 12 }) s m (List.toArray [.ref (ad 0)]) below meth c H locs 0 0 (MQ below (va_Qv (P_X12_putsBack_1 ad cy B qr s1  w0) (fun u : va_W => wpost dC dI cy A u) A) (List.toArray [.ref (ad 0)]) s 0 0 A) (F0 m 2 ls []) := by
    intro n2
    induction n2 with
    | zero => intro v2_1 H locs ls w1 r2 t3 hcp0 hcp1 hcp2 hm2 hw hT hF hl; omega
    | succ n2 ih2 =>
      intro v2_1 H locs ls w1 r2 t3 hcp0 hcp1 hcp2 hm2 hw hT hF hl
      refine lv_iload_n hx hb dX12_putsBack_2 rfl (lv_at hl 1 rfl) ?_
      refine lv_sipush (v := 296) hx hb dX12_putsBack_3 (by decide) ?_
      refine lv_icmp_ge (tgt := 27) hx hb dX12_putsBack_6 (by decide) (fun c4 => ?_) (fun c4 => ?_)
      · have c4 : (296 : Int) ≤ v2_1.toInt := wk_le.mp c4
        exact tk_vret hC hr hlocks hK ⟨hT, hF, ⟨(hcp0.resolve_left (by omega)), (hcp1.resolve_left (by omega)), (hcp2.resolve_left (by omega))⟩⟩ hw dX12_putsBack_27
      · have c4 : v2_1.toInt < (296 : Int) := wk_leF c4
        refine lv_aload_n hx hb dX12_putsBack_9 rfl (lv_at hl 0 rfl) ?_
        refine tk_getA hC hK hw hT hinX12 kM_at0 (by decide) rfl 26 (by decide) (List.mem_of_getElem? (i := 1) rfl) rfl rfl dX12_putsBack_10 ?_
        refine lv_iload_n hx hb dX12_putsBack_13 rfl (lv_at hl 1 rfl) ?_
        refine lv_aload_n hx hb dX12_putsBack_14 rfl (lv_at hl 0 rfl) ?_
        refine tk_getA hC hK hw hT hinX12 kM_at0 (by decide) rfl 32 (by decide) (List.mem_of_getElem? (i := 2) rfl) rfl rfl dX12_putsBack_15 ?_
        refine lv_iload_n hx hb dX12_putsBack_18 rfl (lv_at hl 1 rfl) ?_
        refine tk_ialdR hC hK hw hT kM_at15 rfl (show 0 ≤ v2_1.toInt by omega) (show v2_1.toInt < 296 by omega) dX12_putsBack_19 (fun x5 c6 Ex5 => ?_)
        have lEx5 : gi w1 15 (v2_1.toInt).toNat = x5 := c6
        have hF0 := hF
        refine tk_iastR hC hK hw hT kM_at12 (by decide) rfl (show 0 ≤ v2_1.toInt by omega) (show v2_1.toInt < 296 by omega) (tk_rgC rfl rfl (show v2_1.toInt.toNat % 296 = v2_1.toInt.toNat % 296 by omega) Ex5) dX12_putsBack_20 (fun H locs w7 hw hT k9 c8 => ?_)
        have hF := hF.put kM_at12 (inE_of (a := 0) (b := 295) (by decide) (show 0 ≤ v2_1.toInt.toNat by omega) (show v2_1.toInt.toNat ≤ 295 by omega)) k9
        obtain ⟨x10, ex10⟩ : ∃ y : Int32, y = v2_1 + Int32.ofInt 1 := ⟨_, rfl⟩
        refine lv_iinc (v := x10) (lv' := [(1, .int x10), (0, .ref (ad 0))]) hx hb dX12_putsBack_21 hl (k := 1) rfl ex10.symm (by decide) rfl (fun ls hl => ?_)
        have ex10 : x10.toInt = v2_1.toInt + 1 := by rw [ex10]; exact wk_add (y := 1) (show -2147483648 ≤ v2_1.toInt + 1 by omega) (show v2_1.toInt + 1 ≤ 2147483647 by omega)
        refine lv_goto (tgt := 2) hx hb dX12_putsBack_24 (by decide) ?_
        exact ih2 x10 H locs ls w7 (show 0 ≤ x10.toInt by omega) (show x10.toInt ≤ 296 by omega) (copy_at (d := 0) (by first | rfl | omega) hcp0 k9 (show v2_1.toInt = v2_1.toInt + 0 by omega) c8 lEx5 (hF0.gi kM_at15 rfl rfl) (by omega) (by omega) (by omega)) (copy_at (d := 0) (by first | rfl | omega) hcp1 k9 (show v2_1.toInt = v2_1.toInt + 0 by omega) c8 lEx5 (hF0.gi kM_at15 rfl rfl) (by omega) (by omega) (by omega)) (copy_at (d := 0) (by first | rfl | omega) hcp2 k9 (show v2_1.toInt = v2_1.toInt + 0 by omega) c8 lEx5 (hF0.gi kM_at15 rfl rfl) (by omega) (by omega) (by omega)) (show (296 - x10.toInt).toNat < n2 by omega) hw hT hF  (lv_sub hl [1, 0] rfl)
  refine lv_iconst (v := 0) hx hb dX12_putsBack_0 (by decide) ?_
  refine lv_istore_n (lv' := [(1, .int 0), (0, .ref (ad 0))]) hx hb dX12_putsBack_1 rfl hl (by decide) rfl (fun ls hl => ?_)
  exact L2 ((296 - (0 : Int)).toNat + 1) 0 s.heap locs ls w0 (by decide) (by decide) (show ((0 : Int) ≤ 0 ∨ gi w0 12 (0) = gi w0 15 0) from Or.inl (by omega)) (show ((0 : Int) ≤ 4 ∨ gi w0 12 (4) = gi w0 15 4) from Or.inl (by omega)) (show ((0 : Int) ≤ 9 ∨ gi w0 12 (9) = gi w0 15 9) from Or.inl (by omega)) (Nat.lt_succ_self _) hw hT hF  (lv_sub hl [1, 0] rfl)
abbrev P_X12_comes_1 (ad : Nat → Nat) (cy : Nat → ClassId) (B : Int) (qr : Nat) (s1 : Int) (a1 : Int32) (a2 : Int32) (a3 : Int32) (w0 : va_W) : Int32 → va_W → Prop := fun r u => TW ksM ad cy (B + 3600) qr 12 u ∧ FE ksM [(12, 24, 24), (12, 31, 31), (69, 0, 64), (70, 0, 10), (71, 0, 295), (71, 216, 243), (71, 220, 247), (71, 221, 248), (71, 222, 249), (71, 223, 250), (71, 224, 251), (72, 0, 12), (73, 0, 10), (74, 0, 296)] w0 u ∧ ((0 ≤ a1.toInt ∧ a1.toInt ≤ 3 ∧ 0 ≤ a2.toInt ∧ a2.toInt ≤ 400 ∧ 2 ≤ a3.toInt ∧ a3.toInt ≤ 2) ∨ (r = (-2) ∧ 0 ≤ a1.toInt ∧ a1.toInt ≤ 3 ∧ 0 ≤ a2.toInt ∧ a2.toInt ≤ 400 ∧ 0 ≤ a3.toInt ∧ a3.toInt ≤ 0) ∨ (0 ≤ r.toInt ∧ r.toInt ≤ 1073741824 ∧ 0 ≤ a1.toInt ∧ a1.toInt ≤ 3 ∧ 0 ≤ a2.toInt ∧ a2.toInt ≤ 400 ∧ 0 ≤ a3.toInt ∧ a3.toInt ≤ 1) ∨ (r = (-1)))
set_option maxHeartbeats 4000000 in
set_option maxRecDepth 100000 in
theorem k_X12_comes_1 (l : Launch) (adK adV : Nat → Nat) (dC : Nat → ClassId) (dI : Nat → Nat → Nat) (cy : Nat → ClassId) (ad : Nat → Nat) (B : Int) (hB0 : 100000 ≤ B) (hB1 : B ≤ 1073738224) (qr : Nat) (s1 : Int)  (a1 : Int32) (a2 : Int32) (a3 : Int32) (w0 : va_W) (sz : Nat) (hT : TW ksM ad cy B qr 12 w0) (hRW : RW w0) : Met l yX12_comes wsX12_comes ({ frames := 9, cells := 0, slots := 0, locals := 194 }) (va_Pc [.ref (ad 0), .int a1, .int a2, .int a3] (wpreS adK adV dC dI cy sz w0)) (va_Qi (P_X12_comes_1 ad cy B qr s1 a1 a2 a3 w0) (fun u : va_W => wpost dC dI cy (va_A w0 sz) u) (va_A w0 sz)) 0 0 (va_A w0 sz) := by
  refine Met.ofW (cc := cX12_comes) (maxL := 7) (ret := (some .int)) (by decide) rfl ?_
  intro p e s m args below meth c s₁ Bk hml hv
  obtain ⟨rfl, ⟨hsz, hP, hK, hD0⟩, hE, hSR⟩ := hv
  have hx := Bk.exec
  have hb := Bk.bytes
  have hr := Bk.returns
  have hlocks := Bk.notSynchronized
  have hC : CallFix p m c cX12_comes 7 s _ wsX12_comes RX12 := ⟨hx, hb, hml, findClass_of_methodNamed Bk.named, atoms_spec (ws := wsX12_comes) Bk.pre⟩
  subst hsz
  have hD := hD0.self (sz := s.heap.size)
  generalize hAe : va_A w0 s.heap.size = A at hD hE ⊢
  have hA : ∀ q : Nat, s.heap.size ≤ q → A q := fun q h => by rw [← hAe]; exact Or.inr h
  have hw : Wd dC dI A s.heap s.heap [] w0 := ⟨hP, hD, va_S.rf⟩
  have hF : FE ksM [(12, 24, 24), (12, 31, 31), (69, 0, 64), (70, 0, 10), (71, 0, 295), (71, 216, 243), (71, 220, 247), (71, 221, 248), (71, 222, 249), (71, 223, 250), (71, 224, 251), (72, 0, 12), (73, 0, 10), (74, 0, 296)] w0 w0 := FE.rf
  have hl := lv_entry ([.ref (ad 0), .int a1, .int a2, .int a3]) (n := 7) (Nat.le_of_ble_eq_true rfl)
  rw [lg_entry_eq]
  generalize (lg_sl ([.ref (ad 0), .int a1, .int a2, .int a3]) ++ List.replicate (7 - (lg_sl ([.ref (ad 0), .int a1, .int a2, .int a3])).length) Slot.unset).toArray = ls at hl ⊢
  have hl : lv_has ls 7 [(0, .ref (ad 0)), (1, .int a1), (2, .int a2), (3, .int a3)] := hl
  generalize hloc : ([] : List Loc) = locs at hw ⊢
  have J32 : ∀ (H : Heap) (locs : List Loc) (ls : Array Slot) (w1 : va_W), Wd dC dI A s.heap H locs w1 → TW ksM ad cy B qr 12 w1 → FE ksM [(12, 24, 24), (12, 31, 31), (69, 0, 64), (70, 0, 10), (71, 0, 295), (71, 216, 243), (71, 220, 247), (71, 221, 248), (71, 222, 249), (71, 223, 250), (71, 224, 251), (72, 0, 12), (73, 0, 10), (74, 0, 296)] w0 w1 → RW w1 → lv_has ls 7 [(0, .ref (ad 0)), (1, .int a1), (2, .int a2), (3, .int a3)] → W p l e ({ frames := 9, cells := 0, slots := 0, locals := 194 }) s m (List.toArray [.ref (ad 0), .int a1, .int a2, .int a3]) below meth c H locs 0 0 (MQ below (va_Qi (P_X12_comes_1 ad cy B qr s1 a1 a2 a3 w0) (fun u : va_W => wpost dC dI cy A u) A) (List.toArray [.ref (ad 0), .int a1, .int a2, .int a3]) s 0 0 A) (F0 m 32 ls []) := by
    intro H locs ls w1 hw hT hF hRW hl
    refine lv_iconst (v := (-1)) hx hb dX12_comes_32 (by decide) ?_
    exact tk_iret hC hr hlocks hK ⟨(hT.up (show B ≤ (B + 3600) by omega)), hF, (Or.inr (Or.inr (Or.inr rfl)))⟩ hw dX12_comes_33
  have J76 : ∀ (v76_4 : Int32) (v76_5 : Int32) (f76_12_5 : Int32) (H : Heap) (locs : List Loc) (ls : Array Slot) (w2 : va_W), 0 ≤ a1.toInt → a1.toInt ≤ 3 → 0 ≤ a2.toInt → a2.toInt ≤ 400 → 0 ≤ a3.toInt → a3.toInt ≤ 2 → 0 ≤ v76_4.toInt → v76_4.toInt ≤ 400 → 1 ≤ f76_12_5.toInt → f76_12_5.toInt ≤ 4 → Wd dC dI A s.heap H locs w2 → TW ksM ad cy (B + 3600) qr 12 w2 → FE ksM [(12, 24, 24), (12, 31, 31), (69, 0, 64), (70, 0, 10), (71, 0, 295), (71, 216, 243), (71, 220, 247), (71, 221, 248), (71, 222, 249), (71, 223, 250), (71, 224, 251), (72, 0, 12), (73, 0, 10), (74, 0, 296)] w0 w2 → RW w2 → gi w2 12 5 = f76_12_5 → lv_has ls 7 [(0, .ref (ad 0)), (1, .int a1), (2, .int a2), (3, .int a3), (4, .int v76_4), (5, .int v76_5)] → W p l e ({ frames := 9, cells := 0, slots := 0, locals := 194 }) s m (List.toArray [.ref (ad 0), .int a1, .int a2, .int a3]) below meth c H locs 0 0 (MQ below (va_Qi (P_X12_comes_1 ad cy B qr s1 a1 a2 a3 w0) (fun u : va_W => wpost dC dI cy A u) A) (List.toArray [.ref (ad 0), .int a1, .int a2, .int a3]) s 0 0 A) (F0 m 76 ls []) := by
    intro v76_4 v76_5 f76_12_5 H locs ls w2 r3 t4 r5 t6 r7 t8 r9 t10 r11 t12 hw hT hF hRW c13 hl
    refine lv_iload_n hx hb dX12_comes_76 rfl (lv_at hl 3 rfl) ?_
    refine lv_if_ne (tgt := 102) hx hb dX12_comes_77 (by decide) (fun c14 => ?_) (fun c14 => ?_)
    · have c14 : ¬ a3.toInt = (0 : Int) := wk_eqF c14
      refine lv_iload_n hx hb dX12_comes_102 rfl (lv_at hl 3 rfl) ?_
      refine lv_iconst (v := 1) hx hb dX12_comes_103 (by decide) ?_
      refine lv_icmp_ne (tgt := 112) hx hb dX12_comes_104 (by decide) (fun c15 => ?_) (fun c15 => ?_)
      · have c15 : ¬ a3.toInt = (1 : Int) := wk_eqF c15
        refine lv_aload_n hx hb dX12_comes_112 rfl (lv_at hl 0 rfl) ?_
        refine lv_iload_n hx hb dX12_comes_113 rfl (lv_at hl 1 rfl) ?_
        refine lv_bipush (v := 6) hx hb dX12_comes_114 (by decide) ?_
        refine tk_Vi hC hK hw hT hA hE hSR kM_at0 (by decide) rfl (k_X12_walkerOf_8 l adK adV dC dI cy ad (B + 3600) (by omega) (by omega) qr s1   a1 (show 0 ≤ a1.toInt by omega) (show a1.toInt ≤ 3 by omega) w2 H.size hT ) (cwV 2 hC.2.2.2.2 gX12_comes_X12_walkerOf rfl rfl rfl (by decide +kernel) ⟨Nat.le_of_ble_eq_true rfl, Nat.le_of_ble_eq_true rfl⟩) rfl hl.1 rfl (Nat.le_of_ble_eq_true rfl) dX12_comes_116 (fun r16 w18 H locs hp17 hw => ?_)
        obtain ⟨rfl, hg21⟩ := hp17
        have c20 := hg21
        refine lv_iload hx hb dX12_comes_119 (lv_at hl 5 rfl) ?_
        refine lv_isub hx hb dX12_comes_121 ?_
        have nx22 := wk_i32 r16
        have nx23 := wk_i32 v76_5
        refine lv_topi (fun x24 ex24 => ?_)
        refine lv_istore (lv' := [(6, .int x24), (0, .ref (ad 0)), (1, .int a1), (2, .int a2), (3, .int a3), (4, .int v76_4), (5, .int v76_5)]) hx hb dX12_comes_122 hl (by decide) rfl (fun ls hl => ?_)
        refine lv_aload_n hx hb dX12_comes_124 rfl (lv_at hl 1 rfl) ?_
        refine tk_Vv hC hK hw hT hA hE hSR kM_at0 (by decide) rfl (k_X12_putsBack_1 l adK adV dC dI cy ad (B + 3600) (by omega) (by omega) qr s1    w2 H.size hT ) (cwV 0 hC.2.2.2.2 gX12_comes_X12_putsBack rfl rfl rfl (by decide +kernel) ⟨Nat.le_of_ble_eq_true rfl, Nat.le_of_ble_eq_true rfl⟩) rfl hl.1 rfl (Nat.le_of_ble_eq_true rfl) dX12_comes_125 (fun w27 H locs hp26 hw => ?_)
        obtain ⟨hT, k28, hg32⟩ := hp26
        have hRW := RW_FE k28 (fun _ => rfl) (fun _ => rfl) (fun _ => rfl) hRW
        have hF := hF.tr k28 (by decide)
        obtain ⟨c29, c30, c31⟩ := hg32
        refine lv_iload hx hb dX12_comes_128 (lv_at hl 0 rfl) ?_
        exact tk_iret hC hr hlocks hK ⟨hT, hF, (Or.inl ⟨(show 0 ≤ a1.toInt by omega), (show a1.toInt ≤ 3 by omega), (show 0 ≤ a2.toInt by omega), (show a2.toInt ≤ 400 by omega), (show 2 ≤ a3.toInt by omega), (show a3.toInt ≤ 2 by omega)⟩)⟩ hw dX12_comes_130
      · have c15 : a3.toInt = (1 : Int) := wk_eq.mp c15
        refine lv_iload hx hb dX12_comes_107 (lv_at hl 4 rfl) ?_
        refine lv_goto (tgt := 122) hx hb dX12_comes_109 (by decide) ?_
        refine lv_istore (lv' := [(6, .int v76_4), (0, .ref (ad 0)), (1, .int a1), (2, .int a2), (3, .int a3), (4, .int v76_4), (5, .int v76_5)]) hx hb dX12_comes_122 hl (by decide) rfl (fun ls hl => ?_)
        refine lv_aload_n hx hb dX12_comes_124 rfl (lv_at hl 1 rfl) ?_
        refine tk_Vv hC hK hw hT hA hE hSR kM_at0 (by decide) rfl (k_X12_putsBack_1 l adK adV dC dI cy ad (B + 3600) (by omega) (by omega) qr s1    w2 H.size hT ) (cwV 0 hC.2.2.2.2 gX12_comes_X12_putsBack rfl rfl rfl (by decide +kernel) ⟨Nat.le_of_ble_eq_true rfl, Nat.le_of_ble_eq_true rfl⟩) rfl hl.1 rfl (Nat.le_of_ble_eq_true rfl) dX12_comes_125 (fun w35 H locs hp34 hw => ?_)
        obtain ⟨hT, k36, hg40⟩ := hp34
        have hRW := RW_FE k36 (fun _ => rfl) (fun _ => rfl) (fun _ => rfl) hRW
        have hF := hF.tr k36 (by decide)
        obtain ⟨c37, c38, c39⟩ := hg40
        refine lv_iload hx hb dX12_comes_128 (lv_at hl 0 rfl) ?_
        exact tk_iret hC hr hlocks hK ⟨hT, hF, (Or.inr (Or.inr (Or.inl ⟨(show 0 ≤ v76_4.toInt by omega), (show v76_4.toInt ≤ 1073741824 by omega), (show 0 ≤ a1.toInt by omega), (show a1.toInt ≤ 3 by omega), (show 0 ≤ a2.toInt by omega), (show a2.toInt ≤ 400 by omega), (show 0 ≤ a3.toInt by omega), (show a3.toInt ≤ 1 by omega)⟩)))⟩ hw dX12_comes_130
    · have c14 : a3.toInt = (0 : Int) := wk_eq.mp c14
      refine lv_aload_n hx hb dX12_comes_80 rfl (lv_at hl 0 rfl) ?_
      refine lv_iload_n hx hb dX12_comes_81 rfl (lv_at hl 1 rfl) ?_
      refine tk_Vi hC hK hw hT hA hE hSR kM_at0 (by decide) rfl (k_X12_isThere_1 l adK adV dC dI cy ad (B + 3600) (by omega) (by omega) qr s1   a1 (show 0 ≤ a1.toInt by omega) (show a1.toInt ≤ 3 by omega) w2 H.size hT ) (cwV 1 hC.2.2.2.2 gX12_comes_X12_isThere rfl rfl rfl (by decide +kernel) ⟨Nat.le_of_ble_eq_true rfl, Nat.le_of_ble_eq_true rfl⟩) rfl hl.1 rfl (Nat.le_of_ble_eq_true rfl) dX12_comes_82 (fun r41 w43 H locs hp42 hw => ?_)
      obtain ⟨rfl, hg45⟩ := hp42
      rcases hg45 with rfl | rfl
      · refine lv_if_eq (tgt := 97) hx hb dX12_comes_85 (by decide) (fun _ => ?_) (fun c => absurd (by decide) c)
        refine lv_bipush (v := (-2)) hx hb dX12_comes_97 (by decide) ?_
        refine lv_goto (tgt := 122) hx hb dX12_comes_99 (by decide) ?_
        refine lv_istore (lv' := [(6, .int (-2)), (0, .ref (ad 0)), (1, .int a1), (2, .int a2), (3, .int a3), (4, .int v76_4), (5, .int v76_5)]) hx hb dX12_comes_122 hl (by decide) rfl (fun ls hl => ?_)
        refine lv_aload_n hx hb dX12_comes_124 rfl (lv_at hl 1 rfl) ?_
        refine tk_Vv hC hK hw hT hA hE hSR kM_at0 (by decide) rfl (k_X12_putsBack_1 l adK adV dC dI cy ad (B + 3600) (by omega) (by omega) qr s1    w2 H.size hT ) (cwV 0 hC.2.2.2.2 gX12_comes_X12_putsBack rfl rfl rfl (by decide +kernel) ⟨Nat.le_of_ble_eq_true rfl, Nat.le_of_ble_eq_true rfl⟩) rfl hl.1 rfl (Nat.le_of_ble_eq_true rfl) dX12_comes_125 (fun w48 H locs hp47 hw => ?_)
        obtain ⟨hT, k49, hg53⟩ := hp47
        have hRW := RW_FE k49 (fun _ => rfl) (fun _ => rfl) (fun _ => rfl) hRW
        have hF := hF.tr k49 (by decide)
        obtain ⟨c50, c51, c52⟩ := hg53
        refine lv_iload hx hb dX12_comes_128 (lv_at hl 0 rfl) ?_
        exact tk_iret hC hr hlocks hK ⟨hT, hF, (Or.inr (Or.inl ⟨rfl, (show 0 ≤ a1.toInt by omega), (show a1.toInt ≤ 3 by omega), (show 0 ≤ a2.toInt by omega), (show a2.toInt ≤ 400 by omega), (show 0 ≤ a3.toInt by omega), (show a3.toInt ≤ 0 by omega)⟩))⟩ hw dX12_comes_130
      · refine lv_if_eq (tgt := 97) hx hb dX12_comes_85 (by decide) (fun c => absurd c (by decide)) (fun _ => ?_)
        refine lv_aload_n hx hb dX12_comes_88 rfl (lv_at hl 0 rfl) ?_
        refine lv_iload_n hx hb dX12_comes_89 rfl (lv_at hl 1 rfl) ?_
        refine lv_iconst (v := 4) hx hb dX12_comes_90 (by decide) ?_
        refine tk_Vi hC hK hw hT hA hE hSR kM_at0 (by decide) rfl (k_X12_walkerOf_4 l adK adV dC dI cy ad (B + 3600) (by omega) (by omega) qr s1   a1 (show 0 ≤ a1.toInt by omega) (show a1.toInt ≤ 3 by omega) w2 H.size hT ) (cwV 2 hC.2.2.2.2 gX12_comes_X12_walkerOf rfl rfl rfl (by decide +kernel) ⟨Nat.le_of_ble_eq_true rfl, Nat.le_of_ble_eq_true rfl⟩) rfl hl.1 rfl (Nat.le_of_ble_eq_true rfl) dX12_comes_91 (fun r54 w56 H locs hp55 hw => ?_)
        obtain ⟨rfl, hg61⟩ := hp55
        obtain ⟨g58, g59, c60⟩ := hg61
        refine lv_goto (tgt := 122) hx hb dX12_comes_94 (by decide) ?_
        refine lv_istore (lv' := [(6, .int r54), (0, .ref (ad 0)), (1, .int a1), (2, .int a2), (3, .int a3), (4, .int v76_4), (5, .int v76_5)]) hx hb dX12_comes_122 hl (by decide) rfl (fun ls hl => ?_)
        refine lv_aload_n hx hb dX12_comes_124 rfl (lv_at hl 1 rfl) ?_
        refine tk_Vv hC hK hw hT hA hE hSR kM_at0 (by decide) rfl (k_X12_putsBack_1 l adK adV dC dI cy ad (B + 3600) (by omega) (by omega) qr s1    w2 H.size hT ) (cwV 0 hC.2.2.2.2 gX12_comes_X12_putsBack rfl rfl rfl (by decide +kernel) ⟨Nat.le_of_ble_eq_true rfl, Nat.le_of_ble_eq_true rfl⟩) rfl hl.1 rfl (Nat.le_of_ble_eq_true rfl) dX12_comes_125 (fun w64 H locs hp63 hw => ?_)
        obtain ⟨hT, k65, hg69⟩ := hp63
        have hRW := RW_FE k65 (fun _ => rfl) (fun _ => rfl) (fun _ => rfl) hRW
        have hF := hF.tr k65 (by decide)
        obtain ⟨c66, c67, c68⟩ := hg69
        refine lv_iload hx hb dX12_comes_128 (lv_at hl 0 rfl) ?_
        exact tk_iret hC hr hlocks hK ⟨hT, hF, (Or.inr (Or.inr (Or.inl ⟨(show 0 ≤ r54.toInt by omega), (show r54.toInt ≤ 1073741824 by omega), (show 0 ≤ a1.toInt by omega), (show a1.toInt ≤ 3 by omega), (show 0 ≤ a2.toInt by omega), (show a2.toInt ≤ 400 by omega), (show 0 ≤ a3.toInt by omega), (show a3.toInt ≤ 1 by omega)⟩)))⟩ hw dX12_comes_130
  have L50 : ∀ (n50 : Nat) (v50_4 : Int32) (v50_5 : Int32) (f50_12_5 : Int32) (H : Heap) (locs : List Loc) (ls : Array Slot) (w70 : va_W), 0 ≤ a1.toInt → a1.toInt ≤ 3 → 0 ≤ a2.toInt → a2.toInt ≤ 400 → 0 ≤ a3.toInt → a3.toInt ≤ 2 → 0 ≤ v50_4.toInt → v50_4.toInt ≤ 400 → 1 ≤ f50_12_5.toInt → f50_12_5.toInt ≤ 4 → (400 - v50_4.toInt).toNat < n50 → Wd dC dI A s.heap H locs w70 → TW ksM ad cy (B + 0 + 9 * v50_4.toInt) qr 12 w70 → FE ksM [(12, 24, 24), (12, 31, 31), (69, 0, 64), (70, 0, 10), (71, 0, 295), (71, 216, 243), (71, 220, 247), (71, 221, 248), (71, 222, 249), (71, 223, 250), (71, 224, 251), (72, 0, 12), (73, 0, 10), (74, 0, 296)] w0 w70 → RW w70 → gi w70 12 5 = f50_12_5 → lv_has ls 7 [(0, .ref (ad 0)), (1, .int a1), (2, .int a2), (3, .int a3), (4, .int v50_4), (5, .int v50_5)] → W p l e ({ frames := 9, cells := 0, slots := 0, locals := 194 }) s m (List.toArray [.ref (ad 0), .int a1, .int a2, .int a3]) below meth c H locs 0 0 (MQ below (va_Qi (P_X12_comes_1 ad cy B qr s1 a1 a2 a3 w0) (fun u : va_W => wpost dC dI cy A u) A) (List.toArray [.ref (ad 0), .int a1, .int a2, .int a3]) s 0 0 A) (F0 m 50 ls []) := by
    intro n50
    induction n50 with
    | zero => intro v50_4 v50_5 f50_12_5 H locs ls w70 r71 t72 r73 t74 r75 t76 r77 t78 r79 t80 hm50 hw hT hF hRW c81 hl; omega
    | succ n50 ih50 =>
      intro v50_4 v50_5 f50_12_5 H locs ls w70 r71 t72 r73 t74 r75 t76 r77 t78 r79 t80 hm50 hw hT hF hRW c81 hl
      refine lv_iload hx hb dX12_comes_50 (lv_at hl 4 rfl) ?_
      refine lv_iload_n hx hb dX12_comes_52 rfl (lv_at hl 2 rfl) ?_
      refine lv_icmp_ge (tgt := 76) hx hb dX12_comes_53 (by decide) (fun c82 => ?_) (fun c82 => ?_)
      · have c82 : a2.toInt ≤ v50_4.toInt := wk_le.mp c82
        exact J76 v50_4 v50_5 f50_12_5 H locs ls w70 (show 0 ≤ a1.toInt by omega) (show a1.toInt ≤ 3 by omega) (show 0 ≤ a2.toInt by omega) (show a2.toInt ≤ 400 by omega) (show 0 ≤ a3.toInt by omega) (show a3.toInt ≤ 2 by omega) (show 0 ≤ v50_4.toInt by omega) (show v50_4.toInt ≤ 400 by omega) (show 1 ≤ f50_12_5.toInt by omega) (show f50_12_5.toInt ≤ 4 by omega)  hw (hT.up (show (B + 0 + 9 * v50_4.toInt) ≤ (B + 3600) by omega)) hF hRW c81 (lv_sub hl [0, 1, 2, 3, 4, 5] rfl)
      · have c82 : v50_4.toInt < a2.toInt := wk_leF c82
        refine lv_aload_n hx hb dX12_comes_56 rfl (lv_at hl 0 rfl) ?_
        refine lv_iload_n hx hb dX12_comes_57 rfl (lv_at hl 1 rfl) ?_
        refine tk_Vi hC hK hw hT hA hE hSR kM_at0 (by decide) rfl (k_X12_isThere_1 l adK adV dC dI cy ad (B + 0 + 9 * v50_4.toInt) (by omega) (by omega) qr s1   a1 (show 0 ≤ a1.toInt by omega) (show a1.toInt ≤ 3 by omega) w70 H.size hT ) (cwV 1 hC.2.2.2.2 gX12_comes_X12_isThere rfl rfl rfl (by decide +kernel) ⟨Nat.le_of_ble_eq_true rfl, Nat.le_of_ble_eq_true rfl⟩) rfl hl.1 rfl (Nat.le_of_ble_eq_true rfl) dX12_comes_58 (fun r83 w85 H locs hp84 hw => ?_)
        obtain ⟨rfl, hg87⟩ := hp84
        rcases hg87 with rfl | rfl
        · refine lv_if_ne (tgt := 76) hx hb dX12_comes_61 (by decide) (fun c => absurd (by decide) c) (fun _ => ?_)
          refine lv_aload_n hx hb dX12_comes_64 rfl (lv_at hl 0 rfl) ?_
          refine lv_iload_n hx hb dX12_comes_65 rfl (lv_at hl 1 rfl) ?_
          refine tk_Vi hC hK hw hT hA hE hSR kM_at0 (by decide) rfl (k_X12_steps_1 l adK adV dC dI cy ad (B + 0 + 9 * v50_4.toInt) (by omega) (by omega) qr s1   a1 (show 0 ≤ a1.toInt by omega) (show a1.toInt ≤ 3 by omega) w70 H.size hT hRW) (cwV 1 hC.2.2.2.2 gX12_comes_X12_steps rfl rfl rfl (by decide +kernel) ⟨Nat.le_of_ble_eq_true rfl, Nat.le_of_ble_eq_true rfl⟩) rfl hl.1 rfl (Nat.le_of_ble_eq_true rfl) dX12_comes_66 (fun r88 w90 H locs hp89 hw => ?_)
          obtain ⟨hT, k91, hg92⟩ := hp89
          have hT := hT.up (B' := (B + 9 + 9 * v50_4.toInt)) (by omega)
          have hRW := RW_FE k91 (fun _ => rfl) (fun _ => rfl) (fun _ => rfl) hRW
          have hF := hF.tr k91 (by decide)
          have c93 := k91.gi kM_at12 (by decide) c81
          rcases hg92 with rfl | rfl
          · refine lv_pop hx hb dX12_comes_69 rfl ?_
            obtain ⟨x94, ex94⟩ : ∃ y : Int32, y = v50_4 + Int32.ofInt 1 := ⟨_, rfl⟩
            refine lv_iinc (v := x94) (lv' := [(4, .int x94), (0, .ref (ad 0)), (1, .int a1), (2, .int a2), (3, .int a3), (5, .int v50_5)]) hx hb dX12_comes_70 hl (k := 4) rfl ex94.symm (by decide) rfl (fun ls hl => ?_)
            have ex94 : x94.toInt = v50_4.toInt + 1 := by rw [ex94]; exact wk_add (y := 1) (show -2147483648 ≤ v50_4.toInt + 1 by omega) (show v50_4.toInt + 1 ≤ 2147483647 by omega)
            refine lv_goto (tgt := 50) hx hb dX12_comes_73 (by decide) ?_
            exact ih50 x94 v50_5 f50_12_5 H locs ls w90 (show 0 ≤ a1.toInt by omega) (show a1.toInt ≤ 3 by omega) (show 0 ≤ a2.toInt by omega) (show a2.toInt ≤ 400 by omega) (show 0 ≤ a3.toInt by omega) (show a3.toInt ≤ 2 by omega) (show 0 ≤ x94.toInt by omega) (show x94.toInt ≤ 400 by omega) (show 1 ≤ f50_12_5.toInt by omega) (show f50_12_5.toInt ≤ 4 by omega) (show (400 - x94.toInt).toNat < n50 by omega) hw (hT.up (show (B + 9 + 9 * v50_4.toInt) ≤ (B + 0 + 9 * x94.toInt) by omega)) hF hRW c93 (lv_sub hl [1, 2, 3, 4, 0, 5] rfl)
          · refine lv_pop hx hb dX12_comes_69 rfl ?_
            obtain ⟨x95, ex95⟩ : ∃ y : Int32, y = v50_4 + Int32.ofInt 1 := ⟨_, rfl⟩
            refine lv_iinc (v := x95) (lv' := [(4, .int x95), (0, .ref (ad 0)), (1, .int a1), (2, .int a2), (3, .int a3), (5, .int v50_5)]) hx hb dX12_comes_70 hl (k := 4) rfl ex95.symm (by decide) rfl (fun ls hl => ?_)
            have ex95 : x95.toInt = v50_4.toInt + 1 := by rw [ex95]; exact wk_add (y := 1) (show -2147483648 ≤ v50_4.toInt + 1 by omega) (show v50_4.toInt + 1 ≤ 2147483647 by omega)
            refine lv_goto (tgt := 50) hx hb dX12_comes_73 (by decide) ?_
            exact ih50 x95 v50_5 f50_12_5 H locs ls w90 (show 0 ≤ a1.toInt by omega) (show a1.toInt ≤ 3 by omega) (show 0 ≤ a2.toInt by omega) (show a2.toInt ≤ 400 by omega) (show 0 ≤ a3.toInt by omega) (show a3.toInt ≤ 2 by omega) (show 0 ≤ x95.toInt by omega) (show x95.toInt ≤ 400 by omega) (show 1 ≤ f50_12_5.toInt by omega) (show f50_12_5.toInt ≤ 4 by omega) (show (400 - x95.toInt).toNat < n50 by omega) hw (hT.up (show (B + 9 + 9 * v50_4.toInt) ≤ (B + 0 + 9 * x95.toInt) by omega)) hF hRW c93 (lv_sub hl [1, 2, 3, 4, 0, 5] rfl)
        · refine lv_if_ne (tgt := 76) hx hb dX12_comes_61 (by decide) (fun _ => ?_) (fun c => absurd c (by decide))
          exact J76 v50_4 v50_5 f50_12_5 H locs ls w70 (show 0 ≤ a1.toInt by omega) (show a1.toInt ≤ 3 by omega) (show 0 ≤ a2.toInt by omega) (show a2.toInt ≤ 400 by omega) (show 0 ≤ a3.toInt by omega) (show a3.toInt ≤ 2 by omega) (show 0 ≤ v50_4.toInt by omega) (show v50_4.toInt ≤ 400 by omega) (show 1 ≤ f50_12_5.toInt by omega) (show f50_12_5.toInt ≤ 4 by omega)  hw (hT.up (show (B + 0 + 9 * v50_4.toInt) ≤ (B + 3600) by omega)) hF hRW c81 (lv_sub hl [0, 1, 2, 3, 4, 5] rfl)
  refine lv_aload_n hx hb dX12_comes_0 rfl (lv_at hl 0 rfl) ?_
  refine lv_iload_n hx hb dX12_comes_1 rfl (lv_at hl 1 rfl) ?_
  refine tk_Vi hC hK hw hT hA hE hSR kM_at0 (by decide) rfl (k_X12_isWalker_1 l adK adV dC dI cy ad B (by omega) (by omega) qr s1   a1 w0 s.heap.size hT ) (cwV 1 hC.2.2.2.2 gX12_comes_X12_isWalker rfl rfl rfl (by decide +kernel) ⟨Nat.le_of_ble_eq_true rfl, Nat.le_of_ble_eq_true rfl⟩) rfl hl.1 rfl (Nat.le_of_ble_eq_true rfl) dX12_comes_2 (fun r96 w98 H locs hp97 hw => ?_)
  obtain ⟨rfl, hg104⟩ := hp97
  rcases hg104 with rfl | ⟨rfl, g100, g101, ⟨x102, c103, rx102, tx102⟩⟩
  · refine lv_if_eq (tgt := 32) hx hb dX12_comes_5 (by decide) (fun _ => ?_) (fun c => absurd (by decide) c)
    exact J32  H locs ls w0   hw hT hF hRW  (lv_sub hl [0, 1, 2, 3] rfl)
  · refine lv_if_eq (tgt := 32) hx hb dX12_comes_5 (by decide) (fun c => absurd c (by decide)) (fun _ => ?_)
    refine lv_iload_n hx hb dX12_comes_8 rfl (lv_at hl 2 rfl) ?_
    refine lv_i2l hx hb dX12_comes_9 rfl ?_
    refine lv_topl (fun x105 ex105 => ?_)
    have ex105 : x105.toInt = a2.toInt := by rw [ex105]; exact wk_i2l _
    have bx105 := wk_i32 a2
    refine lv_lconst (v := 0) hx hb dX12_comes_10 (by decide) ?_
    refine lv_ldc2 (v := 400) hx hb hC.2.2.2.1 (hC.2.2.2.2 _ (List.mem_of_getElem? (i := 1) rfl)) dX12_comes_11 ?_
    refine tk_Si hC hK hw hT hA hE hSR (k_X12_in_16 l adK adV dC dI cy ad B (by omega) (by omega) qr s1   x105 (show (-2147483648) ≤ x105.toInt by omega) (show x105.toInt ≤ 2147483647 by omega) w0 H.size hT ) (va_cwS 3 hC.2.2.2.2 gX12_comes_X12_in rfl rfl rfl (by decide +kernel) ⟨Nat.le_of_ble_eq_true rfl, Nat.le_of_ble_eq_true rfl⟩) rfl hl.1 rfl (Nat.le_of_ble_eq_true rfl) dX12_comes_14 (fun r106 w108 H locs hp107 hw => ?_)
    obtain ⟨rfl, hg112⟩ := hp107
    rcases hg112 with rfl | ⟨rfl, g110, g111⟩
    · refine lv_if_eq (tgt := 32) hx hb dX12_comes_17 (by decide) (fun _ => ?_) (fun c => absurd (by decide) c)
      exact J32  H locs ls w0   hw hT hF hRW  (lv_sub hl [0, 1, 2, 3] rfl)
    · refine lv_if_eq (tgt := 32) hx hb dX12_comes_17 (by decide) (fun c => absurd c (by decide)) (fun _ => ?_)
      refine lv_iload_n hx hb dX12_comes_20 rfl (lv_at hl 3 rfl) ?_
      refine lv_i2l hx hb dX12_comes_21 rfl ?_
      refine lv_topl (fun x113 ex113 => ?_)
      have ex113 : x113.toInt = a3.toInt := by rw [ex113]; exact wk_i2l _
      have bx113 := wk_i32 a3
      refine lv_lconst (v := 0) hx hb dX12_comes_22 (by decide) ?_
      refine lv_ldc2 (v := 2) hx hb hC.2.2.2.1 (hC.2.2.2.2 _ (List.mem_of_getElem? (i := 2) rfl)) dX12_comes_23 ?_
      refine tk_Si hC hK hw hT hA hE hSR (k_X12_in_15 l adK adV dC dI cy ad B (by omega) (by omega) qr s1   x113 (show (-2147483648) ≤ x113.toInt by omega) (show x113.toInt ≤ 2147483647 by omega) w0 H.size hT ) (va_cwS 3 hC.2.2.2.2 gX12_comes_X12_in rfl rfl rfl (by decide +kernel) ⟨Nat.le_of_ble_eq_true rfl, Nat.le_of_ble_eq_true rfl⟩) rfl hl.1 rfl (Nat.le_of_ble_eq_true rfl) dX12_comes_26 (fun r114 w116 H locs hp115 hw => ?_)
      obtain ⟨rfl, hg120⟩ := hp115
      rcases hg120 with rfl | ⟨rfl, g118, g119⟩
      · refine lv_if_ne (tgt := 34) hx hb dX12_comes_29 (by decide) (fun c => absurd (by decide) c) (fun _ => ?_)
        exact J32  H locs ls w0   hw hT hF hRW  (lv_sub hl [0, 1, 2, 3] rfl)
      · refine lv_if_ne (tgt := 34) hx hb dX12_comes_29 (by decide) (fun _ => ?_) (fun c => absurd c (by decide))
        refine lv_aload_n hx hb dX12_comes_34 rfl (lv_at hl 0 rfl) ?_
        refine tk_Vv hC hK hw hT hA hE hSR kM_at0 (by decide) rfl (k_X12_keeps_1 l adK adV dC dI cy ad B (by omega) (by omega) qr s1    w0 H.size hT ) (cwV 0 hC.2.2.2.2 gX12_comes_X12_keeps rfl rfl rfl (by decide +kernel) ⟨Nat.le_of_ble_eq_true rfl, Nat.le_of_ble_eq_true rfl⟩) rfl hl.1 rfl (Nat.le_of_ble_eq_true rfl) dX12_comes_35 (fun w123 H locs hp122 hw => ?_)
        obtain ⟨hT, k124, hg128⟩ := hp122
        have hRW := RW_FE k124 (fun _ => rfl) (fun _ => rfl) (fun _ => rfl) hRW
        have hF := hF.tr k124 (by decide)
        have c129 := k124.gi kM_at12 (by decide) c103
        obtain ⟨c125, c126, c127⟩ := hg128
        refine lv_iconst (v := 0) hx hb dX12_comes_38 (by decide) ?_
        refine lv_istore (lv' := [(4, .int 0), (0, .ref (ad 0)), (1, .int a1), (2, .int a2), (3, .int a3)]) hx hb dX12_comes_39 hl (by decide) rfl (fun ls hl => ?_)
        refine lv_aload_n hx hb dX12_comes_41 rfl (lv_at hl 1 rfl) ?_
        refine lv_iload_n hx hb dX12_comes_42 rfl (lv_at hl 2 rfl) ?_
        refine lv_bipush (v := 6) hx hb dX12_comes_43 (by decide) ?_
        refine tk_Vi hC hK hw hT hA hE hSR kM_at0 (by decide) rfl (k_X12_walkerOf_8 l adK adV dC dI cy ad B (by omega) (by omega) qr s1   a1 (show 0 ≤ a1.toInt by omega) (show a1.toInt ≤ 3 by omega) w123 H.size hT ) (cwV 2 hC.2.2.2.2 gX12_comes_X12_walkerOf rfl rfl rfl (by decide +kernel) ⟨Nat.le_of_ble_eq_true rfl, Nat.le_of_ble_eq_true rfl⟩) rfl hl.1 rfl (Nat.le_of_ble_eq_true rfl) dX12_comes_45 (fun r130 w132 H locs hp131 hw => ?_)
        obtain ⟨rfl, hg135⟩ := hp131
        have c134 := hg135
        refine lv_istore (lv' := [(5, .int r130), (4, .int 0), (0, .ref (ad 0)), (1, .int a1), (2, .int a2), (3, .int a3)]) hx hb dX12_comes_48 hl (by decide) rfl (fun ls hl => ?_)
        exact L50 ((400 - (0 : Int)).toNat + 1) 0 r130 x102 H locs ls w123 (show 0 ≤ a1.toInt by omega) (show a1.toInt ≤ 3 by omega) (show 0 ≤ a2.toInt by omega) (show a2.toInt ≤ 400 by omega) (show 0 ≤ a3.toInt by omega) (show a3.toInt ≤ 2 by omega) (by decide) (by decide) (show 1 ≤ x102.toInt by omega) (show x102.toInt ≤ 4 by omega) (Nat.lt_succ_self _) hw (hT.up (show B ≤ (B + 0 + 9 * (0 : Int32).toInt) by rw [show (0 : Int32).toInt = 0 by decide]; omega)) hF hRW c129 (lv_sub hl [2, 3, 4, 5, 1, 0] rfl)
abbrev P_X12_asHeIs_1 (ad : Nat → Nat) (cy : Nat → ClassId) (B : Int) (qr : Nat) (s1 : Int) (a1 : Int32) (w0 : va_W) : Int32 → va_W → Prop := fun r u => w0 = u ∧ ((0 ≤ r.toInt ∧ r.toInt ≤ 18479))
set_option maxHeartbeats 4000000 in
set_option maxRecDepth 100000 in
theorem k_X12_asHeIs_1 (l : Launch) (adK adV : Nat → Nat) (dC : Nat → ClassId) (dI : Nat → Nat → Nat) (cy : Nat → ClassId) (ad : Nat → Nat) (B : Int) (hB0 : 100000 ≤ B) (hB1 : B ≤ 1073741824) (qr : Nat) (s1 : Int)  (a1 : Int32) (ra1 : 0 ≤ a1.toInt) (ta1 : a1.toInt ≤ 3) (w0 : va_W) (sz : Nat) (hT : TW ksM ad cy B qr 12 w0)  : Met l yX12_asHeIs wsX12_asHeIs ({ frames := 2, cells := 0, slots := 0, locals := 34 }) (va_Pc [.ref (ad 0), .int a1] (wpreS adK adV dC dI cy sz w0)) (va_Qi (P_X12_asHeIs_1 ad cy B qr s1 a1 w0) (fun u : va_W => wpost dC dI cy (va_A w0 sz) u) (va_A w0 sz)) 0 0 (va_A w0 sz) := by
  refine Met.ofW (cc := cX12_asHeIs) (maxL := 2) (ret := (some .int)) (by decide) rfl ?_
  intro p e s m args below meth c s₁ Bk hml hv
  obtain ⟨rfl, ⟨hsz, hP, hK, hD0⟩, hE, hSR⟩ := hv
  have hx := Bk.exec
  have hb := Bk.bytes
  have hr := Bk.returns
  have hlocks := Bk.notSynchronized
  have hC : CallFix p m c cX12_asHeIs 2 s _ wsX12_asHeIs RX12 := ⟨hx, hb, hml, findClass_of_methodNamed Bk.named, atoms_spec (ws := wsX12_asHeIs) Bk.pre⟩
  subst hsz
  have hD := hD0.self (sz := s.heap.size)
  generalize hAe : va_A w0 s.heap.size = A at hD hE ⊢
  have hA : ∀ q : Nat, s.heap.size ≤ q → A q := fun q h => by rw [← hAe]; exact Or.inr h
  have hw : Wd dC dI A s.heap s.heap [] w0 := ⟨hP, hD, va_S.rf⟩
  have hF : FE ksM ([] : List (Nat × Nat × Nat)) w0 w0 := FE.rf
  have hl := lv_entry ([.ref (ad 0), .int a1]) (n := 2) (Nat.le_of_ble_eq_true rfl)
  rw [lg_entry_eq]
  generalize (lg_sl ([.ref (ad 0), .int a1]) ++ List.replicate (2 - (lg_sl ([.ref (ad 0), .int a1])).length) Slot.unset).toArray = ls at hl ⊢
  have hl : lv_has ls 2 [(0, .ref (ad 0)), (1, .int a1)] := hl
  generalize hloc : ([] : List Loc) = locs at hw ⊢
  refine lv_aload_n hx hb dX12_asHeIs_0 rfl (lv_at hl 0 rfl) ?_
  refine lv_iload_n hx hb dX12_asHeIs_1 rfl (lv_at hl 1 rfl) ?_
  refine lv_iconst (v := 0) hx hb dX12_asHeIs_2 (by decide) ?_
  refine tk_Vi hC hK hw hT hA hE hSR kM_at0 (by decide) rfl (k_X12_walkerOf_2 l adK adV dC dI cy ad B (by omega) (by omega) qr s1   a1 (show 0 ≤ a1.toInt by omega) (show a1.toInt ≤ 3 by omega) w0 s.heap.size hT ) (cwV 2 hC.2.2.2.2 gX12_asHeIs_X12_walkerOf rfl rfl rfl (by decide +kernel) ⟨Nat.le_of_ble_eq_true rfl, Nat.le_of_ble_eq_true rfl⟩) rfl hl.1 rfl (Nat.le_of_ble_eq_true rfl) dX12_asHeIs_3 (fun r1 w3 H locs hp2 hw => ?_)
  obtain ⟨rfl, hg8⟩ := hp2
  obtain ⟨g5, g6, c7⟩ := hg8
  refine lv_sipush (v := 168) hx hb dX12_asHeIs_6 (by decide) ?_
  refine lv_imul hx hb dX12_asHeIs_9 ?_
  refine lv_topi (fun x9 ex9 => ?_)
  have ex9 : x9.toInt = r1.toInt * (168 : Int) := by rw [ex9]; exact wk_mul (show (-2147483648) ≤ r1.toInt * (168 : Int) by omega) (show r1.toInt * (168 : Int) ≤ 2147483647 by omega)
  refine lv_aload_n hx hb dX12_asHeIs_10 rfl (lv_at hl 0 rfl) ?_
  refine lv_iload_n hx hb dX12_asHeIs_11 rfl (lv_at hl 1 rfl) ?_
  refine lv_iconst (v := 4) hx hb dX12_asHeIs_12 (by decide) ?_
  refine tk_Vi hC hK hw hT hA hE hSR kM_at0 (by decide) rfl (k_X12_walkerOf_4 l adK adV dC dI cy ad B (by omega) (by omega) qr s1   a1 (show 0 ≤ a1.toInt by omega) (show a1.toInt ≤ 3 by omega) w0 H.size hT ) (cwV 2 hC.2.2.2.2 gX12_asHeIs_X12_walkerOf rfl rfl rfl (by decide +kernel) ⟨Nat.le_of_ble_eq_true rfl, Nat.le_of_ble_eq_true rfl⟩) rfl hl.1 rfl (Nat.le_of_ble_eq_true rfl) dX12_asHeIs_13 (fun r10 w12 H locs hp11 hw => ?_)
  obtain ⟨rfl, hg17⟩ := hp11
  obtain ⟨g14, g15, c16⟩ := hg17
  refine lv_sipush (v := 168) hx hb dX12_asHeIs_16 (by decide) ?_
  refine lv_irem hx hb dX12_asHeIs_19 (by decide) ?_
  refine lv_topi (fun x18 ex18 => ?_)
  have ex18 : x18.toInt = r10.toInt % (168 : Int) := by rw [ex18]; exact wk_rem (show 0 ≤ r10.toInt by omega) (show 0 < (168 : Int) by decide)
  refine lv_iadd hx hb dX12_asHeIs_20 ?_
  refine lv_topi (fun x19 ex19 => ?_)
  have ex19 : x19.toInt = x9.toInt + x18.toInt := by rw [ex19]; exact wk_add (show (-2147483648) ≤ x9.toInt + x18.toInt by omega) (show x9.toInt + x18.toInt ≤ 2147483647 by omega)
  refine lv_bipush (v := 11) hx hb dX12_asHeIs_21 (by decide) ?_
  refine lv_imul hx hb dX12_asHeIs_23 ?_
  refine lv_topi (fun x20 ex20 => ?_)
  have ex20 : x20.toInt = x19.toInt * (11 : Int) := by rw [ex20]; exact wk_mul (show (-2147483648) ≤ x19.toInt * (11 : Int) by omega) (show x19.toInt * (11 : Int) ≤ 2147483647 by omega)
  refine lv_aload_n hx hb dX12_asHeIs_24 rfl (lv_at hl 0 rfl) ?_
  refine lv_iload_n hx hb dX12_asHeIs_25 rfl (lv_at hl 1 rfl) ?_
  refine lv_bipush (v := 7) hx hb dX12_asHeIs_26 (by decide) ?_
  refine tk_Vi hC hK hw hT hA hE hSR kM_at0 (by decide) rfl (k_X12_walkerOf_9 l adK adV dC dI cy ad B (by omega) (by omega) qr s1   a1 (show 0 ≤ a1.toInt by omega) (show a1.toInt ≤ 3 by omega) w0 H.size hT ) (cwV 2 hC.2.2.2.2 gX12_asHeIs_X12_walkerOf rfl rfl rfl (by decide +kernel) ⟨Nat.le_of_ble_eq_true rfl, Nat.le_of_ble_eq_true rfl⟩) rfl hl.1 rfl (Nat.le_of_ble_eq_true rfl) dX12_asHeIs_28 (fun r21 w23 H locs hp22 hw => ?_)
  obtain ⟨rfl, hg28⟩ := hp22
  obtain ⟨g25, g26, c27⟩ := hg28
  refine lv_iadd hx hb dX12_asHeIs_31 ?_
  refine lv_topi (fun x29 ex29 => ?_)
  have ex29 : x29.toInt = x20.toInt + r21.toInt := by rw [ex29]; exact wk_add (show (-2147483648) ≤ x20.toInt + r21.toInt by omega) (show x20.toInt + r21.toInt ≤ 2147483647 by omega)
  refine lv_iconst (v := 1) hx hb dX12_asHeIs_32 (by decide) ?_
  refine lv_iadd hx hb dX12_asHeIs_33 ?_
  refine lv_topi (fun x30 ex30 => ?_)
  have ex30 : x30.toInt = x29.toInt + (1 : Int) := by rw [ex30]; exact wk_add (show (-2147483648) ≤ x29.toInt + (1 : Int) by omega) (show x29.toInt + (1 : Int) ≤ 2147483647 by omega)
  exact tk_iret hC hr hlocks hK ⟨rfl, ⟨(show 0 ≤ x30.toInt by omega), (show x30.toInt ≤ 18479 by omega)⟩⟩ hw dX12_asHeIs_34
abbrev P_X12_round_1 (ad : Nat → Nat) (cy : Nat → ClassId) (B : Int) (qr : Nat) (s1 : Int) (a1 : Int32) (a2 : Int32) (w0 : va_W) : Int32 → va_W → Prop := fun r u => TW ksM ad cy (B + 2709) qr 12 u ∧ FE ksM [(12, 24, 24), (12, 27, 27), (12, 30, 30), (12, 31, 31), (69, 0, 64), (70, 0, 10), (71, 0, 295), (71, 216, 243), (71, 220, 247), (71, 221, 248), (71, 222, 249), (71, 223, 250), (71, 224, 251), (72, 0, 12), (73, 0, 10), (74, 0, 296), (75, 0, 301)] w0 u ∧ (((-298) ≤ r.toInt ∧ r.toInt ≤ 300 ∧ 0 ≤ a1.toInt ∧ a1.toInt ≤ 3 ∧ 0 ≤ a2.toInt ∧ a2.toInt ≤ 1 ∧ (∃ y : Int32, gi u 0 27 = y ∧ 1 ≤ y.toInt ∧ y.toInt ≤ 1) ∧ (∃ y : Int32, gi u 0 30 = y ∧ 0 ≤ y.toInt ∧ y.toInt ≤ 0)) ∨ (r = (-1)))
set_option maxHeartbeats 4000000 in
set_option maxRecDepth 100000 in
theorem k_X12_round_1 (l : Launch) (adK adV : Nat → Nat) (dC : Nat → ClassId) (dI : Nat → Nat → Nat) (cy : Nat → ClassId) (ad : Nat → Nat) (B : Int) (hB0 : 100000 ≤ B) (hB1 : B ≤ 1073739115) (qr : Nat) (s1 : Int)  (a1 : Int32) (a2 : Int32) (w0 : va_W) (sz : Nat) (hT : TW ksM ad cy B qr 12 w0) (hRW : RW w0) : Met l yX12_round wsX12_round ({ frames := 9, cells := 0, slots := 0, locals := 194 }) (va_Pc [.ref (ad 0), .int a1, .int a2] (wpreS adK adV dC dI cy sz w0)) (va_Qi (P_X12_round_1 ad cy B qr s1 a1 a2 w0) (fun u : va_W => wpost dC dI cy (va_A w0 sz) u) (va_A w0 sz)) 0 0 (va_A w0 sz) := by
  refine Met.ofW (cc := cX12_round) (maxL := 6) (ret := (some .int)) (by decide) rfl ?_
  intro p e s m args below meth c s₁ Bk hml hv
  obtain ⟨rfl, ⟨hsz, hP, hK, hD0⟩, hE, hSR⟩ := hv
  have hx := Bk.exec
  have hb := Bk.bytes
  have hr := Bk.returns
  have hlocks := Bk.notSynchronized
  have hC : CallFix p m c cX12_round 6 s _ wsX12_round RX12 := ⟨hx, hb, hml, findClass_of_methodNamed Bk.named, atoms_spec (ws := wsX12_round) Bk.pre⟩
  subst hsz
  have hD := hD0.self (sz := s.heap.size)
  generalize hAe : va_A w0 s.heap.size = A at hD hE ⊢
  have hA : ∀ q : Nat, s.heap.size ≤ q → A q := fun q h => by rw [← hAe]; exact Or.inr h
  have hw : Wd dC dI A s.heap s.heap [] w0 := ⟨hP, hD, va_S.rf⟩
  have hF : FE ksM [(12, 24, 24), (12, 27, 27), (12, 30, 30), (12, 31, 31), (69, 0, 64), (70, 0, 10), (71, 0, 295), (71, 216, 243), (71, 220, 247), (71, 221, 248), (71, 222, 249), (71, 223, 250), (71, 224, 251), (72, 0, 12), (73, 0, 10), (74, 0, 296), (75, 0, 301)] w0 w0 := FE.rf
  have hl := lv_entry ([.ref (ad 0), .int a1, .int a2]) (n := 6) (Nat.le_of_ble_eq_true rfl)
  rw [lg_entry_eq]
  generalize (lg_sl ([.ref (ad 0), .int a1, .int a2]) ++ List.replicate (6 - (lg_sl ([.ref (ad 0), .int a1, .int a2])).length) Slot.unset).toArray = ls at hl ⊢
  have hl : lv_has ls 6 [(0, .ref (ad 0)), (1, .int a1), (2, .int a2)] := hl
  generalize hloc : ([] : List Loc) = locs at hw ⊢
  have hinX12 : ∀ w ∈ u_ws RX12 TX12 42, w ∈ wsX12_round := fun _ h => List.mem_cons_of_mem _ (List.mem_append_right _ (h))
  have J18 : ∀ (H : Heap) (locs : List Loc) (ls : Array Slot) (w1 : va_W), Wd dC dI A s.heap H locs w1 → TW ksM ad cy B qr 12 w1 → FE ksM [(12, 24, 24), (12, 27, 27), (12, 30, 30), (12, 31, 31), (69, 0, 64), (70, 0, 10), (71, 0, 295), (71, 216, 243), (71, 220, 247), (71, 221, 248), (71, 222, 249), (71, 223, 250), (71, 224, 251), (72, 0, 12), (73, 0, 10), (74, 0, 296), (75, 0, 301)] w0 w1 → RW w1 → lv_has ls 6 [(0, .ref (ad 0)), (1, .int a1), (2, .int a2)] → W p l e ({ frames := 9, cells := 0, slots := 0, locals := 194 }) s m (List.toArray [.ref (ad 0), .int a1, .int a2]) below meth c H locs 0 0 (MQ below (va_Qi (P_X12_round_1 ad cy B qr s1 a1 a2 w0) (fun u : va_W => wpost dC dI cy A u) A) (List.toArray [.ref (ad 0), .int a1, .int a2]) s 0 0 A) (F0 m 18 ls []) := by
    intro H locs ls w1 hw hT hF hRW hl
    refine lv_iconst (v := (-1)) hx hb dX12_round_18 (by decide) ?_
    exact tk_iret hC hr hlocks hK ⟨(hT.up (show B ≤ (B + 2709) by omega)), hF, (Or.inr rfl)⟩ hw dX12_round_19
  have J159 : ∀ (v159_3 : Int32) (v159_4 : Int32) (f159_12_5 : Int32) (f159_16_0 : Int32) (H : Heap) (locs : List Loc) (ls : Array Slot) (w2 : va_W), 0 ≤ a1.toInt → a1.toInt ≤ 3 → 0 ≤ a2.toInt → a2.toInt ≤ 1 → (-298) ≤ v159_3.toInt → v159_3.toInt ≤ 300 → 1 ≤ v159_4.toInt → v159_4.toInt ≤ 301 → 1 ≤ f159_12_5.toInt → f159_12_5.toInt ≤ 4 → 0 ≤ f159_16_0.toInt → f159_16_0.toInt ≤ 18479 → Wd dC dI A s.heap H locs w2 → TW ksM ad cy (B + 2709) qr 12 w2 → FE ksM [(12, 24, 24), (12, 27, 27), (12, 30, 30), (12, 31, 31), (69, 0, 64), (70, 0, 10), (71, 0, 295), (71, 216, 243), (71, 220, 247), (71, 221, 248), (71, 222, 249), (71, 223, 250), (71, 224, 251), (72, 0, 12), (73, 0, 10), (74, 0, 296), (75, 0, 301)] w0 w2 → RW w2 → gi w2 0 27 = 0 → gi w2 0 30 = 1 → gi w2 12 5 = f159_12_5 → gi w2 16 0 = f159_16_0 → lv_has ls 6 [(0, .ref (ad 0)), (1, .int a1), (2, .int a2), (3, .int v159_3), (4, .int v159_4)] → W p l e ({ frames := 9, cells := 0, slots := 0, locals := 194 }) s m (List.toArray [.ref (ad 0), .int a1, .int a2]) below meth c H locs 0 0 (MQ below (va_Qi (P_X12_round_1 ad cy B qr s1 a1 a2 w0) (fun u : va_W => wpost dC dI cy A u) A) (List.toArray [.ref (ad 0), .int a1, .int a2]) s 0 0 A) (F0 m 159 ls []) := by
    intro v159_3 v159_4 f159_12_5 f159_16_0 H locs ls w2 r3 t4 r5 t6 r7 t8 r9 t10 r13 t14 r16 t17 hw hT hF hRW c11 c12 c15 c18 hl
    refine lv_aload_n hx hb dX12_round_159 rfl (lv_at hl 0 rfl) ?_
    refine lv_iconst (v := 0) hx hb dX12_round_160 (by decide) ?_
    refine tk_putz hC hK hw hT hinX12 tyX12_ok nmX12 kM_at0 (by decide) rfl rfl 30 (by decide) (List.mem_of_getElem? (i := 1) rfl) rfl rfl rfl rfl (by decide) (by decide) dX12_round_161 (fun H locs w19 hw hT k21 c20 => ?_)
    have hRW := RW_F1 k21 (by decide) (by decide) (by decide) hRW
    have hF := hF.put kM_at0 (k := 30) (by decide) k21
    have c22 := k21.gi (Or.inr (by decide)) c11
    have c23 := k21.gi (Or.inr (by decide)) c15
    have c24 := k21.gi (Or.inr (by decide)) c18
    refine lv_aload_n hx hb dX12_round_164 rfl (lv_at hl 0 rfl) ?_
    refine lv_iconst (v := 1) hx hb dX12_round_165 (by decide) ?_
    refine tk_putz hC hK hw hT hinX12 tyX12_ok nmX12 kM_at0 (by decide) rfl rfl 27 (by decide) (List.mem_of_getElem? (i := 2) rfl) rfl rfl rfl rfl (by decide) (by decide) dX12_round_166 (fun H locs w25 hw hT k27 c26 => ?_)
    have hRW := RW_F1 k27 (by decide) (by decide) (by decide) hRW
    have hF := hF.put kM_at0 (k := 27) (by decide) k27
    have c28 := k27.gi (Or.inr (by decide)) c23
    have c29 := k27.gi (Or.inr (by decide)) c24
    have c30 := k27.gi (Or.inr (by decide)) c20
    refine lv_aload_n hx hb dX12_round_169 rfl (lv_at hl 0 rfl) ?_
    refine tk_Vv hC hK hw hT hA hE hSR kM_at0 (by decide) rfl (k_X12_putsBack_1 l adK adV dC dI cy ad (B + 2709) (by omega) (by omega) qr s1    w25 H.size hT ) (cwV 0 hC.2.2.2.2 gX12_round_X12_putsBack rfl rfl rfl (by decide +kernel) ⟨Nat.le_of_ble_eq_true rfl, Nat.le_of_ble_eq_true rfl⟩) rfl hl.1 rfl (Nat.le_of_ble_eq_true rfl) dX12_round_170 (fun w33 H locs hp32 hw => ?_)
    obtain ⟨hT, k34, hg38⟩ := hp32
    have hRW := RW_FE k34 (fun _ => rfl) (fun _ => rfl) (fun _ => rfl) hRW
    have hF := hF.tr k34 (by decide)
    have c39 := k34.gi kM_at16 (by decide) c29
    have c40 := k34.gi kM_at0 (by decide) c30
    have c41 := k34.gi kM_at0 (by decide) c26
    obtain ⟨c35, c36, c37⟩ := hg38
    refine lv_iload_n hx hb dX12_round_173 rfl (lv_at hl 3 rfl) ?_
    exact tk_iret hC hr hlocks hK ⟨hT, hF, (Or.inl ⟨(show (-298) ≤ v159_3.toInt by omega), (show v159_3.toInt ≤ 300 by omega), (show 0 ≤ a1.toInt by omega), (show a1.toInt ≤ 3 by omega), (show 0 ≤ a2.toInt by omega), (show a2.toInt ≤ 1 by omega), ⟨1, c41, (by decide), (by decide)⟩, ⟨0, c40, (by decide), (by decide)⟩⟩)⟩ hw dX12_round_174
  have L51 : ∀ (n51 : Nat) (v51_3 : Int32) (v51_4 : Int32) (f51_12_5 : Int32) (f51_16_0 : Int32) (H : Heap) (locs : List Loc) (ls : Array Slot) (w42 : va_W), 0 ≤ a1.toInt → a1.toInt ≤ 3 → 0 ≤ a2.toInt → a2.toInt ≤ 1 → (-298) ≤ v51_3.toInt → v51_3.toInt ≤ 300 → 1 ≤ v51_4.toInt → v51_4.toInt ≤ 301 → 1 ≤ f51_12_5.toInt → f51_12_5.toInt ≤ 4 → 0 ≤ f51_16_0.toInt → f51_16_0.toInt ≤ 18479 → (301 - v51_4.toInt).toNat < n51 → Wd dC dI A s.heap H locs w42 → TW ksM ad cy (B + 0 + 9 * v51_4.toInt) qr 12 w42 → FE ksM [(12, 24, 24), (12, 27, 27), (12, 30, 30), (12, 31, 31), (69, 0, 64), (70, 0, 10), (71, 0, 295), (71, 216, 243), (71, 220, 247), (71, 221, 248), (71, 222, 249), (71, 223, 250), (71, 224, 251), (72, 0, 12), (73, 0, 10), (74, 0, 296), (75, 0, 301)] w0 w42 → RW w42 → gi w42 0 27 = 0 → gi w42 0 30 = 1 → gi w42 12 5 = f51_12_5 → gi w42 16 0 = f51_16_0 → lv_has ls 6 [(0, .ref (ad 0)), (1, .int a1), (2, .int a2), (3, .int v51_3), (4, .int v51_4)] → W p l e ({ frames := 9, cells := 0, slots := 0, locals := 194 }) s m (List.toArray [.ref (ad 0), .int a1, .int a2]) below meth c H locs 0 0 (MQ below (va_Qi (P_X12_round_1 ad cy B qr s1 a1 a2 w0) (fun u : va_W => wpost dC dI cy A u) A) (List.toArray [.ref (ad 0), .int a1, .int a2]) s 0 0 A) (F0 m 51 ls []) := by
    intro n51
    induction n51 with
    | zero => intro v51_3 v51_4 f51_12_5 f51_16_0 H locs ls w42 r43 t44 r45 t46 r47 t48 r49 t50 r53 t54 r56 t57 hm51 hw hT hF hRW c51 c52 c55 c58 hl; omega
    | succ n51 ih51 =>
      intro v51_3 v51_4 f51_12_5 f51_16_0 H locs ls w42 r43 t44 r45 t46 r47 t48 r49 t50 r53 t54 r56 t57 hm51 hw hT hF hRW c51 c52 c55 c58 hl
      have J153 : ∀ (v153_3 : Int32) (v153_5 : Int32) (H : Heap) (locs : List Loc) (ls : Array Slot) (w59 : va_W), 0 ≤ a1.toInt → a1.toInt ≤ 3 → 0 ≤ a2.toInt → a2.toInt ≤ 1 → (-298) ≤ v153_3.toInt → v153_3.toInt ≤ 300 → 1 ≤ v51_4.toInt → v51_4.toInt ≤ 300 → 0 ≤ v153_5.toInt → v153_5.toInt ≤ 300 → 1 ≤ f51_12_5.toInt → f51_12_5.toInt ≤ 4 → 0 ≤ f51_16_0.toInt → f51_16_0.toInt ≤ 18479 → Wd dC dI A s.heap H locs w59 → TW ksM ad cy (B + 9 + 9 * v51_4.toInt) qr 12 w59 → FE ksM [(12, 24, 24), (12, 27, 27), (12, 30, 30), (12, 31, 31), (69, 0, 64), (70, 0, 10), (71, 0, 295), (71, 216, 243), (71, 220, 247), (71, 221, 248), (71, 222, 249), (71, 223, 250), (71, 224, 251), (72, 0, 12), (73, 0, 10), (74, 0, 296), (75, 0, 301)] w0 w59 → RW w59 → gi w59 0 27 = 0 → gi w59 0 30 = 1 → gi w59 12 5 = f51_12_5 → gi w59 16 0 = f51_16_0 → lv_has ls 6 [(0, .ref (ad 0)), (1, .int a1), (2, .int a2), (3, .int v153_3), (4, .int v51_4), (5, .int v153_5)] → W p l e ({ frames := 9, cells := 0, slots := 0, locals := 194 }) s m (List.toArray [.ref (ad 0), .int a1, .int a2]) below meth c H locs 0 0 (MQ below (va_Qi (P_X12_round_1 ad cy B qr s1 a1 a2 w0) (fun u : va_W => wpost dC dI cy A u) A) (List.toArray [.ref (ad 0), .int a1, .int a2]) s 0 0 A) (F0 m 153 ls []) := by
        intro v153_3 v153_5 H locs ls w59 r60 t61 r62 t63 r64 t65 r66 t67 r68 t69 r72 t73 r75 t76 hw hT hF hRW c70 c71 c74 c77 hl
        obtain ⟨x78, ex78⟩ : ∃ y : Int32, y = v51_4 + Int32.ofInt 1 := ⟨_, rfl⟩
        refine lv_iinc (v := x78) (lv' := [(4, .int x78), (0, .ref (ad 0)), (1, .int a1), (2, .int a2), (3, .int v153_3), (5, .int v153_5)]) hx hb dX12_round_153 hl (k := 4) rfl ex78.symm (by decide) rfl (fun ls hl => ?_)
        have ex78 : x78.toInt = v51_4.toInt + 1 := by rw [ex78]; exact wk_add (y := 1) (show -2147483648 ≤ v51_4.toInt + 1 by omega) (show v51_4.toInt + 1 ≤ 2147483647 by omega)
        refine lv_goto (tgt := 51) hx hb dX12_round_156 (by decide) ?_
        exact ih51 v153_3 x78 f51_12_5 f51_16_0 H locs ls w59 (show 0 ≤ a1.toInt by omega) (show a1.toInt ≤ 3 by omega) (show 0 ≤ a2.toInt by omega) (show a2.toInt ≤ 1 by omega) (show (-298) ≤ v153_3.toInt by omega) (show v153_3.toInt ≤ 300 by omega) (show 1 ≤ x78.toInt by omega) (show x78.toInt ≤ 301 by omega) (show 1 ≤ f51_12_5.toInt by omega) (show f51_12_5.toInt ≤ 4 by omega) (show 0 ≤ f51_16_0.toInt by omega) (show f51_16_0.toInt ≤ 18479 by omega) (show (301 - x78.toInt).toNat < n51 by omega) hw (hT.up (show (B + 9 + 9 * v51_4.toInt) ≤ (B + 0 + 9 * x78.toInt) by omega)) hF hRW c70 c71 c74 c77 (lv_sub hl [1, 2, 3, 4, 0] rfl)
      have L94 : ∀ (n94 : Nat) (v94_3 : Int32) (v94_5 : Int32) (H : Heap) (locs : List Loc) (ls : Array Slot) (w79 : va_W), 0 ≤ a1.toInt → a1.toInt ≤ 3 → 0 ≤ a2.toInt → a2.toInt ≤ 1 → (-298) ≤ v94_3.toInt → v94_3.toInt ≤ 300 → 1 ≤ v51_4.toInt → v51_4.toInt ≤ 300 → 0 ≤ v94_5.toInt → v94_5.toInt ≤ 300 → 1 ≤ f51_12_5.toInt → f51_12_5.toInt ≤ 4 → 0 ≤ f51_16_0.toInt → f51_16_0.toInt ≤ 18479 → (300 - v94_5.toInt).toNat < n94 → Wd dC dI A s.heap H locs w79 → TW ksM ad cy (B + 9 + 9 * v51_4.toInt) qr 12 w79 → FE ksM [(12, 24, 24), (12, 27, 27), (12, 30, 30), (12, 31, 31), (69, 0, 64), (70, 0, 10), (71, 0, 295), (71, 216, 243), (71, 220, 247), (71, 221, 248), (71, 222, 249), (71, 223, 250), (71, 224, 251), (72, 0, 12), (73, 0, 10), (74, 0, 296), (75, 0, 301)] w0 w79 → RW w79 → gi w79 0 27 = 0 → gi w79 0 30 = 1 → gi w79 12 5 = f51_12_5 → gi w79 16 0 = f51_16_0 → lv_has ls 6 [(0, .ref (ad 0)), (1, .int a1), (2, .int a2), (3, .int v94_3), (4, .int v51_4), (5, .int v94_5)] → W p l e ({ frames := 9, cells := 0, slots := 0, locals := 194 }) s m (List.toArray [.ref (ad 0), .int a1, .int a2]) below meth c H locs 0 0 (MQ below (va_Qi (P_X12_round_1 ad cy B qr s1 a1 a2 w0) (fun u : va_W => wpost dC dI cy A u) A) (List.toArray [.ref (ad 0), .int a1, .int a2]) s 0 0 A) (F0 m 94 ls []) := by
        intro n94
        induction n94 with
        | zero => intro v94_3 v94_5 H locs ls w79 r80 t81 r82 t83 r84 t85 r86 t87 r88 t89 r92 t93 r95 t96 hm94 hw hT hF hRW c90 c91 c94 c97 hl; omega
        | succ n94 ih94 =>
          intro v94_3 v94_5 H locs ls w79 r80 t81 r82 t83 r84 t85 r86 t87 r88 t89 r92 t93 r95 t96 hm94 hw hT hF hRW c90 c91 c94 c97 hl
          have J147 : ∀ (v147_3 : Int32) (H : Heap) (locs : List Loc) (ls : Array Slot) (w98 : va_W), 0 ≤ a1.toInt → a1.toInt ≤ 3 → 0 ≤ a2.toInt → a2.toInt ≤ 1 → (-298) ≤ v147_3.toInt → v147_3.toInt ≤ 300 → 1 ≤ v51_4.toInt → v51_4.toInt ≤ 300 → 0 ≤ v94_5.toInt → v94_5.toInt ≤ 299 → 1 ≤ f51_12_5.toInt → f51_12_5.toInt ≤ 4 → 0 ≤ f51_16_0.toInt → f51_16_0.toInt ≤ 18479 → Wd dC dI A s.heap H locs w98 → TW ksM ad cy (B + 9 + 9 * v51_4.toInt) qr 12 w98 → FE ksM [(12, 24, 24), (12, 27, 27), (12, 30, 30), (12, 31, 31), (69, 0, 64), (70, 0, 10), (71, 0, 295), (71, 216, 243), (71, 220, 247), (71, 221, 248), (71, 222, 249), (71, 223, 250), (71, 224, 251), (72, 0, 12), (73, 0, 10), (74, 0, 296), (75, 0, 301)] w0 w98 → RW w98 → gi w98 0 27 = 0 → gi w98 0 30 = 1 → gi w98 12 5 = f51_12_5 → gi w98 16 0 = f51_16_0 → lv_has ls 6 [(0, .ref (ad 0)), (1, .int a1), (2, .int a2), (3, .int v147_3), (4, .int v51_4), (5, .int v94_5)] → W p l e ({ frames := 9, cells := 0, slots := 0, locals := 194 }) s m (List.toArray [.ref (ad 0), .int a1, .int a2]) below meth c H locs 0 0 (MQ below (va_Qi (P_X12_round_1 ad cy B qr s1 a1 a2 w0) (fun u : va_W => wpost dC dI cy A u) A) (List.toArray [.ref (ad 0), .int a1, .int a2]) s 0 0 A) (F0 m 147 ls []) := by
            intro v147_3 H locs ls w98 r99 t100 r101 t102 r103 t104 r105 t106 r107 t108 r111 t112 r114 t115 hw hT hF hRW c109 c110 c113 c116 hl
            obtain ⟨x117, ex117⟩ : ∃ y : Int32, y = v94_5 + Int32.ofInt 1 := ⟨_, rfl⟩
            refine lv_iinc (v := x117) (lv' := [(5, .int x117), (0, .ref (ad 0)), (1, .int a1), (2, .int a2), (3, .int v147_3), (4, .int v51_4)]) hx hb dX12_round_147 hl (k := 5) rfl ex117.symm (by decide) rfl (fun ls hl => ?_)
            have ex117 : x117.toInt = v94_5.toInt + 1 := by rw [ex117]; exact wk_add (y := 1) (show -2147483648 ≤ v94_5.toInt + 1 by omega) (show v94_5.toInt + 1 ≤ 2147483647 by omega)
            refine lv_goto (tgt := 94) hx hb dX12_round_150 (by decide) ?_
            exact ih94 v147_3 x117 H locs ls w98 (show 0 ≤ a1.toInt by omega) (show a1.toInt ≤ 3 by omega) (show 0 ≤ a2.toInt by omega) (show a2.toInt ≤ 1 by omega) (show (-298) ≤ v147_3.toInt by omega) (show v147_3.toInt ≤ 300 by omega) (show 1 ≤ v51_4.toInt by omega) (show v51_4.toInt ≤ 300 by omega) (show 0 ≤ x117.toInt by omega) (show x117.toInt ≤ 300 by omega) (show 1 ≤ f51_12_5.toInt by omega) (show f51_12_5.toInt ≤ 4 by omega) (show 0 ≤ f51_16_0.toInt by omega) (show f51_16_0.toInt ≤ 18479 by omega) (show (300 - x117.toInt).toNat < n94 by omega) hw hT hF hRW c109 c110 c113 c116 (lv_sub hl [1, 2, 3, 4, 5, 0] rfl)
          refine lv_iload hx hb dX12_round_94 (lv_at hl 5 rfl) ?_
          refine lv_iload hx hb dX12_round_96 (lv_at hl 4 rfl) ?_
          refine lv_icmp_ge (tgt := 153) hx hb dX12_round_98 (by decide) (fun c118 => ?_) (fun c118 => ?_)
          · have c118 : v51_4.toInt ≤ v94_5.toInt := wk_le.mp c118
            exact J153 v94_3 v94_5 H locs ls w79 (show 0 ≤ a1.toInt by omega) (show a1.toInt ≤ 3 by omega) (show 0 ≤ a2.toInt by omega) (show a2.toInt ≤ 1 by omega) (show (-298) ≤ v94_3.toInt by omega) (show v94_3.toInt ≤ 300 by omega) (show 1 ≤ v51_4.toInt by omega) (show v51_4.toInt ≤ 300 by omega) (show 0 ≤ v94_5.toInt by omega) (show v94_5.toInt ≤ 300 by omega) (show 1 ≤ f51_12_5.toInt by omega) (show f51_12_5.toInt ≤ 4 by omega) (show 0 ≤ f51_16_0.toInt by omega) (show f51_16_0.toInt ≤ 18479 by omega)  hw hT hF hRW c90 c91 c94 c97 (lv_sub hl [0, 1, 2, 3, 4, 5] rfl)
          · have c118 : v94_5.toInt < v51_4.toInt := wk_leF c118
            refine lv_iload_n hx hb dX12_round_101 rfl (lv_at hl 3 rfl) ?_
            refine lv_bipush (v := (-2)) hx hb dX12_round_102 (by decide) ?_
            refine lv_icmp_ne (tgt := 153) hx hb dX12_round_104 (by decide) (fun c119 => ?_) (fun c119 => ?_)
            · have c119 : ¬ v94_3.toInt = (-2 : Int) := wk_eqF c119
              exact J153 v94_3 v94_5 H locs ls w79 (show 0 ≤ a1.toInt by omega) (show a1.toInt ≤ 3 by omega) (show 0 ≤ a2.toInt by omega) (show a2.toInt ≤ 1 by omega) (show (-298) ≤ v94_3.toInt by omega) (show v94_3.toInt ≤ 300 by omega) (show 1 ≤ v51_4.toInt by omega) (show v51_4.toInt ≤ 300 by omega) (show 0 ≤ v94_5.toInt by omega) (show v94_5.toInt ≤ 300 by omega) (show 1 ≤ f51_12_5.toInt by omega) (show f51_12_5.toInt ≤ 4 by omega) (show 0 ≤ f51_16_0.toInt by omega) (show f51_16_0.toInt ≤ 18479 by omega)  hw hT hF hRW c90 c91 c94 c97 (lv_sub hl [0, 1, 2, 3, 4, 5] rfl)
            · have c119 : v94_3.toInt = (-2 : Int) := wk_eq.mp c119
              refine lv_aload_n hx hb dX12_round_107 rfl (lv_at hl 0 rfl) ?_
              refine lv_iload_n hx hb dX12_round_108 rfl (lv_at hl 1 rfl) ?_
              refine tk_Vi hC hK hw hT hA hE hSR kM_at0 (by decide) rfl (k_X12_isThere_1 l adK adV dC dI cy ad (B + 9 + 9 * v51_4.toInt) (by omega) (by omega) qr s1   a1 (show 0 ≤ a1.toInt by omega) (show a1.toInt ≤ 3 by omega) w79 H.size hT ) (cwV 1 hC.2.2.2.2 gX12_round_X12_isThere rfl rfl rfl (by decide +kernel) ⟨Nat.le_of_ble_eq_true rfl, Nat.le_of_ble_eq_true rfl⟩) rfl hl.1 rfl (Nat.le_of_ble_eq_true rfl) dX12_round_109 (fun r120 w122 H locs hp121 hw => ?_)
              obtain ⟨rfl, hg124⟩ := hp121
              rcases hg124 with rfl | rfl
              · refine lv_if_ne (tgt := 153) hx hb dX12_round_112 (by decide) (fun c => absurd (by decide) c) (fun _ => ?_)
                refine lv_aload_n hx hb dX12_round_115 rfl (lv_at hl 0 rfl) ?_
                refine tk_getA hC hK hw hT hinX12 kM_at0 (by decide) rfl 33 (by decide) (List.mem_of_getElem? (i := 3) rfl) rfl rfl dX12_round_116 ?_
                refine lv_iload hx hb dX12_round_119 (lv_at hl 5 rfl) ?_
                refine tk_iald hC hK hw hT kM_at16 rfl rfl (show 0 ≤ v94_5.toInt by omega) (show v94_5.toInt < 301 by omega) dX12_round_121 (fun x125 c126 rx125 tx125 => ?_)
                refine lv_aload_n hx hb dX12_round_122 rfl (lv_at hl 0 rfl) ?_
                refine tk_getA hC hK hw hT hinX12 kM_at0 (by decide) rfl 33 (by decide) (List.mem_of_getElem? (i := 3) rfl) rfl rfl dX12_round_123 ?_
                refine lv_iload hx hb dX12_round_126 (lv_at hl 4 rfl) ?_
                refine tk_iald hC hK hw hT kM_at16 rfl rfl (show 0 ≤ v51_4.toInt by omega) (show v51_4.toInt < 301 by omega) dX12_round_128 (fun x127 c128 rx127 tx127 => ?_)
                refine lv_icmp_ne (tgt := 147) hx hb dX12_round_129 (by decide) (fun c129 => ?_) (fun c129 => ?_)
                · have c129 : ¬ x125.toInt = x127.toInt := wk_eqF c129
                  exact J147 v94_3 H locs ls w79 (show 0 ≤ a1.toInt by omega) (show a1.toInt ≤ 3 by omega) (show 0 ≤ a2.toInt by omega) (show a2.toInt ≤ 1 by omega) (show (-298) ≤ v94_3.toInt by omega) (show v94_3.toInt ≤ 300 by omega) (show 1 ≤ v51_4.toInt by omega) (show v51_4.toInt ≤ 300 by omega) (show 0 ≤ v94_5.toInt by omega) (show v94_5.toInt ≤ 299 by omega) (show 1 ≤ f51_12_5.toInt by omega) (show f51_12_5.toInt ≤ 4 by omega) (show 0 ≤ f51_16_0.toInt by omega) (show f51_16_0.toInt ≤ 18479 by omega)  hw hT hF hRW c90 c91 c94 c97 (lv_sub hl [0, 1, 2, 3, 4, 5] rfl)
                · have c129 : x125.toInt = x127.toInt := wk_eq.mp c129
                  refine lv_iload_n hx hb dX12_round_132 rfl (lv_at hl 2 rfl) ?_
                  refine lv_if_ne (tgt := 141) hx hb dX12_round_133 (by decide) (fun c130 => ?_) (fun c130 => ?_)
                  · have c130 : ¬ a2.toInt = (0 : Int) := wk_eqF c130
                    refine lv_iload hx hb dX12_round_141 (lv_at hl 4 rfl) ?_
                    refine lv_iload hx hb dX12_round_143 (lv_at hl 5 rfl) ?_
                    refine lv_isub hx hb dX12_round_145 ?_
                    refine lv_topi (fun x131 ex131 => ?_)
                    have ex131 : x131.toInt = v51_4.toInt - v94_5.toInt := by rw [ex131]; exact wk_sub (show (-2147483648) ≤ v51_4.toInt - v94_5.toInt by omega) (show v51_4.toInt - v94_5.toInt ≤ 2147483647 by omega)
                    refine lv_istore_n (lv' := [(3, .int x131), (0, .ref (ad 0)), (1, .int a1), (2, .int a2), (4, .int v51_4), (5, .int v94_5)]) hx hb dX12_round_146 rfl hl (by decide) rfl (fun ls hl => ?_)
                    exact J147 x131 H locs ls w79 (show 0 ≤ a1.toInt by omega) (show a1.toInt ≤ 3 by omega) (show 0 ≤ a2.toInt by omega) (show a2.toInt ≤ 1 by omega) (show (-298) ≤ x131.toInt by omega) (show x131.toInt ≤ 300 by omega) (show 1 ≤ v51_4.toInt by omega) (show v51_4.toInt ≤ 300 by omega) (show 0 ≤ v94_5.toInt by omega) (show v94_5.toInt ≤ 299 by omega) (show 1 ≤ f51_12_5.toInt by omega) (show f51_12_5.toInt ≤ 4 by omega) (show 0 ≤ f51_16_0.toInt by omega) (show f51_16_0.toInt ≤ 18479 by omega)  hw hT hF hRW c90 c91 c94 c97 (lv_sub hl [1, 2, 3, 0, 4, 5] rfl)
                  · have c130 : a2.toInt = (0 : Int) := wk_eq.mp c130
                    refine lv_iload hx hb dX12_round_136 (lv_at hl 5 rfl) ?_
                    refine lv_goto (tgt := 146) hx hb dX12_round_138 (by decide) ?_
                    refine lv_istore_n (lv' := [(3, .int v94_5), (0, .ref (ad 0)), (1, .int a1), (2, .int a2), (4, .int v51_4), (5, .int v94_5)]) hx hb dX12_round_146 rfl hl (by decide) rfl (fun ls hl => ?_)
                    exact J147 v94_5 H locs ls w79 (show 0 ≤ a1.toInt by omega) (show a1.toInt ≤ 3 by omega) (show 0 ≤ a2.toInt by omega) (show a2.toInt ≤ 1 by omega) (show (-298) ≤ v94_5.toInt by omega) (show v94_5.toInt ≤ 300 by omega) (show 1 ≤ v51_4.toInt by omega) (show v51_4.toInt ≤ 300 by omega) (show 0 ≤ v94_5.toInt by omega) (show v94_5.toInt ≤ 299 by omega) (show 1 ≤ f51_12_5.toInt by omega) (show f51_12_5.toInt ≤ 4 by omega) (show 0 ≤ f51_16_0.toInt by omega) (show f51_16_0.toInt ≤ 18479 by omega)  hw hT hF hRW c90 c91 c94 c97 (lv_sub hl [1, 2, 3, 0, 4, 5] rfl)
              · refine lv_if_ne (tgt := 153) hx hb dX12_round_112 (by decide) (fun _ => ?_) (fun c => absurd c (by decide))
                exact J153 v94_3 v94_5 H locs ls w79 (show 0 ≤ a1.toInt by omega) (show a1.toInt ≤ 3 by omega) (show 0 ≤ a2.toInt by omega) (show a2.toInt ≤ 1 by omega) (show (-298) ≤ v94_3.toInt by omega) (show v94_3.toInt ≤ 300 by omega) (show 1 ≤ v51_4.toInt by omega) (show v51_4.toInt ≤ 300 by omega) (show 0 ≤ v94_5.toInt by omega) (show v94_5.toInt ≤ 300 by omega) (show 1 ≤ f51_12_5.toInt by omega) (show f51_12_5.toInt ≤ 4 by omega) (show 0 ≤ f51_16_0.toInt by omega) (show f51_16_0.toInt ≤ 18479 by omega)  hw hT hF hRW c90 c91 c94 c97 (lv_sub hl [0, 1, 2, 3, 4, 5] rfl)
      refine lv_iload hx hb dX12_round_51 (lv_at hl 4 rfl) ?_
      refine lv_sipush (v := 300) hx hb dX12_round_53 (by decide) ?_
      refine lv_icmp_gt (tgt := 159) hx hb dX12_round_56 (by decide) (fun c132 => ?_) (fun c132 => ?_)
      · have c132 : (300 : Int) < v51_4.toInt := wk_lt.mp c132
        exact J159 v51_3 v51_4 f51_12_5 f51_16_0 H locs ls w42 (show 0 ≤ a1.toInt by omega) (show a1.toInt ≤ 3 by omega) (show 0 ≤ a2.toInt by omega) (show a2.toInt ≤ 1 by omega) (show (-298) ≤ v51_3.toInt by omega) (show v51_3.toInt ≤ 300 by omega) (show 1 ≤ v51_4.toInt by omega) (show v51_4.toInt ≤ 301 by omega) (show 1 ≤ f51_12_5.toInt by omega) (show f51_12_5.toInt ≤ 4 by omega) (show 0 ≤ f51_16_0.toInt by omega) (show f51_16_0.toInt ≤ 18479 by omega)  hw (hT.up (show (B + 0 + 9 * v51_4.toInt) ≤ (B + 2709) by omega)) hF hRW c51 c52 c55 c58 (lv_sub hl [0, 1, 2, 3, 4] rfl)
      · have c132 : v51_4.toInt ≤ (300 : Int) := wk_ltF c132
        refine lv_iload_n hx hb dX12_round_59 rfl (lv_at hl 3 rfl) ?_
        refine lv_bipush (v := (-2)) hx hb dX12_round_60 (by decide) ?_
        refine lv_icmp_ne (tgt := 159) hx hb dX12_round_62 (by decide) (fun c133 => ?_) (fun c133 => ?_)
        · have c133 : ¬ v51_3.toInt = (-2 : Int) := wk_eqF c133
          exact J159 v51_3 v51_4 f51_12_5 f51_16_0 H locs ls w42 (show 0 ≤ a1.toInt by omega) (show a1.toInt ≤ 3 by omega) (show 0 ≤ a2.toInt by omega) (show a2.toInt ≤ 1 by omega) (show (-298) ≤ v51_3.toInt by omega) (show v51_3.toInt ≤ 300 by omega) (show 1 ≤ v51_4.toInt by omega) (show v51_4.toInt ≤ 301 by omega) (show 1 ≤ f51_12_5.toInt by omega) (show f51_12_5.toInt ≤ 4 by omega) (show 0 ≤ f51_16_0.toInt by omega) (show f51_16_0.toInt ≤ 18479 by omega)  hw (hT.up (show (B + 0 + 9 * v51_4.toInt) ≤ (B + 2709) by omega)) hF hRW c51 c52 c55 c58 (lv_sub hl [0, 1, 2, 3, 4] rfl)
        · have c133 : v51_3.toInt = (-2 : Int) := wk_eq.mp c133
          refine lv_aload_n hx hb dX12_round_65 rfl (lv_at hl 0 rfl) ?_
          refine lv_iload_n hx hb dX12_round_66 rfl (lv_at hl 1 rfl) ?_
          refine tk_Vi hC hK hw hT hA hE hSR kM_at0 (by decide) rfl (k_X12_isThere_1 l adK adV dC dI cy ad (B + 0 + 9 * v51_4.toInt) (by omega) (by omega) qr s1   a1 (show 0 ≤ a1.toInt by omega) (show a1.toInt ≤ 3 by omega) w42 H.size hT ) (cwV 1 hC.2.2.2.2 gX12_round_X12_isThere rfl rfl rfl (by decide +kernel) ⟨Nat.le_of_ble_eq_true rfl, Nat.le_of_ble_eq_true rfl⟩) rfl hl.1 rfl (Nat.le_of_ble_eq_true rfl) dX12_round_67 (fun r134 w136 H locs hp135 hw => ?_)
          obtain ⟨rfl, hg138⟩ := hp135
          rcases hg138 with rfl | rfl
          · refine lv_if_ne (tgt := 159) hx hb dX12_round_70 (by decide) (fun c => absurd (by decide) c) (fun _ => ?_)
            refine lv_aload_n hx hb dX12_round_73 rfl (lv_at hl 0 rfl) ?_
            refine lv_iload_n hx hb dX12_round_74 rfl (lv_at hl 1 rfl) ?_
            refine tk_Vi hC hK hw hT hA hE hSR kM_at0 (by decide) rfl (k_X12_steps_1 l adK adV dC dI cy ad (B + 0 + 9 * v51_4.toInt) (by omega) (by omega) qr s1   a1 (show 0 ≤ a1.toInt by omega) (show a1.toInt ≤ 3 by omega) w42 H.size hT hRW) (cwV 1 hC.2.2.2.2 gX12_round_X12_steps rfl rfl rfl (by decide +kernel) ⟨Nat.le_of_ble_eq_true rfl, Nat.le_of_ble_eq_true rfl⟩) rfl hl.1 rfl (Nat.le_of_ble_eq_true rfl) dX12_round_75 (fun r139 w141 H locs hp140 hw => ?_)
            obtain ⟨hT, k142, hg143⟩ := hp140
            have hT := hT.up (B' := (B + 9 + 9 * v51_4.toInt)) (by omega)
            have hRW := RW_FE k142 (fun _ => rfl) (fun _ => rfl) (fun _ => rfl) hRW
            have hF := hF.tr k142 (by decide)
            have c144 := k142.gi kM_at0 (by decide) c51
            have c145 := k142.gi kM_at0 (by decide) c52
            have c146 := k142.gi kM_at12 (by decide) c55
            have c147 := k142.gi kM_at16 (by decide) c58
            rcases hg143 with rfl | rfl
            · refine lv_pop hx hb dX12_round_78 rfl ?_
              refine lv_aload_n hx hb dX12_round_79 rfl (lv_at hl 0 rfl) ?_
              refine tk_getA hC hK hw hT hinX12 kM_at0 (by decide) rfl 33 (by decide) (List.mem_of_getElem? (i := 3) rfl) rfl rfl dX12_round_80 ?_
              refine lv_iload hx hb dX12_round_83 (lv_at hl 4 rfl) ?_
              refine lv_aload_n hx hb dX12_round_85 rfl (lv_at hl 0 rfl) ?_
              refine lv_iload_n hx hb dX12_round_86 rfl (lv_at hl 1 rfl) ?_
              refine tk_Vi hC hK hw hT hA hE hSR kM_at0 (by decide) rfl (k_X12_asHeIs_1 l adK adV dC dI cy ad (B + 9 + 9 * v51_4.toInt) (by omega) (by omega) qr s1   a1 (show 0 ≤ a1.toInt by omega) (show a1.toInt ≤ 3 by omega) w141 H.size hT ) (cwV 1 hC.2.2.2.2 gX12_round_X12_asHeIs rfl rfl rfl (by decide +kernel) ⟨Nat.le_of_ble_eq_true rfl, Nat.le_of_ble_eq_true rfl⟩) rfl hl.1 rfl (Nat.le_of_ble_eq_true rfl) dX12_round_87 (fun r148 w150 H locs hp149 hw => ?_)
              obtain ⟨rfl, hg154⟩ := hp149
              obtain ⟨g152, g153⟩ := hg154
              refine tk_iast hC hK hw hT kM_at16 (by decide) rfl rfl (show 0 ≤ v51_4.toInt by omega) (show v51_4.toInt < 301 by omega) (wk_i32 r148).1 (wk_i32 r148).2 dX12_round_90 (fun H locs w155 hw hT k157 c156 => ?_)
              have hRW := RW_F1 k157 (by decide) (by decide) (by decide) hRW
              have hF := hF.put kM_at16 (inE_of (a := 0) (b := 301) (by decide) (show 0 ≤ v51_4.toInt.toNat by omega) (show v51_4.toInt.toNat ≤ 301 by omega)) k157
              have c158 := k157.gi (Or.inl (tk_ne kM_at0 kM_at16 (by decide))) c144
              have c159 := k157.gi (Or.inl (tk_ne kM_at0 kM_at16 (by decide))) c145
              have c160 := k157.gi (Or.inl (tk_ne kM_at12 kM_at16 (by decide))) c146
              have c161 := k157.gi (Or.inr (show 0 ≠ v51_4.toInt.toNat by omega)) c147
              refine lv_iconst (v := 0) hx hb dX12_round_91 (by decide) ?_
              refine lv_istore (lv' := [(5, .int 0), (0, .ref (ad 0)), (1, .int a1), (2, .int a2), (3, .int v51_3), (4, .int v51_4)]) hx hb dX12_round_92 hl (by decide) rfl (fun ls hl => ?_)
              exact L94 ((300 - (0 : Int)).toNat + 1) v51_3 0 H locs ls w155 (show 0 ≤ a1.toInt by omega) (show a1.toInt ≤ 3 by omega) (show 0 ≤ a2.toInt by omega) (show a2.toInt ≤ 1 by omega) (show (-298) ≤ v51_3.toInt by omega) (show v51_3.toInt ≤ 300 by omega) (show 1 ≤ v51_4.toInt by omega) (show v51_4.toInt ≤ 300 by omega) (by decide) (by decide) (show 1 ≤ f51_12_5.toInt by omega) (show f51_12_5.toInt ≤ 4 by omega) (show 0 ≤ f51_16_0.toInt by omega) (show f51_16_0.toInt ≤ 18479 by omega) (Nat.lt_succ_self _) hw hT hF hRW c158 c159 c160 c161 (lv_sub hl [1, 2, 3, 4, 5, 0] rfl)
            · refine lv_pop hx hb dX12_round_78 rfl ?_
              refine lv_aload_n hx hb dX12_round_79 rfl (lv_at hl 0 rfl) ?_
              refine tk_getA hC hK hw hT hinX12 kM_at0 (by decide) rfl 33 (by decide) (List.mem_of_getElem? (i := 3) rfl) rfl rfl dX12_round_80 ?_
              refine lv_iload hx hb dX12_round_83 (lv_at hl 4 rfl) ?_
              refine lv_aload_n hx hb dX12_round_85 rfl (lv_at hl 0 rfl) ?_
              refine lv_iload_n hx hb dX12_round_86 rfl (lv_at hl 1 rfl) ?_
              refine tk_Vi hC hK hw hT hA hE hSR kM_at0 (by decide) rfl (k_X12_asHeIs_1 l adK adV dC dI cy ad (B + 9 + 9 * v51_4.toInt) (by omega) (by omega) qr s1   a1 (show 0 ≤ a1.toInt by omega) (show a1.toInt ≤ 3 by omega) w141 H.size hT ) (cwV 1 hC.2.2.2.2 gX12_round_X12_asHeIs rfl rfl rfl (by decide +kernel) ⟨Nat.le_of_ble_eq_true rfl, Nat.le_of_ble_eq_true rfl⟩) rfl hl.1 rfl (Nat.le_of_ble_eq_true rfl) dX12_round_87 (fun r162 w164 H locs hp163 hw => ?_)
              obtain ⟨rfl, hg168⟩ := hp163
              obtain ⟨g166, g167⟩ := hg168
              refine tk_iast hC hK hw hT kM_at16 (by decide) rfl rfl (show 0 ≤ v51_4.toInt by omega) (show v51_4.toInt < 301 by omega) (wk_i32 r162).1 (wk_i32 r162).2 dX12_round_90 (fun H locs w169 hw hT k171 c170 => ?_)
              have hRW := RW_F1 k171 (by decide) (by decide) (by decide) hRW
              have hF := hF.put kM_at16 (inE_of (a := 0) (b := 301) (by decide) (show 0 ≤ v51_4.toInt.toNat by omega) (show v51_4.toInt.toNat ≤ 301 by omega)) k171
              have c172 := k171.gi (Or.inl (tk_ne kM_at0 kM_at16 (by decide))) c144
              have c173 := k171.gi (Or.inl (tk_ne kM_at0 kM_at16 (by decide))) c145
              have c174 := k171.gi (Or.inl (tk_ne kM_at12 kM_at16 (by decide))) c146
              have c175 := k171.gi (Or.inr (show 0 ≠ v51_4.toInt.toNat by omega)) c147
              refine lv_iconst (v := 0) hx hb dX12_round_91 (by decide) ?_
              refine lv_istore (lv' := [(5, .int 0), (0, .ref (ad 0)), (1, .int a1), (2, .int a2), (3, .int v51_3), (4, .int v51_4)]) hx hb dX12_round_92 hl (by decide) rfl (fun ls hl => ?_)
              exact L94 ((300 - (0 : Int)).toNat + 1) v51_3 0 H locs ls w169 (show 0 ≤ a1.toInt by omega) (show a1.toInt ≤ 3 by omega) (show 0 ≤ a2.toInt by omega) (show a2.toInt ≤ 1 by omega) (show (-298) ≤ v51_3.toInt by omega) (show v51_3.toInt ≤ 300 by omega) (show 1 ≤ v51_4.toInt by omega) (show v51_4.toInt ≤ 300 by omega) (by decide) (by decide) (show 1 ≤ f51_12_5.toInt by omega) (show f51_12_5.toInt ≤ 4 by omega) (show 0 ≤ f51_16_0.toInt by omega) (show f51_16_0.toInt ≤ 18479 by omega) (Nat.lt_succ_self _) hw hT hF hRW c172 c173 c174 c175 (lv_sub hl [1, 2, 3, 4, 5, 0] rfl)
          · refine lv_if_ne (tgt := 159) hx hb dX12_round_70 (by decide) (fun _ => ?_) (fun c => absurd c (by decide))
            exact J159 v51_3 v51_4 f51_12_5 f51_16_0 H locs ls w42 (show 0 ≤ a1.toInt by omega) (show a1.toInt ≤ 3 by omega) (show 0 ≤ a2.toInt by omega) (show a2.toInt ≤ 1 by omega) (show (-298) ≤ v51_3.toInt by omega) (show v51_3.toInt ≤ 300 by omega) (show 1 ≤ v51_4.toInt by omega) (show v51_4.toInt ≤ 301 by omega) (show 1 ≤ f51_12_5.toInt by omega) (show f51_12_5.toInt ≤ 4 by omega) (show 0 ≤ f51_16_0.toInt by omega) (show f51_16_0.toInt ≤ 18479 by omega)  hw (hT.up (show (B + 0 + 9 * v51_4.toInt) ≤ (B + 2709) by omega)) hF hRW c51 c52 c55 c58 (lv_sub hl [0, 1, 2, 3, 4] rfl)
  refine lv_aload_n hx hb dX12_round_0 rfl (lv_at hl 0 rfl) ?_
  refine lv_iload_n hx hb dX12_round_1 rfl (lv_at hl 1 rfl) ?_
  refine tk_Vi hC hK hw hT hA hE hSR kM_at0 (by decide) rfl (k_X12_isWalker_1 l adK adV dC dI cy ad B (by omega) (by omega) qr s1   a1 w0 s.heap.size hT ) (cwV 1 hC.2.2.2.2 gX12_round_X12_isWalker rfl rfl rfl (by decide +kernel) ⟨Nat.le_of_ble_eq_true rfl, Nat.le_of_ble_eq_true rfl⟩) rfl hl.1 rfl (Nat.le_of_ble_eq_true rfl) dX12_round_2 (fun r176 w178 H locs hp177 hw => ?_)
  obtain ⟨rfl, hg184⟩ := hp177
  rcases hg184 with rfl | ⟨rfl, g180, g181, ⟨x182, c183, rx182, tx182⟩⟩
  · refine lv_if_eq (tgt := 18) hx hb dX12_round_5 (by decide) (fun _ => ?_) (fun c => absurd (by decide) c)
    exact J18  H locs ls w0   hw hT hF hRW  (lv_sub hl [0, 1, 2] rfl)
  · refine lv_if_eq (tgt := 18) hx hb dX12_round_5 (by decide) (fun c => absurd c (by decide)) (fun _ => ?_)
    refine lv_iload_n hx hb dX12_round_8 rfl (lv_at hl 2 rfl) ?_
    refine lv_i2l hx hb dX12_round_9 rfl ?_
    refine lv_topl (fun x185 ex185 => ?_)
    have ex185 : x185.toInt = a2.toInt := by rw [ex185]; exact wk_i2l _
    have bx185 := wk_i32 a2
    refine lv_lconst (v := 0) hx hb dX12_round_10 (by decide) ?_
    refine lv_lconst (v := 1) hx hb dX12_round_11 (by decide) ?_
    refine tk_Si hC hK hw hT hA hE hSR (k_X12_in_12 l adK adV dC dI cy ad B (by omega) (by omega) qr s1   x185 (show (-2147483648) ≤ x185.toInt by omega) (show x185.toInt ≤ 2147483647 by omega) w0 H.size hT ) (va_cwS 3 hC.2.2.2.2 gX12_round_X12_in rfl rfl rfl (by decide +kernel) ⟨Nat.le_of_ble_eq_true rfl, Nat.le_of_ble_eq_true rfl⟩) rfl hl.1 rfl (Nat.le_of_ble_eq_true rfl) dX12_round_12 (fun r186 w188 H locs hp187 hw => ?_)
    obtain ⟨rfl, hg192⟩ := hp187
    rcases hg192 with rfl | ⟨rfl, g190, g191⟩
    · refine lv_if_ne (tgt := 20) hx hb dX12_round_15 (by decide) (fun c => absurd (by decide) c) (fun _ => ?_)
      exact J18  H locs ls w0   hw hT hF hRW  (lv_sub hl [0, 1, 2] rfl)
    · refine lv_if_ne (tgt := 20) hx hb dX12_round_15 (by decide) (fun _ => ?_) (fun c => absurd c (by decide))
      refine lv_aload_n hx hb dX12_round_20 rfl (lv_at hl 0 rfl) ?_
      refine tk_Vv hC hK hw hT hA hE hSR kM_at0 (by decide) rfl (k_X12_keeps_1 l adK adV dC dI cy ad B (by omega) (by omega) qr s1    w0 H.size hT ) (cwV 0 hC.2.2.2.2 gX12_round_X12_keeps rfl rfl rfl (by decide +kernel) ⟨Nat.le_of_ble_eq_true rfl, Nat.le_of_ble_eq_true rfl⟩) rfl hl.1 rfl (Nat.le_of_ble_eq_true rfl) dX12_round_21 (fun w195 H locs hp194 hw => ?_)
      obtain ⟨hT, k196, hg200⟩ := hp194
      have hRW := RW_FE k196 (fun _ => rfl) (fun _ => rfl) (fun _ => rfl) hRW
      have hF := hF.tr k196 (by decide)
      have c201 := k196.gi kM_at12 (by decide) c183
      obtain ⟨c197, c198, c199⟩ := hg200
      refine lv_aload_n hx hb dX12_round_24 rfl (lv_at hl 0 rfl) ?_
      refine lv_iconst (v := 1) hx hb dX12_round_25 (by decide) ?_
      refine tk_putz hC hK hw hT hinX12 tyX12_ok nmX12 kM_at0 (by decide) rfl rfl 30 (by decide) (List.mem_of_getElem? (i := 1) rfl) rfl rfl rfl rfl (by decide) (by decide) dX12_round_26 (fun H locs w202 hw hT k204 c203 => ?_)
      have hRW := RW_F1 k204 (by decide) (by decide) (by decide) hRW
      have hF := hF.put kM_at0 (k := 30) (by decide) k204
      have c205 := k204.gi (Or.inr (by decide)) c201
      refine lv_aload_n hx hb dX12_round_29 rfl (lv_at hl 0 rfl) ?_
      refine lv_iconst (v := 0) hx hb dX12_round_30 (by decide) ?_
      refine tk_putz hC hK hw hT hinX12 tyX12_ok nmX12 kM_at0 (by decide) rfl rfl 27 (by decide) (List.mem_of_getElem? (i := 2) rfl) rfl rfl rfl rfl (by decide) (by decide) dX12_round_31 (fun H locs w206 hw hT k208 c207 => ?_)
      have hRW := RW_F1 k208 (by decide) (by decide) (by decide) hRW
      have hF := hF.put kM_at0 (k := 27) (by decide) k208
      have c209 := k208.gi (Or.inr (by decide)) c205
      have c210 := k208.gi (Or.inr (by decide)) c203
      refine lv_bipush (v := (-2)) hx hb dX12_round_34 (by decide) ?_
      refine lv_istore_n (lv' := [(3, .int (-2)), (0, .ref (ad 0)), (1, .int a1), (2, .int a2)]) hx hb dX12_round_36 rfl hl (by decide) rfl (fun ls hl => ?_)
      refine lv_aload_n hx hb dX12_round_37 rfl (lv_at hl 1 rfl) ?_
      refine tk_getA hC hK hw hT hinX12 kM_at0 (by decide) rfl 33 (by decide) (List.mem_of_getElem? (i := 3) rfl) rfl rfl dX12_round_38 ?_
      refine lv_iconst (v := 0) hx hb dX12_round_41 (by decide) ?_
      refine lv_aload_n hx hb dX12_round_42 rfl (lv_at hl 1 rfl) ?_
      refine lv_iload_n hx hb dX12_round_43 rfl (lv_at hl 2 rfl) ?_
      refine tk_Vi hC hK hw hT hA hE hSR kM_at0 (by decide) rfl (k_X12_asHeIs_1 l adK adV dC dI cy ad B (by omega) (by omega) qr s1   a1 (show 0 ≤ a1.toInt by omega) (show a1.toInt ≤ 3 by omega) w206 H.size hT ) (cwV 1 hC.2.2.2.2 gX12_round_X12_asHeIs rfl rfl rfl (by decide +kernel) ⟨Nat.le_of_ble_eq_true rfl, Nat.le_of_ble_eq_true rfl⟩) rfl hl.1 rfl (Nat.le_of_ble_eq_true rfl) dX12_round_44 (fun r211 w213 H locs hp212 hw => ?_)
      obtain ⟨rfl, hg217⟩ := hp212
      obtain ⟨g215, g216⟩ := hg217
      refine tk_iast hC hK hw hT kM_at16 (by decide) rfl rfl (by decide) (by decide) (wk_i32 r211).1 (wk_i32 r211).2 dX12_round_47 (fun H locs w218 hw hT k220 c219 => ?_)
      have hRW := RW_F1 k220 (by decide) (by decide) (by decide) hRW
      have hF := hF.put kM_at16 (inE_of (a := 0) (b := 301) (by decide) (by decide) (by decide)) k220
      have c221 := k220.gi (Or.inl (tk_ne kM_at12 kM_at16 (by decide))) c209
      have c222 := k220.gi (Or.inl (tk_ne kM_at0 kM_at16 (by decide))) c210
      have c223 := k220.gi (Or.inl (tk_ne kM_at0 kM_at16 (by decide))) c207
      have c219 : gi w218 16 0 = r211 := c219
      refine lv_iconst (v := 1) hx hb dX12_round_48 (by decide) ?_
      refine lv_istore (lv' := [(4, .int 1), (3, .int (-2)), (0, .ref (ad 0)), (1, .int a1), (2, .int a2)]) hx hb dX12_round_49 hl (by decide) rfl (fun ls hl => ?_)
      exact L51 ((301 - (1 : Int)).toNat + 1) (-2) 1 x182 r211 H locs ls w218 (show 0 ≤ a1.toInt by omega) (show a1.toInt ≤ 3 by omega) (show 0 ≤ a2.toInt by omega) (show a2.toInt ≤ 1 by omega) (by decide) (by decide) (by decide) (by decide) (show 1 ≤ x182.toInt by omega) (show x182.toInt ≤ 4 by omega) (show 0 ≤ r211.toInt by omega) (show r211.toInt ≤ 18479 by omega) (Nat.lt_succ_self _) hw (hT.up (show B ≤ (B + 0 + 9 * (1 : Int32).toInt) by rw [show (1 : Int32).toInt = 1 by decide]; omega)) hF hRW c223 c222 c221 c219 (lv_sub hl [2, 3, 4, 1, 0] rfl)
abbrev P_X12_placeAt_1 (ad : Nat → Nat) (cy : Nat → ClassId) (B : Int) (qr : Nat) (s1 : Int) (a2 : Int32) (w0 : va_W) : Int32 → va_W → Prop := fun r u => w0 = u ∧ ((0 ≤ r.toInt ∧ r.toInt ≤ 18))
set_option maxHeartbeats 4000000 in
set_option maxRecDepth 100000 in
theorem k_X12_placeAt_1 (l : Launch) (adK adV : Nat → Nat) (dC : Nat → ClassId) (dI : Nat → Nat → Nat) (cy : Nat → ClassId) (ad : Nat → Nat) (B : Int) (hB0 : 100000 ≤ B) (hB1 : B ≤ 1073741824) (qr : Nat) (s1 : Int)  (a2 : Int32) (ra2 : 0 ≤ a2.toInt) (ta2 : a2.toInt ≤ 9) (w0 : va_W) (sz : Nat) (hT : TW ksM ad cy B qr 12 w0)  : Met l yX12_placeAt wsX12_placeAt ({ frames := 1, cells := 0, slots := 0, locals := 12 }) (va_Pc [.ref (ad 0), .int 0, .int a2, .int 0] (wpreS adK adV dC dI cy sz w0)) (va_Qi (P_X12_placeAt_1 ad cy B qr s1 a2 w0) (fun u : va_W => wpost dC dI cy (va_A w0 sz) u) (va_A w0 sz)) 0 0 (va_A w0 sz) := by
  refine Met.ofW (cc := cX12_placeAt) (maxL := 4) (ret := (some .int)) (by decide) rfl ?_
  intro p e s m args below meth c s₁ Bk hml hv
  obtain ⟨rfl, ⟨hsz, hP, hK, hD0⟩, hE, hSR⟩ := hv
  have hx := Bk.exec
  have hb := Bk.bytes
  have hr := Bk.returns
  have hlocks := Bk.notSynchronized
  have hC : CallFix p m c cX12_placeAt 4 s _ wsX12_placeAt RX12 := ⟨hx, hb, hml, findClass_of_methodNamed Bk.named, atoms_spec (ws := wsX12_placeAt) Bk.pre⟩
  subst hsz
  have hD := hD0.self (sz := s.heap.size)
  generalize hAe : va_A w0 s.heap.size = A at hD hE ⊢
  have hA : ∀ q : Nat, s.heap.size ≤ q → A q := fun q h => by rw [← hAe]; exact Or.inr h
  have hw : Wd dC dI A s.heap s.heap [] w0 := ⟨hP, hD, va_S.rf⟩
  have hF : FE ksM ([] : List (Nat × Nat × Nat)) w0 w0 := FE.rf
  have hl := lv_entry ([.ref (ad 0), .int 0, .int a2, .int 0]) (n := 4) (Nat.le_of_ble_eq_true rfl)
  rw [lg_entry_eq]
  generalize (lg_sl ([.ref (ad 0), .int 0, .int a2, .int 0]) ++ List.replicate (4 - (lg_sl ([.ref (ad 0), .int 0, .int a2, .int 0])).length) Slot.unset).toArray = ls at hl ⊢
  have hl : lv_has ls 4 [(0, .ref (ad 0)), (1, .int 0), (2, .int a2), (3, .int 0)] := hl
  generalize hloc : ([] : List Loc) = locs at hw ⊢
  refine lv_iload_n hx hb dX12_placeAt_0 rfl (lv_at hl 1 rfl) ?_
  refine lv_bipush (v := 10) hx hb dX12_placeAt_1 (by decide) ?_
  refine lv_imul hx hb dX12_placeAt_3 ?_
  refine wk_top 0 (by decide) ?_
  refine lv_iload_n hx hb dX12_placeAt_4 rfl (lv_at hl 2 rfl) ?_
  refine lv_iadd hx hb dX12_placeAt_5 ?_
  refine lv_topi (fun x1 ex1 => ?_)
  have ex1 : x1.toInt = (0 : Int) + a2.toInt := by rw [ex1]; exact wk_add (show (-2147483648) ≤ (0 : Int) + a2.toInt by omega) (show (0 : Int) + a2.toInt ≤ 2147483647 by omega)
  refine lv_iconst (v := 2) hx hb dX12_placeAt_6 (by decide) ?_
  refine lv_imul hx hb dX12_placeAt_7 ?_
  refine lv_topi (fun x2 ex2 => ?_)
  have ex2 : x2.toInt = x1.toInt * (2 : Int) := by rw [ex2]; exact wk_mul (show (-2147483648) ≤ x1.toInt * (2 : Int) by omega) (show x1.toInt * (2 : Int) ≤ 2147483647 by omega)
  refine lv_iload_n hx hb dX12_placeAt_8 rfl (lv_at hl 3 rfl) ?_
  refine lv_if_eq (tgt := 16) hx hb dX12_placeAt_9 (by decide) (fun _ => ?_) (fun c => absurd (by decide) c)
  refine lv_iconst (v := 0) hx hb dX12_placeAt_16 (by decide) ?_
  refine lv_iadd hx hb dX12_placeAt_17 ?_
  refine lv_topi (fun x3 ex3 => ?_)
  have ex3 : x3.toInt = x2.toInt + (0 : Int) := by rw [ex3]; exact wk_add (show (-2147483648) ≤ x2.toInt + (0 : Int) by omega) (show x2.toInt + (0 : Int) ≤ 2147483647 by omega)
  exact tk_iret hC hr hlocks hK ⟨rfl, ⟨(show 0 ≤ x3.toInt by omega), (show x3.toInt ≤ 18 by omega)⟩⟩ hw dX12_placeAt_18
abbrev P_X12_could_1 (ad : Nat → Nat) (cy : Nat → ClassId) (B : Int) (qr : Nat) (s1 : Int) (a2 : Int32) (w0 : va_W) : va_W → Prop := fun u => TW ksM ad cy B qr 12 u ∧ FE ksM [(76, 0, 2600)] w0 u ∧ ((True))
set_option maxHeartbeats 4000000 in
set_option maxRecDepth 100000 in
theorem k_X12_could_1 (l : Launch) (adK adV : Nat → Nat) (dC : Nat → ClassId) (dI : Nat → Nat → Nat) (cy : Nat → ClassId) (ad : Nat → Nat) (B : Int) (hB0 : 100000 ≤ B) (hB1 : B ≤ 1073741824) (qr : Nat) (s1 : Int)  (a2 : Int32) (ra2 : 0 ≤ a2.toInt) (ta2 : a2.toInt ≤ 9) (w0 : va_W) (sz : Nat) (hT : TW ksM ad cy B qr 12 w0)  : Met l yX12_could wsX12_could ({ frames := 2, cells := 0, slots := 0, locals := 35 }) (va_Pc [.ref (ad 0), .int 0, .int a2, .int 0, .int 0] (wpreS adK adV dC dI cy sz w0)) (va_Qv (P_X12_could_1 ad cy B qr s1 a2 w0) (fun u : va_W => wpost dC dI cy (va_A w0 sz) u) (va_A w0 sz)) 0 0 (va_A w0 sz) := by
  refine Met.ofW (cc := cX12_could) (maxL := 6) (ret := none) (by decide) rfl ?_
  intro p e s m args below meth c s₁ Bk hml hv
  obtain ⟨rfl, ⟨hsz, hP, hK, hD0⟩, hE, hSR⟩ := hv
  have hx := Bk.exec
  have hb := Bk.bytes
  have hr := Bk.returns
  have hlocks := Bk.notSynchronized
  have hC : CallFix p m c cX12_could 6 s _ wsX12_could RX12 := ⟨hx, hb, hml, findClass_of_methodNamed Bk.named, atoms_spec (ws := wsX12_could) Bk.pre⟩
  subst hsz
  have hD := hD0.self (sz := s.heap.size)
  generalize hAe : va_A w0 s.heap.size = A at hD hE ⊢
  have hA : ∀ q : Nat, s.heap.size ≤ q → A q := fun q h => by rw [← hAe]; exact Or.inr h
  have hw : Wd dC dI A s.heap s.heap [] w0 := ⟨hP, hD, va_S.rf⟩
  have hF : FE ksM [(76, 0, 2600)] w0 w0 := FE.rf
  have hl := lv_entry ([.ref (ad 0), .int 0, .int a2, .int 0, .int 0]) (n := 6) (Nat.le_of_ble_eq_true rfl)
  rw [lg_entry_eq]
  generalize (lg_sl ([.ref (ad 0), .int 0, .int a2, .int 0, .int 0]) ++ List.replicate (6 - (lg_sl ([.ref (ad 0), .int 0, .int a2, .int 0, .int 0])).length) Slot.unset).toArray = ls at hl ⊢
  have hl : lv_has ls 6 [(0, .ref (ad 0)), (1, .int 0), (2, .int a2), (3, .int 0), (4, .int 0)] := hl
  generalize hloc : ([] : List Loc) = locs at hw ⊢
  have hinX12 : ∀ w ∈ u_ws RX12 TX12 42, w ∈ wsX12_could := fun _ h => List.mem_cons_of_mem _ (List.mem_append_right _ (h))
  have J30 : ∀ (v30_5 : Int32) (H : Heap) (locs : List Loc) (ls : Array Slot) (w1 : va_W), 0 ≤ a2.toInt → a2.toInt ≤ 9 → 0 ≤ v30_5.toInt → v30_5.toInt ≤ 18 → Wd dC dI A s.heap H locs w1 → TW ksM ad cy B qr 12 w1 → FE ksM [(76, 0, 2600)] w0 w1 → lv_has ls 6 [(0, .ref (ad 0)), (1, .int 0), (2, .int a2), (3, .int 0), (4, .int 0), (5, .int v30_5)] → W p l e ({ frames := 2, cells := 0, slots := 0, locals := 35 }) s m (List.toArray [.ref (ad 0), .int 0, .int a2, .int 0, .int 0]) below meth c H locs 0 0 (MQ below (va_Qv (P_X12_could_1 ad cy B qr s1 a2 w0) (fun u : va_W => wpost dC dI cy A u) A) (List.toArray [.ref (ad 0), .int 0, .int a2, .int 0, .int 0]) s 0 0 A) (F0 m 30 ls []) := by
    intro v30_5 H locs ls w1 r2 t3 r4 t5 hw hT hF hl
    exact tk_vret hC hr hlocks hK ⟨hT, hF, trivial⟩ hw dX12_could_30
  refine lv_aload_n hx hb dX12_could_0 rfl (lv_at hl 0 rfl) ?_
  refine lv_iload_n hx hb dX12_could_1 rfl (lv_at hl 1 rfl) ?_
  refine lv_iload_n hx hb dX12_could_2 rfl (lv_at hl 2 rfl) ?_
  refine lv_iload_n hx hb dX12_could_3 rfl (lv_at hl 3 rfl) ?_
  refine tk_Vi hC hK hw hT hA hE hSR kM_at0 (by decide) rfl (k_X12_placeAt_1 l adK adV dC dI cy ad B (by omega) (by omega) qr s1   a2 (show 0 ≤ a2.toInt by omega) (show a2.toInt ≤ 9 by omega) w0 s.heap.size hT ) (cwV 3 hC.2.2.2.2 gX12_could_X12_placeAt rfl rfl rfl (by decide +kernel) ⟨Nat.le_of_ble_eq_true rfl, Nat.le_of_ble_eq_true rfl⟩) rfl hl.1 rfl (Nat.le_of_ble_eq_true rfl) dX12_could_4 (fun r6 w8 H locs hp7 hw => ?_)
  obtain ⟨rfl, hg12⟩ := hp7
  obtain ⟨g10, g11⟩ := hg12
  refine lv_istore (lv' := [(5, .int r6), (0, .ref (ad 0)), (1, .int 0), (2, .int a2), (3, .int 0), (4, .int 0)]) hx hb dX12_could_7 hl (by decide) rfl (fun ls hl => ?_)
  refine lv_iload hx hb dX12_could_9 (lv_at hl 5 rfl) ?_
  refine lv_aload_n hx hb dX12_could_11 rfl (lv_at hl 1 rfl) ?_
  refine tk_getA hC hK hw hT hinX12 kM_at0 (by decide) rfl 34 (by decide) (List.mem_of_getElem? (i := 1) rfl) rfl rfl dX12_could_12 ?_
  refine lv_iload hx hb dX12_could_15 (lv_at hl 0 rfl) ?_
  refine tk_iald hC hK hw hT kM_at17 rfl rfl (show 0 ≤ r6.toInt by omega) (show r6.toInt < 2600 by omega) dX12_could_17 (fun x13 c14 rx13 tx13 => ?_)
  refine lv_icmp_ge (tgt := 30) hx hb dX12_could_18 (by decide) (fun c15 => ?_) (fun c15 => ?_)
  · have c15 : x13.toInt ≤ (0 : Int) := wk_le.mp c15
    exact J30 r6 H locs ls w0 (show 0 ≤ a2.toInt by omega) (show a2.toInt ≤ 9 by omega) (show 0 ≤ r6.toInt by omega) (show r6.toInt ≤ 18 by omega)  hw hT hF  (lv_sub hl [1, 2, 3, 4, 5, 0] rfl)
  · have c15 : (0 : Int) < x13.toInt := wk_leF c15
    refine lv_aload_n hx hb dX12_could_21 rfl (lv_at hl 1 rfl) ?_
    refine tk_getA hC hK hw hT hinX12 kM_at0 (by decide) rfl 34 (by decide) (List.mem_of_getElem? (i := 1) rfl) rfl rfl dX12_could_22 ?_
    refine lv_iload hx hb dX12_could_25 (lv_at hl 0 rfl) ?_
    refine lv_iload hx hb dX12_could_27 (lv_at hl 5 rfl) ?_
    refine tk_iast hC hK hw hT kM_at17 (by decide) rfl rfl (show 0 ≤ r6.toInt by omega) (show r6.toInt < 2600 by omega) (by decide) (by decide) dX12_could_29 (fun H locs w16 hw hT k18 c17 => ?_)
    have hF := hF.put kM_at17 (inE_of (a := 0) (b := 2600) (by decide) (show 0 ≤ r6.toInt.toNat by omega) (show r6.toInt.toNat ≤ 2600 by omega)) k18
    exact J30 r6 H locs ls w16 (show 0 ≤ a2.toInt by omega) (show a2.toInt ≤ 9 by omega) (show 0 ≤ r6.toInt by omega) (show r6.toInt ≤ 18 by omega)  hw hT hF  (lv_sub hl [1, 2, 3, 4, 5, 0] rfl)
abbrev P_X12_placeAt_2 (ad : Nat → Nat) (cy : Nat → ClassId) (B : Int) (qr : Nat) (s1 : Int) (a2 : Int32) (w0 : va_W) : Int32 → va_W → Prop := fun r u => w0 = u ∧ ((1 ≤ r.toInt ∧ r.toInt ≤ 19))
set_option maxHeartbeats 4000000 in
set_option maxRecDepth 100000 in
theorem k_X12_placeAt_2 (l : Launch) (adK adV : Nat → Nat) (dC : Nat → ClassId) (dI : Nat → Nat → Nat) (cy : Nat → ClassId) (ad : Nat → Nat) (B : Int) (hB0 : 100000 ≤ B) (hB1 : B ≤ 1073741824) (qr : Nat) (s1 : Int)  (a2 : Int32) (ra2 : 0 ≤ a2.toInt) (ta2 : a2.toInt ≤ 9) (w0 : va_W) (sz : Nat) (hT : TW ksM ad cy B qr 12 w0)  : Met l yX12_placeAt wsX12_placeAt ({ frames := 1, cells := 0, slots := 0, locals := 12 }) (va_Pc [.ref (ad 0), .int 0, .int a2, .int 1] (wpreS adK adV dC dI cy sz w0)) (va_Qi (P_X12_placeAt_2 ad cy B qr s1 a2 w0) (fun u : va_W => wpost dC dI cy (va_A w0 sz) u) (va_A w0 sz)) 0 0 (va_A w0 sz) := by
  refine Met.ofW (cc := cX12_placeAt) (maxL := 4) (ret := (some .int)) (by decide) rfl ?_
  intro p e s m args below meth c s₁ Bk hml hv
  obtain ⟨rfl, ⟨hsz, hP, hK, hD0⟩, hE, hSR⟩ := hv
  have hx := Bk.exec
  have hb := Bk.bytes
  have hr := Bk.returns
  have hlocks := Bk.notSynchronized
  have hC : CallFix p m c cX12_placeAt 4 s _ wsX12_placeAt RX12 := ⟨hx, hb, hml, findClass_of_methodNamed Bk.named, atoms_spec (ws := wsX12_placeAt) Bk.pre⟩
  subst hsz
  have hD := hD0.self (sz := s.heap.size)
  generalize hAe : va_A w0 s.heap.size = A at hD hE ⊢
  have hA : ∀ q : Nat, s.heap.size ≤ q → A q := fun q h => by rw [← hAe]; exact Or.inr h
  have hw : Wd dC dI A s.heap s.heap [] w0 := ⟨hP, hD, va_S.rf⟩
  have hF : FE ksM ([] : List (Nat × Nat × Nat)) w0 w0 := FE.rf
  have hl := lv_entry ([.ref (ad 0), .int 0, .int a2, .int 1]) (n := 4) (Nat.le_of_ble_eq_true rfl)
  rw [lg_entry_eq]
  generalize (lg_sl ([.ref (ad 0), .int 0, .int a2, .int 1]) ++ List.replicate (4 - (lg_sl ([.ref (ad 0), .int 0, .int a2, .int 1])).length) Slot.unset).toArray = ls at hl ⊢
  have hl : lv_has ls 4 [(0, .ref (ad 0)), (1, .int 0), (2, .int a2), (3, .int 1)] := hl
  generalize hloc : ([] : List Loc) = locs at hw ⊢
  refine lv_iload_n hx hb dX12_placeAt_0 rfl (lv_at hl 1 rfl) ?_
  refine lv_bipush (v := 10) hx hb dX12_placeAt_1 (by decide) ?_
  refine lv_imul hx hb dX12_placeAt_3 ?_
  refine wk_top 0 (by decide) ?_
  refine lv_iload_n hx hb dX12_placeAt_4 rfl (lv_at hl 2 rfl) ?_
  refine lv_iadd hx hb dX12_placeAt_5 ?_
  refine lv_topi (fun x1 ex1 => ?_)
  have ex1 : x1.toInt = (0 : Int) + a2.toInt := by rw [ex1]; exact wk_add (show (-2147483648) ≤ (0 : Int) + a2.toInt by omega) (show (0 : Int) + a2.toInt ≤ 2147483647 by omega)
  refine lv_iconst (v := 2) hx hb dX12_placeAt_6 (by decide) ?_
  refine lv_imul hx hb dX12_placeAt_7 ?_
  refine lv_topi (fun x2 ex2 => ?_)
  have ex2 : x2.toInt = x1.toInt * (2 : Int) := by rw [ex2]; exact wk_mul (show (-2147483648) ≤ x1.toInt * (2 : Int) by omega) (show x1.toInt * (2 : Int) ≤ 2147483647 by omega)
  refine lv_iload_n hx hb dX12_placeAt_8 rfl (lv_at hl 3 rfl) ?_
  refine lv_if_eq (tgt := 16) hx hb dX12_placeAt_9 (by decide) (fun c => absurd c (by decide)) (fun _ => ?_)
  refine lv_iconst (v := 1) hx hb dX12_placeAt_12 (by decide) ?_
  refine lv_goto (tgt := 17) hx hb dX12_placeAt_13 (by decide) ?_
  refine lv_iadd hx hb dX12_placeAt_17 ?_
  refine lv_topi (fun x3 ex3 => ?_)
  have ex3 : x3.toInt = x2.toInt + (1 : Int) := by rw [ex3]; exact wk_add (show (-2147483648) ≤ x2.toInt + (1 : Int) by omega) (show x2.toInt + (1 : Int) ≤ 2147483647 by omega)
  exact tk_iret hC hr hlocks hK ⟨rfl, ⟨(show 1 ≤ x3.toInt by omega), (show x3.toInt ≤ 19 by omega)⟩⟩ hw dX12_placeAt_18
abbrev P_X12_could_2 (ad : Nat → Nat) (cy : Nat → ClassId) (B : Int) (qr : Nat) (s1 : Int) (a2 : Int32) (w0 : va_W) : va_W → Prop := fun u => TW ksM ad cy B qr 12 u ∧ FE ksM [(76, 0, 2600)] w0 u ∧ ((True))
set_option maxHeartbeats 4000000 in
set_option maxRecDepth 100000 in
theorem k_X12_could_2 (l : Launch) (adK adV : Nat → Nat) (dC : Nat → ClassId) (dI : Nat → Nat → Nat) (cy : Nat → ClassId) (ad : Nat → Nat) (B : Int) (hB0 : 100000 ≤ B) (hB1 : B ≤ 1073741824) (qr : Nat) (s1 : Int)  (a2 : Int32) (ra2 : 0 ≤ a2.toInt) (ta2 : a2.toInt ≤ 9) (w0 : va_W) (sz : Nat) (hT : TW ksM ad cy B qr 12 w0)  : Met l yX12_could wsX12_could ({ frames := 2, cells := 0, slots := 0, locals := 35 }) (va_Pc [.ref (ad 0), .int 0, .int a2, .int 1, .int 0] (wpreS adK adV dC dI cy sz w0)) (va_Qv (P_X12_could_2 ad cy B qr s1 a2 w0) (fun u : va_W => wpost dC dI cy (va_A w0 sz) u) (va_A w0 sz)) 0 0 (va_A w0 sz) := by
  refine Met.ofW (cc := cX12_could) (maxL := 6) (ret := none) (by decide) rfl ?_
  intro p e s m args below meth c s₁ Bk hml hv
  obtain ⟨rfl, ⟨hsz, hP, hK, hD0⟩, hE, hSR⟩ := hv
  have hx := Bk.exec
  have hb := Bk.bytes
  have hr := Bk.returns
  have hlocks := Bk.notSynchronized
  have hC : CallFix p m c cX12_could 6 s _ wsX12_could RX12 := ⟨hx, hb, hml, findClass_of_methodNamed Bk.named, atoms_spec (ws := wsX12_could) Bk.pre⟩
  subst hsz
  have hD := hD0.self (sz := s.heap.size)
  generalize hAe : va_A w0 s.heap.size = A at hD hE ⊢
  have hA : ∀ q : Nat, s.heap.size ≤ q → A q := fun q h => by rw [← hAe]; exact Or.inr h
  have hw : Wd dC dI A s.heap s.heap [] w0 := ⟨hP, hD, va_S.rf⟩
  have hF : FE ksM [(76, 0, 2600)] w0 w0 := FE.rf
  have hl := lv_entry ([.ref (ad 0), .int 0, .int a2, .int 1, .int 0]) (n := 6) (Nat.le_of_ble_eq_true rfl)
  rw [lg_entry_eq]
  generalize (lg_sl ([.ref (ad 0), .int 0, .int a2, .int 1, .int 0]) ++ List.replicate (6 - (lg_sl ([.ref (ad 0), .int 0, .int a2, .int 1, .int 0])).length) Slot.unset).toArray = ls at hl ⊢
  have hl : lv_has ls 6 [(0, .ref (ad 0)), (1, .int 0), (2, .int a2), (3, .int 1), (4, .int 0)] := hl
  generalize hloc : ([] : List Loc) = locs at hw ⊢
  have hinX12 : ∀ w ∈ u_ws RX12 TX12 42, w ∈ wsX12_could := fun _ h => List.mem_cons_of_mem _ (List.mem_append_right _ (h))
  have J30 : ∀ (v30_5 : Int32) (H : Heap) (locs : List Loc) (ls : Array Slot) (w1 : va_W), 0 ≤ a2.toInt → a2.toInt ≤ 9 → 1 ≤ v30_5.toInt → v30_5.toInt ≤ 19 → Wd dC dI A s.heap H locs w1 → TW ksM ad cy B qr 12 w1 → FE ksM [(76, 0, 2600)] w0 w1 → lv_has ls 6 [(0, .ref (ad 0)), (1, .int 0), (2, .int a2), (3, .int 1), (4, .int 0), (5, .int v30_5)] → W p l e ({ frames := 2, cells := 0, slots := 0, locals := 35 }) s m (List.toArray [.ref (ad 0), .int 0, .int a2, .int 1, .int 0]) below meth c H locs 0 0 (MQ below (va_Qv (P_X12_could_2 ad cy B qr s1 a2 w0) (fun u : va_W => wpost dC dI cy A u) A) (List.toArray [.ref (ad 0), .int 0, .int a2, .int 1, .int 0]) s 0 0 A) (F0 m 30 ls []) := by
    intro v30_5 H locs ls w1 r2 t3 r4 t5 hw hT hF hl
    exact tk_vret hC hr hlocks hK ⟨hT, hF, trivial⟩ hw dX12_could_30
  refine lv_aload_n hx hb dX12_could_0 rfl (lv_at hl 0 rfl) ?_
  refine lv_iload_n hx hb dX12_could_1 rfl (lv_at hl 1 rfl) ?_
  refine lv_iload_n hx hb dX12_could_2 rfl (lv_at hl 2 rfl) ?_
  refine lv_iload_n hx hb dX12_could_3 rfl (lv_at hl 3 rfl) ?_
  refine tk_Vi hC hK hw hT hA hE hSR kM_at0 (by decide) rfl (k_X12_placeAt_2 l adK adV dC dI cy ad B (by omega) (by omega) qr s1   a2 (show 0 ≤ a2.toInt by omega) (show a2.toInt ≤ 9 by omega) w0 s.heap.size hT ) (cwV 3 hC.2.2.2.2 gX12_could_X12_placeAt rfl rfl rfl (by decide +kernel) ⟨Nat.le_of_ble_eq_true rfl, Nat.le_of_ble_eq_true rfl⟩) rfl hl.1 rfl (Nat.le_of_ble_eq_true rfl) dX12_could_4 (fun r6 w8 H locs hp7 hw => ?_)
  obtain ⟨rfl, hg12⟩ := hp7
  obtain ⟨g10, g11⟩ := hg12
  refine lv_istore (lv' := [(5, .int r6), (0, .ref (ad 0)), (1, .int 0), (2, .int a2), (3, .int 1), (4, .int 0)]) hx hb dX12_could_7 hl (by decide) rfl (fun ls hl => ?_)
  refine lv_iload hx hb dX12_could_9 (lv_at hl 5 rfl) ?_
  refine lv_aload_n hx hb dX12_could_11 rfl (lv_at hl 1 rfl) ?_
  refine tk_getA hC hK hw hT hinX12 kM_at0 (by decide) rfl 34 (by decide) (List.mem_of_getElem? (i := 1) rfl) rfl rfl dX12_could_12 ?_
  refine lv_iload hx hb dX12_could_15 (lv_at hl 0 rfl) ?_
  refine tk_iald hC hK hw hT kM_at17 rfl rfl (show 0 ≤ r6.toInt by omega) (show r6.toInt < 2600 by omega) dX12_could_17 (fun x13 c14 rx13 tx13 => ?_)
  refine lv_icmp_ge (tgt := 30) hx hb dX12_could_18 (by decide) (fun c15 => ?_) (fun c15 => ?_)
  · have c15 : x13.toInt ≤ (0 : Int) := wk_le.mp c15
    exact J30 r6 H locs ls w0 (show 0 ≤ a2.toInt by omega) (show a2.toInt ≤ 9 by omega) (show 1 ≤ r6.toInt by omega) (show r6.toInt ≤ 19 by omega)  hw hT hF  (lv_sub hl [1, 2, 3, 4, 5, 0] rfl)
  · have c15 : (0 : Int) < x13.toInt := wk_leF c15
    refine lv_aload_n hx hb dX12_could_21 rfl (lv_at hl 1 rfl) ?_
    refine tk_getA hC hK hw hT hinX12 kM_at0 (by decide) rfl 34 (by decide) (List.mem_of_getElem? (i := 1) rfl) rfl rfl dX12_could_22 ?_
    refine lv_iload hx hb dX12_could_25 (lv_at hl 0 rfl) ?_
    refine lv_iload hx hb dX12_could_27 (lv_at hl 5 rfl) ?_
    refine tk_iast hC hK hw hT kM_at17 (by decide) rfl rfl (show 0 ≤ r6.toInt by omega) (show r6.toInt < 2600 by omega) (by decide) (by decide) dX12_could_29 (fun H locs w16 hw hT k18 c17 => ?_)
    have hF := hF.put kM_at17 (inE_of (a := 0) (b := 2600) (by decide) (show 0 ≤ r6.toInt.toNat by omega) (show r6.toInt.toNat ≤ 2600 by omega)) k18
    exact J30 r6 H locs ls w16 (show 0 ≤ a2.toInt by omega) (show a2.toInt ≤ 9 by omega) (show 1 ≤ r6.toInt by omega) (show r6.toInt ≤ 19 by omega)  hw hT hF  (lv_sub hl [1, 2, 3, 4, 5, 0] rfl)
abbrev P_X12_in_17 (ad : Nat → Nat) (cy : Nat → ClassId) (B : Int) (qr : Nat) (s1 : Int) (a0 : Int64) (w0 : va_W) : Int32 → va_W → Prop := fun r u => w0 = u ∧ ((r = 0) ∨ (r = 1 ∧ 0 ≤ a0.toInt ∧ a0.toInt ≤ 120))
set_option maxHeartbeats 4000000 in
set_option maxRecDepth 100000 in
theorem k_X12_in_17 (l : Launch) (adK adV : Nat → Nat) (dC : Nat → ClassId) (dI : Nat → Nat → Nat) (cy : Nat → ClassId) (ad : Nat → Nat) (B : Int) (hB0 : 100000 ≤ B) (hB1 : B ≤ 1073741824) (qr : Nat) (s1 : Int)  (a0 : Int64) (ra0 : (-2147483648) ≤ a0.toInt) (ta0 : a0.toInt ≤ 2147483647) (w0 : va_W) (sz : Nat) (hT : TW ksM ad cy B qr 12 w0)  : Met l yX12_in wsX12_in ({ frames := 1, cells := 0, slots := 0, locals := 12 }) (va_Pc [.long a0, .long 0, .long 120] (wpreS adK adV dC dI cy sz w0)) (va_Qi (P_X12_in_17 ad cy B qr s1 a0 w0) (fun u : va_W => wpost dC dI cy (va_A w0 sz) u) (va_A w0 sz)) 0 0 (va_A w0 sz) := by
  refine Met.ofW (cc := cX12_in) (maxL := 6) (ret := (some .boolean)) (by decide) rfl ?_
  intro p e s m args below meth c s₁ Bk hml hv
  obtain ⟨rfl, ⟨hsz, hP, hK, hD0⟩, hE, hSR⟩ := hv
  have hx := Bk.exec
  have hb := Bk.bytes
  have hr := Bk.returns
  have hlocks := Bk.notSynchronized
  have hC : CallFix p m c cX12_in 6 s _ wsX12_in RX12 := ⟨hx, hb, hml, findClass_of_methodNamed Bk.named, atoms_spec (ws := wsX12_in) Bk.pre⟩
  subst hsz
  have hD := hD0.self (sz := s.heap.size)
  generalize hAe : va_A w0 s.heap.size = A at hD hE ⊢
  have hA : ∀ q : Nat, s.heap.size ≤ q → A q := fun q h => by rw [← hAe]; exact Or.inr h
  have hw : Wd dC dI A s.heap s.heap [] w0 := ⟨hP, hD, va_S.rf⟩
  have hF : FE ksM ([] : List (Nat × Nat × Nat)) w0 w0 := FE.rf
  have hl := lv_entry ([.long a0, .long 0, .long 120]) (n := 6) (Nat.le_of_ble_eq_true rfl)
  rw [lg_entry_eq]
  generalize (lg_sl ([.long a0, .long 0, .long 120]) ++ List.replicate (6 - (lg_sl ([.long a0, .long 0, .long 120])).length) Slot.unset).toArray = ls at hl ⊢
  have hl : lv_has ls 6 [(0, .long a0), (2, .long 0), (4, .long 120)] := hl
  generalize hloc : ([] : List Loc) = locs at hw ⊢
  have J17 : ∀ (H : Heap) (locs : List Loc) (ls : Array Slot), (-2147483648) ≤ a0.toInt → a0.toInt ≤ 2147483647 → Wd dC dI A s.heap H locs w0 → lv_has ls 6 [(0, .long a0), (2, .long 0), (4, .long 120)] → W p l e ({ frames := 1, cells := 0, slots := 0, locals := 12 }) s m (List.toArray [.long a0, .long 0, .long 120]) below meth c H locs 0 0 (MQ below (va_Qi (P_X12_in_17 ad cy B qr s1 a0 w0) (fun u : va_W => wpost dC dI cy A u) A) (List.toArray [.long a0, .long 0, .long 120]) s 0 0 A) (F0 m 17 ls []) := by
    intro H locs ls r1 t2 hw hl
    refine lv_iconst (v := 0) hx hb dX12_in_17 (by decide) ?_
    exact tk_zret hC hr rfl hlocks hK ⟨rfl, (Or.inl rfl)⟩ hw dX12_in_18
  refine lv_lload_n hx hb dX12_in_0 rfl (lv_at hl 0 rfl) ?_
  refine lv_lload_n hx hb dX12_in_1 rfl (lv_at hl 1 rfl) ?_
  refine W.lcmp hx hb dX12_in_2 ?_
  refine lv_if_lt (tgt := 17) hx hb dX12_in_3 (by decide) (fun c3 => ?_) (fun c3 => ?_)
  · have c3 : a0.toInt < (0 : Int) := wk_cltT c3
    exact J17  s.heap locs ls  (show (-2147483648) ≤ a0.toInt by omega) (show a0.toInt ≤ 2147483647 by omega)  hw   (lv_sub hl [0, 1, 2] rfl)
  · have c3 : (0 : Int) ≤ a0.toInt := wk_cltF c3
    refine lv_lload_n hx hb dX12_in_6 rfl (lv_at hl 0 rfl) ?_
    refine lv_lload hx hb dX12_in_7 (lv_at hl 2 rfl) ?_
    refine W.lcmp hx hb dX12_in_9 ?_
    refine lv_if_gt (tgt := 17) hx hb dX12_in_10 (by decide) (fun c4 => ?_) (fun c4 => ?_)
    · have c4 : (120 : Int) < a0.toInt := wk_cgtT c4
      exact J17  s.heap locs ls  (show (-2147483648) ≤ a0.toInt by omega) (show a0.toInt ≤ 2147483647 by omega)  hw   (lv_sub hl [0, 1, 2] rfl)
    · have c4 : a0.toInt ≤ (120 : Int) := wk_cgtF c4
      refine lv_iconst (v := 1) hx hb dX12_in_13 (by decide) ?_
      refine lv_goto (tgt := 18) hx hb dX12_in_14 (by decide) ?_
      exact tk_zret hC hr rfl hlocks hK ⟨rfl, (Or.inr ⟨rfl, (show 0 ≤ a0.toInt by omega), (show a0.toInt ≤ 120 by omega)⟩)⟩ hw dX12_in_18
abbrev P_X12_placeAt_3 (ad : Nat → Nat) (cy : Nat → ClassId) (B : Int) (qr : Nat) (s1 : Int) (a1 : Int32) (a2 : Int32) (w0 : va_W) : Int32 → va_W → Prop := fun r u => w0 = u ∧ ((0 ≤ r.toInt ∧ r.toInt ≤ 2418))
set_option maxHeartbeats 4000000 in
set_option maxRecDepth 100000 in
theorem k_X12_placeAt_3 (l : Launch) (adK adV : Nat → Nat) (dC : Nat → ClassId) (dI : Nat → Nat → Nat) (cy : Nat → ClassId) (ad : Nat → Nat) (B : Int) (hB0 : 100000 ≤ B) (hB1 : B ≤ 1073741824) (qr : Nat) (s1 : Int)  (a1 : Int32) (ra1 : 0 ≤ a1.toInt) (ta1 : a1.toInt ≤ 120) (a2 : Int32) (ra2 : 0 ≤ a2.toInt) (ta2 : a2.toInt ≤ 9) (w0 : va_W) (sz : Nat) (hT : TW ksM ad cy B qr 12 w0)  : Met l yX12_placeAt wsX12_placeAt ({ frames := 1, cells := 0, slots := 0, locals := 12 }) (va_Pc [.ref (ad 0), .int a1, .int a2, .int 0] (wpreS adK adV dC dI cy sz w0)) (va_Qi (P_X12_placeAt_3 ad cy B qr s1 a1 a2 w0) (fun u : va_W => wpost dC dI cy (va_A w0 sz) u) (va_A w0 sz)) 0 0 (va_A w0 sz) := by
  refine Met.ofW (cc := cX12_placeAt) (maxL := 4) (ret := (some .int)) (by decide) rfl ?_
  intro p e s m args below meth c s₁ Bk hml hv
  obtain ⟨rfl, ⟨hsz, hP, hK, hD0⟩, hE, hSR⟩ := hv
  have hx := Bk.exec
  have hb := Bk.bytes
  have hr := Bk.returns
  have hlocks := Bk.notSynchronized
  have hC : CallFix p m c cX12_placeAt 4 s _ wsX12_placeAt RX12 := ⟨hx, hb, hml, findClass_of_methodNamed Bk.named, atoms_spec (ws := wsX12_placeAt) Bk.pre⟩
  subst hsz
  have hD := hD0.self (sz := s.heap.size)
  generalize hAe : va_A w0 s.heap.size = A at hD hE ⊢
  have hA : ∀ q : Nat, s.heap.size ≤ q → A q := fun q h => by rw [← hAe]; exact Or.inr h
  have hw : Wd dC dI A s.heap s.heap [] w0 := ⟨hP, hD, va_S.rf⟩
  have hF : FE ksM ([] : List (Nat × Nat × Nat)) w0 w0 := FE.rf
  have hl := lv_entry ([.ref (ad 0), .int a1, .int a2, .int 0]) (n := 4) (Nat.le_of_ble_eq_true rfl)
  rw [lg_entry_eq]
  generalize (lg_sl ([.ref (ad 0), .int a1, .int a2, .int 0]) ++ List.replicate (4 - (lg_sl ([.ref (ad 0), .int a1, .int a2, .int 0])).length) Slot.unset).toArray = ls at hl ⊢
  have hl : lv_has ls 4 [(0, .ref (ad 0)), (1, .int a1), (2, .int a2), (3, .int 0)] := hl
  generalize hloc : ([] : List Loc) = locs at hw ⊢
  refine lv_iload_n hx hb dX12_placeAt_0 rfl (lv_at hl 1 rfl) ?_
  refine lv_bipush (v := 10) hx hb dX12_placeAt_1 (by decide) ?_
  refine lv_imul hx hb dX12_placeAt_3 ?_
  refine lv_topi (fun x1 ex1 => ?_)
  have ex1 : x1.toInt = a1.toInt * (10 : Int) := by rw [ex1]; exact wk_mul (show (-2147483648) ≤ a1.toInt * (10 : Int) by omega) (show a1.toInt * (10 : Int) ≤ 2147483647 by omega)
  refine lv_iload_n hx hb dX12_placeAt_4 rfl (lv_at hl 2 rfl) ?_
  refine lv_iadd hx hb dX12_placeAt_5 ?_
  refine lv_topi (fun x2 ex2 => ?_)
  have ex2 : x2.toInt = x1.toInt + a2.toInt := by rw [ex2]; exact wk_add (show (-2147483648) ≤ x1.toInt + a2.toInt by omega) (show x1.toInt + a2.toInt ≤ 2147483647 by omega)
  refine lv_iconst (v := 2) hx hb dX12_placeAt_6 (by decide) ?_
  refine lv_imul hx hb dX12_placeAt_7 ?_
  refine lv_topi (fun x3 ex3 => ?_)
  have ex3 : x3.toInt = x2.toInt * (2 : Int) := by rw [ex3]; exact wk_mul (show (-2147483648) ≤ x2.toInt * (2 : Int) by omega) (show x2.toInt * (2 : Int) ≤ 2147483647 by omega)
  refine lv_iload_n hx hb dX12_placeAt_8 rfl (lv_at hl 3 rfl) ?_
  refine lv_if_eq (tgt := 16) hx hb dX12_placeAt_9 (by decide) (fun _ => ?_) (fun c => absurd (by decide) c)
  refine lv_iconst (v := 0) hx hb dX12_placeAt_16 (by decide) ?_
  refine lv_iadd hx hb dX12_placeAt_17 ?_
  refine lv_topi (fun x4 ex4 => ?_)
  have ex4 : x4.toInt = x3.toInt + (0 : Int) := by rw [ex4]; exact wk_add (show (-2147483648) ≤ x3.toInt + (0 : Int) by omega) (show x3.toInt + (0 : Int) ≤ 2147483647 by omega)
  exact tk_iret hC hr hlocks hK ⟨rfl, ⟨(show 0 ≤ x4.toInt by omega), (show x4.toInt ≤ 2418 by omega)⟩⟩ hw dX12_placeAt_18
abbrev P_X12_could_3 (ad : Nat → Nat) (cy : Nat → ClassId) (B : Int) (qr : Nat) (s1 : Int) (a1 : Int32) (a2 : Int32) (a4 : Int32) (w0 : va_W) : va_W → Prop := fun u => TW ksM ad cy B qr 12 u ∧ FE ksM [(76, 0, 2600)] w0 u ∧ ((True))
set_option maxHeartbeats 4000000 in
set_option maxRecDepth 100000 in
theorem k_X12_could_3 (l : Launch) (adK adV : Nat → Nat) (dC : Nat → ClassId) (dI : Nat → Nat → Nat) (cy : Nat → ClassId) (ad : Nat → Nat) (B : Int) (hB0 : 100000 ≤ B) (hB1 : B ≤ 1073741824) (qr : Nat) (s1 : Int)  (a1 : Int32) (ra1 : 0 ≤ a1.toInt) (ta1 : a1.toInt ≤ 120) (a2 : Int32) (ra2 : 0 ≤ a2.toInt) (ta2 : a2.toInt ≤ 9) (a4 : Int32) (w0 : va_W) (sz : Nat) (hT : TW ksM ad cy B qr 12 w0)  : Met l yX12_could wsX12_could ({ frames := 2, cells := 0, slots := 0, locals := 35 }) (va_Pc [.ref (ad 0), .int a1, .int a2, .int 0, .int a4] (wpreS adK adV dC dI cy sz w0)) (va_Qv (P_X12_could_3 ad cy B qr s1 a1 a2 a4 w0) (fun u : va_W => wpost dC dI cy (va_A w0 sz) u) (va_A w0 sz)) 0 0 (va_A w0 sz) := by
  refine Met.ofW (cc := cX12_could) (maxL := 6) (ret := none) (by decide) rfl ?_
  intro p e s m args below meth c s₁ Bk hml hv
  obtain ⟨rfl, ⟨hsz, hP, hK, hD0⟩, hE, hSR⟩ := hv
  have hx := Bk.exec
  have hb := Bk.bytes
  have hr := Bk.returns
  have hlocks := Bk.notSynchronized
  have hC : CallFix p m c cX12_could 6 s _ wsX12_could RX12 := ⟨hx, hb, hml, findClass_of_methodNamed Bk.named, atoms_spec (ws := wsX12_could) Bk.pre⟩
  subst hsz
  have hD := hD0.self (sz := s.heap.size)
  generalize hAe : va_A w0 s.heap.size = A at hD hE ⊢
  have hA : ∀ q : Nat, s.heap.size ≤ q → A q := fun q h => by rw [← hAe]; exact Or.inr h
  have hw : Wd dC dI A s.heap s.heap [] w0 := ⟨hP, hD, va_S.rf⟩
  have hF : FE ksM [(76, 0, 2600)] w0 w0 := FE.rf
  have hl := lv_entry ([.ref (ad 0), .int a1, .int a2, .int 0, .int a4]) (n := 6) (Nat.le_of_ble_eq_true rfl)
  rw [lg_entry_eq]
  generalize (lg_sl ([.ref (ad 0), .int a1, .int a2, .int 0, .int a4]) ++ List.replicate (6 - (lg_sl ([.ref (ad 0), .int a1, .int a2, .int 0, .int a4])).length) Slot.unset).toArray = ls at hl ⊢
  have hl : lv_has ls 6 [(0, .ref (ad 0)), (1, .int a1), (2, .int a2), (3, .int 0), (4, .int a4)] := hl
  generalize hloc : ([] : List Loc) = locs at hw ⊢
  have hinX12 : ∀ w ∈ u_ws RX12 TX12 42, w ∈ wsX12_could := fun _ h => List.mem_cons_of_mem _ (List.mem_append_right _ (h))
  have J30 : ∀ (v30_5 : Int32) (H : Heap) (locs : List Loc) (ls : Array Slot) (w1 : va_W), 0 ≤ a1.toInt → a1.toInt ≤ 120 → 0 ≤ a2.toInt → a2.toInt ≤ 9 → 0 ≤ v30_5.toInt → v30_5.toInt ≤ 2418 → Wd dC dI A s.heap H locs w1 → TW ksM ad cy B qr 12 w1 → FE ksM [(76, 0, 2600)] w0 w1 → lv_has ls 6 [(0, .ref (ad 0)), (1, .int a1), (2, .int a2), (3, .int 0), (4, .int a4), (5, .int v30_5)] → W p l e ({ frames := 2, cells := 0, slots := 0, locals := 35 }) s m (List.toArray [.ref (ad 0), .int a1, .int a2, .int 0, .int a4]) below meth c H locs 0 0 (MQ below (va_Qv (P_X12_could_3 ad cy B qr s1 a1 a2 a4 w0) (fun u : va_W => wpost dC dI cy A u) A) (List.toArray [.ref (ad 0), .int a1, .int a2, .int 0, .int a4]) s 0 0 A) (F0 m 30 ls []) := by
    intro v30_5 H locs ls w1 r2 t3 r4 t5 r6 t7 hw hT hF hl
    exact tk_vret hC hr hlocks hK ⟨hT, hF, trivial⟩ hw dX12_could_30
  refine lv_aload_n hx hb dX12_could_0 rfl (lv_at hl 0 rfl) ?_
  refine lv_iload_n hx hb dX12_could_1 rfl (lv_at hl 1 rfl) ?_
  refine lv_iload_n hx hb dX12_could_2 rfl (lv_at hl 2 rfl) ?_
  refine lv_iload_n hx hb dX12_could_3 rfl (lv_at hl 3 rfl) ?_
  refine tk_Vi hC hK hw hT hA hE hSR kM_at0 (by decide) rfl (k_X12_placeAt_3 l adK adV dC dI cy ad B (by omega) (by omega) qr s1   a1 (show 0 ≤ a1.toInt by omega) (show a1.toInt ≤ 120 by omega) a2 (show 0 ≤ a2.toInt by omega) (show a2.toInt ≤ 9 by omega) w0 s.heap.size hT ) (cwV 3 hC.2.2.2.2 gX12_could_X12_placeAt rfl rfl rfl (by decide +kernel) ⟨Nat.le_of_ble_eq_true rfl, Nat.le_of_ble_eq_true rfl⟩) rfl hl.1 rfl (Nat.le_of_ble_eq_true rfl) dX12_could_4 (fun r8 w10 H locs hp9 hw => ?_)
  obtain ⟨rfl, hg14⟩ := hp9
  obtain ⟨g12, g13⟩ := hg14
  refine lv_istore (lv' := [(5, .int r8), (0, .ref (ad 0)), (1, .int a1), (2, .int a2), (3, .int 0), (4, .int a4)]) hx hb dX12_could_7 hl (by decide) rfl (fun ls hl => ?_)
  refine lv_iload hx hb dX12_could_9 (lv_at hl 5 rfl) ?_
  refine lv_aload_n hx hb dX12_could_11 rfl (lv_at hl 1 rfl) ?_
  refine tk_getA hC hK hw hT hinX12 kM_at0 (by decide) rfl 34 (by decide) (List.mem_of_getElem? (i := 1) rfl) rfl rfl dX12_could_12 ?_
  refine lv_iload hx hb dX12_could_15 (lv_at hl 0 rfl) ?_
  refine tk_iald hC hK hw hT kM_at17 rfl rfl (show 0 ≤ r8.toInt by omega) (show r8.toInt < 2600 by omega) dX12_could_17 (fun x15 c16 rx15 tx15 => ?_)
  refine lv_icmp_ge (tgt := 30) hx hb dX12_could_18 (by decide) (fun c17 => ?_) (fun c17 => ?_)
  · have c17 : x15.toInt ≤ a4.toInt := wk_le.mp c17
    exact J30 r8 H locs ls w0 (show 0 ≤ a1.toInt by omega) (show a1.toInt ≤ 120 by omega) (show 0 ≤ a2.toInt by omega) (show a2.toInt ≤ 9 by omega) (show 0 ≤ r8.toInt by omega) (show r8.toInt ≤ 2418 by omega)  hw hT hF  (lv_sub hl [1, 2, 3, 4, 5, 0] rfl)
  · have c17 : a4.toInt < x15.toInt := wk_leF c17
    refine lv_aload_n hx hb dX12_could_21 rfl (lv_at hl 1 rfl) ?_
    refine tk_getA hC hK hw hT hinX12 kM_at0 (by decide) rfl 34 (by decide) (List.mem_of_getElem? (i := 1) rfl) rfl rfl dX12_could_22 ?_
    refine lv_iload hx hb dX12_could_25 (lv_at hl 0 rfl) ?_
    refine lv_iload hx hb dX12_could_27 (lv_at hl 5 rfl) ?_
    refine tk_iast hC hK hw hT kM_at17 (by decide) rfl rfl (show 0 ≤ r8.toInt by omega) (show r8.toInt < 2600 by omega) (wk_i32 a4).1 (wk_i32 a4).2 dX12_could_29 (fun H locs w18 hw hT k20 c19 => ?_)
    have hF := hF.put kM_at17 (inE_of (a := 0) (b := 2600) (by decide) (show 0 ≤ r8.toInt.toNat by omega) (show r8.toInt.toNat ≤ 2600 by omega)) k20
    exact J30 r8 H locs ls w18 (show 0 ≤ a1.toInt by omega) (show a1.toInt ≤ 120 by omega) (show 0 ≤ a2.toInt by omega) (show a2.toInt ≤ 9 by omega) (show 0 ≤ r8.toInt by omega) (show r8.toInt ≤ 2418 by omega)  hw hT hF  (lv_sub hl [1, 2, 3, 4, 5, 0] rfl)
abbrev P_X12_placeAt_4 (ad : Nat → Nat) (cy : Nat → ClassId) (B : Int) (qr : Nat) (s1 : Int) (a1 : Int32) (a2 : Int32) (w0 : va_W) : Int32 → va_W → Prop := fun r u => w0 = u ∧ ((20 ≤ r.toInt ∧ r.toInt ≤ 2438))
set_option maxHeartbeats 4000000 in
set_option maxRecDepth 100000 in
theorem k_X12_placeAt_4 (l : Launch) (adK adV : Nat → Nat) (dC : Nat → ClassId) (dI : Nat → Nat → Nat) (cy : Nat → ClassId) (ad : Nat → Nat) (B : Int) (hB0 : 100000 ≤ B) (hB1 : B ≤ 1073741824) (qr : Nat) (s1 : Int)  (a1 : Int32) (ra1 : 1 ≤ a1.toInt) (ta1 : a1.toInt ≤ 121) (a2 : Int32) (ra2 : 0 ≤ a2.toInt) (ta2 : a2.toInt ≤ 9) (w0 : va_W) (sz : Nat) (hT : TW ksM ad cy B qr 12 w0)  : Met l yX12_placeAt wsX12_placeAt ({ frames := 1, cells := 0, slots := 0, locals := 12 }) (va_Pc [.ref (ad 0), .int a1, .int a2, .int 0] (wpreS adK adV dC dI cy sz w0)) (va_Qi (P_X12_placeAt_4 ad cy B qr s1 a1 a2 w0) (fun u : va_W => wpost dC dI cy (va_A w0 sz) u) (va_A w0 sz)) 0 0 (va_A w0 sz) := by
  refine Met.ofW (cc := cX12_placeAt) (maxL := 4) (ret := (some .int)) (by decide) rfl ?_
  intro p e s m args below meth c s₁ Bk hml hv
  obtain ⟨rfl, ⟨hsz, hP, hK, hD0⟩, hE, hSR⟩ := hv
  have hx := Bk.exec
  have hb := Bk.bytes
  have hr := Bk.returns
  have hlocks := Bk.notSynchronized
  have hC : CallFix p m c cX12_placeAt 4 s _ wsX12_placeAt RX12 := ⟨hx, hb, hml, findClass_of_methodNamed Bk.named, atoms_spec (ws := wsX12_placeAt) Bk.pre⟩
  subst hsz
  have hD := hD0.self (sz := s.heap.size)
  generalize hAe : va_A w0 s.heap.size = A at hD hE ⊢
  have hA : ∀ q : Nat, s.heap.size ≤ q → A q := fun q h => by rw [← hAe]; exact Or.inr h
  have hw : Wd dC dI A s.heap s.heap [] w0 := ⟨hP, hD, va_S.rf⟩
  have hF : FE ksM ([] : List (Nat × Nat × Nat)) w0 w0 := FE.rf
  have hl := lv_entry ([.ref (ad 0), .int a1, .int a2, .int 0]) (n := 4) (Nat.le_of_ble_eq_true rfl)
  rw [lg_entry_eq]
  generalize (lg_sl ([.ref (ad 0), .int a1, .int a2, .int 0]) ++ List.replicate (4 - (lg_sl ([.ref (ad 0), .int a1, .int a2, .int 0])).length) Slot.unset).toArray = ls at hl ⊢
  have hl : lv_has ls 4 [(0, .ref (ad 0)), (1, .int a1), (2, .int a2), (3, .int 0)] := hl
  generalize hloc : ([] : List Loc) = locs at hw ⊢
  refine lv_iload_n hx hb dX12_placeAt_0 rfl (lv_at hl 1 rfl) ?_
  refine lv_bipush (v := 10) hx hb dX12_placeAt_1 (by decide) ?_
  refine lv_imul hx hb dX12_placeAt_3 ?_
  refine lv_topi (fun x1 ex1 => ?_)
  have ex1 : x1.toInt = a1.toInt * (10 : Int) := by rw [ex1]; exact wk_mul (show (-2147483648) ≤ a1.toInt * (10 : Int) by omega) (show a1.toInt * (10 : Int) ≤ 2147483647 by omega)
  refine lv_iload_n hx hb dX12_placeAt_4 rfl (lv_at hl 2 rfl) ?_
  refine lv_iadd hx hb dX12_placeAt_5 ?_
  refine lv_topi (fun x2 ex2 => ?_)
  have ex2 : x2.toInt = x1.toInt + a2.toInt := by rw [ex2]; exact wk_add (show (-2147483648) ≤ x1.toInt + a2.toInt by omega) (show x1.toInt + a2.toInt ≤ 2147483647 by omega)
  refine lv_iconst (v := 2) hx hb dX12_placeAt_6 (by decide) ?_
  refine lv_imul hx hb dX12_placeAt_7 ?_
  refine lv_topi (fun x3 ex3 => ?_)
  have ex3 : x3.toInt = x2.toInt * (2 : Int) := by rw [ex3]; exact wk_mul (show (-2147483648) ≤ x2.toInt * (2 : Int) by omega) (show x2.toInt * (2 : Int) ≤ 2147483647 by omega)
  refine lv_iload_n hx hb dX12_placeAt_8 rfl (lv_at hl 3 rfl) ?_
  refine lv_if_eq (tgt := 16) hx hb dX12_placeAt_9 (by decide) (fun _ => ?_) (fun c => absurd (by decide) c)
  refine lv_iconst (v := 0) hx hb dX12_placeAt_16 (by decide) ?_
  refine lv_iadd hx hb dX12_placeAt_17 ?_
  refine lv_topi (fun x4 ex4 => ?_)
  have ex4 : x4.toInt = x3.toInt + (0 : Int) := by rw [ex4]; exact wk_add (show (-2147483648) ≤ x3.toInt + (0 : Int) by omega) (show x3.toInt + (0 : Int) ≤ 2147483647 by omega)
  exact tk_iret hC hr hlocks hK ⟨rfl, ⟨(show 20 ≤ x4.toInt by omega), (show x4.toInt ≤ 2438 by omega)⟩⟩ hw dX12_placeAt_18
abbrev P_X12_could_4 (ad : Nat → Nat) (cy : Nat → ClassId) (B : Int) (qr : Nat) (s1 : Int) (a1 : Int32) (a2 : Int32) (a4 : Int32) (w0 : va_W) : va_W → Prop := fun u => TW ksM ad cy B qr 12 u ∧ FE ksM [(76, 0, 2600)] w0 u ∧ ((True))
set_option maxHeartbeats 4000000 in
set_option maxRecDepth 100000 in
theorem k_X12_could_4 (l : Launch) (adK adV : Nat → Nat) (dC : Nat → ClassId) (dI : Nat → Nat → Nat) (cy : Nat → ClassId) (ad : Nat → Nat) (B : Int) (hB0 : 100000 ≤ B) (hB1 : B ≤ 1073741824) (qr : Nat) (s1 : Int)  (a1 : Int32) (ra1 : 1 ≤ a1.toInt) (ta1 : a1.toInt ≤ 121) (a2 : Int32) (ra2 : 0 ≤ a2.toInt) (ta2 : a2.toInt ≤ 9) (a4 : Int32) (w0 : va_W) (sz : Nat) (hT : TW ksM ad cy B qr 12 w0)  : Met l yX12_could wsX12_could ({ frames := 2, cells := 0, slots := 0, locals := 35 }) (va_Pc [.ref (ad 0), .int a1, .int a2, .int 0, .int a4] (wpreS adK adV dC dI cy sz w0)) (va_Qv (P_X12_could_4 ad cy B qr s1 a1 a2 a4 w0) (fun u : va_W => wpost dC dI cy (va_A w0 sz) u) (va_A w0 sz)) 0 0 (va_A w0 sz) := by
  refine Met.ofW (cc := cX12_could) (maxL := 6) (ret := none) (by decide) rfl ?_
  intro p e s m args below meth c s₁ Bk hml hv
  obtain ⟨rfl, ⟨hsz, hP, hK, hD0⟩, hE, hSR⟩ := hv
  have hx := Bk.exec
  have hb := Bk.bytes
  have hr := Bk.returns
  have hlocks := Bk.notSynchronized
  have hC : CallFix p m c cX12_could 6 s _ wsX12_could RX12 := ⟨hx, hb, hml, findClass_of_methodNamed Bk.named, atoms_spec (ws := wsX12_could) Bk.pre⟩
  subst hsz
  have hD := hD0.self (sz := s.heap.size)
  generalize hAe : va_A w0 s.heap.size = A at hD hE ⊢
  have hA : ∀ q : Nat, s.heap.size ≤ q → A q := fun q h => by rw [← hAe]; exact Or.inr h
  have hw : Wd dC dI A s.heap s.heap [] w0 := ⟨hP, hD, va_S.rf⟩
  have hF : FE ksM [(76, 0, 2600)] w0 w0 := FE.rf
  have hl := lv_entry ([.ref (ad 0), .int a1, .int a2, .int 0, .int a4]) (n := 6) (Nat.le_of_ble_eq_true rfl)
  rw [lg_entry_eq]
  generalize (lg_sl ([.ref (ad 0), .int a1, .int a2, .int 0, .int a4]) ++ List.replicate (6 - (lg_sl ([.ref (ad 0), .int a1, .int a2, .int 0, .int a4])).length) Slot.unset).toArray = ls at hl ⊢
  have hl : lv_has ls 6 [(0, .ref (ad 0)), (1, .int a1), (2, .int a2), (3, .int 0), (4, .int a4)] := hl
  generalize hloc : ([] : List Loc) = locs at hw ⊢
  have hinX12 : ∀ w ∈ u_ws RX12 TX12 42, w ∈ wsX12_could := fun _ h => List.mem_cons_of_mem _ (List.mem_append_right _ (h))
  have J30 : ∀ (v30_5 : Int32) (H : Heap) (locs : List Loc) (ls : Array Slot) (w1 : va_W), 1 ≤ a1.toInt → a1.toInt ≤ 121 → 0 ≤ a2.toInt → a2.toInt ≤ 9 → 20 ≤ v30_5.toInt → v30_5.toInt ≤ 2438 → Wd dC dI A s.heap H locs w1 → TW ksM ad cy B qr 12 w1 → FE ksM [(76, 0, 2600)] w0 w1 → lv_has ls 6 [(0, .ref (ad 0)), (1, .int a1), (2, .int a2), (3, .int 0), (4, .int a4), (5, .int v30_5)] → W p l e ({ frames := 2, cells := 0, slots := 0, locals := 35 }) s m (List.toArray [.ref (ad 0), .int a1, .int a2, .int 0, .int a4]) below meth c H locs 0 0 (MQ below (va_Qv (P_X12_could_4 ad cy B qr s1 a1 a2 a4 w0) (fun u : va_W => wpost dC dI cy A u) A) (List.toArray [.ref (ad 0), .int a1, .int a2, .int 0, .int a4]) s 0 0 A) (F0 m 30 ls []) := by
    intro v30_5 H locs ls w1 r2 t3 r4 t5 r6 t7 hw hT hF hl
    exact tk_vret hC hr hlocks hK ⟨hT, hF, trivial⟩ hw dX12_could_30
  refine lv_aload_n hx hb dX12_could_0 rfl (lv_at hl 0 rfl) ?_
  refine lv_iload_n hx hb dX12_could_1 rfl (lv_at hl 1 rfl) ?_
  refine lv_iload_n hx hb dX12_could_2 rfl (lv_at hl 2 rfl) ?_
  refine lv_iload_n hx hb dX12_could_3 rfl (lv_at hl 3 rfl) ?_
  refine tk_Vi hC hK hw hT hA hE hSR kM_at0 (by decide) rfl (k_X12_placeAt_4 l adK adV dC dI cy ad B (by omega) (by omega) qr s1   a1 (show 1 ≤ a1.toInt by omega) (show a1.toInt ≤ 121 by omega) a2 (show 0 ≤ a2.toInt by omega) (show a2.toInt ≤ 9 by omega) w0 s.heap.size hT ) (cwV 3 hC.2.2.2.2 gX12_could_X12_placeAt rfl rfl rfl (by decide +kernel) ⟨Nat.le_of_ble_eq_true rfl, Nat.le_of_ble_eq_true rfl⟩) rfl hl.1 rfl (Nat.le_of_ble_eq_true rfl) dX12_could_4 (fun r8 w10 H locs hp9 hw => ?_)
  obtain ⟨rfl, hg14⟩ := hp9
  obtain ⟨g12, g13⟩ := hg14
  refine lv_istore (lv' := [(5, .int r8), (0, .ref (ad 0)), (1, .int a1), (2, .int a2), (3, .int 0), (4, .int a4)]) hx hb dX12_could_7 hl (by decide) rfl (fun ls hl => ?_)
  refine lv_iload hx hb dX12_could_9 (lv_at hl 5 rfl) ?_
  refine lv_aload_n hx hb dX12_could_11 rfl (lv_at hl 1 rfl) ?_
  refine tk_getA hC hK hw hT hinX12 kM_at0 (by decide) rfl 34 (by decide) (List.mem_of_getElem? (i := 1) rfl) rfl rfl dX12_could_12 ?_
  refine lv_iload hx hb dX12_could_15 (lv_at hl 0 rfl) ?_
  refine tk_iald hC hK hw hT kM_at17 rfl rfl (show 0 ≤ r8.toInt by omega) (show r8.toInt < 2600 by omega) dX12_could_17 (fun x15 c16 rx15 tx15 => ?_)
  refine lv_icmp_ge (tgt := 30) hx hb dX12_could_18 (by decide) (fun c17 => ?_) (fun c17 => ?_)
  · have c17 : x15.toInt ≤ a4.toInt := wk_le.mp c17
    exact J30 r8 H locs ls w0 (show 1 ≤ a1.toInt by omega) (show a1.toInt ≤ 121 by omega) (show 0 ≤ a2.toInt by omega) (show a2.toInt ≤ 9 by omega) (show 20 ≤ r8.toInt by omega) (show r8.toInt ≤ 2438 by omega)  hw hT hF  (lv_sub hl [1, 2, 3, 4, 5, 0] rfl)
  · have c17 : a4.toInt < x15.toInt := wk_leF c17
    refine lv_aload_n hx hb dX12_could_21 rfl (lv_at hl 1 rfl) ?_
    refine tk_getA hC hK hw hT hinX12 kM_at0 (by decide) rfl 34 (by decide) (List.mem_of_getElem? (i := 1) rfl) rfl rfl dX12_could_22 ?_
    refine lv_iload hx hb dX12_could_25 (lv_at hl 0 rfl) ?_
    refine lv_iload hx hb dX12_could_27 (lv_at hl 5 rfl) ?_
    refine tk_iast hC hK hw hT kM_at17 (by decide) rfl rfl (show 0 ≤ r8.toInt by omega) (show r8.toInt < 2600 by omega) (wk_i32 a4).1 (wk_i32 a4).2 dX12_could_29 (fun H locs w18 hw hT k20 c19 => ?_)
    have hF := hF.put kM_at17 (inE_of (a := 0) (b := 2600) (by decide) (show 0 ≤ r8.toInt.toNat by omega) (show r8.toInt.toNat ≤ 2600 by omega)) k20
    exact J30 r8 H locs ls w18 (show 1 ≤ a1.toInt by omega) (show a1.toInt ≤ 121 by omega) (show 0 ≤ a2.toInt by omega) (show a2.toInt ≤ 9 by omega) (show 20 ≤ r8.toInt by omega) (show r8.toInt ≤ 2438 by omega)  hw hT hF  (lv_sub hl [1, 2, 3, 4, 5, 0] rfl)
abbrev P_X12_placeAt_5 (ad : Nat → Nat) (cy : Nat → ClassId) (B : Int) (qr : Nat) (s1 : Int) (a1 : Int32) (a2 : Int32) (w0 : va_W) : Int32 → va_W → Prop := fun r u => w0 = u ∧ ((21 ≤ r.toInt ∧ r.toInt ≤ 2439))
set_option maxHeartbeats 4000000 in
set_option maxRecDepth 100000 in
theorem k_X12_placeAt_5 (l : Launch) (adK adV : Nat → Nat) (dC : Nat → ClassId) (dI : Nat → Nat → Nat) (cy : Nat → ClassId) (ad : Nat → Nat) (B : Int) (hB0 : 100000 ≤ B) (hB1 : B ≤ 1073741824) (qr : Nat) (s1 : Int)  (a1 : Int32) (ra1 : 1 ≤ a1.toInt) (ta1 : a1.toInt ≤ 121) (a2 : Int32) (ra2 : 0 ≤ a2.toInt) (ta2 : a2.toInt ≤ 9) (w0 : va_W) (sz : Nat) (hT : TW ksM ad cy B qr 12 w0)  : Met l yX12_placeAt wsX12_placeAt ({ frames := 1, cells := 0, slots := 0, locals := 12 }) (va_Pc [.ref (ad 0), .int a1, .int a2, .int 1] (wpreS adK adV dC dI cy sz w0)) (va_Qi (P_X12_placeAt_5 ad cy B qr s1 a1 a2 w0) (fun u : va_W => wpost dC dI cy (va_A w0 sz) u) (va_A w0 sz)) 0 0 (va_A w0 sz) := by
  refine Met.ofW (cc := cX12_placeAt) (maxL := 4) (ret := (some .int)) (by decide) rfl ?_
  intro p e s m args below meth c s₁ Bk hml hv
  obtain ⟨rfl, ⟨hsz, hP, hK, hD0⟩, hE, hSR⟩ := hv
  have hx := Bk.exec
  have hb := Bk.bytes
  have hr := Bk.returns
  have hlocks := Bk.notSynchronized
  have hC : CallFix p m c cX12_placeAt 4 s _ wsX12_placeAt RX12 := ⟨hx, hb, hml, findClass_of_methodNamed Bk.named, atoms_spec (ws := wsX12_placeAt) Bk.pre⟩
  subst hsz
  have hD := hD0.self (sz := s.heap.size)
  generalize hAe : va_A w0 s.heap.size = A at hD hE ⊢
  have hA : ∀ q : Nat, s.heap.size ≤ q → A q := fun q h => by rw [← hAe]; exact Or.inr h
  have hw : Wd dC dI A s.heap s.heap [] w0 := ⟨hP, hD, va_S.rf⟩
  have hF : FE ksM ([] : List (Nat × Nat × Nat)) w0 w0 := FE.rf
  have hl := lv_entry ([.ref (ad 0), .int a1, .int a2, .int 1]) (n := 4) (Nat.le_of_ble_eq_true rfl)
  rw [lg_entry_eq]
  generalize (lg_sl ([.ref (ad 0), .int a1, .int a2, .int 1]) ++ List.replicate (4 - (lg_sl ([.ref (ad 0), .int a1, .int a2, .int 1])).length) Slot.unset).toArray = ls at hl ⊢
  have hl : lv_has ls 4 [(0, .ref (ad 0)), (1, .int a1), (2, .int a2), (3, .int 1)] := hl
  generalize hloc : ([] : List Loc) = locs at hw ⊢
  refine lv_iload_n hx hb dX12_placeAt_0 rfl (lv_at hl 1 rfl) ?_
  refine lv_bipush (v := 10) hx hb dX12_placeAt_1 (by decide) ?_
  refine lv_imul hx hb dX12_placeAt_3 ?_
  refine lv_topi (fun x1 ex1 => ?_)
  have ex1 : x1.toInt = a1.toInt * (10 : Int) := by rw [ex1]; exact wk_mul (show (-2147483648) ≤ a1.toInt * (10 : Int) by omega) (show a1.toInt * (10 : Int) ≤ 2147483647 by omega)
  refine lv_iload_n hx hb dX12_placeAt_4 rfl (lv_at hl 2 rfl) ?_
  refine lv_iadd hx hb dX12_placeAt_5 ?_
  refine lv_topi (fun x2 ex2 => ?_)
  have ex2 : x2.toInt = x1.toInt + a2.toInt := by rw [ex2]; exact wk_add (show (-2147483648) ≤ x1.toInt + a2.toInt by omega) (show x1.toInt + a2.toInt ≤ 2147483647 by omega)
  refine lv_iconst (v := 2) hx hb dX12_placeAt_6 (by decide) ?_
  refine lv_imul hx hb dX12_placeAt_7 ?_
  refine lv_topi (fun x3 ex3 => ?_)
  have ex3 : x3.toInt = x2.toInt * (2 : Int) := by rw [ex3]; exact wk_mul (show (-2147483648) ≤ x2.toInt * (2 : Int) by omega) (show x2.toInt * (2 : Int) ≤ 2147483647 by omega)
  refine lv_iload_n hx hb dX12_placeAt_8 rfl (lv_at hl 3 rfl) ?_
  refine lv_if_eq (tgt := 16) hx hb dX12_placeAt_9 (by decide) (fun c => absurd c (by decide)) (fun _ => ?_)
  refine lv_iconst (v := 1) hx hb dX12_placeAt_12 (by decide) ?_
  refine lv_goto (tgt := 17) hx hb dX12_placeAt_13 (by decide) ?_
  refine lv_iadd hx hb dX12_placeAt_17 ?_
  refine lv_topi (fun x4 ex4 => ?_)
  have ex4 : x4.toInt = x3.toInt + (1 : Int) := by rw [ex4]; exact wk_add (show (-2147483648) ≤ x3.toInt + (1 : Int) by omega) (show x3.toInt + (1 : Int) ≤ 2147483647 by omega)
  exact tk_iret hC hr hlocks hK ⟨rfl, ⟨(show 21 ≤ x4.toInt by omega), (show x4.toInt ≤ 2439 by omega)⟩⟩ hw dX12_placeAt_18
abbrev P_X12_could_5 (ad : Nat → Nat) (cy : Nat → ClassId) (B : Int) (qr : Nat) (s1 : Int) (a1 : Int32) (a2 : Int32) (a4 : Int32) (w0 : va_W) : va_W → Prop := fun u => TW ksM ad cy B qr 12 u ∧ FE ksM [(76, 0, 2600)] w0 u ∧ ((True))
set_option maxHeartbeats 4000000 in
set_option maxRecDepth 100000 in
theorem k_X12_could_5 (l : Launch) (adK adV : Nat → Nat) (dC : Nat → ClassId) (dI : Nat → Nat → Nat) (cy : Nat → ClassId) (ad : Nat → Nat) (B : Int) (hB0 : 100000 ≤ B) (hB1 : B ≤ 1073741824) (qr : Nat) (s1 : Int)  (a1 : Int32) (ra1 : 1 ≤ a1.toInt) (ta1 : a1.toInt ≤ 121) (a2 : Int32) (ra2 : 0 ≤ a2.toInt) (ta2 : a2.toInt ≤ 9) (a4 : Int32) (w0 : va_W) (sz : Nat) (hT : TW ksM ad cy B qr 12 w0)  : Met l yX12_could wsX12_could ({ frames := 2, cells := 0, slots := 0, locals := 35 }) (va_Pc [.ref (ad 0), .int a1, .int a2, .int 1, .int a4] (wpreS adK adV dC dI cy sz w0)) (va_Qv (P_X12_could_5 ad cy B qr s1 a1 a2 a4 w0) (fun u : va_W => wpost dC dI cy (va_A w0 sz) u) (va_A w0 sz)) 0 0 (va_A w0 sz) := by
  refine Met.ofW (cc := cX12_could) (maxL := 6) (ret := none) (by decide) rfl ?_
  intro p e s m args below meth c s₁ Bk hml hv
  obtain ⟨rfl, ⟨hsz, hP, hK, hD0⟩, hE, hSR⟩ := hv
  have hx := Bk.exec
  have hb := Bk.bytes
  have hr := Bk.returns
  have hlocks := Bk.notSynchronized
  have hC : CallFix p m c cX12_could 6 s _ wsX12_could RX12 := ⟨hx, hb, hml, findClass_of_methodNamed Bk.named, atoms_spec (ws := wsX12_could) Bk.pre⟩
  subst hsz
  have hD := hD0.self (sz := s.heap.size)
  generalize hAe : va_A w0 s.heap.size = A at hD hE ⊢
  have hA : ∀ q : Nat, s.heap.size ≤ q → A q := fun q h => by rw [← hAe]; exact Or.inr h
  have hw : Wd dC dI A s.heap s.heap [] w0 := ⟨hP, hD, va_S.rf⟩
  have hF : FE ksM [(76, 0, 2600)] w0 w0 := FE.rf
  have hl := lv_entry ([.ref (ad 0), .int a1, .int a2, .int 1, .int a4]) (n := 6) (Nat.le_of_ble_eq_true rfl)
  rw [lg_entry_eq]
  generalize (lg_sl ([.ref (ad 0), .int a1, .int a2, .int 1, .int a4]) ++ List.replicate (6 - (lg_sl ([.ref (ad 0), .int a1, .int a2, .int 1, .int a4])).length) Slot.unset).toArray = ls at hl ⊢
  have hl : lv_has ls 6 [(0, .ref (ad 0)), (1, .int a1), (2, .int a2), (3, .int 1), (4, .int a4)] := hl
  generalize hloc : ([] : List Loc) = locs at hw ⊢
  have hinX12 : ∀ w ∈ u_ws RX12 TX12 42, w ∈ wsX12_could := fun _ h => List.mem_cons_of_mem _ (List.mem_append_right _ (h))
  have J30 : ∀ (v30_5 : Int32) (H : Heap) (locs : List Loc) (ls : Array Slot) (w1 : va_W), 1 ≤ a1.toInt → a1.toInt ≤ 121 → 0 ≤ a2.toInt → a2.toInt ≤ 9 → 21 ≤ v30_5.toInt → v30_5.toInt ≤ 2439 → Wd dC dI A s.heap H locs w1 → TW ksM ad cy B qr 12 w1 → FE ksM [(76, 0, 2600)] w0 w1 → lv_has ls 6 [(0, .ref (ad 0)), (1, .int a1), (2, .int a2), (3, .int 1), (4, .int a4), (5, .int v30_5)] → W p l e ({ frames := 2, cells := 0, slots := 0, locals := 35 }) s m (List.toArray [.ref (ad 0), .int a1, .int a2, .int 1, .int a4]) below meth c H locs 0 0 (MQ below (va_Qv (P_X12_could_5 ad cy B qr s1 a1 a2 a4 w0) (fun u : va_W => wpost dC dI cy A u) A) (List.toArray [.ref (ad 0), .int a1, .int a2, .int 1, .int a4]) s 0 0 A) (F0 m 30 ls []) := by
    intro v30_5 H locs ls w1 r2 t3 r4 t5 r6 t7 hw hT hF hl
    exact tk_vret hC hr hlocks hK ⟨hT, hF, trivial⟩ hw dX12_could_30
  refine lv_aload_n hx hb dX12_could_0 rfl (lv_at hl 0 rfl) ?_
  refine lv_iload_n hx hb dX12_could_1 rfl (lv_at hl 1 rfl) ?_
  refine lv_iload_n hx hb dX12_could_2 rfl (lv_at hl 2 rfl) ?_
  refine lv_iload_n hx hb dX12_could_3 rfl (lv_at hl 3 rfl) ?_
  refine tk_Vi hC hK hw hT hA hE hSR kM_at0 (by decide) rfl (k_X12_placeAt_5 l adK adV dC dI cy ad B (by omega) (by omega) qr s1   a1 (show 1 ≤ a1.toInt by omega) (show a1.toInt ≤ 121 by omega) a2 (show 0 ≤ a2.toInt by omega) (show a2.toInt ≤ 9 by omega) w0 s.heap.size hT ) (cwV 3 hC.2.2.2.2 gX12_could_X12_placeAt rfl rfl rfl (by decide +kernel) ⟨Nat.le_of_ble_eq_true rfl, Nat.le_of_ble_eq_true rfl⟩) rfl hl.1 rfl (Nat.le_of_ble_eq_true rfl) dX12_could_4 (fun r8 w10 H locs hp9 hw => ?_)
  obtain ⟨rfl, hg14⟩ := hp9
  obtain ⟨g12, g13⟩ := hg14
  refine lv_istore (lv' := [(5, .int r8), (0, .ref (ad 0)), (1, .int a1), (2, .int a2), (3, .int 1), (4, .int a4)]) hx hb dX12_could_7 hl (by decide) rfl (fun ls hl => ?_)
  refine lv_iload hx hb dX12_could_9 (lv_at hl 5 rfl) ?_
  refine lv_aload_n hx hb dX12_could_11 rfl (lv_at hl 1 rfl) ?_
  refine tk_getA hC hK hw hT hinX12 kM_at0 (by decide) rfl 34 (by decide) (List.mem_of_getElem? (i := 1) rfl) rfl rfl dX12_could_12 ?_
  refine lv_iload hx hb dX12_could_15 (lv_at hl 0 rfl) ?_
  refine tk_iald hC hK hw hT kM_at17 rfl rfl (show 0 ≤ r8.toInt by omega) (show r8.toInt < 2600 by omega) dX12_could_17 (fun x15 c16 rx15 tx15 => ?_)
  refine lv_icmp_ge (tgt := 30) hx hb dX12_could_18 (by decide) (fun c17 => ?_) (fun c17 => ?_)
  · have c17 : x15.toInt ≤ a4.toInt := wk_le.mp c17
    exact J30 r8 H locs ls w0 (show 1 ≤ a1.toInt by omega) (show a1.toInt ≤ 121 by omega) (show 0 ≤ a2.toInt by omega) (show a2.toInt ≤ 9 by omega) (show 21 ≤ r8.toInt by omega) (show r8.toInt ≤ 2439 by omega)  hw hT hF  (lv_sub hl [1, 2, 3, 4, 5, 0] rfl)
  · have c17 : a4.toInt < x15.toInt := wk_leF c17
    refine lv_aload_n hx hb dX12_could_21 rfl (lv_at hl 1 rfl) ?_
    refine tk_getA hC hK hw hT hinX12 kM_at0 (by decide) rfl 34 (by decide) (List.mem_of_getElem? (i := 1) rfl) rfl rfl dX12_could_22 ?_
    refine lv_iload hx hb dX12_could_25 (lv_at hl 0 rfl) ?_
    refine lv_iload hx hb dX12_could_27 (lv_at hl 5 rfl) ?_
    refine tk_iast hC hK hw hT kM_at17 (by decide) rfl rfl (show 0 ≤ r8.toInt by omega) (show r8.toInt < 2600 by omega) (wk_i32 a4).1 (wk_i32 a4).2 dX12_could_29 (fun H locs w18 hw hT k20 c19 => ?_)
    have hF := hF.put kM_at17 (inE_of (a := 0) (b := 2600) (by decide) (show 0 ≤ r8.toInt.toNat by omega) (show r8.toInt.toNat ≤ 2600 by omega)) k20
    exact J30 r8 H locs ls w18 (show 1 ≤ a1.toInt by omega) (show a1.toInt ≤ 121 by omega) (show 0 ≤ a2.toInt by omega) (show a2.toInt ≤ 9 by omega) (show 21 ≤ r8.toInt by omega) (show r8.toInt ≤ 2439 by omega)  hw hT hF  (lv_sub hl [1, 2, 3, 4, 5, 0] rfl)
abbrev P_X12_isDayFor_5 (ad : Nat → Nat) (cy : Nat → ClassId) (B : Int) (qr : Nat) (s1 : Int) (a1 : Int32) (a2 : Int32) (a3 : Int32) (w0 : va_W) : Int32 → va_W → Prop := fun r u => w0 = u ∧ ((r = 0 ∧ (¬ mDay w0 a1.toInt a2.toInt a3.toInt)) ∨ (r = 0 ∧ gi u 12 (10 * a1.toInt + 10).toNat = a2 ∧ (¬ mDay w0 a1.toInt a2.toInt a3.toInt)) ∨ (r = 1 ∧ (mDay w0 a1.toInt a2.toInt a3.toInt)) ∨ (r = 1 ∧ gi u 12 (10 * a1.toInt + 10).toNat = a2 ∧ (mDay w0 a1.toInt a2.toInt a3.toInt)))
set_option maxHeartbeats 4000000 in
set_option maxRecDepth 100000 in
theorem k_X12_isDayFor_5 (l : Launch) (adK adV : Nat → Nat) (dC : Nat → ClassId) (dI : Nat → Nat → Nat) (cy : Nat → ClassId) (ad : Nat → Nat) (B : Int) (hB0 : 100000 ≤ B) (hB1 : B ≤ 1073741824) (qr : Nat) (s1 : Int)  (a1 : Int32) (ra1 : 0 ≤ a1.toInt) (ta1 : a1.toInt ≤ 11) (a2 : Int32) (ra2 : 0 ≤ a2.toInt) (ta2 : a2.toInt ≤ 9) (a3 : Int32) (ra3 : 0 ≤ a3.toInt) (ta3 : a3.toInt ≤ 44739247) (w0 : va_W) (sz : Nat) (hT : TW ksM ad cy B qr 12 w0)  : Met l yX12_isDayFor wsX12_isDayFor ({ frames := 3, cells := 0, slots := 0, locals := 57 }) (va_Pc [.ref (ad 0), .int a1, .int a2, .int a3] (wpreS adK adV dC dI cy sz w0)) (va_Qi (P_X12_isDayFor_5 ad cy B qr s1 a1 a2 a3 w0) (fun u : va_W => wpost dC dI cy (va_A w0 sz) u) (va_A w0 sz)) 0 0 (va_A w0 sz) := by
  refine Met.ofW (cc := cX12_isDayFor) (maxL := 4) (ret := (some .boolean)) (by decide) rfl ?_
  intro p e s m args below meth c s₁ Bk hml hv
  obtain ⟨rfl, ⟨hsz, hP, hK, hD0⟩, hE, hSR⟩ := hv
  have hx := Bk.exec
  have hb := Bk.bytes
  have hr := Bk.returns
  have hlocks := Bk.notSynchronized
  have hC : CallFix p m c cX12_isDayFor 4 s _ wsX12_isDayFor RX12 := ⟨hx, hb, hml, findClass_of_methodNamed Bk.named, atoms_spec (ws := wsX12_isDayFor) Bk.pre⟩
  subst hsz
  have hD := hD0.self (sz := s.heap.size)
  generalize hAe : va_A w0 s.heap.size = A at hD hE ⊢
  have hA : ∀ q : Nat, s.heap.size ≤ q → A q := fun q h => by rw [← hAe]; exact Or.inr h
  have hw : Wd dC dI A s.heap s.heap [] w0 := ⟨hP, hD, va_S.rf⟩
  have hF : FE ksM ([] : List (Nat × Nat × Nat)) w0 w0 := FE.rf
  have hl := lv_entry ([.ref (ad 0), .int a1, .int a2, .int a3]) (n := 4) (Nat.le_of_ble_eq_true rfl)
  rw [lg_entry_eq]
  generalize (lg_sl ([.ref (ad 0), .int a1, .int a2, .int a3]) ++ List.replicate (4 - (lg_sl ([.ref (ad 0), .int a1, .int a2, .int a3])).length) Slot.unset).toArray = ls at hl ⊢
  have hl : lv_has ls 4 [(0, .ref (ad 0)), (1, .int a1), (2, .int a2), (3, .int a3)] := hl
  generalize hloc : ([] : List Loc) = locs at hw ⊢
  refine lv_aload_n hx hb dX12_isDayFor_0 rfl (lv_at hl 0 rfl) ?_
  refine lv_aload_n hx hb dX12_isDayFor_1 rfl (lv_at hl 0 rfl) ?_
  refine lv_iload_n hx hb dX12_isDayFor_2 rfl (lv_at hl 1 rfl) ?_
  refine lv_iconst (v := 3) hx hb dX12_isDayFor_3 (by decide) ?_
  refine lv_iload_n hx hb dX12_isDayFor_4 rfl (lv_at hl 3 rfl) ?_
  refine lv_bipush (v := 7) hx hb dX12_isDayFor_5 (by decide) ?_
  refine lv_irem hx hb dX12_isDayFor_7 (by decide) ?_
  refine lv_topi (fun x1 ex1 => ?_)
  have ex1 : x1.toInt = a3.toInt % (7 : Int) := by rw [ex1]; exact wk_rem (show 0 ≤ a3.toInt by omega) (show 0 < (7 : Int) by decide)
  refine lv_iadd hx hb dX12_isDayFor_8 ?_
  refine lv_topi (fun x2 ex2 => ?_)
  have ex2 : x2.toInt = (3 : Int) + x1.toInt := by rw [ex2]; exact wk_add (show (-2147483648) ≤ (3 : Int) + x1.toInt by omega) (show (3 : Int) + x1.toInt ≤ 2147483647 by omega)
  refine tk_Vi hC hK hw hT hA hE hSR kM_at0 (by decide) rfl (k_X12_streetOf_4 l adK adV dC dI cy ad B (by omega) (by omega) qr s1   a1 (show 0 ≤ a1.toInt by omega) (show a1.toInt ≤ 11 by omega) x2 (show 3 ≤ x2.toInt by omega) (show x2.toInt ≤ 9 by omega) w0 s.heap.size hT ) (cwV 2 hC.2.2.2.2 gX12_isDayFor_X12_streetOf rfl rfl rfl (by decide +kernel) ⟨Nat.le_of_ble_eq_true rfl, Nat.le_of_ble_eq_true rfl⟩) rfl hl.1 rfl (Nat.le_of_ble_eq_true rfl) dX12_isDayFor_9 (fun r3 w5 H locs hp4 hw => ?_)
  obtain ⟨rfl, hg10⟩ := hp4
  obtain ⟨g7, g8, c9⟩ := hg10
  refine lv_iload_n hx hb dX12_isDayFor_12 rfl (lv_at hl 1 rfl) ?_
  refine lv_iload_n hx hb dX12_isDayFor_13 rfl (lv_at hl 2 rfl) ?_
  refine tk_Vi hC hK hw hT hA hE hSR kM_at0 (by decide) rfl (k_X12_hasSign_1 l adK adV dC dI cy ad B (by omega) (by omega) qr s1   r3 (show 0 ≤ r3.toInt by omega) (show r3.toInt ≤ 9 by omega) a1 (show 0 ≤ a1.toInt by omega) (show a1.toInt ≤ 11 by omega) a2 (show 0 ≤ a2.toInt by omega) (show a2.toInt ≤ 9 by omega) w0 H.size hT ) (cwV 3 hC.2.2.2.2 gX12_isDayFor_X12_hasSign rfl rfl rfl (by decide +kernel) ⟨Nat.le_of_ble_eq_true rfl, Nat.le_of_ble_eq_true rfl⟩) rfl hl.1 rfl (Nat.le_of_ble_eq_true rfl) dX12_isDayFor_14 (fun r11 w13 H locs hp12 hw => ?_)
  obtain ⟨rfl, hg21⟩ := hp12
  rcases hg21 with ⟨rfl, hq15⟩ | ⟨rfl, c16, hq17⟩ | ⟨rfl, hq18⟩ | ⟨rfl, c19, hq20⟩
  · refine lv_if_ne (tgt := 22) hx hb dX12_isDayFor_17 (by decide) (fun c => absurd (by decide) c) (fun _ => ?_)
    refine lv_iconst (v := 0) hx hb dX12_isDayFor_20 (by decide) ?_
    exact tk_zret hC hr rfl hlocks hK ⟨rfl, (Or.inl ⟨rfl, (by unfold mDay; rw [show (10 * a1.toInt + (3 + a3.toInt % 7) + 10) = 10 * a1.toInt + 1 * x2.toInt + 10 by omega]; simp only [c9]; first | exact ⟨by assumption, by assumption, by assumption⟩ | (rintro ⟨q1, q2, q3⟩; first | exact absurd q1 (by assumption) | exact q2 (by assumption) | exact q3 (by assumption)))⟩)⟩ hw dX12_isDayFor_21
  · refine lv_if_ne (tgt := 22) hx hb dX12_isDayFor_17 (by decide) (fun c => absurd (by decide) c) (fun _ => ?_)
    refine lv_iconst (v := 0) hx hb dX12_isDayFor_20 (by decide) ?_
    exact tk_zret hC hr rfl hlocks hK ⟨rfl, (Or.inr (Or.inl ⟨rfl, c16, (by unfold mDay; rw [show (10 * a1.toInt + (3 + a3.toInt % 7) + 10) = 10 * a1.toInt + 1 * x2.toInt + 10 by omega]; simp only [c9, c16]; first | exact ⟨by assumption, by assumption, by assumption⟩ | (rintro ⟨q1, q2, q3⟩; first | exact absurd q1 (by assumption) | exact q2 (by assumption) | exact q3 (by assumption)))⟩))⟩ hw dX12_isDayFor_21
  · refine lv_if_ne (tgt := 22) hx hb dX12_isDayFor_17 (by decide) (fun _ => ?_) (fun c => absurd c (by decide))
    refine lv_aload_n hx hb dX12_isDayFor_22 rfl (lv_at hl 0 rfl) ?_
    refine lv_aload_n hx hb dX12_isDayFor_23 rfl (lv_at hl 0 rfl) ?_
    refine lv_iload_n hx hb dX12_isDayFor_24 rfl (lv_at hl 1 rfl) ?_
    refine lv_iconst (v := 0) hx hb dX12_isDayFor_25 (by decide) ?_
    refine tk_Vi hC hK hw hT hA hE hSR kM_at0 (by decide) rfl (k_X12_streetOf_2 l adK adV dC dI cy ad B (by omega) (by omega) qr s1   a1 (show 0 ≤ a1.toInt by omega) (show a1.toInt ≤ 11 by omega) w0 H.size hT ) (cwV 2 hC.2.2.2.2 gX12_isDayFor_X12_streetOf rfl rfl rfl (by decide +kernel) ⟨Nat.le_of_ble_eq_true rfl, Nat.le_of_ble_eq_true rfl⟩) rfl hl.1 rfl (Nat.le_of_ble_eq_true rfl) dX12_isDayFor_26 (fun r22 w24 H locs hp23 hw => ?_)
    obtain ⟨rfl, hg29⟩ := hp23
    obtain ⟨g26, g27, c28⟩ := hg29
    refine lv_iload_n hx hb dX12_isDayFor_29 rfl (lv_at hl 3 rfl) ?_
    refine lv_sipush (v := 360) hx hb dX12_isDayFor_30 (by decide) ?_
    refine lv_irem hx hb dX12_isDayFor_33 (by decide) ?_
    refine lv_topi (fun x30 ex30 => ?_)
    have ex30 : x30.toInt = a3.toInt % (360 : Int) := by rw [ex30]; exact wk_rem (show 0 ≤ a3.toInt by omega) (show 0 < (360 : Int) by decide)
    refine tk_Vi hC hK hw hT hA hE hSR kM_at0 (by decide) rfl (k_X12_isClosed_1 l adK adV dC dI cy ad B (by omega) (by omega) qr s1   r22 (show 0 ≤ r22.toInt by omega) (show r22.toInt ≤ 9 by omega) x30 (show 0 ≤ x30.toInt by omega) (show x30.toInt ≤ 359 by omega) w0 H.size hT ) (cwV 2 hC.2.2.2.2 gX12_isDayFor_X12_isClosed rfl rfl rfl (by decide +kernel) ⟨Nat.le_of_ble_eq_true rfl, Nat.le_of_ble_eq_true rfl⟩) rfl hl.1 rfl (Nat.le_of_ble_eq_true rfl) dX12_isDayFor_34 (fun r31 w33 H locs hp32 hw => ?_)
    obtain ⟨rfl, hg41⟩ := hp32
    rcases hg41 with ⟨rfl, hq35⟩ | ⟨rfl, ⟨x36, c37, rx36, tx36⟩, ⟨x38, c39, rx38, tx38⟩, hq40⟩
    · refine lv_if_ne (tgt := 62) hx hb dX12_isDayFor_37 (by decide) (fun c => absurd (by decide) c) (fun _ => ?_)
      refine lv_aload_n hx hb dX12_isDayFor_40 rfl (lv_at hl 0 rfl) ?_
      refine lv_aload_n hx hb dX12_isDayFor_41 rfl (lv_at hl 0 rfl) ?_
      refine lv_iload_n hx hb dX12_isDayFor_42 rfl (lv_at hl 1 rfl) ?_
      refine lv_iconst (v := 1) hx hb dX12_isDayFor_43 (by decide) ?_
      refine tk_Vi hC hK hw hT hA hE hSR kM_at0 (by decide) rfl (k_X12_streetOf_3 l adK adV dC dI cy ad B (by omega) (by omega) qr s1   a1 (show 0 ≤ a1.toInt by omega) (show a1.toInt ≤ 11 by omega) w0 H.size hT ) (cwV 2 hC.2.2.2.2 gX12_isDayFor_X12_streetOf rfl rfl rfl (by decide +kernel) ⟨Nat.le_of_ble_eq_true rfl, Nat.le_of_ble_eq_true rfl⟩) rfl hl.1 rfl (Nat.le_of_ble_eq_true rfl) dX12_isDayFor_44 (fun r42 w44 H locs hp43 hw => ?_)
      obtain ⟨rfl, hg49⟩ := hp43
      obtain ⟨g46, g47, c48⟩ := hg49
      refine lv_iload_n hx hb dX12_isDayFor_47 rfl (lv_at hl 3 rfl) ?_
      refine lv_sipush (v := 360) hx hb dX12_isDayFor_48 (by decide) ?_
      refine lv_irem hx hb dX12_isDayFor_51 (by decide) ?_
      refine lv_topi (fun x50 ex50 => ?_)
      have ex50 : x50.toInt = a3.toInt % (360 : Int) := by rw [ex50]; exact wk_rem (show 0 ≤ a3.toInt by omega) (show 0 < (360 : Int) by decide)
      refine tk_Vi hC hK hw hT hA hE hSR kM_at0 (by decide) rfl (k_X12_isClosed_1 l adK adV dC dI cy ad B (by omega) (by omega) qr s1   r42 (show 0 ≤ r42.toInt by omega) (show r42.toInt ≤ 9 by omega) x50 (show 0 ≤ x50.toInt by omega) (show x50.toInt ≤ 359 by omega) w0 H.size hT ) (cwV 2 hC.2.2.2.2 gX12_isDayFor_X12_isClosed rfl rfl rfl (by decide +kernel) ⟨Nat.le_of_ble_eq_true rfl, Nat.le_of_ble_eq_true rfl⟩) rfl hl.1 rfl (Nat.le_of_ble_eq_true rfl) dX12_isDayFor_52 (fun r51 w53 H locs hp52 hw => ?_)
      obtain ⟨rfl, hg61⟩ := hp52
      rcases hg61 with ⟨rfl, hq55⟩ | ⟨rfl, ⟨x56, c57, rx56, tx56⟩, ⟨x58, c59, rx58, tx58⟩, hq60⟩
      · refine lv_if_ne (tgt := 62) hx hb dX12_isDayFor_55 (by decide) (fun c => absurd (by decide) c) (fun _ => ?_)
        refine lv_iconst (v := 1) hx hb dX12_isDayFor_58 (by decide) ?_
        refine lv_goto (tgt := 63) hx hb dX12_isDayFor_59 (by decide) ?_
        exact tk_zret hC hr rfl hlocks hK ⟨rfl, (Or.inr (Or.inr (Or.inl ⟨rfl, (by have hq35 := hq35; rw [show x30.toInt = a3.toInt % 360 by omega] at hq35; have hq55 := hq55; rw [show x50.toInt = a3.toInt % 360 by omega] at hq55; unfold mDay; rw [show (10 * a1.toInt + (3 + a3.toInt % 7) + 10) = 10 * a1.toInt + 1 * x2.toInt + 10 by omega]; simp only [c9, c28, c48]; first | exact ⟨by assumption, by assumption, by assumption⟩ | (rintro ⟨q1, q2, q3⟩; first | exact absurd q1 (by assumption) | exact q2 (by assumption) | exact q3 (by assumption)))⟩)))⟩ hw dX12_isDayFor_63
      · refine lv_if_ne (tgt := 62) hx hb dX12_isDayFor_55 (by decide) (fun _ => ?_) (fun c => absurd c (by decide))
        refine lv_iconst (v := 0) hx hb dX12_isDayFor_62 (by decide) ?_
        exact tk_zret hC hr rfl hlocks hK ⟨rfl, (Or.inl ⟨rfl, (by have hq35 := hq35; rw [show x30.toInt = a3.toInt % 360 by omega] at hq35; have hq60 := hq60; rw [show x50.toInt = a3.toInt % 360 by omega] at hq60; unfold mDay; rw [show (10 * a1.toInt + (3 + a3.toInt % 7) + 10) = 10 * a1.toInt + 1 * x2.toInt + 10 by omega]; simp only [c9, c28, c48, c57, c59]; first | exact ⟨by assumption, by assumption, by assumption⟩ | (rintro ⟨q1, q2, q3⟩; first | exact absurd q1 (by assumption) | exact q2 (by assumption) | exact q3 (by assumption)))⟩)⟩ hw dX12_isDayFor_63
    · refine lv_if_ne (tgt := 62) hx hb dX12_isDayFor_37 (by decide) (fun _ => ?_) (fun c => absurd c (by decide))
      refine lv_iconst (v := 0) hx hb dX12_isDayFor_62 (by decide) ?_
      exact tk_zret hC hr rfl hlocks hK ⟨rfl, (Or.inl ⟨rfl, (by have hq40 := hq40; rw [show x30.toInt = a3.toInt % 360 by omega] at hq40; unfold mDay; rw [show (10 * a1.toInt + (3 + a3.toInt % 7) + 10) = 10 * a1.toInt + 1 * x2.toInt + 10 by omega]; simp only [c9, c28, c37, c39]; first | exact ⟨by assumption, by assumption, by assumption⟩ | (rintro ⟨q1, q2, q3⟩; first | exact absurd q1 (by assumption) | exact q2 (by assumption) | exact q3 (by assumption)))⟩)⟩ hw dX12_isDayFor_63
  · refine lv_if_ne (tgt := 22) hx hb dX12_isDayFor_17 (by decide) (fun _ => ?_) (fun c => absurd c (by decide))
    refine lv_aload_n hx hb dX12_isDayFor_22 rfl (lv_at hl 0 rfl) ?_
    refine lv_aload_n hx hb dX12_isDayFor_23 rfl (lv_at hl 0 rfl) ?_
    refine lv_iload_n hx hb dX12_isDayFor_24 rfl (lv_at hl 1 rfl) ?_
    refine lv_iconst (v := 0) hx hb dX12_isDayFor_25 (by decide) ?_
    refine tk_Vi hC hK hw hT hA hE hSR kM_at0 (by decide) rfl (k_X12_streetOf_2 l adK adV dC dI cy ad B (by omega) (by omega) qr s1   a1 (show 0 ≤ a1.toInt by omega) (show a1.toInt ≤ 11 by omega) w0 H.size hT ) (cwV 2 hC.2.2.2.2 gX12_isDayFor_X12_streetOf rfl rfl rfl (by decide +kernel) ⟨Nat.le_of_ble_eq_true rfl, Nat.le_of_ble_eq_true rfl⟩) rfl hl.1 rfl (Nat.le_of_ble_eq_true rfl) dX12_isDayFor_26 (fun r62 w64 H locs hp63 hw => ?_)
    obtain ⟨rfl, hg69⟩ := hp63
    obtain ⟨g66, g67, c68⟩ := hg69
    obtain rfl : a2 = r62 := c19.symm.trans c68
    refine lv_iload_n hx hb dX12_isDayFor_29 rfl (lv_at hl 3 rfl) ?_
    refine lv_sipush (v := 360) hx hb dX12_isDayFor_30 (by decide) ?_
    refine lv_irem hx hb dX12_isDayFor_33 (by decide) ?_
    refine lv_topi (fun x70 ex70 => ?_)
    have ex70 : x70.toInt = a3.toInt % (360 : Int) := by rw [ex70]; exact wk_rem (show 0 ≤ a3.toInt by omega) (show 0 < (360 : Int) by decide)
    refine tk_Vi hC hK hw hT hA hE hSR kM_at0 (by decide) rfl (k_X12_isClosed_1 l adK adV dC dI cy ad B (by omega) (by omega) qr s1   a2 (show 0 ≤ a2.toInt by omega) (show a2.toInt ≤ 9 by omega) x70 (show 0 ≤ x70.toInt by omega) (show x70.toInt ≤ 359 by omega) w0 H.size hT ) (cwV 2 hC.2.2.2.2 gX12_isDayFor_X12_isClosed rfl rfl rfl (by decide +kernel) ⟨Nat.le_of_ble_eq_true rfl, Nat.le_of_ble_eq_true rfl⟩) rfl hl.1 rfl (Nat.le_of_ble_eq_true rfl) dX12_isDayFor_34 (fun r71 w73 H locs hp72 hw => ?_)
    obtain ⟨rfl, hg81⟩ := hp72
    rcases hg81 with ⟨rfl, hq75⟩ | ⟨rfl, ⟨x76, c77, rx76, tx76⟩, ⟨x78, c79, rx78, tx78⟩, hq80⟩
    · refine lv_if_ne (tgt := 62) hx hb dX12_isDayFor_37 (by decide) (fun c => absurd (by decide) c) (fun _ => ?_)
      refine lv_aload_n hx hb dX12_isDayFor_40 rfl (lv_at hl 0 rfl) ?_
      refine lv_aload_n hx hb dX12_isDayFor_41 rfl (lv_at hl 0 rfl) ?_
      refine lv_iload_n hx hb dX12_isDayFor_42 rfl (lv_at hl 1 rfl) ?_
      refine lv_iconst (v := 1) hx hb dX12_isDayFor_43 (by decide) ?_
      refine tk_Vi hC hK hw hT hA hE hSR kM_at0 (by decide) rfl (k_X12_streetOf_3 l adK adV dC dI cy ad B (by omega) (by omega) qr s1   a1 (show 0 ≤ a1.toInt by omega) (show a1.toInt ≤ 11 by omega) w0 H.size hT ) (cwV 2 hC.2.2.2.2 gX12_isDayFor_X12_streetOf rfl rfl rfl (by decide +kernel) ⟨Nat.le_of_ble_eq_true rfl, Nat.le_of_ble_eq_true rfl⟩) rfl hl.1 rfl (Nat.le_of_ble_eq_true rfl) dX12_isDayFor_44 (fun r82 w84 H locs hp83 hw => ?_)
      obtain ⟨rfl, hg89⟩ := hp83
      obtain ⟨g86, g87, c88⟩ := hg89
      refine lv_iload_n hx hb dX12_isDayFor_47 rfl (lv_at hl 3 rfl) ?_
      refine lv_sipush (v := 360) hx hb dX12_isDayFor_48 (by decide) ?_
      refine lv_irem hx hb dX12_isDayFor_51 (by decide) ?_
      refine lv_topi (fun x90 ex90 => ?_)
      have ex90 : x90.toInt = a3.toInt % (360 : Int) := by rw [ex90]; exact wk_rem (show 0 ≤ a3.toInt by omega) (show 0 < (360 : Int) by decide)
      refine tk_Vi hC hK hw hT hA hE hSR kM_at0 (by decide) rfl (k_X12_isClosed_1 l adK adV dC dI cy ad B (by omega) (by omega) qr s1   r82 (show 0 ≤ r82.toInt by omega) (show r82.toInt ≤ 9 by omega) x90 (show 0 ≤ x90.toInt by omega) (show x90.toInt ≤ 359 by omega) w0 H.size hT ) (cwV 2 hC.2.2.2.2 gX12_isDayFor_X12_isClosed rfl rfl rfl (by decide +kernel) ⟨Nat.le_of_ble_eq_true rfl, Nat.le_of_ble_eq_true rfl⟩) rfl hl.1 rfl (Nat.le_of_ble_eq_true rfl) dX12_isDayFor_52 (fun r91 w93 H locs hp92 hw => ?_)
      obtain ⟨rfl, hg101⟩ := hp92
      rcases hg101 with ⟨rfl, hq95⟩ | ⟨rfl, ⟨x96, c97, rx96, tx96⟩, ⟨x98, c99, rx98, tx98⟩, hq100⟩
      · refine lv_if_ne (tgt := 62) hx hb dX12_isDayFor_55 (by decide) (fun c => absurd (by decide) c) (fun _ => ?_)
        refine lv_iconst (v := 1) hx hb dX12_isDayFor_58 (by decide) ?_
        refine lv_goto (tgt := 63) hx hb dX12_isDayFor_59 (by decide) ?_
        exact tk_zret hC hr rfl hlocks hK ⟨rfl, (Or.inr (Or.inr (Or.inr ⟨rfl, c19, (by have hq75 := hq75; rw [show x70.toInt = a3.toInt % 360 by omega] at hq75; have hq95 := hq95; rw [show x90.toInt = a3.toInt % 360 by omega] at hq95; unfold mDay; rw [show (10 * a1.toInt + (3 + a3.toInt % 7) + 10) = 10 * a1.toInt + 1 * x2.toInt + 10 by omega]; simp only [c9, c19, c88]; first | exact ⟨by assumption, by assumption, by assumption⟩ | (rintro ⟨q1, q2, q3⟩; first | exact absurd q1 (by assumption) | exact q2 (by assumption) | exact q3 (by assumption)))⟩)))⟩ hw dX12_isDayFor_63
      · refine lv_if_ne (tgt := 62) hx hb dX12_isDayFor_55 (by decide) (fun _ => ?_) (fun c => absurd c (by decide))
        refine lv_iconst (v := 0) hx hb dX12_isDayFor_62 (by decide) ?_
        exact tk_zret hC hr rfl hlocks hK ⟨rfl, (Or.inr (Or.inl ⟨rfl, c19, (by have hq75 := hq75; rw [show x70.toInt = a3.toInt % 360 by omega] at hq75; have hq100 := hq100; rw [show x90.toInt = a3.toInt % 360 by omega] at hq100; unfold mDay; rw [show (10 * a1.toInt + (3 + a3.toInt % 7) + 10) = 10 * a1.toInt + 1 * x2.toInt + 10 by omega]; simp only [c9, c19, c88, c97, c99]; first | exact ⟨by assumption, by assumption, by assumption⟩ | (rintro ⟨q1, q2, q3⟩; first | exact absurd q1 (by assumption) | exact q2 (by assumption) | exact q3 (by assumption)))⟩))⟩ hw dX12_isDayFor_63
    · refine lv_if_ne (tgt := 62) hx hb dX12_isDayFor_37 (by decide) (fun _ => ?_) (fun c => absurd c (by decide))
      refine lv_iconst (v := 0) hx hb dX12_isDayFor_62 (by decide) ?_
      exact tk_zret hC hr rfl hlocks hK ⟨rfl, (Or.inr (Or.inl ⟨rfl, c19, (by have hq80 := hq80; rw [show x70.toInt = a3.toInt % 360 by omega] at hq80; unfold mDay; rw [show (10 * a1.toInt + (3 + a3.toInt % 7) + 10) = 10 * a1.toInt + 1 * x2.toInt + 10 by omega]; simp only [c9, c19, c77, c79]; first | exact ⟨by assumption, by assumption, by assumption⟩ | (rintro ⟨q1, q2, q3⟩; first | exact absurd q1 (by assumption) | exact q2 (by assumption) | exact q3 (by assumption)))⟩))⟩ hw dX12_isDayFor_63
abbrev P_X12_isLifted_5 (ad : Nat → Nat) (cy : Nat → ClassId) (B : Int) (qr : Nat) (s1 : Int) (a1 : Int32) (a2 : Int32) (w0 : va_W) : Int32 → va_W → Prop := fun r u => w0 = u ∧ ((r = 0 ∧ (¬ mLf w0 a1.toInt a2.toInt)) ∨ (r = 1 ∧ (∃ y : Int32, gi u 12 3 = y ∧ 1 ≤ y.toInt ∧ y.toInt ≤ 4) ∧ (mLf w0 a1.toInt a2.toInt)))
set_option maxHeartbeats 4000000 in
set_option maxRecDepth 100000 in
theorem k_X12_isLifted_5 (l : Launch) (adK adV : Nat → Nat) (dC : Nat → ClassId) (dI : Nat → Nat → Nat) (cy : Nat → ClassId) (ad : Nat → Nat) (B : Int) (hB0 : 100000 ≤ B) (hB1 : B ≤ 1073741824) (qr : Nat) (s1 : Int)  (a1 : Int32) (ra1 : 0 ≤ a1.toInt) (ta1 : a1.toInt ≤ 11) (a2 : Int32) (ra2 : 0 ≤ a2.toInt) (ta2 : a2.toInt ≤ 1073741944) (w0 : va_W) (sz : Nat) (hT : TW ksM ad cy B qr 12 w0)  : Met l yX12_isLifted wsX12_isLifted ({ frames := 1, cells := 0, slots := 0, locals := 12 }) (va_Pc [.ref (ad 0), .int a1, .int a2] (wpreS adK adV dC dI cy sz w0)) (va_Qi (P_X12_isLifted_5 ad cy B qr s1 a1 a2 w0) (fun u : va_W => wpost dC dI cy (va_A w0 sz) u) (va_A w0 sz)) 0 0 (va_A w0 sz) := by
  refine Met.ofW (cc := cX12_isLifted) (maxL := 5) (ret := (some .boolean)) (by decide) rfl ?_
  intro p e s m args below meth c s₁ Bk hml hv
  obtain ⟨rfl, ⟨hsz, hP, hK, hD0⟩, hE, hSR⟩ := hv
  have hx := Bk.exec
  have hb := Bk.bytes
  have hr := Bk.returns
  have hlocks := Bk.notSynchronized
  have hC : CallFix p m c cX12_isLifted 5 s _ wsX12_isLifted RX12 := ⟨hx, hb, hml, findClass_of_methodNamed Bk.named, atoms_spec (ws := wsX12_isLifted) Bk.pre⟩
  subst hsz
  have hD := hD0.self (sz := s.heap.size)
  generalize hAe : va_A w0 s.heap.size = A at hD hE ⊢
  have hA : ∀ q : Nat, s.heap.size ≤ q → A q := fun q h => by rw [← hAe]; exact Or.inr h
  have hw : Wd dC dI A s.heap s.heap [] w0 := ⟨hP, hD, va_S.rf⟩
  have hF : FE ksM ([] : List (Nat × Nat × Nat)) w0 w0 := FE.rf
  have hl := lv_entry ([.ref (ad 0), .int a1, .int a2]) (n := 5) (Nat.le_of_ble_eq_true rfl)
  rw [lg_entry_eq]
  generalize (lg_sl ([.ref (ad 0), .int a1, .int a2]) ++ List.replicate (5 - (lg_sl ([.ref (ad 0), .int a1, .int a2])).length) Slot.unset).toArray = ls at hl ⊢
  have hl : lv_has ls 5 [(0, .ref (ad 0)), (1, .int a1), (2, .int a2)] := hl
  generalize hloc : ([] : List Loc) = locs at hw ⊢
  have hinX12 : ∀ w ∈ u_ws RX12 TX12 42, w ∈ wsX12_isLifted := fun _ h => List.mem_cons_of_mem _ (List.mem_append_right _ (h))
  have L2 : ∀ (n2 : Nat) (v2_3 : Int32) (H : Heap) (locs : List Loc) (ls : Array Slot), 0 ≤ a1.toInt → a1.toInt ≤ 11 → 0 ≤ a2.toInt → a2.toInt ≤ 1073741944 → 0 ≤ v2_3.toInt → v2_3.toInt ≤ 4 → (∀ k : Int, 0 ≤ k → k < v2_3.toInt → ¬ mLf1 w0 k a1.toInt a2.toInt) → (4 - v2_3.toInt).toNat < n2 → Wd dC dI A s.heap H locs w0 → lv_has ls 5 [(0, .ref (ad 0)), (1, .int a1), (2, .int a2), (3, .int v2_3)] → W p l e ({ frames := 1, cells := 0, slots := 0, locals := 12 }) s m (List.toArray [.ref (ad 0), .int a1, .int a2]) below meth c H locs 0 0 (MQ below (va_Qi (P_X12_isLifted_5 ad cy B qr s1 a1 a2 w0) (fun u : va_W => wpost dC dI cy A u) A) (List.toArray [.ref (ad 0), .int a1, .int a2]) s 0 0 A) (F0 m 2 ls []) := by
    intro n2
    induction n2 with
    | zero => intro v2_3 H locs ls r1 t2 r3 t4 r5 t6 hcr2_0 hm2 hw hl; omega
    | succ n2 ih2 =>
      intro v2_3 H locs ls r1 t2 r3 t4 r5 t6 hcr2_0 hm2 hw hl
      refine lv_iload_n hx hb dX12_isLifted_2 rfl (lv_at hl 3 rfl) ?_
      refine lv_aload_n hx hb dX12_isLifted_3 rfl (lv_at hl 0 rfl) ?_
      refine tk_getA hC hK hw hT hinX12 kM_at0 (by decide) rfl 26 (by decide) (List.mem_of_getElem? (i := 1) rfl) rfl rfl dX12_isLifted_4 ?_
      refine lv_iconst (v := 3) hx hb dX12_isLifted_7 (by decide) ?_
      refine tk_ialdR hC hK hw hT kM_at12 rfl (by decide) (by decide) dX12_isLifted_8 (fun x7 c8 Ex7 => ?_)
      have bx7 := tk_rgI rfl 3 1 1 0 4 (by decide +kernel) ⟨0, by decide, by decide⟩ Ex7
      have c8 : gi w0 12 3 = x7 := c8
      refine lv_icmp_ge (tgt := 72) hx hb dX12_isLifted_9 (by decide) (fun c9 => ?_) (fun c9 => ?_)
      · have c9 : x7.toInt ≤ v2_3.toInt := wk_le.mp c9
        refine lv_iconst (v := 0) hx hb dX12_isLifted_72 (by decide) ?_
        exact tk_zret hC hr rfl hlocks hK ⟨rfl, (Or.inl ⟨rfl, (by exact mLf_no hcr2_0 (by simp only [c8]; omega))⟩)⟩ hw dX12_isLifted_73
      · have c9 : v2_3.toInt < x7.toInt := wk_leF c9
        refine lv_sipush (v := 156) hx hb dX12_isLifted_12 (by decide) ?_
        refine lv_iconst (v := 3) hx hb dX12_isLifted_15 (by decide) ?_
        refine lv_iload_n hx hb dX12_isLifted_16 rfl (lv_at hl 3 rfl) ?_
        refine lv_imul hx hb dX12_isLifted_17 ?_
        refine lv_topi (fun x10 ex10 => ?_)
        have ex10 : x10.toInt = (3 : Int) * v2_3.toInt := by rw [ex10]; exact wk_mul (show (-2147483648) ≤ (3 : Int) * v2_3.toInt by omega) (show (3 : Int) * v2_3.toInt ≤ 2147483647 by omega)
        refine lv_iadd hx hb dX12_isLifted_18 ?_
        refine lv_topi (fun x11 ex11 => ?_)
        have ex11 : x11.toInt = (156 : Int) + x10.toInt := by rw [ex11]; exact wk_add (show (-2147483648) ≤ (156 : Int) + x10.toInt by omega) (show (156 : Int) + x10.toInt ≤ 2147483647 by omega)
        refine lv_istore (lv' := [(4, .int x11), (0, .ref (ad 0)), (1, .int a1), (2, .int a2), (3, .int v2_3)]) hx hb dX12_isLifted_19 hl (by decide) rfl (fun ls hl => ?_)
        refine lv_aload_n hx hb dX12_isLifted_21 rfl (lv_at hl 1 rfl) ?_
        refine tk_getA hC hK hw hT hinX12 kM_at0 (by decide) rfl 26 (by decide) (List.mem_of_getElem? (i := 1) rfl) rfl rfl dX12_isLifted_22 ?_
        refine lv_iload hx hb dX12_isLifted_25 (lv_at hl 0 rfl) ?_
        refine tk_ialdR hC hK hw hT kM_at12 rfl (show 0 ≤ x11.toInt by omega) (show x11.toInt < 296 by omega) dX12_isLifted_27 (fun x12 c13 Ex12 => ?_)
        have c13 : gi w0 12 (3 * v2_3.toInt + 156).toNat = x12 := (congrArg (gi w0 12) (congrArg Int.toNat (show 3 * v2_3.toInt + 156 = x11.toInt by omega))).trans c13
        refine lv_iload_n hx hb dX12_isLifted_28 rfl (lv_at hl 2 rfl) ?_
        refine lv_icmp_ne (tgt := 66) hx hb dX12_isLifted_29 (by decide) (fun c14 => ?_) (fun c14 => ?_)
        · have c14 : ¬ x12.toInt = a1.toInt := wk_eqF c14
          obtain ⟨x15, ex15⟩ : ∃ y : Int32, y = v2_3 + Int32.ofInt 1 := ⟨_, rfl⟩
          refine lv_iinc (v := x15) (lv' := [(3, .int x15), (4, .int x11), (0, .ref (ad 0)), (1, .int a1), (2, .int a2)]) hx hb dX12_isLifted_66 hl (k := 4) rfl ex15.symm (by decide) rfl (fun ls hl => ?_)
          have ex15 : x15.toInt = v2_3.toInt + 1 := by rw [ex15]; exact wk_add (y := 1) (show -2147483648 ≤ v2_3.toInt + 1 by omega) (show v2_3.toInt + 1 ≤ 2147483647 by omega)
          refine lv_goto (tgt := 2) hx hb dX12_isLifted_69 (by decide) ?_
          exact ih2 x15 H locs ls  (show 0 ≤ a1.toInt by omega) (show a1.toInt ≤ 11 by omega) (show 0 ≤ a2.toInt by omega) (show a2.toInt ≤ 1073741944 by omega) (show 0 ≤ x15.toInt by omega) (show x15.toInt ≤ 4 by omega) (show ∀ k : Int, 0 ≤ k → k < x15.toInt → ¬ mLf1 w0 k a1.toInt a2.toInt from all_step hcr2_0 (show ¬ mLf1 w0 v2_3.toInt a1.toInt a2.toInt by unfold mLf1; simp only [c8, c13]; omega) (by omega)) (show (4 - x15.toInt).toNat < n2 by omega) hw   (lv_sub hl [2, 3, 4, 0] rfl)
        · have c14 : x12.toInt = a1.toInt := wk_eq.mp c14
          refine lv_iload_n hx hb dX12_isLifted_32 rfl (lv_at hl 3 rfl) ?_
          refine lv_bipush (v := 24) hx hb dX12_isLifted_33 (by decide) ?_
          refine lv_irem hx hb dX12_isLifted_35 (by decide) ?_
          refine lv_topi (fun x16 ex16 => ?_)
          have ex16 : x16.toInt = a2.toInt % (24 : Int) := by rw [ex16]; exact wk_rem (show 0 ≤ a2.toInt by omega) (show 0 < (24 : Int) by decide)
          refine lv_aload_n hx hb dX12_isLifted_36 rfl (lv_at hl 1 rfl) ?_
          refine tk_getA hC hK hw hT hinX12 kM_at0 (by decide) rfl 26 (by decide) (List.mem_of_getElem? (i := 1) rfl) rfl rfl dX12_isLifted_37 ?_
          refine lv_iload hx hb dX12_isLifted_40 (lv_at hl 0 rfl) ?_
          refine lv_iconst (v := 1) hx hb dX12_isLifted_42 (by decide) ?_
          refine lv_iadd hx hb dX12_isLifted_43 ?_
          refine lv_topi (fun x17 ex17 => ?_)
          have ex17 : x17.toInt = x11.toInt + (1 : Int) := by rw [ex17]; exact wk_add (show (-2147483648) ≤ x11.toInt + (1 : Int) by omega) (show x11.toInt + (1 : Int) ≤ 2147483647 by omega)
          refine tk_ialdR hC hK hw hT kM_at12 rfl (show 0 ≤ x17.toInt by omega) (show x17.toInt < 296 by omega) dX12_isLifted_44 (fun x18 c19 Ex18 => ?_)
          have c19 : gi w0 12 (3 * v2_3.toInt + 157).toNat = x18 := (congrArg (gi w0 12) (congrArg Int.toNat (show 3 * v2_3.toInt + 157 = x17.toInt by omega))).trans c19
          refine lv_icmp_lt (tgt := 66) hx hb dX12_isLifted_45 (by decide) (fun c20 => ?_) (fun c20 => ?_)
          · have c20 : x16.toInt < x18.toInt := wk_lt.mp c20
            obtain ⟨x21, ex21⟩ : ∃ y : Int32, y = v2_3 + Int32.ofInt 1 := ⟨_, rfl⟩
            refine lv_iinc (v := x21) (lv' := [(3, .int x21), (4, .int x11), (0, .ref (ad 0)), (1, .int a1), (2, .int a2)]) hx hb dX12_isLifted_66 hl (k := 4) rfl ex21.symm (by decide) rfl (fun ls hl => ?_)
            have ex21 : x21.toInt = v2_3.toInt + 1 := by rw [ex21]; exact wk_add (y := 1) (show -2147483648 ≤ v2_3.toInt + 1 by omega) (show v2_3.toInt + 1 ≤ 2147483647 by omega)
            refine lv_goto (tgt := 2) hx hb dX12_isLifted_69 (by decide) ?_
            exact ih2 x21 H locs ls  (show 0 ≤ a1.toInt by omega) (show a1.toInt ≤ 11 by omega) (show 0 ≤ a2.toInt by omega) (show a2.toInt ≤ 1073741944 by omega) (show 0 ≤ x21.toInt by omega) (show x21.toInt ≤ 4 by omega) (show ∀ k : Int, 0 ≤ k → k < x21.toInt → ¬ mLf1 w0 k a1.toInt a2.toInt from all_step hcr2_0 (show ¬ mLf1 w0 v2_3.toInt a1.toInt a2.toInt by unfold mLf1; simp only [c8, c13, c19]; omega) (by omega)) (show (4 - x21.toInt).toNat < n2 by omega) hw   (lv_sub hl [2, 3, 4, 0] rfl)
          · have c20 : x18.toInt ≤ x16.toInt := wk_ltF c20
            refine lv_iload_n hx hb dX12_isLifted_48 rfl (lv_at hl 3 rfl) ?_
            refine lv_bipush (v := 24) hx hb dX12_isLifted_49 (by decide) ?_
            refine lv_irem hx hb dX12_isLifted_51 (by decide) ?_
            refine lv_topi (fun x22 ex22 => ?_)
            have ex22 : x22.toInt = a2.toInt % (24 : Int) := by rw [ex22]; exact wk_rem (show 0 ≤ a2.toInt by omega) (show 0 < (24 : Int) by decide)
            refine lv_aload_n hx hb dX12_isLifted_52 rfl (lv_at hl 1 rfl) ?_
            refine tk_getA hC hK hw hT hinX12 kM_at0 (by decide) rfl 26 (by decide) (List.mem_of_getElem? (i := 1) rfl) rfl rfl dX12_isLifted_53 ?_
            refine lv_iload hx hb dX12_isLifted_56 (lv_at hl 0 rfl) ?_
            refine lv_iconst (v := 2) hx hb dX12_isLifted_58 (by decide) ?_
            refine lv_iadd hx hb dX12_isLifted_59 ?_
            refine lv_topi (fun x23 ex23 => ?_)
            have ex23 : x23.toInt = x11.toInt + (2 : Int) := by rw [ex23]; exact wk_add (show (-2147483648) ≤ x11.toInt + (2 : Int) by omega) (show x11.toInt + (2 : Int) ≤ 2147483647 by omega)
            refine tk_ialdR hC hK hw hT kM_at12 rfl (show 0 ≤ x23.toInt by omega) (show x23.toInt < 296 by omega) dX12_isLifted_60 (fun x24 c25 Ex24 => ?_)
            have c25 : gi w0 12 (3 * v2_3.toInt + 158).toNat = x24 := (congrArg (gi w0 12) (congrArg Int.toNat (show 3 * v2_3.toInt + 158 = x23.toInt by omega))).trans c25
            refine lv_icmp_ge (tgt := 66) hx hb dX12_isLifted_61 (by decide) (fun c26 => ?_) (fun c26 => ?_)
            · have c26 : x24.toInt ≤ x22.toInt := wk_le.mp c26
              obtain ⟨x27, ex27⟩ : ∃ y : Int32, y = v2_3 + Int32.ofInt 1 := ⟨_, rfl⟩
              refine lv_iinc (v := x27) (lv' := [(3, .int x27), (4, .int x11), (0, .ref (ad 0)), (1, .int a1), (2, .int a2)]) hx hb dX12_isLifted_66 hl (k := 4) rfl ex27.symm (by decide) rfl (fun ls hl => ?_)
              have ex27 : x27.toInt = v2_3.toInt + 1 := by rw [ex27]; exact wk_add (y := 1) (show -2147483648 ≤ v2_3.toInt + 1 by omega) (show v2_3.toInt + 1 ≤ 2147483647 by omega)
              refine lv_goto (tgt := 2) hx hb dX12_isLifted_69 (by decide) ?_
              exact ih2 x27 H locs ls  (show 0 ≤ a1.toInt by omega) (show a1.toInt ≤ 11 by omega) (show 0 ≤ a2.toInt by omega) (show a2.toInt ≤ 1073741944 by omega) (show 0 ≤ x27.toInt by omega) (show x27.toInt ≤ 4 by omega) (show ∀ k : Int, 0 ≤ k → k < x27.toInt → ¬ mLf1 w0 k a1.toInt a2.toInt from all_step hcr2_0 (show ¬ mLf1 w0 v2_3.toInt a1.toInt a2.toInt by unfold mLf1; simp only [c8, c13, c19, c25]; omega) (by omega)) (show (4 - x27.toInt).toNat < n2 by omega) hw   (lv_sub hl [2, 3, 4, 0] rfl)
            · have c26 : x22.toInt < x24.toInt := wk_leF c26
              refine lv_iconst (v := 1) hx hb dX12_isLifted_64 (by decide) ?_
              exact tk_zret hC hr rfl hlocks hK ⟨rfl, (Or.inr ⟨rfl, ⟨x7, c8, (show 1 ≤ x7.toInt by omega), (show x7.toInt ≤ 4 by omega)⟩, (by exact ⟨v2_3.toInt, by omega, by simp only [c8, c13, c19, c25]; omega, by unfold mLf1; simp only [c8, c13, c19, c25]; omega⟩)⟩)⟩ hw dX12_isLifted_65
  refine lv_iconst (v := 0) hx hb dX12_isLifted_0 (by decide) ?_
  refine lv_istore_n (lv' := [(3, .int 0), (0, .ref (ad 0)), (1, .int a1), (2, .int a2)]) hx hb dX12_isLifted_1 rfl hl (by decide) rfl (fun ls hl => ?_)
  exact L2 ((4 - (0 : Int)).toNat + 1) 0 s.heap locs ls  (show 0 ≤ a1.toInt by omega) (show a1.toInt ≤ 11 by omega) (show 0 ≤ a2.toInt by omega) (show a2.toInt ≤ 1073741944 by omega) (by decide) (by decide) (show ∀ k : Int, 0 ≤ k → k < (0 : Int) → ¬ mLf1 w0 k a1.toInt a2.toInt from all_none) (Nat.lt_succ_self _) hw   (lv_sub hl [1, 2, 3, 0] rfl)
abbrev P_X12_isOpen_3 (ad : Nat → Nat) (cy : Nat → ClassId) (B : Int) (qr : Nat) (s1 : Int) (a1 : Int32) (a2 : Int32) (a3 : Int32) (w0 : va_W) : Int32 → va_W → Prop := fun r u => w0 = u ∧ ((r = 0 ∧ (¬ mOpen w0 a1.toInt a2.toInt a3.toInt)) ∨ (r = 0 ∧ gi u 12 (10 * a1.toInt + 10).toNat = a2 ∧ gi u 12 (10 * a1.toInt + 11).toNat = a2 ∧ (¬ mOpen w0 a1.toInt a2.toInt a3.toInt)) ∨ (r = 0 ∧ gi u 12 (10 * a1.toInt + 10).toNat = a2 ∧ (¬ mOpen w0 a1.toInt a2.toInt a3.toInt)) ∨ (r = 0 ∧ gi u 12 (10 * a1.toInt + 11).toNat = a2 ∧ (¬ mOpen w0 a1.toInt a2.toInt a3.toInt)) ∨ (r = 1 ∧ gi u 12 (10 * a1.toInt + 10).toNat = a2 ∧ gi u 12 (10 * a1.toInt + 11).toNat = a2 ∧ (mOpen w0 a1.toInt a2.toInt a3.toInt)) ∨ (r = 1 ∧ gi u 12 (10 * a1.toInt + 10).toNat = a2 ∧ (mOpen w0 a1.toInt a2.toInt a3.toInt)) ∨ (r = 1 ∧ gi u 12 (10 * a1.toInt + 11).toNat = a2 ∧ (mOpen w0 a1.toInt a2.toInt a3.toInt)))
set_option maxHeartbeats 4000000 in
set_option maxRecDepth 100000 in
theorem k_X12_isOpen_3 (l : Launch) (adK adV : Nat → Nat) (dC : Nat → ClassId) (dI : Nat → Nat → Nat) (cy : Nat → ClassId) (ad : Nat → Nat) (B : Int) (hB0 : 100000 ≤ B) (hB1 : B ≤ 1073741824) (qr : Nat) (s1 : Int)  (a1 : Int32) (ra1 : 0 ≤ a1.toInt) (ta1 : a1.toInt ≤ 11) (a2 : Int32) (ra2 : 0 ≤ a2.toInt) (ta2 : a2.toInt ≤ 9) (a3 : Int32) (ra3 : 0 ≤ a3.toInt) (ta3 : a3.toInt ≤ 1073741944) (w0 : va_W) (sz : Nat) (hT : TW ksM ad cy B qr 12 w0)  : Met l yX12_isOpen wsX12_isOpen ({ frames := 4, cells := 0, slots := 0, locals := 80 }) (va_Pc [.ref (ad 0), .int a1, .int a2, .int a3] (wpreS adK adV dC dI cy sz w0)) (va_Qi (P_X12_isOpen_3 ad cy B qr s1 a1 a2 a3 w0) (fun u : va_W => wpost dC dI cy (va_A w0 sz) u) (va_A w0 sz)) 0 0 (va_A w0 sz) := by
  refine Met.ofW (cc := cX12_isOpen) (maxL := 4) (ret := (some .boolean)) (by decide) rfl ?_
  intro p e s m args below meth c s₁ Bk hml hv
  obtain ⟨rfl, ⟨hsz, hP, hK, hD0⟩, hE, hSR⟩ := hv
  have hx := Bk.exec
  have hb := Bk.bytes
  have hr := Bk.returns
  have hlocks := Bk.notSynchronized
  have hC : CallFix p m c cX12_isOpen 4 s _ wsX12_isOpen RX12 := ⟨hx, hb, hml, findClass_of_methodNamed Bk.named, atoms_spec (ws := wsX12_isOpen) Bk.pre⟩
  subst hsz
  have hD := hD0.self (sz := s.heap.size)
  generalize hAe : va_A w0 s.heap.size = A at hD hE ⊢
  have hA : ∀ q : Nat, s.heap.size ≤ q → A q := fun q h => by rw [← hAe]; exact Or.inr h
  have hw : Wd dC dI A s.heap s.heap [] w0 := ⟨hP, hD, va_S.rf⟩
  have hF : FE ksM ([] : List (Nat × Nat × Nat)) w0 w0 := FE.rf
  have hl := lv_entry ([.ref (ad 0), .int a1, .int a2, .int a3]) (n := 4) (Nat.le_of_ble_eq_true rfl)
  rw [lg_entry_eq]
  generalize (lg_sl ([.ref (ad 0), .int a1, .int a2, .int a3]) ++ List.replicate (4 - (lg_sl ([.ref (ad 0), .int a1, .int a2, .int a3])).length) Slot.unset).toArray = ls at hl ⊢
  have hl : lv_has ls 4 [(0, .ref (ad 0)), (1, .int a1), (2, .int a2), (3, .int a3)] := hl
  generalize hloc : ([] : List Loc) = locs at hw ⊢
  refine lv_aload_n hx hb dX12_isOpen_0 rfl (lv_at hl 0 rfl) ?_
  refine lv_iload_n hx hb dX12_isOpen_1 rfl (lv_at hl 1 rfl) ?_
  refine lv_iload_n hx hb dX12_isOpen_2 rfl (lv_at hl 2 rfl) ?_
  refine tk_Vi hC hK hw hT hA hE hSR kM_at0 (by decide) rfl (k_X12_isAt_1 l adK adV dC dI cy ad B (by omega) (by omega) qr s1   a1 (show 0 ≤ a1.toInt by omega) (show a1.toInt ≤ 11 by omega) a2 (show 0 ≤ a2.toInt by omega) (show a2.toInt ≤ 9 by omega) w0 s.heap.size hT ) (cwV 2 hC.2.2.2.2 gX12_isOpen_X12_isAt rfl rfl rfl (by decide +kernel) ⟨Nat.le_of_ble_eq_true rfl, Nat.le_of_ble_eq_true rfl⟩) rfl hl.1 rfl (Nat.le_of_ble_eq_true rfl) dX12_isOpen_3 (fun r1 w3 H locs hp2 hw => ?_)
  obtain ⟨rfl, hg10⟩ := hp2
  rcases hg10 with ⟨rfl, hq5⟩ | ⟨rfl, c6, hq7⟩ | ⟨rfl, c8, hq9⟩
  · refine lv_if_eq (tgt := 35) hx hb dX12_isOpen_6 (by decide) (fun _ => ?_) (fun c => absurd (by decide) c)
    refine lv_iconst (v := 0) hx hb dX12_isOpen_35 (by decide) ?_
    exact tk_zret hC hr rfl hlocks hK ⟨rfl, (Or.inl ⟨rfl, (by unfold mOpen; first | exact ⟨by assumption, by assumption, by assumption⟩ | (rintro ⟨q1, q2, q3⟩; first | exact absurd q1 (by assumption) | exact absurd q2 (by assumption) | exact q3 (by assumption)))⟩)⟩ hw dX12_isOpen_36
  · refine lv_if_eq (tgt := 35) hx hb dX12_isOpen_6 (by decide) (fun c => absurd c (by decide)) (fun _ => ?_)
    refine lv_aload_n hx hb dX12_isOpen_9 rfl (lv_at hl 0 rfl) ?_
    refine lv_iload_n hx hb dX12_isOpen_10 rfl (lv_at hl 1 rfl) ?_
    refine lv_iload_n hx hb dX12_isOpen_11 rfl (lv_at hl 2 rfl) ?_
    refine lv_iload_n hx hb dX12_isOpen_12 rfl (lv_at hl 3 rfl) ?_
    refine lv_bipush (v := 24) hx hb dX12_isOpen_13 (by decide) ?_
    refine lv_idiv hx hb dX12_isOpen_15 (by decide) ?_
    refine lv_topi (fun x11 ex11 => ?_)
    have ex11 : x11.toInt = a3.toInt / (24 : Int) := by rw [ex11]; exact wk_div (show 0 ≤ a3.toInt by omega) (show 0 < (24 : Int) by decide)
    refine tk_Vi hC hK hw hT hA hE hSR kM_at0 (by decide) rfl (k_X12_isDayFor_5 l adK adV dC dI cy ad B (by omega) (by omega) qr s1   a1 (show 0 ≤ a1.toInt by omega) (show a1.toInt ≤ 11 by omega) a2 (show 0 ≤ a2.toInt by omega) (show a2.toInt ≤ 9 by omega) x11 (show 0 ≤ x11.toInt by omega) (show x11.toInt ≤ 44739247 by omega) w0 H.size hT ) (cwV 3 hC.2.2.2.2 gX12_isOpen_X12_isDayFor rfl rfl rfl (by decide +kernel) ⟨Nat.le_of_ble_eq_true rfl, Nat.le_of_ble_eq_true rfl⟩) rfl hl.1 rfl (Nat.le_of_ble_eq_true rfl) dX12_isOpen_16 (fun r12 w14 H locs hp13 hw => ?_)
    obtain ⟨rfl, hg22⟩ := hp13
    rcases hg22 with ⟨rfl, hq16⟩ | ⟨rfl, c17, hq18⟩ | ⟨rfl, hq19⟩ | ⟨rfl, c20, hq21⟩
    · refine lv_if_eq (tgt := 35) hx hb dX12_isOpen_19 (by decide) (fun _ => ?_) (fun c => absurd (by decide) c)
      refine lv_iconst (v := 0) hx hb dX12_isOpen_35 (by decide) ?_
      exact tk_zret hC hr rfl hlocks hK ⟨rfl, (Or.inr (Or.inr (Or.inl ⟨rfl, c6, (by rw [show x11.toInt = a3.toInt / 24 by omega] at hq16; unfold mOpen; first | exact ⟨by assumption, by assumption, by assumption⟩ | (rintro ⟨q1, q2, q3⟩; first | exact absurd q1 (by assumption) | exact absurd q2 (by assumption) | exact q3 (by assumption)))⟩)))⟩ hw dX12_isOpen_36
    · refine lv_if_eq (tgt := 35) hx hb dX12_isOpen_19 (by decide) (fun _ => ?_) (fun c => absurd (by decide) c)
      refine lv_iconst (v := 0) hx hb dX12_isOpen_35 (by decide) ?_
      exact tk_zret hC hr rfl hlocks hK ⟨rfl, (Or.inr (Or.inr (Or.inl ⟨rfl, c6, (by rw [show x11.toInt = a3.toInt / 24 by omega] at hq18; unfold mOpen; first | exact ⟨by assumption, by assumption, by assumption⟩ | (rintro ⟨q1, q2, q3⟩; first | exact absurd q1 (by assumption) | exact absurd q2 (by assumption) | exact q3 (by assumption)))⟩)))⟩ hw dX12_isOpen_36
    · refine lv_if_eq (tgt := 35) hx hb dX12_isOpen_19 (by decide) (fun c => absurd c (by decide)) (fun _ => ?_)
      refine lv_aload_n hx hb dX12_isOpen_22 rfl (lv_at hl 0 rfl) ?_
      refine lv_iload_n hx hb dX12_isOpen_23 rfl (lv_at hl 1 rfl) ?_
      refine lv_iload_n hx hb dX12_isOpen_24 rfl (lv_at hl 3 rfl) ?_
      refine tk_Vi hC hK hw hT hA hE hSR kM_at0 (by decide) rfl (k_X12_isLifted_5 l adK adV dC dI cy ad B (by omega) (by omega) qr s1   a1 (show 0 ≤ a1.toInt by omega) (show a1.toInt ≤ 11 by omega) a3 (show 0 ≤ a3.toInt by omega) (show a3.toInt ≤ 1073741944 by omega) w0 H.size hT ) (cwV 2 hC.2.2.2.2 gX12_isOpen_X12_isLifted rfl rfl rfl (by decide +kernel) ⟨Nat.le_of_ble_eq_true rfl, Nat.le_of_ble_eq_true rfl⟩) rfl hl.1 rfl (Nat.le_of_ble_eq_true rfl) dX12_isOpen_25 (fun r23 w25 H locs hp24 hw => ?_)
      obtain ⟨rfl, hg31⟩ := hp24
      rcases hg31 with ⟨rfl, hq27⟩ | ⟨rfl, ⟨x28, c29, rx28, tx28⟩, hq30⟩
      · refine lv_if_ne (tgt := 35) hx hb dX12_isOpen_28 (by decide) (fun c => absurd (by decide) c) (fun _ => ?_)
        refine lv_iconst (v := 1) hx hb dX12_isOpen_31 (by decide) ?_
        refine lv_goto (tgt := 36) hx hb dX12_isOpen_32 (by decide) ?_
        exact tk_zret hC hr rfl hlocks hK ⟨rfl, (Or.inr (Or.inr (Or.inr (Or.inr (Or.inr (Or.inl ⟨rfl, c6, (by rw [show x11.toInt = a3.toInt / 24 by omega] at hq19; unfold mOpen; first | exact ⟨by assumption, by assumption, by assumption⟩ | (rintro ⟨q1, q2, q3⟩; first | exact absurd q1 (by assumption) | exact absurd q2 (by assumption) | exact q3 (by assumption)))⟩))))))⟩ hw dX12_isOpen_36
      · refine lv_if_ne (tgt := 35) hx hb dX12_isOpen_28 (by decide) (fun _ => ?_) (fun c => absurd c (by decide))
        refine lv_iconst (v := 0) hx hb dX12_isOpen_35 (by decide) ?_
        exact tk_zret hC hr rfl hlocks hK ⟨rfl, (Or.inr (Or.inr (Or.inl ⟨rfl, c6, (by rw [show x11.toInt = a3.toInt / 24 by omega] at hq19; unfold mOpen; first | exact ⟨by assumption, by assumption, by assumption⟩ | (rintro ⟨q1, q2, q3⟩; first | exact absurd q1 (by assumption) | exact absurd q2 (by assumption) | exact q3 (by assumption)))⟩)))⟩ hw dX12_isOpen_36
    · refine lv_if_eq (tgt := 35) hx hb dX12_isOpen_19 (by decide) (fun c => absurd c (by decide)) (fun _ => ?_)
      refine lv_aload_n hx hb dX12_isOpen_22 rfl (lv_at hl 0 rfl) ?_
      refine lv_iload_n hx hb dX12_isOpen_23 rfl (lv_at hl 1 rfl) ?_
      refine lv_iload_n hx hb dX12_isOpen_24 rfl (lv_at hl 3 rfl) ?_
      refine tk_Vi hC hK hw hT hA hE hSR kM_at0 (by decide) rfl (k_X12_isLifted_5 l adK adV dC dI cy ad B (by omega) (by omega) qr s1   a1 (show 0 ≤ a1.toInt by omega) (show a1.toInt ≤ 11 by omega) a3 (show 0 ≤ a3.toInt by omega) (show a3.toInt ≤ 1073741944 by omega) w0 H.size hT ) (cwV 2 hC.2.2.2.2 gX12_isOpen_X12_isLifted rfl rfl rfl (by decide +kernel) ⟨Nat.le_of_ble_eq_true rfl, Nat.le_of_ble_eq_true rfl⟩) rfl hl.1 rfl (Nat.le_of_ble_eq_true rfl) dX12_isOpen_25 (fun r32 w34 H locs hp33 hw => ?_)
      obtain ⟨rfl, hg40⟩ := hp33
      rcases hg40 with ⟨rfl, hq36⟩ | ⟨rfl, ⟨x37, c38, rx37, tx37⟩, hq39⟩
      · refine lv_if_ne (tgt := 35) hx hb dX12_isOpen_28 (by decide) (fun c => absurd (by decide) c) (fun _ => ?_)
        refine lv_iconst (v := 1) hx hb dX12_isOpen_31 (by decide) ?_
        refine lv_goto (tgt := 36) hx hb dX12_isOpen_32 (by decide) ?_
        exact tk_zret hC hr rfl hlocks hK ⟨rfl, (Or.inr (Or.inr (Or.inr (Or.inr (Or.inr (Or.inl ⟨rfl, c6, (by rw [show x11.toInt = a3.toInt / 24 by omega] at hq21; unfold mOpen; first | exact ⟨by assumption, by assumption, by assumption⟩ | (rintro ⟨q1, q2, q3⟩; first | exact absurd q1 (by assumption) | exact absurd q2 (by assumption) | exact q3 (by assumption)))⟩))))))⟩ hw dX12_isOpen_36
      · refine lv_if_ne (tgt := 35) hx hb dX12_isOpen_28 (by decide) (fun _ => ?_) (fun c => absurd c (by decide))
        refine lv_iconst (v := 0) hx hb dX12_isOpen_35 (by decide) ?_
        exact tk_zret hC hr rfl hlocks hK ⟨rfl, (Or.inr (Or.inr (Or.inl ⟨rfl, c6, (by rw [show x11.toInt = a3.toInt / 24 by omega] at hq21; unfold mOpen; first | exact ⟨by assumption, by assumption, by assumption⟩ | (rintro ⟨q1, q2, q3⟩; first | exact absurd q1 (by assumption) | exact absurd q2 (by assumption) | exact q3 (by assumption)))⟩)))⟩ hw dX12_isOpen_36
  · refine lv_if_eq (tgt := 35) hx hb dX12_isOpen_6 (by decide) (fun c => absurd c (by decide)) (fun _ => ?_)
    refine lv_aload_n hx hb dX12_isOpen_9 rfl (lv_at hl 0 rfl) ?_
    refine lv_iload_n hx hb dX12_isOpen_10 rfl (lv_at hl 1 rfl) ?_
    refine lv_iload_n hx hb dX12_isOpen_11 rfl (lv_at hl 2 rfl) ?_
    refine lv_iload_n hx hb dX12_isOpen_12 rfl (lv_at hl 3 rfl) ?_
    refine lv_bipush (v := 24) hx hb dX12_isOpen_13 (by decide) ?_
    refine lv_idiv hx hb dX12_isOpen_15 (by decide) ?_
    refine lv_topi (fun x41 ex41 => ?_)
    have ex41 : x41.toInt = a3.toInt / (24 : Int) := by rw [ex41]; exact wk_div (show 0 ≤ a3.toInt by omega) (show 0 < (24 : Int) by decide)
    refine tk_Vi hC hK hw hT hA hE hSR kM_at0 (by decide) rfl (k_X12_isDayFor_5 l adK adV dC dI cy ad B (by omega) (by omega) qr s1   a1 (show 0 ≤ a1.toInt by omega) (show a1.toInt ≤ 11 by omega) a2 (show 0 ≤ a2.toInt by omega) (show a2.toInt ≤ 9 by omega) x41 (show 0 ≤ x41.toInt by omega) (show x41.toInt ≤ 44739247 by omega) w0 H.size hT ) (cwV 3 hC.2.2.2.2 gX12_isOpen_X12_isDayFor rfl rfl rfl (by decide +kernel) ⟨Nat.le_of_ble_eq_true rfl, Nat.le_of_ble_eq_true rfl⟩) rfl hl.1 rfl (Nat.le_of_ble_eq_true rfl) dX12_isOpen_16 (fun r42 w44 H locs hp43 hw => ?_)
    obtain ⟨rfl, hg52⟩ := hp43
    rcases hg52 with ⟨rfl, hq46⟩ | ⟨rfl, c47, hq48⟩ | ⟨rfl, hq49⟩ | ⟨rfl, c50, hq51⟩
    · refine lv_if_eq (tgt := 35) hx hb dX12_isOpen_19 (by decide) (fun _ => ?_) (fun c => absurd (by decide) c)
      refine lv_iconst (v := 0) hx hb dX12_isOpen_35 (by decide) ?_
      exact tk_zret hC hr rfl hlocks hK ⟨rfl, (Or.inr (Or.inr (Or.inr (Or.inl ⟨rfl, c8, (by rw [show x41.toInt = a3.toInt / 24 by omega] at hq46; unfold mOpen; first | exact ⟨by assumption, by assumption, by assumption⟩ | (rintro ⟨q1, q2, q3⟩; first | exact absurd q1 (by assumption) | exact absurd q2 (by assumption) | exact q3 (by assumption)))⟩))))⟩ hw dX12_isOpen_36
    · refine lv_if_eq (tgt := 35) hx hb dX12_isOpen_19 (by decide) (fun _ => ?_) (fun c => absurd (by decide) c)
      refine lv_iconst (v := 0) hx hb dX12_isOpen_35 (by decide) ?_
      exact tk_zret hC hr rfl hlocks hK ⟨rfl, (Or.inr (Or.inl ⟨rfl, c47, c8, (by rw [show x41.toInt = a3.toInt / 24 by omega] at hq48; unfold mOpen; first | exact ⟨by assumption, by assumption, by assumption⟩ | (rintro ⟨q1, q2, q3⟩; first | exact absurd q1 (by assumption) | exact absurd q2 (by assumption) | exact q3 (by assumption)))⟩))⟩ hw dX12_isOpen_36
    · refine lv_if_eq (tgt := 35) hx hb dX12_isOpen_19 (by decide) (fun c => absurd c (by decide)) (fun _ => ?_)
      refine lv_aload_n hx hb dX12_isOpen_22 rfl (lv_at hl 0 rfl) ?_
      refine lv_iload_n hx hb dX12_isOpen_23 rfl (lv_at hl 1 rfl) ?_
      refine lv_iload_n hx hb dX12_isOpen_24 rfl (lv_at hl 3 rfl) ?_
      refine tk_Vi hC hK hw hT hA hE hSR kM_at0 (by decide) rfl (k_X12_isLifted_5 l adK adV dC dI cy ad B (by omega) (by omega) qr s1   a1 (show 0 ≤ a1.toInt by omega) (show a1.toInt ≤ 11 by omega) a3 (show 0 ≤ a3.toInt by omega) (show a3.toInt ≤ 1073741944 by omega) w0 H.size hT ) (cwV 2 hC.2.2.2.2 gX12_isOpen_X12_isLifted rfl rfl rfl (by decide +kernel) ⟨Nat.le_of_ble_eq_true rfl, Nat.le_of_ble_eq_true rfl⟩) rfl hl.1 rfl (Nat.le_of_ble_eq_true rfl) dX12_isOpen_25 (fun r53 w55 H locs hp54 hw => ?_)
      obtain ⟨rfl, hg61⟩ := hp54
      rcases hg61 with ⟨rfl, hq57⟩ | ⟨rfl, ⟨x58, c59, rx58, tx58⟩, hq60⟩
      · refine lv_if_ne (tgt := 35) hx hb dX12_isOpen_28 (by decide) (fun c => absurd (by decide) c) (fun _ => ?_)
        refine lv_iconst (v := 1) hx hb dX12_isOpen_31 (by decide) ?_
        refine lv_goto (tgt := 36) hx hb dX12_isOpen_32 (by decide) ?_
        exact tk_zret hC hr rfl hlocks hK ⟨rfl, (Or.inr (Or.inr (Or.inr (Or.inr (Or.inr (Or.inr ⟨rfl, c8, (by rw [show x41.toInt = a3.toInt / 24 by omega] at hq49; unfold mOpen; first | exact ⟨by assumption, by assumption, by assumption⟩ | (rintro ⟨q1, q2, q3⟩; first | exact absurd q1 (by assumption) | exact absurd q2 (by assumption) | exact q3 (by assumption)))⟩))))))⟩ hw dX12_isOpen_36
      · refine lv_if_ne (tgt := 35) hx hb dX12_isOpen_28 (by decide) (fun _ => ?_) (fun c => absurd c (by decide))
        refine lv_iconst (v := 0) hx hb dX12_isOpen_35 (by decide) ?_
        exact tk_zret hC hr rfl hlocks hK ⟨rfl, (Or.inr (Or.inr (Or.inr (Or.inl ⟨rfl, c8, (by rw [show x41.toInt = a3.toInt / 24 by omega] at hq49; unfold mOpen; first | exact ⟨by assumption, by assumption, by assumption⟩ | (rintro ⟨q1, q2, q3⟩; first | exact absurd q1 (by assumption) | exact absurd q2 (by assumption) | exact q3 (by assumption)))⟩))))⟩ hw dX12_isOpen_36
    · refine lv_if_eq (tgt := 35) hx hb dX12_isOpen_19 (by decide) (fun c => absurd c (by decide)) (fun _ => ?_)
      refine lv_aload_n hx hb dX12_isOpen_22 rfl (lv_at hl 0 rfl) ?_
      refine lv_iload_n hx hb dX12_isOpen_23 rfl (lv_at hl 1 rfl) ?_
      refine lv_iload_n hx hb dX12_isOpen_24 rfl (lv_at hl 3 rfl) ?_
      refine tk_Vi hC hK hw hT hA hE hSR kM_at0 (by decide) rfl (k_X12_isLifted_5 l adK adV dC dI cy ad B (by omega) (by omega) qr s1   a1 (show 0 ≤ a1.toInt by omega) (show a1.toInt ≤ 11 by omega) a3 (show 0 ≤ a3.toInt by omega) (show a3.toInt ≤ 1073741944 by omega) w0 H.size hT ) (cwV 2 hC.2.2.2.2 gX12_isOpen_X12_isLifted rfl rfl rfl (by decide +kernel) ⟨Nat.le_of_ble_eq_true rfl, Nat.le_of_ble_eq_true rfl⟩) rfl hl.1 rfl (Nat.le_of_ble_eq_true rfl) dX12_isOpen_25 (fun r62 w64 H locs hp63 hw => ?_)
      obtain ⟨rfl, hg70⟩ := hp63
      rcases hg70 with ⟨rfl, hq66⟩ | ⟨rfl, ⟨x67, c68, rx67, tx67⟩, hq69⟩
      · refine lv_if_ne (tgt := 35) hx hb dX12_isOpen_28 (by decide) (fun c => absurd (by decide) c) (fun _ => ?_)
        refine lv_iconst (v := 1) hx hb dX12_isOpen_31 (by decide) ?_
        refine lv_goto (tgt := 36) hx hb dX12_isOpen_32 (by decide) ?_
        exact tk_zret hC hr rfl hlocks hK ⟨rfl, (Or.inr (Or.inr (Or.inr (Or.inr (Or.inl ⟨rfl, c50, c8, (by rw [show x41.toInt = a3.toInt / 24 by omega] at hq51; unfold mOpen; first | exact ⟨by assumption, by assumption, by assumption⟩ | (rintro ⟨q1, q2, q3⟩; first | exact absurd q1 (by assumption) | exact absurd q2 (by assumption) | exact q3 (by assumption)))⟩)))))⟩ hw dX12_isOpen_36
      · refine lv_if_ne (tgt := 35) hx hb dX12_isOpen_28 (by decide) (fun _ => ?_) (fun c => absurd c (by decide))
        refine lv_iconst (v := 0) hx hb dX12_isOpen_35 (by decide) ?_
        exact tk_zret hC hr rfl hlocks hK ⟨rfl, (Or.inr (Or.inl ⟨rfl, c50, c8, (by rw [show x41.toInt = a3.toInt / 24 by omega] at hq51; unfold mOpen; first | exact ⟨by assumption, by assumption, by assumption⟩ | (rintro ⟨q1, q2, q3⟩; first | exact absurd q1 (by assumption) | exact absurd q2 (by assumption) | exact q3 (by assumption)))⟩))⟩ hw dX12_isOpen_36
abbrev P_X12_leads_1 (ad : Nat → Nat) (cy : Nat → ClassId) (B : Int) (qr : Nat) (s1 : Int) (a1 : Int32) (a2 : Int32) (a3 : Int32) (a4 : Int32) (a6 : Int32) (w0 : va_W) : va_W → Prop := fun u => TW ksM ad cy B qr 12 u ∧ FE ksM [(72, 0, 12), (73, 0, 10), (76, 0, 2600)] w0 u ∧ ((True))
set_option maxHeartbeats 4000000 in
set_option maxRecDepth 100000 in
theorem k_X12_leads_1 (l : Launch) (adK adV : Nat → Nat) (dC : Nat → ClassId) (dI : Nat → Nat → Nat) (cy : Nat → ClassId) (ad : Nat → Nat) (B : Int) (hB0 : 100000 ≤ B) (hB1 : B ≤ 1073741824) (qr : Nat) (s1 : Int)  (a1 : Int32) (ra1 : 0 ≤ a1.toInt) (ta1 : a1.toInt ≤ 3) (a2 : Int32) (ra2 : 0 ≤ a2.toInt) (ta2 : a2.toInt ≤ 1073741824) (a3 : Int32) (ra3 : 0 ≤ a3.toInt) (ta3 : a3.toInt ≤ 120) (a4 : Int32) (ra4 : 0 ≤ a4.toInt) (ta4 : a4.toInt ≤ 9) (a6 : Int32) (ra6 : 0 ≤ a6.toInt) (ta6 : a6.toInt ≤ 120) (w0 : va_W) (sz : Nat) (hT : TW ksM ad cy B qr 12 w0)  : Met l yX12_leads wsX12_leads ({ frames := 5, cells := 0, slots := 0, locals := 103 }) (va_Pc [.ref (ad 0), .int a1, .int a2, .int a3, .int a4, .int 0, .int a6] (wpreS adK adV dC dI cy sz w0)) (va_Qv (P_X12_leads_1 ad cy B qr s1 a1 a2 a3 a4 a6 w0) (fun u : va_W => wpost dC dI cy (va_A w0 sz) u) (va_A w0 sz)) 0 0 (va_A w0 sz) := by
  refine Met.ofW (cc := cX12_leads) (maxL := 12) (ret := none) (by decide) rfl ?_
  intro p e s m args below meth c s₁ Bk hml hv
  obtain ⟨rfl, ⟨hsz, hP, hK, hD0⟩, hE, hSR⟩ := hv
  have hx := Bk.exec
  have hb := Bk.bytes
  have hr := Bk.returns
  have hlocks := Bk.notSynchronized
  have hC : CallFix p m c cX12_leads 12 s _ wsX12_leads RX12 := ⟨hx, hb, hml, findClass_of_methodNamed Bk.named, atoms_spec (ws := wsX12_leads) Bk.pre⟩
  subst hsz
  have hD := hD0.self (sz := s.heap.size)
  generalize hAe : va_A w0 s.heap.size = A at hD hE ⊢
  have hA : ∀ q : Nat, s.heap.size ≤ q → A q := fun q h => by rw [← hAe]; exact Or.inr h
  have hw : Wd dC dI A s.heap s.heap [] w0 := ⟨hP, hD, va_S.rf⟩
  have hF : FE ksM [(72, 0, 12), (73, 0, 10), (76, 0, 2600)] w0 w0 := FE.rf
  have hl := lv_entry ([.ref (ad 0), .int a1, .int a2, .int a3, .int a4, .int 0, .int a6]) (n := 12) (Nat.le_of_ble_eq_true rfl)
  rw [lg_entry_eq]
  generalize (lg_sl ([.ref (ad 0), .int a1, .int a2, .int a3, .int a4, .int 0, .int a6]) ++ List.replicate (12 - (lg_sl ([.ref (ad 0), .int a1, .int a2, .int a3, .int a4, .int 0, .int a6])).length) Slot.unset).toArray = ls at hl ⊢
  have hl : lv_has ls 12 [(0, .ref (ad 0)), (1, .int a1), (2, .int a2), (3, .int a3), (4, .int a4), (5, .int 0), (6, .int a6)] := hl
  generalize hloc : ([] : List Loc) = locs at hw ⊢
  have hinX12 : ∀ w ∈ u_ws RX12 TX12 42, w ∈ wsX12_leads := fun _ h => List.mem_cons_of_mem _ (List.mem_append_right _ (h))
  have J41 : ∀ (v41_7 : Int32) (H : Heap) (locs : List Loc) (ls : Array Slot) (w1 : va_W), 0 ≤ a1.toInt → a1.toInt ≤ 3 → 0 ≤ a2.toInt → a2.toInt ≤ 1073741824 → 0 ≤ a3.toInt → a3.toInt ≤ 120 → 0 ≤ a4.toInt → a4.toInt ≤ 9 → 0 ≤ a6.toInt → a6.toInt ≤ 120 → Wd dC dI A s.heap H locs w1 → TW ksM ad cy B qr 12 w1 → FE ksM [(72, 0, 12), (73, 0, 10), (76, 0, 2600)] w0 w1 → lv_has ls 12 [(0, .ref (ad 0)), (1, .int a1), (2, .int a2), (3, .int a3), (4, .int a4), (5, .int 0), (6, .int a6), (7, .int v41_7)] → W p l e ({ frames := 5, cells := 0, slots := 0, locals := 103 }) s m (List.toArray [.ref (ad 0), .int a1, .int a2, .int a3, .int a4, .int 0, .int a6]) below meth c H locs 0 0 (MQ below (va_Qv (P_X12_leads_1 ad cy B qr s1 a1 a2 a3 a4 a6 w0) (fun u : va_W => wpost dC dI cy A u) A) (List.toArray [.ref (ad 0), .int a1, .int a2, .int a3, .int a4, .int 0, .int a6]) s 0 0 A) (F0 m 41 ls []) := by
    intro v41_7 H locs ls w1 r2 t3 r4 t5 r6 t7 r8 t9 r10 t11 hw hT hF hl
    exact tk_vret hC hr hlocks hK ⟨hT, hF, trivial⟩ hw dX12_leads_41
  have J181 : ∀ (v181_7 : Int32) (v181_8 : Int32) (v181_9 : Int32) (v181_10 : Int32) (f181_12__9_a1_toInt_217_toNat : Int32) (f181_12__9_a1_toInt_218_toNat : Int32) (H : Heap) (locs : List Loc) (ls : Array Slot) (w12 : va_W), 0 ≤ a1.toInt → a1.toInt ≤ 3 → 0 ≤ a2.toInt → a2.toInt ≤ 1073741824 → 0 ≤ a3.toInt → a3.toInt ≤ 120 → 0 ≤ a4.toInt → a4.toInt ≤ 9 → 0 ≤ a6.toInt → a6.toInt ≤ 120 → 0 ≤ v181_8.toInt → v181_8.toInt ≤ 1073741944 → 0 ≤ v181_9.toInt → v181_9.toInt ≤ 1 → (-1) ≤ v181_10.toInt → v181_10.toInt ≤ 11 → 0 ≤ f181_12__9_a1_toInt_217_toNat.toInt → f181_12__9_a1_toInt_217_toNat.toInt ≤ 9 → 0 ≤ f181_12__9_a1_toInt_218_toNat.toInt → f181_12__9_a1_toInt_218_toNat.toInt ≤ 3 → Wd dC dI A s.heap H locs w12 → TW ksM ad cy B qr 12 w12 → FE ksM [(72, 0, 12), (73, 0, 10), (76, 0, 2600)] w0 w12 → gi w12 12 (9 * a1.toInt + 217).toNat = f181_12__9_a1_toInt_217_toNat → gi w12 12 (9 * a1.toInt + 218).toNat = f181_12__9_a1_toInt_218_toNat → lv_has ls 12 [(0, .ref (ad 0)), (1, .int a1), (2, .int a2), (3, .int a3), (4, .int a4), (5, .int 0), (6, .int a6), (7, .int v181_7), (8, .int v181_8), (9, .int v181_9), (10, .int v181_10)] → W p l e ({ frames := 5, cells := 0, slots := 0, locals := 103 }) s m (List.toArray [.ref (ad 0), .int a1, .int a2, .int a3, .int a4, .int 0, .int a6]) below meth c H locs 0 0 (MQ below (va_Qv (P_X12_leads_1 ad cy B qr s1 a1 a2 a3 a4 a6 w0) (fun u : va_W => wpost dC dI cy A u) A) (List.toArray [.ref (ad 0), .int a1, .int a2, .int a3, .int a4, .int 0, .int a6]) s 0 0 A) (F0 m 181 ls []) := by
    intro v181_7 v181_8 v181_9 v181_10 f181_12__9_a1_toInt_217_toNat f181_12__9_a1_toInt_218_toNat H locs ls w12 r13 t14 r15 t16 r17 t18 r19 t20 r21 t22 r23 t24 r25 t26 r27 t28 r29 t30 r32 t33 hw hT hF c31 c34 hl
    exact tk_vret hC hr hlocks hK ⟨hT, hF, trivial⟩ hw dX12_leads_181
  have J241 : ∀ (v241_7 : Int32) (v241_8 : Int32) (v241_9 : Int32) (v241_10 : Int32) (v241_11 : Int32) (f241_12__9_a1_toInt_217_toNat : Int32) (f241_12__9_a1_toInt_218_toNat : Int32) (f241_12_1 : Int32) (H : Heap) (locs : List Loc) (ls : Array Slot) (w35 : va_W), 0 ≤ a1.toInt → a1.toInt ≤ 3 → 0 ≤ a2.toInt → a2.toInt ≤ 1073741824 → 0 ≤ a3.toInt → a3.toInt ≤ 120 → 0 ≤ a4.toInt → a4.toInt ≤ 9 → 0 ≤ a6.toInt → a6.toInt ≤ 120 → 0 ≤ v241_8.toInt → v241_8.toInt ≤ 1073741944 → 0 ≤ v241_9.toInt → v241_9.toInt ≤ 1 → 0 ≤ v241_10.toInt → v241_10.toInt ≤ 11 → 0 ≤ v241_11.toInt → v241_11.toInt ≤ 129 → 0 ≤ f241_12__9_a1_toInt_217_toNat.toInt → f241_12__9_a1_toInt_217_toNat.toInt ≤ 9 → 0 ≤ f241_12__9_a1_toInt_218_toNat.toInt → f241_12__9_a1_toInt_218_toNat.toInt ≤ 3 → 1 ≤ f241_12_1.toInt → f241_12_1.toInt ≤ 12 → Wd dC dI A s.heap H locs w35 → TW ksM ad cy B qr 12 w35 → FE ksM [(72, 0, 12), (73, 0, 10), (76, 0, 2600)] w0 w35 → gi w35 12 (9 * a1.toInt + 217).toNat = f241_12__9_a1_toInt_217_toNat → gi w35 12 (9 * a1.toInt + 218).toNat = f241_12__9_a1_toInt_218_toNat → gi w35 12 1 = f241_12_1 → lv_has ls 12 [(0, .ref (ad 0)), (1, .int a1), (2, .int a2), (3, .int a3), (4, .int a4), (5, .int 0), (6, .int a6), (7, .int v241_7), (8, .int v241_8), (9, .int v241_9), (10, .int v241_10), (11, .int v241_11)] → W p l e ({ frames := 5, cells := 0, slots := 0, locals := 103 }) s m (List.toArray [.ref (ad 0), .int a1, .int a2, .int a3, .int a4, .int 0, .int a6]) below meth c H locs 0 0 (MQ below (va_Qv (P_X12_leads_1 ad cy B qr s1 a1 a2 a3 a4 a6 w0) (fun u : va_W => wpost dC dI cy A u) A) (List.toArray [.ref (ad 0), .int a1, .int a2, .int a3, .int a4, .int 0, .int a6]) s 0 0 A) (F0 m 241 ls []) := by
    intro v241_7 v241_8 v241_9 v241_10 v241_11 f241_12__9_a1_toInt_217_toNat f241_12__9_a1_toInt_218_toNat f241_12_1 H locs ls w35 r36 t37 r38 t39 r40 t41 r42 t43 r44 t45 r46 t47 r48 t49 r50 t51 r52 t53 r54 t55 r57 t58 r60 t61 hw hT hF c56 c59 c62 hl
    exact tk_vret hC hr hlocks hK ⟨hT, hF, trivial⟩ hw dX12_leads_241
  have J145 : ∀ (v145_7 : Int32) (v145_8 : Int32) (v145_9 : Int32) (f145_12__9_a1_toInt_217_toNat : Int32) (f145_12__9_a1_toInt_218_toNat : Int32) (H : Heap) (locs : List Loc) (ls : Array Slot) (w63 : va_W), 0 ≤ a1.toInt → a1.toInt ≤ 3 → 0 ≤ a2.toInt → a2.toInt ≤ 1073741824 → 0 ≤ a3.toInt → a3.toInt ≤ 120 → 0 ≤ a4.toInt → a4.toInt ≤ 9 → 0 ≤ a6.toInt → a6.toInt ≤ 120 → 0 ≤ v145_8.toInt → v145_8.toInt ≤ 1073741944 → 0 ≤ v145_9.toInt → v145_9.toInt ≤ 1 → 0 ≤ f145_12__9_a1_toInt_217_toNat.toInt → f145_12__9_a1_toInt_217_toNat.toInt ≤ 9 → 0 ≤ f145_12__9_a1_toInt_218_toNat.toInt → f145_12__9_a1_toInt_218_toNat.toInt ≤ 3 → Wd dC dI A s.heap H locs w63 → TW ksM ad cy B qr 12 w63 → FE ksM [(72, 0, 12), (73, 0, 10), (76, 0, 2600)] w0 w63 → gi w63 12 (9 * a1.toInt + 217).toNat = f145_12__9_a1_toInt_217_toNat → gi w63 12 (9 * a1.toInt + 218).toNat = f145_12__9_a1_toInt_218_toNat → lv_has ls 12 [(0, .ref (ad 0)), (1, .int a1), (2, .int a2), (3, .int a3), (4, .int a4), (5, .int 0), (6, .int a6), (7, .int v145_7), (8, .int v145_8), (9, .int v145_9)] → W p l e ({ frames := 5, cells := 0, slots := 0, locals := 103 }) s m (List.toArray [.ref (ad 0), .int a1, .int a2, .int a3, .int a4, .int 0, .int a6]) below meth c H locs 0 0 (MQ below (va_Qv (P_X12_leads_1 ad cy B qr s1 a1 a2 a3 a4 a6 w0) (fun u : va_W => wpost dC dI cy A u) A) (List.toArray [.ref (ad 0), .int a1, .int a2, .int a3, .int a4, .int 0, .int a6]) s 0 0 A) (F0 m 145 ls []) := by
    intro v145_7 v145_8 v145_9 f145_12__9_a1_toInt_217_toNat f145_12__9_a1_toInt_218_toNat H locs ls w63 r64 t65 r66 t67 r68 t69 r70 t71 r72 t73 r74 t75 r76 t77 r78 t79 r81 t82 hw hT hF c80 c83 hl
    refine lv_aload_n hx hb dX12_leads_145 rfl (lv_at hl 0 rfl) ?_
    refine lv_aload_n hx hb dX12_leads_146 rfl (lv_at hl 0 rfl) ?_
    refine lv_iload_n hx hb dX12_leads_147 rfl (lv_at hl 1 rfl) ?_
    refine lv_iconst (v := 1) hx hb dX12_leads_148 (by decide) ?_
    refine tk_Vi hC hK hw hT hA hE hSR kM_at0 (by decide) rfl (k_X12_walkerOf_3 l adK adV dC dI cy ad B (by omega) (by omega) qr s1   a1 (show 0 ≤ a1.toInt by omega) (show a1.toInt ≤ 3 by omega) w63 H.size hT ) (cwV 2 hC.2.2.2.2 gX12_leads_X12_walkerOf rfl rfl rfl (by decide +kernel) ⟨Nat.le_of_ble_eq_true rfl, Nat.le_of_ble_eq_true rfl⟩) rfl hl.1 rfl (Nat.le_of_ble_eq_true rfl) dX12_leads_149 (fun r84 w86 H locs hp85 hw => ?_)
    obtain ⟨rfl, hg91⟩ := hp85
    obtain ⟨g88, g89, c90⟩ := hg91
    obtain rfl : f145_12__9_a1_toInt_217_toNat = r84 := c80.symm.trans c90
    refine tk_Vv hC hK hw hT hA hE hSR kM_at0 (by decide) rfl (k_X12_spreads_1 l adK adV dC dI cy ad B (by omega) (by omega) qr s1   f145_12__9_a1_toInt_217_toNat (show 0 ≤ f145_12__9_a1_toInt_217_toNat.toInt by omega) (show f145_12__9_a1_toInt_217_toNat.toInt ≤ 9 by omega) w63 H.size hT ) (cwV 1 hC.2.2.2.2 gX12_leads_X12_spreads rfl rfl rfl (by decide +kernel) ⟨Nat.le_of_ble_eq_true rfl, Nat.le_of_ble_eq_true rfl⟩) rfl hl.1 rfl (Nat.le_of_ble_eq_true rfl) dX12_leads_152 (fun w94 H locs hp93 hw => ?_)
    obtain ⟨hT, k95, hg96⟩ := hp93
    have hF := hF.tr k95 (by decide)
    have c97 := k95.gi kM_at12 rfl c80
    have c98 := k95.gi kM_at12 rfl c83
    clear hg96
    refine lv_aload_n hx hb dX12_leads_155 rfl (lv_at hl 0 rfl) ?_
    refine lv_iload hx hb dX12_leads_156 (lv_at hl 4 rfl) ?_
    refine tk_Vi hC hK hw hT hA hE hSR kM_at0 (by decide) rfl (k_X12_streetFrom_1 l adK adV dC dI cy ad B (by omega) (by omega) qr s1   a4 (show 0 ≤ a4.toInt by omega) (show a4.toInt ≤ 9 by omega) w94 H.size hT ) (cwV 1 hC.2.2.2.2 gX12_leads_X12_streetFrom rfl rfl rfl (by decide +kernel) ⟨Nat.le_of_ble_eq_true rfl, Nat.le_of_ble_eq_true rfl⟩) rfl hl.1 rfl (Nat.le_of_ble_eq_true rfl) dX12_leads_158 (fun r99 w101 H locs hp100 hw => ?_)
    obtain ⟨rfl, hg119⟩ := hp100
    rcases hg119 with ⟨g103, g104, ⟨x105, c106, rx105, tx105⟩, c107, c108⟩ | ⟨g109, g110, ⟨x111, c112, rx111, tx111⟩, c113⟩ | ⟨g114, g115, ⟨x116, c117, rx116, tx116⟩, c118⟩ | rfl
    · refine lv_istore (lv' := [(10, .int r99), (0, .ref (ad 0)), (1, .int a1), (2, .int a2), (3, .int a3), (4, .int a4), (5, .int 0), (6, .int a6), (7, .int v145_7), (8, .int v145_8), (9, .int v145_9)]) hx hb dX12_leads_161 hl (by decide) rfl (fun ls hl => ?_)
      refine lv_iload hx hb dX12_leads_163 (lv_at hl 0 rfl) ?_
      refine lv_if_lt (tgt := 181) hx hb dX12_leads_165 (by decide) (fun c => absurd c (fun h => absurd (show r99.toInt < (0 : Int) from wk_lt.mp h) (by omega))) (fun _ => ?_)
      refine lv_aload_n hx hb dX12_leads_168 rfl (lv_at hl 1 rfl) ?_
      refine lv_iload hx hb dX12_leads_169 (lv_at hl 0 rfl) ?_
      refine lv_iload hx hb dX12_leads_171 (lv_at hl 5 rfl) ?_
      refine lv_iload hx hb dX12_leads_173 (lv_at hl 9 rfl) ?_
      refine tk_Vi hC hK hw hT hA hE hSR kM_at0 (by decide) rfl (k_X12_isOpen_3 l adK adV dC dI cy ad B (by omega) (by omega) qr s1   r99 (show 0 ≤ r99.toInt by omega) (show r99.toInt ≤ 11 by omega) a4 (show 0 ≤ a4.toInt by omega) (show a4.toInt ≤ 9 by omega) v145_8 (show 0 ≤ v145_8.toInt by omega) (show v145_8.toInt ≤ 1073741944 by omega) w94 H.size hT ) (cwV 3 hC.2.2.2.2 gX12_leads_X12_isOpen rfl rfl rfl (by decide +kernel) ⟨Nat.le_of_ble_eq_true rfl, Nat.le_of_ble_eq_true rfl⟩) rfl hl.1 rfl (Nat.le_of_ble_eq_true rfl) dX12_leads_175 (fun r120 w122 H locs hp121 hw => ?_)
      obtain ⟨rfl, hg139⟩ := hp121
      rcases hg139 with ⟨rfl, hq124⟩ | ⟨rfl, c125, c126, hq127⟩ | ⟨rfl, c128, hq129⟩ | ⟨rfl, c130, hq131⟩ | ⟨rfl, c132, c133, hq134⟩ | ⟨rfl, c135, hq136⟩ | ⟨rfl, c137, hq138⟩
      · refine lv_if_ne (tgt := 182) hx hb dX12_leads_178 (by decide) (fun c => absurd (by decide) c) (fun _ => ?_)
        exact J181 v145_7 v145_8 v145_9 r99 f145_12__9_a1_toInt_217_toNat f145_12__9_a1_toInt_218_toNat H locs ls w94 (show 0 ≤ a1.toInt by omega) (show a1.toInt ≤ 3 by omega) (show 0 ≤ a2.toInt by omega) (show a2.toInt ≤ 1073741824 by omega) (show 0 ≤ a3.toInt by omega) (show a3.toInt ≤ 120 by omega) (show 0 ≤ a4.toInt by omega) (show a4.toInt ≤ 9 by omega) (show 0 ≤ a6.toInt by omega) (show a6.toInt ≤ 120 by omega) (show 0 ≤ v145_8.toInt by omega) (show v145_8.toInt ≤ 1073741944 by omega) (show 0 ≤ v145_9.toInt by omega) (show v145_9.toInt ≤ 1 by omega) (show (-1) ≤ r99.toInt by omega) (show r99.toInt ≤ 11 by omega) (show 0 ≤ f145_12__9_a1_toInt_217_toNat.toInt by omega) (show f145_12__9_a1_toInt_217_toNat.toInt ≤ 9 by omega) (show 0 ≤ f145_12__9_a1_toInt_218_toNat.toInt by omega) (show f145_12__9_a1_toInt_218_toNat.toInt ≤ 3 by omega)  hw hT hF c97 c98 (lv_sub hl [1, 2, 3, 4, 5, 6, 7, 8, 9, 10, 0] rfl)
      · refine lv_if_ne (tgt := 182) hx hb dX12_leads_178 (by decide) (fun c => absurd (by decide) c) (fun _ => ?_)
        exact J181 v145_7 v145_8 v145_9 r99 f145_12__9_a1_toInt_217_toNat f145_12__9_a1_toInt_218_toNat H locs ls w94 (show 0 ≤ a1.toInt by omega) (show a1.toInt ≤ 3 by omega) (show 0 ≤ a2.toInt by omega) (show a2.toInt ≤ 1073741824 by omega) (show 0 ≤ a3.toInt by omega) (show a3.toInt ≤ 120 by omega) (show 0 ≤ a4.toInt by omega) (show a4.toInt ≤ 9 by omega) (show 0 ≤ a6.toInt by omega) (show a6.toInt ≤ 120 by omega) (show 0 ≤ v145_8.toInt by omega) (show v145_8.toInt ≤ 1073741944 by omega) (show 0 ≤ v145_9.toInt by omega) (show v145_9.toInt ≤ 1 by omega) (show (-1) ≤ r99.toInt by omega) (show r99.toInt ≤ 11 by omega) (show 0 ≤ f145_12__9_a1_toInt_217_toNat.toInt by omega) (show f145_12__9_a1_toInt_217_toNat.toInt ≤ 9 by omega) (show 0 ≤ f145_12__9_a1_toInt_218_toNat.toInt by omega) (show f145_12__9_a1_toInt_218_toNat.toInt ≤ 3 by omega)  hw hT hF c97 c98 (lv_sub hl [1, 2, 3, 4, 5, 6, 7, 8, 9, 10, 0] rfl)
      · refine lv_if_ne (tgt := 182) hx hb dX12_leads_178 (by decide) (fun c => absurd (by decide) c) (fun _ => ?_)
        exact J181 v145_7 v145_8 v145_9 r99 f145_12__9_a1_toInt_217_toNat f145_12__9_a1_toInt_218_toNat H locs ls w94 (show 0 ≤ a1.toInt by omega) (show a1.toInt ≤ 3 by omega) (show 0 ≤ a2.toInt by omega) (show a2.toInt ≤ 1073741824 by omega) (show 0 ≤ a3.toInt by omega) (show a3.toInt ≤ 120 by omega) (show 0 ≤ a4.toInt by omega) (show a4.toInt ≤ 9 by omega) (show 0 ≤ a6.toInt by omega) (show a6.toInt ≤ 120 by omega) (show 0 ≤ v145_8.toInt by omega) (show v145_8.toInt ≤ 1073741944 by omega) (show 0 ≤ v145_9.toInt by omega) (show v145_9.toInt ≤ 1 by omega) (show (-1) ≤ r99.toInt by omega) (show r99.toInt ≤ 11 by omega) (show 0 ≤ f145_12__9_a1_toInt_217_toNat.toInt by omega) (show f145_12__9_a1_toInt_217_toNat.toInt ≤ 9 by omega) (show 0 ≤ f145_12__9_a1_toInt_218_toNat.toInt by omega) (show f145_12__9_a1_toInt_218_toNat.toInt ≤ 3 by omega)  hw hT hF c97 c98 (lv_sub hl [1, 2, 3, 4, 5, 6, 7, 8, 9, 10, 0] rfl)
      · refine lv_if_ne (tgt := 182) hx hb dX12_leads_178 (by decide) (fun c => absurd (by decide) c) (fun _ => ?_)
        exact J181 v145_7 v145_8 v145_9 r99 f145_12__9_a1_toInt_217_toNat f145_12__9_a1_toInt_218_toNat H locs ls w94 (show 0 ≤ a1.toInt by omega) (show a1.toInt ≤ 3 by omega) (show 0 ≤ a2.toInt by omega) (show a2.toInt ≤ 1073741824 by omega) (show 0 ≤ a3.toInt by omega) (show a3.toInt ≤ 120 by omega) (show 0 ≤ a4.toInt by omega) (show a4.toInt ≤ 9 by omega) (show 0 ≤ a6.toInt by omega) (show a6.toInt ≤ 120 by omega) (show 0 ≤ v145_8.toInt by omega) (show v145_8.toInt ≤ 1073741944 by omega) (show 0 ≤ v145_9.toInt by omega) (show v145_9.toInt ≤ 1 by omega) (show (-1) ≤ r99.toInt by omega) (show r99.toInt ≤ 11 by omega) (show 0 ≤ f145_12__9_a1_toInt_217_toNat.toInt by omega) (show f145_12__9_a1_toInt_217_toNat.toInt ≤ 9 by omega) (show 0 ≤ f145_12__9_a1_toInt_218_toNat.toInt by omega) (show f145_12__9_a1_toInt_218_toNat.toInt ≤ 3 by omega)  hw hT hF c97 c98 (lv_sub hl [1, 2, 3, 4, 5, 6, 7, 8, 9, 10, 0] rfl)
      · refine lv_if_ne (tgt := 182) hx hb dX12_leads_178 (by decide) (fun _ => ?_) (fun c => absurd c (by decide))
        refine lv_iload_n hx hb dX12_leads_182 rfl (lv_at hl 4 rfl) ?_
        refine lv_aload_n hx hb dX12_leads_183 rfl (lv_at hl 1 rfl) ?_
        refine lv_iload hx hb dX12_leads_184 (lv_at hl 0 rfl) ?_
        refine lv_iconst (v := 2) hx hb dX12_leads_186 (by decide) ?_
        refine tk_Vi hC hK hw hT hA hE hSR kM_at0 (by decide) rfl (k_X12_streetOf_6 l adK adV dC dI cy ad B (by omega) (by omega) qr s1   r99 (show 0 ≤ r99.toInt by omega) (show r99.toInt ≤ 11 by omega) w94 H.size hT ) (cwV 2 hC.2.2.2.2 gX12_leads_X12_streetOf rfl rfl rfl (by decide +kernel) ⟨Nat.le_of_ble_eq_true rfl, Nat.le_of_ble_eq_true rfl⟩) rfl hl.1 rfl (Nat.le_of_ble_eq_true rfl) dX12_leads_187 (fun r140 w142 H locs hp141 hw => ?_)
        obtain ⟨rfl, hg147⟩ := hp141
        obtain ⟨g144, g145, c146⟩ := hg147
        refine lv_iadd hx hb dX12_leads_190 ?_
        refine lv_topi (fun x148 ex148 => ?_)
        have ex148 : x148.toInt = a3.toInt + r140.toInt := by rw [ex148]; exact wk_add (show (-2147483648) ≤ a3.toInt + r140.toInt by omega) (show a3.toInt + r140.toInt ≤ 2147483647 by omega)
        refine lv_istore (lv' := [(11, .int x148), (10, .int r99), (0, .ref (ad 0)), (1, .int a1), (2, .int a2), (3, .int a3), (4, .int a4), (5, .int 0), (6, .int a6), (7, .int v145_7), (8, .int v145_8), (9, .int v145_9)]) hx hb dX12_leads_191 hl (by decide) rfl (fun ls hl => ?_)
        refine lv_iload hx hb dX12_leads_193 (lv_at hl 0 rfl) ?_
        refine lv_iload hx hb dX12_leads_195 (lv_at hl 8 rfl) ?_
        refine lv_icmp_gt (tgt := 241) hx hb dX12_leads_197 (by decide) (fun c149 => ?_) (fun c149 => ?_)
        · have c149 : a6.toInt < x148.toInt := wk_lt.mp c149
          exact J241 v145_7 v145_8 v145_9 r99 x148 f145_12__9_a1_toInt_217_toNat f145_12__9_a1_toInt_218_toNat x105 H locs ls w94 (show 0 ≤ a1.toInt by omega) (show a1.toInt ≤ 3 by omega) (show 0 ≤ a2.toInt by omega) (show a2.toInt ≤ 1073741824 by omega) (show 0 ≤ a3.toInt by omega) (show a3.toInt ≤ 120 by omega) (show 0 ≤ a4.toInt by omega) (show a4.toInt ≤ 9 by omega) (show 0 ≤ a6.toInt by omega) (show a6.toInt ≤ 120 by omega) (show 0 ≤ v145_8.toInt by omega) (show v145_8.toInt ≤ 1073741944 by omega) (show 0 ≤ v145_9.toInt by omega) (show v145_9.toInt ≤ 1 by omega) (show 0 ≤ r99.toInt by omega) (show r99.toInt ≤ 11 by omega) (show 0 ≤ x148.toInt by omega) (show x148.toInt ≤ 129 by omega) (show 0 ≤ f145_12__9_a1_toInt_217_toNat.toInt by omega) (show f145_12__9_a1_toInt_217_toNat.toInt ≤ 9 by omega) (show 0 ≤ f145_12__9_a1_toInt_218_toNat.toInt by omega) (show f145_12__9_a1_toInt_218_toNat.toInt ≤ 3 by omega) (show 1 ≤ x105.toInt by omega) (show x105.toInt ≤ 12 by omega)  hw hT hF c97 c98 c106 (lv_sub hl [2, 3, 4, 5, 6, 7, 8, 9, 10, 11, 1, 0] rfl)
        · have c149 : x148.toInt ≤ a6.toInt := wk_ltF c149
          refine lv_aload_n hx hb dX12_leads_200 rfl (lv_at hl 2 rfl) ?_
          refine lv_iload hx hb dX12_leads_201 (lv_at hl 0 rfl) ?_
          refine lv_aload_n hx hb dX12_leads_203 rfl (lv_at hl 2 rfl) ?_
          refine lv_iload hx hb dX12_leads_204 (lv_at hl 1 rfl) ?_
          refine lv_iload hx hb dX12_leads_206 (lv_at hl 6 rfl) ?_
          refine tk_Vi hC hK hw hT hA hE hSR kM_at0 (by decide) rfl (k_X12_otherOf_1 l adK adV dC dI cy ad B (by omega) (by omega) qr s1   r99 (show 0 ≤ r99.toInt by omega) (show r99.toInt ≤ 11 by omega) a4 (show 0 ≤ a4.toInt by omega) (show a4.toInt ≤ 9 by omega) w94 H.size hT ) (cwV 2 hC.2.2.2.2 gX12_leads_X12_otherOf rfl rfl rfl (by decide +kernel) ⟨Nat.le_of_ble_eq_true rfl, Nat.le_of_ble_eq_true rfl⟩) rfl hl.1 rfl (Nat.le_of_ble_eq_true rfl) dX12_leads_208 (fun r150 w152 H locs hp151 hw => ?_)
          obtain ⟨rfl, hg159⟩ := hp151
          rcases hg159 with ⟨g154, g155⟩ | ⟨g156, g157, c158⟩
          · refine lv_iload hx hb dX12_leads_211 (lv_at hl 7 rfl) ?_
            refine lv_if_eq (tgt := 235) hx hb dX12_leads_213 (by decide) (fun _ => ?_) (fun c => absurd (by decide) c)
            refine lv_iconst (v := 0) hx hb dX12_leads_235 (by decide) ?_
            refine lv_iload hx hb dX12_leads_236 (lv_at hl 9 rfl) ?_
            refine tk_Vv hC hK hw hT hA hE hSR kM_at0 (by decide) rfl (k_X12_could_3 l adK adV dC dI cy ad B (by omega) (by omega) qr s1   x148 (show 0 ≤ x148.toInt by omega) (show x148.toInt ≤ 120 by omega) r150 (show 0 ≤ r150.toInt by omega) (show r150.toInt ≤ 9 by omega) v145_7 w94 H.size hT ) (cwV 4 hC.2.2.2.2 gX12_leads_X12_could rfl rfl rfl (by decide +kernel) ⟨Nat.le_of_ble_eq_true rfl, Nat.le_of_ble_eq_true rfl⟩) rfl hl.1 rfl (Nat.le_of_ble_eq_true rfl) dX12_leads_238 (fun w162 H locs hp161 hw => ?_)
            obtain ⟨hT, k163, hg164⟩ := hp161
            have hF := hF.tr k163 (by decide)
            have c165 := k163.gi kM_at12 rfl c97
            have c166 := k163.gi kM_at12 rfl c98
            have c167 := k163.gi kM_at12 (by decide) c106
            have c168 := k163.gi kM_at12 rfl c107
            have c169 := k163.gi kM_at12 rfl c108
            have c170 := k163.gi kM_at12 rfl c146
            clear hg164
            exact J241 v145_7 v145_8 v145_9 r99 x148 f145_12__9_a1_toInt_217_toNat f145_12__9_a1_toInt_218_toNat x105 H locs ls w162 (show 0 ≤ a1.toInt by omega) (show a1.toInt ≤ 3 by omega) (show 0 ≤ a2.toInt by omega) (show a2.toInt ≤ 1073741824 by omega) (show 0 ≤ a3.toInt by omega) (show a3.toInt ≤ 120 by omega) (show 0 ≤ a4.toInt by omega) (show a4.toInt ≤ 9 by omega) (show 0 ≤ a6.toInt by omega) (show a6.toInt ≤ 120 by omega) (show 0 ≤ v145_8.toInt by omega) (show v145_8.toInt ≤ 1073741944 by omega) (show 0 ≤ v145_9.toInt by omega) (show v145_9.toInt ≤ 1 by omega) (show 0 ≤ r99.toInt by omega) (show r99.toInt ≤ 11 by omega) (show 0 ≤ x148.toInt by omega) (show x148.toInt ≤ 129 by omega) (show 0 ≤ f145_12__9_a1_toInt_217_toNat.toInt by omega) (show f145_12__9_a1_toInt_217_toNat.toInt ≤ 9 by omega) (show 0 ≤ f145_12__9_a1_toInt_218_toNat.toInt by omega) (show f145_12__9_a1_toInt_218_toNat.toInt ≤ 3 by omega) (show 1 ≤ x105.toInt by omega) (show x105.toInt ≤ 12 by omega)  hw hT hF c165 c166 c167 (lv_sub hl [2, 3, 4, 5, 6, 7, 8, 9, 10, 11, 1, 0] rfl)
          · refine lv_iload hx hb dX12_leads_211 (lv_at hl 7 rfl) ?_
            refine lv_if_eq (tgt := 235) hx hb dX12_leads_213 (by decide) (fun _ => ?_) (fun c => absurd (by decide) c)
            refine lv_iconst (v := 0) hx hb dX12_leads_235 (by decide) ?_
            refine lv_iload hx hb dX12_leads_236 (lv_at hl 9 rfl) ?_
            refine tk_Vv hC hK hw hT hA hE hSR kM_at0 (by decide) rfl (k_X12_could_3 l adK adV dC dI cy ad B (by omega) (by omega) qr s1   x148 (show 0 ≤ x148.toInt by omega) (show x148.toInt ≤ 120 by omega) r150 (show 0 ≤ r150.toInt by omega) (show r150.toInt ≤ 9 by omega) v145_7 w94 H.size hT ) (cwV 4 hC.2.2.2.2 gX12_leads_X12_could rfl rfl rfl (by decide +kernel) ⟨Nat.le_of_ble_eq_true rfl, Nat.le_of_ble_eq_true rfl⟩) rfl hl.1 rfl (Nat.le_of_ble_eq_true rfl) dX12_leads_238 (fun w173 H locs hp172 hw => ?_)
            obtain ⟨hT, k174, hg175⟩ := hp172
            have hF := hF.tr k174 (by decide)
            have c176 := k174.gi kM_at12 rfl c97
            have c177 := k174.gi kM_at12 rfl c98
            have c178 := k174.gi kM_at12 (by decide) c106
            have c179 := k174.gi kM_at12 rfl c107
            have c180 := k174.gi kM_at12 rfl c108
            have c181 := k174.gi kM_at12 rfl c146
            clear hg175
            exact J241 v145_7 v145_8 v145_9 r99 x148 f145_12__9_a1_toInt_217_toNat f145_12__9_a1_toInt_218_toNat x105 H locs ls w173 (show 0 ≤ a1.toInt by omega) (show a1.toInt ≤ 3 by omega) (show 0 ≤ a2.toInt by omega) (show a2.toInt ≤ 1073741824 by omega) (show 0 ≤ a3.toInt by omega) (show a3.toInt ≤ 120 by omega) (show 0 ≤ a4.toInt by omega) (show a4.toInt ≤ 9 by omega) (show 0 ≤ a6.toInt by omega) (show a6.toInt ≤ 120 by omega) (show 0 ≤ v145_8.toInt by omega) (show v145_8.toInt ≤ 1073741944 by omega) (show 0 ≤ v145_9.toInt by omega) (show v145_9.toInt ≤ 1 by omega) (show 0 ≤ r99.toInt by omega) (show r99.toInt ≤ 11 by omega) (show 0 ≤ x148.toInt by omega) (show x148.toInt ≤ 129 by omega) (show 0 ≤ f145_12__9_a1_toInt_217_toNat.toInt by omega) (show f145_12__9_a1_toInt_217_toNat.toInt ≤ 9 by omega) (show 0 ≤ f145_12__9_a1_toInt_218_toNat.toInt by omega) (show f145_12__9_a1_toInt_218_toNat.toInt ≤ 3 by omega) (show 1 ≤ x105.toInt by omega) (show x105.toInt ≤ 12 by omega)  hw hT hF c176 c177 c178 (lv_sub hl [2, 3, 4, 5, 6, 7, 8, 9, 10, 11, 1, 0] rfl)
      · refine lv_if_ne (tgt := 182) hx hb dX12_leads_178 (by decide) (fun _ => ?_) (fun c => absurd c (by decide))
        refine lv_iload_n hx hb dX12_leads_182 rfl (lv_at hl 4 rfl) ?_
        refine lv_aload_n hx hb dX12_leads_183 rfl (lv_at hl 1 rfl) ?_
        refine lv_iload hx hb dX12_leads_184 (lv_at hl 0 rfl) ?_
        refine lv_iconst (v := 2) hx hb dX12_leads_186 (by decide) ?_
        refine tk_Vi hC hK hw hT hA hE hSR kM_at0 (by decide) rfl (k_X12_streetOf_6 l adK adV dC dI cy ad B (by omega) (by omega) qr s1   r99 (show 0 ≤ r99.toInt by omega) (show r99.toInt ≤ 11 by omega) w94 H.size hT ) (cwV 2 hC.2.2.2.2 gX12_leads_X12_streetOf rfl rfl rfl (by decide +kernel) ⟨Nat.le_of_ble_eq_true rfl, Nat.le_of_ble_eq_true rfl⟩) rfl hl.1 rfl (Nat.le_of_ble_eq_true rfl) dX12_leads_187 (fun r182 w184 H locs hp183 hw => ?_)
        obtain ⟨rfl, hg189⟩ := hp183
        obtain ⟨g186, g187, c188⟩ := hg189
        refine lv_iadd hx hb dX12_leads_190 ?_
        refine lv_topi (fun x190 ex190 => ?_)
        have ex190 : x190.toInt = a3.toInt + r182.toInt := by rw [ex190]; exact wk_add (show (-2147483648) ≤ a3.toInt + r182.toInt by omega) (show a3.toInt + r182.toInt ≤ 2147483647 by omega)
        refine lv_istore (lv' := [(11, .int x190), (10, .int r99), (0, .ref (ad 0)), (1, .int a1), (2, .int a2), (3, .int a3), (4, .int a4), (5, .int 0), (6, .int a6), (7, .int v145_7), (8, .int v145_8), (9, .int v145_9)]) hx hb dX12_leads_191 hl (by decide) rfl (fun ls hl => ?_)
        refine lv_iload hx hb dX12_leads_193 (lv_at hl 0 rfl) ?_
        refine lv_iload hx hb dX12_leads_195 (lv_at hl 8 rfl) ?_
        refine lv_icmp_gt (tgt := 241) hx hb dX12_leads_197 (by decide) (fun c191 => ?_) (fun c191 => ?_)
        · have c191 : a6.toInt < x190.toInt := wk_lt.mp c191
          exact J241 v145_7 v145_8 v145_9 r99 x190 f145_12__9_a1_toInt_217_toNat f145_12__9_a1_toInt_218_toNat x105 H locs ls w94 (show 0 ≤ a1.toInt by omega) (show a1.toInt ≤ 3 by omega) (show 0 ≤ a2.toInt by omega) (show a2.toInt ≤ 1073741824 by omega) (show 0 ≤ a3.toInt by omega) (show a3.toInt ≤ 120 by omega) (show 0 ≤ a4.toInt by omega) (show a4.toInt ≤ 9 by omega) (show 0 ≤ a6.toInt by omega) (show a6.toInt ≤ 120 by omega) (show 0 ≤ v145_8.toInt by omega) (show v145_8.toInt ≤ 1073741944 by omega) (show 0 ≤ v145_9.toInt by omega) (show v145_9.toInt ≤ 1 by omega) (show 0 ≤ r99.toInt by omega) (show r99.toInt ≤ 11 by omega) (show 0 ≤ x190.toInt by omega) (show x190.toInt ≤ 129 by omega) (show 0 ≤ f145_12__9_a1_toInt_217_toNat.toInt by omega) (show f145_12__9_a1_toInt_217_toNat.toInt ≤ 9 by omega) (show 0 ≤ f145_12__9_a1_toInt_218_toNat.toInt by omega) (show f145_12__9_a1_toInt_218_toNat.toInt ≤ 3 by omega) (show 1 ≤ x105.toInt by omega) (show x105.toInt ≤ 12 by omega)  hw hT hF c97 c98 c106 (lv_sub hl [2, 3, 4, 5, 6, 7, 8, 9, 10, 11, 1, 0] rfl)
        · have c191 : x190.toInt ≤ a6.toInt := wk_ltF c191
          refine lv_aload_n hx hb dX12_leads_200 rfl (lv_at hl 2 rfl) ?_
          refine lv_iload hx hb dX12_leads_201 (lv_at hl 0 rfl) ?_
          refine lv_aload_n hx hb dX12_leads_203 rfl (lv_at hl 2 rfl) ?_
          refine lv_iload hx hb dX12_leads_204 (lv_at hl 1 rfl) ?_
          refine lv_iload hx hb dX12_leads_206 (lv_at hl 6 rfl) ?_
          refine tk_Vi hC hK hw hT hA hE hSR kM_at0 (by decide) rfl (k_X12_otherOf_1 l adK adV dC dI cy ad B (by omega) (by omega) qr s1   r99 (show 0 ≤ r99.toInt by omega) (show r99.toInt ≤ 11 by omega) a4 (show 0 ≤ a4.toInt by omega) (show a4.toInt ≤ 9 by omega) w94 H.size hT ) (cwV 2 hC.2.2.2.2 gX12_leads_X12_otherOf rfl rfl rfl (by decide +kernel) ⟨Nat.le_of_ble_eq_true rfl, Nat.le_of_ble_eq_true rfl⟩) rfl hl.1 rfl (Nat.le_of_ble_eq_true rfl) dX12_leads_208 (fun r192 w194 H locs hp193 hw => ?_)
          obtain ⟨rfl, hg201⟩ := hp193
          rcases hg201 with ⟨g196, g197⟩ | ⟨g198, g199, c200⟩
          · refine lv_iload hx hb dX12_leads_211 (lv_at hl 7 rfl) ?_
            refine lv_if_eq (tgt := 235) hx hb dX12_leads_213 (by decide) (fun _ => ?_) (fun c => absurd (by decide) c)
            refine lv_iconst (v := 0) hx hb dX12_leads_235 (by decide) ?_
            refine lv_iload hx hb dX12_leads_236 (lv_at hl 9 rfl) ?_
            refine tk_Vv hC hK hw hT hA hE hSR kM_at0 (by decide) rfl (k_X12_could_3 l adK adV dC dI cy ad B (by omega) (by omega) qr s1   x190 (show 0 ≤ x190.toInt by omega) (show x190.toInt ≤ 120 by omega) r192 (show 0 ≤ r192.toInt by omega) (show r192.toInt ≤ 9 by omega) v145_7 w94 H.size hT ) (cwV 4 hC.2.2.2.2 gX12_leads_X12_could rfl rfl rfl (by decide +kernel) ⟨Nat.le_of_ble_eq_true rfl, Nat.le_of_ble_eq_true rfl⟩) rfl hl.1 rfl (Nat.le_of_ble_eq_true rfl) dX12_leads_238 (fun w204 H locs hp203 hw => ?_)
            obtain ⟨hT, k205, hg206⟩ := hp203
            have hF := hF.tr k205 (by decide)
            have c207 := k205.gi kM_at12 rfl c97
            have c208 := k205.gi kM_at12 rfl c98
            have c209 := k205.gi kM_at12 (by decide) c106
            have c210 := k205.gi kM_at12 rfl c107
            have c211 := k205.gi kM_at12 rfl c108
            have c212 := k205.gi kM_at12 rfl c188
            clear hg206
            exact J241 v145_7 v145_8 v145_9 r99 x190 f145_12__9_a1_toInt_217_toNat f145_12__9_a1_toInt_218_toNat x105 H locs ls w204 (show 0 ≤ a1.toInt by omega) (show a1.toInt ≤ 3 by omega) (show 0 ≤ a2.toInt by omega) (show a2.toInt ≤ 1073741824 by omega) (show 0 ≤ a3.toInt by omega) (show a3.toInt ≤ 120 by omega) (show 0 ≤ a4.toInt by omega) (show a4.toInt ≤ 9 by omega) (show 0 ≤ a6.toInt by omega) (show a6.toInt ≤ 120 by omega) (show 0 ≤ v145_8.toInt by omega) (show v145_8.toInt ≤ 1073741944 by omega) (show 0 ≤ v145_9.toInt by omega) (show v145_9.toInt ≤ 1 by omega) (show 0 ≤ r99.toInt by omega) (show r99.toInt ≤ 11 by omega) (show 0 ≤ x190.toInt by omega) (show x190.toInt ≤ 129 by omega) (show 0 ≤ f145_12__9_a1_toInt_217_toNat.toInt by omega) (show f145_12__9_a1_toInt_217_toNat.toInt ≤ 9 by omega) (show 0 ≤ f145_12__9_a1_toInt_218_toNat.toInt by omega) (show f145_12__9_a1_toInt_218_toNat.toInt ≤ 3 by omega) (show 1 ≤ x105.toInt by omega) (show x105.toInt ≤ 12 by omega)  hw hT hF c207 c208 c209 (lv_sub hl [2, 3, 4, 5, 6, 7, 8, 9, 10, 11, 1, 0] rfl)
          · refine lv_iload hx hb dX12_leads_211 (lv_at hl 7 rfl) ?_
            refine lv_if_eq (tgt := 235) hx hb dX12_leads_213 (by decide) (fun _ => ?_) (fun c => absurd (by decide) c)
            refine lv_iconst (v := 0) hx hb dX12_leads_235 (by decide) ?_
            refine lv_iload hx hb dX12_leads_236 (lv_at hl 9 rfl) ?_
            refine tk_Vv hC hK hw hT hA hE hSR kM_at0 (by decide) rfl (k_X12_could_3 l adK adV dC dI cy ad B (by omega) (by omega) qr s1   x190 (show 0 ≤ x190.toInt by omega) (show x190.toInt ≤ 120 by omega) r192 (show 0 ≤ r192.toInt by omega) (show r192.toInt ≤ 9 by omega) v145_7 w94 H.size hT ) (cwV 4 hC.2.2.2.2 gX12_leads_X12_could rfl rfl rfl (by decide +kernel) ⟨Nat.le_of_ble_eq_true rfl, Nat.le_of_ble_eq_true rfl⟩) rfl hl.1 rfl (Nat.le_of_ble_eq_true rfl) dX12_leads_238 (fun w215 H locs hp214 hw => ?_)
            obtain ⟨hT, k216, hg217⟩ := hp214
            have hF := hF.tr k216 (by decide)
            have c218 := k216.gi kM_at12 rfl c97
            have c219 := k216.gi kM_at12 rfl c98
            have c220 := k216.gi kM_at12 (by decide) c106
            have c221 := k216.gi kM_at12 rfl c107
            have c222 := k216.gi kM_at12 rfl c108
            have c223 := k216.gi kM_at12 rfl c188
            clear hg217
            exact J241 v145_7 v145_8 v145_9 r99 x190 f145_12__9_a1_toInt_217_toNat f145_12__9_a1_toInt_218_toNat x105 H locs ls w215 (show 0 ≤ a1.toInt by omega) (show a1.toInt ≤ 3 by omega) (show 0 ≤ a2.toInt by omega) (show a2.toInt ≤ 1073741824 by omega) (show 0 ≤ a3.toInt by omega) (show a3.toInt ≤ 120 by omega) (show 0 ≤ a4.toInt by omega) (show a4.toInt ≤ 9 by omega) (show 0 ≤ a6.toInt by omega) (show a6.toInt ≤ 120 by omega) (show 0 ≤ v145_8.toInt by omega) (show v145_8.toInt ≤ 1073741944 by omega) (show 0 ≤ v145_9.toInt by omega) (show v145_9.toInt ≤ 1 by omega) (show 0 ≤ r99.toInt by omega) (show r99.toInt ≤ 11 by omega) (show 0 ≤ x190.toInt by omega) (show x190.toInt ≤ 129 by omega) (show 0 ≤ f145_12__9_a1_toInt_217_toNat.toInt by omega) (show f145_12__9_a1_toInt_217_toNat.toInt ≤ 9 by omega) (show 0 ≤ f145_12__9_a1_toInt_218_toNat.toInt by omega) (show f145_12__9_a1_toInt_218_toNat.toInt ≤ 3 by omega) (show 1 ≤ x105.toInt by omega) (show x105.toInt ≤ 12 by omega)  hw hT hF c218 c219 c220 (lv_sub hl [2, 3, 4, 5, 6, 7, 8, 9, 10, 11, 1, 0] rfl)
      · refine lv_if_ne (tgt := 182) hx hb dX12_leads_178 (by decide) (fun _ => ?_) (fun c => absurd c (by decide))
        refine lv_iload_n hx hb dX12_leads_182 rfl (lv_at hl 4 rfl) ?_
        refine lv_aload_n hx hb dX12_leads_183 rfl (lv_at hl 1 rfl) ?_
        refine lv_iload hx hb dX12_leads_184 (lv_at hl 0 rfl) ?_
        refine lv_iconst (v := 2) hx hb dX12_leads_186 (by decide) ?_
        refine tk_Vi hC hK hw hT hA hE hSR kM_at0 (by decide) rfl (k_X12_streetOf_6 l adK adV dC dI cy ad B (by omega) (by omega) qr s1   r99 (show 0 ≤ r99.toInt by omega) (show r99.toInt ≤ 11 by omega) w94 H.size hT ) (cwV 2 hC.2.2.2.2 gX12_leads_X12_streetOf rfl rfl rfl (by decide +kernel) ⟨Nat.le_of_ble_eq_true rfl, Nat.le_of_ble_eq_true rfl⟩) rfl hl.1 rfl (Nat.le_of_ble_eq_true rfl) dX12_leads_187 (fun r224 w226 H locs hp225 hw => ?_)
        obtain ⟨rfl, hg231⟩ := hp225
        obtain ⟨g228, g229, c230⟩ := hg231
        refine lv_iadd hx hb dX12_leads_190 ?_
        refine lv_topi (fun x232 ex232 => ?_)
        have ex232 : x232.toInt = a3.toInt + r224.toInt := by rw [ex232]; exact wk_add (show (-2147483648) ≤ a3.toInt + r224.toInt by omega) (show a3.toInt + r224.toInt ≤ 2147483647 by omega)
        refine lv_istore (lv' := [(11, .int x232), (10, .int r99), (0, .ref (ad 0)), (1, .int a1), (2, .int a2), (3, .int a3), (4, .int a4), (5, .int 0), (6, .int a6), (7, .int v145_7), (8, .int v145_8), (9, .int v145_9)]) hx hb dX12_leads_191 hl (by decide) rfl (fun ls hl => ?_)
        refine lv_iload hx hb dX12_leads_193 (lv_at hl 0 rfl) ?_
        refine lv_iload hx hb dX12_leads_195 (lv_at hl 8 rfl) ?_
        refine lv_icmp_gt (tgt := 241) hx hb dX12_leads_197 (by decide) (fun c233 => ?_) (fun c233 => ?_)
        · have c233 : a6.toInt < x232.toInt := wk_lt.mp c233
          exact J241 v145_7 v145_8 v145_9 r99 x232 f145_12__9_a1_toInt_217_toNat f145_12__9_a1_toInt_218_toNat x105 H locs ls w94 (show 0 ≤ a1.toInt by omega) (show a1.toInt ≤ 3 by omega) (show 0 ≤ a2.toInt by omega) (show a2.toInt ≤ 1073741824 by omega) (show 0 ≤ a3.toInt by omega) (show a3.toInt ≤ 120 by omega) (show 0 ≤ a4.toInt by omega) (show a4.toInt ≤ 9 by omega) (show 0 ≤ a6.toInt by omega) (show a6.toInt ≤ 120 by omega) (show 0 ≤ v145_8.toInt by omega) (show v145_8.toInt ≤ 1073741944 by omega) (show 0 ≤ v145_9.toInt by omega) (show v145_9.toInt ≤ 1 by omega) (show 0 ≤ r99.toInt by omega) (show r99.toInt ≤ 11 by omega) (show 0 ≤ x232.toInt by omega) (show x232.toInt ≤ 129 by omega) (show 0 ≤ f145_12__9_a1_toInt_217_toNat.toInt by omega) (show f145_12__9_a1_toInt_217_toNat.toInt ≤ 9 by omega) (show 0 ≤ f145_12__9_a1_toInt_218_toNat.toInt by omega) (show f145_12__9_a1_toInt_218_toNat.toInt ≤ 3 by omega) (show 1 ≤ x105.toInt by omega) (show x105.toInt ≤ 12 by omega)  hw hT hF c97 c98 c106 (lv_sub hl [2, 3, 4, 5, 6, 7, 8, 9, 10, 11, 1, 0] rfl)
        · have c233 : x232.toInt ≤ a6.toInt := wk_ltF c233
          refine lv_aload_n hx hb dX12_leads_200 rfl (lv_at hl 2 rfl) ?_
          refine lv_iload hx hb dX12_leads_201 (lv_at hl 0 rfl) ?_
          refine lv_aload_n hx hb dX12_leads_203 rfl (lv_at hl 2 rfl) ?_
          refine lv_iload hx hb dX12_leads_204 (lv_at hl 1 rfl) ?_
          refine lv_iload hx hb dX12_leads_206 (lv_at hl 6 rfl) ?_
          refine tk_Vi hC hK hw hT hA hE hSR kM_at0 (by decide) rfl (k_X12_otherOf_1 l adK adV dC dI cy ad B (by omega) (by omega) qr s1   r99 (show 0 ≤ r99.toInt by omega) (show r99.toInt ≤ 11 by omega) a4 (show 0 ≤ a4.toInt by omega) (show a4.toInt ≤ 9 by omega) w94 H.size hT ) (cwV 2 hC.2.2.2.2 gX12_leads_X12_otherOf rfl rfl rfl (by decide +kernel) ⟨Nat.le_of_ble_eq_true rfl, Nat.le_of_ble_eq_true rfl⟩) rfl hl.1 rfl (Nat.le_of_ble_eq_true rfl) dX12_leads_208 (fun r234 w236 H locs hp235 hw => ?_)
          obtain ⟨rfl, hg243⟩ := hp235
          rcases hg243 with ⟨g238, g239⟩ | ⟨g240, g241, c242⟩
          · refine lv_iload hx hb dX12_leads_211 (lv_at hl 7 rfl) ?_
            refine lv_if_eq (tgt := 235) hx hb dX12_leads_213 (by decide) (fun _ => ?_) (fun c => absurd (by decide) c)
            refine lv_iconst (v := 0) hx hb dX12_leads_235 (by decide) ?_
            refine lv_iload hx hb dX12_leads_236 (lv_at hl 9 rfl) ?_
            refine tk_Vv hC hK hw hT hA hE hSR kM_at0 (by decide) rfl (k_X12_could_3 l adK adV dC dI cy ad B (by omega) (by omega) qr s1   x232 (show 0 ≤ x232.toInt by omega) (show x232.toInt ≤ 120 by omega) r234 (show 0 ≤ r234.toInt by omega) (show r234.toInt ≤ 9 by omega) v145_7 w94 H.size hT ) (cwV 4 hC.2.2.2.2 gX12_leads_X12_could rfl rfl rfl (by decide +kernel) ⟨Nat.le_of_ble_eq_true rfl, Nat.le_of_ble_eq_true rfl⟩) rfl hl.1 rfl (Nat.le_of_ble_eq_true rfl) dX12_leads_238 (fun w246 H locs hp245 hw => ?_)
            obtain ⟨hT, k247, hg248⟩ := hp245
            have hF := hF.tr k247 (by decide)
            have c249 := k247.gi kM_at12 rfl c97
            have c250 := k247.gi kM_at12 rfl c98
            have c251 := k247.gi kM_at12 (by decide) c106
            have c252 := k247.gi kM_at12 rfl c107
            have c253 := k247.gi kM_at12 rfl c108
            have c254 := k247.gi kM_at12 rfl c230
            clear hg248
            exact J241 v145_7 v145_8 v145_9 r99 x232 f145_12__9_a1_toInt_217_toNat f145_12__9_a1_toInt_218_toNat x105 H locs ls w246 (show 0 ≤ a1.toInt by omega) (show a1.toInt ≤ 3 by omega) (show 0 ≤ a2.toInt by omega) (show a2.toInt ≤ 1073741824 by omega) (show 0 ≤ a3.toInt by omega) (show a3.toInt ≤ 120 by omega) (show 0 ≤ a4.toInt by omega) (show a4.toInt ≤ 9 by omega) (show 0 ≤ a6.toInt by omega) (show a6.toInt ≤ 120 by omega) (show 0 ≤ v145_8.toInt by omega) (show v145_8.toInt ≤ 1073741944 by omega) (show 0 ≤ v145_9.toInt by omega) (show v145_9.toInt ≤ 1 by omega) (show 0 ≤ r99.toInt by omega) (show r99.toInt ≤ 11 by omega) (show 0 ≤ x232.toInt by omega) (show x232.toInt ≤ 129 by omega) (show 0 ≤ f145_12__9_a1_toInt_217_toNat.toInt by omega) (show f145_12__9_a1_toInt_217_toNat.toInt ≤ 9 by omega) (show 0 ≤ f145_12__9_a1_toInt_218_toNat.toInt by omega) (show f145_12__9_a1_toInt_218_toNat.toInt ≤ 3 by omega) (show 1 ≤ x105.toInt by omega) (show x105.toInt ≤ 12 by omega)  hw hT hF c249 c250 c251 (lv_sub hl [2, 3, 4, 5, 6, 7, 8, 9, 10, 11, 1, 0] rfl)
          · refine lv_iload hx hb dX12_leads_211 (lv_at hl 7 rfl) ?_
            refine lv_if_eq (tgt := 235) hx hb dX12_leads_213 (by decide) (fun _ => ?_) (fun c => absurd (by decide) c)
            refine lv_iconst (v := 0) hx hb dX12_leads_235 (by decide) ?_
            refine lv_iload hx hb dX12_leads_236 (lv_at hl 9 rfl) ?_
            refine tk_Vv hC hK hw hT hA hE hSR kM_at0 (by decide) rfl (k_X12_could_3 l adK adV dC dI cy ad B (by omega) (by omega) qr s1   x232 (show 0 ≤ x232.toInt by omega) (show x232.toInt ≤ 120 by omega) r234 (show 0 ≤ r234.toInt by omega) (show r234.toInt ≤ 9 by omega) v145_7 w94 H.size hT ) (cwV 4 hC.2.2.2.2 gX12_leads_X12_could rfl rfl rfl (by decide +kernel) ⟨Nat.le_of_ble_eq_true rfl, Nat.le_of_ble_eq_true rfl⟩) rfl hl.1 rfl (Nat.le_of_ble_eq_true rfl) dX12_leads_238 (fun w257 H locs hp256 hw => ?_)
            obtain ⟨hT, k258, hg259⟩ := hp256
            have hF := hF.tr k258 (by decide)
            have c260 := k258.gi kM_at12 rfl c97
            have c261 := k258.gi kM_at12 rfl c98
            have c262 := k258.gi kM_at12 (by decide) c106
            have c263 := k258.gi kM_at12 rfl c107
            have c264 := k258.gi kM_at12 rfl c108
            have c265 := k258.gi kM_at12 rfl c230
            clear hg259
            exact J241 v145_7 v145_8 v145_9 r99 x232 f145_12__9_a1_toInt_217_toNat f145_12__9_a1_toInt_218_toNat x105 H locs ls w257 (show 0 ≤ a1.toInt by omega) (show a1.toInt ≤ 3 by omega) (show 0 ≤ a2.toInt by omega) (show a2.toInt ≤ 1073741824 by omega) (show 0 ≤ a3.toInt by omega) (show a3.toInt ≤ 120 by omega) (show 0 ≤ a4.toInt by omega) (show a4.toInt ≤ 9 by omega) (show 0 ≤ a6.toInt by omega) (show a6.toInt ≤ 120 by omega) (show 0 ≤ v145_8.toInt by omega) (show v145_8.toInt ≤ 1073741944 by omega) (show 0 ≤ v145_9.toInt by omega) (show v145_9.toInt ≤ 1 by omega) (show 0 ≤ r99.toInt by omega) (show r99.toInt ≤ 11 by omega) (show 0 ≤ x232.toInt by omega) (show x232.toInt ≤ 129 by omega) (show 0 ≤ f145_12__9_a1_toInt_217_toNat.toInt by omega) (show f145_12__9_a1_toInt_217_toNat.toInt ≤ 9 by omega) (show 0 ≤ f145_12__9_a1_toInt_218_toNat.toInt by omega) (show f145_12__9_a1_toInt_218_toNat.toInt ≤ 3 by omega) (show 1 ≤ x105.toInt by omega) (show x105.toInt ≤ 12 by omega)  hw hT hF c260 c261 c262 (lv_sub hl [2, 3, 4, 5, 6, 7, 8, 9, 10, 11, 1, 0] rfl)
    · refine lv_istore (lv' := [(10, .int r99), (0, .ref (ad 0)), (1, .int a1), (2, .int a2), (3, .int a3), (4, .int a4), (5, .int 0), (6, .int a6), (7, .int v145_7), (8, .int v145_8), (9, .int v145_9)]) hx hb dX12_leads_161 hl (by decide) rfl (fun ls hl => ?_)
      refine lv_iload hx hb dX12_leads_163 (lv_at hl 0 rfl) ?_
      refine lv_if_lt (tgt := 181) hx hb dX12_leads_165 (by decide) (fun c => absurd c (fun h => absurd (show r99.toInt < (0 : Int) from wk_lt.mp h) (by omega))) (fun _ => ?_)
      refine lv_aload_n hx hb dX12_leads_168 rfl (lv_at hl 1 rfl) ?_
      refine lv_iload hx hb dX12_leads_169 (lv_at hl 0 rfl) ?_
      refine lv_iload hx hb dX12_leads_171 (lv_at hl 5 rfl) ?_
      refine lv_iload hx hb dX12_leads_173 (lv_at hl 9 rfl) ?_
      refine tk_Vi hC hK hw hT hA hE hSR kM_at0 (by decide) rfl (k_X12_isOpen_3 l adK adV dC dI cy ad B (by omega) (by omega) qr s1   r99 (show 0 ≤ r99.toInt by omega) (show r99.toInt ≤ 11 by omega) a4 (show 0 ≤ a4.toInt by omega) (show a4.toInt ≤ 9 by omega) v145_8 (show 0 ≤ v145_8.toInt by omega) (show v145_8.toInt ≤ 1073741944 by omega) w94 H.size hT ) (cwV 3 hC.2.2.2.2 gX12_leads_X12_isOpen rfl rfl rfl (by decide +kernel) ⟨Nat.le_of_ble_eq_true rfl, Nat.le_of_ble_eq_true rfl⟩) rfl hl.1 rfl (Nat.le_of_ble_eq_true rfl) dX12_leads_175 (fun r266 w268 H locs hp267 hw => ?_)
      obtain ⟨rfl, hg285⟩ := hp267
      rcases hg285 with ⟨rfl, hq270⟩ | ⟨rfl, c271, c272, hq273⟩ | ⟨rfl, c274, hq275⟩ | ⟨rfl, c276, hq277⟩ | ⟨rfl, c278, c279, hq280⟩ | ⟨rfl, c281, hq282⟩ | ⟨rfl, c283, hq284⟩
      · refine lv_if_ne (tgt := 182) hx hb dX12_leads_178 (by decide) (fun c => absurd (by decide) c) (fun _ => ?_)
        exact J181 v145_7 v145_8 v145_9 r99 f145_12__9_a1_toInt_217_toNat f145_12__9_a1_toInt_218_toNat H locs ls w94 (show 0 ≤ a1.toInt by omega) (show a1.toInt ≤ 3 by omega) (show 0 ≤ a2.toInt by omega) (show a2.toInt ≤ 1073741824 by omega) (show 0 ≤ a3.toInt by omega) (show a3.toInt ≤ 120 by omega) (show 0 ≤ a4.toInt by omega) (show a4.toInt ≤ 9 by omega) (show 0 ≤ a6.toInt by omega) (show a6.toInt ≤ 120 by omega) (show 0 ≤ v145_8.toInt by omega) (show v145_8.toInt ≤ 1073741944 by omega) (show 0 ≤ v145_9.toInt by omega) (show v145_9.toInt ≤ 1 by omega) (show (-1) ≤ r99.toInt by omega) (show r99.toInt ≤ 11 by omega) (show 0 ≤ f145_12__9_a1_toInt_217_toNat.toInt by omega) (show f145_12__9_a1_toInt_217_toNat.toInt ≤ 9 by omega) (show 0 ≤ f145_12__9_a1_toInt_218_toNat.toInt by omega) (show f145_12__9_a1_toInt_218_toNat.toInt ≤ 3 by omega)  hw hT hF c97 c98 (lv_sub hl [1, 2, 3, 4, 5, 6, 7, 8, 9, 10, 0] rfl)
      · refine lv_if_ne (tgt := 182) hx hb dX12_leads_178 (by decide) (fun c => absurd (by decide) c) (fun _ => ?_)
        exact J181 v145_7 v145_8 v145_9 r99 f145_12__9_a1_toInt_217_toNat f145_12__9_a1_toInt_218_toNat H locs ls w94 (show 0 ≤ a1.toInt by omega) (show a1.toInt ≤ 3 by omega) (show 0 ≤ a2.toInt by omega) (show a2.toInt ≤ 1073741824 by omega) (show 0 ≤ a3.toInt by omega) (show a3.toInt ≤ 120 by omega) (show 0 ≤ a4.toInt by omega) (show a4.toInt ≤ 9 by omega) (show 0 ≤ a6.toInt by omega) (show a6.toInt ≤ 120 by omega) (show 0 ≤ v145_8.toInt by omega) (show v145_8.toInt ≤ 1073741944 by omega) (show 0 ≤ v145_9.toInt by omega) (show v145_9.toInt ≤ 1 by omega) (show (-1) ≤ r99.toInt by omega) (show r99.toInt ≤ 11 by omega) (show 0 ≤ f145_12__9_a1_toInt_217_toNat.toInt by omega) (show f145_12__9_a1_toInt_217_toNat.toInt ≤ 9 by omega) (show 0 ≤ f145_12__9_a1_toInt_218_toNat.toInt by omega) (show f145_12__9_a1_toInt_218_toNat.toInt ≤ 3 by omega)  hw hT hF c97 c98 (lv_sub hl [1, 2, 3, 4, 5, 6, 7, 8, 9, 10, 0] rfl)
      · refine lv_if_ne (tgt := 182) hx hb dX12_leads_178 (by decide) (fun c => absurd (by decide) c) (fun _ => ?_)
        exact J181 v145_7 v145_8 v145_9 r99 f145_12__9_a1_toInt_217_toNat f145_12__9_a1_toInt_218_toNat H locs ls w94 (show 0 ≤ a1.toInt by omega) (show a1.toInt ≤ 3 by omega) (show 0 ≤ a2.toInt by omega) (show a2.toInt ≤ 1073741824 by omega) (show 0 ≤ a3.toInt by omega) (show a3.toInt ≤ 120 by omega) (show 0 ≤ a4.toInt by omega) (show a4.toInt ≤ 9 by omega) (show 0 ≤ a6.toInt by omega) (show a6.toInt ≤ 120 by omega) (show 0 ≤ v145_8.toInt by omega) (show v145_8.toInt ≤ 1073741944 by omega) (show 0 ≤ v145_9.toInt by omega) (show v145_9.toInt ≤ 1 by omega) (show (-1) ≤ r99.toInt by omega) (show r99.toInt ≤ 11 by omega) (show 0 ≤ f145_12__9_a1_toInt_217_toNat.toInt by omega) (show f145_12__9_a1_toInt_217_toNat.toInt ≤ 9 by omega) (show 0 ≤ f145_12__9_a1_toInt_218_toNat.toInt by omega) (show f145_12__9_a1_toInt_218_toNat.toInt ≤ 3 by omega)  hw hT hF c97 c98 (lv_sub hl [1, 2, 3, 4, 5, 6, 7, 8, 9, 10, 0] rfl)
      · refine lv_if_ne (tgt := 182) hx hb dX12_leads_178 (by decide) (fun c => absurd (by decide) c) (fun _ => ?_)
        exact J181 v145_7 v145_8 v145_9 r99 f145_12__9_a1_toInt_217_toNat f145_12__9_a1_toInt_218_toNat H locs ls w94 (show 0 ≤ a1.toInt by omega) (show a1.toInt ≤ 3 by omega) (show 0 ≤ a2.toInt by omega) (show a2.toInt ≤ 1073741824 by omega) (show 0 ≤ a3.toInt by omega) (show a3.toInt ≤ 120 by omega) (show 0 ≤ a4.toInt by omega) (show a4.toInt ≤ 9 by omega) (show 0 ≤ a6.toInt by omega) (show a6.toInt ≤ 120 by omega) (show 0 ≤ v145_8.toInt by omega) (show v145_8.toInt ≤ 1073741944 by omega) (show 0 ≤ v145_9.toInt by omega) (show v145_9.toInt ≤ 1 by omega) (show (-1) ≤ r99.toInt by omega) (show r99.toInt ≤ 11 by omega) (show 0 ≤ f145_12__9_a1_toInt_217_toNat.toInt by omega) (show f145_12__9_a1_toInt_217_toNat.toInt ≤ 9 by omega) (show 0 ≤ f145_12__9_a1_toInt_218_toNat.toInt by omega) (show f145_12__9_a1_toInt_218_toNat.toInt ≤ 3 by omega)  hw hT hF c97 c98 (lv_sub hl [1, 2, 3, 4, 5, 6, 7, 8, 9, 10, 0] rfl)
      · refine lv_if_ne (tgt := 182) hx hb dX12_leads_178 (by decide) (fun _ => ?_) (fun c => absurd c (by decide))
        refine lv_iload_n hx hb dX12_leads_182 rfl (lv_at hl 4 rfl) ?_
        refine lv_aload_n hx hb dX12_leads_183 rfl (lv_at hl 1 rfl) ?_
        refine lv_iload hx hb dX12_leads_184 (lv_at hl 0 rfl) ?_
        refine lv_iconst (v := 2) hx hb dX12_leads_186 (by decide) ?_
        refine tk_Vi hC hK hw hT hA hE hSR kM_at0 (by decide) rfl (k_X12_streetOf_6 l adK adV dC dI cy ad B (by omega) (by omega) qr s1   r99 (show 0 ≤ r99.toInt by omega) (show r99.toInt ≤ 11 by omega) w94 H.size hT ) (cwV 2 hC.2.2.2.2 gX12_leads_X12_streetOf rfl rfl rfl (by decide +kernel) ⟨Nat.le_of_ble_eq_true rfl, Nat.le_of_ble_eq_true rfl⟩) rfl hl.1 rfl (Nat.le_of_ble_eq_true rfl) dX12_leads_187 (fun r286 w288 H locs hp287 hw => ?_)
        obtain ⟨rfl, hg293⟩ := hp287
        obtain ⟨g290, g291, c292⟩ := hg293
        refine lv_iadd hx hb dX12_leads_190 ?_
        refine lv_topi (fun x294 ex294 => ?_)
        have ex294 : x294.toInt = a3.toInt + r286.toInt := by rw [ex294]; exact wk_add (show (-2147483648) ≤ a3.toInt + r286.toInt by omega) (show a3.toInt + r286.toInt ≤ 2147483647 by omega)
        refine lv_istore (lv' := [(11, .int x294), (10, .int r99), (0, .ref (ad 0)), (1, .int a1), (2, .int a2), (3, .int a3), (4, .int a4), (5, .int 0), (6, .int a6), (7, .int v145_7), (8, .int v145_8), (9, .int v145_9)]) hx hb dX12_leads_191 hl (by decide) rfl (fun ls hl => ?_)
        refine lv_iload hx hb dX12_leads_193 (lv_at hl 0 rfl) ?_
        refine lv_iload hx hb dX12_leads_195 (lv_at hl 8 rfl) ?_
        refine lv_icmp_gt (tgt := 241) hx hb dX12_leads_197 (by decide) (fun c295 => ?_) (fun c295 => ?_)
        · have c295 : a6.toInt < x294.toInt := wk_lt.mp c295
          exact J241 v145_7 v145_8 v145_9 r99 x294 f145_12__9_a1_toInt_217_toNat f145_12__9_a1_toInt_218_toNat x111 H locs ls w94 (show 0 ≤ a1.toInt by omega) (show a1.toInt ≤ 3 by omega) (show 0 ≤ a2.toInt by omega) (show a2.toInt ≤ 1073741824 by omega) (show 0 ≤ a3.toInt by omega) (show a3.toInt ≤ 120 by omega) (show 0 ≤ a4.toInt by omega) (show a4.toInt ≤ 9 by omega) (show 0 ≤ a6.toInt by omega) (show a6.toInt ≤ 120 by omega) (show 0 ≤ v145_8.toInt by omega) (show v145_8.toInt ≤ 1073741944 by omega) (show 0 ≤ v145_9.toInt by omega) (show v145_9.toInt ≤ 1 by omega) (show 0 ≤ r99.toInt by omega) (show r99.toInt ≤ 11 by omega) (show 0 ≤ x294.toInt by omega) (show x294.toInt ≤ 129 by omega) (show 0 ≤ f145_12__9_a1_toInt_217_toNat.toInt by omega) (show f145_12__9_a1_toInt_217_toNat.toInt ≤ 9 by omega) (show 0 ≤ f145_12__9_a1_toInt_218_toNat.toInt by omega) (show f145_12__9_a1_toInt_218_toNat.toInt ≤ 3 by omega) (show 1 ≤ x111.toInt by omega) (show x111.toInt ≤ 12 by omega)  hw hT hF c97 c98 c112 (lv_sub hl [2, 3, 4, 5, 6, 7, 8, 9, 10, 11, 1, 0] rfl)
        · have c295 : x294.toInt ≤ a6.toInt := wk_ltF c295
          refine lv_aload_n hx hb dX12_leads_200 rfl (lv_at hl 2 rfl) ?_
          refine lv_iload hx hb dX12_leads_201 (lv_at hl 0 rfl) ?_
          refine lv_aload_n hx hb dX12_leads_203 rfl (lv_at hl 2 rfl) ?_
          refine lv_iload hx hb dX12_leads_204 (lv_at hl 1 rfl) ?_
          refine lv_iload hx hb dX12_leads_206 (lv_at hl 6 rfl) ?_
          refine tk_Vi hC hK hw hT hA hE hSR kM_at0 (by decide) rfl (k_X12_otherOf_1 l adK adV dC dI cy ad B (by omega) (by omega) qr s1   r99 (show 0 ≤ r99.toInt by omega) (show r99.toInt ≤ 11 by omega) a4 (show 0 ≤ a4.toInt by omega) (show a4.toInt ≤ 9 by omega) w94 H.size hT ) (cwV 2 hC.2.2.2.2 gX12_leads_X12_otherOf rfl rfl rfl (by decide +kernel) ⟨Nat.le_of_ble_eq_true rfl, Nat.le_of_ble_eq_true rfl⟩) rfl hl.1 rfl (Nat.le_of_ble_eq_true rfl) dX12_leads_208 (fun r296 w298 H locs hp297 hw => ?_)
          obtain ⟨rfl, hg305⟩ := hp297
          rcases hg305 with ⟨g300, g301⟩ | ⟨g302, g303, c304⟩
          · refine lv_iload hx hb dX12_leads_211 (lv_at hl 7 rfl) ?_
            refine lv_if_eq (tgt := 235) hx hb dX12_leads_213 (by decide) (fun _ => ?_) (fun c => absurd (by decide) c)
            refine lv_iconst (v := 0) hx hb dX12_leads_235 (by decide) ?_
            refine lv_iload hx hb dX12_leads_236 (lv_at hl 9 rfl) ?_
            refine tk_Vv hC hK hw hT hA hE hSR kM_at0 (by decide) rfl (k_X12_could_3 l adK adV dC dI cy ad B (by omega) (by omega) qr s1   x294 (show 0 ≤ x294.toInt by omega) (show x294.toInt ≤ 120 by omega) r296 (show 0 ≤ r296.toInt by omega) (show r296.toInt ≤ 9 by omega) v145_7 w94 H.size hT ) (cwV 4 hC.2.2.2.2 gX12_leads_X12_could rfl rfl rfl (by decide +kernel) ⟨Nat.le_of_ble_eq_true rfl, Nat.le_of_ble_eq_true rfl⟩) rfl hl.1 rfl (Nat.le_of_ble_eq_true rfl) dX12_leads_238 (fun w308 H locs hp307 hw => ?_)
            obtain ⟨hT, k309, hg310⟩ := hp307
            have hF := hF.tr k309 (by decide)
            have c311 := k309.gi kM_at12 rfl c97
            have c312 := k309.gi kM_at12 rfl c98
            have c313 := k309.gi kM_at12 (by decide) c112
            have c314 := k309.gi kM_at12 rfl c113
            have c315 := k309.gi kM_at12 rfl c279
            have c316 := k309.gi kM_at12 rfl c292
            clear hg310
            exact J241 v145_7 v145_8 v145_9 r99 x294 f145_12__9_a1_toInt_217_toNat f145_12__9_a1_toInt_218_toNat x111 H locs ls w308 (show 0 ≤ a1.toInt by omega) (show a1.toInt ≤ 3 by omega) (show 0 ≤ a2.toInt by omega) (show a2.toInt ≤ 1073741824 by omega) (show 0 ≤ a3.toInt by omega) (show a3.toInt ≤ 120 by omega) (show 0 ≤ a4.toInt by omega) (show a4.toInt ≤ 9 by omega) (show 0 ≤ a6.toInt by omega) (show a6.toInt ≤ 120 by omega) (show 0 ≤ v145_8.toInt by omega) (show v145_8.toInt ≤ 1073741944 by omega) (show 0 ≤ v145_9.toInt by omega) (show v145_9.toInt ≤ 1 by omega) (show 0 ≤ r99.toInt by omega) (show r99.toInt ≤ 11 by omega) (show 0 ≤ x294.toInt by omega) (show x294.toInt ≤ 129 by omega) (show 0 ≤ f145_12__9_a1_toInt_217_toNat.toInt by omega) (show f145_12__9_a1_toInt_217_toNat.toInt ≤ 9 by omega) (show 0 ≤ f145_12__9_a1_toInt_218_toNat.toInt by omega) (show f145_12__9_a1_toInt_218_toNat.toInt ≤ 3 by omega) (show 1 ≤ x111.toInt by omega) (show x111.toInt ≤ 12 by omega)  hw hT hF c311 c312 c313 (lv_sub hl [2, 3, 4, 5, 6, 7, 8, 9, 10, 11, 1, 0] rfl)
          · refine lv_iload hx hb dX12_leads_211 (lv_at hl 7 rfl) ?_
            refine lv_if_eq (tgt := 235) hx hb dX12_leads_213 (by decide) (fun _ => ?_) (fun c => absurd (by decide) c)
            refine lv_iconst (v := 0) hx hb dX12_leads_235 (by decide) ?_
            refine lv_iload hx hb dX12_leads_236 (lv_at hl 9 rfl) ?_
            refine tk_Vv hC hK hw hT hA hE hSR kM_at0 (by decide) rfl (k_X12_could_3 l adK adV dC dI cy ad B (by omega) (by omega) qr s1   x294 (show 0 ≤ x294.toInt by omega) (show x294.toInt ≤ 120 by omega) r296 (show 0 ≤ r296.toInt by omega) (show r296.toInt ≤ 9 by omega) v145_7 w94 H.size hT ) (cwV 4 hC.2.2.2.2 gX12_leads_X12_could rfl rfl rfl (by decide +kernel) ⟨Nat.le_of_ble_eq_true rfl, Nat.le_of_ble_eq_true rfl⟩) rfl hl.1 rfl (Nat.le_of_ble_eq_true rfl) dX12_leads_238 (fun w319 H locs hp318 hw => ?_)
            obtain ⟨hT, k320, hg321⟩ := hp318
            have hF := hF.tr k320 (by decide)
            have c322 := k320.gi kM_at12 rfl c97
            have c323 := k320.gi kM_at12 rfl c98
            have c324 := k320.gi kM_at12 (by decide) c112
            have c325 := k320.gi kM_at12 rfl c113
            have c326 := k320.gi kM_at12 rfl c279
            have c327 := k320.gi kM_at12 rfl c292
            clear hg321
            exact J241 v145_7 v145_8 v145_9 r99 x294 f145_12__9_a1_toInt_217_toNat f145_12__9_a1_toInt_218_toNat x111 H locs ls w319 (show 0 ≤ a1.toInt by omega) (show a1.toInt ≤ 3 by omega) (show 0 ≤ a2.toInt by omega) (show a2.toInt ≤ 1073741824 by omega) (show 0 ≤ a3.toInt by omega) (show a3.toInt ≤ 120 by omega) (show 0 ≤ a4.toInt by omega) (show a4.toInt ≤ 9 by omega) (show 0 ≤ a6.toInt by omega) (show a6.toInt ≤ 120 by omega) (show 0 ≤ v145_8.toInt by omega) (show v145_8.toInt ≤ 1073741944 by omega) (show 0 ≤ v145_9.toInt by omega) (show v145_9.toInt ≤ 1 by omega) (show 0 ≤ r99.toInt by omega) (show r99.toInt ≤ 11 by omega) (show 0 ≤ x294.toInt by omega) (show x294.toInt ≤ 129 by omega) (show 0 ≤ f145_12__9_a1_toInt_217_toNat.toInt by omega) (show f145_12__9_a1_toInt_217_toNat.toInt ≤ 9 by omega) (show 0 ≤ f145_12__9_a1_toInt_218_toNat.toInt by omega) (show f145_12__9_a1_toInt_218_toNat.toInt ≤ 3 by omega) (show 1 ≤ x111.toInt by omega) (show x111.toInt ≤ 12 by omega)  hw hT hF c322 c323 c324 (lv_sub hl [2, 3, 4, 5, 6, 7, 8, 9, 10, 11, 1, 0] rfl)
      · refine lv_if_ne (tgt := 182) hx hb dX12_leads_178 (by decide) (fun _ => ?_) (fun c => absurd c (by decide))
        refine lv_iload_n hx hb dX12_leads_182 rfl (lv_at hl 4 rfl) ?_
        refine lv_aload_n hx hb dX12_leads_183 rfl (lv_at hl 1 rfl) ?_
        refine lv_iload hx hb dX12_leads_184 (lv_at hl 0 rfl) ?_
        refine lv_iconst (v := 2) hx hb dX12_leads_186 (by decide) ?_
        refine tk_Vi hC hK hw hT hA hE hSR kM_at0 (by decide) rfl (k_X12_streetOf_6 l adK adV dC dI cy ad B (by omega) (by omega) qr s1   r99 (show 0 ≤ r99.toInt by omega) (show r99.toInt ≤ 11 by omega) w94 H.size hT ) (cwV 2 hC.2.2.2.2 gX12_leads_X12_streetOf rfl rfl rfl (by decide +kernel) ⟨Nat.le_of_ble_eq_true rfl, Nat.le_of_ble_eq_true rfl⟩) rfl hl.1 rfl (Nat.le_of_ble_eq_true rfl) dX12_leads_187 (fun r328 w330 H locs hp329 hw => ?_)
        obtain ⟨rfl, hg335⟩ := hp329
        obtain ⟨g332, g333, c334⟩ := hg335
        refine lv_iadd hx hb dX12_leads_190 ?_
        refine lv_topi (fun x336 ex336 => ?_)
        have ex336 : x336.toInt = a3.toInt + r328.toInt := by rw [ex336]; exact wk_add (show (-2147483648) ≤ a3.toInt + r328.toInt by omega) (show a3.toInt + r328.toInt ≤ 2147483647 by omega)
        refine lv_istore (lv' := [(11, .int x336), (10, .int r99), (0, .ref (ad 0)), (1, .int a1), (2, .int a2), (3, .int a3), (4, .int a4), (5, .int 0), (6, .int a6), (7, .int v145_7), (8, .int v145_8), (9, .int v145_9)]) hx hb dX12_leads_191 hl (by decide) rfl (fun ls hl => ?_)
        refine lv_iload hx hb dX12_leads_193 (lv_at hl 0 rfl) ?_
        refine lv_iload hx hb dX12_leads_195 (lv_at hl 8 rfl) ?_
        refine lv_icmp_gt (tgt := 241) hx hb dX12_leads_197 (by decide) (fun c337 => ?_) (fun c337 => ?_)
        · have c337 : a6.toInt < x336.toInt := wk_lt.mp c337
          exact J241 v145_7 v145_8 v145_9 r99 x336 f145_12__9_a1_toInt_217_toNat f145_12__9_a1_toInt_218_toNat x111 H locs ls w94 (show 0 ≤ a1.toInt by omega) (show a1.toInt ≤ 3 by omega) (show 0 ≤ a2.toInt by omega) (show a2.toInt ≤ 1073741824 by omega) (show 0 ≤ a3.toInt by omega) (show a3.toInt ≤ 120 by omega) (show 0 ≤ a4.toInt by omega) (show a4.toInt ≤ 9 by omega) (show 0 ≤ a6.toInt by omega) (show a6.toInt ≤ 120 by omega) (show 0 ≤ v145_8.toInt by omega) (show v145_8.toInt ≤ 1073741944 by omega) (show 0 ≤ v145_9.toInt by omega) (show v145_9.toInt ≤ 1 by omega) (show 0 ≤ r99.toInt by omega) (show r99.toInt ≤ 11 by omega) (show 0 ≤ x336.toInt by omega) (show x336.toInt ≤ 129 by omega) (show 0 ≤ f145_12__9_a1_toInt_217_toNat.toInt by omega) (show f145_12__9_a1_toInt_217_toNat.toInt ≤ 9 by omega) (show 0 ≤ f145_12__9_a1_toInt_218_toNat.toInt by omega) (show f145_12__9_a1_toInt_218_toNat.toInt ≤ 3 by omega) (show 1 ≤ x111.toInt by omega) (show x111.toInt ≤ 12 by omega)  hw hT hF c97 c98 c112 (lv_sub hl [2, 3, 4, 5, 6, 7, 8, 9, 10, 11, 1, 0] rfl)
        · have c337 : x336.toInt ≤ a6.toInt := wk_ltF c337
          refine lv_aload_n hx hb dX12_leads_200 rfl (lv_at hl 2 rfl) ?_
          refine lv_iload hx hb dX12_leads_201 (lv_at hl 0 rfl) ?_
          refine lv_aload_n hx hb dX12_leads_203 rfl (lv_at hl 2 rfl) ?_
          refine lv_iload hx hb dX12_leads_204 (lv_at hl 1 rfl) ?_
          refine lv_iload hx hb dX12_leads_206 (lv_at hl 6 rfl) ?_
          refine tk_Vi hC hK hw hT hA hE hSR kM_at0 (by decide) rfl (k_X12_otherOf_1 l adK adV dC dI cy ad B (by omega) (by omega) qr s1   r99 (show 0 ≤ r99.toInt by omega) (show r99.toInt ≤ 11 by omega) a4 (show 0 ≤ a4.toInt by omega) (show a4.toInt ≤ 9 by omega) w94 H.size hT ) (cwV 2 hC.2.2.2.2 gX12_leads_X12_otherOf rfl rfl rfl (by decide +kernel) ⟨Nat.le_of_ble_eq_true rfl, Nat.le_of_ble_eq_true rfl⟩) rfl hl.1 rfl (Nat.le_of_ble_eq_true rfl) dX12_leads_208 (fun r338 w340 H locs hp339 hw => ?_)
          obtain ⟨rfl, hg347⟩ := hp339
          rcases hg347 with ⟨g342, g343⟩ | ⟨g344, g345, c346⟩
          · refine lv_iload hx hb dX12_leads_211 (lv_at hl 7 rfl) ?_
            refine lv_if_eq (tgt := 235) hx hb dX12_leads_213 (by decide) (fun _ => ?_) (fun c => absurd (by decide) c)
            refine lv_iconst (v := 0) hx hb dX12_leads_235 (by decide) ?_
            refine lv_iload hx hb dX12_leads_236 (lv_at hl 9 rfl) ?_
            refine tk_Vv hC hK hw hT hA hE hSR kM_at0 (by decide) rfl (k_X12_could_3 l adK adV dC dI cy ad B (by omega) (by omega) qr s1   x336 (show 0 ≤ x336.toInt by omega) (show x336.toInt ≤ 120 by omega) r338 (show 0 ≤ r338.toInt by omega) (show r338.toInt ≤ 9 by omega) v145_7 w94 H.size hT ) (cwV 4 hC.2.2.2.2 gX12_leads_X12_could rfl rfl rfl (by decide +kernel) ⟨Nat.le_of_ble_eq_true rfl, Nat.le_of_ble_eq_true rfl⟩) rfl hl.1 rfl (Nat.le_of_ble_eq_true rfl) dX12_leads_238 (fun w350 H locs hp349 hw => ?_)
            obtain ⟨hT, k351, hg352⟩ := hp349
            have hF := hF.tr k351 (by decide)
            have c353 := k351.gi kM_at12 rfl c97
            have c354 := k351.gi kM_at12 rfl c98
            have c355 := k351.gi kM_at12 (by decide) c112
            have c356 := k351.gi kM_at12 rfl c113
            have c357 := k351.gi kM_at12 rfl c334
            clear hg352
            exact J241 v145_7 v145_8 v145_9 r99 x336 f145_12__9_a1_toInt_217_toNat f145_12__9_a1_toInt_218_toNat x111 H locs ls w350 (show 0 ≤ a1.toInt by omega) (show a1.toInt ≤ 3 by omega) (show 0 ≤ a2.toInt by omega) (show a2.toInt ≤ 1073741824 by omega) (show 0 ≤ a3.toInt by omega) (show a3.toInt ≤ 120 by omega) (show 0 ≤ a4.toInt by omega) (show a4.toInt ≤ 9 by omega) (show 0 ≤ a6.toInt by omega) (show a6.toInt ≤ 120 by omega) (show 0 ≤ v145_8.toInt by omega) (show v145_8.toInt ≤ 1073741944 by omega) (show 0 ≤ v145_9.toInt by omega) (show v145_9.toInt ≤ 1 by omega) (show 0 ≤ r99.toInt by omega) (show r99.toInt ≤ 11 by omega) (show 0 ≤ x336.toInt by omega) (show x336.toInt ≤ 129 by omega) (show 0 ≤ f145_12__9_a1_toInt_217_toNat.toInt by omega) (show f145_12__9_a1_toInt_217_toNat.toInt ≤ 9 by omega) (show 0 ≤ f145_12__9_a1_toInt_218_toNat.toInt by omega) (show f145_12__9_a1_toInt_218_toNat.toInt ≤ 3 by omega) (show 1 ≤ x111.toInt by omega) (show x111.toInt ≤ 12 by omega)  hw hT hF c353 c354 c355 (lv_sub hl [2, 3, 4, 5, 6, 7, 8, 9, 10, 11, 1, 0] rfl)
          · refine lv_iload hx hb dX12_leads_211 (lv_at hl 7 rfl) ?_
            refine lv_if_eq (tgt := 235) hx hb dX12_leads_213 (by decide) (fun _ => ?_) (fun c => absurd (by decide) c)
            refine lv_iconst (v := 0) hx hb dX12_leads_235 (by decide) ?_
            refine lv_iload hx hb dX12_leads_236 (lv_at hl 9 rfl) ?_
            refine tk_Vv hC hK hw hT hA hE hSR kM_at0 (by decide) rfl (k_X12_could_3 l adK adV dC dI cy ad B (by omega) (by omega) qr s1   x336 (show 0 ≤ x336.toInt by omega) (show x336.toInt ≤ 120 by omega) r338 (show 0 ≤ r338.toInt by omega) (show r338.toInt ≤ 9 by omega) v145_7 w94 H.size hT ) (cwV 4 hC.2.2.2.2 gX12_leads_X12_could rfl rfl rfl (by decide +kernel) ⟨Nat.le_of_ble_eq_true rfl, Nat.le_of_ble_eq_true rfl⟩) rfl hl.1 rfl (Nat.le_of_ble_eq_true rfl) dX12_leads_238 (fun w360 H locs hp359 hw => ?_)
            obtain ⟨hT, k361, hg362⟩ := hp359
            have hF := hF.tr k361 (by decide)
            have c363 := k361.gi kM_at12 rfl c97
            have c364 := k361.gi kM_at12 rfl c98
            have c365 := k361.gi kM_at12 (by decide) c112
            have c366 := k361.gi kM_at12 rfl c113
            have c367 := k361.gi kM_at12 rfl c334
            clear hg362
            exact J241 v145_7 v145_8 v145_9 r99 x336 f145_12__9_a1_toInt_217_toNat f145_12__9_a1_toInt_218_toNat x111 H locs ls w360 (show 0 ≤ a1.toInt by omega) (show a1.toInt ≤ 3 by omega) (show 0 ≤ a2.toInt by omega) (show a2.toInt ≤ 1073741824 by omega) (show 0 ≤ a3.toInt by omega) (show a3.toInt ≤ 120 by omega) (show 0 ≤ a4.toInt by omega) (show a4.toInt ≤ 9 by omega) (show 0 ≤ a6.toInt by omega) (show a6.toInt ≤ 120 by omega) (show 0 ≤ v145_8.toInt by omega) (show v145_8.toInt ≤ 1073741944 by omega) (show 0 ≤ v145_9.toInt by omega) (show v145_9.toInt ≤ 1 by omega) (show 0 ≤ r99.toInt by omega) (show r99.toInt ≤ 11 by omega) (show 0 ≤ x336.toInt by omega) (show x336.toInt ≤ 129 by omega) (show 0 ≤ f145_12__9_a1_toInt_217_toNat.toInt by omega) (show f145_12__9_a1_toInt_217_toNat.toInt ≤ 9 by omega) (show 0 ≤ f145_12__9_a1_toInt_218_toNat.toInt by omega) (show f145_12__9_a1_toInt_218_toNat.toInt ≤ 3 by omega) (show 1 ≤ x111.toInt by omega) (show x111.toInt ≤ 12 by omega)  hw hT hF c363 c364 c365 (lv_sub hl [2, 3, 4, 5, 6, 7, 8, 9, 10, 11, 1, 0] rfl)
      · refine lv_if_ne (tgt := 182) hx hb dX12_leads_178 (by decide) (fun _ => ?_) (fun c => absurd c (by decide))
        refine lv_iload_n hx hb dX12_leads_182 rfl (lv_at hl 4 rfl) ?_
        refine lv_aload_n hx hb dX12_leads_183 rfl (lv_at hl 1 rfl) ?_
        refine lv_iload hx hb dX12_leads_184 (lv_at hl 0 rfl) ?_
        refine lv_iconst (v := 2) hx hb dX12_leads_186 (by decide) ?_
        refine tk_Vi hC hK hw hT hA hE hSR kM_at0 (by decide) rfl (k_X12_streetOf_6 l adK adV dC dI cy ad B (by omega) (by omega) qr s1   r99 (show 0 ≤ r99.toInt by omega) (show r99.toInt ≤ 11 by omega) w94 H.size hT ) (cwV 2 hC.2.2.2.2 gX12_leads_X12_streetOf rfl rfl rfl (by decide +kernel) ⟨Nat.le_of_ble_eq_true rfl, Nat.le_of_ble_eq_true rfl⟩) rfl hl.1 rfl (Nat.le_of_ble_eq_true rfl) dX12_leads_187 (fun r368 w370 H locs hp369 hw => ?_)
        obtain ⟨rfl, hg375⟩ := hp369
        obtain ⟨g372, g373, c374⟩ := hg375
        refine lv_iadd hx hb dX12_leads_190 ?_
        refine lv_topi (fun x376 ex376 => ?_)
        have ex376 : x376.toInt = a3.toInt + r368.toInt := by rw [ex376]; exact wk_add (show (-2147483648) ≤ a3.toInt + r368.toInt by omega) (show a3.toInt + r368.toInt ≤ 2147483647 by omega)
        refine lv_istore (lv' := [(11, .int x376), (10, .int r99), (0, .ref (ad 0)), (1, .int a1), (2, .int a2), (3, .int a3), (4, .int a4), (5, .int 0), (6, .int a6), (7, .int v145_7), (8, .int v145_8), (9, .int v145_9)]) hx hb dX12_leads_191 hl (by decide) rfl (fun ls hl => ?_)
        refine lv_iload hx hb dX12_leads_193 (lv_at hl 0 rfl) ?_
        refine lv_iload hx hb dX12_leads_195 (lv_at hl 8 rfl) ?_
        refine lv_icmp_gt (tgt := 241) hx hb dX12_leads_197 (by decide) (fun c377 => ?_) (fun c377 => ?_)
        · have c377 : a6.toInt < x376.toInt := wk_lt.mp c377
          exact J241 v145_7 v145_8 v145_9 r99 x376 f145_12__9_a1_toInt_217_toNat f145_12__9_a1_toInt_218_toNat x111 H locs ls w94 (show 0 ≤ a1.toInt by omega) (show a1.toInt ≤ 3 by omega) (show 0 ≤ a2.toInt by omega) (show a2.toInt ≤ 1073741824 by omega) (show 0 ≤ a3.toInt by omega) (show a3.toInt ≤ 120 by omega) (show 0 ≤ a4.toInt by omega) (show a4.toInt ≤ 9 by omega) (show 0 ≤ a6.toInt by omega) (show a6.toInt ≤ 120 by omega) (show 0 ≤ v145_8.toInt by omega) (show v145_8.toInt ≤ 1073741944 by omega) (show 0 ≤ v145_9.toInt by omega) (show v145_9.toInt ≤ 1 by omega) (show 0 ≤ r99.toInt by omega) (show r99.toInt ≤ 11 by omega) (show 0 ≤ x376.toInt by omega) (show x376.toInt ≤ 129 by omega) (show 0 ≤ f145_12__9_a1_toInt_217_toNat.toInt by omega) (show f145_12__9_a1_toInt_217_toNat.toInt ≤ 9 by omega) (show 0 ≤ f145_12__9_a1_toInt_218_toNat.toInt by omega) (show f145_12__9_a1_toInt_218_toNat.toInt ≤ 3 by omega) (show 1 ≤ x111.toInt by omega) (show x111.toInt ≤ 12 by omega)  hw hT hF c97 c98 c112 (lv_sub hl [2, 3, 4, 5, 6, 7, 8, 9, 10, 11, 1, 0] rfl)
        · have c377 : x376.toInt ≤ a6.toInt := wk_ltF c377
          refine lv_aload_n hx hb dX12_leads_200 rfl (lv_at hl 2 rfl) ?_
          refine lv_iload hx hb dX12_leads_201 (lv_at hl 0 rfl) ?_
          refine lv_aload_n hx hb dX12_leads_203 rfl (lv_at hl 2 rfl) ?_
          refine lv_iload hx hb dX12_leads_204 (lv_at hl 1 rfl) ?_
          refine lv_iload hx hb dX12_leads_206 (lv_at hl 6 rfl) ?_
          refine tk_Vi hC hK hw hT hA hE hSR kM_at0 (by decide) rfl (k_X12_otherOf_1 l adK adV dC dI cy ad B (by omega) (by omega) qr s1   r99 (show 0 ≤ r99.toInt by omega) (show r99.toInt ≤ 11 by omega) a4 (show 0 ≤ a4.toInt by omega) (show a4.toInt ≤ 9 by omega) w94 H.size hT ) (cwV 2 hC.2.2.2.2 gX12_leads_X12_otherOf rfl rfl rfl (by decide +kernel) ⟨Nat.le_of_ble_eq_true rfl, Nat.le_of_ble_eq_true rfl⟩) rfl hl.1 rfl (Nat.le_of_ble_eq_true rfl) dX12_leads_208 (fun r378 w380 H locs hp379 hw => ?_)
          obtain ⟨rfl, hg387⟩ := hp379
          rcases hg387 with ⟨g382, g383⟩ | ⟨g384, g385, c386⟩
          · refine lv_iload hx hb dX12_leads_211 (lv_at hl 7 rfl) ?_
            refine lv_if_eq (tgt := 235) hx hb dX12_leads_213 (by decide) (fun _ => ?_) (fun c => absurd (by decide) c)
            refine lv_iconst (v := 0) hx hb dX12_leads_235 (by decide) ?_
            refine lv_iload hx hb dX12_leads_236 (lv_at hl 9 rfl) ?_
            refine tk_Vv hC hK hw hT hA hE hSR kM_at0 (by decide) rfl (k_X12_could_3 l adK adV dC dI cy ad B (by omega) (by omega) qr s1   x376 (show 0 ≤ x376.toInt by omega) (show x376.toInt ≤ 120 by omega) r378 (show 0 ≤ r378.toInt by omega) (show r378.toInt ≤ 9 by omega) v145_7 w94 H.size hT ) (cwV 4 hC.2.2.2.2 gX12_leads_X12_could rfl rfl rfl (by decide +kernel) ⟨Nat.le_of_ble_eq_true rfl, Nat.le_of_ble_eq_true rfl⟩) rfl hl.1 rfl (Nat.le_of_ble_eq_true rfl) dX12_leads_238 (fun w390 H locs hp389 hw => ?_)
            obtain ⟨hT, k391, hg392⟩ := hp389
            have hF := hF.tr k391 (by decide)
            have c393 := k391.gi kM_at12 rfl c97
            have c394 := k391.gi kM_at12 rfl c98
            have c395 := k391.gi kM_at12 (by decide) c112
            have c396 := k391.gi kM_at12 rfl c113
            have c397 := k391.gi kM_at12 rfl c283
            have c398 := k391.gi kM_at12 rfl c374
            clear hg392
            exact J241 v145_7 v145_8 v145_9 r99 x376 f145_12__9_a1_toInt_217_toNat f145_12__9_a1_toInt_218_toNat x111 H locs ls w390 (show 0 ≤ a1.toInt by omega) (show a1.toInt ≤ 3 by omega) (show 0 ≤ a2.toInt by omega) (show a2.toInt ≤ 1073741824 by omega) (show 0 ≤ a3.toInt by omega) (show a3.toInt ≤ 120 by omega) (show 0 ≤ a4.toInt by omega) (show a4.toInt ≤ 9 by omega) (show 0 ≤ a6.toInt by omega) (show a6.toInt ≤ 120 by omega) (show 0 ≤ v145_8.toInt by omega) (show v145_8.toInt ≤ 1073741944 by omega) (show 0 ≤ v145_9.toInt by omega) (show v145_9.toInt ≤ 1 by omega) (show 0 ≤ r99.toInt by omega) (show r99.toInt ≤ 11 by omega) (show 0 ≤ x376.toInt by omega) (show x376.toInt ≤ 129 by omega) (show 0 ≤ f145_12__9_a1_toInt_217_toNat.toInt by omega) (show f145_12__9_a1_toInt_217_toNat.toInt ≤ 9 by omega) (show 0 ≤ f145_12__9_a1_toInt_218_toNat.toInt by omega) (show f145_12__9_a1_toInt_218_toNat.toInt ≤ 3 by omega) (show 1 ≤ x111.toInt by omega) (show x111.toInt ≤ 12 by omega)  hw hT hF c393 c394 c395 (lv_sub hl [2, 3, 4, 5, 6, 7, 8, 9, 10, 11, 1, 0] rfl)
          · refine lv_iload hx hb dX12_leads_211 (lv_at hl 7 rfl) ?_
            refine lv_if_eq (tgt := 235) hx hb dX12_leads_213 (by decide) (fun _ => ?_) (fun c => absurd (by decide) c)
            refine lv_iconst (v := 0) hx hb dX12_leads_235 (by decide) ?_
            refine lv_iload hx hb dX12_leads_236 (lv_at hl 9 rfl) ?_
            refine tk_Vv hC hK hw hT hA hE hSR kM_at0 (by decide) rfl (k_X12_could_3 l adK adV dC dI cy ad B (by omega) (by omega) qr s1   x376 (show 0 ≤ x376.toInt by omega) (show x376.toInt ≤ 120 by omega) r378 (show 0 ≤ r378.toInt by omega) (show r378.toInt ≤ 9 by omega) v145_7 w94 H.size hT ) (cwV 4 hC.2.2.2.2 gX12_leads_X12_could rfl rfl rfl (by decide +kernel) ⟨Nat.le_of_ble_eq_true rfl, Nat.le_of_ble_eq_true rfl⟩) rfl hl.1 rfl (Nat.le_of_ble_eq_true rfl) dX12_leads_238 (fun w401 H locs hp400 hw => ?_)
            obtain ⟨hT, k402, hg403⟩ := hp400
            have hF := hF.tr k402 (by decide)
            have c404 := k402.gi kM_at12 rfl c97
            have c405 := k402.gi kM_at12 rfl c98
            have c406 := k402.gi kM_at12 (by decide) c112
            have c407 := k402.gi kM_at12 rfl c113
            have c408 := k402.gi kM_at12 rfl c283
            have c409 := k402.gi kM_at12 rfl c374
            clear hg403
            exact J241 v145_7 v145_8 v145_9 r99 x376 f145_12__9_a1_toInt_217_toNat f145_12__9_a1_toInt_218_toNat x111 H locs ls w401 (show 0 ≤ a1.toInt by omega) (show a1.toInt ≤ 3 by omega) (show 0 ≤ a2.toInt by omega) (show a2.toInt ≤ 1073741824 by omega) (show 0 ≤ a3.toInt by omega) (show a3.toInt ≤ 120 by omega) (show 0 ≤ a4.toInt by omega) (show a4.toInt ≤ 9 by omega) (show 0 ≤ a6.toInt by omega) (show a6.toInt ≤ 120 by omega) (show 0 ≤ v145_8.toInt by omega) (show v145_8.toInt ≤ 1073741944 by omega) (show 0 ≤ v145_9.toInt by omega) (show v145_9.toInt ≤ 1 by omega) (show 0 ≤ r99.toInt by omega) (show r99.toInt ≤ 11 by omega) (show 0 ≤ x376.toInt by omega) (show x376.toInt ≤ 129 by omega) (show 0 ≤ f145_12__9_a1_toInt_217_toNat.toInt by omega) (show f145_12__9_a1_toInt_217_toNat.toInt ≤ 9 by omega) (show 0 ≤ f145_12__9_a1_toInt_218_toNat.toInt by omega) (show f145_12__9_a1_toInt_218_toNat.toInt ≤ 3 by omega) (show 1 ≤ x111.toInt by omega) (show x111.toInt ≤ 12 by omega)  hw hT hF c404 c405 c406 (lv_sub hl [2, 3, 4, 5, 6, 7, 8, 9, 10, 11, 1, 0] rfl)
    · refine lv_istore (lv' := [(10, .int r99), (0, .ref (ad 0)), (1, .int a1), (2, .int a2), (3, .int a3), (4, .int a4), (5, .int 0), (6, .int a6), (7, .int v145_7), (8, .int v145_8), (9, .int v145_9)]) hx hb dX12_leads_161 hl (by decide) rfl (fun ls hl => ?_)
      refine lv_iload hx hb dX12_leads_163 (lv_at hl 0 rfl) ?_
      refine lv_if_lt (tgt := 181) hx hb dX12_leads_165 (by decide) (fun c => absurd c (fun h => absurd (show r99.toInt < (0 : Int) from wk_lt.mp h) (by omega))) (fun _ => ?_)
      refine lv_aload_n hx hb dX12_leads_168 rfl (lv_at hl 1 rfl) ?_
      refine lv_iload hx hb dX12_leads_169 (lv_at hl 0 rfl) ?_
      refine lv_iload hx hb dX12_leads_171 (lv_at hl 5 rfl) ?_
      refine lv_iload hx hb dX12_leads_173 (lv_at hl 9 rfl) ?_
      refine tk_Vi hC hK hw hT hA hE hSR kM_at0 (by decide) rfl (k_X12_isOpen_3 l adK adV dC dI cy ad B (by omega) (by omega) qr s1   r99 (show 0 ≤ r99.toInt by omega) (show r99.toInt ≤ 11 by omega) a4 (show 0 ≤ a4.toInt by omega) (show a4.toInt ≤ 9 by omega) v145_8 (show 0 ≤ v145_8.toInt by omega) (show v145_8.toInt ≤ 1073741944 by omega) w94 H.size hT ) (cwV 3 hC.2.2.2.2 gX12_leads_X12_isOpen rfl rfl rfl (by decide +kernel) ⟨Nat.le_of_ble_eq_true rfl, Nat.le_of_ble_eq_true rfl⟩) rfl hl.1 rfl (Nat.le_of_ble_eq_true rfl) dX12_leads_175 (fun r410 w412 H locs hp411 hw => ?_)
      obtain ⟨rfl, hg429⟩ := hp411
      rcases hg429 with ⟨rfl, hq414⟩ | ⟨rfl, c415, c416, hq417⟩ | ⟨rfl, c418, hq419⟩ | ⟨rfl, c420, hq421⟩ | ⟨rfl, c422, c423, hq424⟩ | ⟨rfl, c425, hq426⟩ | ⟨rfl, c427, hq428⟩
      · refine lv_if_ne (tgt := 182) hx hb dX12_leads_178 (by decide) (fun c => absurd (by decide) c) (fun _ => ?_)
        exact J181 v145_7 v145_8 v145_9 r99 f145_12__9_a1_toInt_217_toNat f145_12__9_a1_toInt_218_toNat H locs ls w94 (show 0 ≤ a1.toInt by omega) (show a1.toInt ≤ 3 by omega) (show 0 ≤ a2.toInt by omega) (show a2.toInt ≤ 1073741824 by omega) (show 0 ≤ a3.toInt by omega) (show a3.toInt ≤ 120 by omega) (show 0 ≤ a4.toInt by omega) (show a4.toInt ≤ 9 by omega) (show 0 ≤ a6.toInt by omega) (show a6.toInt ≤ 120 by omega) (show 0 ≤ v145_8.toInt by omega) (show v145_8.toInt ≤ 1073741944 by omega) (show 0 ≤ v145_9.toInt by omega) (show v145_9.toInt ≤ 1 by omega) (show (-1) ≤ r99.toInt by omega) (show r99.toInt ≤ 11 by omega) (show 0 ≤ f145_12__9_a1_toInt_217_toNat.toInt by omega) (show f145_12__9_a1_toInt_217_toNat.toInt ≤ 9 by omega) (show 0 ≤ f145_12__9_a1_toInt_218_toNat.toInt by omega) (show f145_12__9_a1_toInt_218_toNat.toInt ≤ 3 by omega)  hw hT hF c97 c98 (lv_sub hl [1, 2, 3, 4, 5, 6, 7, 8, 9, 10, 0] rfl)
      · refine lv_if_ne (tgt := 182) hx hb dX12_leads_178 (by decide) (fun c => absurd (by decide) c) (fun _ => ?_)
        exact J181 v145_7 v145_8 v145_9 r99 f145_12__9_a1_toInt_217_toNat f145_12__9_a1_toInt_218_toNat H locs ls w94 (show 0 ≤ a1.toInt by omega) (show a1.toInt ≤ 3 by omega) (show 0 ≤ a2.toInt by omega) (show a2.toInt ≤ 1073741824 by omega) (show 0 ≤ a3.toInt by omega) (show a3.toInt ≤ 120 by omega) (show 0 ≤ a4.toInt by omega) (show a4.toInt ≤ 9 by omega) (show 0 ≤ a6.toInt by omega) (show a6.toInt ≤ 120 by omega) (show 0 ≤ v145_8.toInt by omega) (show v145_8.toInt ≤ 1073741944 by omega) (show 0 ≤ v145_9.toInt by omega) (show v145_9.toInt ≤ 1 by omega) (show (-1) ≤ r99.toInt by omega) (show r99.toInt ≤ 11 by omega) (show 0 ≤ f145_12__9_a1_toInt_217_toNat.toInt by omega) (show f145_12__9_a1_toInt_217_toNat.toInt ≤ 9 by omega) (show 0 ≤ f145_12__9_a1_toInt_218_toNat.toInt by omega) (show f145_12__9_a1_toInt_218_toNat.toInt ≤ 3 by omega)  hw hT hF c97 c98 (lv_sub hl [1, 2, 3, 4, 5, 6, 7, 8, 9, 10, 0] rfl)
      · refine lv_if_ne (tgt := 182) hx hb dX12_leads_178 (by decide) (fun c => absurd (by decide) c) (fun _ => ?_)
        exact J181 v145_7 v145_8 v145_9 r99 f145_12__9_a1_toInt_217_toNat f145_12__9_a1_toInt_218_toNat H locs ls w94 (show 0 ≤ a1.toInt by omega) (show a1.toInt ≤ 3 by omega) (show 0 ≤ a2.toInt by omega) (show a2.toInt ≤ 1073741824 by omega) (show 0 ≤ a3.toInt by omega) (show a3.toInt ≤ 120 by omega) (show 0 ≤ a4.toInt by omega) (show a4.toInt ≤ 9 by omega) (show 0 ≤ a6.toInt by omega) (show a6.toInt ≤ 120 by omega) (show 0 ≤ v145_8.toInt by omega) (show v145_8.toInt ≤ 1073741944 by omega) (show 0 ≤ v145_9.toInt by omega) (show v145_9.toInt ≤ 1 by omega) (show (-1) ≤ r99.toInt by omega) (show r99.toInt ≤ 11 by omega) (show 0 ≤ f145_12__9_a1_toInt_217_toNat.toInt by omega) (show f145_12__9_a1_toInt_217_toNat.toInt ≤ 9 by omega) (show 0 ≤ f145_12__9_a1_toInt_218_toNat.toInt by omega) (show f145_12__9_a1_toInt_218_toNat.toInt ≤ 3 by omega)  hw hT hF c97 c98 (lv_sub hl [1, 2, 3, 4, 5, 6, 7, 8, 9, 10, 0] rfl)
      · refine lv_if_ne (tgt := 182) hx hb dX12_leads_178 (by decide) (fun c => absurd (by decide) c) (fun _ => ?_)
        exact J181 v145_7 v145_8 v145_9 r99 f145_12__9_a1_toInt_217_toNat f145_12__9_a1_toInt_218_toNat H locs ls w94 (show 0 ≤ a1.toInt by omega) (show a1.toInt ≤ 3 by omega) (show 0 ≤ a2.toInt by omega) (show a2.toInt ≤ 1073741824 by omega) (show 0 ≤ a3.toInt by omega) (show a3.toInt ≤ 120 by omega) (show 0 ≤ a4.toInt by omega) (show a4.toInt ≤ 9 by omega) (show 0 ≤ a6.toInt by omega) (show a6.toInt ≤ 120 by omega) (show 0 ≤ v145_8.toInt by omega) (show v145_8.toInt ≤ 1073741944 by omega) (show 0 ≤ v145_9.toInt by omega) (show v145_9.toInt ≤ 1 by omega) (show (-1) ≤ r99.toInt by omega) (show r99.toInt ≤ 11 by omega) (show 0 ≤ f145_12__9_a1_toInt_217_toNat.toInt by omega) (show f145_12__9_a1_toInt_217_toNat.toInt ≤ 9 by omega) (show 0 ≤ f145_12__9_a1_toInt_218_toNat.toInt by omega) (show f145_12__9_a1_toInt_218_toNat.toInt ≤ 3 by omega)  hw hT hF c97 c98 (lv_sub hl [1, 2, 3, 4, 5, 6, 7, 8, 9, 10, 0] rfl)
      · refine lv_if_ne (tgt := 182) hx hb dX12_leads_178 (by decide) (fun _ => ?_) (fun c => absurd c (by decide))
        refine lv_iload_n hx hb dX12_leads_182 rfl (lv_at hl 4 rfl) ?_
        refine lv_aload_n hx hb dX12_leads_183 rfl (lv_at hl 1 rfl) ?_
        refine lv_iload hx hb dX12_leads_184 (lv_at hl 0 rfl) ?_
        refine lv_iconst (v := 2) hx hb dX12_leads_186 (by decide) ?_
        refine tk_Vi hC hK hw hT hA hE hSR kM_at0 (by decide) rfl (k_X12_streetOf_6 l adK adV dC dI cy ad B (by omega) (by omega) qr s1   r99 (show 0 ≤ r99.toInt by omega) (show r99.toInt ≤ 11 by omega) w94 H.size hT ) (cwV 2 hC.2.2.2.2 gX12_leads_X12_streetOf rfl rfl rfl (by decide +kernel) ⟨Nat.le_of_ble_eq_true rfl, Nat.le_of_ble_eq_true rfl⟩) rfl hl.1 rfl (Nat.le_of_ble_eq_true rfl) dX12_leads_187 (fun r430 w432 H locs hp431 hw => ?_)
        obtain ⟨rfl, hg437⟩ := hp431
        obtain ⟨g434, g435, c436⟩ := hg437
        refine lv_iadd hx hb dX12_leads_190 ?_
        refine lv_topi (fun x438 ex438 => ?_)
        have ex438 : x438.toInt = a3.toInt + r430.toInt := by rw [ex438]; exact wk_add (show (-2147483648) ≤ a3.toInt + r430.toInt by omega) (show a3.toInt + r430.toInt ≤ 2147483647 by omega)
        refine lv_istore (lv' := [(11, .int x438), (10, .int r99), (0, .ref (ad 0)), (1, .int a1), (2, .int a2), (3, .int a3), (4, .int a4), (5, .int 0), (6, .int a6), (7, .int v145_7), (8, .int v145_8), (9, .int v145_9)]) hx hb dX12_leads_191 hl (by decide) rfl (fun ls hl => ?_)
        refine lv_iload hx hb dX12_leads_193 (lv_at hl 0 rfl) ?_
        refine lv_iload hx hb dX12_leads_195 (lv_at hl 8 rfl) ?_
        refine lv_icmp_gt (tgt := 241) hx hb dX12_leads_197 (by decide) (fun c439 => ?_) (fun c439 => ?_)
        · have c439 : a6.toInt < x438.toInt := wk_lt.mp c439
          exact J241 v145_7 v145_8 v145_9 r99 x438 f145_12__9_a1_toInt_217_toNat f145_12__9_a1_toInt_218_toNat x116 H locs ls w94 (show 0 ≤ a1.toInt by omega) (show a1.toInt ≤ 3 by omega) (show 0 ≤ a2.toInt by omega) (show a2.toInt ≤ 1073741824 by omega) (show 0 ≤ a3.toInt by omega) (show a3.toInt ≤ 120 by omega) (show 0 ≤ a4.toInt by omega) (show a4.toInt ≤ 9 by omega) (show 0 ≤ a6.toInt by omega) (show a6.toInt ≤ 120 by omega) (show 0 ≤ v145_8.toInt by omega) (show v145_8.toInt ≤ 1073741944 by omega) (show 0 ≤ v145_9.toInt by omega) (show v145_9.toInt ≤ 1 by omega) (show 0 ≤ r99.toInt by omega) (show r99.toInt ≤ 11 by omega) (show 0 ≤ x438.toInt by omega) (show x438.toInt ≤ 129 by omega) (show 0 ≤ f145_12__9_a1_toInt_217_toNat.toInt by omega) (show f145_12__9_a1_toInt_217_toNat.toInt ≤ 9 by omega) (show 0 ≤ f145_12__9_a1_toInt_218_toNat.toInt by omega) (show f145_12__9_a1_toInt_218_toNat.toInt ≤ 3 by omega) (show 1 ≤ x116.toInt by omega) (show x116.toInt ≤ 12 by omega)  hw hT hF c97 c98 c117 (lv_sub hl [2, 3, 4, 5, 6, 7, 8, 9, 10, 11, 1, 0] rfl)
        · have c439 : x438.toInt ≤ a6.toInt := wk_ltF c439
          refine lv_aload_n hx hb dX12_leads_200 rfl (lv_at hl 2 rfl) ?_
          refine lv_iload hx hb dX12_leads_201 (lv_at hl 0 rfl) ?_
          refine lv_aload_n hx hb dX12_leads_203 rfl (lv_at hl 2 rfl) ?_
          refine lv_iload hx hb dX12_leads_204 (lv_at hl 1 rfl) ?_
          refine lv_iload hx hb dX12_leads_206 (lv_at hl 6 rfl) ?_
          refine tk_Vi hC hK hw hT hA hE hSR kM_at0 (by decide) rfl (k_X12_otherOf_1 l adK adV dC dI cy ad B (by omega) (by omega) qr s1   r99 (show 0 ≤ r99.toInt by omega) (show r99.toInt ≤ 11 by omega) a4 (show 0 ≤ a4.toInt by omega) (show a4.toInt ≤ 9 by omega) w94 H.size hT ) (cwV 2 hC.2.2.2.2 gX12_leads_X12_otherOf rfl rfl rfl (by decide +kernel) ⟨Nat.le_of_ble_eq_true rfl, Nat.le_of_ble_eq_true rfl⟩) rfl hl.1 rfl (Nat.le_of_ble_eq_true rfl) dX12_leads_208 (fun r440 w442 H locs hp441 hw => ?_)
          obtain ⟨rfl, hg449⟩ := hp441
          rcases hg449 with ⟨g444, g445⟩ | ⟨g446, g447, c448⟩
          · refine lv_iload hx hb dX12_leads_211 (lv_at hl 7 rfl) ?_
            refine lv_if_eq (tgt := 235) hx hb dX12_leads_213 (by decide) (fun _ => ?_) (fun c => absurd (by decide) c)
            refine lv_iconst (v := 0) hx hb dX12_leads_235 (by decide) ?_
            refine lv_iload hx hb dX12_leads_236 (lv_at hl 9 rfl) ?_
            refine tk_Vv hC hK hw hT hA hE hSR kM_at0 (by decide) rfl (k_X12_could_3 l adK adV dC dI cy ad B (by omega) (by omega) qr s1   x438 (show 0 ≤ x438.toInt by omega) (show x438.toInt ≤ 120 by omega) r440 (show 0 ≤ r440.toInt by omega) (show r440.toInt ≤ 9 by omega) v145_7 w94 H.size hT ) (cwV 4 hC.2.2.2.2 gX12_leads_X12_could rfl rfl rfl (by decide +kernel) ⟨Nat.le_of_ble_eq_true rfl, Nat.le_of_ble_eq_true rfl⟩) rfl hl.1 rfl (Nat.le_of_ble_eq_true rfl) dX12_leads_238 (fun w452 H locs hp451 hw => ?_)
            obtain ⟨hT, k453, hg454⟩ := hp451
            have hF := hF.tr k453 (by decide)
            have c455 := k453.gi kM_at12 rfl c97
            have c456 := k453.gi kM_at12 rfl c98
            have c457 := k453.gi kM_at12 (by decide) c117
            have c458 := k453.gi kM_at12 rfl c118
            have c459 := k453.gi kM_at12 rfl c422
            have c460 := k453.gi kM_at12 rfl c436
            clear hg454
            exact J241 v145_7 v145_8 v145_9 r99 x438 f145_12__9_a1_toInt_217_toNat f145_12__9_a1_toInt_218_toNat x116 H locs ls w452 (show 0 ≤ a1.toInt by omega) (show a1.toInt ≤ 3 by omega) (show 0 ≤ a2.toInt by omega) (show a2.toInt ≤ 1073741824 by omega) (show 0 ≤ a3.toInt by omega) (show a3.toInt ≤ 120 by omega) (show 0 ≤ a4.toInt by omega) (show a4.toInt ≤ 9 by omega) (show 0 ≤ a6.toInt by omega) (show a6.toInt ≤ 120 by omega) (show 0 ≤ v145_8.toInt by omega) (show v145_8.toInt ≤ 1073741944 by omega) (show 0 ≤ v145_9.toInt by omega) (show v145_9.toInt ≤ 1 by omega) (show 0 ≤ r99.toInt by omega) (show r99.toInt ≤ 11 by omega) (show 0 ≤ x438.toInt by omega) (show x438.toInt ≤ 129 by omega) (show 0 ≤ f145_12__9_a1_toInt_217_toNat.toInt by omega) (show f145_12__9_a1_toInt_217_toNat.toInt ≤ 9 by omega) (show 0 ≤ f145_12__9_a1_toInt_218_toNat.toInt by omega) (show f145_12__9_a1_toInt_218_toNat.toInt ≤ 3 by omega) (show 1 ≤ x116.toInt by omega) (show x116.toInt ≤ 12 by omega)  hw hT hF c455 c456 c457 (lv_sub hl [2, 3, 4, 5, 6, 7, 8, 9, 10, 11, 1, 0] rfl)
          · refine lv_iload hx hb dX12_leads_211 (lv_at hl 7 rfl) ?_
            refine lv_if_eq (tgt := 235) hx hb dX12_leads_213 (by decide) (fun _ => ?_) (fun c => absurd (by decide) c)
            refine lv_iconst (v := 0) hx hb dX12_leads_235 (by decide) ?_
            refine lv_iload hx hb dX12_leads_236 (lv_at hl 9 rfl) ?_
            refine tk_Vv hC hK hw hT hA hE hSR kM_at0 (by decide) rfl (k_X12_could_3 l adK adV dC dI cy ad B (by omega) (by omega) qr s1   x438 (show 0 ≤ x438.toInt by omega) (show x438.toInt ≤ 120 by omega) r440 (show 0 ≤ r440.toInt by omega) (show r440.toInt ≤ 9 by omega) v145_7 w94 H.size hT ) (cwV 4 hC.2.2.2.2 gX12_leads_X12_could rfl rfl rfl (by decide +kernel) ⟨Nat.le_of_ble_eq_true rfl, Nat.le_of_ble_eq_true rfl⟩) rfl hl.1 rfl (Nat.le_of_ble_eq_true rfl) dX12_leads_238 (fun w463 H locs hp462 hw => ?_)
            obtain ⟨hT, k464, hg465⟩ := hp462
            have hF := hF.tr k464 (by decide)
            have c466 := k464.gi kM_at12 rfl c97
            have c467 := k464.gi kM_at12 rfl c98
            have c468 := k464.gi kM_at12 (by decide) c117
            have c469 := k464.gi kM_at12 rfl c118
            have c470 := k464.gi kM_at12 rfl c422
            have c471 := k464.gi kM_at12 rfl c436
            clear hg465
            exact J241 v145_7 v145_8 v145_9 r99 x438 f145_12__9_a1_toInt_217_toNat f145_12__9_a1_toInt_218_toNat x116 H locs ls w463 (show 0 ≤ a1.toInt by omega) (show a1.toInt ≤ 3 by omega) (show 0 ≤ a2.toInt by omega) (show a2.toInt ≤ 1073741824 by omega) (show 0 ≤ a3.toInt by omega) (show a3.toInt ≤ 120 by omega) (show 0 ≤ a4.toInt by omega) (show a4.toInt ≤ 9 by omega) (show 0 ≤ a6.toInt by omega) (show a6.toInt ≤ 120 by omega) (show 0 ≤ v145_8.toInt by omega) (show v145_8.toInt ≤ 1073741944 by omega) (show 0 ≤ v145_9.toInt by omega) (show v145_9.toInt ≤ 1 by omega) (show 0 ≤ r99.toInt by omega) (show r99.toInt ≤ 11 by omega) (show 0 ≤ x438.toInt by omega) (show x438.toInt ≤ 129 by omega) (show 0 ≤ f145_12__9_a1_toInt_217_toNat.toInt by omega) (show f145_12__9_a1_toInt_217_toNat.toInt ≤ 9 by omega) (show 0 ≤ f145_12__9_a1_toInt_218_toNat.toInt by omega) (show f145_12__9_a1_toInt_218_toNat.toInt ≤ 3 by omega) (show 1 ≤ x116.toInt by omega) (show x116.toInt ≤ 12 by omega)  hw hT hF c466 c467 c468 (lv_sub hl [2, 3, 4, 5, 6, 7, 8, 9, 10, 11, 1, 0] rfl)
      · refine lv_if_ne (tgt := 182) hx hb dX12_leads_178 (by decide) (fun _ => ?_) (fun c => absurd c (by decide))
        refine lv_iload_n hx hb dX12_leads_182 rfl (lv_at hl 4 rfl) ?_
        refine lv_aload_n hx hb dX12_leads_183 rfl (lv_at hl 1 rfl) ?_
        refine lv_iload hx hb dX12_leads_184 (lv_at hl 0 rfl) ?_
        refine lv_iconst (v := 2) hx hb dX12_leads_186 (by decide) ?_
        refine tk_Vi hC hK hw hT hA hE hSR kM_at0 (by decide) rfl (k_X12_streetOf_6 l adK adV dC dI cy ad B (by omega) (by omega) qr s1   r99 (show 0 ≤ r99.toInt by omega) (show r99.toInt ≤ 11 by omega) w94 H.size hT ) (cwV 2 hC.2.2.2.2 gX12_leads_X12_streetOf rfl rfl rfl (by decide +kernel) ⟨Nat.le_of_ble_eq_true rfl, Nat.le_of_ble_eq_true rfl⟩) rfl hl.1 rfl (Nat.le_of_ble_eq_true rfl) dX12_leads_187 (fun r472 w474 H locs hp473 hw => ?_)
        obtain ⟨rfl, hg479⟩ := hp473
        obtain ⟨g476, g477, c478⟩ := hg479
        refine lv_iadd hx hb dX12_leads_190 ?_
        refine lv_topi (fun x480 ex480 => ?_)
        have ex480 : x480.toInt = a3.toInt + r472.toInt := by rw [ex480]; exact wk_add (show (-2147483648) ≤ a3.toInt + r472.toInt by omega) (show a3.toInt + r472.toInt ≤ 2147483647 by omega)
        refine lv_istore (lv' := [(11, .int x480), (10, .int r99), (0, .ref (ad 0)), (1, .int a1), (2, .int a2), (3, .int a3), (4, .int a4), (5, .int 0), (6, .int a6), (7, .int v145_7), (8, .int v145_8), (9, .int v145_9)]) hx hb dX12_leads_191 hl (by decide) rfl (fun ls hl => ?_)
        refine lv_iload hx hb dX12_leads_193 (lv_at hl 0 rfl) ?_
        refine lv_iload hx hb dX12_leads_195 (lv_at hl 8 rfl) ?_
        refine lv_icmp_gt (tgt := 241) hx hb dX12_leads_197 (by decide) (fun c481 => ?_) (fun c481 => ?_)
        · have c481 : a6.toInt < x480.toInt := wk_lt.mp c481
          exact J241 v145_7 v145_8 v145_9 r99 x480 f145_12__9_a1_toInt_217_toNat f145_12__9_a1_toInt_218_toNat x116 H locs ls w94 (show 0 ≤ a1.toInt by omega) (show a1.toInt ≤ 3 by omega) (show 0 ≤ a2.toInt by omega) (show a2.toInt ≤ 1073741824 by omega) (show 0 ≤ a3.toInt by omega) (show a3.toInt ≤ 120 by omega) (show 0 ≤ a4.toInt by omega) (show a4.toInt ≤ 9 by omega) (show 0 ≤ a6.toInt by omega) (show a6.toInt ≤ 120 by omega) (show 0 ≤ v145_8.toInt by omega) (show v145_8.toInt ≤ 1073741944 by omega) (show 0 ≤ v145_9.toInt by omega) (show v145_9.toInt ≤ 1 by omega) (show 0 ≤ r99.toInt by omega) (show r99.toInt ≤ 11 by omega) (show 0 ≤ x480.toInt by omega) (show x480.toInt ≤ 129 by omega) (show 0 ≤ f145_12__9_a1_toInt_217_toNat.toInt by omega) (show f145_12__9_a1_toInt_217_toNat.toInt ≤ 9 by omega) (show 0 ≤ f145_12__9_a1_toInt_218_toNat.toInt by omega) (show f145_12__9_a1_toInt_218_toNat.toInt ≤ 3 by omega) (show 1 ≤ x116.toInt by omega) (show x116.toInt ≤ 12 by omega)  hw hT hF c97 c98 c117 (lv_sub hl [2, 3, 4, 5, 6, 7, 8, 9, 10, 11, 1, 0] rfl)
        · have c481 : x480.toInt ≤ a6.toInt := wk_ltF c481
          refine lv_aload_n hx hb dX12_leads_200 rfl (lv_at hl 2 rfl) ?_
          refine lv_iload hx hb dX12_leads_201 (lv_at hl 0 rfl) ?_
          refine lv_aload_n hx hb dX12_leads_203 rfl (lv_at hl 2 rfl) ?_
          refine lv_iload hx hb dX12_leads_204 (lv_at hl 1 rfl) ?_
          refine lv_iload hx hb dX12_leads_206 (lv_at hl 6 rfl) ?_
          refine tk_Vi hC hK hw hT hA hE hSR kM_at0 (by decide) rfl (k_X12_otherOf_1 l adK adV dC dI cy ad B (by omega) (by omega) qr s1   r99 (show 0 ≤ r99.toInt by omega) (show r99.toInt ≤ 11 by omega) a4 (show 0 ≤ a4.toInt by omega) (show a4.toInt ≤ 9 by omega) w94 H.size hT ) (cwV 2 hC.2.2.2.2 gX12_leads_X12_otherOf rfl rfl rfl (by decide +kernel) ⟨Nat.le_of_ble_eq_true rfl, Nat.le_of_ble_eq_true rfl⟩) rfl hl.1 rfl (Nat.le_of_ble_eq_true rfl) dX12_leads_208 (fun r482 w484 H locs hp483 hw => ?_)
          obtain ⟨rfl, hg491⟩ := hp483
          rcases hg491 with ⟨g486, g487⟩ | ⟨g488, g489, c490⟩
          · refine lv_iload hx hb dX12_leads_211 (lv_at hl 7 rfl) ?_
            refine lv_if_eq (tgt := 235) hx hb dX12_leads_213 (by decide) (fun _ => ?_) (fun c => absurd (by decide) c)
            refine lv_iconst (v := 0) hx hb dX12_leads_235 (by decide) ?_
            refine lv_iload hx hb dX12_leads_236 (lv_at hl 9 rfl) ?_
            refine tk_Vv hC hK hw hT hA hE hSR kM_at0 (by decide) rfl (k_X12_could_3 l adK adV dC dI cy ad B (by omega) (by omega) qr s1   x480 (show 0 ≤ x480.toInt by omega) (show x480.toInt ≤ 120 by omega) r482 (show 0 ≤ r482.toInt by omega) (show r482.toInt ≤ 9 by omega) v145_7 w94 H.size hT ) (cwV 4 hC.2.2.2.2 gX12_leads_X12_could rfl rfl rfl (by decide +kernel) ⟨Nat.le_of_ble_eq_true rfl, Nat.le_of_ble_eq_true rfl⟩) rfl hl.1 rfl (Nat.le_of_ble_eq_true rfl) dX12_leads_238 (fun w494 H locs hp493 hw => ?_)
            obtain ⟨hT, k495, hg496⟩ := hp493
            have hF := hF.tr k495 (by decide)
            have c497 := k495.gi kM_at12 rfl c97
            have c498 := k495.gi kM_at12 rfl c98
            have c499 := k495.gi kM_at12 (by decide) c117
            have c500 := k495.gi kM_at12 rfl c118
            have c501 := k495.gi kM_at12 rfl c425
            have c502 := k495.gi kM_at12 rfl c478
            clear hg496
            exact J241 v145_7 v145_8 v145_9 r99 x480 f145_12__9_a1_toInt_217_toNat f145_12__9_a1_toInt_218_toNat x116 H locs ls w494 (show 0 ≤ a1.toInt by omega) (show a1.toInt ≤ 3 by omega) (show 0 ≤ a2.toInt by omega) (show a2.toInt ≤ 1073741824 by omega) (show 0 ≤ a3.toInt by omega) (show a3.toInt ≤ 120 by omega) (show 0 ≤ a4.toInt by omega) (show a4.toInt ≤ 9 by omega) (show 0 ≤ a6.toInt by omega) (show a6.toInt ≤ 120 by omega) (show 0 ≤ v145_8.toInt by omega) (show v145_8.toInt ≤ 1073741944 by omega) (show 0 ≤ v145_9.toInt by omega) (show v145_9.toInt ≤ 1 by omega) (show 0 ≤ r99.toInt by omega) (show r99.toInt ≤ 11 by omega) (show 0 ≤ x480.toInt by omega) (show x480.toInt ≤ 129 by omega) (show 0 ≤ f145_12__9_a1_toInt_217_toNat.toInt by omega) (show f145_12__9_a1_toInt_217_toNat.toInt ≤ 9 by omega) (show 0 ≤ f145_12__9_a1_toInt_218_toNat.toInt by omega) (show f145_12__9_a1_toInt_218_toNat.toInt ≤ 3 by omega) (show 1 ≤ x116.toInt by omega) (show x116.toInt ≤ 12 by omega)  hw hT hF c497 c498 c499 (lv_sub hl [2, 3, 4, 5, 6, 7, 8, 9, 10, 11, 1, 0] rfl)
          · refine lv_iload hx hb dX12_leads_211 (lv_at hl 7 rfl) ?_
            refine lv_if_eq (tgt := 235) hx hb dX12_leads_213 (by decide) (fun _ => ?_) (fun c => absurd (by decide) c)
            refine lv_iconst (v := 0) hx hb dX12_leads_235 (by decide) ?_
            refine lv_iload hx hb dX12_leads_236 (lv_at hl 9 rfl) ?_
            refine tk_Vv hC hK hw hT hA hE hSR kM_at0 (by decide) rfl (k_X12_could_3 l adK adV dC dI cy ad B (by omega) (by omega) qr s1   x480 (show 0 ≤ x480.toInt by omega) (show x480.toInt ≤ 120 by omega) r482 (show 0 ≤ r482.toInt by omega) (show r482.toInt ≤ 9 by omega) v145_7 w94 H.size hT ) (cwV 4 hC.2.2.2.2 gX12_leads_X12_could rfl rfl rfl (by decide +kernel) ⟨Nat.le_of_ble_eq_true rfl, Nat.le_of_ble_eq_true rfl⟩) rfl hl.1 rfl (Nat.le_of_ble_eq_true rfl) dX12_leads_238 (fun w505 H locs hp504 hw => ?_)
            obtain ⟨hT, k506, hg507⟩ := hp504
            have hF := hF.tr k506 (by decide)
            have c508 := k506.gi kM_at12 rfl c97
            have c509 := k506.gi kM_at12 rfl c98
            have c510 := k506.gi kM_at12 (by decide) c117
            have c511 := k506.gi kM_at12 rfl c118
            have c512 := k506.gi kM_at12 rfl c425
            have c513 := k506.gi kM_at12 rfl c478
            clear hg507
            exact J241 v145_7 v145_8 v145_9 r99 x480 f145_12__9_a1_toInt_217_toNat f145_12__9_a1_toInt_218_toNat x116 H locs ls w505 (show 0 ≤ a1.toInt by omega) (show a1.toInt ≤ 3 by omega) (show 0 ≤ a2.toInt by omega) (show a2.toInt ≤ 1073741824 by omega) (show 0 ≤ a3.toInt by omega) (show a3.toInt ≤ 120 by omega) (show 0 ≤ a4.toInt by omega) (show a4.toInt ≤ 9 by omega) (show 0 ≤ a6.toInt by omega) (show a6.toInt ≤ 120 by omega) (show 0 ≤ v145_8.toInt by omega) (show v145_8.toInt ≤ 1073741944 by omega) (show 0 ≤ v145_9.toInt by omega) (show v145_9.toInt ≤ 1 by omega) (show 0 ≤ r99.toInt by omega) (show r99.toInt ≤ 11 by omega) (show 0 ≤ x480.toInt by omega) (show x480.toInt ≤ 129 by omega) (show 0 ≤ f145_12__9_a1_toInt_217_toNat.toInt by omega) (show f145_12__9_a1_toInt_217_toNat.toInt ≤ 9 by omega) (show 0 ≤ f145_12__9_a1_toInt_218_toNat.toInt by omega) (show f145_12__9_a1_toInt_218_toNat.toInt ≤ 3 by omega) (show 1 ≤ x116.toInt by omega) (show x116.toInt ≤ 12 by omega)  hw hT hF c508 c509 c510 (lv_sub hl [2, 3, 4, 5, 6, 7, 8, 9, 10, 11, 1, 0] rfl)
      · refine lv_if_ne (tgt := 182) hx hb dX12_leads_178 (by decide) (fun _ => ?_) (fun c => absurd c (by decide))
        refine lv_iload_n hx hb dX12_leads_182 rfl (lv_at hl 4 rfl) ?_
        refine lv_aload_n hx hb dX12_leads_183 rfl (lv_at hl 1 rfl) ?_
        refine lv_iload hx hb dX12_leads_184 (lv_at hl 0 rfl) ?_
        refine lv_iconst (v := 2) hx hb dX12_leads_186 (by decide) ?_
        refine tk_Vi hC hK hw hT hA hE hSR kM_at0 (by decide) rfl (k_X12_streetOf_6 l adK adV dC dI cy ad B (by omega) (by omega) qr s1   r99 (show 0 ≤ r99.toInt by omega) (show r99.toInt ≤ 11 by omega) w94 H.size hT ) (cwV 2 hC.2.2.2.2 gX12_leads_X12_streetOf rfl rfl rfl (by decide +kernel) ⟨Nat.le_of_ble_eq_true rfl, Nat.le_of_ble_eq_true rfl⟩) rfl hl.1 rfl (Nat.le_of_ble_eq_true rfl) dX12_leads_187 (fun r514 w516 H locs hp515 hw => ?_)
        obtain ⟨rfl, hg521⟩ := hp515
        obtain ⟨g518, g519, c520⟩ := hg521
        refine lv_iadd hx hb dX12_leads_190 ?_
        refine lv_topi (fun x522 ex522 => ?_)
        have ex522 : x522.toInt = a3.toInt + r514.toInt := by rw [ex522]; exact wk_add (show (-2147483648) ≤ a3.toInt + r514.toInt by omega) (show a3.toInt + r514.toInt ≤ 2147483647 by omega)
        refine lv_istore (lv' := [(11, .int x522), (10, .int r99), (0, .ref (ad 0)), (1, .int a1), (2, .int a2), (3, .int a3), (4, .int a4), (5, .int 0), (6, .int a6), (7, .int v145_7), (8, .int v145_8), (9, .int v145_9)]) hx hb dX12_leads_191 hl (by decide) rfl (fun ls hl => ?_)
        refine lv_iload hx hb dX12_leads_193 (lv_at hl 0 rfl) ?_
        refine lv_iload hx hb dX12_leads_195 (lv_at hl 8 rfl) ?_
        refine lv_icmp_gt (tgt := 241) hx hb dX12_leads_197 (by decide) (fun c523 => ?_) (fun c523 => ?_)
        · have c523 : a6.toInt < x522.toInt := wk_lt.mp c523
          exact J241 v145_7 v145_8 v145_9 r99 x522 f145_12__9_a1_toInt_217_toNat f145_12__9_a1_toInt_218_toNat x116 H locs ls w94 (show 0 ≤ a1.toInt by omega) (show a1.toInt ≤ 3 by omega) (show 0 ≤ a2.toInt by omega) (show a2.toInt ≤ 1073741824 by omega) (show 0 ≤ a3.toInt by omega) (show a3.toInt ≤ 120 by omega) (show 0 ≤ a4.toInt by omega) (show a4.toInt ≤ 9 by omega) (show 0 ≤ a6.toInt by omega) (show a6.toInt ≤ 120 by omega) (show 0 ≤ v145_8.toInt by omega) (show v145_8.toInt ≤ 1073741944 by omega) (show 0 ≤ v145_9.toInt by omega) (show v145_9.toInt ≤ 1 by omega) (show 0 ≤ r99.toInt by omega) (show r99.toInt ≤ 11 by omega) (show 0 ≤ x522.toInt by omega) (show x522.toInt ≤ 129 by omega) (show 0 ≤ f145_12__9_a1_toInt_217_toNat.toInt by omega) (show f145_12__9_a1_toInt_217_toNat.toInt ≤ 9 by omega) (show 0 ≤ f145_12__9_a1_toInt_218_toNat.toInt by omega) (show f145_12__9_a1_toInt_218_toNat.toInt ≤ 3 by omega) (show 1 ≤ x116.toInt by omega) (show x116.toInt ≤ 12 by omega)  hw hT hF c97 c98 c117 (lv_sub hl [2, 3, 4, 5, 6, 7, 8, 9, 10, 11, 1, 0] rfl)
        · have c523 : x522.toInt ≤ a6.toInt := wk_ltF c523
          refine lv_aload_n hx hb dX12_leads_200 rfl (lv_at hl 2 rfl) ?_
          refine lv_iload hx hb dX12_leads_201 (lv_at hl 0 rfl) ?_
          refine lv_aload_n hx hb dX12_leads_203 rfl (lv_at hl 2 rfl) ?_
          refine lv_iload hx hb dX12_leads_204 (lv_at hl 1 rfl) ?_
          refine lv_iload hx hb dX12_leads_206 (lv_at hl 6 rfl) ?_
          refine tk_Vi hC hK hw hT hA hE hSR kM_at0 (by decide) rfl (k_X12_otherOf_1 l adK adV dC dI cy ad B (by omega) (by omega) qr s1   r99 (show 0 ≤ r99.toInt by omega) (show r99.toInt ≤ 11 by omega) a4 (show 0 ≤ a4.toInt by omega) (show a4.toInt ≤ 9 by omega) w94 H.size hT ) (cwV 2 hC.2.2.2.2 gX12_leads_X12_otherOf rfl rfl rfl (by decide +kernel) ⟨Nat.le_of_ble_eq_true rfl, Nat.le_of_ble_eq_true rfl⟩) rfl hl.1 rfl (Nat.le_of_ble_eq_true rfl) dX12_leads_208 (fun r524 w526 H locs hp525 hw => ?_)
          obtain ⟨rfl, hg533⟩ := hp525
          rcases hg533 with ⟨g528, g529⟩ | ⟨g530, g531, c532⟩
          · refine lv_iload hx hb dX12_leads_211 (lv_at hl 7 rfl) ?_
            refine lv_if_eq (tgt := 235) hx hb dX12_leads_213 (by decide) (fun _ => ?_) (fun c => absurd (by decide) c)
            refine lv_iconst (v := 0) hx hb dX12_leads_235 (by decide) ?_
            refine lv_iload hx hb dX12_leads_236 (lv_at hl 9 rfl) ?_
            refine tk_Vv hC hK hw hT hA hE hSR kM_at0 (by decide) rfl (k_X12_could_3 l adK adV dC dI cy ad B (by omega) (by omega) qr s1   x522 (show 0 ≤ x522.toInt by omega) (show x522.toInt ≤ 120 by omega) r524 (show 0 ≤ r524.toInt by omega) (show r524.toInt ≤ 9 by omega) v145_7 w94 H.size hT ) (cwV 4 hC.2.2.2.2 gX12_leads_X12_could rfl rfl rfl (by decide +kernel) ⟨Nat.le_of_ble_eq_true rfl, Nat.le_of_ble_eq_true rfl⟩) rfl hl.1 rfl (Nat.le_of_ble_eq_true rfl) dX12_leads_238 (fun w536 H locs hp535 hw => ?_)
            obtain ⟨hT, k537, hg538⟩ := hp535
            have hF := hF.tr k537 (by decide)
            have c539 := k537.gi kM_at12 rfl c97
            have c540 := k537.gi kM_at12 rfl c98
            have c541 := k537.gi kM_at12 (by decide) c117
            have c542 := k537.gi kM_at12 rfl c118
            have c543 := k537.gi kM_at12 rfl c520
            clear hg538
            exact J241 v145_7 v145_8 v145_9 r99 x522 f145_12__9_a1_toInt_217_toNat f145_12__9_a1_toInt_218_toNat x116 H locs ls w536 (show 0 ≤ a1.toInt by omega) (show a1.toInt ≤ 3 by omega) (show 0 ≤ a2.toInt by omega) (show a2.toInt ≤ 1073741824 by omega) (show 0 ≤ a3.toInt by omega) (show a3.toInt ≤ 120 by omega) (show 0 ≤ a4.toInt by omega) (show a4.toInt ≤ 9 by omega) (show 0 ≤ a6.toInt by omega) (show a6.toInt ≤ 120 by omega) (show 0 ≤ v145_8.toInt by omega) (show v145_8.toInt ≤ 1073741944 by omega) (show 0 ≤ v145_9.toInt by omega) (show v145_9.toInt ≤ 1 by omega) (show 0 ≤ r99.toInt by omega) (show r99.toInt ≤ 11 by omega) (show 0 ≤ x522.toInt by omega) (show x522.toInt ≤ 129 by omega) (show 0 ≤ f145_12__9_a1_toInt_217_toNat.toInt by omega) (show f145_12__9_a1_toInt_217_toNat.toInt ≤ 9 by omega) (show 0 ≤ f145_12__9_a1_toInt_218_toNat.toInt by omega) (show f145_12__9_a1_toInt_218_toNat.toInt ≤ 3 by omega) (show 1 ≤ x116.toInt by omega) (show x116.toInt ≤ 12 by omega)  hw hT hF c539 c540 c541 (lv_sub hl [2, 3, 4, 5, 6, 7, 8, 9, 10, 11, 1, 0] rfl)
          · refine lv_iload hx hb dX12_leads_211 (lv_at hl 7 rfl) ?_
            refine lv_if_eq (tgt := 235) hx hb dX12_leads_213 (by decide) (fun _ => ?_) (fun c => absurd (by decide) c)
            refine lv_iconst (v := 0) hx hb dX12_leads_235 (by decide) ?_
            refine lv_iload hx hb dX12_leads_236 (lv_at hl 9 rfl) ?_
            refine tk_Vv hC hK hw hT hA hE hSR kM_at0 (by decide) rfl (k_X12_could_3 l adK adV dC dI cy ad B (by omega) (by omega) qr s1   x522 (show 0 ≤ x522.toInt by omega) (show x522.toInt ≤ 120 by omega) r524 (show 0 ≤ r524.toInt by omega) (show r524.toInt ≤ 9 by omega) v145_7 w94 H.size hT ) (cwV 4 hC.2.2.2.2 gX12_leads_X12_could rfl rfl rfl (by decide +kernel) ⟨Nat.le_of_ble_eq_true rfl, Nat.le_of_ble_eq_true rfl⟩) rfl hl.1 rfl (Nat.le_of_ble_eq_true rfl) dX12_leads_238 (fun w546 H locs hp545 hw => ?_)
            obtain ⟨hT, k547, hg548⟩ := hp545
            have hF := hF.tr k547 (by decide)
            have c549 := k547.gi kM_at12 rfl c97
            have c550 := k547.gi kM_at12 rfl c98
            have c551 := k547.gi kM_at12 (by decide) c117
            have c552 := k547.gi kM_at12 rfl c118
            have c553 := k547.gi kM_at12 rfl c520
            have c554 := k547.gi kM_at12 rfl c532
            clear hg548
            exact J241 v145_7 v145_8 v145_9 r99 x522 f145_12__9_a1_toInt_217_toNat f145_12__9_a1_toInt_218_toNat x116 H locs ls w546 (show 0 ≤ a1.toInt by omega) (show a1.toInt ≤ 3 by omega) (show 0 ≤ a2.toInt by omega) (show a2.toInt ≤ 1073741824 by omega) (show 0 ≤ a3.toInt by omega) (show a3.toInt ≤ 120 by omega) (show 0 ≤ a4.toInt by omega) (show a4.toInt ≤ 9 by omega) (show 0 ≤ a6.toInt by omega) (show a6.toInt ≤ 120 by omega) (show 0 ≤ v145_8.toInt by omega) (show v145_8.toInt ≤ 1073741944 by omega) (show 0 ≤ v145_9.toInt by omega) (show v145_9.toInt ≤ 1 by omega) (show 0 ≤ r99.toInt by omega) (show r99.toInt ≤ 11 by omega) (show 0 ≤ x522.toInt by omega) (show x522.toInt ≤ 129 by omega) (show 0 ≤ f145_12__9_a1_toInt_217_toNat.toInt by omega) (show f145_12__9_a1_toInt_217_toNat.toInt ≤ 9 by omega) (show 0 ≤ f145_12__9_a1_toInt_218_toNat.toInt by omega) (show f145_12__9_a1_toInt_218_toNat.toInt ≤ 3 by omega) (show 1 ≤ x116.toInt by omega) (show x116.toInt ≤ 12 by omega)  hw hT hF c549 c550 c551 (lv_sub hl [2, 3, 4, 5, 6, 7, 8, 9, 10, 11, 1, 0] rfl)
    · refine lv_istore (lv' := [(10, .int (-1)), (0, .ref (ad 0)), (1, .int a1), (2, .int a2), (3, .int a3), (4, .int a4), (5, .int 0), (6, .int a6), (7, .int v145_7), (8, .int v145_8), (9, .int v145_9)]) hx hb dX12_leads_161 hl (by decide) rfl (fun ls hl => ?_)
      refine lv_iload hx hb dX12_leads_163 (lv_at hl 0 rfl) ?_
      refine lv_if_lt (tgt := 181) hx hb dX12_leads_165 (by decide) (fun _ => ?_) (fun c => absurd (by decide) c)
      exact J181 v145_7 v145_8 v145_9 (-1) f145_12__9_a1_toInt_217_toNat f145_12__9_a1_toInt_218_toNat H locs ls w94 (show 0 ≤ a1.toInt by omega) (show a1.toInt ≤ 3 by omega) (show 0 ≤ a2.toInt by omega) (show a2.toInt ≤ 1073741824 by omega) (show 0 ≤ a3.toInt by omega) (show a3.toInt ≤ 120 by omega) (show 0 ≤ a4.toInt by omega) (show a4.toInt ≤ 9 by omega) (show 0 ≤ a6.toInt by omega) (show a6.toInt ≤ 120 by omega) (show 0 ≤ v145_8.toInt by omega) (show v145_8.toInt ≤ 1073741944 by omega) (show 0 ≤ v145_9.toInt by omega) (show v145_9.toInt ≤ 1 by omega) (by decide) (by decide) (show 0 ≤ f145_12__9_a1_toInt_217_toNat.toInt by omega) (show f145_12__9_a1_toInt_217_toNat.toInt ≤ 9 by omega) (show 0 ≤ f145_12__9_a1_toInt_218_toNat.toInt by omega) (show f145_12__9_a1_toInt_218_toNat.toInt ≤ 3 by omega)  hw hT hF c97 c98 (lv_sub hl [1, 2, 3, 4, 5, 6, 7, 8, 9, 10, 0] rfl)
  have J115 : ∀ (v115_7 : Int32) (v115_8 : Int32) (v115_9 : Int32) (f115_12__9_a1_toInt_217_toNat : Int32) (H : Heap) (locs : List Loc) (ls : Array Slot) (w555 : va_W), 0 ≤ a1.toInt → a1.toInt ≤ 3 → 0 ≤ a2.toInt → a2.toInt ≤ 1073741824 → 0 ≤ a3.toInt → a3.toInt ≤ 120 → 0 ≤ a4.toInt → a4.toInt ≤ 9 → 0 ≤ a6.toInt → a6.toInt ≤ 120 → 0 ≤ v115_8.toInt → v115_8.toInt ≤ 1073741944 → 0 ≤ v115_9.toInt → v115_9.toInt ≤ 1 → 0 ≤ f115_12__9_a1_toInt_217_toNat.toInt → f115_12__9_a1_toInt_217_toNat.toInt ≤ 9 → Wd dC dI A s.heap H locs w555 → TW ksM ad cy B qr 12 w555 → FE ksM [(72, 0, 12), (73, 0, 10), (76, 0, 2600)] w0 w555 → gi w555 12 (9 * a1.toInt + 217).toNat = f115_12__9_a1_toInt_217_toNat → lv_has ls 12 [(0, .ref (ad 0)), (1, .int a1), (2, .int a2), (3, .int a3), (4, .int a4), (5, .int 0), (6, .int a6), (7, .int v115_7), (8, .int v115_8), (9, .int v115_9)] → W p l e ({ frames := 5, cells := 0, slots := 0, locals := 103 }) s m (List.toArray [.ref (ad 0), .int a1, .int a2, .int a3, .int a4, .int 0, .int a6]) below meth c H locs 0 0 (MQ below (va_Qv (P_X12_leads_1 ad cy B qr s1 a1 a2 a3 a4 a6 w0) (fun u : va_W => wpost dC dI cy A u) A) (List.toArray [.ref (ad 0), .int a1, .int a2, .int a3, .int a4, .int 0, .int a6]) s 0 0 A) (F0 m 115 ls []) := by
    intro v115_7 v115_8 v115_9 f115_12__9_a1_toInt_217_toNat H locs ls w555 r556 t557 r558 t559 r560 t561 r562 t563 r564 t565 r566 t567 r568 t569 r570 t571 hw hT hF c572 hl
    refine lv_iload hx hb dX12_leads_115 (lv_at hl 5 rfl) ?_
    refine lv_if_eq (tgt := 135) hx hb dX12_leads_117 (by decide) (fun _ => ?_) (fun c => absurd (by decide) c)
    refine lv_aload_n hx hb dX12_leads_135 rfl (lv_at hl 0 rfl) ?_
    refine lv_aload_n hx hb dX12_leads_136 rfl (lv_at hl 0 rfl) ?_
    refine lv_iload_n hx hb dX12_leads_137 rfl (lv_at hl 1 rfl) ?_
    refine lv_iconst (v := 2) hx hb dX12_leads_138 (by decide) ?_
    refine tk_Vi hC hK hw hT hA hE hSR kM_at0 (by decide) rfl (k_X12_walkerOf_10 l adK adV dC dI cy ad B (by omega) (by omega) qr s1   a1 (show 0 ≤ a1.toInt by omega) (show a1.toInt ≤ 3 by omega) w555 H.size hT ) (cwV 2 hC.2.2.2.2 gX12_leads_X12_walkerOf rfl rfl rfl (by decide +kernel) ⟨Nat.le_of_ble_eq_true rfl, Nat.le_of_ble_eq_true rfl⟩) rfl hl.1 rfl (Nat.le_of_ble_eq_true rfl) dX12_leads_139 (fun r573 w575 H locs hp574 hw => ?_)
    obtain ⟨rfl, hg580⟩ := hp574
    obtain ⟨g577, g578, c579⟩ := hg580
    refine tk_Vv hC hK hw hT hA hE hSR kM_at0 (by decide) rfl (k_X12_takesMap_1 l adK adV dC dI cy ad B (by omega) (by omega) qr s1   r573 (show 0 ≤ r573.toInt by omega) (show r573.toInt ≤ 3 by omega) w555 H.size hT ) (cwV 1 hC.2.2.2.2 gX12_leads_X12_takesMap rfl rfl rfl (by decide +kernel) ⟨Nat.le_of_ble_eq_true rfl, Nat.le_of_ble_eq_true rfl⟩) rfl hl.1 rfl (Nat.le_of_ble_eq_true rfl) dX12_leads_142 (fun w583 H locs hp582 hw => ?_)
    obtain ⟨hT, k584, hg585⟩ := hp582
    have hF := hF.tr k584 (by decide)
    have c586 := k584.gi kM_at12 rfl c572
    have c587 := k584.gi kM_at12 rfl c579
    clear hg585
    exact J145 v115_7 v115_8 v115_9 f115_12__9_a1_toInt_217_toNat r573 H locs ls w583 (show 0 ≤ a1.toInt by omega) (show a1.toInt ≤ 3 by omega) (show 0 ≤ a2.toInt by omega) (show a2.toInt ≤ 1073741824 by omega) (show 0 ≤ a3.toInt by omega) (show a3.toInt ≤ 120 by omega) (show 0 ≤ a4.toInt by omega) (show a4.toInt ≤ 9 by omega) (show 0 ≤ a6.toInt by omega) (show a6.toInt ≤ 120 by omega) (show 0 ≤ v115_8.toInt by omega) (show v115_8.toInt ≤ 1073741944 by omega) (show 0 ≤ v115_9.toInt by omega) (show v115_9.toInt ≤ 1 by omega) (show 0 ≤ f115_12__9_a1_toInt_217_toNat.toInt by omega) (show f115_12__9_a1_toInt_217_toNat.toInt ≤ 9 by omega) (show 0 ≤ r573.toInt by omega) (show r573.toInt ≤ 3 by omega)  hw hT hF c586 c587 (lv_sub hl [0, 1, 2, 3, 4, 5, 6, 7, 8, 9] rfl)
  refine lv_aload_n hx hb dX12_leads_0 rfl (lv_at hl 0 rfl) ?_
  refine tk_getA hC hK hw hT hinX12 kM_at0 (by decide) rfl 34 (by decide) (List.mem_of_getElem? (i := 1) rfl) rfl rfl dX12_leads_1 ?_
  refine lv_aload_n hx hb dX12_leads_4 rfl (lv_at hl 0 rfl) ?_
  refine lv_iload_n hx hb dX12_leads_5 rfl (lv_at hl 3 rfl) ?_
  refine lv_iload hx hb dX12_leads_6 (lv_at hl 4 rfl) ?_
  refine lv_iload hx hb dX12_leads_8 (lv_at hl 5 rfl) ?_
  refine tk_Vi hC hK hw hT hA hE hSR kM_at0 (by decide) rfl (k_X12_placeAt_3 l adK adV dC dI cy ad B (by omega) (by omega) qr s1   a3 (show 0 ≤ a3.toInt by omega) (show a3.toInt ≤ 120 by omega) a4 (show 0 ≤ a4.toInt by omega) (show a4.toInt ≤ 9 by omega) w0 s.heap.size hT ) (cwV 3 hC.2.2.2.2 gX12_leads_X12_placeAt rfl rfl rfl (by decide +kernel) ⟨Nat.le_of_ble_eq_true rfl, Nat.le_of_ble_eq_true rfl⟩) rfl hl.1 rfl (Nat.le_of_ble_eq_true rfl) dX12_leads_10 (fun r588 w590 H locs hp589 hw => ?_)
  obtain ⟨rfl, hg594⟩ := hp589
  obtain ⟨g592, g593⟩ := hg594
  refine tk_iald hC hK hw hT kM_at17 rfl rfl (show 0 ≤ r588.toInt by omega) (show r588.toInt < 2600 by omega) dX12_leads_13 (fun x595 c596 rx595 tx595 => ?_)
  refine lv_istore (lv' := [(7, .int x595), (0, .ref (ad 0)), (1, .int a1), (2, .int a2), (3, .int a3), (4, .int a4), (5, .int 0), (6, .int a6)]) hx hb dX12_leads_14 hl (by decide) rfl (fun ls hl => ?_)
  refine lv_iload hx hb dX12_leads_16 (lv_at hl 0 rfl) ?_
  refine lv_ldcw (v := 100000000) hx hb hC.2.2.2.1 (hC.2.2.2.2 _ (List.mem_of_getElem? (i := 2) rfl)) dX12_leads_18 ?_
  refine lv_icmp_eq (tgt := 41) hx hb dX12_leads_21 (by decide) (fun c597 => ?_) (fun c597 => ?_)
  · have c597 : x595.toInt = (100000000 : Int) := wk_eq.mp c597
    exact J41 x595 H locs ls w0 (show 0 ≤ a1.toInt by omega) (show a1.toInt ≤ 3 by omega) (show 0 ≤ a2.toInt by omega) (show a2.toInt ≤ 1073741824 by omega) (show 0 ≤ a3.toInt by omega) (show a3.toInt ≤ 120 by omega) (show 0 ≤ a4.toInt by omega) (show a4.toInt ≤ 9 by omega) (show 0 ≤ a6.toInt by omega) (show a6.toInt ≤ 120 by omega)  hw hT hF  (lv_sub hl [1, 2, 3, 4, 5, 6, 7, 0] rfl)
  · have c597 : ¬ x595.toInt = (100000000 : Int) := wk_eqF c597
    refine lv_iload_n hx hb dX12_leads_24 rfl (lv_at hl 4 rfl) ?_
    refine lv_iload hx hb dX12_leads_25 (lv_at hl 7 rfl) ?_
    refine lv_icmp_eq (tgt := 41) hx hb dX12_leads_27 (by decide) (fun c598 => ?_) (fun c598 => ?_)
    · have c598 : a3.toInt = a6.toInt := wk_eq.mp c598
      exact J41 x595 H locs ls w0 (show 0 ≤ a1.toInt by omega) (show a1.toInt ≤ 3 by omega) (show 0 ≤ a2.toInt by omega) (show a2.toInt ≤ 1073741824 by omega) (show 0 ≤ a3.toInt by omega) (show a3.toInt ≤ 120 by omega) (show 0 ≤ a4.toInt by omega) (show a4.toInt ≤ 9 by omega) (show 0 ≤ a6.toInt by omega) (show a6.toInt ≤ 120 by omega)  hw hT hF  (lv_sub hl [1, 2, 3, 4, 5, 6, 7, 0] rfl)
    · have c598 : ¬ a3.toInt = a6.toInt := wk_eqF c598
      refine lv_iload hx hb dX12_leads_30 (lv_at hl 5 rfl) ?_
      refine lv_aload_n hx hb dX12_leads_32 rfl (lv_at hl 1 rfl) ?_
      refine lv_iload_n hx hb dX12_leads_33 rfl (lv_at hl 2 rfl) ?_
      refine lv_iconst (v := 1) hx hb dX12_leads_34 (by decide) ?_
      refine tk_Vi hC hK hw hT hA hE hSR kM_at0 (by decide) rfl (k_X12_walkerOf_3 l adK adV dC dI cy ad B (by omega) (by omega) qr s1   a1 (show 0 ≤ a1.toInt by omega) (show a1.toInt ≤ 3 by omega) w0 H.size hT ) (cwV 2 hC.2.2.2.2 gX12_leads_X12_walkerOf rfl rfl rfl (by decide +kernel) ⟨Nat.le_of_ble_eq_true rfl, Nat.le_of_ble_eq_true rfl⟩) rfl hl.1 rfl (Nat.le_of_ble_eq_true rfl) dX12_leads_35 (fun r599 w601 H locs hp600 hw => ?_)
      obtain ⟨rfl, hg606⟩ := hp600
      obtain ⟨g603, g604, c605⟩ := hg606
      refine lv_icmp_ne (tgt := 42) hx hb dX12_leads_38 (by decide) (fun c607 => ?_) (fun c607 => ?_)
      · have c607 : ¬ a4.toInt = r599.toInt := wk_eqF c607
        refine lv_iload_n hx hb dX12_leads_42 rfl (lv_at hl 3 rfl) ?_
        refine lv_iload_n hx hb dX12_leads_43 rfl (lv_at hl 4 rfl) ?_
        refine lv_iadd hx hb dX12_leads_44 ?_
        refine lv_topi (fun x608 ex608 => ?_)
        have ex608 : x608.toInt = a2.toInt + a3.toInt := by rw [ex608]; exact wk_add (show (-2147483648) ≤ a2.toInt + a3.toInt by omega) (show a2.toInt + a3.toInt ≤ 2147483647 by omega)
        refine lv_istore (lv' := [(8, .int x608), (7, .int x595), (0, .ref (ad 0)), (1, .int a1), (2, .int a2), (3, .int a3), (4, .int a4), (5, .int 0), (6, .int a6)]) hx hb dX12_leads_45 hl (by decide) rfl (fun ls hl => ?_)
        refine lv_iload hx hb dX12_leads_47 (lv_at hl 0 rfl) ?_
        refine lv_iconst (v := 1) hx hb dX12_leads_49 (by decide) ?_
        refine lv_iadd hx hb dX12_leads_50 ?_
        refine lv_topi (fun x609 ex609 => ?_)
        have ex609 : x609.toInt = x608.toInt + (1 : Int) := by rw [ex609]; exact wk_add (show (-2147483648) ≤ x608.toInt + (1 : Int) by omega) (show x608.toInt + (1 : Int) ≤ 2147483647 by omega)
        refine lv_bipush (v := 24) hx hb dX12_leads_51 (by decide) ?_
        refine lv_idiv hx hb dX12_leads_53 (by decide) ?_
        refine lv_topi (fun x610 ex610 => ?_)
        have ex610 : x610.toInt = x609.toInt / (24 : Int) := by rw [ex610]; exact wk_div (show 0 ≤ x609.toInt by omega) (show 0 < (24 : Int) by decide)
        refine lv_iload hx hb dX12_leads_54 (lv_at hl 0 rfl) ?_
        refine lv_bipush (v := 24) hx hb dX12_leads_56 (by decide) ?_
        refine lv_idiv hx hb dX12_leads_58 (by decide) ?_
        refine lv_topi (fun x611 ex611 => ?_)
        have ex611 : x611.toInt = x608.toInt / (24 : Int) := by rw [ex611]; exact wk_div (show 0 ≤ x608.toInt by omega) (show 0 < (24 : Int) by decide)
        refine lv_icmp_ne (tgt := 66) hx hb dX12_leads_59 (by decide) (fun c612 => ?_) (fun c612 => ?_)
        · have c612 : ¬ x610.toInt = x611.toInt := wk_eqF c612
          refine lv_iconst (v := 0) hx hb dX12_leads_66 (by decide) ?_
          refine lv_istore (lv' := [(9, .int 0), (8, .int x608), (7, .int x595), (0, .ref (ad 0)), (1, .int a1), (2, .int a2), (3, .int a3), (4, .int a4), (5, .int 0), (6, .int a6)]) hx hb dX12_leads_67 hl (by decide) rfl (fun ls hl => ?_)
          refine lv_aload_n hx hb dX12_leads_69 rfl (lv_at hl 3 rfl) ?_
          refine lv_iload_n hx hb dX12_leads_70 rfl (lv_at hl 6 rfl) ?_
          refine lv_iconst (v := 1) hx hb dX12_leads_71 (by decide) ?_
          refine lv_iadd hx hb dX12_leads_72 ?_
          refine lv_topi (fun x613 ex613 => ?_)
          have ex613 : x613.toInt = a3.toInt + (1 : Int) := by rw [ex613]; exact wk_add (show (-2147483648) ≤ a3.toInt + (1 : Int) by omega) (show a3.toInt + (1 : Int) ≤ 2147483647 by omega)
          refine lv_iload hx hb dX12_leads_73 (lv_at hl 7 rfl) ?_
          refine lv_iload hx hb dX12_leads_75 (lv_at hl 8 rfl) ?_
          refine lv_if_eq (tgt := 89) hx hb dX12_leads_77 (by decide) (fun _ => ?_) (fun c => absurd (by decide) c)
          refine lv_iconst (v := 0) hx hb dX12_leads_89 (by decide) ?_
          refine lv_iload hx hb dX12_leads_90 (lv_at hl 2 rfl) ?_
          refine tk_Vv hC hK hw hT hA hE hSR kM_at0 (by decide) rfl (k_X12_could_4 l adK adV dC dI cy ad B (by omega) (by omega) qr s1   x613 (show 1 ≤ x613.toInt by omega) (show x613.toInt ≤ 121 by omega) a4 (show 0 ≤ a4.toInt by omega) (show a4.toInt ≤ 9 by omega) x595 w0 H.size hT ) (cwV 4 hC.2.2.2.2 gX12_leads_X12_could rfl rfl rfl (by decide +kernel) ⟨Nat.le_of_ble_eq_true rfl, Nat.le_of_ble_eq_true rfl⟩) rfl hl.1 rfl (Nat.le_of_ble_eq_true rfl) dX12_leads_92 (fun w616 H locs hp615 hw => ?_)
          obtain ⟨hT, k617, hg618⟩ := hp615
          have hF := hF.tr k617 (by decide)
          have c619 := k617.gi kM_at12 rfl c605
          clear hg618
          refine lv_iload hx hb dX12_leads_95 (lv_at hl 8 rfl) ?_
          refine lv_if_ne (tgt := 115) hx hb dX12_leads_97 (by decide) (fun c => absurd (by decide) c) (fun _ => ?_)
          refine lv_aload_n hx hb dX12_leads_100 rfl (lv_at hl 3 rfl) ?_
          refine lv_iload_n hx hb dX12_leads_101 rfl (lv_at hl 6 rfl) ?_
          refine lv_iconst (v := 1) hx hb dX12_leads_102 (by decide) ?_
          refine lv_iadd hx hb dX12_leads_103 ?_
          refine lv_topi (fun x620 ex620 => ?_)
          have ex620 : x620.toInt = a3.toInt + (1 : Int) := by rw [ex620]; exact wk_add (show (-2147483648) ≤ a3.toInt + (1 : Int) by omega) (show a3.toInt + (1 : Int) ≤ 2147483647 by omega)
          refine lv_iload hx hb dX12_leads_104 (lv_at hl 7 rfl) ?_
          refine lv_iload hx hb dX12_leads_106 (lv_at hl 0 rfl) ?_
          refine lv_iload hx hb dX12_leads_108 (lv_at hl 2 rfl) ?_
          refine lv_iconst (v := 1) hx hb dX12_leads_110 (by decide) ?_
          refine lv_iadd hx hb dX12_leads_111 ?_
          have nx621 := wk_i32 x595
          refine lv_topi (fun x622 ex622 => ?_)
          refine tk_Vv hC hK hw hT hA hE hSR kM_at0 (by decide) rfl (k_X12_could_4 l adK adV dC dI cy ad B (by omega) (by omega) qr s1   x620 (show 1 ≤ x620.toInt by omega) (show x620.toInt ≤ 121 by omega) a4 (show 0 ≤ a4.toInt by omega) (show a4.toInt ≤ 9 by omega) x622 w616 H.size hT ) (cwV 4 hC.2.2.2.2 gX12_leads_X12_could rfl rfl rfl (by decide +kernel) ⟨Nat.le_of_ble_eq_true rfl, Nat.le_of_ble_eq_true rfl⟩) rfl hl.1 rfl (Nat.le_of_ble_eq_true rfl) dX12_leads_112 (fun w625 H locs hp624 hw => ?_)
          obtain ⟨hT, k626, hg627⟩ := hp624
          have hF := hF.tr k626 (by decide)
          have c628 := k626.gi kM_at12 rfl c619
          clear hg627
          exact J115 x595 x608 0 r599 H locs ls w625 (show 0 ≤ a1.toInt by omega) (show a1.toInt ≤ 3 by omega) (show 0 ≤ a2.toInt by omega) (show a2.toInt ≤ 1073741824 by omega) (show 0 ≤ a3.toInt by omega) (show a3.toInt ≤ 120 by omega) (show 0 ≤ a4.toInt by omega) (show a4.toInt ≤ 9 by omega) (show 0 ≤ a6.toInt by omega) (show a6.toInt ≤ 120 by omega) (show 0 ≤ x608.toInt by omega) (show x608.toInt ≤ 1073741944 by omega) (by decide) (by decide) (show 0 ≤ r599.toInt by omega) (show r599.toInt ≤ 9 by omega)  hw hT hF c628 (lv_sub hl [3, 4, 5, 6, 7, 8, 9, 2, 1, 0] rfl)
        · have c612 : x610.toInt = x611.toInt := wk_eq.mp c612
          refine lv_iconst (v := 1) hx hb dX12_leads_62 (by decide) ?_
          refine lv_goto (tgt := 67) hx hb dX12_leads_63 (by decide) ?_
          refine lv_istore (lv' := [(9, .int 1), (8, .int x608), (7, .int x595), (0, .ref (ad 0)), (1, .int a1), (2, .int a2), (3, .int a3), (4, .int a4), (5, .int 0), (6, .int a6)]) hx hb dX12_leads_67 hl (by decide) rfl (fun ls hl => ?_)
          refine lv_aload_n hx hb dX12_leads_69 rfl (lv_at hl 3 rfl) ?_
          refine lv_iload_n hx hb dX12_leads_70 rfl (lv_at hl 6 rfl) ?_
          refine lv_iconst (v := 1) hx hb dX12_leads_71 (by decide) ?_
          refine lv_iadd hx hb dX12_leads_72 ?_
          refine lv_topi (fun x629 ex629 => ?_)
          have ex629 : x629.toInt = a3.toInt + (1 : Int) := by rw [ex629]; exact wk_add (show (-2147483648) ≤ a3.toInt + (1 : Int) by omega) (show a3.toInt + (1 : Int) ≤ 2147483647 by omega)
          refine lv_iload hx hb dX12_leads_73 (lv_at hl 7 rfl) ?_
          refine lv_iload hx hb dX12_leads_75 (lv_at hl 8 rfl) ?_
          refine lv_if_eq (tgt := 89) hx hb dX12_leads_77 (by decide) (fun _ => ?_) (fun c => absurd (by decide) c)
          refine lv_iconst (v := 0) hx hb dX12_leads_89 (by decide) ?_
          refine lv_iload hx hb dX12_leads_90 (lv_at hl 2 rfl) ?_
          refine tk_Vv hC hK hw hT hA hE hSR kM_at0 (by decide) rfl (k_X12_could_4 l adK adV dC dI cy ad B (by omega) (by omega) qr s1   x629 (show 1 ≤ x629.toInt by omega) (show x629.toInt ≤ 121 by omega) a4 (show 0 ≤ a4.toInt by omega) (show a4.toInt ≤ 9 by omega) x595 w0 H.size hT ) (cwV 4 hC.2.2.2.2 gX12_leads_X12_could rfl rfl rfl (by decide +kernel) ⟨Nat.le_of_ble_eq_true rfl, Nat.le_of_ble_eq_true rfl⟩) rfl hl.1 rfl (Nat.le_of_ble_eq_true rfl) dX12_leads_92 (fun w632 H locs hp631 hw => ?_)
          obtain ⟨hT, k633, hg634⟩ := hp631
          have hF := hF.tr k633 (by decide)
          have c635 := k633.gi kM_at12 rfl c605
          clear hg634
          refine lv_iload hx hb dX12_leads_95 (lv_at hl 8 rfl) ?_
          refine lv_if_ne (tgt := 115) hx hb dX12_leads_97 (by decide) (fun c => absurd (by decide) c) (fun _ => ?_)
          refine lv_aload_n hx hb dX12_leads_100 rfl (lv_at hl 3 rfl) ?_
          refine lv_iload_n hx hb dX12_leads_101 rfl (lv_at hl 6 rfl) ?_
          refine lv_iconst (v := 1) hx hb dX12_leads_102 (by decide) ?_
          refine lv_iadd hx hb dX12_leads_103 ?_
          refine lv_topi (fun x636 ex636 => ?_)
          have ex636 : x636.toInt = a3.toInt + (1 : Int) := by rw [ex636]; exact wk_add (show (-2147483648) ≤ a3.toInt + (1 : Int) by omega) (show a3.toInt + (1 : Int) ≤ 2147483647 by omega)
          refine lv_iload hx hb dX12_leads_104 (lv_at hl 7 rfl) ?_
          refine lv_iload hx hb dX12_leads_106 (lv_at hl 0 rfl) ?_
          refine lv_iload hx hb dX12_leads_108 (lv_at hl 2 rfl) ?_
          refine lv_iconst (v := 1) hx hb dX12_leads_110 (by decide) ?_
          refine lv_iadd hx hb dX12_leads_111 ?_
          have nx637 := wk_i32 x595
          refine lv_topi (fun x638 ex638 => ?_)
          refine tk_Vv hC hK hw hT hA hE hSR kM_at0 (by decide) rfl (k_X12_could_5 l adK adV dC dI cy ad B (by omega) (by omega) qr s1   x636 (show 1 ≤ x636.toInt by omega) (show x636.toInt ≤ 121 by omega) a4 (show 0 ≤ a4.toInt by omega) (show a4.toInt ≤ 9 by omega) x638 w632 H.size hT ) (cwV 4 hC.2.2.2.2 gX12_leads_X12_could rfl rfl rfl (by decide +kernel) ⟨Nat.le_of_ble_eq_true rfl, Nat.le_of_ble_eq_true rfl⟩) rfl hl.1 rfl (Nat.le_of_ble_eq_true rfl) dX12_leads_112 (fun w641 H locs hp640 hw => ?_)
          obtain ⟨hT, k642, hg643⟩ := hp640
          have hF := hF.tr k642 (by decide)
          have c644 := k642.gi kM_at12 rfl c635
          clear hg643
          exact J115 x595 x608 1 r599 H locs ls w641 (show 0 ≤ a1.toInt by omega) (show a1.toInt ≤ 3 by omega) (show 0 ≤ a2.toInt by omega) (show a2.toInt ≤ 1073741824 by omega) (show 0 ≤ a3.toInt by omega) (show a3.toInt ≤ 120 by omega) (show 0 ≤ a4.toInt by omega) (show a4.toInt ≤ 9 by omega) (show 0 ≤ a6.toInt by omega) (show a6.toInt ≤ 120 by omega) (show 0 ≤ x608.toInt by omega) (show x608.toInt ≤ 1073741944 by omega) (by decide) (by decide) (show 0 ≤ r599.toInt by omega) (show r599.toInt ≤ 9 by omega)  hw hT hF c644 (lv_sub hl [3, 4, 5, 6, 7, 8, 9, 2, 1, 0] rfl)
      · have c607 : a4.toInt = r599.toInt := wk_eq.mp c607
        exact J41 x595 H locs ls w0 (show 0 ≤ a1.toInt by omega) (show a1.toInt ≤ 3 by omega) (show 0 ≤ a2.toInt by omega) (show a2.toInt ≤ 1073741824 by omega) (show 0 ≤ a3.toInt by omega) (show a3.toInt ≤ 120 by omega) (show 0 ≤ a4.toInt by omega) (show a4.toInt ≤ 9 by omega) (show 0 ≤ a6.toInt by omega) (show a6.toInt ≤ 120 by omega)  hw hT hF  (lv_sub hl [1, 2, 3, 4, 5, 6, 7, 0] rfl)
