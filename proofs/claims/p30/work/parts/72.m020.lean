abbrev P_X12_wayFrom_1 (ad : Nat → Nat) (cy : Nat → ClassId) (B : Int) (qr : Nat) (s1 : Int) (a1 : Int32) (a2 : Int32) (a3 : Int32) (a4 : Int32) (w0 : va_W) : Int32 → va_W → Prop := fun r u => TW ksM ad cy B qr 12 u ∧ FE ksM [(12, 37, 37), (77, 0, 10), (78, 0, 10)] w0 u ∧ ((0 ≤ r.toInt ∧ r.toInt ≤ 11 ∧ a1.toInt ≤ 9 ∧ (∃ y : Int32, gi u 0 37 = y ∧ 0 ≤ y.toInt ∧ y.toInt ≤ 100000100) ∧ (∃ y : Int32, gi u 12 1 = y ∧ 1 ≤ y.toInt ∧ y.toInt ≤ 12) ∧ gi u 12 (10 * r.toInt + 10).toNat = a1 ∧ gi u 12 (10 * r.toInt + 11).toNat = a1) ∨ (0 ≤ r.toInt ∧ r.toInt ≤ 11 ∧ a1.toInt ≤ 9 ∧ (∃ y : Int32, gi u 0 37 = y ∧ 0 ≤ y.toInt ∧ y.toInt ≤ 100000100) ∧ (∃ y : Int32, gi u 12 1 = y ∧ 1 ≤ y.toInt ∧ y.toInt ≤ 12) ∧ gi u 12 (10 * r.toInt + 10).toNat = a1) ∨ (0 ≤ r.toInt ∧ r.toInt ≤ 11 ∧ a1.toInt ≤ 9 ∧ (∃ y : Int32, gi u 0 37 = y ∧ 0 ≤ y.toInt ∧ y.toInt ≤ 100000100) ∧ (∃ y : Int32, gi u 12 1 = y ∧ 1 ≤ y.toInt ∧ y.toInt ≤ 12) ∧ gi u 12 (10 * r.toInt + 11).toNat = a1) ∨ (r = (-1)))
set_option maxHeartbeats 4000000 in
set_option maxRecDepth 100000 in
theorem k_X12_wayFrom_1 (l : Launch) (adK adV : Nat → Nat) (dC : Nat → ClassId) (dI : Nat → Nat → Nat) (cy : Nat → ClassId) (ad : Nat → Nat) (B : Int) (hB0 : 100000 ≤ B) (hB1 : B ≤ 1073741824) (qr : Nat) (s1 : Int)  (a1 : Int32) (ra1 : 0 ≤ a1.toInt) (ta1 : a1.toInt ≤ 12) (a2 : Int32) (ra2 : 0 ≤ a2.toInt) (ta2 : a2.toInt ≤ 9) (a3 : Int32) (ra3 : 0 ≤ a3.toInt) (ta3 : a3.toInt ≤ 100000208) (a4 : Int32) (ra4 : 0 ≤ a4.toInt) (ta4 : a4.toInt ≤ 100000100) (w0 : va_W) (sz : Nat) (hT : TW ksM ad cy B qr 12 w0)  : Met l yX12_wayFrom (wu yX12_wayFrom cX12_wayFrom 6 (some .int)) ({ frames := 6, cells := 0, slots := 0, locals := 133 }) (va_Pc [.ref (ad 0), .int a1, .int a2, .int a3, .int a4] (wpreS adK adV dC dI cy sz w0)) (va_Qi (P_X12_wayFrom_1 ad cy B qr s1 a1 a2 a3 a4 w0) (fun u : va_W => wpost dC dI cy (va_A w0 sz) u) (va_A w0 sz)) 0 0 (va_A w0 sz) := by
  refine Met.ofW (cc := cX12_wayFrom) (maxL := 6) (ret := (some .int)) (by decide) rfl ?_
  intro p e s m args below meth c s₁ Bk hml hv
  obtain ⟨rfl, ⟨hsz, hP, hK, hD0⟩, hE, hSR⟩ := hv
  have hx := Bk.exec
  have hb := Bk.bytes
  have hr := Bk.returns
  have hlocks := Bk.notSynchronized
  have hC : CallFix p m c cX12_wayFrom 6 s _ (wu yX12_wayFrom cX12_wayFrom 6 (some .int)) RX12 := ⟨hx, hb, hml, findClass_of_methodNamed Bk.named, atoms_spec (ws := (wu yX12_wayFrom cX12_wayFrom 6 (some .int))) Bk.pre⟩
  subst hsz
  have hD := hD0.self (sz := s.heap.size)
  generalize hAe : va_A w0 s.heap.size = A at hD hE ⊢
  have hA : ∀ q : Nat, s.heap.size ≤ q → A q := fun q h => by rw [← hAe]; exact Or.inr h
  have hw : Wd dC dI A s.heap s.heap [] w0 := ⟨hP, hD, va_S.rf⟩
  have hF : FE ksM [(12, 37, 37), (77, 0, 10), (78, 0, 10)] w0 w0 := FE.rf
  have hl := lv_entry ([.ref (ad 0), .int a1, .int a2, .int a3, .int a4]) (n := 6) (Nat.le_of_ble_eq_true rfl)
  rw [lg_entry_eq]
  generalize (lg_sl ([.ref (ad 0), .int a1, .int a2, .int a3, .int a4]) ++ List.replicate (6 - (lg_sl ([.ref (ad 0), .int a1, .int a2, .int a3, .int a4])).length) Slot.unset).toArray = ls at hl ⊢
  have hl : lv_has ls 6 [(0, .ref (ad 0)), (1, .int a1), (2, .int a2), (3, .int a3), (4, .int a4)] := hl
  generalize hloc : ([] : List Loc) = locs at hw ⊢
  have hinX12 : ∀ w ∈ u_ws RX12 TX12 42, w ∈ (wu yX12_wayFrom cX12_wayFrom 6 (some .int)) := fun _ h => List.mem_cons_of_mem _ (up_71 h)
  have L3 : ∀ (n3 : Nat) (v3_5 : Int32) (H : Heap) (locs : List Loc) (ls : Array Slot) (w1 : va_W), 0 ≤ a1.toInt → a1.toInt ≤ 12 → 0 ≤ a2.toInt → a2.toInt ≤ 9 → 0 ≤ a3.toInt → a3.toInt ≤ 100000208 → 0 ≤ a4.toInt → a4.toInt ≤ 100000100 → 0 ≤ v3_5.toInt → v3_5.toInt ≤ 12 → (12 - v3_5.toInt).toNat < n3 → Wd dC dI A s.heap H locs w1 → TW ksM ad cy B qr 12 w1 → FE ksM [(12, 37, 37), (77, 0, 10), (78, 0, 10)] w0 w1 → lv_has ls 6 [(0, .ref (ad 0)), (1, .int a1), (2, .int a2), (3, .int a3), (4, .int a4), (5, .int v3_5)] → W p l e ({ frames := 6, cells := 0, slots := 0, locals := 133 }) s m (List.toArray [.ref (ad 0), .int a1, .int a2, .int a3, .int a4]) below meth c H locs 0 0 (MQ below (va_Qi (P_X12_wayFrom_1 ad cy B qr s1 a1 a2 a3 a4 w0) (fun u : va_W => wpost dC dI cy A u) A) (List.toArray [.ref (ad 0), .int a1, .int a2, .int a3, .int a4]) s 0 0 A) (F0 m 3 ls []) := by
    intro n3
    induction n3 with
    | zero => intro v3_5 H locs ls w1 r2 t3 r4 t5 r6 t7 r8 t9 r10 t11 hm3 hw hT hF hl; omega
    | succ n3 ih3 =>
      intro v3_5 H locs ls w1 r2 t3 r4 t5 r6 t7 r8 t9 r10 t11 hm3 hw hT hF hl
      have J105 : ∀ (f105_12_1 : Int32) (H : Heap) (locs : List Loc) (ls : Array Slot) (w12 : va_W), 0 ≤ a1.toInt → a1.toInt ≤ 12 → 0 ≤ a2.toInt → a2.toInt ≤ 9 → 0 ≤ a3.toInt → a3.toInt ≤ 100000208 → 0 ≤ a4.toInt → a4.toInt ≤ 100000100 → 0 ≤ v3_5.toInt → v3_5.toInt ≤ 11 → 1 ≤ f105_12_1.toInt → f105_12_1.toInt ≤ 12 → Wd dC dI A s.heap H locs w12 → TW ksM ad cy B qr 12 w12 → FE ksM [(12, 37, 37), (77, 0, 10), (78, 0, 10)] w0 w12 → gi w12 12 1 = f105_12_1 → lv_has ls 6 [(0, .ref (ad 0)), (1, .int a1), (2, .int a2), (3, .int a3), (4, .int a4), (5, .int v3_5)] → W p l e ({ frames := 6, cells := 0, slots := 0, locals := 133 }) s m (List.toArray [.ref (ad 0), .int a1, .int a2, .int a3, .int a4]) below meth c H locs 0 0 (MQ below (va_Qi (P_X12_wayFrom_1 ad cy B qr s1 a1 a2 a3 a4 w0) (fun u : va_W => wpost dC dI cy A u) A) (List.toArray [.ref (ad 0), .int a1, .int a2, .int a3, .int a4]) s 0 0 A) (F0 m 105 ls []) := by
        intro f105_12_1 H locs ls w12 r13 t14 r15 t16 r17 t18 r19 t20 r21 t22 r23 t24 hw hT hF c25 hl
        obtain ⟨x26, ex26⟩ : ∃ y : Int32, y = v3_5 + Int32.ofInt 1 := ⟨_, rfl⟩
        refine lv_iinc (v := x26) (lv' := [(5, .int x26), (0, .ref (ad 0)), (1, .int a1), (2, .int a2), (3, .int a3), (4, .int a4)]) hx hb dX12_wayFrom_105 hl (k := 5) rfl ex26.symm (by decide) rfl (fun ls hl => ?_)
        have ex26 : x26.toInt = v3_5.toInt + 1 := by rw [ex26]; exact wk_add (y := 1) (show -2147483648 ≤ v3_5.toInt + 1 by omega) (show v3_5.toInt + 1 ≤ 2147483647 by omega)
        refine lv_goto (tgt := 3) hx hb dX12_wayFrom_108 (by decide) ?_
        exact ih3 x26 H locs ls w12 (show 0 ≤ a1.toInt from r13) (show a1.toInt ≤ 12 from t14) (show 0 ≤ a2.toInt from r15) (show a2.toInt ≤ 9 from t16) (show 0 ≤ a3.toInt from r17) (show a3.toInt ≤ 100000208 from t18) (show 0 ≤ a4.toInt from r19) (show a4.toInt ≤ 100000100 from t20) (show 0 ≤ x26.toInt by first | with_reducible assumption | omega) (show x26.toInt ≤ 12 by first | with_reducible assumption | omega) (show (12 - x26.toInt).toNat < n3 by first | exact tn_lt hm3 (by omega) (by omega) | omega) hw hT hF  (lv_sub hl [1, 2, 3, 4, 5, 0] rfl)
      refine lv_iload hx hb dX12_wayFrom_3 (lv_at hl 5 rfl) ?_
      refine lv_aload_n hx hb dX12_wayFrom_5 rfl (lv_at hl 0 rfl) ?_
      refine tk_getA hC hK hw hT hinX12 kM_at0 (by decide) rfl 26 (by decide) (List.mem_cons_of_mem _ uw_7_1) rfl rfl dX12_wayFrom_6 ?_
      refine lv_iconst (v := 1) hx hb dX12_wayFrom_9 (by decide) ?_
      refine tk_ialdR hC hK hw hT kM_at12 rfl (by decide) (by decide) dX12_wayFrom_10 (fun x27 c28 Ex27 => ?_)
      have bx27 : 0 ≤ x27.toInt ∧ x27.toInt ≤ 12 := (tk_rg1 rfl).mp Ex27
      have c28 : gi w1 12 1 = x27 := c28
      refine lv_icmp_ge (tgt := 111) hx hb dX12_wayFrom_11 (by decide) (fun c29 => ?_) (fun c29 => ?_)
      · have c29 : x27.toInt ≤ v3_5.toInt := wk_le.mp c29
        refine lv_iconst (v := (-1)) hx hb dX12_wayFrom_111 (by decide) ?_
        exact tk_iret hC hr hlocks hK ⟨hT, hF, (Or.inr (Or.inr (Or.inr rfl)))⟩ hw dX12_wayFrom_112
      · have c29 : v3_5.toInt < x27.toInt := wk_leF c29
        refine lv_aload_n hx hb dX12_wayFrom_14 rfl (lv_at hl 0 rfl) ?_
        refine lv_iload hx hb dX12_wayFrom_15 (lv_at hl 5 rfl) ?_
        refine lv_iload_n hx hb dX12_wayFrom_17 rfl (lv_at hl 1 rfl) ?_
        refine tk_Vi hC hK hw hT hA hE hSR kM_at0 (by decide) rfl (k_X12_isAt_2 l adK adV dC dI cy ad B hB0 (Int.le_trans hB1 (by decide)) qr s1   v3_5 (show 0 ≤ v3_5.toInt from r10) (show v3_5.toInt ≤ 11 by first | with_reducible assumption | omega) a1 (show 0 ≤ a1.toInt from r2) (show a1.toInt ≤ 12 from t3) w1 H.size hT ) (cwV 2 hC.2.2.2.2 uV_RX12_314 rfl rfl rfl (by decide +kernel) ⟨Nat.le_of_ble_eq_true rfl, Nat.le_of_ble_eq_true rfl⟩) rfl hl.1 rfl (Nat.le_of_ble_eq_true rfl) dX12_wayFrom_18 (fun r30 w32 H locs hp31 hw => ?_)
        obtain ⟨rfl, hg41⟩ := hp31
        rcases hg41 with ⟨rfl, hq34⟩ | ⟨rfl, g35, c36, hq37⟩ | ⟨rfl, g38, c39, hq40⟩
        · refine lv_if_ne (tgt := 27) hx hb dX12_wayFrom_21 (by decide) (fun c => absurd (by decide) c) (fun _ => ?_)
          refine lv_goto (tgt := 105) hx hb dX12_wayFrom_24 (by decide) ?_
          exact J105 x27 H locs ls w1 (show 0 ≤ a1.toInt from r2) (show a1.toInt ≤ 12 from t3) (show 0 ≤ a2.toInt from r4) (show a2.toInt ≤ 9 from t5) (show 0 ≤ a3.toInt from r6) (show a3.toInt ≤ 100000208 from t7) (show 0 ≤ a4.toInt from r8) (show a4.toInt ≤ 100000100 from t9) (show 0 ≤ v3_5.toInt from r10) (show v3_5.toInt ≤ 11 by first | with_reducible assumption | omega) (show 1 ≤ x27.toInt by first | with_reducible assumption | omega) (show x27.toInt ≤ 12 by first | with_reducible assumption | omega)  hw hT hF c28 (lv_sub hl [0, 1, 2, 3, 4, 5] rfl)
        · refine lv_if_ne (tgt := 27) hx hb dX12_wayFrom_21 (by decide) (fun _ => ?_) (fun c => absurd c (by decide))
          refine lv_aload_n hx hb dX12_wayFrom_27 rfl (lv_at hl 0 rfl) ?_
          refine lv_aload_n hx hb dX12_wayFrom_28 rfl (lv_at hl 0 rfl) ?_
          refine lv_iload hx hb dX12_wayFrom_29 (lv_at hl 5 rfl) ?_
          refine lv_iload_n hx hb dX12_wayFrom_31 rfl (lv_at hl 1 rfl) ?_
          refine lv_iload_n hx hb dX12_wayFrom_32 rfl (lv_at hl 3 rfl) ?_
          refine lv_iload hx hb dX12_wayFrom_33 (lv_at hl 4 rfl) ?_
          refine tk_Vi hC hK hw hT hA hE hSR kM_at0 (by decide) rfl (k_X12_firstOpen_2 l adK adV dC dI cy ad B hB0 (Int.le_trans hB1 (by decide)) qr s1   v3_5 (show 0 ≤ v3_5.toInt from r10) (show v3_5.toInt ≤ 11 by first | with_reducible assumption | omega) a1 (show 0 ≤ a1.toInt from r2) (show a1.toInt ≤ 9 by first | with_reducible assumption | omega) a3 (show 0 ≤ a3.toInt from r6) (show a3.toInt ≤ 100000208 from t7) a4 (show 0 ≤ a4.toInt from r8) (show a4.toInt ≤ 100000100 from t9) w1 H.size hT ) (cwV 4 hC.2.2.2.2 uV_RX12_449 rfl rfl rfl (by decide +kernel) ⟨Nat.le_of_ble_eq_true rfl, Nat.le_of_ble_eq_true rfl⟩) rfl hl.1 rfl (Nat.le_of_ble_eq_true rfl) dX12_wayFrom_35 (fun r42 w44 H locs hp43 hw => ?_)
          obtain ⟨rfl, hg51⟩ := hp43
          rcases hg51 with ⟨g46, g47⟩ | ⟨g48, g49, c50⟩
          · refine tk_puti hC hK hw hT hinX12 tyX12_ok nmX12 kM_at0 (by decide) rfl rfl 37 (by decide) (List.mem_cons_of_mem _ uw_52_21) rfl rfl rfl rfl (show 0 ≤ r42.toInt by first | with_reducible assumption | omega) (show r42.toInt ≤ 100000200 by first | with_reducible assumption | omega) dX12_wayFrom_38 (fun H locs w52 hw hT k54 c53 => ?_)
            have hF := hF.put kM_at0 (k := 37) (by decide) k54
            have c55 := k54.gi (Or.inr (by decide)) c28
            have c56 := k54.gi (Or.inl (tk_ne kM_at12 kM_at0 (by decide))) c36
            refine lv_aload_n hx hb dX12_wayFrom_41 rfl (lv_at hl 0 rfl) ?_
            refine tk_geti hC hK hw hT hinX12 kM_at0 (by decide) rfl 37 (by decide) (List.mem_cons_of_mem _ uw_52_21) rfl rfl dX12_wayFrom_42 (fun x57 c58 rx57 tx57 => ?_)
            refine wk_top r42 (c58.symm.trans c53) ?_
            refine lv_ldcw (v := 100000000) hx hb hC.2.2.2.1 (hC.2.2.2.2 _ (List.mem_cons_of_mem _ uw_38_2)) dX12_wayFrom_45 ?_
            refine lv_icmp_eq (tgt := 105) hx hb dX12_wayFrom_48 (by decide) (fun c59 => ?_) (fun c59 => ?_)
            · have c59 : r42.toInt = (100000000 : Int) := wk_eq.mp c59
              exact J105 x27 H locs ls w52 (show 0 ≤ a1.toInt from r2) (show a1.toInt ≤ 12 from t3) (show 0 ≤ a2.toInt from r4) (show a2.toInt ≤ 9 from t5) (show 0 ≤ a3.toInt from r6) (show a3.toInt ≤ 100000208 from t7) (show 0 ≤ a4.toInt from r8) (show a4.toInt ≤ 100000100 from t9) (show 0 ≤ v3_5.toInt from r10) (show v3_5.toInt ≤ 11 by first | with_reducible assumption | omega) (show 1 ≤ x27.toInt by first | with_reducible assumption | omega) (show x27.toInt ≤ 12 by first | with_reducible assumption | omega)  hw hT hF c55 (lv_sub hl [0, 1, 2, 3, 4, 5] rfl)
            · have c59 : ¬ r42.toInt = (100000000 : Int) := wk_eqF c59
              refine lv_aload_n hx hb dX12_wayFrom_51 rfl (lv_at hl 0 rfl) ?_
              refine tk_geti hC hK hw hT hinX12 kM_at0 (by decide) rfl 37 (by decide) (List.mem_cons_of_mem _ uw_52_21) rfl rfl dX12_wayFrom_52 (fun x60 c61 rx60 tx60 => ?_)
              refine wk_top r42 (c61.symm.trans c53) ?_
              refine lv_aload_n hx hb dX12_wayFrom_55 rfl (lv_at hl 0 rfl) ?_
              refine lv_iload hx hb dX12_wayFrom_56 (lv_at hl 5 rfl) ?_
              refine lv_iconst (v := 2) hx hb dX12_wayFrom_58 (by decide) ?_
              refine tk_Vi hC hK hw hT hA hE hSR kM_at0 (by decide) rfl (k_X12_streetOf_6 l adK adV dC dI cy ad B hB0 (Int.le_trans hB1 (by decide)) qr s1   v3_5 (show 0 ≤ v3_5.toInt from r10) (show v3_5.toInt ≤ 11 by first | with_reducible assumption | omega) w52 H.size hT ) (cwV 2 hC.2.2.2.2 uV_RX12_300 rfl rfl rfl (by decide +kernel) ⟨Nat.le_of_ble_eq_true rfl, Nat.le_of_ble_eq_true rfl⟩) rfl hl.1 rfl (Nat.le_of_ble_eq_true rfl) dX12_wayFrom_59 (fun r62 w64 H locs hp63 hw => ?_)
              obtain ⟨rfl, hg69⟩ := hp63
              obtain ⟨g66, g67, c68⟩ := hg69
              refine lv_iadd hx hb dX12_wayFrom_62 ?_
              refine lv_topi (fun x70 ex70 => ?_)
              have ex70 : x70.toInt = r42.toInt + r62.toInt := by rw [ex70]; exact wk_add (show (-2147483648) ≤ r42.toInt + r62.toInt by omega) (show r42.toInt + r62.toInt ≤ 2147483647 by omega)
              refine lv_iload hx hb dX12_wayFrom_63 (lv_at hl 4 rfl) ?_
              refine lv_icmp_le (tgt := 71) hx hb dX12_wayFrom_65 (by decide) (fun c71 => ?_) (fun c71 => ?_)
              · have c71 : x70.toInt ≤ a4.toInt := wk_le.mp c71
                refine lv_aload_n hx hb dX12_wayFrom_71 rfl (lv_at hl 0 rfl) ?_
                refine lv_aload_n hx hb dX12_wayFrom_72 rfl (lv_at hl 0 rfl) ?_
                refine lv_iload hx hb dX12_wayFrom_73 (lv_at hl 5 rfl) ?_
                refine lv_iload_n hx hb dX12_wayFrom_75 rfl (lv_at hl 1 rfl) ?_
                refine tk_Vi hC hK hw hT hA hE hSR kM_at0 (by decide) rfl (k_X12_otherOf_1 l adK adV dC dI cy ad B hB0 (Int.le_trans hB1 (by decide)) qr s1   v3_5 (show 0 ≤ v3_5.toInt from r10) (show v3_5.toInt ≤ 11 by first | with_reducible assumption | omega) a1 (show 0 ≤ a1.toInt from r2) (show a1.toInt ≤ 9 by first | with_reducible assumption | omega) w52 H.size hT ) (cwV 2 hC.2.2.2.2 uV_RX12_348 rfl rfl rfl (by decide +kernel) ⟨Nat.le_of_ble_eq_true rfl, Nat.le_of_ble_eq_true rfl⟩) rfl hl.1 rfl (Nat.le_of_ble_eq_true rfl) dX12_wayFrom_76 (fun r72 w74 H locs hp73 hw => ?_)
                obtain ⟨rfl, hg81⟩ := hp73
                rcases hg81 with ⟨g76, g77⟩ | ⟨g78, g79, c80⟩
                · refine lv_iload_n hx hb dX12_wayFrom_79 rfl (lv_at hl 2 rfl) ?_
                  refine lv_aload_n hx hb dX12_wayFrom_80 rfl (lv_at hl 0 rfl) ?_
                  refine tk_geti hC hK hw hT hinX12 kM_at0 (by decide) rfl 37 (by decide) (List.mem_cons_of_mem _ uw_52_21) rfl rfl dX12_wayFrom_81 (fun x82 c83 rx82 tx82 => ?_)
                  refine wk_top r42 (c83.symm.trans c53) ?_
                  refine lv_aload_n hx hb dX12_wayFrom_84 rfl (lv_at hl 0 rfl) ?_
                  refine lv_iload hx hb dX12_wayFrom_85 (lv_at hl 5 rfl) ?_
                  refine lv_iconst (v := 2) hx hb dX12_wayFrom_87 (by decide) ?_
                  refine tk_Vi hC hK hw hT hA hE hSR kM_at0 (by decide) rfl (k_X12_streetOf_6 l adK adV dC dI cy ad B hB0 (Int.le_trans hB1 (by decide)) qr s1   v3_5 (show 0 ≤ v3_5.toInt from r10) (show v3_5.toInt ≤ 11 by first | with_reducible assumption | omega) w52 H.size hT ) (cwV 2 hC.2.2.2.2 uV_RX12_300 rfl rfl rfl (by decide +kernel) ⟨Nat.le_of_ble_eq_true rfl, Nat.le_of_ble_eq_true rfl⟩) rfl hl.1 rfl (Nat.le_of_ble_eq_true rfl) dX12_wayFrom_88 (fun r84 w86 H locs hp85 hw => ?_)
                  obtain ⟨rfl, hg91⟩ := hp85
                  obtain ⟨g88, g89, c90⟩ := hg91
                  obtain rfl : r62 = r84 := c68.symm.trans c90
                  refine lv_iadd hx hb dX12_wayFrom_91 ?_
                  refine lv_topi (fun x92 ex92 => ?_)
                  have ex92 : x92.toInt = r42.toInt + r62.toInt := by rw [ex92]; exact wk_add (show (-2147483648) ≤ r42.toInt + r62.toInt by omega) (show r42.toInt + r62.toInt ≤ 2147483647 by omega)
                  refine lv_iload hx hb dX12_wayFrom_92 (lv_at hl 4 rfl) ?_
                  refine tk_Vi hC hK hw hT hA hE hSR kM_at0 (by decide) rfl (k_X12_reaches_2 l adK adV dC dI cy ad B hB0 (Int.le_trans hB1 (by decide)) qr s1   r72 (show 0 ≤ r72.toInt by first | with_reducible assumption | omega) (show r72.toInt ≤ 9 by first | with_reducible assumption | omega) a2 (show 0 ≤ a2.toInt from r4) (show a2.toInt ≤ 9 from t5) x92 (show 0 ≤ x92.toInt by first | with_reducible assumption | omega) (show x92.toInt ≤ 100000100 by first | with_reducible assumption | omega) a4 (show 0 ≤ a4.toInt from r8) (show a4.toInt ≤ 100000100 from t9) w52 H.size hT ) (cwV 4 hC.2.2.2.2 uV_RX12_456 rfl rfl rfl (by decide +kernel) ⟨Nat.le_of_ble_eq_true rfl, Nat.le_of_ble_eq_true rfl⟩) rfl hl.1 rfl (Nat.le_of_ble_eq_true rfl) dX12_wayFrom_94 (fun r93 w95 H locs hp94 hw => ?_)
                  obtain ⟨hT, k96, hg99⟩ := hp94
                  have hF := hF.tr k96 (by decide)
                  have c100 := k96.gi kM_at12 (by decide) c55
                  have c101 := k96.gi kM_at12 rfl c56
                  have c102 := k96.gi kM_at0 (by decide) c53
                  have c103 := k96.gi kM_at12 rfl c68
                  obtain ⟨g97, g98⟩ := hg99
                  refine lv_iload hx hb dX12_wayFrom_97 (lv_at hl 4 rfl) ?_
                  refine lv_icmp_ne (tgt := 105) hx hb dX12_wayFrom_99 (by decide) (fun c104 => ?_) (fun c104 => ?_)
                  · have c104 : ¬ r93.toInt = a4.toInt := wk_eqF c104
                    exact J105 x27 H locs ls w95 (show 0 ≤ a1.toInt from r2) (show a1.toInt ≤ 12 from t3) (show 0 ≤ a2.toInt from r4) (show a2.toInt ≤ 9 from t5) (show 0 ≤ a3.toInt from r6) (show a3.toInt ≤ 100000208 from t7) (show 0 ≤ a4.toInt from r8) (show a4.toInt ≤ 100000100 from t9) (show 0 ≤ v3_5.toInt from r10) (show v3_5.toInt ≤ 11 by first | with_reducible assumption | omega) (show 1 ≤ x27.toInt by first | with_reducible assumption | omega) (show x27.toInt ≤ 12 by first | with_reducible assumption | omega)  hw hT hF c100 (lv_sub hl [0, 1, 2, 3, 4, 5] rfl)
                  · have c104 : r93.toInt = a4.toInt := wk_eq.mp c104
                    refine lv_iload hx hb dX12_wayFrom_102 (lv_at hl 5 rfl) ?_
                    exact tk_iret hC hr hlocks hK ⟨hT, hF, (Or.inr (Or.inl ⟨(show 0 ≤ v3_5.toInt from r10), (show v3_5.toInt ≤ 11 by first | with_reducible assumption | omega), (show a1.toInt ≤ 9 by first | with_reducible assumption | omega), ⟨r42, c102, (show 0 ≤ r42.toInt by first | with_reducible assumption | omega), (show r42.toInt ≤ 100000100 by first | with_reducible assumption | omega)⟩, ⟨x27, c100, (show 1 ≤ x27.toInt by first | with_reducible assumption | omega), (show x27.toInt ≤ 12 by first | with_reducible assumption | omega)⟩, c101⟩))⟩ hw dX12_wayFrom_104
                · refine lv_iload_n hx hb dX12_wayFrom_79 rfl (lv_at hl 2 rfl) ?_
                  refine lv_aload_n hx hb dX12_wayFrom_80 rfl (lv_at hl 0 rfl) ?_
                  refine tk_geti hC hK hw hT hinX12 kM_at0 (by decide) rfl 37 (by decide) (List.mem_cons_of_mem _ uw_52_21) rfl rfl dX12_wayFrom_81 (fun x105 c106 rx105 tx105 => ?_)
                  refine wk_top r42 (c106.symm.trans c53) ?_
                  refine lv_aload_n hx hb dX12_wayFrom_84 rfl (lv_at hl 0 rfl) ?_
                  refine lv_iload hx hb dX12_wayFrom_85 (lv_at hl 5 rfl) ?_
                  refine lv_iconst (v := 2) hx hb dX12_wayFrom_87 (by decide) ?_
                  refine tk_Vi hC hK hw hT hA hE hSR kM_at0 (by decide) rfl (k_X12_streetOf_6 l adK adV dC dI cy ad B hB0 (Int.le_trans hB1 (by decide)) qr s1   v3_5 (show 0 ≤ v3_5.toInt from r10) (show v3_5.toInt ≤ 11 by first | with_reducible assumption | omega) w52 H.size hT ) (cwV 2 hC.2.2.2.2 uV_RX12_300 rfl rfl rfl (by decide +kernel) ⟨Nat.le_of_ble_eq_true rfl, Nat.le_of_ble_eq_true rfl⟩) rfl hl.1 rfl (Nat.le_of_ble_eq_true rfl) dX12_wayFrom_88 (fun r107 w109 H locs hp108 hw => ?_)
                  obtain ⟨rfl, hg114⟩ := hp108
                  obtain ⟨g111, g112, c113⟩ := hg114
                  obtain rfl : r62 = r107 := c68.symm.trans c113
                  refine lv_iadd hx hb dX12_wayFrom_91 ?_
                  refine lv_topi (fun x115 ex115 => ?_)
                  have ex115 : x115.toInt = r42.toInt + r62.toInt := by rw [ex115]; exact wk_add (show (-2147483648) ≤ r42.toInt + r62.toInt by omega) (show r42.toInt + r62.toInt ≤ 2147483647 by omega)
                  refine lv_iload hx hb dX12_wayFrom_92 (lv_at hl 4 rfl) ?_
                  refine tk_Vi hC hK hw hT hA hE hSR kM_at0 (by decide) rfl (k_X12_reaches_2 l adK adV dC dI cy ad B hB0 (Int.le_trans hB1 (by decide)) qr s1   r72 (show 0 ≤ r72.toInt by first | with_reducible assumption | omega) (show r72.toInt ≤ 9 by first | with_reducible assumption | omega) a2 (show 0 ≤ a2.toInt from r4) (show a2.toInt ≤ 9 from t5) x115 (show 0 ≤ x115.toInt by first | with_reducible assumption | omega) (show x115.toInt ≤ 100000100 by first | with_reducible assumption | omega) a4 (show 0 ≤ a4.toInt from r8) (show a4.toInt ≤ 100000100 from t9) w52 H.size hT ) (cwV 4 hC.2.2.2.2 uV_RX12_456 rfl rfl rfl (by decide +kernel) ⟨Nat.le_of_ble_eq_true rfl, Nat.le_of_ble_eq_true rfl⟩) rfl hl.1 rfl (Nat.le_of_ble_eq_true rfl) dX12_wayFrom_94 (fun r116 w118 H locs hp117 hw => ?_)
                  obtain ⟨hT, k119, hg122⟩ := hp117
                  have hF := hF.tr k119 (by decide)
                  have c123 := k119.gi kM_at12 (by decide) c55
                  have c124 := k119.gi kM_at12 rfl c56
                  have c125 := k119.gi kM_at0 (by decide) c53
                  have c126 := k119.gi kM_at12 rfl c68
                  obtain ⟨g120, g121⟩ := hg122
                  refine lv_iload hx hb dX12_wayFrom_97 (lv_at hl 4 rfl) ?_
                  refine lv_icmp_ne (tgt := 105) hx hb dX12_wayFrom_99 (by decide) (fun c127 => ?_) (fun c127 => ?_)
                  · have c127 : ¬ r116.toInt = a4.toInt := wk_eqF c127
                    exact J105 x27 H locs ls w118 (show 0 ≤ a1.toInt from r2) (show a1.toInt ≤ 12 from t3) (show 0 ≤ a2.toInt from r4) (show a2.toInt ≤ 9 from t5) (show 0 ≤ a3.toInt from r6) (show a3.toInt ≤ 100000208 from t7) (show 0 ≤ a4.toInt from r8) (show a4.toInt ≤ 100000100 from t9) (show 0 ≤ v3_5.toInt from r10) (show v3_5.toInt ≤ 11 by first | with_reducible assumption | omega) (show 1 ≤ x27.toInt by first | with_reducible assumption | omega) (show x27.toInt ≤ 12 by first | with_reducible assumption | omega)  hw hT hF c123 (lv_sub hl [0, 1, 2, 3, 4, 5] rfl)
                  · have c127 : r116.toInt = a4.toInt := wk_eq.mp c127
                    refine lv_iload hx hb dX12_wayFrom_102 (lv_at hl 5 rfl) ?_
                    exact tk_iret hC hr hlocks hK ⟨hT, hF, (Or.inr (Or.inl ⟨(show 0 ≤ v3_5.toInt from r10), (show v3_5.toInt ≤ 11 by first | with_reducible assumption | omega), (show a1.toInt ≤ 9 by first | with_reducible assumption | omega), ⟨r42, c125, (show 0 ≤ r42.toInt by first | with_reducible assumption | omega), (show r42.toInt ≤ 100000100 by first | with_reducible assumption | omega)⟩, ⟨x27, c123, (show 1 ≤ x27.toInt by first | with_reducible assumption | omega), (show x27.toInt ≤ 12 by first | with_reducible assumption | omega)⟩, c124⟩))⟩ hw dX12_wayFrom_104
              · have c71 : a4.toInt < x70.toInt := wk_leF c71
                refine lv_goto (tgt := 105) hx hb dX12_wayFrom_68 (by decide) ?_
                exact J105 x27 H locs ls w52 (show 0 ≤ a1.toInt from r2) (show a1.toInt ≤ 12 from t3) (show 0 ≤ a2.toInt from r4) (show a2.toInt ≤ 9 from t5) (show 0 ≤ a3.toInt from r6) (show a3.toInt ≤ 100000208 from t7) (show 0 ≤ a4.toInt from r8) (show a4.toInt ≤ 100000100 from t9) (show 0 ≤ v3_5.toInt from r10) (show v3_5.toInt ≤ 11 by first | with_reducible assumption | omega) (show 1 ≤ x27.toInt by first | with_reducible assumption | omega) (show x27.toInt ≤ 12 by first | with_reducible assumption | omega)  hw hT hF c55 (lv_sub hl [0, 1, 2, 3, 4, 5] rfl)
          · refine tk_puti hC hK hw hT hinX12 tyX12_ok nmX12 kM_at0 (by decide) rfl rfl 37 (by decide) (List.mem_cons_of_mem _ uw_52_21) rfl rfl rfl rfl (show 0 ≤ r42.toInt by first | with_reducible assumption | omega) (show r42.toInt ≤ 100000200 by first | with_reducible assumption | omega) dX12_wayFrom_38 (fun H locs w128 hw hT k130 c129 => ?_)
            have hF := hF.put kM_at0 (k := 37) (by decide) k130
            have c131 := k130.gi (Or.inr (by decide)) c28
            have c132 := k130.gi (Or.inl (tk_ne kM_at12 kM_at0 (by decide))) c36
            refine lv_aload_n hx hb dX12_wayFrom_41 rfl (lv_at hl 0 rfl) ?_
            refine tk_geti hC hK hw hT hinX12 kM_at0 (by decide) rfl 37 (by decide) (List.mem_cons_of_mem _ uw_52_21) rfl rfl dX12_wayFrom_42 (fun x133 c134 rx133 tx133 => ?_)
            refine wk_top r42 (c134.symm.trans c129) ?_
            refine lv_ldcw (v := 100000000) hx hb hC.2.2.2.1 (hC.2.2.2.2 _ (List.mem_cons_of_mem _ uw_38_2)) dX12_wayFrom_45 ?_
            refine lv_icmp_eq (tgt := 105) hx hb dX12_wayFrom_48 (by decide) (fun c135 => ?_) (fun c135 => ?_)
            · have c135 : r42.toInt = (100000000 : Int) := wk_eq.mp c135
              exact J105 x27 H locs ls w128 (show 0 ≤ a1.toInt from r2) (show a1.toInt ≤ 12 from t3) (show 0 ≤ a2.toInt from r4) (show a2.toInt ≤ 9 from t5) (show 0 ≤ a3.toInt from r6) (show a3.toInt ≤ 100000208 from t7) (show 0 ≤ a4.toInt from r8) (show a4.toInt ≤ 100000100 from t9) (show 0 ≤ v3_5.toInt from r10) (show v3_5.toInt ≤ 11 by first | with_reducible assumption | omega) (show 1 ≤ x27.toInt by first | with_reducible assumption | omega) (show x27.toInt ≤ 12 by first | with_reducible assumption | omega)  hw hT hF c131 (lv_sub hl [0, 1, 2, 3, 4, 5] rfl)
            · have c135 : ¬ r42.toInt = (100000000 : Int) := wk_eqF c135
              refine lv_aload_n hx hb dX12_wayFrom_51 rfl (lv_at hl 0 rfl) ?_
              refine tk_geti hC hK hw hT hinX12 kM_at0 (by decide) rfl 37 (by decide) (List.mem_cons_of_mem _ uw_52_21) rfl rfl dX12_wayFrom_52 (fun x136 c137 rx136 tx136 => ?_)
              refine wk_top r42 (c137.symm.trans c129) ?_
              refine lv_aload_n hx hb dX12_wayFrom_55 rfl (lv_at hl 0 rfl) ?_
              refine lv_iload hx hb dX12_wayFrom_56 (lv_at hl 5 rfl) ?_
              refine lv_iconst (v := 2) hx hb dX12_wayFrom_58 (by decide) ?_
              refine tk_Vi hC hK hw hT hA hE hSR kM_at0 (by decide) rfl (k_X12_streetOf_6 l adK adV dC dI cy ad B hB0 (Int.le_trans hB1 (by decide)) qr s1   v3_5 (show 0 ≤ v3_5.toInt from r10) (show v3_5.toInt ≤ 11 by first | with_reducible assumption | omega) w128 H.size hT ) (cwV 2 hC.2.2.2.2 uV_RX12_300 rfl rfl rfl (by decide +kernel) ⟨Nat.le_of_ble_eq_true rfl, Nat.le_of_ble_eq_true rfl⟩) rfl hl.1 rfl (Nat.le_of_ble_eq_true rfl) dX12_wayFrom_59 (fun r138 w140 H locs hp139 hw => ?_)
              obtain ⟨rfl, hg145⟩ := hp139
              obtain ⟨g142, g143, c144⟩ := hg145
              refine lv_iadd hx hb dX12_wayFrom_62 ?_
              refine lv_topi (fun x146 ex146 => ?_)
              have ex146 : x146.toInt = r42.toInt + r138.toInt := by rw [ex146]; exact wk_add (show (-2147483648) ≤ r42.toInt + r138.toInt by omega) (show r42.toInt + r138.toInt ≤ 2147483647 by omega)
              refine lv_iload hx hb dX12_wayFrom_63 (lv_at hl 4 rfl) ?_
              refine lv_icmp_le (tgt := 71) hx hb dX12_wayFrom_65 (by decide) (fun c147 => ?_) (fun c147 => ?_)
              · have c147 : x146.toInt ≤ a4.toInt := wk_le.mp c147
                refine lv_aload_n hx hb dX12_wayFrom_71 rfl (lv_at hl 0 rfl) ?_
                refine lv_aload_n hx hb dX12_wayFrom_72 rfl (lv_at hl 0 rfl) ?_
                refine lv_iload hx hb dX12_wayFrom_73 (lv_at hl 5 rfl) ?_
                refine lv_iload_n hx hb dX12_wayFrom_75 rfl (lv_at hl 1 rfl) ?_
                refine tk_Vi hC hK hw hT hA hE hSR kM_at0 (by decide) rfl (k_X12_otherOf_1 l adK adV dC dI cy ad B hB0 (Int.le_trans hB1 (by decide)) qr s1   v3_5 (show 0 ≤ v3_5.toInt from r10) (show v3_5.toInt ≤ 11 by first | with_reducible assumption | omega) a1 (show 0 ≤ a1.toInt from r2) (show a1.toInt ≤ 9 by first | with_reducible assumption | omega) w128 H.size hT ) (cwV 2 hC.2.2.2.2 uV_RX12_348 rfl rfl rfl (by decide +kernel) ⟨Nat.le_of_ble_eq_true rfl, Nat.le_of_ble_eq_true rfl⟩) rfl hl.1 rfl (Nat.le_of_ble_eq_true rfl) dX12_wayFrom_76 (fun r148 w150 H locs hp149 hw => ?_)
                obtain ⟨rfl, hg157⟩ := hp149
                rcases hg157 with ⟨g152, g153⟩ | ⟨g154, g155, c156⟩
                · refine lv_iload_n hx hb dX12_wayFrom_79 rfl (lv_at hl 2 rfl) ?_
                  refine lv_aload_n hx hb dX12_wayFrom_80 rfl (lv_at hl 0 rfl) ?_
                  refine tk_geti hC hK hw hT hinX12 kM_at0 (by decide) rfl 37 (by decide) (List.mem_cons_of_mem _ uw_52_21) rfl rfl dX12_wayFrom_81 (fun x158 c159 rx158 tx158 => ?_)
                  refine wk_top r42 (c159.symm.trans c129) ?_
                  refine lv_aload_n hx hb dX12_wayFrom_84 rfl (lv_at hl 0 rfl) ?_
                  refine lv_iload hx hb dX12_wayFrom_85 (lv_at hl 5 rfl) ?_
                  refine lv_iconst (v := 2) hx hb dX12_wayFrom_87 (by decide) ?_
                  refine tk_Vi hC hK hw hT hA hE hSR kM_at0 (by decide) rfl (k_X12_streetOf_6 l adK adV dC dI cy ad B hB0 (Int.le_trans hB1 (by decide)) qr s1   v3_5 (show 0 ≤ v3_5.toInt from r10) (show v3_5.toInt ≤ 11 by first | with_reducible assumption | omega) w128 H.size hT ) (cwV 2 hC.2.2.2.2 uV_RX12_300 rfl rfl rfl (by decide +kernel) ⟨Nat.le_of_ble_eq_true rfl, Nat.le_of_ble_eq_true rfl⟩) rfl hl.1 rfl (Nat.le_of_ble_eq_true rfl) dX12_wayFrom_88 (fun r160 w162 H locs hp161 hw => ?_)
                  obtain ⟨rfl, hg167⟩ := hp161
                  obtain ⟨g164, g165, c166⟩ := hg167
                  obtain rfl : r138 = r160 := c144.symm.trans c166
                  refine lv_iadd hx hb dX12_wayFrom_91 ?_
                  refine lv_topi (fun x168 ex168 => ?_)
                  have ex168 : x168.toInt = r42.toInt + r138.toInt := by rw [ex168]; exact wk_add (show (-2147483648) ≤ r42.toInt + r138.toInt by omega) (show r42.toInt + r138.toInt ≤ 2147483647 by omega)
                  refine lv_iload hx hb dX12_wayFrom_92 (lv_at hl 4 rfl) ?_
                  refine tk_Vi hC hK hw hT hA hE hSR kM_at0 (by decide) rfl (k_X12_reaches_2 l adK adV dC dI cy ad B hB0 (Int.le_trans hB1 (by decide)) qr s1   r148 (show 0 ≤ r148.toInt by first | with_reducible assumption | omega) (show r148.toInt ≤ 9 by first | with_reducible assumption | omega) a2 (show 0 ≤ a2.toInt from r4) (show a2.toInt ≤ 9 from t5) x168 (show 0 ≤ x168.toInt by first | with_reducible assumption | omega) (show x168.toInt ≤ 100000100 by first | with_reducible assumption | omega) a4 (show 0 ≤ a4.toInt from r8) (show a4.toInt ≤ 100000100 from t9) w128 H.size hT ) (cwV 4 hC.2.2.2.2 uV_RX12_456 rfl rfl rfl (by decide +kernel) ⟨Nat.le_of_ble_eq_true rfl, Nat.le_of_ble_eq_true rfl⟩) rfl hl.1 rfl (Nat.le_of_ble_eq_true rfl) dX12_wayFrom_94 (fun r169 w171 H locs hp170 hw => ?_)
                  obtain ⟨hT, k172, hg175⟩ := hp170
                  have hF := hF.tr k172 (by decide)
                  have c176 := k172.gi kM_at12 (by decide) c131
                  have c177 := k172.gi kM_at12 rfl c132
                  have c178 := k172.gi kM_at0 (by decide) c129
                  have c179 := k172.gi kM_at12 rfl c144
                  obtain ⟨g173, g174⟩ := hg175
                  refine lv_iload hx hb dX12_wayFrom_97 (lv_at hl 4 rfl) ?_
                  refine lv_icmp_ne (tgt := 105) hx hb dX12_wayFrom_99 (by decide) (fun c180 => ?_) (fun c180 => ?_)
                  · have c180 : ¬ r169.toInt = a4.toInt := wk_eqF c180
                    exact J105 x27 H locs ls w171 (show 0 ≤ a1.toInt from r2) (show a1.toInt ≤ 12 from t3) (show 0 ≤ a2.toInt from r4) (show a2.toInt ≤ 9 from t5) (show 0 ≤ a3.toInt from r6) (show a3.toInt ≤ 100000208 from t7) (show 0 ≤ a4.toInt from r8) (show a4.toInt ≤ 100000100 from t9) (show 0 ≤ v3_5.toInt from r10) (show v3_5.toInt ≤ 11 by first | with_reducible assumption | omega) (show 1 ≤ x27.toInt by first | with_reducible assumption | omega) (show x27.toInt ≤ 12 by first | with_reducible assumption | omega)  hw hT hF c176 (lv_sub hl [0, 1, 2, 3, 4, 5] rfl)
                  · have c180 : r169.toInt = a4.toInt := wk_eq.mp c180
                    refine lv_iload hx hb dX12_wayFrom_102 (lv_at hl 5 rfl) ?_
                    exact tk_iret hC hr hlocks hK ⟨hT, hF, (Or.inr (Or.inl ⟨(show 0 ≤ v3_5.toInt from r10), (show v3_5.toInt ≤ 11 by first | with_reducible assumption | omega), (show a1.toInt ≤ 9 by first | with_reducible assumption | omega), ⟨r42, c178, (show 0 ≤ r42.toInt by first | with_reducible assumption | omega), (show r42.toInt ≤ 100000100 by first | with_reducible assumption | omega)⟩, ⟨x27, c176, (show 1 ≤ x27.toInt by first | with_reducible assumption | omega), (show x27.toInt ≤ 12 by first | with_reducible assumption | omega)⟩, c177⟩))⟩ hw dX12_wayFrom_104
                · refine lv_iload_n hx hb dX12_wayFrom_79 rfl (lv_at hl 2 rfl) ?_
                  refine lv_aload_n hx hb dX12_wayFrom_80 rfl (lv_at hl 0 rfl) ?_
                  refine tk_geti hC hK hw hT hinX12 kM_at0 (by decide) rfl 37 (by decide) (List.mem_cons_of_mem _ uw_52_21) rfl rfl dX12_wayFrom_81 (fun x181 c182 rx181 tx181 => ?_)
                  refine wk_top r42 (c182.symm.trans c129) ?_
                  refine lv_aload_n hx hb dX12_wayFrom_84 rfl (lv_at hl 0 rfl) ?_
                  refine lv_iload hx hb dX12_wayFrom_85 (lv_at hl 5 rfl) ?_
                  refine lv_iconst (v := 2) hx hb dX12_wayFrom_87 (by decide) ?_
                  refine tk_Vi hC hK hw hT hA hE hSR kM_at0 (by decide) rfl (k_X12_streetOf_6 l adK adV dC dI cy ad B hB0 (Int.le_trans hB1 (by decide)) qr s1   v3_5 (show 0 ≤ v3_5.toInt from r10) (show v3_5.toInt ≤ 11 by first | with_reducible assumption | omega) w128 H.size hT ) (cwV 2 hC.2.2.2.2 uV_RX12_300 rfl rfl rfl (by decide +kernel) ⟨Nat.le_of_ble_eq_true rfl, Nat.le_of_ble_eq_true rfl⟩) rfl hl.1 rfl (Nat.le_of_ble_eq_true rfl) dX12_wayFrom_88 (fun r183 w185 H locs hp184 hw => ?_)
                  obtain ⟨rfl, hg190⟩ := hp184
                  obtain ⟨g187, g188, c189⟩ := hg190
                  obtain rfl : r138 = r183 := c144.symm.trans c189
                  refine lv_iadd hx hb dX12_wayFrom_91 ?_
                  refine lv_topi (fun x191 ex191 => ?_)
                  have ex191 : x191.toInt = r42.toInt + r138.toInt := by rw [ex191]; exact wk_add (show (-2147483648) ≤ r42.toInt + r138.toInt by omega) (show r42.toInt + r138.toInt ≤ 2147483647 by omega)
                  refine lv_iload hx hb dX12_wayFrom_92 (lv_at hl 4 rfl) ?_
                  refine tk_Vi hC hK hw hT hA hE hSR kM_at0 (by decide) rfl (k_X12_reaches_2 l adK adV dC dI cy ad B hB0 (Int.le_trans hB1 (by decide)) qr s1   r148 (show 0 ≤ r148.toInt by first | with_reducible assumption | omega) (show r148.toInt ≤ 9 by first | with_reducible assumption | omega) a2 (show 0 ≤ a2.toInt from r4) (show a2.toInt ≤ 9 from t5) x191 (show 0 ≤ x191.toInt by first | with_reducible assumption | omega) (show x191.toInt ≤ 100000100 by first | with_reducible assumption | omega) a4 (show 0 ≤ a4.toInt from r8) (show a4.toInt ≤ 100000100 from t9) w128 H.size hT ) (cwV 4 hC.2.2.2.2 uV_RX12_456 rfl rfl rfl (by decide +kernel) ⟨Nat.le_of_ble_eq_true rfl, Nat.le_of_ble_eq_true rfl⟩) rfl hl.1 rfl (Nat.le_of_ble_eq_true rfl) dX12_wayFrom_94 (fun r192 w194 H locs hp193 hw => ?_)
                  obtain ⟨hT, k195, hg198⟩ := hp193
                  have hF := hF.tr k195 (by decide)
                  have c199 := k195.gi kM_at12 (by decide) c131
                  have c200 := k195.gi kM_at12 rfl c132
                  have c201 := k195.gi kM_at0 (by decide) c129
                  have c202 := k195.gi kM_at12 rfl c144
                  obtain ⟨g196, g197⟩ := hg198
                  refine lv_iload hx hb dX12_wayFrom_97 (lv_at hl 4 rfl) ?_
                  refine lv_icmp_ne (tgt := 105) hx hb dX12_wayFrom_99 (by decide) (fun c203 => ?_) (fun c203 => ?_)
                  · have c203 : ¬ r192.toInt = a4.toInt := wk_eqF c203
                    exact J105 x27 H locs ls w194 (show 0 ≤ a1.toInt from r2) (show a1.toInt ≤ 12 from t3) (show 0 ≤ a2.toInt from r4) (show a2.toInt ≤ 9 from t5) (show 0 ≤ a3.toInt from r6) (show a3.toInt ≤ 100000208 from t7) (show 0 ≤ a4.toInt from r8) (show a4.toInt ≤ 100000100 from t9) (show 0 ≤ v3_5.toInt from r10) (show v3_5.toInt ≤ 11 by first | with_reducible assumption | omega) (show 1 ≤ x27.toInt by first | with_reducible assumption | omega) (show x27.toInt ≤ 12 by first | with_reducible assumption | omega)  hw hT hF c199 (lv_sub hl [0, 1, 2, 3, 4, 5] rfl)
                  · have c203 : r192.toInt = a4.toInt := wk_eq.mp c203
                    refine lv_iload hx hb dX12_wayFrom_102 (lv_at hl 5 rfl) ?_
                    exact tk_iret hC hr hlocks hK ⟨hT, hF, (Or.inr (Or.inl ⟨(show 0 ≤ v3_5.toInt from r10), (show v3_5.toInt ≤ 11 by first | with_reducible assumption | omega), (show a1.toInt ≤ 9 by first | with_reducible assumption | omega), ⟨r42, c201, (show 0 ≤ r42.toInt by first | with_reducible assumption | omega), (show r42.toInt ≤ 100000100 by first | with_reducible assumption | omega)⟩, ⟨x27, c199, (show 1 ≤ x27.toInt by first | with_reducible assumption | omega), (show x27.toInt ≤ 12 by first | with_reducible assumption | omega)⟩, c200⟩))⟩ hw dX12_wayFrom_104
              · have c147 : a4.toInt < x146.toInt := wk_leF c147
                refine lv_goto (tgt := 105) hx hb dX12_wayFrom_68 (by decide) ?_
                exact J105 x27 H locs ls w128 (show 0 ≤ a1.toInt from r2) (show a1.toInt ≤ 12 from t3) (show 0 ≤ a2.toInt from r4) (show a2.toInt ≤ 9 from t5) (show 0 ≤ a3.toInt from r6) (show a3.toInt ≤ 100000208 from t7) (show 0 ≤ a4.toInt from r8) (show a4.toInt ≤ 100000100 from t9) (show 0 ≤ v3_5.toInt from r10) (show v3_5.toInt ≤ 11 by first | with_reducible assumption | omega) (show 1 ≤ x27.toInt by first | with_reducible assumption | omega) (show x27.toInt ≤ 12 by first | with_reducible assumption | omega)  hw hT hF c131 (lv_sub hl [0, 1, 2, 3, 4, 5] rfl)
        · refine lv_if_ne (tgt := 27) hx hb dX12_wayFrom_21 (by decide) (fun _ => ?_) (fun c => absurd c (by decide))
          refine lv_aload_n hx hb dX12_wayFrom_27 rfl (lv_at hl 0 rfl) ?_
          refine lv_aload_n hx hb dX12_wayFrom_28 rfl (lv_at hl 0 rfl) ?_
          refine lv_iload hx hb dX12_wayFrom_29 (lv_at hl 5 rfl) ?_
          refine lv_iload_n hx hb dX12_wayFrom_31 rfl (lv_at hl 1 rfl) ?_
          refine lv_iload_n hx hb dX12_wayFrom_32 rfl (lv_at hl 3 rfl) ?_
          refine lv_iload hx hb dX12_wayFrom_33 (lv_at hl 4 rfl) ?_
          refine tk_Vi hC hK hw hT hA hE hSR kM_at0 (by decide) rfl (k_X12_firstOpen_2 l adK adV dC dI cy ad B hB0 (Int.le_trans hB1 (by decide)) qr s1   v3_5 (show 0 ≤ v3_5.toInt from r10) (show v3_5.toInt ≤ 11 by first | with_reducible assumption | omega) a1 (show 0 ≤ a1.toInt from r2) (show a1.toInt ≤ 9 by first | with_reducible assumption | omega) a3 (show 0 ≤ a3.toInt from r6) (show a3.toInt ≤ 100000208 from t7) a4 (show 0 ≤ a4.toInt from r8) (show a4.toInt ≤ 100000100 from t9) w1 H.size hT ) (cwV 4 hC.2.2.2.2 uV_RX12_449 rfl rfl rfl (by decide +kernel) ⟨Nat.le_of_ble_eq_true rfl, Nat.le_of_ble_eq_true rfl⟩) rfl hl.1 rfl (Nat.le_of_ble_eq_true rfl) dX12_wayFrom_35 (fun r204 w206 H locs hp205 hw => ?_)
          obtain ⟨rfl, hg213⟩ := hp205
          rcases hg213 with ⟨g208, g209⟩ | ⟨g210, g211, c212⟩
          · refine tk_puti hC hK hw hT hinX12 tyX12_ok nmX12 kM_at0 (by decide) rfl rfl 37 (by decide) (List.mem_cons_of_mem _ uw_52_21) rfl rfl rfl rfl (show 0 ≤ r204.toInt by first | with_reducible assumption | omega) (show r204.toInt ≤ 100000200 by first | with_reducible assumption | omega) dX12_wayFrom_38 (fun H locs w214 hw hT k216 c215 => ?_)
            have hF := hF.put kM_at0 (k := 37) (by decide) k216
            have c217 := k216.gi (Or.inr (by decide)) c28
            have c218 := k216.gi (Or.inl (tk_ne kM_at12 kM_at0 (by decide))) c39
            refine lv_aload_n hx hb dX12_wayFrom_41 rfl (lv_at hl 0 rfl) ?_
            refine tk_geti hC hK hw hT hinX12 kM_at0 (by decide) rfl 37 (by decide) (List.mem_cons_of_mem _ uw_52_21) rfl rfl dX12_wayFrom_42 (fun x219 c220 rx219 tx219 => ?_)
            refine wk_top r204 (c220.symm.trans c215) ?_
            refine lv_ldcw (v := 100000000) hx hb hC.2.2.2.1 (hC.2.2.2.2 _ (List.mem_cons_of_mem _ uw_38_2)) dX12_wayFrom_45 ?_
            refine lv_icmp_eq (tgt := 105) hx hb dX12_wayFrom_48 (by decide) (fun c221 => ?_) (fun c221 => ?_)
            · have c221 : r204.toInt = (100000000 : Int) := wk_eq.mp c221
              exact J105 x27 H locs ls w214 (show 0 ≤ a1.toInt from r2) (show a1.toInt ≤ 12 from t3) (show 0 ≤ a2.toInt from r4) (show a2.toInt ≤ 9 from t5) (show 0 ≤ a3.toInt from r6) (show a3.toInt ≤ 100000208 from t7) (show 0 ≤ a4.toInt from r8) (show a4.toInt ≤ 100000100 from t9) (show 0 ≤ v3_5.toInt from r10) (show v3_5.toInt ≤ 11 by first | with_reducible assumption | omega) (show 1 ≤ x27.toInt by first | with_reducible assumption | omega) (show x27.toInt ≤ 12 by first | with_reducible assumption | omega)  hw hT hF c217 (lv_sub hl [0, 1, 2, 3, 4, 5] rfl)
            · have c221 : ¬ r204.toInt = (100000000 : Int) := wk_eqF c221
              refine lv_aload_n hx hb dX12_wayFrom_51 rfl (lv_at hl 0 rfl) ?_
              refine tk_geti hC hK hw hT hinX12 kM_at0 (by decide) rfl 37 (by decide) (List.mem_cons_of_mem _ uw_52_21) rfl rfl dX12_wayFrom_52 (fun x222 c223 rx222 tx222 => ?_)
              refine wk_top r204 (c223.symm.trans c215) ?_
              refine lv_aload_n hx hb dX12_wayFrom_55 rfl (lv_at hl 0 rfl) ?_
              refine lv_iload hx hb dX12_wayFrom_56 (lv_at hl 5 rfl) ?_
              refine lv_iconst (v := 2) hx hb dX12_wayFrom_58 (by decide) ?_
              refine tk_Vi hC hK hw hT hA hE hSR kM_at0 (by decide) rfl (k_X12_streetOf_6 l adK adV dC dI cy ad B hB0 (Int.le_trans hB1 (by decide)) qr s1   v3_5 (show 0 ≤ v3_5.toInt from r10) (show v3_5.toInt ≤ 11 by first | with_reducible assumption | omega) w214 H.size hT ) (cwV 2 hC.2.2.2.2 uV_RX12_300 rfl rfl rfl (by decide +kernel) ⟨Nat.le_of_ble_eq_true rfl, Nat.le_of_ble_eq_true rfl⟩) rfl hl.1 rfl (Nat.le_of_ble_eq_true rfl) dX12_wayFrom_59 (fun r224 w226 H locs hp225 hw => ?_)
              obtain ⟨rfl, hg231⟩ := hp225
              obtain ⟨g228, g229, c230⟩ := hg231
              refine lv_iadd hx hb dX12_wayFrom_62 ?_
              refine lv_topi (fun x232 ex232 => ?_)
              have ex232 : x232.toInt = r204.toInt + r224.toInt := by rw [ex232]; exact wk_add (show (-2147483648) ≤ r204.toInt + r224.toInt by omega) (show r204.toInt + r224.toInt ≤ 2147483647 by omega)
              refine lv_iload hx hb dX12_wayFrom_63 (lv_at hl 4 rfl) ?_
              refine lv_icmp_le (tgt := 71) hx hb dX12_wayFrom_65 (by decide) (fun c233 => ?_) (fun c233 => ?_)
              · have c233 : x232.toInt ≤ a4.toInt := wk_le.mp c233
                refine lv_aload_n hx hb dX12_wayFrom_71 rfl (lv_at hl 0 rfl) ?_
                refine lv_aload_n hx hb dX12_wayFrom_72 rfl (lv_at hl 0 rfl) ?_
                refine lv_iload hx hb dX12_wayFrom_73 (lv_at hl 5 rfl) ?_
                refine lv_iload_n hx hb dX12_wayFrom_75 rfl (lv_at hl 1 rfl) ?_
                refine tk_Vi hC hK hw hT hA hE hSR kM_at0 (by decide) rfl (k_X12_otherOf_1 l adK adV dC dI cy ad B hB0 (Int.le_trans hB1 (by decide)) qr s1   v3_5 (show 0 ≤ v3_5.toInt from r10) (show v3_5.toInt ≤ 11 by first | with_reducible assumption | omega) a1 (show 0 ≤ a1.toInt from r2) (show a1.toInt ≤ 9 by first | with_reducible assumption | omega) w214 H.size hT ) (cwV 2 hC.2.2.2.2 uV_RX12_348 rfl rfl rfl (by decide +kernel) ⟨Nat.le_of_ble_eq_true rfl, Nat.le_of_ble_eq_true rfl⟩) rfl hl.1 rfl (Nat.le_of_ble_eq_true rfl) dX12_wayFrom_76 (fun r234 w236 H locs hp235 hw => ?_)
                obtain ⟨rfl, hg243⟩ := hp235
                rcases hg243 with ⟨g238, g239⟩ | ⟨g240, g241, c242⟩
                · refine lv_iload_n hx hb dX12_wayFrom_79 rfl (lv_at hl 2 rfl) ?_
                  refine lv_aload_n hx hb dX12_wayFrom_80 rfl (lv_at hl 0 rfl) ?_
                  refine tk_geti hC hK hw hT hinX12 kM_at0 (by decide) rfl 37 (by decide) (List.mem_cons_of_mem _ uw_52_21) rfl rfl dX12_wayFrom_81 (fun x244 c245 rx244 tx244 => ?_)
                  refine wk_top r204 (c245.symm.trans c215) ?_
                  refine lv_aload_n hx hb dX12_wayFrom_84 rfl (lv_at hl 0 rfl) ?_
                  refine lv_iload hx hb dX12_wayFrom_85 (lv_at hl 5 rfl) ?_
                  refine lv_iconst (v := 2) hx hb dX12_wayFrom_87 (by decide) ?_
                  refine tk_Vi hC hK hw hT hA hE hSR kM_at0 (by decide) rfl (k_X12_streetOf_6 l adK adV dC dI cy ad B hB0 (Int.le_trans hB1 (by decide)) qr s1   v3_5 (show 0 ≤ v3_5.toInt from r10) (show v3_5.toInt ≤ 11 by first | with_reducible assumption | omega) w214 H.size hT ) (cwV 2 hC.2.2.2.2 uV_RX12_300 rfl rfl rfl (by decide +kernel) ⟨Nat.le_of_ble_eq_true rfl, Nat.le_of_ble_eq_true rfl⟩) rfl hl.1 rfl (Nat.le_of_ble_eq_true rfl) dX12_wayFrom_88 (fun r246 w248 H locs hp247 hw => ?_)
                  obtain ⟨rfl, hg253⟩ := hp247
                  obtain ⟨g250, g251, c252⟩ := hg253
                  obtain rfl : r224 = r246 := c230.symm.trans c252
                  refine lv_iadd hx hb dX12_wayFrom_91 ?_
                  refine lv_topi (fun x254 ex254 => ?_)
                  have ex254 : x254.toInt = r204.toInt + r224.toInt := by rw [ex254]; exact wk_add (show (-2147483648) ≤ r204.toInt + r224.toInt by omega) (show r204.toInt + r224.toInt ≤ 2147483647 by omega)
                  refine lv_iload hx hb dX12_wayFrom_92 (lv_at hl 4 rfl) ?_
                  refine tk_Vi hC hK hw hT hA hE hSR kM_at0 (by decide) rfl (k_X12_reaches_2 l adK adV dC dI cy ad B hB0 (Int.le_trans hB1 (by decide)) qr s1   r234 (show 0 ≤ r234.toInt by first | with_reducible assumption | omega) (show r234.toInt ≤ 9 by first | with_reducible assumption | omega) a2 (show 0 ≤ a2.toInt from r4) (show a2.toInt ≤ 9 from t5) x254 (show 0 ≤ x254.toInt by first | with_reducible assumption | omega) (show x254.toInt ≤ 100000100 by first | with_reducible assumption | omega) a4 (show 0 ≤ a4.toInt from r8) (show a4.toInt ≤ 100000100 from t9) w214 H.size hT ) (cwV 4 hC.2.2.2.2 uV_RX12_456 rfl rfl rfl (by decide +kernel) ⟨Nat.le_of_ble_eq_true rfl, Nat.le_of_ble_eq_true rfl⟩) rfl hl.1 rfl (Nat.le_of_ble_eq_true rfl) dX12_wayFrom_94 (fun r255 w257 H locs hp256 hw => ?_)
                  obtain ⟨hT, k258, hg261⟩ := hp256
                  have hF := hF.tr k258 (by decide)
                  have c262 := k258.gi kM_at12 (by decide) c217
                  have c263 := k258.gi kM_at12 rfl c218
                  have c264 := k258.gi kM_at0 (by decide) c215
                  have c265 := k258.gi kM_at12 rfl c230
                  obtain ⟨g259, g260⟩ := hg261
                  refine lv_iload hx hb dX12_wayFrom_97 (lv_at hl 4 rfl) ?_
                  refine lv_icmp_ne (tgt := 105) hx hb dX12_wayFrom_99 (by decide) (fun c266 => ?_) (fun c266 => ?_)
                  · have c266 : ¬ r255.toInt = a4.toInt := wk_eqF c266
                    exact J105 x27 H locs ls w257 (show 0 ≤ a1.toInt from r2) (show a1.toInt ≤ 12 from t3) (show 0 ≤ a2.toInt from r4) (show a2.toInt ≤ 9 from t5) (show 0 ≤ a3.toInt from r6) (show a3.toInt ≤ 100000208 from t7) (show 0 ≤ a4.toInt from r8) (show a4.toInt ≤ 100000100 from t9) (show 0 ≤ v3_5.toInt from r10) (show v3_5.toInt ≤ 11 by first | with_reducible assumption | omega) (show 1 ≤ x27.toInt by first | with_reducible assumption | omega) (show x27.toInt ≤ 12 by first | with_reducible assumption | omega)  hw hT hF c262 (lv_sub hl [0, 1, 2, 3, 4, 5] rfl)
                  · have c266 : r255.toInt = a4.toInt := wk_eq.mp c266
                    refine lv_iload hx hb dX12_wayFrom_102 (lv_at hl 5 rfl) ?_
                    exact tk_iret hC hr hlocks hK ⟨hT, hF, (Or.inr (Or.inr (Or.inl ⟨(show 0 ≤ v3_5.toInt from r10), (show v3_5.toInt ≤ 11 by first | with_reducible assumption | omega), (show a1.toInt ≤ 9 by first | with_reducible assumption | omega), ⟨r204, c264, (show 0 ≤ r204.toInt by first | with_reducible assumption | omega), (show r204.toInt ≤ 100000100 by first | with_reducible assumption | omega)⟩, ⟨x27, c262, (show 1 ≤ x27.toInt by first | with_reducible assumption | omega), (show x27.toInt ≤ 12 by first | with_reducible assumption | omega)⟩, c263⟩)))⟩ hw dX12_wayFrom_104
                · refine lv_iload_n hx hb dX12_wayFrom_79 rfl (lv_at hl 2 rfl) ?_
                  refine lv_aload_n hx hb dX12_wayFrom_80 rfl (lv_at hl 0 rfl) ?_
                  refine tk_geti hC hK hw hT hinX12 kM_at0 (by decide) rfl 37 (by decide) (List.mem_cons_of_mem _ uw_52_21) rfl rfl dX12_wayFrom_81 (fun x267 c268 rx267 tx267 => ?_)
                  refine wk_top r204 (c268.symm.trans c215) ?_
                  refine lv_aload_n hx hb dX12_wayFrom_84 rfl (lv_at hl 0 rfl) ?_
                  refine lv_iload hx hb dX12_wayFrom_85 (lv_at hl 5 rfl) ?_
                  refine lv_iconst (v := 2) hx hb dX12_wayFrom_87 (by decide) ?_
                  refine tk_Vi hC hK hw hT hA hE hSR kM_at0 (by decide) rfl (k_X12_streetOf_6 l adK adV dC dI cy ad B hB0 (Int.le_trans hB1 (by decide)) qr s1   v3_5 (show 0 ≤ v3_5.toInt from r10) (show v3_5.toInt ≤ 11 by first | with_reducible assumption | omega) w214 H.size hT ) (cwV 2 hC.2.2.2.2 uV_RX12_300 rfl rfl rfl (by decide +kernel) ⟨Nat.le_of_ble_eq_true rfl, Nat.le_of_ble_eq_true rfl⟩) rfl hl.1 rfl (Nat.le_of_ble_eq_true rfl) dX12_wayFrom_88 (fun r269 w271 H locs hp270 hw => ?_)
                  obtain ⟨rfl, hg276⟩ := hp270
                  obtain ⟨g273, g274, c275⟩ := hg276
                  obtain rfl : r224 = r269 := c230.symm.trans c275
                  refine lv_iadd hx hb dX12_wayFrom_91 ?_
                  refine lv_topi (fun x277 ex277 => ?_)
                  have ex277 : x277.toInt = r204.toInt + r224.toInt := by rw [ex277]; exact wk_add (show (-2147483648) ≤ r204.toInt + r224.toInt by omega) (show r204.toInt + r224.toInt ≤ 2147483647 by omega)
                  refine lv_iload hx hb dX12_wayFrom_92 (lv_at hl 4 rfl) ?_
                  refine tk_Vi hC hK hw hT hA hE hSR kM_at0 (by decide) rfl (k_X12_reaches_2 l adK adV dC dI cy ad B hB0 (Int.le_trans hB1 (by decide)) qr s1   r234 (show 0 ≤ r234.toInt by first | with_reducible assumption | omega) (show r234.toInt ≤ 9 by first | with_reducible assumption | omega) a2 (show 0 ≤ a2.toInt from r4) (show a2.toInt ≤ 9 from t5) x277 (show 0 ≤ x277.toInt by first | with_reducible assumption | omega) (show x277.toInt ≤ 100000100 by first | with_reducible assumption | omega) a4 (show 0 ≤ a4.toInt from r8) (show a4.toInt ≤ 100000100 from t9) w214 H.size hT ) (cwV 4 hC.2.2.2.2 uV_RX12_456 rfl rfl rfl (by decide +kernel) ⟨Nat.le_of_ble_eq_true rfl, Nat.le_of_ble_eq_true rfl⟩) rfl hl.1 rfl (Nat.le_of_ble_eq_true rfl) dX12_wayFrom_94 (fun r278 w280 H locs hp279 hw => ?_)
                  obtain ⟨hT, k281, hg284⟩ := hp279
                  have hF := hF.tr k281 (by decide)
                  have c285 := k281.gi kM_at12 (by decide) c217
                  have c286 := k281.gi kM_at12 rfl c218
                  have c287 := k281.gi kM_at0 (by decide) c215
                  have c288 := k281.gi kM_at12 rfl c230
                  have c289 := k281.gi kM_at12 rfl c242
                  obtain ⟨g282, g283⟩ := hg284
                  refine lv_iload hx hb dX12_wayFrom_97 (lv_at hl 4 rfl) ?_
                  refine lv_icmp_ne (tgt := 105) hx hb dX12_wayFrom_99 (by decide) (fun c290 => ?_) (fun c290 => ?_)
                  · have c290 : ¬ r278.toInt = a4.toInt := wk_eqF c290
                    exact J105 x27 H locs ls w280 (show 0 ≤ a1.toInt from r2) (show a1.toInt ≤ 12 from t3) (show 0 ≤ a2.toInt from r4) (show a2.toInt ≤ 9 from t5) (show 0 ≤ a3.toInt from r6) (show a3.toInt ≤ 100000208 from t7) (show 0 ≤ a4.toInt from r8) (show a4.toInt ≤ 100000100 from t9) (show 0 ≤ v3_5.toInt from r10) (show v3_5.toInt ≤ 11 by first | with_reducible assumption | omega) (show 1 ≤ x27.toInt by first | with_reducible assumption | omega) (show x27.toInt ≤ 12 by first | with_reducible assumption | omega)  hw hT hF c285 (lv_sub hl [0, 1, 2, 3, 4, 5] rfl)
                  · have c290 : r278.toInt = a4.toInt := wk_eq.mp c290
                    refine lv_iload hx hb dX12_wayFrom_102 (lv_at hl 5 rfl) ?_
                    exact tk_iret hC hr hlocks hK ⟨hT, hF, (Or.inl ⟨(show 0 ≤ v3_5.toInt from r10), (show v3_5.toInt ≤ 11 by first | with_reducible assumption | omega), (show a1.toInt ≤ 9 by first | with_reducible assumption | omega), ⟨r204, c287, (show 0 ≤ r204.toInt by first | with_reducible assumption | omega), (show r204.toInt ≤ 100000100 by first | with_reducible assumption | omega)⟩, ⟨x27, c285, (show 1 ≤ x27.toInt by first | with_reducible assumption | omega), (show x27.toInt ≤ 12 by first | with_reducible assumption | omega)⟩, c289, c286⟩)⟩ hw dX12_wayFrom_104
              · have c233 : a4.toInt < x232.toInt := wk_leF c233
                refine lv_goto (tgt := 105) hx hb dX12_wayFrom_68 (by decide) ?_
                exact J105 x27 H locs ls w214 (show 0 ≤ a1.toInt from r2) (show a1.toInt ≤ 12 from t3) (show 0 ≤ a2.toInt from r4) (show a2.toInt ≤ 9 from t5) (show 0 ≤ a3.toInt from r6) (show a3.toInt ≤ 100000208 from t7) (show 0 ≤ a4.toInt from r8) (show a4.toInt ≤ 100000100 from t9) (show 0 ≤ v3_5.toInt from r10) (show v3_5.toInt ≤ 11 by first | with_reducible assumption | omega) (show 1 ≤ x27.toInt by first | with_reducible assumption | omega) (show x27.toInt ≤ 12 by first | with_reducible assumption | omega)  hw hT hF c217 (lv_sub hl [0, 1, 2, 3, 4, 5] rfl)
          · refine tk_puti hC hK hw hT hinX12 tyX12_ok nmX12 kM_at0 (by decide) rfl rfl 37 (by decide) (List.mem_cons_of_mem _ uw_52_21) rfl rfl rfl rfl (show 0 ≤ r204.toInt by first | with_reducible assumption | omega) (show r204.toInt ≤ 100000200 by first | with_reducible assumption | omega) dX12_wayFrom_38 (fun H locs w291 hw hT k293 c292 => ?_)
            have hF := hF.put kM_at0 (k := 37) (by decide) k293
            have c294 := k293.gi (Or.inr (by decide)) c28
            have c295 := k293.gi (Or.inl (tk_ne kM_at12 kM_at0 (by decide))) c39
            have c296 := k293.gi (Or.inl (tk_ne kM_at12 kM_at0 (by decide))) c212
            refine lv_aload_n hx hb dX12_wayFrom_41 rfl (lv_at hl 0 rfl) ?_
            refine tk_geti hC hK hw hT hinX12 kM_at0 (by decide) rfl 37 (by decide) (List.mem_cons_of_mem _ uw_52_21) rfl rfl dX12_wayFrom_42 (fun x297 c298 rx297 tx297 => ?_)
            refine wk_top r204 (c298.symm.trans c292) ?_
            refine lv_ldcw (v := 100000000) hx hb hC.2.2.2.1 (hC.2.2.2.2 _ (List.mem_cons_of_mem _ uw_38_2)) dX12_wayFrom_45 ?_
            refine lv_icmp_eq (tgt := 105) hx hb dX12_wayFrom_48 (by decide) (fun c299 => ?_) (fun c299 => ?_)
            · have c299 : r204.toInt = (100000000 : Int) := wk_eq.mp c299
              exact J105 x27 H locs ls w291 (show 0 ≤ a1.toInt from r2) (show a1.toInt ≤ 12 from t3) (show 0 ≤ a2.toInt from r4) (show a2.toInt ≤ 9 from t5) (show 0 ≤ a3.toInt from r6) (show a3.toInt ≤ 100000208 from t7) (show 0 ≤ a4.toInt from r8) (show a4.toInt ≤ 100000100 from t9) (show 0 ≤ v3_5.toInt from r10) (show v3_5.toInt ≤ 11 by first | with_reducible assumption | omega) (show 1 ≤ x27.toInt by first | with_reducible assumption | omega) (show x27.toInt ≤ 12 by first | with_reducible assumption | omega)  hw hT hF c294 (lv_sub hl [0, 1, 2, 3, 4, 5] rfl)
            · have c299 : ¬ r204.toInt = (100000000 : Int) := wk_eqF c299
              refine lv_aload_n hx hb dX12_wayFrom_51 rfl (lv_at hl 0 rfl) ?_
              refine tk_geti hC hK hw hT hinX12 kM_at0 (by decide) rfl 37 (by decide) (List.mem_cons_of_mem _ uw_52_21) rfl rfl dX12_wayFrom_52 (fun x300 c301 rx300 tx300 => ?_)
              refine wk_top r204 (c301.symm.trans c292) ?_
              refine lv_aload_n hx hb dX12_wayFrom_55 rfl (lv_at hl 0 rfl) ?_
              refine lv_iload hx hb dX12_wayFrom_56 (lv_at hl 5 rfl) ?_
              refine lv_iconst (v := 2) hx hb dX12_wayFrom_58 (by decide) ?_
              refine tk_Vi hC hK hw hT hA hE hSR kM_at0 (by decide) rfl (k_X12_streetOf_6 l adK adV dC dI cy ad B hB0 (Int.le_trans hB1 (by decide)) qr s1   v3_5 (show 0 ≤ v3_5.toInt from r10) (show v3_5.toInt ≤ 11 by first | with_reducible assumption | omega) w291 H.size hT ) (cwV 2 hC.2.2.2.2 uV_RX12_300 rfl rfl rfl (by decide +kernel) ⟨Nat.le_of_ble_eq_true rfl, Nat.le_of_ble_eq_true rfl⟩) rfl hl.1 rfl (Nat.le_of_ble_eq_true rfl) dX12_wayFrom_59 (fun r302 w304 H locs hp303 hw => ?_)
              obtain ⟨rfl, hg309⟩ := hp303
              obtain ⟨g306, g307, c308⟩ := hg309
              refine lv_iadd hx hb dX12_wayFrom_62 ?_
              refine lv_topi (fun x310 ex310 => ?_)
              have ex310 : x310.toInt = r204.toInt + r302.toInt := by rw [ex310]; exact wk_add (show (-2147483648) ≤ r204.toInt + r302.toInt by omega) (show r204.toInt + r302.toInt ≤ 2147483647 by omega)
              refine lv_iload hx hb dX12_wayFrom_63 (lv_at hl 4 rfl) ?_
              refine lv_icmp_le (tgt := 71) hx hb dX12_wayFrom_65 (by decide) (fun c311 => ?_) (fun c311 => ?_)
              · have c311 : x310.toInt ≤ a4.toInt := wk_le.mp c311
                refine lv_aload_n hx hb dX12_wayFrom_71 rfl (lv_at hl 0 rfl) ?_
                refine lv_aload_n hx hb dX12_wayFrom_72 rfl (lv_at hl 0 rfl) ?_
                refine lv_iload hx hb dX12_wayFrom_73 (lv_at hl 5 rfl) ?_
                refine lv_iload_n hx hb dX12_wayFrom_75 rfl (lv_at hl 1 rfl) ?_
                refine tk_Vi hC hK hw hT hA hE hSR kM_at0 (by decide) rfl (k_X12_otherOf_1 l adK adV dC dI cy ad B hB0 (Int.le_trans hB1 (by decide)) qr s1   v3_5 (show 0 ≤ v3_5.toInt from r10) (show v3_5.toInt ≤ 11 by first | with_reducible assumption | omega) a1 (show 0 ≤ a1.toInt from r2) (show a1.toInt ≤ 9 by first | with_reducible assumption | omega) w291 H.size hT ) (cwV 2 hC.2.2.2.2 uV_RX12_348 rfl rfl rfl (by decide +kernel) ⟨Nat.le_of_ble_eq_true rfl, Nat.le_of_ble_eq_true rfl⟩) rfl hl.1 rfl (Nat.le_of_ble_eq_true rfl) dX12_wayFrom_76 (fun r312 w314 H locs hp313 hw => ?_)
                obtain ⟨rfl, hg321⟩ := hp313
                rcases hg321 with ⟨g316, g317⟩ | ⟨g318, g319, c320⟩
                · refine lv_iload_n hx hb dX12_wayFrom_79 rfl (lv_at hl 2 rfl) ?_
                  refine lv_aload_n hx hb dX12_wayFrom_80 rfl (lv_at hl 0 rfl) ?_
                  refine tk_geti hC hK hw hT hinX12 kM_at0 (by decide) rfl 37 (by decide) (List.mem_cons_of_mem _ uw_52_21) rfl rfl dX12_wayFrom_81 (fun x322 c323 rx322 tx322 => ?_)
                  refine wk_top r204 (c323.symm.trans c292) ?_
                  refine lv_aload_n hx hb dX12_wayFrom_84 rfl (lv_at hl 0 rfl) ?_
                  refine lv_iload hx hb dX12_wayFrom_85 (lv_at hl 5 rfl) ?_
                  refine lv_iconst (v := 2) hx hb dX12_wayFrom_87 (by decide) ?_
                  refine tk_Vi hC hK hw hT hA hE hSR kM_at0 (by decide) rfl (k_X12_streetOf_6 l adK adV dC dI cy ad B hB0 (Int.le_trans hB1 (by decide)) qr s1   v3_5 (show 0 ≤ v3_5.toInt from r10) (show v3_5.toInt ≤ 11 by first | with_reducible assumption | omega) w291 H.size hT ) (cwV 2 hC.2.2.2.2 uV_RX12_300 rfl rfl rfl (by decide +kernel) ⟨Nat.le_of_ble_eq_true rfl, Nat.le_of_ble_eq_true rfl⟩) rfl hl.1 rfl (Nat.le_of_ble_eq_true rfl) dX12_wayFrom_88 (fun r324 w326 H locs hp325 hw => ?_)
                  obtain ⟨rfl, hg331⟩ := hp325
                  obtain ⟨g328, g329, c330⟩ := hg331
                  obtain rfl : r302 = r324 := c308.symm.trans c330
                  refine lv_iadd hx hb dX12_wayFrom_91 ?_
                  refine lv_topi (fun x332 ex332 => ?_)
                  have ex332 : x332.toInt = r204.toInt + r302.toInt := by rw [ex332]; exact wk_add (show (-2147483648) ≤ r204.toInt + r302.toInt by omega) (show r204.toInt + r302.toInt ≤ 2147483647 by omega)
                  refine lv_iload hx hb dX12_wayFrom_92 (lv_at hl 4 rfl) ?_
                  refine tk_Vi hC hK hw hT hA hE hSR kM_at0 (by decide) rfl (k_X12_reaches_2 l adK adV dC dI cy ad B hB0 (Int.le_trans hB1 (by decide)) qr s1   r312 (show 0 ≤ r312.toInt by first | with_reducible assumption | omega) (show r312.toInt ≤ 9 by first | with_reducible assumption | omega) a2 (show 0 ≤ a2.toInt from r4) (show a2.toInt ≤ 9 from t5) x332 (show 0 ≤ x332.toInt by first | with_reducible assumption | omega) (show x332.toInt ≤ 100000100 by first | with_reducible assumption | omega) a4 (show 0 ≤ a4.toInt from r8) (show a4.toInt ≤ 100000100 from t9) w291 H.size hT ) (cwV 4 hC.2.2.2.2 uV_RX12_456 rfl rfl rfl (by decide +kernel) ⟨Nat.le_of_ble_eq_true rfl, Nat.le_of_ble_eq_true rfl⟩) rfl hl.1 rfl (Nat.le_of_ble_eq_true rfl) dX12_wayFrom_94 (fun r333 w335 H locs hp334 hw => ?_)
                  obtain ⟨hT, k336, hg339⟩ := hp334
                  have hF := hF.tr k336 (by decide)
                  have c340 := k336.gi kM_at12 (by decide) c294
                  have c341 := k336.gi kM_at12 rfl c295
                  have c342 := k336.gi kM_at12 rfl c296
                  have c343 := k336.gi kM_at0 (by decide) c292
                  have c344 := k336.gi kM_at12 rfl c308
                  obtain ⟨g337, g338⟩ := hg339
                  refine lv_iload hx hb dX12_wayFrom_97 (lv_at hl 4 rfl) ?_
                  refine lv_icmp_ne (tgt := 105) hx hb dX12_wayFrom_99 (by decide) (fun c345 => ?_) (fun c345 => ?_)
                  · have c345 : ¬ r333.toInt = a4.toInt := wk_eqF c345
                    exact J105 x27 H locs ls w335 (show 0 ≤ a1.toInt from r2) (show a1.toInt ≤ 12 from t3) (show 0 ≤ a2.toInt from r4) (show a2.toInt ≤ 9 from t5) (show 0 ≤ a3.toInt from r6) (show a3.toInt ≤ 100000208 from t7) (show 0 ≤ a4.toInt from r8) (show a4.toInt ≤ 100000100 from t9) (show 0 ≤ v3_5.toInt from r10) (show v3_5.toInt ≤ 11 by first | with_reducible assumption | omega) (show 1 ≤ x27.toInt by first | with_reducible assumption | omega) (show x27.toInt ≤ 12 by first | with_reducible assumption | omega)  hw hT hF c340 (lv_sub hl [0, 1, 2, 3, 4, 5] rfl)
                  · have c345 : r333.toInt = a4.toInt := wk_eq.mp c345
                    refine lv_iload hx hb dX12_wayFrom_102 (lv_at hl 5 rfl) ?_
                    exact tk_iret hC hr hlocks hK ⟨hT, hF, (Or.inl ⟨(show 0 ≤ v3_5.toInt from r10), (show v3_5.toInt ≤ 11 by first | with_reducible assumption | omega), (show a1.toInt ≤ 9 by first | with_reducible assumption | omega), ⟨r204, c343, (show 0 ≤ r204.toInt by first | with_reducible assumption | omega), (show r204.toInt ≤ 100000100 by first | with_reducible assumption | omega)⟩, ⟨x27, c340, (show 1 ≤ x27.toInt by first | with_reducible assumption | omega), (show x27.toInt ≤ 12 by first | with_reducible assumption | omega)⟩, c342, c341⟩)⟩ hw dX12_wayFrom_104
                · refine lv_iload_n hx hb dX12_wayFrom_79 rfl (lv_at hl 2 rfl) ?_
                  refine lv_aload_n hx hb dX12_wayFrom_80 rfl (lv_at hl 0 rfl) ?_
                  refine tk_geti hC hK hw hT hinX12 kM_at0 (by decide) rfl 37 (by decide) (List.mem_cons_of_mem _ uw_52_21) rfl rfl dX12_wayFrom_81 (fun x346 c347 rx346 tx346 => ?_)
                  refine wk_top r204 (c347.symm.trans c292) ?_
                  refine lv_aload_n hx hb dX12_wayFrom_84 rfl (lv_at hl 0 rfl) ?_
                  refine lv_iload hx hb dX12_wayFrom_85 (lv_at hl 5 rfl) ?_
                  refine lv_iconst (v := 2) hx hb dX12_wayFrom_87 (by decide) ?_
                  refine tk_Vi hC hK hw hT hA hE hSR kM_at0 (by decide) rfl (k_X12_streetOf_6 l adK adV dC dI cy ad B hB0 (Int.le_trans hB1 (by decide)) qr s1   v3_5 (show 0 ≤ v3_5.toInt from r10) (show v3_5.toInt ≤ 11 by first | with_reducible assumption | omega) w291 H.size hT ) (cwV 2 hC.2.2.2.2 uV_RX12_300 rfl rfl rfl (by decide +kernel) ⟨Nat.le_of_ble_eq_true rfl, Nat.le_of_ble_eq_true rfl⟩) rfl hl.1 rfl (Nat.le_of_ble_eq_true rfl) dX12_wayFrom_88 (fun r348 w350 H locs hp349 hw => ?_)
                  obtain ⟨rfl, hg355⟩ := hp349
                  obtain ⟨g352, g353, c354⟩ := hg355
                  obtain rfl : r302 = r348 := c308.symm.trans c354
                  refine lv_iadd hx hb dX12_wayFrom_91 ?_
                  refine lv_topi (fun x356 ex356 => ?_)
                  have ex356 : x356.toInt = r204.toInt + r302.toInt := by rw [ex356]; exact wk_add (show (-2147483648) ≤ r204.toInt + r302.toInt by omega) (show r204.toInt + r302.toInt ≤ 2147483647 by omega)
                  refine lv_iload hx hb dX12_wayFrom_92 (lv_at hl 4 rfl) ?_
                  refine tk_Vi hC hK hw hT hA hE hSR kM_at0 (by decide) rfl (k_X12_reaches_2 l adK adV dC dI cy ad B hB0 (Int.le_trans hB1 (by decide)) qr s1   r312 (show 0 ≤ r312.toInt by first | with_reducible assumption | omega) (show r312.toInt ≤ 9 by first | with_reducible assumption | omega) a2 (show 0 ≤ a2.toInt from r4) (show a2.toInt ≤ 9 from t5) x356 (show 0 ≤ x356.toInt by first | with_reducible assumption | omega) (show x356.toInt ≤ 100000100 by first | with_reducible assumption | omega) a4 (show 0 ≤ a4.toInt from r8) (show a4.toInt ≤ 100000100 from t9) w291 H.size hT ) (cwV 4 hC.2.2.2.2 uV_RX12_456 rfl rfl rfl (by decide +kernel) ⟨Nat.le_of_ble_eq_true rfl, Nat.le_of_ble_eq_true rfl⟩) rfl hl.1 rfl (Nat.le_of_ble_eq_true rfl) dX12_wayFrom_94 (fun r357 w359 H locs hp358 hw => ?_)
                  obtain ⟨hT, k360, hg363⟩ := hp358
                  have hF := hF.tr k360 (by decide)
                  have c364 := k360.gi kM_at12 (by decide) c294
                  have c365 := k360.gi kM_at12 rfl c295
                  have c366 := k360.gi kM_at12 rfl c296
                  have c367 := k360.gi kM_at0 (by decide) c292
                  have c368 := k360.gi kM_at12 rfl c308
                  obtain ⟨g361, g362⟩ := hg363
                  refine lv_iload hx hb dX12_wayFrom_97 (lv_at hl 4 rfl) ?_
                  refine lv_icmp_ne (tgt := 105) hx hb dX12_wayFrom_99 (by decide) (fun c369 => ?_) (fun c369 => ?_)
                  · have c369 : ¬ r357.toInt = a4.toInt := wk_eqF c369
                    exact J105 x27 H locs ls w359 (show 0 ≤ a1.toInt from r2) (show a1.toInt ≤ 12 from t3) (show 0 ≤ a2.toInt from r4) (show a2.toInt ≤ 9 from t5) (show 0 ≤ a3.toInt from r6) (show a3.toInt ≤ 100000208 from t7) (show 0 ≤ a4.toInt from r8) (show a4.toInt ≤ 100000100 from t9) (show 0 ≤ v3_5.toInt from r10) (show v3_5.toInt ≤ 11 by first | with_reducible assumption | omega) (show 1 ≤ x27.toInt by first | with_reducible assumption | omega) (show x27.toInt ≤ 12 by first | with_reducible assumption | omega)  hw hT hF c364 (lv_sub hl [0, 1, 2, 3, 4, 5] rfl)
                  · have c369 : r357.toInt = a4.toInt := wk_eq.mp c369
                    refine lv_iload hx hb dX12_wayFrom_102 (lv_at hl 5 rfl) ?_
                    exact tk_iret hC hr hlocks hK ⟨hT, hF, (Or.inl ⟨(show 0 ≤ v3_5.toInt from r10), (show v3_5.toInt ≤ 11 by first | with_reducible assumption | omega), (show a1.toInt ≤ 9 by first | with_reducible assumption | omega), ⟨r204, c367, (show 0 ≤ r204.toInt by first | with_reducible assumption | omega), (show r204.toInt ≤ 100000100 by first | with_reducible assumption | omega)⟩, ⟨x27, c364, (show 1 ≤ x27.toInt by first | with_reducible assumption | omega), (show x27.toInt ≤ 12 by first | with_reducible assumption | omega)⟩, c366, c365⟩)⟩ hw dX12_wayFrom_104
              · have c311 : a4.toInt < x310.toInt := wk_leF c311
                refine lv_goto (tgt := 105) hx hb dX12_wayFrom_68 (by decide) ?_
                exact J105 x27 H locs ls w291 (show 0 ≤ a1.toInt from r2) (show a1.toInt ≤ 12 from t3) (show 0 ≤ a2.toInt from r4) (show a2.toInt ≤ 9 from t5) (show 0 ≤ a3.toInt from r6) (show a3.toInt ≤ 100000208 from t7) (show 0 ≤ a4.toInt from r8) (show a4.toInt ≤ 100000100 from t9) (show 0 ≤ v3_5.toInt from r10) (show v3_5.toInt ≤ 11 by first | with_reducible assumption | omega) (show 1 ≤ x27.toInt by first | with_reducible assumption | omega) (show x27.toInt ≤ 12 by first | with_reducible assumption | omega)  hw hT hF c294 (lv_sub hl [0, 1, 2, 3, 4, 5] rfl)
  refine lv_iconst (v := 0) hx hb dX12_wayFrom_0 (by decide) ?_
  refine lv_istore (lv' := [(5, .int 0), (0, .ref (ad 0)), (1, .int a1), (2, .int a2), (3, .int a3), (4, .int a4)]) hx hb dX12_wayFrom_1 hl (by decide) rfl (fun ls hl => ?_)
  exact L3 ((12 - (0 : Int)).toNat + 1) 0 s.heap locs ls w0 (show 0 ≤ a1.toInt from ra1) (show a1.toInt ≤ 12 from ta1) (show 0 ≤ a2.toInt from ra2) (show a2.toInt ≤ 9 from ta2) (show 0 ≤ a3.toInt from ra3) (show a3.toInt ≤ 100000208 from ta3) (show 0 ≤ a4.toInt from ra4) (show a4.toInt ≤ 100000100 from ta4) (by decide) (by decide) (Nat.lt_succ_self _) hw hT hF  (lv_sub hl [1, 2, 3, 4, 5, 0] rfl)
abbrev P_X12_way_1 (ad : Nat → Nat) (cy : Nat → ClassId) (B : Int) (qr : Nat) (s1 : Int) (a1 : Int32) (a2 : Int32) (a3 : Int32) (a4 : Int32) (w0 : va_W) : Int32 → va_W → Prop := fun r u => TW ksM ad cy B qr 12 u ∧ FE ksM [(12, 37, 37), (77, 0, 10), (78, 0, 10)] w0 u ∧ ((r = (-2) ∧ 0 ≤ a1.toInt ∧ a1.toInt ≤ 9 ∧ 0 ≤ a2.toInt ∧ a2.toInt ≤ 9 ∧ 0 ≤ a3.toInt ∧ a3.toInt ≤ 99999 ∧ 0 ≤ a4.toInt ∧ (∃ y : Int32, gi u 12 0 = y ∧ 1 ≤ y.toInt ∧ y.toInt ≤ 10)) ∨ (0 ≤ r.toInt ∧ r.toInt ≤ 11 ∧ 0 ≤ a1.toInt ∧ a1.toInt ≤ 9 ∧ 0 ≤ a2.toInt ∧ a2.toInt ≤ 9 ∧ 0 ≤ a3.toInt ∧ a3.toInt ≤ 99999 ∧ 0 ≤ a4.toInt ∧ (∃ y : Int32, gi u 0 37 = y ∧ 0 ≤ y.toInt ∧ y.toInt ≤ 100000100) ∧ (∃ y : Int32, gi u 12 0 = y ∧ 1 ≤ y.toInt ∧ y.toInt ≤ 10) ∧ (∃ y : Int32, gi u 12 1 = y ∧ 1 ≤ y.toInt ∧ y.toInt ≤ 12)) ∨ (r = (-1)))
set_option maxHeartbeats 4000000 in
set_option maxRecDepth 100000 in
theorem k_X12_way_1 (l : Launch) (adK adV : Nat → Nat) (dC : Nat → ClassId) (dI : Nat → Nat → Nat) (cy : Nat → ClassId) (ad : Nat → Nat) (B : Int) (hB0 : 100000 ≤ B) (hB1 : B ≤ 1073741824) (qr : Nat) (s1 : Int)  (a1 : Int32) (a2 : Int32) (a3 : Int32) (a4 : Int32) (w0 : va_W) (sz : Nat) (hT : TW ksM ad cy B qr 12 w0)  : Met l yX12_way (wu yX12_way cX12_way 10 (some .int)) ({ frames := 7, cells := 0, slots := 0, locals := 158 }) (va_Pc [.ref (ad 0), .int a1, .int a2, .int a3, .int a4] (wpreS adK adV dC dI cy sz w0)) (va_Qi (P_X12_way_1 ad cy B qr s1 a1 a2 a3 a4 w0) (fun u : va_W => wpost dC dI cy (va_A w0 sz) u) (va_A w0 sz)) 0 0 (va_A w0 sz) := by
  refine Met.ofW (cc := cX12_way) (maxL := 10) (ret := (some .int)) (by decide) rfl ?_
  intro p e s m args below meth c s₁ Bk hml hv
  obtain ⟨rfl, ⟨hsz, hP, hK, hD0⟩, hE, hSR⟩ := hv
  have hx := Bk.exec
  have hb := Bk.bytes
  have hr := Bk.returns
  have hlocks := Bk.notSynchronized
  have hC : CallFix p m c cX12_way 10 s _ (wu yX12_way cX12_way 10 (some .int)) RX12 := ⟨hx, hb, hml, findClass_of_methodNamed Bk.named, atoms_spec (ws := (wu yX12_way cX12_way 10 (some .int))) Bk.pre⟩
  subst hsz
  have hD := hD0.self (sz := s.heap.size)
  generalize hAe : va_A w0 s.heap.size = A at hD hE ⊢
  have hA : ∀ q : Nat, s.heap.size ≤ q → A q := fun q h => by rw [← hAe]; exact Or.inr h
  have hw : Wd dC dI A s.heap s.heap [] w0 := ⟨hP, hD, va_S.rf⟩
  have hF : FE ksM [(12, 37, 37), (77, 0, 10), (78, 0, 10)] w0 w0 := FE.rf
  have hl := lv_entry ([.ref (ad 0), .int a1, .int a2, .int a3, .int a4]) (n := 10) (Nat.le_of_ble_eq_true rfl)
  rw [lg_entry_eq]
  generalize (lg_sl ([.ref (ad 0), .int a1, .int a2, .int a3, .int a4]) ++ List.replicate (10 - (lg_sl ([.ref (ad 0), .int a1, .int a2, .int a3, .int a4])).length) Slot.unset).toArray = ls at hl ⊢
  have hl : lv_has ls 10 [(0, .ref (ad 0)), (1, .int a1), (2, .int a2), (3, .int a3), (4, .int a4)] := hl
  generalize hloc : ([] : List Loc) = locs at hw ⊢
  have hinX12 : ∀ w ∈ u_ws RX12 TX12 42, w ∈ (wu yX12_way cX12_way 10 (some .int)) := fun _ h => List.mem_cons_of_mem _ (up_71 h)
  have ba4 := wk_i32 a4
  have J15 : ∀ (H : Heap) (locs : List Loc) (ls : Array Slot) (w1 : va_W), Wd dC dI A s.heap H locs w1 → TW ksM ad cy B qr 12 w1 → FE ksM [(12, 37, 37), (77, 0, 10), (78, 0, 10)] w0 w1 → lv_has ls 10 [(0, .ref (ad 0)), (1, .int a1), (2, .int a2), (3, .int a3), (4, .int a4)] → W p l e ({ frames := 7, cells := 0, slots := 0, locals := 158 }) s m (List.toArray [.ref (ad 0), .int a1, .int a2, .int a3, .int a4]) below meth c H locs 0 0 (MQ below (va_Qi (P_X12_way_1 ad cy B qr s1 a1 a2 a3 a4 w0) (fun u : va_W => wpost dC dI cy A u) A) (List.toArray [.ref (ad 0), .int a1, .int a2, .int a3, .int a4]) s 0 0 A) (F0 m 15 ls []) := by
    intro H locs ls w1 hw hT hF hl
    refine lv_iconst (v := (-1)) hx hb dX12_way_15 (by decide) ?_
    exact tk_iret hC hr hlocks hK ⟨hT, hF, (Or.inr (Or.inr rfl))⟩ hw dX12_way_16
  have L51 : ∀ (n51 : Nat) (v51_5 : Int32) (v51_6 : Int32) (v51_7 : Int32) (v51_8 : Int32) (f51_12_0 : Int32) (H : Heap) (locs : List Loc) (ls : Array Slot) (w2 : va_W), 0 ≤ a1.toInt → a1.toInt ≤ 9 → 0 ≤ a2.toInt → a2.toInt ≤ 9 → 0 ≤ a3.toInt → a3.toInt ≤ 99999 → 0 ≤ a4.toInt → 0 ≤ v51_5.toInt → v51_5.toInt ≤ 100000100 → 0 ≤ v51_6.toInt → v51_6.toInt ≤ 12 → 0 ≤ v51_7.toInt → v51_7.toInt ≤ 100000208 → 0 ≤ v51_8.toInt → 1 ≤ f51_12_0.toInt → f51_12_0.toInt ≤ 10 → v51_8.toInt ≤ a4.toInt + 0 → (2147483647 - v51_8.toInt).toNat < n51 → Wd dC dI A s.heap H locs w2 → TW ksM ad cy B qr 12 w2 → FE ksM [(12, 37, 37), (77, 0, 10), (78, 0, 10)] w0 w2 → gi w2 12 0 = f51_12_0 → lv_has ls 10 [(0, .ref (ad 0)), (1, .int a1), (2, .int a2), (3, .int a3), (4, .int a4), (5, .int v51_5), (6, .int v51_6), (7, .int v51_7), (8, .int v51_8)] → W p l e ({ frames := 7, cells := 0, slots := 0, locals := 158 }) s m (List.toArray [.ref (ad 0), .int a1, .int a2, .int a3, .int a4]) below meth c H locs 0 0 (MQ below (va_Qi (P_X12_way_1 ad cy B qr s1 a1 a2 a3 a4 w0) (fun u : va_W => wpost dC dI cy A u) A) (List.toArray [.ref (ad 0), .int a1, .int a2, .int a3, .int a4]) s 0 0 A) (F0 m 51 ls []) := by
    intro n51
    induction n51 with
    | zero => intro v51_5 v51_6 v51_7 v51_8 f51_12_0 H locs ls w2 r3 t4 r5 t6 r7 t8 r9 r10 t11 r12 t13 r14 t15 r16 r17 t18 i20 hm51 hw hT hF c19 hl; omega
    | succ n51 ih51 =>
      intro v51_5 v51_6 v51_7 v51_8 f51_12_0 H locs ls w2 r3 t4 r5 t6 r7 t8 r9 r10 t11 r12 t13 r14 t15 r16 r17 t18 i20 hm51 hw hT hF c19 hl
      refine lv_iload hx hb dX12_way_51 (lv_at hl 6 rfl) ?_
      refine lv_iload_n hx hb dX12_way_53 rfl (lv_at hl 2 rfl) ?_
      refine lv_icmp_eq (tgt := 110) hx hb dX12_way_54 (by decide) (fun c21 => ?_) (fun c21 => ?_)
      · have c21 : v51_6.toInt = a2.toInt := wk_eq.mp c21
        refine lv_bipush (v := (-2)) hx hb dX12_way_110 (by decide) ?_
        exact tk_iret hC hr hlocks hK ⟨hT, hF, (Or.inl ⟨rfl, (show 0 ≤ a1.toInt from r3), (show a1.toInt ≤ 9 from t4), (show 0 ≤ a2.toInt from r5), (show a2.toInt ≤ 9 from t6), (show 0 ≤ a3.toInt from r7), (show a3.toInt ≤ 99999 from t8), (show 0 ≤ a4.toInt from r9), ⟨f51_12_0, c19, (show 1 ≤ f51_12_0.toInt from r17), (show f51_12_0.toInt ≤ 10 from t18)⟩⟩)⟩ hw dX12_way_112
      · have c21 : ¬ v51_6.toInt = a2.toInt := wk_eqF c21
        refine lv_aload_n hx hb dX12_way_57 rfl (lv_at hl 0 rfl) ?_
        refine lv_iload hx hb dX12_way_58 (lv_at hl 6 rfl) ?_
        refine lv_iload_n hx hb dX12_way_60 rfl (lv_at hl 2 rfl) ?_
        refine lv_iload hx hb dX12_way_61 (lv_at hl 7 rfl) ?_
        refine lv_iload hx hb dX12_way_63 (lv_at hl 5 rfl) ?_
        refine tk_Vi hC hK hw hT hA hE hSR kM_at0 (by decide) rfl (k_X12_wayFrom_1 l adK adV dC dI cy ad B hB0 (Int.le_trans hB1 (by decide)) qr s1   v51_6 (show 0 ≤ v51_6.toInt from r12) (show v51_6.toInt ≤ 12 from t13) a2 (show 0 ≤ a2.toInt from r5) (show a2.toInt ≤ 9 from t6) v51_7 (show 0 ≤ v51_7.toInt from r14) (show v51_7.toInt ≤ 100000208 from t15) v51_5 (show 0 ≤ v51_5.toInt from r10) (show v51_5.toInt ≤ 100000100 from t11) w2 H.size hT ) (cwV 4 hC.2.2.2.2 uV_RX12_462 rfl rfl rfl (by decide +kernel) ⟨Nat.le_of_ble_eq_true rfl, Nat.le_of_ble_eq_true rfl⟩) rfl hl.1 rfl (Nat.le_of_ble_eq_true rfl) dX12_way_65 (fun r22 w24 H locs hp23 hw => ?_)
        obtain ⟨hT, k25, hg51⟩ := hp23
        have hF := hF.tr k25 (by decide)
        have c52 := k25.gi kM_at12 (by decide) c19
        rcases hg51 with ⟨g26, g27, g28, ⟨x29, c30, rx29, tx29⟩, ⟨x31, c32, rx31, tx31⟩, c33, c34⟩ | ⟨g35, g36, g37, ⟨x38, c39, rx38, tx38⟩, ⟨x40, c41, rx40, tx40⟩, c42⟩ | ⟨g43, g44, g45, ⟨x46, c47, rx46, tx46⟩, ⟨x48, c49, rx48, tx48⟩, c50⟩ | rfl
        · refine lv_istore (lv' := [(9, .int r22), (0, .ref (ad 0)), (1, .int a1), (2, .int a2), (3, .int a3), (4, .int a4), (5, .int v51_5), (6, .int v51_6), (7, .int v51_7), (8, .int v51_8)]) hx hb dX12_way_68 hl (by decide) rfl (fun ls hl => ?_)
          refine lv_iload hx hb dX12_way_70 (lv_at hl 9 rfl) ?_
          refine lv_iload hx hb dX12_way_72 (lv_at hl 5 rfl) ?_
          refine lv_icmp_ne (tgt := 80) hx hb dX12_way_74 (by decide) (fun c53 => ?_) (fun c53 => ?_)
          · have c53 : ¬ v51_8.toInt = a4.toInt := wk_eqF c53
            refine lv_aload_n hx hb dX12_way_80 rfl (lv_at hl 1 rfl) ?_
            refine tk_geti hC hK hw hT hinX12 kM_at0 (by decide) rfl 37 (by decide) (List.mem_cons_of_mem _ uw_52_21) rfl rfl dX12_way_81 (fun x54 c55 rx54 tx54 => ?_)
            refine wk_top x29 (c55.symm.trans c30) ?_
            refine lv_aload_n hx hb dX12_way_84 rfl (lv_at hl 1 rfl) ?_
            refine lv_iload hx hb dX12_way_85 (lv_at hl 0 rfl) ?_
            refine lv_iconst (v := 2) hx hb dX12_way_87 (by decide) ?_
            refine tk_Vi hC hK hw hT hA hE hSR kM_at0 (by decide) rfl (k_X12_streetOf_6 l adK adV dC dI cy ad B hB0 (Int.le_trans hB1 (by decide)) qr s1   r22 (show 0 ≤ r22.toInt by first | with_reducible assumption | omega) (show r22.toInt ≤ 11 by first | with_reducible assumption | omega) w24 H.size hT ) (cwV 2 hC.2.2.2.2 uV_RX12_300 rfl rfl rfl (by decide +kernel) ⟨Nat.le_of_ble_eq_true rfl, Nat.le_of_ble_eq_true rfl⟩) rfl hl.1 rfl (Nat.le_of_ble_eq_true rfl) dX12_way_88 (fun r56 w58 H locs hp57 hw => ?_)
            obtain ⟨rfl, hg63⟩ := hp57
            obtain ⟨g60, g61, c62⟩ := hg63
            refine lv_iadd hx hb dX12_way_91 ?_
            refine lv_topi (fun x64 ex64 => ?_)
            have ex64 : x64.toInt = x29.toInt + r56.toInt := by rw [ex64]; exact wk_add (show (-2147483648) ≤ x29.toInt + r56.toInt by omega) (show x29.toInt + r56.toInt ≤ 2147483647 by omega)
            refine lv_istore (lv' := [(7, .int x64), (9, .int r22), (0, .ref (ad 0)), (1, .int a1), (2, .int a2), (3, .int a3), (4, .int a4), (5, .int v51_5), (6, .int v51_6), (8, .int v51_8)]) hx hb dX12_way_92 hl (by decide) rfl (fun ls hl => ?_)
            refine lv_aload_n hx hb dX12_way_94 rfl (lv_at hl 2 rfl) ?_
            refine lv_iload hx hb dX12_way_95 (lv_at hl 1 rfl) ?_
            refine lv_iload hx hb dX12_way_97 (lv_at hl 8 rfl) ?_
            refine tk_Vi hC hK hw hT hA hE hSR kM_at0 (by decide) rfl (k_X12_otherOf_1 l adK adV dC dI cy ad B hB0 (Int.le_trans hB1 (by decide)) qr s1   r22 (show 0 ≤ r22.toInt by first | with_reducible assumption | omega) (show r22.toInt ≤ 11 by first | with_reducible assumption | omega) v51_6 (show 0 ≤ v51_6.toInt from r12) (show v51_6.toInt ≤ 9 by first | with_reducible assumption | omega) w24 H.size hT ) (cwV 2 hC.2.2.2.2 uV_RX12_348 rfl rfl rfl (by decide +kernel) ⟨Nat.le_of_ble_eq_true rfl, Nat.le_of_ble_eq_true rfl⟩) rfl hl.1 rfl (Nat.le_of_ble_eq_true rfl) dX12_way_99 (fun r65 w67 H locs hp66 hw => ?_)
            obtain ⟨rfl, hg74⟩ := hp66
            rcases hg74 with ⟨g69, g70⟩ | ⟨g71, g72, c73⟩
            · refine lv_istore (lv' := [(6, .int r65), (7, .int x64), (9, .int r22), (0, .ref (ad 0)), (1, .int a1), (2, .int a2), (3, .int a3), (4, .int a4), (5, .int v51_5), (8, .int v51_8)]) hx hb dX12_way_102 hl (by decide) rfl (fun ls hl => ?_)
              obtain ⟨x75, ex75⟩ : ∃ y : Int32, y = v51_8 + Int32.ofInt 1 := ⟨_, rfl⟩
              refine lv_iinc (v := x75) (lv' := [(8, .int x75), (6, .int r65), (7, .int x64), (9, .int r22), (0, .ref (ad 0)), (1, .int a1), (2, .int a2), (3, .int a3), (4, .int a4), (5, .int v51_5)]) hx hb dX12_way_104 hl (k := 9) rfl ex75.symm (by decide) rfl (fun ls hl => ?_)
              have ex75 : x75.toInt = v51_8.toInt + 1 := by rw [ex75]; exact wk_add (y := 1) (show -2147483648 ≤ v51_8.toInt + 1 by omega) (show v51_8.toInt + 1 ≤ 2147483647 by omega)
              refine lv_goto (tgt := 51) hx hb dX12_way_107 (by decide) ?_
              exact ih51 v51_5 r65 x64 x75 f51_12_0 H locs ls w24 (show 0 ≤ a1.toInt from r3) (show a1.toInt ≤ 9 from t4) (show 0 ≤ a2.toInt from r5) (show a2.toInt ≤ 9 from t6) (show 0 ≤ a3.toInt from r7) (show a3.toInt ≤ 99999 from t8) (show 0 ≤ a4.toInt from r9) (show 0 ≤ v51_5.toInt from r10) (show v51_5.toInt ≤ 100000100 from t11) (show 0 ≤ r65.toInt by first | with_reducible assumption | omega) (show r65.toInt ≤ 12 by first | with_reducible assumption | omega) (show 0 ≤ x64.toInt by first | with_reducible assumption | omega) (show x64.toInt ≤ 100000208 by first | with_reducible assumption | omega) (show 0 ≤ x75.toInt by first | with_reducible assumption | omega) (show 1 ≤ f51_12_0.toInt from r17) (show f51_12_0.toInt ≤ 10 from t18) (show x75.toInt ≤ a4.toInt + 0 by omega) (show (2147483647 - x75.toInt).toNat < n51 by first | exact tn_lt hm51 (by omega) (by omega) | omega) hw hT hF c52 (lv_sub hl [4, 5, 6, 7, 8, 9, 1, 2, 0] rfl)
            · refine lv_istore (lv' := [(6, .int r65), (7, .int x64), (9, .int r22), (0, .ref (ad 0)), (1, .int a1), (2, .int a2), (3, .int a3), (4, .int a4), (5, .int v51_5), (8, .int v51_8)]) hx hb dX12_way_102 hl (by decide) rfl (fun ls hl => ?_)
              obtain ⟨x76, ex76⟩ : ∃ y : Int32, y = v51_8 + Int32.ofInt 1 := ⟨_, rfl⟩
              refine lv_iinc (v := x76) (lv' := [(8, .int x76), (6, .int r65), (7, .int x64), (9, .int r22), (0, .ref (ad 0)), (1, .int a1), (2, .int a2), (3, .int a3), (4, .int a4), (5, .int v51_5)]) hx hb dX12_way_104 hl (k := 9) rfl ex76.symm (by decide) rfl (fun ls hl => ?_)
              have ex76 : x76.toInt = v51_8.toInt + 1 := by rw [ex76]; exact wk_add (y := 1) (show -2147483648 ≤ v51_8.toInt + 1 by omega) (show v51_8.toInt + 1 ≤ 2147483647 by omega)
              refine lv_goto (tgt := 51) hx hb dX12_way_107 (by decide) ?_
              exact ih51 v51_5 r65 x64 x76 f51_12_0 H locs ls w24 (show 0 ≤ a1.toInt from r3) (show a1.toInt ≤ 9 from t4) (show 0 ≤ a2.toInt from r5) (show a2.toInt ≤ 9 from t6) (show 0 ≤ a3.toInt from r7) (show a3.toInt ≤ 99999 from t8) (show 0 ≤ a4.toInt from r9) (show 0 ≤ v51_5.toInt from r10) (show v51_5.toInt ≤ 100000100 from t11) (show 0 ≤ r65.toInt by first | with_reducible assumption | omega) (show r65.toInt ≤ 12 by first | with_reducible assumption | omega) (show 0 ≤ x64.toInt by first | with_reducible assumption | omega) (show x64.toInt ≤ 100000208 by first | with_reducible assumption | omega) (show 0 ≤ x76.toInt by first | with_reducible assumption | omega) (show 1 ≤ f51_12_0.toInt from r17) (show f51_12_0.toInt ≤ 10 from t18) (show x76.toInt ≤ a4.toInt + 0 by omega) (show (2147483647 - x76.toInt).toNat < n51 by first | exact tn_lt hm51 (by omega) (by omega) | omega) hw hT hF c52 (lv_sub hl [4, 5, 6, 7, 8, 9, 1, 2, 0] rfl)
          · have c53 : v51_8.toInt = a4.toInt := wk_eq.mp c53
            refine lv_iload hx hb dX12_way_77 (lv_at hl 0 rfl) ?_
            exact tk_iret hC hr hlocks hK ⟨hT, hF, (Or.inr (Or.inl ⟨(show 0 ≤ r22.toInt by first | with_reducible assumption | omega), (show r22.toInt ≤ 11 by first | with_reducible assumption | omega), (show 0 ≤ a1.toInt from r3), (show a1.toInt ≤ 9 from t4), (show 0 ≤ a2.toInt from r5), (show a2.toInt ≤ 9 from t6), (show 0 ≤ a3.toInt from r7), (show a3.toInt ≤ 99999 from t8), (show 0 ≤ a4.toInt from r9), ⟨x29, c30, (show 0 ≤ x29.toInt by first | with_reducible assumption | omega), (show x29.toInt ≤ 100000100 by first | with_reducible assumption | omega)⟩, ⟨f51_12_0, c52, (show 1 ≤ f51_12_0.toInt from r17), (show f51_12_0.toInt ≤ 10 from t18)⟩, ⟨x31, c32, (show 1 ≤ x31.toInt by first | with_reducible assumption | omega), (show x31.toInt ≤ 12 by first | with_reducible assumption | omega)⟩⟩))⟩ hw dX12_way_79
        · refine lv_istore (lv' := [(9, .int r22), (0, .ref (ad 0)), (1, .int a1), (2, .int a2), (3, .int a3), (4, .int a4), (5, .int v51_5), (6, .int v51_6), (7, .int v51_7), (8, .int v51_8)]) hx hb dX12_way_68 hl (by decide) rfl (fun ls hl => ?_)
          refine lv_iload hx hb dX12_way_70 (lv_at hl 9 rfl) ?_
          refine lv_iload hx hb dX12_way_72 (lv_at hl 5 rfl) ?_
          refine lv_icmp_ne (tgt := 80) hx hb dX12_way_74 (by decide) (fun c77 => ?_) (fun c77 => ?_)
          · have c77 : ¬ v51_8.toInt = a4.toInt := wk_eqF c77
            refine lv_aload_n hx hb dX12_way_80 rfl (lv_at hl 1 rfl) ?_
            refine tk_geti hC hK hw hT hinX12 kM_at0 (by decide) rfl 37 (by decide) (List.mem_cons_of_mem _ uw_52_21) rfl rfl dX12_way_81 (fun x78 c79 rx78 tx78 => ?_)
            refine wk_top x38 (c79.symm.trans c39) ?_
            refine lv_aload_n hx hb dX12_way_84 rfl (lv_at hl 1 rfl) ?_
            refine lv_iload hx hb dX12_way_85 (lv_at hl 0 rfl) ?_
            refine lv_iconst (v := 2) hx hb dX12_way_87 (by decide) ?_
            refine tk_Vi hC hK hw hT hA hE hSR kM_at0 (by decide) rfl (k_X12_streetOf_6 l adK adV dC dI cy ad B hB0 (Int.le_trans hB1 (by decide)) qr s1   r22 (show 0 ≤ r22.toInt by first | with_reducible assumption | omega) (show r22.toInt ≤ 11 by first | with_reducible assumption | omega) w24 H.size hT ) (cwV 2 hC.2.2.2.2 uV_RX12_300 rfl rfl rfl (by decide +kernel) ⟨Nat.le_of_ble_eq_true rfl, Nat.le_of_ble_eq_true rfl⟩) rfl hl.1 rfl (Nat.le_of_ble_eq_true rfl) dX12_way_88 (fun r80 w82 H locs hp81 hw => ?_)
            obtain ⟨rfl, hg87⟩ := hp81
            obtain ⟨g84, g85, c86⟩ := hg87
            refine lv_iadd hx hb dX12_way_91 ?_
            refine lv_topi (fun x88 ex88 => ?_)
            have ex88 : x88.toInt = x38.toInt + r80.toInt := by rw [ex88]; exact wk_add (show (-2147483648) ≤ x38.toInt + r80.toInt by omega) (show x38.toInt + r80.toInt ≤ 2147483647 by omega)
            refine lv_istore (lv' := [(7, .int x88), (9, .int r22), (0, .ref (ad 0)), (1, .int a1), (2, .int a2), (3, .int a3), (4, .int a4), (5, .int v51_5), (6, .int v51_6), (8, .int v51_8)]) hx hb dX12_way_92 hl (by decide) rfl (fun ls hl => ?_)
            refine lv_aload_n hx hb dX12_way_94 rfl (lv_at hl 2 rfl) ?_
            refine lv_iload hx hb dX12_way_95 (lv_at hl 1 rfl) ?_
            refine lv_iload hx hb dX12_way_97 (lv_at hl 8 rfl) ?_
            refine tk_Vi hC hK hw hT hA hE hSR kM_at0 (by decide) rfl (k_X12_otherOf_1 l adK adV dC dI cy ad B hB0 (Int.le_trans hB1 (by decide)) qr s1   r22 (show 0 ≤ r22.toInt by first | with_reducible assumption | omega) (show r22.toInt ≤ 11 by first | with_reducible assumption | omega) v51_6 (show 0 ≤ v51_6.toInt from r12) (show v51_6.toInt ≤ 9 by first | with_reducible assumption | omega) w24 H.size hT ) (cwV 2 hC.2.2.2.2 uV_RX12_348 rfl rfl rfl (by decide +kernel) ⟨Nat.le_of_ble_eq_true rfl, Nat.le_of_ble_eq_true rfl⟩) rfl hl.1 rfl (Nat.le_of_ble_eq_true rfl) dX12_way_99 (fun r89 w91 H locs hp90 hw => ?_)
            obtain ⟨rfl, hg98⟩ := hp90
            rcases hg98 with ⟨g93, g94⟩ | ⟨g95, g96, c97⟩
            · refine lv_istore (lv' := [(6, .int r89), (7, .int x88), (9, .int r22), (0, .ref (ad 0)), (1, .int a1), (2, .int a2), (3, .int a3), (4, .int a4), (5, .int v51_5), (8, .int v51_8)]) hx hb dX12_way_102 hl (by decide) rfl (fun ls hl => ?_)
              obtain ⟨x99, ex99⟩ : ∃ y : Int32, y = v51_8 + Int32.ofInt 1 := ⟨_, rfl⟩
              refine lv_iinc (v := x99) (lv' := [(8, .int x99), (6, .int r89), (7, .int x88), (9, .int r22), (0, .ref (ad 0)), (1, .int a1), (2, .int a2), (3, .int a3), (4, .int a4), (5, .int v51_5)]) hx hb dX12_way_104 hl (k := 9) rfl ex99.symm (by decide) rfl (fun ls hl => ?_)
              have ex99 : x99.toInt = v51_8.toInt + 1 := by rw [ex99]; exact wk_add (y := 1) (show -2147483648 ≤ v51_8.toInt + 1 by omega) (show v51_8.toInt + 1 ≤ 2147483647 by omega)
              refine lv_goto (tgt := 51) hx hb dX12_way_107 (by decide) ?_
              exact ih51 v51_5 r89 x88 x99 f51_12_0 H locs ls w24 (show 0 ≤ a1.toInt from r3) (show a1.toInt ≤ 9 from t4) (show 0 ≤ a2.toInt from r5) (show a2.toInt ≤ 9 from t6) (show 0 ≤ a3.toInt from r7) (show a3.toInt ≤ 99999 from t8) (show 0 ≤ a4.toInt from r9) (show 0 ≤ v51_5.toInt from r10) (show v51_5.toInt ≤ 100000100 from t11) (show 0 ≤ r89.toInt by first | with_reducible assumption | omega) (show r89.toInt ≤ 12 by first | with_reducible assumption | omega) (show 0 ≤ x88.toInt by first | with_reducible assumption | omega) (show x88.toInt ≤ 100000208 by first | with_reducible assumption | omega) (show 0 ≤ x99.toInt by first | with_reducible assumption | omega) (show 1 ≤ f51_12_0.toInt from r17) (show f51_12_0.toInt ≤ 10 from t18) (show x99.toInt ≤ a4.toInt + 0 by omega) (show (2147483647 - x99.toInt).toNat < n51 by first | exact tn_lt hm51 (by omega) (by omega) | omega) hw hT hF c52 (lv_sub hl [4, 5, 6, 7, 8, 9, 1, 2, 0] rfl)
            · refine lv_istore (lv' := [(6, .int r89), (7, .int x88), (9, .int r22), (0, .ref (ad 0)), (1, .int a1), (2, .int a2), (3, .int a3), (4, .int a4), (5, .int v51_5), (8, .int v51_8)]) hx hb dX12_way_102 hl (by decide) rfl (fun ls hl => ?_)
              obtain ⟨x100, ex100⟩ : ∃ y : Int32, y = v51_8 + Int32.ofInt 1 := ⟨_, rfl⟩
              refine lv_iinc (v := x100) (lv' := [(8, .int x100), (6, .int r89), (7, .int x88), (9, .int r22), (0, .ref (ad 0)), (1, .int a1), (2, .int a2), (3, .int a3), (4, .int a4), (5, .int v51_5)]) hx hb dX12_way_104 hl (k := 9) rfl ex100.symm (by decide) rfl (fun ls hl => ?_)
              have ex100 : x100.toInt = v51_8.toInt + 1 := by rw [ex100]; exact wk_add (y := 1) (show -2147483648 ≤ v51_8.toInt + 1 by omega) (show v51_8.toInt + 1 ≤ 2147483647 by omega)
              refine lv_goto (tgt := 51) hx hb dX12_way_107 (by decide) ?_
              exact ih51 v51_5 r89 x88 x100 f51_12_0 H locs ls w24 (show 0 ≤ a1.toInt from r3) (show a1.toInt ≤ 9 from t4) (show 0 ≤ a2.toInt from r5) (show a2.toInt ≤ 9 from t6) (show 0 ≤ a3.toInt from r7) (show a3.toInt ≤ 99999 from t8) (show 0 ≤ a4.toInt from r9) (show 0 ≤ v51_5.toInt from r10) (show v51_5.toInt ≤ 100000100 from t11) (show 0 ≤ r89.toInt by first | with_reducible assumption | omega) (show r89.toInt ≤ 12 by first | with_reducible assumption | omega) (show 0 ≤ x88.toInt by first | with_reducible assumption | omega) (show x88.toInt ≤ 100000208 by first | with_reducible assumption | omega) (show 0 ≤ x100.toInt by first | with_reducible assumption | omega) (show 1 ≤ f51_12_0.toInt from r17) (show f51_12_0.toInt ≤ 10 from t18) (show x100.toInt ≤ a4.toInt + 0 by omega) (show (2147483647 - x100.toInt).toNat < n51 by first | exact tn_lt hm51 (by omega) (by omega) | omega) hw hT hF c52 (lv_sub hl [4, 5, 6, 7, 8, 9, 1, 2, 0] rfl)
          · have c77 : v51_8.toInt = a4.toInt := wk_eq.mp c77
            refine lv_iload hx hb dX12_way_77 (lv_at hl 0 rfl) ?_
            exact tk_iret hC hr hlocks hK ⟨hT, hF, (Or.inr (Or.inl ⟨(show 0 ≤ r22.toInt by first | with_reducible assumption | omega), (show r22.toInt ≤ 11 by first | with_reducible assumption | omega), (show 0 ≤ a1.toInt from r3), (show a1.toInt ≤ 9 from t4), (show 0 ≤ a2.toInt from r5), (show a2.toInt ≤ 9 from t6), (show 0 ≤ a3.toInt from r7), (show a3.toInt ≤ 99999 from t8), (show 0 ≤ a4.toInt from r9), ⟨x38, c39, (show 0 ≤ x38.toInt by first | with_reducible assumption | omega), (show x38.toInt ≤ 100000100 by first | with_reducible assumption | omega)⟩, ⟨f51_12_0, c52, (show 1 ≤ f51_12_0.toInt from r17), (show f51_12_0.toInt ≤ 10 from t18)⟩, ⟨x40, c41, (show 1 ≤ x40.toInt by first | with_reducible assumption | omega), (show x40.toInt ≤ 12 by first | with_reducible assumption | omega)⟩⟩))⟩ hw dX12_way_79
        · refine lv_istore (lv' := [(9, .int r22), (0, .ref (ad 0)), (1, .int a1), (2, .int a2), (3, .int a3), (4, .int a4), (5, .int v51_5), (6, .int v51_6), (7, .int v51_7), (8, .int v51_8)]) hx hb dX12_way_68 hl (by decide) rfl (fun ls hl => ?_)
          refine lv_iload hx hb dX12_way_70 (lv_at hl 9 rfl) ?_
          refine lv_iload hx hb dX12_way_72 (lv_at hl 5 rfl) ?_
          refine lv_icmp_ne (tgt := 80) hx hb dX12_way_74 (by decide) (fun c101 => ?_) (fun c101 => ?_)
          · have c101 : ¬ v51_8.toInt = a4.toInt := wk_eqF c101
            refine lv_aload_n hx hb dX12_way_80 rfl (lv_at hl 1 rfl) ?_
            refine tk_geti hC hK hw hT hinX12 kM_at0 (by decide) rfl 37 (by decide) (List.mem_cons_of_mem _ uw_52_21) rfl rfl dX12_way_81 (fun x102 c103 rx102 tx102 => ?_)
            refine wk_top x46 (c103.symm.trans c47) ?_
            refine lv_aload_n hx hb dX12_way_84 rfl (lv_at hl 1 rfl) ?_
            refine lv_iload hx hb dX12_way_85 (lv_at hl 0 rfl) ?_
            refine lv_iconst (v := 2) hx hb dX12_way_87 (by decide) ?_
            refine tk_Vi hC hK hw hT hA hE hSR kM_at0 (by decide) rfl (k_X12_streetOf_6 l adK adV dC dI cy ad B hB0 (Int.le_trans hB1 (by decide)) qr s1   r22 (show 0 ≤ r22.toInt by first | with_reducible assumption | omega) (show r22.toInt ≤ 11 by first | with_reducible assumption | omega) w24 H.size hT ) (cwV 2 hC.2.2.2.2 uV_RX12_300 rfl rfl rfl (by decide +kernel) ⟨Nat.le_of_ble_eq_true rfl, Nat.le_of_ble_eq_true rfl⟩) rfl hl.1 rfl (Nat.le_of_ble_eq_true rfl) dX12_way_88 (fun r104 w106 H locs hp105 hw => ?_)
            obtain ⟨rfl, hg111⟩ := hp105
            obtain ⟨g108, g109, c110⟩ := hg111
            refine lv_iadd hx hb dX12_way_91 ?_
            refine lv_topi (fun x112 ex112 => ?_)
            have ex112 : x112.toInt = x46.toInt + r104.toInt := by rw [ex112]; exact wk_add (show (-2147483648) ≤ x46.toInt + r104.toInt by omega) (show x46.toInt + r104.toInt ≤ 2147483647 by omega)
            refine lv_istore (lv' := [(7, .int x112), (9, .int r22), (0, .ref (ad 0)), (1, .int a1), (2, .int a2), (3, .int a3), (4, .int a4), (5, .int v51_5), (6, .int v51_6), (8, .int v51_8)]) hx hb dX12_way_92 hl (by decide) rfl (fun ls hl => ?_)
            refine lv_aload_n hx hb dX12_way_94 rfl (lv_at hl 2 rfl) ?_
            refine lv_iload hx hb dX12_way_95 (lv_at hl 1 rfl) ?_
            refine lv_iload hx hb dX12_way_97 (lv_at hl 8 rfl) ?_
            refine tk_Vi hC hK hw hT hA hE hSR kM_at0 (by decide) rfl (k_X12_otherOf_1 l adK adV dC dI cy ad B hB0 (Int.le_trans hB1 (by decide)) qr s1   r22 (show 0 ≤ r22.toInt by first | with_reducible assumption | omega) (show r22.toInt ≤ 11 by first | with_reducible assumption | omega) v51_6 (show 0 ≤ v51_6.toInt from r12) (show v51_6.toInt ≤ 9 by first | with_reducible assumption | omega) w24 H.size hT ) (cwV 2 hC.2.2.2.2 uV_RX12_348 rfl rfl rfl (by decide +kernel) ⟨Nat.le_of_ble_eq_true rfl, Nat.le_of_ble_eq_true rfl⟩) rfl hl.1 rfl (Nat.le_of_ble_eq_true rfl) dX12_way_99 (fun r113 w115 H locs hp114 hw => ?_)
            obtain ⟨rfl, hg122⟩ := hp114
            rcases hg122 with ⟨g117, g118⟩ | ⟨g119, g120, c121⟩
            · refine lv_istore (lv' := [(6, .int r113), (7, .int x112), (9, .int r22), (0, .ref (ad 0)), (1, .int a1), (2, .int a2), (3, .int a3), (4, .int a4), (5, .int v51_5), (8, .int v51_8)]) hx hb dX12_way_102 hl (by decide) rfl (fun ls hl => ?_)
              obtain ⟨x123, ex123⟩ : ∃ y : Int32, y = v51_8 + Int32.ofInt 1 := ⟨_, rfl⟩
              refine lv_iinc (v := x123) (lv' := [(8, .int x123), (6, .int r113), (7, .int x112), (9, .int r22), (0, .ref (ad 0)), (1, .int a1), (2, .int a2), (3, .int a3), (4, .int a4), (5, .int v51_5)]) hx hb dX12_way_104 hl (k := 9) rfl ex123.symm (by decide) rfl (fun ls hl => ?_)
              have ex123 : x123.toInt = v51_8.toInt + 1 := by rw [ex123]; exact wk_add (y := 1) (show -2147483648 ≤ v51_8.toInt + 1 by omega) (show v51_8.toInt + 1 ≤ 2147483647 by omega)
              refine lv_goto (tgt := 51) hx hb dX12_way_107 (by decide) ?_
              exact ih51 v51_5 r113 x112 x123 f51_12_0 H locs ls w24 (show 0 ≤ a1.toInt from r3) (show a1.toInt ≤ 9 from t4) (show 0 ≤ a2.toInt from r5) (show a2.toInt ≤ 9 from t6) (show 0 ≤ a3.toInt from r7) (show a3.toInt ≤ 99999 from t8) (show 0 ≤ a4.toInt from r9) (show 0 ≤ v51_5.toInt from r10) (show v51_5.toInt ≤ 100000100 from t11) (show 0 ≤ r113.toInt by first | with_reducible assumption | omega) (show r113.toInt ≤ 12 by first | with_reducible assumption | omega) (show 0 ≤ x112.toInt by first | with_reducible assumption | omega) (show x112.toInt ≤ 100000208 by first | with_reducible assumption | omega) (show 0 ≤ x123.toInt by first | with_reducible assumption | omega) (show 1 ≤ f51_12_0.toInt from r17) (show f51_12_0.toInt ≤ 10 from t18) (show x123.toInt ≤ a4.toInt + 0 by omega) (show (2147483647 - x123.toInt).toNat < n51 by first | exact tn_lt hm51 (by omega) (by omega) | omega) hw hT hF c52 (lv_sub hl [4, 5, 6, 7, 8, 9, 1, 2, 0] rfl)
            · refine lv_istore (lv' := [(6, .int r113), (7, .int x112), (9, .int r22), (0, .ref (ad 0)), (1, .int a1), (2, .int a2), (3, .int a3), (4, .int a4), (5, .int v51_5), (8, .int v51_8)]) hx hb dX12_way_102 hl (by decide) rfl (fun ls hl => ?_)
              obtain ⟨x124, ex124⟩ : ∃ y : Int32, y = v51_8 + Int32.ofInt 1 := ⟨_, rfl⟩
              refine lv_iinc (v := x124) (lv' := [(8, .int x124), (6, .int r113), (7, .int x112), (9, .int r22), (0, .ref (ad 0)), (1, .int a1), (2, .int a2), (3, .int a3), (4, .int a4), (5, .int v51_5)]) hx hb dX12_way_104 hl (k := 9) rfl ex124.symm (by decide) rfl (fun ls hl => ?_)
              have ex124 : x124.toInt = v51_8.toInt + 1 := by rw [ex124]; exact wk_add (y := 1) (show -2147483648 ≤ v51_8.toInt + 1 by omega) (show v51_8.toInt + 1 ≤ 2147483647 by omega)
              refine lv_goto (tgt := 51) hx hb dX12_way_107 (by decide) ?_
              exact ih51 v51_5 r113 x112 x124 f51_12_0 H locs ls w24 (show 0 ≤ a1.toInt from r3) (show a1.toInt ≤ 9 from t4) (show 0 ≤ a2.toInt from r5) (show a2.toInt ≤ 9 from t6) (show 0 ≤ a3.toInt from r7) (show a3.toInt ≤ 99999 from t8) (show 0 ≤ a4.toInt from r9) (show 0 ≤ v51_5.toInt from r10) (show v51_5.toInt ≤ 100000100 from t11) (show 0 ≤ r113.toInt by first | with_reducible assumption | omega) (show r113.toInt ≤ 12 by first | with_reducible assumption | omega) (show 0 ≤ x112.toInt by first | with_reducible assumption | omega) (show x112.toInt ≤ 100000208 by first | with_reducible assumption | omega) (show 0 ≤ x124.toInt by first | with_reducible assumption | omega) (show 1 ≤ f51_12_0.toInt from r17) (show f51_12_0.toInt ≤ 10 from t18) (show x124.toInt ≤ a4.toInt + 0 by omega) (show (2147483647 - x124.toInt).toNat < n51 by first | exact tn_lt hm51 (by omega) (by omega) | omega) hw hT hF c52 (lv_sub hl [4, 5, 6, 7, 8, 9, 1, 2, 0] rfl)
          · have c101 : v51_8.toInt = a4.toInt := wk_eq.mp c101
            refine lv_iload hx hb dX12_way_77 (lv_at hl 0 rfl) ?_
            exact tk_iret hC hr hlocks hK ⟨hT, hF, (Or.inr (Or.inl ⟨(show 0 ≤ r22.toInt by first | with_reducible assumption | omega), (show r22.toInt ≤ 11 by first | with_reducible assumption | omega), (show 0 ≤ a1.toInt from r3), (show a1.toInt ≤ 9 from t4), (show 0 ≤ a2.toInt from r5), (show a2.toInt ≤ 9 from t6), (show 0 ≤ a3.toInt from r7), (show a3.toInt ≤ 99999 from t8), (show 0 ≤ a4.toInt from r9), ⟨x46, c47, (show 0 ≤ x46.toInt by first | with_reducible assumption | omega), (show x46.toInt ≤ 100000100 by first | with_reducible assumption | omega)⟩, ⟨f51_12_0, c52, (show 1 ≤ f51_12_0.toInt from r17), (show f51_12_0.toInt ≤ 10 from t18)⟩, ⟨x48, c49, (show 1 ≤ x48.toInt by first | with_reducible assumption | omega), (show x48.toInt ≤ 12 by first | with_reducible assumption | omega)⟩⟩))⟩ hw dX12_way_79
        · refine lv_istore (lv' := [(9, .int (-1)), (0, .ref (ad 0)), (1, .int a1), (2, .int a2), (3, .int a3), (4, .int a4), (5, .int v51_5), (6, .int v51_6), (7, .int v51_7), (8, .int v51_8)]) hx hb dX12_way_68 hl (by decide) rfl (fun ls hl => ?_)
          refine lv_iload hx hb dX12_way_70 (lv_at hl 9 rfl) ?_
          refine lv_iload hx hb dX12_way_72 (lv_at hl 5 rfl) ?_
          refine lv_icmp_ne (tgt := 80) hx hb dX12_way_74 (by decide) (fun c125 => ?_) (fun c125 => ?_)
          · have c125 : ¬ v51_8.toInt = a4.toInt := wk_eqF c125
            refine lv_aload_n hx hb dX12_way_80 rfl (lv_at hl 1 rfl) ?_
            refine tk_geti hC hK hw hT hinX12 kM_at0 (by decide) rfl 37 (by decide) (List.mem_cons_of_mem _ uw_52_21) rfl rfl dX12_way_81 (fun x126 c127 rx126 tx126 => ?_)
            refine lv_aload_n hx hb dX12_way_84 rfl (lv_at hl 1 rfl) ?_
            refine lv_iload hx hb dX12_way_85 (lv_at hl 0 rfl) ?_
            refine lv_iconst (v := 2) hx hb dX12_way_87 (by decide) ?_
            refine tk_Vi hC hK hw hT hA hE hSR kM_at0 (by decide) rfl (k_X12_streetOf_9 l adK adV dC dI cy ad B hB0 (Int.le_trans hB1 (by decide)) qr s1    w24 H.size hT ) (cwV 2 hC.2.2.2.2 uV_RX12_300 rfl rfl rfl (by decide +kernel) ⟨Nat.le_of_ble_eq_true rfl, Nat.le_of_ble_eq_true rfl⟩) rfl hl.1 rfl (Nat.le_of_ble_eq_true rfl) dX12_way_88 (fun r128 w130 H locs hp129 hw => ?_)
            obtain ⟨rfl, hg135⟩ := hp129
            obtain ⟨g132, g133, c134⟩ := hg135
            refine lv_iadd hx hb dX12_way_91 ?_
            refine lv_topi (fun x136 ex136 => ?_)
            have ex136 : x136.toInt = x126.toInt + r128.toInt := by rw [ex136]; exact wk_add (show (-2147483648) ≤ x126.toInt + r128.toInt by omega) (show x126.toInt + r128.toInt ≤ 2147483647 by omega)
            refine lv_istore (lv' := [(7, .int x136), (9, .int (-1)), (0, .ref (ad 0)), (1, .int a1), (2, .int a2), (3, .int a3), (4, .int a4), (5, .int v51_5), (6, .int v51_6), (8, .int v51_8)]) hx hb dX12_way_92 hl (by decide) rfl (fun ls hl => ?_)
            refine lv_aload_n hx hb dX12_way_94 rfl (lv_at hl 2 rfl) ?_
            refine lv_iload hx hb dX12_way_95 (lv_at hl 1 rfl) ?_
            refine lv_iload hx hb dX12_way_97 (lv_at hl 8 rfl) ?_
            refine tk_Vi hC hK hw hT hA hE hSR kM_at0 (by decide) rfl (k_X12_otherOf_2 l adK adV dC dI cy ad B hB0 (Int.le_trans hB1 (by decide)) qr s1   v51_6 (show 0 ≤ v51_6.toInt from r12) (show v51_6.toInt ≤ 12 from t13) w24 H.size hT ) (cwV 2 hC.2.2.2.2 uV_RX12_348 rfl rfl rfl (by decide +kernel) ⟨Nat.le_of_ble_eq_true rfl, Nat.le_of_ble_eq_true rfl⟩) rfl hl.1 rfl (Nat.le_of_ble_eq_true rfl) dX12_way_99 (fun r137 w139 H locs hp138 hw => ?_)
            obtain ⟨rfl, hg143⟩ := hp138
            obtain ⟨g141, g142⟩ := hg143
            refine lv_istore (lv' := [(6, .int r137), (7, .int x136), (9, .int (-1)), (0, .ref (ad 0)), (1, .int a1), (2, .int a2), (3, .int a3), (4, .int a4), (5, .int v51_5), (8, .int v51_8)]) hx hb dX12_way_102 hl (by decide) rfl (fun ls hl => ?_)
            obtain ⟨x144, ex144⟩ : ∃ y : Int32, y = v51_8 + Int32.ofInt 1 := ⟨_, rfl⟩
            refine lv_iinc (v := x144) (lv' := [(8, .int x144), (6, .int r137), (7, .int x136), (9, .int (-1)), (0, .ref (ad 0)), (1, .int a1), (2, .int a2), (3, .int a3), (4, .int a4), (5, .int v51_5)]) hx hb dX12_way_104 hl (k := 9) rfl ex144.symm (by decide) rfl (fun ls hl => ?_)
            have ex144 : x144.toInt = v51_8.toInt + 1 := by rw [ex144]; exact wk_add (y := 1) (show -2147483648 ≤ v51_8.toInt + 1 by omega) (show v51_8.toInt + 1 ≤ 2147483647 by omega)
            refine lv_goto (tgt := 51) hx hb dX12_way_107 (by decide) ?_
            exact ih51 v51_5 r137 x136 x144 f51_12_0 H locs ls w24 (show 0 ≤ a1.toInt from r3) (show a1.toInt ≤ 9 from t4) (show 0 ≤ a2.toInt from r5) (show a2.toInt ≤ 9 from t6) (show 0 ≤ a3.toInt from r7) (show a3.toInt ≤ 99999 from t8) (show 0 ≤ a4.toInt from r9) (show 0 ≤ v51_5.toInt from r10) (show v51_5.toInt ≤ 100000100 from t11) (show 0 ≤ r137.toInt by first | with_reducible assumption | omega) (show r137.toInt ≤ 12 by first | with_reducible assumption | omega) (show 0 ≤ x136.toInt by first | with_reducible assumption | omega) (show x136.toInt ≤ 100000208 by first | with_reducible assumption | omega) (show 0 ≤ x144.toInt by first | with_reducible assumption | omega) (show 1 ≤ f51_12_0.toInt from r17) (show f51_12_0.toInt ≤ 10 from t18) (show x144.toInt ≤ a4.toInt + 0 by omega) (show (2147483647 - x144.toInt).toNat < n51 by first | exact tn_lt hm51 (by omega) (by omega) | omega) hw hT hF c52 (lv_sub hl [4, 5, 6, 7, 8, 9, 1, 2, 0] rfl)
          · have c125 : v51_8.toInt = a4.toInt := wk_eq.mp c125
            refine lv_iload hx hb dX12_way_77 (lv_at hl 0 rfl) ?_
            exact tk_iret hC hr hlocks hK ⟨hT, hF, (Or.inr (Or.inr rfl))⟩ hw dX12_way_79
  refine lv_aload_n hx hb dX12_way_0 rfl (lv_at hl 0 rfl) ?_
  refine lv_iload_n hx hb dX12_way_1 rfl (lv_at hl 1 rfl) ?_
  refine lv_iload_n hx hb dX12_way_2 rfl (lv_at hl 2 rfl) ?_
  refine lv_iload_n hx hb dX12_way_3 rfl (lv_at hl 3 rfl) ?_
  refine tk_Vi hC hK hw hT hA hE hSR kM_at0 (by decide) rfl (k_X12_canLook_1 l adK adV dC dI cy ad B hB0 (Int.le_trans hB1 (by decide)) qr s1   a1 a2 a3 w0 s.heap.size hT ) (cwV 3 hC.2.2.2.2 uV_RX12_453 rfl rfl rfl (by decide +kernel) ⟨Nat.le_of_ble_eq_true rfl, Nat.le_of_ble_eq_true rfl⟩) rfl hl.1 rfl (Nat.le_of_ble_eq_true rfl) dX12_way_4 (fun r145 w147 H locs hp146 hw => ?_)
  obtain ⟨rfl, hg157⟩ := hp146
  rcases hg157 with rfl | ⟨rfl, g149, g150, g151, g152, g153, g154, ⟨x155, c156, rx155, tx155⟩⟩
  · refine lv_if_eq (tgt := 15) hx hb dX12_way_7 (by decide) (fun _ => ?_) (fun c => absurd (by decide) c)
    exact J15  H locs ls w0   hw hT hF  (lv_sub hl [0, 1, 2, 3, 4] rfl)
  · refine lv_if_eq (tgt := 15) hx hb dX12_way_7 (by decide) (fun c => absurd c (by decide)) (fun _ => ?_)
    refine lv_iload hx hb dX12_way_10 (lv_at hl 4 rfl) ?_
    refine lv_if_ge (tgt := 17) hx hb dX12_way_12 (by decide) (fun c158 => ?_) (fun c158 => ?_)
    · have c158 : (0 : Int) ≤ a4.toInt := wk_le.mp c158
      refine lv_aload_n hx hb dX12_way_17 rfl (lv_at hl 0 rfl) ?_
      refine lv_iload_n hx hb dX12_way_18 rfl (lv_at hl 1 rfl) ?_
      refine lv_iload_n hx hb dX12_way_19 rfl (lv_at hl 2 rfl) ?_
      refine lv_iload_n hx hb dX12_way_20 rfl (lv_at hl 3 rfl) ?_
      refine lv_iload_n hx hb dX12_way_21 rfl (lv_at hl 3 rfl) ?_
      refine lv_sipush (v := 2000) hx hb dX12_way_22 (by decide) ?_
      refine lv_iadd hx hb dX12_way_25 ?_
      refine lv_topi (fun x159 ex159 => ?_)
      have ex159 : x159.toInt = a3.toInt + (2000 : Int) := by rw [ex159]; exact wk_add (show (-2147483648) ≤ a3.toInt + (2000 : Int) by omega) (show a3.toInt + (2000 : Int) ≤ 2147483647 by omega)
      refine tk_Vi hC hK hw hT hA hE hSR kM_at0 (by decide) rfl (k_X12_reaches_1 l adK adV dC dI cy ad B hB0 (Int.le_trans hB1 (by decide)) qr s1   a1 (show 0 ≤ a1.toInt by first | with_reducible assumption | omega) (show a1.toInt ≤ 9 by first | with_reducible assumption | omega) a2 (show 0 ≤ a2.toInt by first | with_reducible assumption | omega) (show a2.toInt ≤ 9 by first | with_reducible assumption | omega) a3 (show 0 ≤ a3.toInt by first | with_reducible assumption | omega) (show a3.toInt ≤ 99999 by first | with_reducible assumption | omega) x159 (show 2000 ≤ x159.toInt by first | with_reducible assumption | omega) (show x159.toInt ≤ 101999 by first | with_reducible assumption | omega) w0 H.size hT ) (cwV 4 hC.2.2.2.2 uV_RX12_456 rfl rfl rfl (by decide +kernel) ⟨Nat.le_of_ble_eq_true rfl, Nat.le_of_ble_eq_true rfl⟩) rfl hl.1 rfl (Nat.le_of_ble_eq_true rfl) dX12_way_26 (fun r160 w162 H locs hp161 hw => ?_)
      obtain ⟨hT, k163, hg166⟩ := hp161
      have hF := hF.tr k163 (by decide)
      have c167 := k163.gi kM_at12 (by decide) c156
      obtain ⟨g164, g165⟩ := hg166
      refine lv_istore (lv' := [(5, .int r160), (0, .ref (ad 0)), (1, .int a1), (2, .int a2), (3, .int a3), (4, .int a4)]) hx hb dX12_way_29 hl (by decide) rfl (fun ls hl => ?_)
      refine lv_iload hx hb dX12_way_31 (lv_at hl 0 rfl) ?_
      refine lv_ldcw (v := 100000000) hx hb hC.2.2.2.1 (hC.2.2.2.2 _ (List.mem_cons_of_mem _ uw_38_2)) dX12_way_33 ?_
      refine lv_icmp_ne (tgt := 42) hx hb dX12_way_36 (by decide) (fun c168 => ?_) (fun c168 => ?_)
      · have c168 : ¬ r160.toInt = (100000000 : Int) := wk_eqF c168
        refine lv_iload_n hx hb dX12_way_42 rfl (lv_at hl 2 rfl) ?_
        refine lv_istore (lv' := [(6, .int a1), (5, .int r160), (0, .ref (ad 0)), (1, .int a1), (2, .int a2), (3, .int a3), (4, .int a4)]) hx hb dX12_way_43 hl (by decide) rfl (fun ls hl => ?_)
        refine lv_iload_n hx hb dX12_way_45 rfl (lv_at hl 5 rfl) ?_
        refine lv_istore (lv' := [(7, .int a3), (6, .int a1), (5, .int r160), (0, .ref (ad 0)), (1, .int a1), (2, .int a2), (3, .int a3), (4, .int a4)]) hx hb dX12_way_46 hl (by decide) rfl (fun ls hl => ?_)
        refine lv_iconst (v := 0) hx hb dX12_way_48 (by decide) ?_
        refine lv_istore (lv' := [(8, .int 0), (7, .int a3), (6, .int a1), (5, .int r160), (0, .ref (ad 0)), (1, .int a1), (2, .int a2), (3, .int a3), (4, .int a4)]) hx hb dX12_way_49 hl (by decide) rfl (fun ls hl => ?_)
        exact L51 ((2147483647 - (0 : Int)).toNat + 1) r160 a1 a3 0 x155 H locs ls w162 (show 0 ≤ a1.toInt by first | with_reducible assumption | omega) (show a1.toInt ≤ 9 by first | with_reducible assumption | omega) (show 0 ≤ a2.toInt by first | with_reducible assumption | omega) (show a2.toInt ≤ 9 by first | with_reducible assumption | omega) (show 0 ≤ a3.toInt by first | with_reducible assumption | omega) (show a3.toInt ≤ 99999 by first | with_reducible assumption | omega) (show 0 ≤ a4.toInt from c158) (show 0 ≤ r160.toInt by first | with_reducible assumption | omega) (show r160.toInt ≤ 100000100 by first | with_reducible assumption | omega) (show 0 ≤ a1.toInt by first | with_reducible assumption | omega) (show a1.toInt ≤ 12 by first | with_reducible assumption | omega) (show 0 ≤ a3.toInt by first | with_reducible assumption | omega) (show a3.toInt ≤ 100000208 by first | with_reducible assumption | omega) (by decide) (show 1 ≤ x155.toInt by first | with_reducible assumption | omega) (show x155.toInt ≤ 10 by first | with_reducible assumption | omega) (show (0 : Int) ≤ a4.toInt + 0 by omega) (Nat.lt_succ_self _) hw hT hF c167 (lv_sub hl [4, 5, 6, 7, 8, 3, 2, 1, 0] rfl)
      · have c168 : r160.toInt = (100000000 : Int) := wk_eq.mp c168
        refine lv_bipush (v := (-2)) hx hb dX12_way_39 (by decide) ?_
        exact tk_iret hC hr hlocks hK ⟨hT, hF, (Or.inl ⟨rfl, (show 0 ≤ a1.toInt by first | with_reducible assumption | omega), (show a1.toInt ≤ 9 by first | with_reducible assumption | omega), (show 0 ≤ a2.toInt by first | with_reducible assumption | omega), (show a2.toInt ≤ 9 by first | with_reducible assumption | omega), (show 0 ≤ a3.toInt by first | with_reducible assumption | omega), (show a3.toInt ≤ 99999 by first | with_reducible assumption | omega), (show 0 ≤ a4.toInt from c158), ⟨x155, c167, (show 1 ≤ x155.toInt by first | with_reducible assumption | omega), (show x155.toInt ≤ 10 by first | with_reducible assumption | omega)⟩⟩)⟩ hw dX12_way_41
    · have c158 : a4.toInt < (0 : Int) := wk_leF c158
      exact J15  H locs ls w0   hw hT hF  (lv_sub hl [0, 1, 2, 3, 4] rfl)
abbrev P_X12_in_15 (ad : Nat → Nat) (cy : Nat → ClassId) (B : Int) (qr : Nat) (s1 : Int) (a0 : Int64) (w0 : va_W) : Int32 → va_W → Prop := fun r u => w0 = u ∧ ((r = 0) ∨ (r = 1 ∧ 0 ≤ a0.toInt ∧ a0.toInt ≤ 2))
set_option maxHeartbeats 4000000 in
set_option maxRecDepth 100000 in
theorem k_X12_in_15 (l : Launch) (adK adV : Nat → Nat) (dC : Nat → ClassId) (dI : Nat → Nat → Nat) (cy : Nat → ClassId) (ad : Nat → Nat) (B : Int) (hB0 : 100000 ≤ B) (hB1 : B ≤ 1073741824) (qr : Nat) (s1 : Int)  (a0 : Int64) (ra0 : (-2147483648) ≤ a0.toInt) (ta0 : a0.toInt ≤ 2147483647) (w0 : va_W) (sz : Nat) (hT : TW ksM ad cy B qr 12 w0)  : Met l yX12_in (wu yX12_in cX12_in 6 (some .boolean)) ({ frames := 1, cells := 0, slots := 0, locals := 12 }) (va_Pc [.long a0, .long 0, .long 2] (wpreS adK adV dC dI cy sz w0)) (va_Qi (P_X12_in_15 ad cy B qr s1 a0 w0) (fun u : va_W => wpost dC dI cy (va_A w0 sz) u) (va_A w0 sz)) 0 0 (va_A w0 sz) := by
  refine Met.ofW (cc := cX12_in) (maxL := 6) (ret := (some .boolean)) (by decide) rfl ?_
  intro p e s m args below meth c s₁ Bk hml hv
  obtain ⟨rfl, ⟨hsz, hP, hK, hD0⟩, hE, hSR⟩ := hv
  have hx := Bk.exec
  have hb := Bk.bytes
  have hr := Bk.returns
  have hlocks := Bk.notSynchronized
  have hC : CallFix p m c cX12_in 6 s _ (wu yX12_in cX12_in 6 (some .boolean)) RX12 := ⟨hx, hb, hml, findClass_of_methodNamed Bk.named, atoms_spec (ws := (wu yX12_in cX12_in 6 (some .boolean))) Bk.pre⟩
  subst hsz
  have hD := hD0.self (sz := s.heap.size)
  generalize hAe : va_A w0 s.heap.size = A at hD hE ⊢
  have hA : ∀ q : Nat, s.heap.size ≤ q → A q := fun q h => by rw [← hAe]; exact Or.inr h
  have hw : Wd dC dI A s.heap s.heap [] w0 := ⟨hP, hD, va_S.rf⟩
  have hF : FE ksM ([] : List (Nat × Nat × Nat)) w0 w0 := FE.rf
  have hl := lv_entry ([.long a0, .long 0, .long 2]) (n := 6) (Nat.le_of_ble_eq_true rfl)
  rw [lg_entry_eq]
  generalize (lg_sl ([.long a0, .long 0, .long 2]) ++ List.replicate (6 - (lg_sl ([.long a0, .long 0, .long 2])).length) Slot.unset).toArray = ls at hl ⊢
  have hl : lv_has ls 6 [(0, .long a0), (2, .long 0), (4, .long 2)] := hl
  generalize hloc : ([] : List Loc) = locs at hw ⊢
  have J17 : ∀ (H : Heap) (locs : List Loc) (ls : Array Slot), (-2147483648) ≤ a0.toInt → a0.toInt ≤ 2147483647 → Wd dC dI A s.heap H locs w0 → lv_has ls 6 [(0, .long a0), (2, .long 0), (4, .long 2)] → W p l e ({ frames := 1, cells := 0, slots := 0, locals := 12 }) s m (List.toArray [.long a0, .long 0, .long 2]) below meth c H locs 0 0 (MQ below (va_Qi (P_X12_in_15 ad cy B qr s1 a0 w0) (fun u : va_W => wpost dC dI cy A u) A) (List.toArray [.long a0, .long 0, .long 2]) s 0 0 A) (F0 m 17 ls []) := by
    intro H locs ls r1 t2 hw hl
    refine lv_iconst (v := 0) hx hb dX12_in_17 (by decide) ?_
    exact tk_zret hC hr rfl hlocks hK ⟨rfl, (Or.inl rfl)⟩ hw dX12_in_18
  refine lv_lload_n hx hb dX12_in_0 rfl (lv_at hl 0 rfl) ?_
  refine lv_lload_n hx hb dX12_in_1 rfl (lv_at hl 1 rfl) ?_
  refine W.lcmp hx hb dX12_in_2 ?_
  refine lv_if_lt (tgt := 17) hx hb dX12_in_3 (by decide) (fun c3 => ?_) (fun c3 => ?_)
  · have c3 : a0.toInt < (0 : Int) := wk_cltT c3
    exact J17  s.heap locs ls  (show (-2147483648) ≤ a0.toInt from ra0) (show a0.toInt ≤ 2147483647 from ta0)  hw   (lv_sub hl [0, 1, 2] rfl)
  · have c3 : (0 : Int) ≤ a0.toInt := wk_cltF c3
    refine lv_lload_n hx hb dX12_in_6 rfl (lv_at hl 0 rfl) ?_
    refine lv_lload hx hb dX12_in_7 (lv_at hl 2 rfl) ?_
    refine W.lcmp hx hb dX12_in_9 ?_
    refine lv_if_gt (tgt := 17) hx hb dX12_in_10 (by decide) (fun c4 => ?_) (fun c4 => ?_)
    · have c4 : (2 : Int) < a0.toInt := wk_cgtT c4
      exact J17  s.heap locs ls  (show (-2147483648) ≤ a0.toInt from ra0) (show a0.toInt ≤ 2147483647 from ta0)  hw   (lv_sub hl [0, 1, 2] rfl)
    · have c4 : a0.toInt ≤ (2 : Int) := wk_cgtF c4
      refine lv_iconst (v := 1) hx hb dX12_in_13 (by decide) ?_
      refine lv_goto (tgt := 18) hx hb dX12_in_14 (by decide) ?_
      exact tk_zret hC hr rfl hlocks hK ⟨rfl, (Or.inr ⟨rfl, (show 0 ≤ a0.toInt from c3), (show a0.toInt ≤ 2 from c4)⟩)⟩ hw dX12_in_18
abbrev P_X12_in_16 (ad : Nat → Nat) (cy : Nat → ClassId) (B : Int) (qr : Nat) (s1 : Int) (a0 : Int64) (w0 : va_W) : Int32 → va_W → Prop := fun r u => w0 = u ∧ ((r = 0) ∨ (r = 1 ∧ 0 ≤ a0.toInt ∧ a0.toInt ≤ 400))
set_option maxHeartbeats 4000000 in
set_option maxRecDepth 100000 in
theorem k_X12_in_16 (l : Launch) (adK adV : Nat → Nat) (dC : Nat → ClassId) (dI : Nat → Nat → Nat) (cy : Nat → ClassId) (ad : Nat → Nat) (B : Int) (hB0 : 100000 ≤ B) (hB1 : B ≤ 1073741824) (qr : Nat) (s1 : Int)  (a0 : Int64) (ra0 : (-2147483648) ≤ a0.toInt) (ta0 : a0.toInt ≤ 2147483647) (w0 : va_W) (sz : Nat) (hT : TW ksM ad cy B qr 12 w0)  : Met l yX12_in (wu yX12_in cX12_in 6 (some .boolean)) ({ frames := 1, cells := 0, slots := 0, locals := 12 }) (va_Pc [.long a0, .long 0, .long 400] (wpreS adK adV dC dI cy sz w0)) (va_Qi (P_X12_in_16 ad cy B qr s1 a0 w0) (fun u : va_W => wpost dC dI cy (va_A w0 sz) u) (va_A w0 sz)) 0 0 (va_A w0 sz) := by
  refine Met.ofW (cc := cX12_in) (maxL := 6) (ret := (some .boolean)) (by decide) rfl ?_
  intro p e s m args below meth c s₁ Bk hml hv
  obtain ⟨rfl, ⟨hsz, hP, hK, hD0⟩, hE, hSR⟩ := hv
  have hx := Bk.exec
  have hb := Bk.bytes
  have hr := Bk.returns
  have hlocks := Bk.notSynchronized
  have hC : CallFix p m c cX12_in 6 s _ (wu yX12_in cX12_in 6 (some .boolean)) RX12 := ⟨hx, hb, hml, findClass_of_methodNamed Bk.named, atoms_spec (ws := (wu yX12_in cX12_in 6 (some .boolean))) Bk.pre⟩
  subst hsz
  have hD := hD0.self (sz := s.heap.size)
  generalize hAe : va_A w0 s.heap.size = A at hD hE ⊢
  have hA : ∀ q : Nat, s.heap.size ≤ q → A q := fun q h => by rw [← hAe]; exact Or.inr h
  have hw : Wd dC dI A s.heap s.heap [] w0 := ⟨hP, hD, va_S.rf⟩
  have hF : FE ksM ([] : List (Nat × Nat × Nat)) w0 w0 := FE.rf
  have hl := lv_entry ([.long a0, .long 0, .long 400]) (n := 6) (Nat.le_of_ble_eq_true rfl)
  rw [lg_entry_eq]
  generalize (lg_sl ([.long a0, .long 0, .long 400]) ++ List.replicate (6 - (lg_sl ([.long a0, .long 0, .long 400])).length) Slot.unset).toArray = ls at hl ⊢
  have hl : lv_has ls 6 [(0, .long a0), (2, .long 0), (4, .long 400)] := hl
  generalize hloc : ([] : List Loc) = locs at hw ⊢
  have J17 : ∀ (H : Heap) (locs : List Loc) (ls : Array Slot), (-2147483648) ≤ a0.toInt → a0.toInt ≤ 2147483647 → Wd dC dI A s.heap H locs w0 → lv_has ls 6 [(0, .long a0), (2, .long 0), (4, .long 400)] → W p l e ({ frames := 1, cells := 0, slots := 0, locals := 12 }) s m (List.toArray [.long a0, .long 0, .long 400]) below meth c H locs 0 0 (MQ below (va_Qi (P_X12_in_16 ad cy B qr s1 a0 w0) (fun u : va_W => wpost dC dI cy A u) A) (List.toArray [.long a0, .long 0, .long 400]) s 0 0 A) (F0 m 17 ls []) := by
    intro H locs ls r1 t2 hw hl
    refine lv_iconst (v := 0) hx hb dX12_in_17 (by decide) ?_
    exact tk_zret hC hr rfl hlocks hK ⟨rfl, (Or.inl rfl)⟩ hw dX12_in_18
  refine lv_lload_n hx hb dX12_in_0 rfl (lv_at hl 0 rfl) ?_
  refine lv_lload_n hx hb dX12_in_1 rfl (lv_at hl 1 rfl) ?_
  refine W.lcmp hx hb dX12_in_2 ?_
  refine lv_if_lt (tgt := 17) hx hb dX12_in_3 (by decide) (fun c3 => ?_) (fun c3 => ?_)
  · have c3 : a0.toInt < (0 : Int) := wk_cltT c3
    exact J17  s.heap locs ls  (show (-2147483648) ≤ a0.toInt from ra0) (show a0.toInt ≤ 2147483647 from ta0)  hw   (lv_sub hl [0, 1, 2] rfl)
  · have c3 : (0 : Int) ≤ a0.toInt := wk_cltF c3
    refine lv_lload_n hx hb dX12_in_6 rfl (lv_at hl 0 rfl) ?_
    refine lv_lload hx hb dX12_in_7 (lv_at hl 2 rfl) ?_
    refine W.lcmp hx hb dX12_in_9 ?_
    refine lv_if_gt (tgt := 17) hx hb dX12_in_10 (by decide) (fun c4 => ?_) (fun c4 => ?_)
    · have c4 : (400 : Int) < a0.toInt := wk_cgtT c4
      exact J17  s.heap locs ls  (show (-2147483648) ≤ a0.toInt from ra0) (show a0.toInt ≤ 2147483647 from ta0)  hw   (lv_sub hl [0, 1, 2] rfl)
    · have c4 : a0.toInt ≤ (400 : Int) := wk_cgtF c4
      refine lv_iconst (v := 1) hx hb dX12_in_13 (by decide) ?_
      refine lv_goto (tgt := 18) hx hb dX12_in_14 (by decide) ?_
      exact tk_zret hC hr rfl hlocks hK ⟨rfl, (Or.inr ⟨rfl, (show 0 ≤ a0.toInt from c3), (show a0.toInt ≤ 400 from c4)⟩)⟩ hw dX12_in_18
abbrev P_X12_keeps_1 (ad : Nat → Nat) (cy : Nat → ClassId) (B : Int) (qr : Nat) (s1 : Int)  (w0 : va_W) : va_W → Prop := fun u => TW ksM ad cy B qr 12 u ∧ FE ksM [(74, 0, 296)] w0 u ∧ ((gi u 15 (0) = gi w0 12 0 ∧ gi u 15 (4) = gi w0 12 4 ∧ gi u 15 (9) = gi w0 12 9 ∧ (∀ j : Nat, j < 296 → gi u 15 j = gi w0 12 j)))
set_option maxHeartbeats 4000000 in
set_option maxRecDepth 100000 in
theorem k_X12_keeps_1 (l : Launch) (adK adV : Nat → Nat) (dC : Nat → ClassId) (dI : Nat → Nat → Nat) (cy : Nat → ClassId) (ad : Nat → Nat) (B : Int) (hB0 : 100000 ≤ B) (hB1 : B ≤ 1073741824) (qr : Nat) (s1 : Int)   (w0 : va_W) (sz : Nat) (hT : TW ksM ad cy B qr 12 w0)  : Met l yX12_keeps (wu yX12_keeps cX12_keeps 2 none) ({ frames := 1, cells := 0, slots := 0, locals := 12 }) (va_Pc [.ref (ad 0)] (wpreS adK adV dC dI cy sz w0)) (va_Qv (P_X12_keeps_1 ad cy B qr s1  w0) (fun u : va_W => wpost dC dI cy (va_A w0 sz) u) (va_A w0 sz)) 0 0 (va_A w0 sz) := by
  refine Met.ofW (cc := cX12_keeps) (maxL := 2) (ret := none) (by decide) rfl ?_
  intro p e s m args below meth c s₁ Bk hml hv
  obtain ⟨rfl, ⟨hsz, hP, hK, hD0⟩, hE, hSR⟩ := hv
  have hx := Bk.exec
  have hb := Bk.bytes
  have hr := Bk.returns
  have hlocks := Bk.notSynchronized
  have hC : CallFix p m c cX12_keeps 2 s _ (wu yX12_keeps cX12_keeps 2 none) RX12 := ⟨hx, hb, hml, findClass_of_methodNamed Bk.named, atoms_spec (ws := (wu yX12_keeps cX12_keeps 2 none)) Bk.pre⟩
  subst hsz
  have hD := hD0.self (sz := s.heap.size)
  generalize hAe : va_A w0 s.heap.size = A at hD hE ⊢
  have hA : ∀ q : Nat, s.heap.size ≤ q → A q := fun q h => by rw [← hAe]; exact Or.inr h
  have hw : Wd dC dI A s.heap s.heap [] w0 := ⟨hP, hD, va_S.rf⟩
  have hF : FE ksM [(74, 0, 296)] w0 w0 := FE.rf
  have hl := lv_entry ([.ref (ad 0)]) (n := 2) (Nat.le_of_ble_eq_true rfl)
  rw [lg_entry_eq]
  generalize (lg_sl ([.ref (ad 0)]) ++ List.replicate (2 - (lg_sl ([.ref (ad 0)])).length) Slot.unset).toArray = ls at hl ⊢
  have hl : lv_has ls 2 [(0, .ref (ad 0))] := hl
  generalize hloc : ([] : List Loc) = locs at hw ⊢
  have hinX12 : ∀ w ∈ u_ws RX12 TX12 42, w ∈ (wu yX12_keeps cX12_keeps 2 none) := fun _ h => List.mem_cons_of_mem _ (up_71 h)
  have L2 : ∀ (n2 : Nat) (v2_1 : Int32) (H : Heap) (locs : List Loc) (ls : Array Slot) (w1 : va_W), 0 ≤ v2_1.toInt → v2_1.toInt ≤ 296 → (v2_1.toInt ≤ 0 ∨ gi w1 15 (0) = gi w0 12 0) → (v2_1.toInt ≤ 4 ∨ gi w1 15 (4) = gi w0 12 4) → (v2_1.toInt ≤ 9 ∨ gi w1 15 (9) = gi w0 12 9) → (∀ j : Nat, (j : Int) < v2_1.toInt → gi w1 15 j = gi w0 12 j) → (296 - v2_1.toInt).toNat < n2 → Wd dC dI A s.heap H locs w1 → TW ksM ad cy B qr 12 w1 → FE ksM [(74, 0, 296)] w0 w1 → lv_has ls 2 [(0, .ref (ad 0)), (1, .int v2_1)] → W p l e ({ frames := 1, cells := 0, slots := 0, locals := 12 }) s m (List.toArray [.ref (ad 0)]) below meth c H locs 0 0 (MQ below (va_Qv (P_X12_keeps_1 ad cy B qr s1  w0) (fun u : va_W => wpost dC dI cy A u) A) (List.toArray [.ref (ad 0)]) s 0 0 A) (F0 m 2 ls []) := by
    intro n2
    induction n2 with
    | zero => intro v2_1 H locs ls w1 r2 t3 hcp0 hcp1 hcp2 hcr2_0 hm2 hw hT hF hl; omega
    | succ n2 ih2 =>
      intro v2_1 H locs ls w1 r2 t3 hcp0 hcp1 hcp2 hcr2_0 hm2 hw hT hF hl
      refine lv_iload_n hx hb dX12_keeps_2 rfl (lv_at hl 1 rfl) ?_
      refine lv_sipush (v := 296) hx hb dX12_keeps_3 (by decide) ?_
      refine lv_icmp_ge (tgt := 27) hx hb dX12_keeps_6 (by decide) (fun c4 => ?_) (fun c4 => ?_)
      · have c4 : (296 : Int) ≤ v2_1.toInt := wk_le.mp c4
        exact tk_vret hC hr hlocks hK ⟨hT, hF, ⟨(hcp0.resolve_left (by omega)), (hcp1.resolve_left (by omega)), (hcp2.resolve_left (by omega)), (by exact fun j hj => hcr2_0 j (by omega))⟩⟩ hw dX12_keeps_27
      · have c4 : v2_1.toInt < (296 : Int) := wk_leF c4
        refine lv_aload_n hx hb dX12_keeps_9 rfl (lv_at hl 0 rfl) ?_
        refine tk_getA hC hK hw hT hinX12 kM_at0 (by decide) rfl 32 (by decide) (List.mem_cons_of_mem _ uw_7_5) rfl rfl dX12_keeps_10 ?_
        refine lv_iload_n hx hb dX12_keeps_13 rfl (lv_at hl 1 rfl) ?_
        refine lv_aload_n hx hb dX12_keeps_14 rfl (lv_at hl 0 rfl) ?_
        refine tk_getA hC hK hw hT hinX12 kM_at0 (by decide) rfl 26 (by decide) (List.mem_cons_of_mem _ uw_7_1) rfl rfl dX12_keeps_15 ?_
        refine lv_iload_n hx hb dX12_keeps_18 rfl (lv_at hl 1 rfl) ?_
        refine tk_ialdR hC hK hw hT kM_at12 rfl (show 0 ≤ v2_1.toInt from r2) (show v2_1.toInt < 296 from c4) dX12_keeps_19 (fun x5 c6 Ex5 => ?_)
        have lEx5 : gi w1 12 (v2_1.toInt).toNat = x5 := c6
        have c6 : gi w1 12 (v2_1.toInt).toNat = x5 := (congrArg (gi w1 12) (congrArg Int.toNat (show v2_1.toInt = v2_1.toInt from rfl))).trans c6
        have hF0 := hF
        refine tk_iastR hC hK hw hT kM_at15 (by decide) rfl (show 0 ≤ v2_1.toInt from r2) (show v2_1.toInt < 296 from c4) (tk_rgC rfl rfl (show v2_1.toInt.toNat % 296 = v2_1.toInt.toNat % 296 from rfl) Ex5) dX12_keeps_20 (fun H locs w7 hw hT k9 c8 => ?_)
        have hF := hF.put kM_at15 (inE_of (a := 0) (b := 296) (by decide) (show 0 ≤ v2_1.toInt.toNat by omega) (show v2_1.toInt.toNat ≤ 296 by omega)) k9
        have c10 := k9.gi (Or.inl (tk_ne kM_at12 kM_at15 (by decide))) c6
        obtain ⟨x11, ex11⟩ : ∃ y : Int32, y = v2_1 + Int32.ofInt 1 := ⟨_, rfl⟩
        refine lv_iinc (v := x11) (lv' := [(1, .int x11), (0, .ref (ad 0))]) hx hb dX12_keeps_21 hl (k := 1) rfl ex11.symm (by decide) rfl (fun ls hl => ?_)
        have ex11 : x11.toInt = v2_1.toInt + 1 := by rw [ex11]; exact wk_add (y := 1) (show -2147483648 ≤ v2_1.toInt + 1 by omega) (show v2_1.toInt + 1 ≤ 2147483647 by omega)
        refine lv_goto (tgt := 2) hx hb dX12_keeps_24 (by decide) ?_
        exact ih2 x11 H locs ls w7 (show 0 ≤ x11.toInt by first | with_reducible assumption | omega) (show x11.toInt ≤ 296 by first | with_reducible assumption | omega) (copy_at (d := 0) (by first | rfl | omega) hcp0 k9 (show v2_1.toInt = v2_1.toInt + 0 by first | exact Int.le_antisymm (by omega) (by omega) | omega) c8 lEx5 (hF0.gi kM_at12 rfl rfl) (by omega) (by omega) (by omega)) (copy_at (d := 0) (by first | rfl | omega) hcp1 k9 (show v2_1.toInt = v2_1.toInt + 0 by first | exact Int.le_antisymm (by omega) (by omega) | omega) c8 lEx5 (hF0.gi kM_at12 rfl rfl) (by omega) (by omega) (by omega)) (copy_at (d := 0) (by first | rfl | omega) hcp2 k9 (show v2_1.toInt = v2_1.toInt + 0 by first | exact Int.le_antisymm (by omega) (by omega) | omega) c8 lEx5 (hF0.gi kM_at12 rfl rfl) (by omega) (by omega) (by omega)) (show ∀ j : Nat, (j : Int) < x11.toInt → gi w7 15 j = gi w0 12 j from kp_all hcr2_0 k9 (show v2_1.toInt = v2_1.toInt from rfl) c8 lEx5 (fun j => hF0.gi kM_at12 rfl rfl) (by omega) (by omega)) (show (296 - x11.toInt).toNat < n2 by first | exact tn_lt hm2 (by omega) (by omega) | omega) hw hT hF  (lv_sub hl [1, 0] rfl)
  refine lv_iconst (v := 0) hx hb dX12_keeps_0 (by decide) ?_
  refine lv_istore_n (lv' := [(1, .int 0), (0, .ref (ad 0))]) hx hb dX12_keeps_1 rfl hl (by decide) rfl (fun ls hl => ?_)
  exact L2 ((296 - (0 : Int)).toNat + 1) 0 s.heap locs ls w0 (by decide) (by decide) (show ((0 : Int) ≤ 0 ∨ gi w0 15 (0) = gi w0 12 0) from Or.inl (by omega)) (show ((0 : Int) ≤ 4 ∨ gi w0 15 (4) = gi w0 12 4) from Or.inl (by omega)) (show ((0 : Int) ≤ 9 ∨ gi w0 15 (9) = gi w0 12 9) from Or.inl (by omega)) (show ∀ j : Nat, (j : Int) < (0 : Int) → gi w0 15 j = gi w0 12 j from fun j hj => absurd hj (by omega)) (Nat.lt_succ_self _) hw hT hF  (lv_sub hl [1, 0] rfl)
abbrev P_X12_putsBack_1 (ad : Nat → Nat) (cy : Nat → ClassId) (B : Int) (qr : Nat) (s1 : Int)  (w0 : va_W) : va_W → Prop := fun u => TW ksM ad cy B qr 12 u ∧ FE ksM [(71, 0, 295)] w0 u ∧ ((gi u 12 (0) = gi w0 15 0 ∧ gi u 12 (4) = gi w0 15 4 ∧ gi u 12 (9) = gi w0 15 9 ∧ (∀ j : Nat, j < 296 → gi u 12 j = gi w0 15 j)))
set_option maxHeartbeats 4000000 in
set_option maxRecDepth 100000 in
theorem k_X12_putsBack_1 (l : Launch) (adK adV : Nat → Nat) (dC : Nat → ClassId) (dI : Nat → Nat → Nat) (cy : Nat → ClassId) (ad : Nat → Nat) (B : Int) (hB0 : 100000 ≤ B) (hB1 : B ≤ 1073741824) (qr : Nat) (s1 : Int)   (w0 : va_W) (sz : Nat) (hT : TW ksM ad cy B qr 12 w0)  : Met l yX12_putsBack (wu yX12_putsBack cX12_putsBack 2 none) ({ frames := 1, cells := 0, slots := 0, locals := 12 }) (va_Pc [.ref (ad 0)] (wpreS adK adV dC dI cy sz w0)) (va_Qv (P_X12_putsBack_1 ad cy B qr s1  w0) (fun u : va_W => wpost dC dI cy (va_A w0 sz) u) (va_A w0 sz)) 0 0 (va_A w0 sz) := by
  refine Met.ofW (cc := cX12_putsBack) (maxL := 2) (ret := none) (by decide) rfl ?_
  intro p e s m args below meth c s₁ Bk hml hv
  obtain ⟨rfl, ⟨hsz, hP, hK, hD0⟩, hE, hSR⟩ := hv
  have hx := Bk.exec
  have hb := Bk.bytes
  have hr := Bk.returns
  have hlocks := Bk.notSynchronized
  have hC : CallFix p m c cX12_putsBack 2 s _ (wu yX12_putsBack cX12_putsBack 2 none) RX12 := ⟨hx, hb, hml, findClass_of_methodNamed Bk.named, atoms_spec (ws := (wu yX12_putsBack cX12_putsBack 2 none)) Bk.pre⟩
  subst hsz
  have hD := hD0.self (sz := s.heap.size)
  generalize hAe : va_A w0 s.heap.size = A at hD hE ⊢
  have hA : ∀ q : Nat, s.heap.size ≤ q → A q := fun q h => by rw [← hAe]; exact Or.inr h
  have hw : Wd dC dI A s.heap s.heap [] w0 := ⟨hP, hD, va_S.rf⟩
  have hF : FE ksM [(71, 0, 295)] w0 w0 := FE.rf
  have hl := lv_entry ([.ref (ad 0)]) (n := 2) (Nat.le_of_ble_eq_true rfl)
  rw [lg_entry_eq]
  generalize (lg_sl ([.ref (ad 0)]) ++ List.replicate (2 - (lg_sl ([.ref (ad 0)])).length) Slot.unset).toArray = ls at hl ⊢
  have hl : lv_has ls 2 [(0, .ref (ad 0))] := hl
  generalize hloc : ([] : List Loc) = locs at hw ⊢
  have hinX12 : ∀ w ∈ u_ws RX12 TX12 42, w ∈ (wu yX12_putsBack cX12_putsBack 2 none) := fun _ h => List.mem_cons_of_mem _ (up_71 h)
  have L2 : ∀ (n2 : Nat) (v2_1 : Int32) (H : Heap) (locs : List Loc) (ls : Array Slot) (w1 : va_W), 0 ≤ v2_1.toInt → v2_1.toInt ≤ 296 → (v2_1.toInt ≤ 0 ∨ gi w1 12 (0) = gi w0 15 0) → (v2_1.toInt ≤ 4 ∨ gi w1 12 (4) = gi w0 15 4) → (v2_1.toInt ≤ 9 ∨ gi w1 12 (9) = gi w0 15 9) → (∀ j : Nat, (j : Int) < v2_1.toInt → gi w1 12 j = gi w0 15 j) → (296 - v2_1.toInt).toNat < n2 → Wd dC dI A s.heap H locs w1 → TW ksM ad cy B qr 12 w1 → FE ksM [(71, 0, 295)] w0 w1 → lv_has ls 2 [(0, .ref (ad 0)), (1, .int v2_1)] → W p l e ({ frames := 1, cells := 0, slots := 0, locals := 12 }) s m (List.toArray [.ref (ad 0)]) below meth c H locs 0 0 (MQ below (va_Qv (P_X12_putsBack_1 ad cy B qr s1  w0) (fun u : va_W => wpost dC dI cy A u) A) (List.toArray [.ref (ad 0)]) s 0 0 A) (F0 m 2 ls []) := by
    intro n2
    induction n2 with
    | zero => intro v2_1 H locs ls w1 r2 t3 hcp0 hcp1 hcp2 hcr2_0 hm2 hw hT hF hl; omega
    | succ n2 ih2 =>
      intro v2_1 H locs ls w1 r2 t3 hcp0 hcp1 hcp2 hcr2_0 hm2 hw hT hF hl
      refine lv_iload_n hx hb dX12_putsBack_2 rfl (lv_at hl 1 rfl) ?_
      refine lv_sipush (v := 296) hx hb dX12_putsBack_3 (by decide) ?_
      refine lv_icmp_ge (tgt := 27) hx hb dX12_putsBack_6 (by decide) (fun c4 => ?_) (fun c4 => ?_)
      · have c4 : (296 : Int) ≤ v2_1.toInt := wk_le.mp c4
        exact tk_vret hC hr hlocks hK ⟨hT, hF, ⟨(hcp0.resolve_left (by omega)), (hcp1.resolve_left (by omega)), (hcp2.resolve_left (by omega)), (by exact fun j hj => hcr2_0 j (by omega))⟩⟩ hw dX12_putsBack_27
      · have c4 : v2_1.toInt < (296 : Int) := wk_leF c4
        refine lv_aload_n hx hb dX12_putsBack_9 rfl (lv_at hl 0 rfl) ?_
        refine tk_getA hC hK hw hT hinX12 kM_at0 (by decide) rfl 26 (by decide) (List.mem_cons_of_mem _ uw_7_1) rfl rfl dX12_putsBack_10 ?_
        refine lv_iload_n hx hb dX12_putsBack_13 rfl (lv_at hl 1 rfl) ?_
        refine lv_aload_n hx hb dX12_putsBack_14 rfl (lv_at hl 0 rfl) ?_
        refine tk_getA hC hK hw hT hinX12 kM_at0 (by decide) rfl 32 (by decide) (List.mem_cons_of_mem _ uw_7_5) rfl rfl dX12_putsBack_15 ?_
        refine lv_iload_n hx hb dX12_putsBack_18 rfl (lv_at hl 1 rfl) ?_
        refine tk_ialdR hC hK hw hT kM_at15 rfl (show 0 ≤ v2_1.toInt from r2) (show v2_1.toInt < 296 from c4) dX12_putsBack_19 (fun x5 c6 Ex5 => ?_)
        have lEx5 : gi w1 15 (v2_1.toInt).toNat = x5 := c6
        have hF0 := hF
        refine tk_iastR hC hK hw hT kM_at12 (by decide) rfl (show 0 ≤ v2_1.toInt from r2) (show v2_1.toInt < 296 from c4) (tk_rgC rfl rfl (show v2_1.toInt.toNat % 296 = v2_1.toInt.toNat % 296 from rfl) Ex5) dX12_putsBack_20 (fun H locs w7 hw hT k9 c8 => ?_)
        have hF := hF.put kM_at12 (inE_of (a := 0) (b := 295) (by decide) (show 0 ≤ v2_1.toInt.toNat by omega) (show v2_1.toInt.toNat ≤ 295 by omega)) k9
        obtain ⟨x10, ex10⟩ : ∃ y : Int32, y = v2_1 + Int32.ofInt 1 := ⟨_, rfl⟩
        refine lv_iinc (v := x10) (lv' := [(1, .int x10), (0, .ref (ad 0))]) hx hb dX12_putsBack_21 hl (k := 1) rfl ex10.symm (by decide) rfl (fun ls hl => ?_)
        have ex10 : x10.toInt = v2_1.toInt + 1 := by rw [ex10]; exact wk_add (y := 1) (show -2147483648 ≤ v2_1.toInt + 1 by omega) (show v2_1.toInt + 1 ≤ 2147483647 by omega)
        refine lv_goto (tgt := 2) hx hb dX12_putsBack_24 (by decide) ?_
        exact ih2 x10 H locs ls w7 (show 0 ≤ x10.toInt by first | with_reducible assumption | omega) (show x10.toInt ≤ 296 by first | with_reducible assumption | omega) (copy_at (d := 0) (by first | rfl | omega) hcp0 k9 (show v2_1.toInt = v2_1.toInt + 0 by first | exact Int.le_antisymm (by omega) (by omega) | omega) c8 lEx5 (hF0.gi kM_at15 rfl rfl) (by omega) (by omega) (by omega)) (copy_at (d := 0) (by first | rfl | omega) hcp1 k9 (show v2_1.toInt = v2_1.toInt + 0 by first | exact Int.le_antisymm (by omega) (by omega) | omega) c8 lEx5 (hF0.gi kM_at15 rfl rfl) (by omega) (by omega) (by omega)) (copy_at (d := 0) (by first | rfl | omega) hcp2 k9 (show v2_1.toInt = v2_1.toInt + 0 by first | exact Int.le_antisymm (by omega) (by omega) | omega) c8 lEx5 (hF0.gi kM_at15 rfl rfl) (by omega) (by omega) (by omega)) (show ∀ j : Nat, (j : Int) < x10.toInt → gi w7 12 j = gi w0 15 j from kp_all hcr2_0 k9 (show v2_1.toInt = v2_1.toInt from rfl) c8 lEx5 (fun j => hF0.gi kM_at15 rfl rfl) (by omega) (by omega)) (show (296 - x10.toInt).toNat < n2 by first | exact tn_lt hm2 (by omega) (by omega) | omega) hw hT hF  (lv_sub hl [1, 0] rfl)
  refine lv_iconst (v := 0) hx hb dX12_putsBack_0 (by decide) ?_
  refine lv_istore_n (lv' := [(1, .int 0), (0, .ref (ad 0))]) hx hb dX12_putsBack_1 rfl hl (by decide) rfl (fun ls hl => ?_)
  exact L2 ((296 - (0 : Int)).toNat + 1) 0 s.heap locs ls w0 (by decide) (by decide) (show ((0 : Int) ≤ 0 ∨ gi w0 12 (0) = gi w0 15 0) from Or.inl (by omega)) (show ((0 : Int) ≤ 4 ∨ gi w0 12 (4) = gi w0 15 4) from Or.inl (by omega)) (show ((0 : Int) ≤ 9 ∨ gi w0 12 (9) = gi w0 15 9) from Or.inl (by omega)) (show ∀ j : Nat, (j : Int) < (0 : Int) → gi w0 12 j = gi w0 15 j from fun j hj => absurd hj (by omega)) (Nat.lt_succ_self _) hw hT hF  (lv_sub hl [1, 0] rfl)
abbrev P_X12_comes_1 (ad : Nat → Nat) (cy : Nat → ClassId) (B : Int) (qr : Nat) (s1 : Int) (a1 : Int32) (a2 : Int32) (a3 : Int32) (w0 : va_W) : Int32 → va_W → Prop := fun r u => TW ksM ad cy (B + 3600) qr 12 u ∧ FE ksM [(12, 24, 24), (12, 31, 31), (69, 0, 64), (70, 0, 10), (71, 0, 295), (71, 216, 243), (71, 220, 247), (71, 221, 248), (71, 222, 249), (71, 223, 250), (71, 224, 251), (72, 0, 12), (73, 0, 10), (74, 0, 296)] w0 u ∧ ((0 ≤ a1.toInt ∧ a1.toInt ≤ 3 ∧ 0 ≤ a2.toInt ∧ a2.toInt ≤ 400 ∧ 2 ≤ a3.toInt ∧ a3.toInt ≤ 2 ∧ (SA w0 u)) ∨ (r = (-2) ∧ 0 ≤ a1.toInt ∧ a1.toInt ≤ 3 ∧ 0 ≤ a2.toInt ∧ a2.toInt ≤ 400 ∧ 0 ≤ a3.toInt ∧ a3.toInt ≤ 0 ∧ (SA w0 u)) ∨ (0 ≤ r.toInt ∧ r.toInt ≤ 1073741824 ∧ 0 ≤ a1.toInt ∧ a1.toInt ≤ 3 ∧ 0 ≤ a2.toInt ∧ a2.toInt ≤ 400 ∧ 0 ≤ a3.toInt ∧ a3.toInt ≤ 1 ∧ (SA w0 u)) ∨ (r = (-1) ∧ (SA w0 u)))
set_option maxHeartbeats 4000000 in
set_option maxRecDepth 100000 in
theorem k_X12_comes_1 (l : Launch) (adK adV : Nat → Nat) (dC : Nat → ClassId) (dI : Nat → Nat → Nat) (cy : Nat → ClassId) (ad : Nat → Nat) (B : Int) (hB0 : 100000 ≤ B) (hB1 : B ≤ 1073738224) (qr : Nat) (s1 : Int)  (a1 : Int32) (a2 : Int32) (a3 : Int32) (w0 : va_W) (sz : Nat) (hT : TW ksM ad cy B qr 12 w0) (hRW : RW w0) : Met l yX12_comes (wu yX12_comes cX12_comes 7 (some .int)) ({ frames := 9, cells := 0, slots := 0, locals := 194 }) (va_Pc [.ref (ad 0), .int a1, .int a2, .int a3] (wpreS adK adV dC dI cy sz w0)) (va_Qi (P_X12_comes_1 ad cy B qr s1 a1 a2 a3 w0) (fun u : va_W => wpost dC dI cy (va_A w0 sz) u) (va_A w0 sz)) 0 0 (va_A w0 sz) := by
  refine Met.ofW (cc := cX12_comes) (maxL := 7) (ret := (some .int)) (by decide) rfl ?_
  intro p e s m args below meth c s₁ Bk hml hv
  obtain ⟨rfl, ⟨hsz, hP, hK, hD0⟩, hE, hSR⟩ := hv
  have hx := Bk.exec
  have hb := Bk.bytes
  have hr := Bk.returns
  have hlocks := Bk.notSynchronized
  have hC : CallFix p m c cX12_comes 7 s _ (wu yX12_comes cX12_comes 7 (some .int)) RX12 := ⟨hx, hb, hml, findClass_of_methodNamed Bk.named, atoms_spec (ws := (wu yX12_comes cX12_comes 7 (some .int))) Bk.pre⟩
  subst hsz
  have hD := hD0.self (sz := s.heap.size)
  generalize hAe : va_A w0 s.heap.size = A at hD hE ⊢
  have hA : ∀ q : Nat, s.heap.size ≤ q → A q := fun q h => by rw [← hAe]; exact Or.inr h
  have hw : Wd dC dI A s.heap s.heap [] w0 := ⟨hP, hD, va_S.rf⟩
  have hF : FE ksM [(12, 24, 24), (12, 31, 31), (69, 0, 64), (70, 0, 10), (71, 0, 295), (71, 216, 243), (71, 220, 247), (71, 221, 248), (71, 222, 249), (71, 223, 250), (71, 224, 251), (72, 0, 12), (73, 0, 10), (74, 0, 296)] w0 w0 := FE.rf
  have hSA : SA w0 w0 := fun _ _ => rfl
  have hl := lv_entry ([.ref (ad 0), .int a1, .int a2, .int a3]) (n := 7) (Nat.le_of_ble_eq_true rfl)
  rw [lg_entry_eq]
  generalize (lg_sl ([.ref (ad 0), .int a1, .int a2, .int a3]) ++ List.replicate (7 - (lg_sl ([.ref (ad 0), .int a1, .int a2, .int a3])).length) Slot.unset).toArray = ls at hl ⊢
  have hl : lv_has ls 7 [(0, .ref (ad 0)), (1, .int a1), (2, .int a2), (3, .int a3)] := hl
  generalize hloc : ([] : List Loc) = locs at hw ⊢
  have J32 : ∀ (H : Heap) (locs : List Loc) (ls : Array Slot) (w1 : va_W), Wd dC dI A s.heap H locs w1 → TW ksM ad cy B qr 12 w1 → FE ksM [(12, 24, 24), (12, 31, 31), (69, 0, 64), (70, 0, 10), (71, 0, 295), (71, 216, 243), (71, 220, 247), (71, 221, 248), (71, 222, 249), (71, 223, 250), (71, 224, 251), (72, 0, 12), (73, 0, 10), (74, 0, 296)] w0 w1 → RW w1 → SA w0 w1 → lv_has ls 7 [(0, .ref (ad 0)), (1, .int a1), (2, .int a2), (3, .int a3)] → W p l e ({ frames := 9, cells := 0, slots := 0, locals := 194 }) s m (List.toArray [.ref (ad 0), .int a1, .int a2, .int a3]) below meth c H locs 0 0 (MQ below (va_Qi (P_X12_comes_1 ad cy B qr s1 a1 a2 a3 w0) (fun u : va_W => wpost dC dI cy A u) A) (List.toArray [.ref (ad 0), .int a1, .int a2, .int a3]) s 0 0 A) (F0 m 32 ls []) := by
    intro H locs ls w1 hw hT hF hRW hSA hl
    refine lv_iconst (v := (-1)) hx hb dX12_comes_32 (by decide) ?_
    exact tk_iret hC hr hlocks hK ⟨(hT.up (show B ≤ (B + 3600) by omega)), hF, (Or.inr (Or.inr (Or.inr ⟨rfl, (by exact hSA)⟩)))⟩ hw dX12_comes_33
  have J76 : ∀ (v76_4 : Int32) (v76_5 : Int32) (f76_12_5 : Int32) (H : Heap) (locs : List Loc) (ls : Array Slot) (w2 : va_W), 0 ≤ a1.toInt → a1.toInt ≤ 3 → 0 ≤ a2.toInt → a2.toInt ≤ 400 → 0 ≤ a3.toInt → a3.toInt ≤ 2 → 0 ≤ v76_4.toInt → v76_4.toInt ≤ 400 → 1 ≤ f76_12_5.toInt → f76_12_5.toInt ≤ 4 → Wd dC dI A s.heap H locs w2 → TW ksM ad cy (B + 3600) qr 12 w2 → FE ksM [(12, 24, 24), (12, 31, 31), (69, 0, 64), (70, 0, 10), (71, 0, 295), (71, 216, 243), (71, 220, 247), (71, 221, 248), (71, 222, 249), (71, 223, 250), (71, 224, 251), (72, 0, 12), (73, 0, 10), (74, 0, 296)] w0 w2 → RW w2 → KBk w0 w2 → gi w2 12 5 = f76_12_5 → lv_has ls 7 [(0, .ref (ad 0)), (1, .int a1), (2, .int a2), (3, .int a3), (4, .int v76_4), (5, .int v76_5)] → W p l e ({ frames := 9, cells := 0, slots := 0, locals := 194 }) s m (List.toArray [.ref (ad 0), .int a1, .int a2, .int a3]) below meth c H locs 0 0 (MQ below (va_Qi (P_X12_comes_1 ad cy B qr s1 a1 a2 a3 w0) (fun u : va_W => wpost dC dI cy A u) A) (List.toArray [.ref (ad 0), .int a1, .int a2, .int a3]) s 0 0 A) (F0 m 76 ls []) := by
    intro v76_4 v76_5 f76_12_5 H locs ls w2 r3 t4 r5 t6 r7 t8 r9 t10 r11 t12 hw hT hF hRW hKB c13 hl
    refine lv_iload_n hx hb dX12_comes_76 rfl (lv_at hl 3 rfl) ?_
    refine lv_if_ne (tgt := 102) hx hb dX12_comes_77 (by decide) (fun c14 => ?_) (fun c14 => ?_)
    · have c14 : ¬ a3.toInt = (0 : Int) := wk_eqF c14
      refine lv_iload_n hx hb dX12_comes_102 rfl (lv_at hl 3 rfl) ?_
      refine lv_iconst (v := 1) hx hb dX12_comes_103 (by decide) ?_
      refine lv_icmp_ne (tgt := 112) hx hb dX12_comes_104 (by decide) (fun c15 => ?_) (fun c15 => ?_)
      · have c15 : ¬ a3.toInt = (1 : Int) := wk_eqF c15
        refine lv_aload_n hx hb dX12_comes_112 rfl (lv_at hl 0 rfl) ?_
        refine lv_iload_n hx hb dX12_comes_113 rfl (lv_at hl 1 rfl) ?_
        refine lv_bipush (v := 6) hx hb dX12_comes_114 (by decide) ?_
        refine tk_Vi hC hK hw hT hA hE hSR kM_at0 (by decide) rfl (k_X12_walkerOf_8 l adK adV dC dI cy ad (B + 3600) (by omega) (by omega) qr s1   a1 (show 0 ≤ a1.toInt from r3) (show a1.toInt ≤ 3 from t4) w2 H.size hT ) (cwV 2 hC.2.2.2.2 uV_RX12_372 rfl rfl rfl (by decide +kernel) ⟨Nat.le_of_ble_eq_true rfl, Nat.le_of_ble_eq_true rfl⟩) rfl hl.1 rfl (Nat.le_of_ble_eq_true rfl) dX12_comes_116 (fun r16 w18 H locs hp17 hw => ?_)
        obtain ⟨rfl, hg21⟩ := hp17
        have c20 := hg21
        refine lv_iload hx hb dX12_comes_119 (lv_at hl 5 rfl) ?_
        refine lv_isub hx hb dX12_comes_121 ?_
        have nx22 := wk_i32 r16
        have nx23 := wk_i32 v76_5
        refine lv_topi (fun x24 ex24 => ?_)
        refine lv_istore (lv' := [(6, .int x24), (0, .ref (ad 0)), (1, .int a1), (2, .int a2), (3, .int a3), (4, .int v76_4), (5, .int v76_5)]) hx hb dX12_comes_122 hl (by decide) rfl (fun ls hl => ?_)
        refine lv_aload_n hx hb dX12_comes_124 rfl (lv_at hl 1 rfl) ?_
        refine tk_Vv hC hK hw hT hA hE hSR kM_at0 (by decide) rfl (k_X12_putsBack_1 l adK adV dC dI cy ad (B + 3600) (by omega) (by omega) qr s1    w2 H.size hT ) (cwV 0 hC.2.2.2.2 uV_RX12_429 rfl rfl rfl (by decide +kernel) ⟨Nat.le_of_ble_eq_true rfl, Nat.le_of_ble_eq_true rfl⟩) rfl hl.1 rfl (Nat.le_of_ble_eq_true rfl) dX12_comes_125 (fun w27 H locs hp26 hw => ?_)
        obtain ⟨hT, k28, hg33⟩ := hp26
        have hKB := KB_FE k28 (fun _ => rfl) hKB
        have hRW := RW_FE k28 (fun _ => rfl) (fun _ => rfl) (fun _ => rfl) hRW
        have hF := hF.tr k28 (by decide)
        obtain ⟨c29, c30, c31, hq32⟩ := hg33
        have hSA : SA w0 w27 := fun j hj => (hq32 j hj).trans ((k28.gi kM_at15 rfl rfl).symm.trans (hKB j hj))
        refine lv_iload hx hb dX12_comes_128 (lv_at hl 0 rfl) ?_
        exact tk_iret hC hr hlocks hK ⟨hT, hF, (Or.inl ⟨(show 0 ≤ a1.toInt from r3), (show a1.toInt ≤ 3 from t4), (show 0 ≤ a2.toInt from r5), (show a2.toInt ≤ 400 from t6), (show 2 ≤ a3.toInt by first | with_reducible assumption | omega), (show a3.toInt ≤ 2 from t8), (by exact hSA)⟩)⟩ hw dX12_comes_130
      · have c15 : a3.toInt = (1 : Int) := wk_eq.mp c15
        refine lv_iload hx hb dX12_comes_107 (lv_at hl 4 rfl) ?_
        refine lv_goto (tgt := 122) hx hb dX12_comes_109 (by decide) ?_
        refine lv_istore (lv' := [(6, .int v76_4), (0, .ref (ad 0)), (1, .int a1), (2, .int a2), (3, .int a3), (4, .int v76_4), (5, .int v76_5)]) hx hb dX12_comes_122 hl (by decide) rfl (fun ls hl => ?_)
        refine lv_aload_n hx hb dX12_comes_124 rfl (lv_at hl 1 rfl) ?_
        refine tk_Vv hC hK hw hT hA hE hSR kM_at0 (by decide) rfl (k_X12_putsBack_1 l adK adV dC dI cy ad (B + 3600) (by omega) (by omega) qr s1    w2 H.size hT ) (cwV 0 hC.2.2.2.2 uV_RX12_429 rfl rfl rfl (by decide +kernel) ⟨Nat.le_of_ble_eq_true rfl, Nat.le_of_ble_eq_true rfl⟩) rfl hl.1 rfl (Nat.le_of_ble_eq_true rfl) dX12_comes_125 (fun w36 H locs hp35 hw => ?_)
        obtain ⟨hT, k37, hg42⟩ := hp35
        have hKB := KB_FE k37 (fun _ => rfl) hKB
        have hRW := RW_FE k37 (fun _ => rfl) (fun _ => rfl) (fun _ => rfl) hRW
        have hF := hF.tr k37 (by decide)
        obtain ⟨c38, c39, c40, hq41⟩ := hg42
        have hSA : SA w0 w36 := fun j hj => (hq41 j hj).trans ((k37.gi kM_at15 rfl rfl).symm.trans (hKB j hj))
        refine lv_iload hx hb dX12_comes_128 (lv_at hl 0 rfl) ?_
        exact tk_iret hC hr hlocks hK ⟨hT, hF, (Or.inr (Or.inr (Or.inl ⟨(show 0 ≤ v76_4.toInt from r9), (show v76_4.toInt ≤ 1073741824 from Int.le_trans t10 (by decide)), (show 0 ≤ a1.toInt from r3), (show a1.toInt ≤ 3 from t4), (show 0 ≤ a2.toInt from r5), (show a2.toInt ≤ 400 from t6), (show 0 ≤ a3.toInt from r7), (show a3.toInt ≤ 1 by first | with_reducible assumption | omega), (by exact hSA)⟩)))⟩ hw dX12_comes_130
    · have c14 : a3.toInt = (0 : Int) := wk_eq.mp c14
      refine lv_aload_n hx hb dX12_comes_80 rfl (lv_at hl 0 rfl) ?_
      refine lv_iload_n hx hb dX12_comes_81 rfl (lv_at hl 1 rfl) ?_
      refine tk_Vi hC hK hw hT hA hE hSR kM_at0 (by decide) rfl (k_X12_isThere_1 l adK adV dC dI cy ad (B + 3600) (by omega) (by omega) qr s1   a1 (show 0 ≤ a1.toInt from r3) (show a1.toInt ≤ 3 from t4) w2 H.size hT ) (cwV 1 hC.2.2.2.2 uV_RX12_416 rfl rfl rfl (by decide +kernel) ⟨Nat.le_of_ble_eq_true rfl, Nat.le_of_ble_eq_true rfl⟩) rfl hl.1 rfl (Nat.le_of_ble_eq_true rfl) dX12_comes_82 (fun r43 w45 H locs hp44 hw => ?_)
      obtain ⟨rfl, hg47⟩ := hp44
      rcases hg47 with rfl | rfl
      · refine lv_if_eq (tgt := 97) hx hb dX12_comes_85 (by decide) (fun _ => ?_) (fun c => absurd (by decide) c)
        refine lv_bipush (v := (-2)) hx hb dX12_comes_97 (by decide) ?_
        refine lv_goto (tgt := 122) hx hb dX12_comes_99 (by decide) ?_
        refine lv_istore (lv' := [(6, .int (-2)), (0, .ref (ad 0)), (1, .int a1), (2, .int a2), (3, .int a3), (4, .int v76_4), (5, .int v76_5)]) hx hb dX12_comes_122 hl (by decide) rfl (fun ls hl => ?_)
        refine lv_aload_n hx hb dX12_comes_124 rfl (lv_at hl 1 rfl) ?_
        refine tk_Vv hC hK hw hT hA hE hSR kM_at0 (by decide) rfl (k_X12_putsBack_1 l adK adV dC dI cy ad (B + 3600) (by omega) (by omega) qr s1    w2 H.size hT ) (cwV 0 hC.2.2.2.2 uV_RX12_429 rfl rfl rfl (by decide +kernel) ⟨Nat.le_of_ble_eq_true rfl, Nat.le_of_ble_eq_true rfl⟩) rfl hl.1 rfl (Nat.le_of_ble_eq_true rfl) dX12_comes_125 (fun w50 H locs hp49 hw => ?_)
        obtain ⟨hT, k51, hg56⟩ := hp49
        have hKB := KB_FE k51 (fun _ => rfl) hKB
        have hRW := RW_FE k51 (fun _ => rfl) (fun _ => rfl) (fun _ => rfl) hRW
        have hF := hF.tr k51 (by decide)
        obtain ⟨c52, c53, c54, hq55⟩ := hg56
        have hSA : SA w0 w50 := fun j hj => (hq55 j hj).trans ((k51.gi kM_at15 rfl rfl).symm.trans (hKB j hj))
        refine lv_iload hx hb dX12_comes_128 (lv_at hl 0 rfl) ?_
        exact tk_iret hC hr hlocks hK ⟨hT, hF, (Or.inr (Or.inl ⟨rfl, (show 0 ≤ a1.toInt from r3), (show a1.toInt ≤ 3 from t4), (show 0 ≤ a2.toInt from r5), (show a2.toInt ≤ 400 from t6), (show 0 ≤ a3.toInt from r7), (show a3.toInt ≤ 0 by first | with_reducible assumption | omega), (by exact hSA)⟩))⟩ hw dX12_comes_130
      · refine lv_if_eq (tgt := 97) hx hb dX12_comes_85 (by decide) (fun c => absurd c (by decide)) (fun _ => ?_)
        refine lv_aload_n hx hb dX12_comes_88 rfl (lv_at hl 0 rfl) ?_
        refine lv_iload_n hx hb dX12_comes_89 rfl (lv_at hl 1 rfl) ?_
        refine lv_iconst (v := 4) hx hb dX12_comes_90 (by decide) ?_
        refine tk_Vi hC hK hw hT hA hE hSR kM_at0 (by decide) rfl (k_X12_walkerOf_4 l adK adV dC dI cy ad (B + 3600) (by omega) (by omega) qr s1   a1 (show 0 ≤ a1.toInt from r3) (show a1.toInt ≤ 3 from t4) w2 H.size hT ) (cwV 2 hC.2.2.2.2 uV_RX12_372 rfl rfl rfl (by decide +kernel) ⟨Nat.le_of_ble_eq_true rfl, Nat.le_of_ble_eq_true rfl⟩) rfl hl.1 rfl (Nat.le_of_ble_eq_true rfl) dX12_comes_91 (fun r57 w59 H locs hp58 hw => ?_)
        obtain ⟨rfl, hg64⟩ := hp58
        obtain ⟨g61, g62, c63⟩ := hg64
        refine lv_goto (tgt := 122) hx hb dX12_comes_94 (by decide) ?_
        refine lv_istore (lv' := [(6, .int r57), (0, .ref (ad 0)), (1, .int a1), (2, .int a2), (3, .int a3), (4, .int v76_4), (5, .int v76_5)]) hx hb dX12_comes_122 hl (by decide) rfl (fun ls hl => ?_)
        refine lv_aload_n hx hb dX12_comes_124 rfl (lv_at hl 1 rfl) ?_
        refine tk_Vv hC hK hw hT hA hE hSR kM_at0 (by decide) rfl (k_X12_putsBack_1 l adK adV dC dI cy ad (B + 3600) (by omega) (by omega) qr s1    w2 H.size hT ) (cwV 0 hC.2.2.2.2 uV_RX12_429 rfl rfl rfl (by decide +kernel) ⟨Nat.le_of_ble_eq_true rfl, Nat.le_of_ble_eq_true rfl⟩) rfl hl.1 rfl (Nat.le_of_ble_eq_true rfl) dX12_comes_125 (fun w67 H locs hp66 hw => ?_)
        obtain ⟨hT, k68, hg73⟩ := hp66
        have hKB := KB_FE k68 (fun _ => rfl) hKB
        have hRW := RW_FE k68 (fun _ => rfl) (fun _ => rfl) (fun _ => rfl) hRW
        have hF := hF.tr k68 (by decide)
        obtain ⟨c69, c70, c71, hq72⟩ := hg73
        have hSA : SA w0 w67 := fun j hj => (hq72 j hj).trans ((k68.gi kM_at15 rfl rfl).symm.trans (hKB j hj))
        refine lv_iload hx hb dX12_comes_128 (lv_at hl 0 rfl) ?_
        exact tk_iret hC hr hlocks hK ⟨hT, hF, (Or.inr (Or.inr (Or.inl ⟨(show 0 ≤ r57.toInt by first | with_reducible assumption | omega), (show r57.toInt ≤ 1073741824 by first | with_reducible assumption | omega), (show 0 ≤ a1.toInt from r3), (show a1.toInt ≤ 3 from t4), (show 0 ≤ a2.toInt from r5), (show a2.toInt ≤ 400 from t6), (show 0 ≤ a3.toInt from r7), (show a3.toInt ≤ 1 by first | with_reducible assumption | omega), (by exact hSA)⟩)))⟩ hw dX12_comes_130
  have L50 : ∀ (n50 : Nat) (v50_4 : Int32) (v50_5 : Int32) (f50_12_5 : Int32) (H : Heap) (locs : List Loc) (ls : Array Slot) (w74 : va_W), 0 ≤ a1.toInt → a1.toInt ≤ 3 → 0 ≤ a2.toInt → a2.toInt ≤ 400 → 0 ≤ a3.toInt → a3.toInt ≤ 2 → 0 ≤ v50_4.toInt → v50_4.toInt ≤ 400 → 1 ≤ f50_12_5.toInt → f50_12_5.toInt ≤ 4 → (400 - v50_4.toInt).toNat < n50 → Wd dC dI A s.heap H locs w74 → TW ksM ad cy (B + 0 + 9 * v50_4.toInt) qr 12 w74 → FE ksM [(12, 24, 24), (12, 31, 31), (69, 0, 64), (70, 0, 10), (71, 0, 295), (71, 216, 243), (71, 220, 247), (71, 221, 248), (71, 222, 249), (71, 223, 250), (71, 224, 251), (72, 0, 12), (73, 0, 10), (74, 0, 296)] w0 w74 → RW w74 → KBk w0 w74 → gi w74 12 5 = f50_12_5 → lv_has ls 7 [(0, .ref (ad 0)), (1, .int a1), (2, .int a2), (3, .int a3), (4, .int v50_4), (5, .int v50_5)] → W p l e ({ frames := 9, cells := 0, slots := 0, locals := 194 }) s m (List.toArray [.ref (ad 0), .int a1, .int a2, .int a3]) below meth c H locs 0 0 (MQ below (va_Qi (P_X12_comes_1 ad cy B qr s1 a1 a2 a3 w0) (fun u : va_W => wpost dC dI cy A u) A) (List.toArray [.ref (ad 0), .int a1, .int a2, .int a3]) s 0 0 A) (F0 m 50 ls []) := by
    intro n50
    induction n50 with
    | zero => intro v50_4 v50_5 f50_12_5 H locs ls w74 r75 t76 r77 t78 r79 t80 r81 t82 r83 t84 hm50 hw hT hF hRW hKB c85 hl; omega
    | succ n50 ih50 =>
      intro v50_4 v50_5 f50_12_5 H locs ls w74 r75 t76 r77 t78 r79 t80 r81 t82 r83 t84 hm50 hw hT hF hRW hKB c85 hl
      refine lv_iload hx hb dX12_comes_50 (lv_at hl 4 rfl) ?_
      refine lv_iload_n hx hb dX12_comes_52 rfl (lv_at hl 2 rfl) ?_
      refine lv_icmp_ge (tgt := 76) hx hb dX12_comes_53 (by decide) (fun c86 => ?_) (fun c86 => ?_)
      · have c86 : a2.toInt ≤ v50_4.toInt := wk_le.mp c86
        exact J76 v50_4 v50_5 f50_12_5 H locs ls w74 (show 0 ≤ a1.toInt from r75) (show a1.toInt ≤ 3 from t76) (show 0 ≤ a2.toInt from r77) (show a2.toInt ≤ 400 from t78) (show 0 ≤ a3.toInt from r79) (show a3.toInt ≤ 2 from t80) (show 0 ≤ v50_4.toInt from r81) (show v50_4.toInt ≤ 400 from t82) (show 1 ≤ f50_12_5.toInt from r83) (show f50_12_5.toInt ≤ 4 from t84)  hw (hT.up (show (B + 0 + 9 * v50_4.toInt) ≤ (B + 3600) by omega)) hF hRW hKB c85 (lv_sub hl [0, 1, 2, 3, 4, 5] rfl)
      · have c86 : v50_4.toInt < a2.toInt := wk_leF c86
        refine lv_aload_n hx hb dX12_comes_56 rfl (lv_at hl 0 rfl) ?_
        refine lv_iload_n hx hb dX12_comes_57 rfl (lv_at hl 1 rfl) ?_
        refine tk_Vi hC hK hw hT hA hE hSR kM_at0 (by decide) rfl (k_X12_isThere_1 l adK adV dC dI cy ad (B + 0 + 9 * v50_4.toInt) (by omega) (by omega) qr s1   a1 (show 0 ≤ a1.toInt from r75) (show a1.toInt ≤ 3 from t76) w74 H.size hT ) (cwV 1 hC.2.2.2.2 uV_RX12_416 rfl rfl rfl (by decide +kernel) ⟨Nat.le_of_ble_eq_true rfl, Nat.le_of_ble_eq_true rfl⟩) rfl hl.1 rfl (Nat.le_of_ble_eq_true rfl) dX12_comes_58 (fun r87 w89 H locs hp88 hw => ?_)
        obtain ⟨rfl, hg91⟩ := hp88
        rcases hg91 with rfl | rfl
        · refine lv_if_ne (tgt := 76) hx hb dX12_comes_61 (by decide) (fun c => absurd (by decide) c) (fun _ => ?_)
          refine lv_aload_n hx hb dX12_comes_64 rfl (lv_at hl 0 rfl) ?_
          refine lv_iload_n hx hb dX12_comes_65 rfl (lv_at hl 1 rfl) ?_
          refine tk_Vi hC hK hw hT hA hE hSR kM_at0 (by decide) rfl (k_X12_steps_1 l adK adV dC dI cy ad (B + 0 + 9 * v50_4.toInt) (by omega) (by omega) qr s1   a1 (show 0 ≤ a1.toInt from r75) (show a1.toInt ≤ 3 from t76) w74 H.size hT hRW) (cwV 1 hC.2.2.2.2 uV_RX12_419 rfl rfl rfl (by decide +kernel) ⟨Nat.le_of_ble_eq_true rfl, Nat.le_of_ble_eq_true rfl⟩) rfl hl.1 rfl (Nat.le_of_ble_eq_true rfl) dX12_comes_66 (fun r92 w94 H locs hp93 hw => ?_)
          obtain ⟨hT, k95, hg96⟩ := hp93
          have hT := hT.up (B' := (B + 9 + 9 * v50_4.toInt)) (by omega)
          have hKB := KB_FE k95 (fun _ => rfl) hKB
          have hRW := RW_FE k95 (fun _ => rfl) (fun _ => rfl) (fun _ => rfl) hRW
          have hF := hF.tr k95 (by decide)
          have c97 := k95.gi kM_at12 (by decide) c85
          rcases hg96 with rfl | rfl
          · refine lv_pop hx hb dX12_comes_69 rfl ?_
            obtain ⟨x98, ex98⟩ : ∃ y : Int32, y = v50_4 + Int32.ofInt 1 := ⟨_, rfl⟩
            refine lv_iinc (v := x98) (lv' := [(4, .int x98), (0, .ref (ad 0)), (1, .int a1), (2, .int a2), (3, .int a3), (5, .int v50_5)]) hx hb dX12_comes_70 hl (k := 4) rfl ex98.symm (by decide) rfl (fun ls hl => ?_)
            have ex98 : x98.toInt = v50_4.toInt + 1 := by rw [ex98]; exact wk_add (y := 1) (show -2147483648 ≤ v50_4.toInt + 1 by omega) (show v50_4.toInt + 1 ≤ 2147483647 by omega)
            refine lv_goto (tgt := 50) hx hb dX12_comes_73 (by decide) ?_
            exact ih50 x98 v50_5 f50_12_5 H locs ls w94 (show 0 ≤ a1.toInt from r75) (show a1.toInt ≤ 3 from t76) (show 0 ≤ a2.toInt from r77) (show a2.toInt ≤ 400 from t78) (show 0 ≤ a3.toInt from r79) (show a3.toInt ≤ 2 from t80) (show 0 ≤ x98.toInt by first | with_reducible assumption | omega) (show x98.toInt ≤ 400 by first | with_reducible assumption | omega) (show 1 ≤ f50_12_5.toInt from r83) (show f50_12_5.toInt ≤ 4 from t84) (show (400 - x98.toInt).toNat < n50 by first | exact tn_lt hm50 (by omega) (by omega) | omega) hw (hT.up (show (B + 9 + 9 * v50_4.toInt) ≤ (B + 0 + 9 * x98.toInt) by omega)) hF hRW hKB c97 (lv_sub hl [1, 2, 3, 4, 0, 5] rfl)
          · refine lv_pop hx hb dX12_comes_69 rfl ?_
            obtain ⟨x99, ex99⟩ : ∃ y : Int32, y = v50_4 + Int32.ofInt 1 := ⟨_, rfl⟩
            refine lv_iinc (v := x99) (lv' := [(4, .int x99), (0, .ref (ad 0)), (1, .int a1), (2, .int a2), (3, .int a3), (5, .int v50_5)]) hx hb dX12_comes_70 hl (k := 4) rfl ex99.symm (by decide) rfl (fun ls hl => ?_)
            have ex99 : x99.toInt = v50_4.toInt + 1 := by rw [ex99]; exact wk_add (y := 1) (show -2147483648 ≤ v50_4.toInt + 1 by omega) (show v50_4.toInt + 1 ≤ 2147483647 by omega)
            refine lv_goto (tgt := 50) hx hb dX12_comes_73 (by decide) ?_
            exact ih50 x99 v50_5 f50_12_5 H locs ls w94 (show 0 ≤ a1.toInt from r75) (show a1.toInt ≤ 3 from t76) (show 0 ≤ a2.toInt from r77) (show a2.toInt ≤ 400 from t78) (show 0 ≤ a3.toInt from r79) (show a3.toInt ≤ 2 from t80) (show 0 ≤ x99.toInt by first | with_reducible assumption | omega) (show x99.toInt ≤ 400 by first | with_reducible assumption | omega) (show 1 ≤ f50_12_5.toInt from r83) (show f50_12_5.toInt ≤ 4 from t84) (show (400 - x99.toInt).toNat < n50 by first | exact tn_lt hm50 (by omega) (by omega) | omega) hw (hT.up (show (B + 9 + 9 * v50_4.toInt) ≤ (B + 0 + 9 * x99.toInt) by omega)) hF hRW hKB c97 (lv_sub hl [1, 2, 3, 4, 0, 5] rfl)
        · refine lv_if_ne (tgt := 76) hx hb dX12_comes_61 (by decide) (fun _ => ?_) (fun c => absurd c (by decide))
          exact J76 v50_4 v50_5 f50_12_5 H locs ls w74 (show 0 ≤ a1.toInt from r75) (show a1.toInt ≤ 3 from t76) (show 0 ≤ a2.toInt from r77) (show a2.toInt ≤ 400 from t78) (show 0 ≤ a3.toInt from r79) (show a3.toInt ≤ 2 from t80) (show 0 ≤ v50_4.toInt from r81) (show v50_4.toInt ≤ 400 from t82) (show 1 ≤ f50_12_5.toInt from r83) (show f50_12_5.toInt ≤ 4 from t84)  hw (hT.up (show (B + 0 + 9 * v50_4.toInt) ≤ (B + 3600) by omega)) hF hRW hKB c85 (lv_sub hl [0, 1, 2, 3, 4, 5] rfl)
  refine lv_aload_n hx hb dX12_comes_0 rfl (lv_at hl 0 rfl) ?_
  refine lv_iload_n hx hb dX12_comes_1 rfl (lv_at hl 1 rfl) ?_
  refine tk_Vi hC hK hw hT hA hE hSR kM_at0 (by decide) rfl (k_X12_isWalker_1 l adK adV dC dI cy ad B hB0 (Int.le_trans hB1 (by decide)) qr s1   a1 w0 s.heap.size hT ) (cwV 1 hC.2.2.2.2 uV_RX12_367 rfl rfl rfl (by decide +kernel) ⟨Nat.le_of_ble_eq_true rfl, Nat.le_of_ble_eq_true rfl⟩) rfl hl.1 rfl (Nat.le_of_ble_eq_true rfl) dX12_comes_2 (fun r100 w102 H locs hp101 hw => ?_)
  obtain ⟨rfl, hg108⟩ := hp101
  rcases hg108 with rfl | ⟨rfl, g104, g105, ⟨x106, c107, rx106, tx106⟩⟩
  · refine lv_if_eq (tgt := 32) hx hb dX12_comes_5 (by decide) (fun _ => ?_) (fun c => absurd (by decide) c)
    exact J32  H locs ls w0   hw hT hF hRW hSA  (lv_sub hl [0, 1, 2, 3] rfl)
  · refine lv_if_eq (tgt := 32) hx hb dX12_comes_5 (by decide) (fun c => absurd c (by decide)) (fun _ => ?_)
    refine lv_iload_n hx hb dX12_comes_8 rfl (lv_at hl 2 rfl) ?_
    refine lv_i2l hx hb dX12_comes_9 rfl ?_
    refine lv_topl (fun x109 ex109 => ?_)
    have ex109 : x109.toInt = a2.toInt := by rw [ex109]; exact wk_i2l _
    have bx109 := wk_i32 a2
    refine lv_lconst (v := 0) hx hb dX12_comes_10 (by decide) ?_
    refine lv_ldc2 (v := 400) hx hb hC.2.2.2.1 (hC.2.2.2.2 _ (List.mem_cons_of_mem _ uw_53_23)) dX12_comes_11 ?_
    refine tk_Si hC hK hw hT hA hE hSR (k_X12_in_16 l adK adV dC dI cy ad B hB0 (Int.le_trans hB1 (by decide)) qr s1   x109 (show (-2147483648) ≤ x109.toInt by first | with_reducible assumption | omega) (show x109.toInt ≤ 2147483647 by first | with_reducible assumption | omega) w0 H.size hT ) (va_cwS 3 hC.2.2.2.2 uS_RX12_122 rfl rfl rfl (by decide +kernel) ⟨Nat.le_of_ble_eq_true rfl, Nat.le_of_ble_eq_true rfl⟩) rfl hl.1 rfl (Nat.le_of_ble_eq_true rfl) dX12_comes_14 (fun r110 w112 H locs hp111 hw => ?_)
    obtain ⟨rfl, hg116⟩ := hp111
    rcases hg116 with rfl | ⟨rfl, g114, g115⟩
    · refine lv_if_eq (tgt := 32) hx hb dX12_comes_17 (by decide) (fun _ => ?_) (fun c => absurd (by decide) c)
      exact J32  H locs ls w0   hw hT hF hRW hSA  (lv_sub hl [0, 1, 2, 3] rfl)
    · refine lv_if_eq (tgt := 32) hx hb dX12_comes_17 (by decide) (fun c => absurd c (by decide)) (fun _ => ?_)
      refine lv_iload_n hx hb dX12_comes_20 rfl (lv_at hl 3 rfl) ?_
      refine lv_i2l hx hb dX12_comes_21 rfl ?_
      refine lv_topl (fun x117 ex117 => ?_)
      have ex117 : x117.toInt = a3.toInt := by rw [ex117]; exact wk_i2l _
      have bx117 := wk_i32 a3
      refine lv_lconst (v := 0) hx hb dX12_comes_22 (by decide) ?_
      refine lv_ldc2 (v := 2) hx hb hC.2.2.2.1 (hC.2.2.2.2 _ (List.mem_cons_of_mem _ uw_54_0)) dX12_comes_23 ?_
      refine tk_Si hC hK hw hT hA hE hSR (k_X12_in_15 l adK adV dC dI cy ad B hB0 (Int.le_trans hB1 (by decide)) qr s1   x117 (show (-2147483648) ≤ x117.toInt by first | with_reducible assumption | omega) (show x117.toInt ≤ 2147483647 by first | with_reducible assumption | omega) w0 H.size hT ) (va_cwS 3 hC.2.2.2.2 uS_RX12_122 rfl rfl rfl (by decide +kernel) ⟨Nat.le_of_ble_eq_true rfl, Nat.le_of_ble_eq_true rfl⟩) rfl hl.1 rfl (Nat.le_of_ble_eq_true rfl) dX12_comes_26 (fun r118 w120 H locs hp119 hw => ?_)
      obtain ⟨rfl, hg124⟩ := hp119
      rcases hg124 with rfl | ⟨rfl, g122, g123⟩
      · refine lv_if_ne (tgt := 34) hx hb dX12_comes_29 (by decide) (fun c => absurd (by decide) c) (fun _ => ?_)
        exact J32  H locs ls w0   hw hT hF hRW hSA  (lv_sub hl [0, 1, 2, 3] rfl)
      · refine lv_if_ne (tgt := 34) hx hb dX12_comes_29 (by decide) (fun _ => ?_) (fun c => absurd c (by decide))
        refine lv_aload_n hx hb dX12_comes_34 rfl (lv_at hl 0 rfl) ?_
        refine tk_Vv hC hK hw hT hA hE hSR kM_at0 (by decide) rfl (k_X12_keeps_1 l adK adV dC dI cy ad B hB0 (Int.le_trans hB1 (by decide)) qr s1    w0 H.size hT ) (cwV 0 hC.2.2.2.2 uV_RX12_426 rfl rfl rfl (by decide +kernel) ⟨Nat.le_of_ble_eq_true rfl, Nat.le_of_ble_eq_true rfl⟩) rfl hl.1 rfl (Nat.le_of_ble_eq_true rfl) dX12_comes_35 (fun w127 H locs hp126 hw => ?_)
        obtain ⟨hT, k128, hg133⟩ := hp126
        have hSA := SA_FE k128 (fun _ => rfl) hSA
        have hRW := RW_FE k128 (fun _ => rfl) (fun _ => rfl) (fun _ => rfl) hRW
        have hF := hF.tr k128 (by decide)
        have c134 := k128.gi kM_at12 (by decide) c107
        obtain ⟨c129, c130, c131, hq132⟩ := hg133
        have hKB : KBk w0 w127 := fun j hj => (hq132 j hj).trans ((k128.gi kM_at12 rfl rfl).symm.trans (hSA j hj))
        refine lv_iconst (v := 0) hx hb dX12_comes_38 (by decide) ?_
        refine lv_istore (lv' := [(4, .int 0), (0, .ref (ad 0)), (1, .int a1), (2, .int a2), (3, .int a3)]) hx hb dX12_comes_39 hl (by decide) rfl (fun ls hl => ?_)
        refine lv_aload_n hx hb dX12_comes_41 rfl (lv_at hl 1 rfl) ?_
        refine lv_iload_n hx hb dX12_comes_42 rfl (lv_at hl 2 rfl) ?_
        refine lv_bipush (v := 6) hx hb dX12_comes_43 (by decide) ?_
        refine tk_Vi hC hK hw hT hA hE hSR kM_at0 (by decide) rfl (k_X12_walkerOf_8 l adK adV dC dI cy ad B hB0 (Int.le_trans hB1 (by decide)) qr s1   a1 (show 0 ≤ a1.toInt by first | with_reducible assumption | omega) (show a1.toInt ≤ 3 by first | with_reducible assumption | omega) w127 H.size hT ) (cwV 2 hC.2.2.2.2 uV_RX12_372 rfl rfl rfl (by decide +kernel) ⟨Nat.le_of_ble_eq_true rfl, Nat.le_of_ble_eq_true rfl⟩) rfl hl.1 rfl (Nat.le_of_ble_eq_true rfl) dX12_comes_45 (fun r135 w137 H locs hp136 hw => ?_)
        obtain ⟨rfl, hg140⟩ := hp136
        have c139 := hg140
        refine lv_istore (lv' := [(5, .int r135), (4, .int 0), (0, .ref (ad 0)), (1, .int a1), (2, .int a2), (3, .int a3)]) hx hb dX12_comes_48 hl (by decide) rfl (fun ls hl => ?_)
        exact L50 ((400 - (0 : Int)).toNat + 1) 0 r135 x106 H locs ls w127 (show 0 ≤ a1.toInt by first | with_reducible assumption | omega) (show a1.toInt ≤ 3 by first | with_reducible assumption | omega) (show 0 ≤ a2.toInt by first | with_reducible assumption | omega) (show a2.toInt ≤ 400 by first | with_reducible assumption | omega) (show 0 ≤ a3.toInt by first | with_reducible assumption | omega) (show a3.toInt ≤ 2 by first | with_reducible assumption | omega) (by decide) (by decide) (show 1 ≤ x106.toInt by first | with_reducible assumption | omega) (show x106.toInt ≤ 4 by first | with_reducible assumption | omega) (Nat.lt_succ_self _) hw (hT.up (show B ≤ (B + 0 + 9 * (0 : Int32).toInt) by rw [show (0 : Int32).toInt = 0 by decide]; omega)) hF hRW hKB c134 (lv_sub hl [2, 3, 4, 5, 1, 0] rfl)
