abbrev P_X12_mostAlike_2 (ad : Nat → Nat) (cy : Nat → ClassId) (B : Int) (qr : Nat) (s1 : Int) (a1 : Int32) (a2 : Int32) (w0 : va_W) : Int32 → va_W → Prop := fun r u => TW ksM ad cy B qr 12 u ∧ FE ksM ([] : List (Nat × Nat × Nat)) w0 u ∧ ((0 ≤ r.toInt))
set_option maxHeartbeats 4000000 in
set_option maxRecDepth 100000 in
theorem k_X12_mostAlike_2 (l : Launch) (adK adV : Nat → Nat) (dC : Nat → ClassId) (dI : Nat → Nat → Nat) (cy : Nat → ClassId) (ad : Nat → Nat) (B : Int) (hB0 : 100000 ≤ B) (hB1 : B ≤ 1073741824) (qr : Nat) (s1 : Int)  (a1 : Int32) (ra1 : 0 ≤ a1.toInt) (ta1 : a1.toInt ≤ 11) (a2 : Int32) (ra2 : 1 ≤ a2.toInt) (ta2 : a2.toInt ≤ 127) (w0 : va_W) (sz : Nat) (hT : TW ksM ad cy B qr 12 w0)  : Met l yX12_mostAlike wsX12_mostAlike ({ frames := 2, cells := 0, slots := 0, locals := 34 }) (va_Pc [.ref (ad 0), .int a1, .int a2] (wpreS adK adV dC dI cy sz w0)) (va_Qi (P_X12_mostAlike_2 ad cy B qr s1 a1 a2 w0) (fun u : va_W => wpost dC dI cy (va_A w0 sz) u) (va_A w0 sz)) 0 0 (va_A w0 sz) := by
  refine Met.ofW (cc := cX12_mostAlike) (maxL := 7) (ret := (some .int)) (by decide) rfl ?_
  intro p e s m args below meth c s₁ Bk hml hv
  obtain ⟨rfl, ⟨hsz, hP, hK, hD0⟩, hE, hSR⟩ := hv
  have hx := Bk.exec
  have hb := Bk.bytes
  have hr := Bk.returns
  have hlocks := Bk.notSynchronized
  have hC : CallFix p m c cX12_mostAlike 7 s _ wsX12_mostAlike RX12 := ⟨hx, hb, hml, findClass_of_methodNamed Bk.named, atoms_spec (ws := wsX12_mostAlike) Bk.pre⟩
  subst hsz
  have hD := hD0.self (sz := s.heap.size)
  generalize hAe : va_A w0 s.heap.size = A at hD hE ⊢
  have hA : ∀ q : Nat, s.heap.size ≤ q → A q := fun q h => by rw [← hAe]; exact Or.inr h
  have hw : Wd dC dI A s.heap s.heap [] w0 := ⟨hP, hD, va_S.rf⟩
  have hF : FE ksM ([] : List (Nat × Nat × Nat)) w0 w0 := FE.rf
  have hl := lv_entry ([.ref (ad 0), .int a1, .int a2]) (n := 7) (Nat.le_of_ble_eq_true rfl)
  rw [lg_entry_eq]
  generalize (lg_sl ([.ref (ad 0), .int a1, .int a2]) ++ List.replicate (7 - (lg_sl ([.ref (ad 0), .int a1, .int a2])).length) Slot.unset).toArray = ls at hl ⊢
  have hl : lv_has ls 7 [(0, .ref (ad 0)), (1, .int a1), (2, .int a2)] := hl
  generalize hloc : ([] : List Loc) = locs at hw ⊢
  have L5 : ∀ (n5 : Nat) (v5_3 : Int32) (v5_4 : Int32) (H : Heap) (locs : List Loc) (ls : Array Slot) (w1 : va_W), 0 ≤ a1.toInt → a1.toInt ≤ 11 → 1 ≤ a2.toInt → a2.toInt ≤ 127 → 0 ≤ v5_3.toInt → 0 ≤ v5_4.toInt → v5_4.toInt ≤ 4 → (4 - v5_4.toInt).toNat < n5 → Wd dC dI A s.heap H locs w1 → TW ksM ad cy B qr 12 w1 → FE ksM ([] : List (Nat × Nat × Nat)) w0 w1 → lv_has ls 7 [(0, .ref (ad 0)), (1, .int a1), (2, .int a2), (3, .int v5_3), (4, .int v5_4)] → W p l e ({ frames := 2, cells := 0, slots := 0, locals := 34 }) s m (List.toArray [.ref (ad 0), .int a1, .int a2]) below meth c H locs 0 0 (MQ below (va_Qi (P_X12_mostAlike_2 ad cy B qr s1 a1 a2 w0) (fun u : va_W => wpost dC dI cy A u) A) (List.toArray [.ref (ad 0), .int a1, .int a2]) s 0 0 A) (F0 m 5 ls []) := by
    intro n5
    induction n5 with
    | zero => intro v5_3 v5_4 H locs ls w1 r2 t3 r4 t5 r6 r7 t8 hm5 hw hT hF hl; omega
    | succ n5 ih5 =>
      intro v5_3 v5_4 H locs ls w1 r2 t3 r4 t5 r6 r7 t8 hm5 hw hT hF hl
      have L17 : ∀ (n17 : Nat) (v17_5 : Int32) (v17_6 : Int32) (H : Heap) (locs : List Loc) (ls : Array Slot) (w9 : va_W), 0 ≤ a1.toInt → a1.toInt ≤ 11 → 1 ≤ a2.toInt → a2.toInt ≤ 127 → 0 ≤ v5_3.toInt → 0 ≤ v5_4.toInt → v5_4.toInt ≤ 3 → 0 ≤ v17_6.toInt → v17_6.toInt ≤ 7 → (7 - v17_6.toInt).toNat < n17 → Wd dC dI A s.heap H locs w9 → TW ksM ad cy B qr 12 w9 → FE ksM ([] : List (Nat × Nat × Nat)) w0 w9 → lv_has ls 7 [(0, .ref (ad 0)), (1, .int a1), (2, .int a2), (3, .int v5_3), (4, .int v5_4), (5, .int v17_5), (6, .int v17_6)] → W p l e ({ frames := 2, cells := 0, slots := 0, locals := 34 }) s m (List.toArray [.ref (ad 0), .int a1, .int a2]) below meth c H locs 0 0 (MQ below (va_Qi (P_X12_mostAlike_2 ad cy B qr s1 a1 a2 w0) (fun u : va_W => wpost dC dI cy A u) A) (List.toArray [.ref (ad 0), .int a1, .int a2]) s 0 0 A) (F0 m 17 ls []) := by
        intro n17
        induction n17 with
        | zero => intro v17_5 v17_6 H locs ls w9 r10 t11 r12 t13 r14 r15 t16 r17 t18 hm17 hw hT hF hl; omega
        | succ n17 ih17 =>
          intro v17_5 v17_6 H locs ls w9 r10 t11 r12 t13 r14 r15 t16 r17 t18 hm17 hw hT hF hl
          refine lv_iload hx hb dX12_mostAlike_17 (lv_at hl 6 rfl) ?_
          refine lv_bipush (v := 7) hx hb dX12_mostAlike_19 (by decide) ?_
          refine lv_icmp_ge (tgt := 63) hx hb dX12_mostAlike_21 (by decide) (fun c19 => ?_) (fun c19 => ?_)
          · have c19 : (7 : Int) ≤ v17_6.toInt := wk_le.mp c19
            refine lv_iload hx hb dX12_mostAlike_63 (lv_at hl 5 rfl) ?_
            refine lv_iload_n hx hb dX12_mostAlike_65 rfl (lv_at hl 3 rfl) ?_
            refine lv_icmp_le (tgt := 74) hx hb dX12_mostAlike_66 (by decide) (fun c20 => ?_) (fun c20 => ?_)
            · have c20 : v17_5.toInt ≤ v5_3.toInt := wk_le.mp c20
              refine lv_iload_n hx hb dX12_mostAlike_74 rfl (lv_at hl 3 rfl) ?_
              refine lv_istore_n (lv' := [(3, .int v5_3), (0, .ref (ad 0)), (1, .int a1), (2, .int a2), (4, .int v5_4), (5, .int v17_5), (6, .int v17_6)]) hx hb dX12_mostAlike_75 rfl hl (by decide) rfl (fun ls hl => ?_)
              obtain ⟨x21, ex21⟩ : ∃ y : Int32, y = v5_4 + Int32.ofInt 1 := ⟨_, rfl⟩
              refine lv_iinc (v := x21) (lv' := [(4, .int x21), (3, .int v5_3), (0, .ref (ad 0)), (1, .int a1), (2, .int a2), (5, .int v17_5), (6, .int v17_6)]) hx hb dX12_mostAlike_76 hl (k := 4) rfl ex21.symm (by decide) rfl (fun ls hl => ?_)
              have ex21 : x21.toInt = v5_4.toInt + 1 := by rw [ex21]; exact wk_add (y := 1) (show -2147483648 ≤ v5_4.toInt + 1 by omega) (show v5_4.toInt + 1 ≤ 2147483647 by omega)
              refine lv_goto (tgt := 5) hx hb dX12_mostAlike_79 (by decide) ?_
              exact ih5 v5_3 x21 H locs ls w9 (show 0 ≤ a1.toInt by omega) (show a1.toInt ≤ 11 by omega) (show 1 ≤ a2.toInt by omega) (show a2.toInt ≤ 127 by omega) (show 0 ≤ v5_3.toInt by omega) (show 0 ≤ x21.toInt by omega) (show x21.toInt ≤ 4 by omega) (show (4 - x21.toInt).toNat < n5 by omega) hw hT hF  (lv_sub hl [2, 3, 4, 1, 0] rfl)
            · have c20 : v5_3.toInt < v17_5.toInt := wk_leF c20
              refine lv_iload hx hb dX12_mostAlike_69 (lv_at hl 5 rfl) ?_
              refine lv_goto (tgt := 75) hx hb dX12_mostAlike_71 (by decide) ?_
              refine lv_istore_n (lv' := [(3, .int v17_5), (0, .ref (ad 0)), (1, .int a1), (2, .int a2), (4, .int v5_4), (5, .int v17_5), (6, .int v17_6)]) hx hb dX12_mostAlike_75 rfl hl (by decide) rfl (fun ls hl => ?_)
              obtain ⟨x22, ex22⟩ : ∃ y : Int32, y = v5_4 + Int32.ofInt 1 := ⟨_, rfl⟩
              refine lv_iinc (v := x22) (lv' := [(4, .int x22), (3, .int v17_5), (0, .ref (ad 0)), (1, .int a1), (2, .int a2), (5, .int v17_5), (6, .int v17_6)]) hx hb dX12_mostAlike_76 hl (k := 4) rfl ex22.symm (by decide) rfl (fun ls hl => ?_)
              have ex22 : x22.toInt = v5_4.toInt + 1 := by rw [ex22]; exact wk_add (y := 1) (show -2147483648 ≤ v5_4.toInt + 1 by omega) (show v5_4.toInt + 1 ≤ 2147483647 by omega)
              refine lv_goto (tgt := 5) hx hb dX12_mostAlike_79 (by decide) ?_
              exact ih5 v17_5 x22 H locs ls w9 (show 0 ≤ a1.toInt by omega) (show a1.toInt ≤ 11 by omega) (show 1 ≤ a2.toInt by omega) (show a2.toInt ≤ 127 by omega) (show 0 ≤ v17_5.toInt by omega) (show 0 ≤ x22.toInt by omega) (show x22.toInt ≤ 4 by omega) (show (4 - x22.toInt).toNat < n5 by omega) hw hT hF  (lv_sub hl [2, 3, 4, 1, 0] rfl)
          · have c19 : v17_6.toInt < (7 : Int) := wk_leF c19
            refine lv_iload hx hb dX12_mostAlike_24 (lv_at hl 5 rfl) ?_
            refine lv_iload_n hx hb dX12_mostAlike_26 rfl (lv_at hl 2 rfl) ?_
            refine lv_iload hx hb dX12_mostAlike_27 (lv_at hl 6 rfl) ?_
            refine tk_Si hC hK hw hT hA hE hSR (k_X12_isOf_8 l adK adV dC dI cy ad B (by omega) (by omega) qr s1   a2 (show 1 ≤ a2.toInt by omega) (show a2.toInt ≤ 127 by omega) v17_6 (show 0 ≤ v17_6.toInt by omega) (show v17_6.toInt ≤ 6 by omega) w9 H.size hT ) (va_cwS 2 hC.2.2.2.2 gX12_mostAlike_X12_isOf rfl rfl rfl (by decide +kernel) ⟨Nat.le_of_ble_eq_true rfl, Nat.le_of_ble_eq_true rfl⟩) rfl hl.1 rfl (Nat.le_of_ble_eq_true rfl) dX12_mostAlike_29 (fun r23 w25 H locs hp24 hw => ?_)
            obtain ⟨hT, k26, hg27⟩ := hp24
            have hF := hF.tr k26 (by decide)
            rcases hg27 with rfl | rfl
            · refine lv_if_eq (tgt := 53) hx hb dX12_mostAlike_32 (by decide) (fun _ => ?_) (fun c => absurd (by decide) c)
              refine lv_iconst (v := 0) hx hb dX12_mostAlike_53 (by decide) ?_
              refine lv_iadd hx hb dX12_mostAlike_54 ?_
              have nx28 := wk_i32 v17_5
              refine lv_topi (fun x29 ex29 => ?_)
              have ex29 : x29.toInt = v17_5.toInt + (0 : Int) := by rw [ex29]; exact wk_add (show (-2147483648) ≤ v17_5.toInt + (0 : Int) by omega) (show v17_5.toInt + (0 : Int) ≤ 2147483647 by omega)
              refine lv_istore (lv' := [(5, .int x29), (0, .ref (ad 0)), (1, .int a1), (2, .int a2), (3, .int v5_3), (4, .int v5_4), (6, .int v17_6)]) hx hb dX12_mostAlike_55 hl (by decide) rfl (fun ls hl => ?_)
              obtain ⟨x30, ex30⟩ : ∃ y : Int32, y = v17_6 + Int32.ofInt 1 := ⟨_, rfl⟩
              refine lv_iinc (v := x30) (lv' := [(6, .int x30), (5, .int x29), (0, .ref (ad 0)), (1, .int a1), (2, .int a2), (3, .int v5_3), (4, .int v5_4)]) hx hb dX12_mostAlike_57 hl (k := 6) rfl ex30.symm (by decide) rfl (fun ls hl => ?_)
              have ex30 : x30.toInt = v17_6.toInt + 1 := by rw [ex30]; exact wk_add (y := 1) (show -2147483648 ≤ v17_6.toInt + 1 by omega) (show v17_6.toInt + 1 ≤ 2147483647 by omega)
              refine lv_goto (tgt := 17) hx hb dX12_mostAlike_60 (by decide) ?_
              exact ih17 x29 x30 H locs ls w25 (show 0 ≤ a1.toInt by omega) (show a1.toInt ≤ 11 by omega) (show 1 ≤ a2.toInt by omega) (show a2.toInt ≤ 127 by omega) (show 0 ≤ v5_3.toInt by omega) (show 0 ≤ v5_4.toInt by omega) (show v5_4.toInt ≤ 3 by omega) (show 0 ≤ x30.toInt by omega) (show x30.toInt ≤ 7 by omega) (show (7 - x30.toInt).toNat < n17 by omega) hw hT hF  (lv_sub hl [2, 3, 4, 5, 6, 1, 0] rfl)
            · refine lv_if_eq (tgt := 53) hx hb dX12_mostAlike_32 (by decide) (fun c => absurd c (by decide)) (fun _ => ?_)
              refine lv_aload_n hx hb dX12_mostAlike_35 rfl (lv_at hl 0 rfl) ?_
              refine lv_iload_n hx hb dX12_mostAlike_36 rfl (lv_at hl 1 rfl) ?_
              refine lv_iconst (v := 3) hx hb dX12_mostAlike_37 (by decide) ?_
              refine lv_iload hx hb dX12_mostAlike_38 (lv_at hl 6 rfl) ?_
              refine lv_iadd hx hb dX12_mostAlike_40 ?_
              refine lv_topi (fun x31 ex31 => ?_)
              have ex31 : x31.toInt = (3 : Int) + v17_6.toInt := by rw [ex31]; exact wk_add (show (-2147483648) ≤ (3 : Int) + v17_6.toInt by omega) (show (3 : Int) + v17_6.toInt ≤ 2147483647 by omega)
              refine tk_Vi hC hK hw hT hA hE hSR kM_at0 (by decide) rfl (k_X12_streetOf_4 l adK adV dC dI cy ad B (by omega) (by omega) qr s1   a1 (show 0 ≤ a1.toInt by omega) (show a1.toInt ≤ 11 by omega) x31 (show 3 ≤ x31.toInt by omega) (show x31.toInt ≤ 9 by omega) w25 H.size hT ) (cwV 2 hC.2.2.2.2 gX12_mostAlike_X12_streetOf rfl rfl rfl (by decide +kernel) ⟨Nat.le_of_ble_eq_true rfl, Nat.le_of_ble_eq_true rfl⟩) rfl hl.1 rfl (Nat.le_of_ble_eq_true rfl) dX12_mostAlike_41 (fun r32 w34 H locs hp33 hw => ?_)
              obtain ⟨hT, k35, hg38⟩ := hp33
              have hF := hF.tr k35 (by decide)
              obtain ⟨g36, g37⟩ := hg38
              refine lv_iload hx hb dX12_mostAlike_44 (lv_at hl 4 rfl) ?_
              refine lv_icmp_ne (tgt := 53) hx hb dX12_mostAlike_46 (by decide) (fun c39 => ?_) (fun c39 => ?_)
              · have c39 : ¬ r32.toInt = v5_4.toInt := wk_eqF c39
                refine lv_iconst (v := 0) hx hb dX12_mostAlike_53 (by decide) ?_
                refine lv_iadd hx hb dX12_mostAlike_54 ?_
                have nx40 := wk_i32 v17_5
                refine lv_topi (fun x41 ex41 => ?_)
                have ex41 : x41.toInt = v17_5.toInt + (0 : Int) := by rw [ex41]; exact wk_add (show (-2147483648) ≤ v17_5.toInt + (0 : Int) by omega) (show v17_5.toInt + (0 : Int) ≤ 2147483647 by omega)
                refine lv_istore (lv' := [(5, .int x41), (0, .ref (ad 0)), (1, .int a1), (2, .int a2), (3, .int v5_3), (4, .int v5_4), (6, .int v17_6)]) hx hb dX12_mostAlike_55 hl (by decide) rfl (fun ls hl => ?_)
                obtain ⟨x42, ex42⟩ : ∃ y : Int32, y = v17_6 + Int32.ofInt 1 := ⟨_, rfl⟩
                refine lv_iinc (v := x42) (lv' := [(6, .int x42), (5, .int x41), (0, .ref (ad 0)), (1, .int a1), (2, .int a2), (3, .int v5_3), (4, .int v5_4)]) hx hb dX12_mostAlike_57 hl (k := 6) rfl ex42.symm (by decide) rfl (fun ls hl => ?_)
                have ex42 : x42.toInt = v17_6.toInt + 1 := by rw [ex42]; exact wk_add (y := 1) (show -2147483648 ≤ v17_6.toInt + 1 by omega) (show v17_6.toInt + 1 ≤ 2147483647 by omega)
                refine lv_goto (tgt := 17) hx hb dX12_mostAlike_60 (by decide) ?_
                exact ih17 x41 x42 H locs ls w34 (show 0 ≤ a1.toInt by omega) (show a1.toInt ≤ 11 by omega) (show 1 ≤ a2.toInt by omega) (show a2.toInt ≤ 127 by omega) (show 0 ≤ v5_3.toInt by omega) (show 0 ≤ v5_4.toInt by omega) (show v5_4.toInt ≤ 3 by omega) (show 0 ≤ x42.toInt by omega) (show x42.toInt ≤ 7 by omega) (show (7 - x42.toInt).toNat < n17 by omega) hw hT hF  (lv_sub hl [2, 3, 4, 5, 6, 1, 0] rfl)
              · have c39 : r32.toInt = v5_4.toInt := wk_eq.mp c39
                refine lv_iconst (v := 1) hx hb dX12_mostAlike_49 (by decide) ?_
                refine lv_goto (tgt := 54) hx hb dX12_mostAlike_50 (by decide) ?_
                refine lv_iadd hx hb dX12_mostAlike_54 ?_
                have nx43 := wk_i32 v17_5
                refine lv_topi (fun x44 ex44 => ?_)
                refine lv_istore (lv' := [(5, .int x44), (0, .ref (ad 0)), (1, .int a1), (2, .int a2), (3, .int v5_3), (4, .int v5_4), (6, .int v17_6)]) hx hb dX12_mostAlike_55 hl (by decide) rfl (fun ls hl => ?_)
                obtain ⟨x45, ex45⟩ : ∃ y : Int32, y = v17_6 + Int32.ofInt 1 := ⟨_, rfl⟩
                refine lv_iinc (v := x45) (lv' := [(6, .int x45), (5, .int x44), (0, .ref (ad 0)), (1, .int a1), (2, .int a2), (3, .int v5_3), (4, .int v5_4)]) hx hb dX12_mostAlike_57 hl (k := 6) rfl ex45.symm (by decide) rfl (fun ls hl => ?_)
                have ex45 : x45.toInt = v17_6.toInt + 1 := by rw [ex45]; exact wk_add (y := 1) (show -2147483648 ≤ v17_6.toInt + 1 by omega) (show v17_6.toInt + 1 ≤ 2147483647 by omega)
                refine lv_goto (tgt := 17) hx hb dX12_mostAlike_60 (by decide) ?_
                exact ih17 x44 x45 H locs ls w34 (show 0 ≤ a1.toInt by omega) (show a1.toInt ≤ 11 by omega) (show 1 ≤ a2.toInt by omega) (show a2.toInt ≤ 127 by omega) (show 0 ≤ v5_3.toInt by omega) (show 0 ≤ v5_4.toInt by omega) (show v5_4.toInt ≤ 3 by omega) (show 0 ≤ x45.toInt by omega) (show x45.toInt ≤ 7 by omega) (show (7 - x45.toInt).toNat < n17 by omega) hw hT hF  (lv_sub hl [2, 3, 4, 5, 6, 1, 0] rfl)
      refine lv_iload hx hb dX12_mostAlike_5 (lv_at hl 4 rfl) ?_
      refine lv_iconst (v := 4) hx hb dX12_mostAlike_7 (by decide) ?_
      refine lv_icmp_ge (tgt := 82) hx hb dX12_mostAlike_8 (by decide) (fun c46 => ?_) (fun c46 => ?_)
      · have c46 : (4 : Int) ≤ v5_4.toInt := wk_le.mp c46
        refine lv_iload_n hx hb dX12_mostAlike_82 rfl (lv_at hl 3 rfl) ?_
        exact tk_iret hC hr hlocks hK ⟨hT, hF, (show 0 ≤ v5_3.toInt by omega)⟩ hw dX12_mostAlike_83
      · have c46 : v5_4.toInt < (4 : Int) := wk_leF c46
        refine lv_iconst (v := 0) hx hb dX12_mostAlike_11 (by decide) ?_
        refine lv_istore (lv' := [(5, .int 0), (0, .ref (ad 0)), (1, .int a1), (2, .int a2), (3, .int v5_3), (4, .int v5_4)]) hx hb dX12_mostAlike_12 hl (by decide) rfl (fun ls hl => ?_)
        refine lv_iconst (v := 0) hx hb dX12_mostAlike_14 (by decide) ?_
        refine lv_istore (lv' := [(6, .int 0), (5, .int 0), (0, .ref (ad 0)), (1, .int a1), (2, .int a2), (3, .int v5_3), (4, .int v5_4)]) hx hb dX12_mostAlike_15 hl (by decide) rfl (fun ls hl => ?_)
        exact L17 ((7 - (0 : Int)).toNat + 1) 0 0 H locs ls w1 (show 0 ≤ a1.toInt by omega) (show a1.toInt ≤ 11 by omega) (show 1 ≤ a2.toInt by omega) (show a2.toInt ≤ 127 by omega) (show 0 ≤ v5_3.toInt by omega) (show 0 ≤ v5_4.toInt by omega) (show v5_4.toInt ≤ 3 by omega) (by decide) (by decide) (Nat.lt_succ_self _) hw hT hF  (lv_sub hl [2, 3, 4, 5, 6, 1, 0] rfl)
  refine lv_iconst (v := 0) hx hb dX12_mostAlike_0 (by decide) ?_
  refine lv_istore_n (lv' := [(3, .int 0), (0, .ref (ad 0)), (1, .int a1), (2, .int a2)]) hx hb dX12_mostAlike_1 rfl hl (by decide) rfl (fun ls hl => ?_)
  refine lv_iconst (v := 0) hx hb dX12_mostAlike_2 (by decide) ?_
  refine lv_istore (lv' := [(4, .int 0), (3, .int 0), (0, .ref (ad 0)), (1, .int a1), (2, .int a2)]) hx hb dX12_mostAlike_3 hl (by decide) rfl (fun ls hl => ?_)
  exact L5 ((4 - (0 : Int)).toNat + 1) 0 0 s.heap locs ls w0 (show 0 ≤ a1.toInt by omega) (show a1.toInt ≤ 11 by omega) (show 1 ≤ a2.toInt by omega) (show a2.toInt ≤ 127 by omega) (by decide) (by decide) (by decide) (Nat.lt_succ_self _) hw hT hF  (lv_sub hl [2, 3, 4, 1, 0] rfl)
abbrev P_X12_fitting_1 (ad : Nat → Nat) (cy : Nat → ClassId) (B : Int) (qr : Nat) (s1 : Int)  (w0 : va_W) : Int32 → va_W → Prop := fun r u => TW ksM ad cy B qr 12 u ∧ FE ksM ([] : List (Nat × Nat × Nat)) w0 u ∧ ((0 ≤ r.toInt ∧ r.toInt ≤ 127))
set_option maxHeartbeats 4000000 in
set_option maxRecDepth 100000 in
theorem k_X12_fitting_1 (l : Launch) (adK adV : Nat → Nat) (dC : Nat → ClassId) (dI : Nat → Nat → Nat) (cy : Nat → ClassId) (ad : Nat → Nat) (B : Int) (hB0 : 100000 ≤ B) (hB1 : B ≤ 1073741824) (qr : Nat) (s1 : Int)   (w0 : va_W) (sz : Nat) (hT : TW ksM ad cy B qr 12 w0)  : Met l yX12_fitting wsX12_fitting ({ frames := 2, cells := 0, slots := 0, locals := 34 }) (va_Pc [.ref (ad 0)] (wpreS adK adV dC dI cy sz w0)) (va_Qi (P_X12_fitting_1 ad cy B qr s1  w0) (fun u : va_W => wpost dC dI cy (va_A w0 sz) u) (va_A w0 sz)) 0 0 (va_A w0 sz) := by
  refine Met.ofW (cc := cX12_fitting) (maxL := 5) (ret := (some .int)) (by decide) rfl ?_
  intro p e s m args below meth c s₁ Bk hml hv
  obtain ⟨rfl, ⟨hsz, hP, hK, hD0⟩, hE, hSR⟩ := hv
  have hx := Bk.exec
  have hb := Bk.bytes
  have hr := Bk.returns
  have hlocks := Bk.notSynchronized
  have hC : CallFix p m c cX12_fitting 5 s _ wsX12_fitting RX12 := ⟨hx, hb, hml, findClass_of_methodNamed Bk.named, atoms_spec (ws := wsX12_fitting) Bk.pre⟩
  subst hsz
  have hD := hD0.self (sz := s.heap.size)
  generalize hAe : va_A w0 s.heap.size = A at hD hE ⊢
  have hA : ∀ q : Nat, s.heap.size ≤ q → A q := fun q h => by rw [← hAe]; exact Or.inr h
  have hw : Wd dC dI A s.heap s.heap [] w0 := ⟨hP, hD, va_S.rf⟩
  have hF : FE ksM ([] : List (Nat × Nat × Nat)) w0 w0 := FE.rf
  have hl := lv_entry ([.ref (ad 0)]) (n := 5) (Nat.le_of_ble_eq_true rfl)
  rw [lg_entry_eq]
  generalize (lg_sl ([.ref (ad 0)]) ++ List.replicate (5 - (lg_sl ([.ref (ad 0)])).length) Slot.unset).toArray = ls at hl ⊢
  have hl : lv_has ls 5 [(0, .ref (ad 0))] := hl
  generalize hloc : ([] : List Loc) = locs at hw ⊢
  have hinX12 : ∀ w ∈ u_ws RX12 TX12 42, w ∈ wsX12_fitting := fun _ h => List.mem_cons_of_mem _ (List.mem_append_right _ (h))
  have L4 : ∀ (n4 : Nat) (v4_1 : Int32) (v4_2 : Int32) (H : Heap) (locs : List Loc) (ls : Array Slot) (w1 : va_W), 0 ≤ v4_1.toInt → v4_1.toInt ≤ 127 → 0 ≤ v4_2.toInt → v4_2.toInt ≤ 7 → (7 - v4_2.toInt).toNat < n4 → Wd dC dI A s.heap H locs w1 → TW ksM ad cy B qr 12 w1 → FE ksM ([] : List (Nat × Nat × Nat)) w0 w1 → lv_has ls 5 [(0, .ref (ad 0)), (1, .int v4_1), (2, .int v4_2)] → W p l e ({ frames := 2, cells := 0, slots := 0, locals := 34 }) s m (List.toArray [.ref (ad 0)]) below meth c H locs 0 0 (MQ below (va_Qi (P_X12_fitting_1 ad cy B qr s1  w0) (fun u : va_W => wpost dC dI cy A u) A) (List.toArray [.ref (ad 0)]) s 0 0 A) (F0 m 4 ls []) := by
    intro n4
    induction n4 with
    | zero => intro v4_1 v4_2 H locs ls w1 r2 t3 r4 t5 hm4 hw hT hF hl; omega
    | succ n4 ih4 =>
      intro v4_1 v4_2 H locs ls w1 r2 t3 r4 t5 hm4 hw hT hF hl
      have L15 : ∀ (n15 : Nat) (v15_3 : Int32) (v15_4 : Int32) (H : Heap) (locs : List Loc) (ls : Array Slot) (w6 : va_W), 0 ≤ v4_1.toInt → v4_1.toInt ≤ 127 → 0 ≤ v4_2.toInt → v4_2.toInt ≤ 6 → 0 ≤ v15_3.toInt → v15_3.toInt ≤ 1 → 0 ≤ v15_4.toInt → v15_4.toInt ≤ 12 → (12 - v15_4.toInt).toNat < n15 → Wd dC dI A s.heap H locs w6 → TW ksM ad cy B qr 12 w6 → FE ksM ([] : List (Nat × Nat × Nat)) w0 w6 → lv_has ls 5 [(0, .ref (ad 0)), (1, .int v4_1), (2, .int v4_2), (3, .int v15_3), (4, .int v15_4)] → W p l e ({ frames := 2, cells := 0, slots := 0, locals := 34 }) s m (List.toArray [.ref (ad 0)]) below meth c H locs 0 0 (MQ below (va_Qi (P_X12_fitting_1 ad cy B qr s1  w0) (fun u : va_W => wpost dC dI cy A u) A) (List.toArray [.ref (ad 0)]) s 0 0 A) (F0 m 15 ls []) := by
        intro n15
        induction n15 with
        | zero => intro v15_3 v15_4 H locs ls w6 r7 t8 r9 t10 r11 t12 r13 t14 hm15 hw hT hF hl; omega
        | succ n15 ih15 =>
          intro v15_3 v15_4 H locs ls w6 r7 t8 r9 t10 r11 t12 r13 t14 hm15 hw hT hF hl
          have J73 : ∀ (f73_12_7 : Int32) (H : Heap) (locs : List Loc) (ls : Array Slot) (w15 : va_W), 0 ≤ v4_1.toInt → v4_1.toInt ≤ 127 → 0 ≤ v4_2.toInt → v4_2.toInt ≤ 6 → 0 ≤ v15_3.toInt → v15_3.toInt ≤ 1 → 0 ≤ v15_4.toInt → v15_4.toInt ≤ 11 → 1 ≤ f73_12_7.toInt → f73_12_7.toInt ≤ 12 → Wd dC dI A s.heap H locs w15 → TW ksM ad cy B qr 12 w15 → FE ksM ([] : List (Nat × Nat × Nat)) w0 w15 → gi w15 12 7 = f73_12_7 → lv_has ls 5 [(0, .ref (ad 0)), (1, .int v4_1), (2, .int v4_2), (3, .int v15_3), (4, .int v15_4)] → W p l e ({ frames := 2, cells := 0, slots := 0, locals := 34 }) s m (List.toArray [.ref (ad 0)]) below meth c H locs 0 0 (MQ below (va_Qi (P_X12_fitting_1 ad cy B qr s1  w0) (fun u : va_W => wpost dC dI cy A u) A) (List.toArray [.ref (ad 0)]) s 0 0 A) (F0 m 73 ls []) := by
            intro f73_12_7 H locs ls w15 r16 t17 r18 t19 r20 t21 r22 t23 r24 t25 hw hT hF c26 hl
            refine lv_iconst (v := 0) hx hb dX12_fitting_73 (by decide) ?_
            refine lv_istore_n (lv' := [(3, .int 0), (0, .ref (ad 0)), (1, .int v4_1), (2, .int v4_2), (4, .int v15_4)]) hx hb dX12_fitting_74 rfl hl (by decide) rfl (fun ls hl => ?_)
            obtain ⟨x27, ex27⟩ : ∃ y : Int32, y = v15_4 + Int32.ofInt 1 := ⟨_, rfl⟩
            refine lv_iinc (v := x27) (lv' := [(4, .int x27), (3, .int 0), (0, .ref (ad 0)), (1, .int v4_1), (2, .int v4_2)]) hx hb dX12_fitting_75 hl (k := 4) rfl ex27.symm (by decide) rfl (fun ls hl => ?_)
            have ex27 : x27.toInt = v15_4.toInt + 1 := by rw [ex27]; exact wk_add (y := 1) (show -2147483648 ≤ v15_4.toInt + 1 by omega) (show v15_4.toInt + 1 ≤ 2147483647 by omega)
            refine lv_goto (tgt := 15) hx hb dX12_fitting_78 (by decide) ?_
            exact ih15 0 x27 H locs ls w15 (show 0 ≤ v4_1.toInt by omega) (show v4_1.toInt ≤ 127 by omega) (show 0 ≤ v4_2.toInt by omega) (show v4_2.toInt ≤ 6 by omega) (by decide) (by decide) (show 0 ≤ x27.toInt by omega) (show x27.toInt ≤ 12 by omega) (show (12 - x27.toInt).toNat < n15 by omega) hw hT hF  (lv_sub hl [2, 3, 4, 1, 0] rfl)
          refine lv_iload hx hb dX12_fitting_15 (lv_at hl 4 rfl) ?_
          refine lv_aload_n hx hb dX12_fitting_17 rfl (lv_at hl 0 rfl) ?_
          refine tk_getA hC hK hw hT hinX12 kM_at0 (by decide) rfl 26 (by decide) (List.mem_of_getElem? (i := 1) rfl) rfl rfl dX12_fitting_18 ?_
          refine lv_bipush (v := 7) hx hb dX12_fitting_21 (by decide) ?_
          refine tk_ialdR hC hK hw hT kM_at12 rfl (by decide) (by decide) dX12_fitting_23 (fun x28 c29 Ex28 => ?_)
          have bx28 := tk_rgI rfl 7 1 1 0 12 (by decide +kernel) ⟨0, by decide, by decide⟩ Ex28
          have c29 : gi w6 12 7 = x28 := c29
          refine lv_icmp_ge (tgt := 81) hx hb dX12_fitting_24 (by decide) (fun c30 => ?_) (fun c30 => ?_)
          · have c30 : x28.toInt ≤ v15_4.toInt := wk_le.mp c30
            refine lv_iload_n hx hb dX12_fitting_81 rfl (lv_at hl 1 rfl) ?_
            refine lv_iload_n hx hb dX12_fitting_82 rfl (lv_at hl 3 rfl) ?_
            refine lv_if_eq (tgt := 92) hx hb dX12_fitting_83 (by decide) (fun c31 => ?_) (fun c31 => ?_)
            · have c31 : v15_3.toInt = (0 : Int) := wk_eq.mp c31
              refine lv_iconst (v := 0) hx hb dX12_fitting_92 (by decide) ?_
              refine lv_ior hx hb dX12_fitting_93 ?_
              refine lv_topi (fun x32 ex32 => ?_)
              have bx32 : 0 ≤ x32.toInt ∧ x32.toInt < 128 := by rw [ex32]; exact wk_or 7 (by decide) (by omega) (by omega) (by decide) (by decide)
              have mx32 : v4_1.toInt ≤ x32.toInt ∧ (0 : Int) ≤ x32.toInt := by rw [ex32]; exact wk_orL 7 (by decide) (by omega) (by omega) (by decide) (by decide)
              refine lv_istore_n (lv' := [(1, .int x32), (0, .ref (ad 0)), (2, .int v4_2), (3, .int v15_3), (4, .int v15_4)]) hx hb dX12_fitting_94 rfl hl (by decide) rfl (fun ls hl => ?_)
              obtain ⟨x33, ex33⟩ : ∃ y : Int32, y = v4_2 + Int32.ofInt 1 := ⟨_, rfl⟩
              refine lv_iinc (v := x33) (lv' := [(2, .int x33), (1, .int x32), (0, .ref (ad 0)), (3, .int v15_3), (4, .int v15_4)]) hx hb dX12_fitting_95 hl (k := 2) rfl ex33.symm (by decide) rfl (fun ls hl => ?_)
              have ex33 : x33.toInt = v4_2.toInt + 1 := by rw [ex33]; exact wk_add (y := 1) (show -2147483648 ≤ v4_2.toInt + 1 by omega) (show v4_2.toInt + 1 ≤ 2147483647 by omega)
              refine lv_goto (tgt := 4) hx hb dX12_fitting_98 (by decide) ?_
              exact ih4 x32 x33 H locs ls w6 (show 0 ≤ x32.toInt by omega) (show x32.toInt ≤ 127 by omega) (show 0 ≤ x33.toInt by omega) (show x33.toInt ≤ 7 by omega) (show (7 - x33.toInt).toNat < n4 by omega) hw hT hF  (lv_sub hl [2, 1, 0] rfl)
            · have c31 : ¬ v15_3.toInt = (0 : Int) := wk_eqF c31
              refine lv_iconst (v := 1) hx hb dX12_fitting_86 (by decide) ?_
              refine lv_iload_n hx hb dX12_fitting_87 rfl (lv_at hl 2 rfl) ?_
              refine lv_ishl hx hb dX12_fitting_88 ?_
              refine lv_topi (fun x34 ex34 => ?_)
              have bx34 : 1 ≤ x34.toInt ∧ x34.toInt ≤ 64 := by rw [ex34]; exact wk_shl1 6 (by decide) (by omega) (by omega)
              refine lv_goto (tgt := 93) hx hb dX12_fitting_89 (by decide) ?_
              refine lv_ior hx hb dX12_fitting_93 ?_
              refine lv_topi (fun x35 ex35 => ?_)
              have bx35 : 0 ≤ x35.toInt ∧ x35.toInt < 128 := by rw [ex35]; exact wk_or 7 (by decide) (by omega) (by omega) (by omega) (by omega)
              have mx35 : v4_1.toInt ≤ x35.toInt ∧ x34.toInt ≤ x35.toInt := by rw [ex35]; exact wk_orL 7 (by decide) (by omega) (by omega) (by omega) (by omega)
              refine lv_istore_n (lv' := [(1, .int x35), (0, .ref (ad 0)), (2, .int v4_2), (3, .int v15_3), (4, .int v15_4)]) hx hb dX12_fitting_94 rfl hl (by decide) rfl (fun ls hl => ?_)
              obtain ⟨x36, ex36⟩ : ∃ y : Int32, y = v4_2 + Int32.ofInt 1 := ⟨_, rfl⟩
              refine lv_iinc (v := x36) (lv' := [(2, .int x36), (1, .int x35), (0, .ref (ad 0)), (3, .int v15_3), (4, .int v15_4)]) hx hb dX12_fitting_95 hl (k := 2) rfl ex36.symm (by decide) rfl (fun ls hl => ?_)
              have ex36 : x36.toInt = v4_2.toInt + 1 := by rw [ex36]; exact wk_add (y := 1) (show -2147483648 ≤ v4_2.toInt + 1 by omega) (show v4_2.toInt + 1 ≤ 2147483647 by omega)
              refine lv_goto (tgt := 4) hx hb dX12_fitting_98 (by decide) ?_
              exact ih4 x35 x36 H locs ls w6 (show 0 ≤ x35.toInt by omega) (show x35.toInt ≤ 127 by omega) (show 0 ≤ x36.toInt by omega) (show x36.toInt ≤ 7 by omega) (show (7 - x36.toInt).toNat < n4 by omega) hw hT hF  (lv_sub hl [2, 1, 0] rfl)
          · have c30 : v15_4.toInt < x28.toInt := wk_leF c30
            refine lv_iload_n hx hb dX12_fitting_27 rfl (lv_at hl 3 rfl) ?_
            refine lv_if_eq (tgt := 73) hx hb dX12_fitting_28 (by decide) (fun c37 => ?_) (fun c37 => ?_)
            · have c37 : v15_3.toInt = (0 : Int) := wk_eq.mp c37
              exact J73 x28 H locs ls w6 (show 0 ≤ v4_1.toInt by omega) (show v4_1.toInt ≤ 127 by omega) (show 0 ≤ v4_2.toInt by omega) (show v4_2.toInt ≤ 6 by omega) (show 0 ≤ v15_3.toInt by omega) (show v15_3.toInt ≤ 1 by omega) (show 0 ≤ v15_4.toInt by omega) (show v15_4.toInt ≤ 11 by omega) (show 1 ≤ x28.toInt by omega) (show x28.toInt ≤ 12 by omega)  hw hT hF c29 (lv_sub hl [0, 1, 2, 3, 4] rfl)
            · have c37 : ¬ v15_3.toInt = (0 : Int) := wk_eqF c37
              refine lv_aload_n hx hb dX12_fitting_31 rfl (lv_at hl 0 rfl) ?_
              refine lv_aload_n hx hb dX12_fitting_32 rfl (lv_at hl 0 rfl) ?_
              refine tk_getA hC hK hw hT hinX12 kM_at0 (by decide) rfl 26 (by decide) (List.mem_of_getElem? (i := 1) rfl) rfl rfl dX12_fitting_33 ?_
              refine lv_sipush (v := 264) hx hb dX12_fitting_36 (by decide) ?_
              refine lv_iconst (v := 2) hx hb dX12_fitting_39 (by decide) ?_
              refine lv_iload hx hb dX12_fitting_40 (lv_at hl 4 rfl) ?_
              refine lv_imul hx hb dX12_fitting_42 ?_
              refine lv_topi (fun x38 ex38 => ?_)
              have ex38 : x38.toInt = (2 : Int) * v15_4.toInt := by rw [ex38]; exact wk_mul (show (-2147483648) ≤ (2 : Int) * v15_4.toInt by omega) (show (2 : Int) * v15_4.toInt ≤ 2147483647 by omega)
              refine lv_iadd hx hb dX12_fitting_43 ?_
              refine lv_topi (fun x39 ex39 => ?_)
              have ex39 : x39.toInt = (264 : Int) + x38.toInt := by rw [ex39]; exact wk_add (show (-2147483648) ≤ (264 : Int) + x38.toInt by omega) (show (264 : Int) + x38.toInt ≤ 2147483647 by omega)
              refine tk_ialdR hC hK hw hT kM_at12 rfl (show 0 ≤ x39.toInt by omega) (show x39.toInt < 296 by omega) dX12_fitting_44 (fun x40 c41 Ex40 => ?_)
              have c41 : gi w6 12 (2 * v15_4.toInt + 264).toNat = x40 := (congrArg (gi w6 12) (congrArg Int.toNat (show 2 * v15_4.toInt + 264 = x39.toInt by omega))).trans c41
              have bx40 := tk_rgI rfl 264 2 12 0 11 (by decide +kernel) ⟨(v15_4.toInt - 0).toNat, by omega, show x39.toInt.toNat = 264 + 2 * (v15_4.toInt - 0).toNat by omega⟩ Ex40
              refine lv_iconst (v := 3) hx hb dX12_fitting_45 (by decide) ?_
              refine lv_iload_n hx hb dX12_fitting_46 rfl (lv_at hl 2 rfl) ?_
              refine lv_iadd hx hb dX12_fitting_47 ?_
              refine lv_topi (fun x42 ex42 => ?_)
              have ex42 : x42.toInt = (3 : Int) + v4_2.toInt := by rw [ex42]; exact wk_add (show (-2147483648) ≤ (3 : Int) + v4_2.toInt by omega) (show (3 : Int) + v4_2.toInt ≤ 2147483647 by omega)
              refine tk_Vi hC hK hw hT hA hE hSR kM_at0 (by decide) rfl (k_X12_streetOf_4 l adK adV dC dI cy ad B (by omega) (by omega) qr s1   x40 (show 0 ≤ x40.toInt by omega) (show x40.toInt ≤ 11 by omega) x42 (show 3 ≤ x42.toInt by omega) (show x42.toInt ≤ 9 by omega) w6 H.size hT ) (cwV 2 hC.2.2.2.2 gX12_fitting_X12_streetOf rfl rfl rfl (by decide +kernel) ⟨Nat.le_of_ble_eq_true rfl, Nat.le_of_ble_eq_true rfl⟩) rfl hl.1 rfl (Nat.le_of_ble_eq_true rfl) dX12_fitting_48 (fun r43 w45 H locs hp44 hw => ?_)
              obtain ⟨hT, k46, hg49⟩ := hp44
              have hF := hF.tr k46 (by decide)
              have c50 := k46.gi kM_at12 (by decide) c29
              have c51 := k46.gi kM_at12 rfl c41
              obtain ⟨g47, g48⟩ := hg49
              refine lv_aload_n hx hb dX12_fitting_51 rfl (lv_at hl 0 rfl) ?_
              refine tk_getA hC hK hw hT hinX12 kM_at0 (by decide) rfl 26 (by decide) (List.mem_of_getElem? (i := 1) rfl) rfl rfl dX12_fitting_52 ?_
              refine lv_sipush (v := 264) hx hb dX12_fitting_55 (by decide) ?_
              refine lv_iconst (v := 2) hx hb dX12_fitting_58 (by decide) ?_
              refine lv_iload hx hb dX12_fitting_59 (lv_at hl 4 rfl) ?_
              refine lv_imul hx hb dX12_fitting_61 ?_
              refine lv_topi (fun x52 ex52 => ?_)
              have ex52 : x52.toInt = (2 : Int) * v15_4.toInt := by rw [ex52]; exact wk_mul (show (-2147483648) ≤ (2 : Int) * v15_4.toInt by omega) (show (2 : Int) * v15_4.toInt ≤ 2147483647 by omega)
              refine lv_iadd hx hb dX12_fitting_62 ?_
              refine lv_topi (fun x53 ex53 => ?_)
              have ex53 : x53.toInt = (264 : Int) + x52.toInt := by rw [ex53]; exact wk_add (show (-2147483648) ≤ (264 : Int) + x52.toInt by omega) (show (264 : Int) + x52.toInt ≤ 2147483647 by omega)
              refine lv_iconst (v := 1) hx hb dX12_fitting_63 (by decide) ?_
              refine lv_iadd hx hb dX12_fitting_64 ?_
              refine lv_topi (fun x54 ex54 => ?_)
              have ex54 : x54.toInt = x53.toInt + (1 : Int) := by rw [ex54]; exact wk_add (show (-2147483648) ≤ x53.toInt + (1 : Int) by omega) (show x53.toInt + (1 : Int) ≤ 2147483647 by omega)
              refine tk_ialdR hC hK hw hT kM_at12 rfl (show 0 ≤ x54.toInt by omega) (show x54.toInt < 296 by omega) dX12_fitting_65 (fun x55 c56 Ex55 => ?_)
              have c56 : gi w45 12 (2 * v15_4.toInt + 265).toNat = x55 := (congrArg (gi w45 12) (congrArg Int.toNat (show 2 * v15_4.toInt + 265 = x54.toInt by omega))).trans c56
              have bx55 := tk_rgI rfl 265 2 12 0 11 (by decide +kernel) ⟨(v15_4.toInt - 0).toNat, by omega, show x54.toInt.toNat = 265 + 2 * (v15_4.toInt - 0).toNat by omega⟩ Ex55
              refine lv_icmp_ne (tgt := 73) hx hb dX12_fitting_66 (by decide) (fun c57 => ?_) (fun c57 => ?_)
              · have c57 : ¬ r43.toInt = x55.toInt := wk_eqF c57
                exact J73 x28 H locs ls w45 (show 0 ≤ v4_1.toInt by omega) (show v4_1.toInt ≤ 127 by omega) (show 0 ≤ v4_2.toInt by omega) (show v4_2.toInt ≤ 6 by omega) (show 0 ≤ v15_3.toInt by omega) (show v15_3.toInt ≤ 1 by omega) (show 0 ≤ v15_4.toInt by omega) (show v15_4.toInt ≤ 11 by omega) (show 1 ≤ x28.toInt by omega) (show x28.toInt ≤ 12 by omega)  hw hT hF c50 (lv_sub hl [0, 1, 2, 3, 4] rfl)
              · have c57 : r43.toInt = x55.toInt := wk_eq.mp c57
                refine lv_iconst (v := 1) hx hb dX12_fitting_69 (by decide) ?_
                refine lv_goto (tgt := 74) hx hb dX12_fitting_70 (by decide) ?_
                refine lv_istore_n (lv' := [(3, .int 1), (0, .ref (ad 0)), (1, .int v4_1), (2, .int v4_2), (4, .int v15_4)]) hx hb dX12_fitting_74 rfl hl (by decide) rfl (fun ls hl => ?_)
                obtain ⟨x58, ex58⟩ : ∃ y : Int32, y = v15_4 + Int32.ofInt 1 := ⟨_, rfl⟩
                refine lv_iinc (v := x58) (lv' := [(4, .int x58), (3, .int 1), (0, .ref (ad 0)), (1, .int v4_1), (2, .int v4_2)]) hx hb dX12_fitting_75 hl (k := 4) rfl ex58.symm (by decide) rfl (fun ls hl => ?_)
                have ex58 : x58.toInt = v15_4.toInt + 1 := by rw [ex58]; exact wk_add (y := 1) (show -2147483648 ≤ v15_4.toInt + 1 by omega) (show v15_4.toInt + 1 ≤ 2147483647 by omega)
                refine lv_goto (tgt := 15) hx hb dX12_fitting_78 (by decide) ?_
                exact ih15 1 x58 H locs ls w45 (show 0 ≤ v4_1.toInt by omega) (show v4_1.toInt ≤ 127 by omega) (show 0 ≤ v4_2.toInt by omega) (show v4_2.toInt ≤ 6 by omega) (by decide) (by decide) (show 0 ≤ x58.toInt by omega) (show x58.toInt ≤ 12 by omega) (show (12 - x58.toInt).toNat < n15 by omega) hw hT hF  (lv_sub hl [2, 3, 4, 1, 0] rfl)
      refine lv_iload_n hx hb dX12_fitting_4 rfl (lv_at hl 2 rfl) ?_
      refine lv_bipush (v := 7) hx hb dX12_fitting_5 (by decide) ?_
      refine lv_icmp_ge (tgt := 101) hx hb dX12_fitting_7 (by decide) (fun c59 => ?_) (fun c59 => ?_)
      · have c59 : (7 : Int) ≤ v4_2.toInt := wk_le.mp c59
        refine lv_iload_n hx hb dX12_fitting_101 rfl (lv_at hl 1 rfl) ?_
        exact tk_iret hC hr hlocks hK ⟨hT, hF, ⟨(show 0 ≤ v4_1.toInt by omega), (show v4_1.toInt ≤ 127 by omega)⟩⟩ hw dX12_fitting_102
      · have c59 : v4_2.toInt < (7 : Int) := wk_leF c59
        refine lv_iconst (v := 1) hx hb dX12_fitting_10 (by decide) ?_
        refine lv_istore_n (lv' := [(3, .int 1), (0, .ref (ad 0)), (1, .int v4_1), (2, .int v4_2)]) hx hb dX12_fitting_11 rfl hl (by decide) rfl (fun ls hl => ?_)
        refine lv_iconst (v := 0) hx hb dX12_fitting_12 (by decide) ?_
        refine lv_istore (lv' := [(4, .int 0), (3, .int 1), (0, .ref (ad 0)), (1, .int v4_1), (2, .int v4_2)]) hx hb dX12_fitting_13 hl (by decide) rfl (fun ls hl => ?_)
        exact L15 ((12 - (0 : Int)).toNat + 1) 1 0 H locs ls w1 (show 0 ≤ v4_1.toInt by omega) (show v4_1.toInt ≤ 127 by omega) (show 0 ≤ v4_2.toInt by omega) (show v4_2.toInt ≤ 6 by omega) (by decide) (by decide) (by decide) (by decide) (Nat.lt_succ_self _) hw hT hF  (lv_sub hl [2, 3, 4, 1, 0] rfl)
  refine lv_iconst (v := 0) hx hb dX12_fitting_0 (by decide) ?_
  refine lv_istore_n (lv' := [(1, .int 0), (0, .ref (ad 0))]) hx hb dX12_fitting_1 rfl hl (by decide) rfl (fun ls hl => ?_)
  refine lv_iconst (v := 0) hx hb dX12_fitting_2 (by decide) ?_
  refine lv_istore_n (lv' := [(2, .int 0), (1, .int 0), (0, .ref (ad 0))]) hx hb dX12_fitting_3 rfl hl (by decide) rfl (fun ls hl => ?_)
  exact L4 ((7 - (0 : Int)).toNat + 1) 0 0 s.heap locs ls w0 (by decide) (by decide) (by decide) (by decide) (Nat.lt_succ_self _) hw hT hF  (lv_sub hl [2, 1, 0] rfl)
abbrev P_X12_weekdays_1 (ad : Nat → Nat) (cy : Nat → ClassId) (B : Int) (qr : Nat) (s1 : Int) (a1 : Int32) (w0 : va_W) : Int32 → va_W → Prop := fun r u => TW ksM ad cy B qr 12 u ∧ FE ksM ([] : List (Nat × Nat × Nat)) w0 u ∧ ((r = (-2) ∧ (∃ y : Int32, gi u 12 0 = y ∧ 1 ≤ y.toInt ∧ y.toInt ≤ 10)) ∨ (0 ≤ r.toInt ∧ r.toInt ≤ 127 ∧ (∃ y : Int32, gi u 12 0 = y ∧ 1 ≤ y.toInt ∧ y.toInt ≤ 10)) ∨ (r = (-1)))
set_option maxHeartbeats 4000000 in
set_option maxRecDepth 100000 in
theorem k_X12_weekdays_1 (l : Launch) (adK adV : Nat → Nat) (dC : Nat → ClassId) (dI : Nat → Nat → Nat) (cy : Nat → ClassId) (ad : Nat → Nat) (B : Int) (hB0 : 100000 ≤ B) (hB1 : B ≤ 1073741824) (qr : Nat) (s1 : Int)  (a1 : Int32) (w0 : va_W) (sz : Nat) (hT : TW ksM ad cy B qr 12 w0)  : Met l yX12_weekdays wsX12_weekdays ({ frames := 3, cells := 0, slots := 0, locals := 60 }) (va_Pc [.ref (ad 0), .int a1] (wpreS adK adV dC dI cy sz w0)) (va_Qi (P_X12_weekdays_1 ad cy B qr s1 a1 w0) (fun u : va_W => wpost dC dI cy (va_A w0 sz) u) (va_A w0 sz)) 0 0 (va_A w0 sz) := by
  refine Met.ofW (cc := cX12_weekdays) (maxL := 5) (ret := (some .int)) (by decide) rfl ?_
  intro p e s m args below meth c s₁ Bk hml hv
  obtain ⟨rfl, ⟨hsz, hP, hK, hD0⟩, hE, hSR⟩ := hv
  have hx := Bk.exec
  have hb := Bk.bytes
  have hr := Bk.returns
  have hlocks := Bk.notSynchronized
  have hC : CallFix p m c cX12_weekdays 5 s _ wsX12_weekdays RX12 := ⟨hx, hb, hml, findClass_of_methodNamed Bk.named, atoms_spec (ws := wsX12_weekdays) Bk.pre⟩
  subst hsz
  have hD := hD0.self (sz := s.heap.size)
  generalize hAe : va_A w0 s.heap.size = A at hD hE ⊢
  have hA : ∀ q : Nat, s.heap.size ≤ q → A q := fun q h => by rw [← hAe]; exact Or.inr h
  have hw : Wd dC dI A s.heap s.heap [] w0 := ⟨hP, hD, va_S.rf⟩
  have hF : FE ksM ([] : List (Nat × Nat × Nat)) w0 w0 := FE.rf
  have hl := lv_entry ([.ref (ad 0), .int a1]) (n := 5) (Nat.le_of_ble_eq_true rfl)
  rw [lg_entry_eq]
  generalize (lg_sl ([.ref (ad 0), .int a1]) ++ List.replicate (5 - (lg_sl ([.ref (ad 0), .int a1])).length) Slot.unset).toArray = ls at hl ⊢
  have hl : lv_has ls 5 [(0, .ref (ad 0)), (1, .int a1)] := hl
  generalize hloc : ([] : List Loc) = locs at hw ⊢
  have hinX12 : ∀ w ∈ u_ws RX12 TX12 42, w ∈ wsX12_weekdays := fun _ h => List.mem_cons_of_mem _ (List.mem_append_right _ (h))
  have J17 : ∀ (f17_12_0 : Int32) (H : Heap) (locs : List Loc) (ls : Array Slot) (w1 : va_W), 0 ≤ f17_12_0.toInt → f17_12_0.toInt ≤ 10 → Wd dC dI A s.heap H locs w1 → TW ksM ad cy B qr 12 w1 → FE ksM ([] : List (Nat × Nat × Nat)) w0 w1 → gi w1 12 0 = f17_12_0 → lv_has ls 5 [(0, .ref (ad 0)), (1, .int a1)] → W p l e ({ frames := 3, cells := 0, slots := 0, locals := 60 }) s m (List.toArray [.ref (ad 0), .int a1]) below meth c H locs 0 0 (MQ below (va_Qi (P_X12_weekdays_1 ad cy B qr s1 a1 w0) (fun u : va_W => wpost dC dI cy A u) A) (List.toArray [.ref (ad 0), .int a1]) s 0 0 A) (F0 m 17 ls []) := by
    intro f17_12_0 H locs ls w1 r2 t3 hw hT hF c4 hl
    refine lv_iconst (v := (-1)) hx hb dX12_weekdays_17 (by decide) ?_
    exact tk_iret hC hr hlocks hK ⟨hT, hF, (Or.inr (Or.inr rfl))⟩ hw dX12_weekdays_18
  have J43 : ∀ (v43_2 : Int32) (f43_12_0 : Int32) (H : Heap) (locs : List Loc) (ls : Array Slot) (w5 : va_W), 0 ≤ v43_2.toInt → v43_2.toInt ≤ 127 → 1 ≤ f43_12_0.toInt → f43_12_0.toInt ≤ 10 → Wd dC dI A s.heap H locs w5 → TW ksM ad cy B qr 12 w5 → FE ksM ([] : List (Nat × Nat × Nat)) w0 w5 → gi w5 12 0 = f43_12_0 → lv_has ls 5 [(0, .ref (ad 0)), (1, .int 1), (2, .int v43_2)] → W p l e ({ frames := 3, cells := 0, slots := 0, locals := 60 }) s m (List.toArray [.ref (ad 0), .int a1]) below meth c H locs 0 0 (MQ below (va_Qi (P_X12_weekdays_1 ad cy B qr s1 a1 w0) (fun u : va_W => wpost dC dI cy A u) A) (List.toArray [.ref (ad 0), .int a1]) s 0 0 A) (F0 m 43 ls []) := by
    intro v43_2 f43_12_0 H locs ls w5 r6 t7 r8 t9 hw hT hF c10 hl
    refine lv_bipush (v := (-2)) hx hb dX12_weekdays_43 (by decide) ?_
    exact tk_iret hC hr hlocks hK ⟨hT, hF, (Or.inl ⟨rfl, ⟨f43_12_0, c10, (show 1 ≤ f43_12_0.toInt by omega), (show f43_12_0.toInt ≤ 10 by omega)⟩⟩)⟩ hw dX12_weekdays_45
  have L51 : ∀ (n51 : Nat) (v51_2 : Int32) (v51_3 : Int32) (v51_4 : Int32) (f51_12_0 : Int32) (f51_12_1 : Int32) (H : Heap) (locs : List Loc) (ls : Array Slot) (w11 : va_W), 1 ≤ v51_2.toInt → v51_2.toInt ≤ 127 → 0 ≤ v51_3.toInt → v51_3.toInt ≤ 11 → 1 ≤ v51_4.toInt → v51_4.toInt ≤ 12 → 1 ≤ f51_12_0.toInt → f51_12_0.toInt ≤ 10 → 1 ≤ f51_12_1.toInt → f51_12_1.toInt ≤ 12 → (12 - v51_4.toInt).toNat < n51 → Wd dC dI A s.heap H locs w11 → TW ksM ad cy B qr 12 w11 → FE ksM ([] : List (Nat × Nat × Nat)) w0 w11 → gi w11 12 0 = f51_12_0 → gi w11 12 1 = f51_12_1 → lv_has ls 5 [(0, .ref (ad 0)), (1, .int 1), (2, .int v51_2), (3, .int v51_3), (4, .int v51_4)] → W p l e ({ frames := 3, cells := 0, slots := 0, locals := 60 }) s m (List.toArray [.ref (ad 0), .int a1]) below meth c H locs 0 0 (MQ below (va_Qi (P_X12_weekdays_1 ad cy B qr s1 a1 w0) (fun u : va_W => wpost dC dI cy A u) A) (List.toArray [.ref (ad 0), .int a1]) s 0 0 A) (F0 m 51 ls []) := by
    intro n51
    induction n51 with
    | zero => intro v51_2 v51_3 v51_4 f51_12_0 f51_12_1 H locs ls w11 r12 t13 r14 t15 r16 t17 r18 t19 r21 t22 hm51 hw hT hF c20 c23 hl; omega
    | succ n51 ih51 =>
      intro v51_2 v51_3 v51_4 f51_12_0 f51_12_1 H locs ls w11 r12 t13 r14 t15 r16 t17 r18 t19 r21 t22 hm51 hw hT hF c20 c23 hl
      refine lv_iload hx hb dX12_weekdays_51 (lv_at hl 4 rfl) ?_
      refine lv_aload_n hx hb dX12_weekdays_53 rfl (lv_at hl 0 rfl) ?_
      refine tk_getA hC hK hw hT hinX12 kM_at0 (by decide) rfl 26 (by decide) (List.mem_of_getElem? (i := 1) rfl) rfl rfl dX12_weekdays_54 ?_
      refine lv_iconst (v := 1) hx hb dX12_weekdays_57 (by decide) ?_
      refine tk_ialdR hC hK hw hT kM_at12 rfl (by decide) (by decide) dX12_weekdays_58 (fun x24 c25 Ex24 => ?_)
      refine wk_top f51_12_1 (c25.symm.trans c23) ?_
      refine lv_icmp_ge (tgt := 91) hx hb dX12_weekdays_59 (by decide) (fun c26 => ?_) (fun c26 => ?_)
      · have c26 : f51_12_1.toInt ≤ v51_4.toInt := wk_le.mp c26
        refine lv_iload_n hx hb dX12_weekdays_91 rfl (lv_at hl 3 rfl) ?_
        exact tk_iret hC hr hlocks hK ⟨hT, hF, (Or.inr (Or.inl ⟨(show 0 ≤ v51_3.toInt by omega), (show v51_3.toInt ≤ 127 by omega), ⟨f51_12_0, c20, (show 1 ≤ f51_12_0.toInt by omega), (show f51_12_0.toInt ≤ 10 by omega)⟩⟩))⟩ hw dX12_weekdays_92
      · have c26 : v51_4.toInt < f51_12_1.toInt := wk_leF c26
        refine lv_aload_n hx hb dX12_weekdays_62 rfl (lv_at hl 0 rfl) ?_
        refine lv_iload hx hb dX12_weekdays_63 (lv_at hl 4 rfl) ?_
        refine lv_iload_n hx hb dX12_weekdays_65 rfl (lv_at hl 2 rfl) ?_
        refine tk_Vi hC hK hw hT hA hE hSR kM_at0 (by decide) rfl (k_X12_mostAlike_1 l adK adV dC dI cy ad B (by omega) (by omega) qr s1   v51_4 (show 1 ≤ v51_4.toInt by omega) (show v51_4.toInt ≤ 11 by omega) v51_2 (show 1 ≤ v51_2.toInt by omega) (show v51_2.toInt ≤ 127 by omega) w11 H.size hT ) (cwV 2 hC.2.2.2.2 gX12_weekdays_X12_mostAlike rfl rfl rfl (by decide +kernel) ⟨Nat.le_of_ble_eq_true rfl, Nat.le_of_ble_eq_true rfl⟩) rfl hl.1 rfl (Nat.le_of_ble_eq_true rfl) dX12_weekdays_66 (fun r27 w29 H locs hp28 hw => ?_)
        obtain ⟨hT, k30, hg32⟩ := hp28
        have hF := hF.tr k30 (by decide)
        have c33 := k30.gi kM_at12 (by decide) c20
        have c34 := k30.gi kM_at12 (by decide) c23
        obtain g31 := hg32
        refine lv_aload_n hx hb dX12_weekdays_69 rfl (lv_at hl 0 rfl) ?_
        refine lv_iload_n hx hb dX12_weekdays_70 rfl (lv_at hl 3 rfl) ?_
        refine lv_iload_n hx hb dX12_weekdays_71 rfl (lv_at hl 2 rfl) ?_
        refine tk_Vi hC hK hw hT hA hE hSR kM_at0 (by decide) rfl (k_X12_mostAlike_2 l adK adV dC dI cy ad B (by omega) (by omega) qr s1   v51_3 (show 0 ≤ v51_3.toInt by omega) (show v51_3.toInt ≤ 11 by omega) v51_2 (show 1 ≤ v51_2.toInt by omega) (show v51_2.toInt ≤ 127 by omega) w29 H.size hT ) (cwV 2 hC.2.2.2.2 gX12_weekdays_X12_mostAlike rfl rfl rfl (by decide +kernel) ⟨Nat.le_of_ble_eq_true rfl, Nat.le_of_ble_eq_true rfl⟩) rfl hl.1 rfl (Nat.le_of_ble_eq_true rfl) dX12_weekdays_72 (fun r35 w37 H locs hp36 hw => ?_)
        obtain ⟨hT, k38, hg40⟩ := hp36
        have hF := hF.tr k38 (by decide)
        have c41 := k38.gi kM_at12 (by decide) c33
        have c42 := k38.gi kM_at12 (by decide) c34
        obtain g39 := hg40
        refine lv_icmp_ge (tgt := 83) hx hb dX12_weekdays_75 (by decide) (fun c43 => ?_) (fun c43 => ?_)
        · have c43 : r35.toInt ≤ r27.toInt := wk_le.mp c43
          refine lv_iload_n hx hb dX12_weekdays_83 rfl (lv_at hl 3 rfl) ?_
          refine lv_istore_n (lv' := [(3, .int v51_3), (0, .ref (ad 0)), (1, .int 1), (2, .int v51_2), (4, .int v51_4)]) hx hb dX12_weekdays_84 rfl hl (by decide) rfl (fun ls hl => ?_)
          obtain ⟨x44, ex44⟩ : ∃ y : Int32, y = v51_4 + Int32.ofInt 1 := ⟨_, rfl⟩
          refine lv_iinc (v := x44) (lv' := [(4, .int x44), (3, .int v51_3), (0, .ref (ad 0)), (1, .int 1), (2, .int v51_2)]) hx hb dX12_weekdays_85 hl (k := 4) rfl ex44.symm (by decide) rfl (fun ls hl => ?_)
          have ex44 : x44.toInt = v51_4.toInt + 1 := by rw [ex44]; exact wk_add (y := 1) (show -2147483648 ≤ v51_4.toInt + 1 by omega) (show v51_4.toInt + 1 ≤ 2147483647 by omega)
          refine lv_goto (tgt := 51) hx hb dX12_weekdays_88 (by decide) ?_
          exact ih51 v51_2 v51_3 x44 f51_12_0 f51_12_1 H locs ls w37 (show 1 ≤ v51_2.toInt by omega) (show v51_2.toInt ≤ 127 by omega) (show 0 ≤ v51_3.toInt by omega) (show v51_3.toInt ≤ 11 by omega) (show 1 ≤ x44.toInt by omega) (show x44.toInt ≤ 12 by omega) (show 1 ≤ f51_12_0.toInt by omega) (show f51_12_0.toInt ≤ 10 by omega) (show 1 ≤ f51_12_1.toInt by omega) (show f51_12_1.toInt ≤ 12 by omega) (show (12 - x44.toInt).toNat < n51 by omega) hw hT hF c41 c42 (lv_sub hl [2, 3, 4, 1, 0] rfl)
        · have c43 : r27.toInt < r35.toInt := wk_leF c43
          refine lv_iload hx hb dX12_weekdays_78 (lv_at hl 4 rfl) ?_
          refine lv_goto (tgt := 84) hx hb dX12_weekdays_80 (by decide) ?_
          refine lv_istore_n (lv' := [(3, .int v51_4), (0, .ref (ad 0)), (1, .int 1), (2, .int v51_2), (4, .int v51_4)]) hx hb dX12_weekdays_84 rfl hl (by decide) rfl (fun ls hl => ?_)
          obtain ⟨x45, ex45⟩ : ∃ y : Int32, y = v51_4 + Int32.ofInt 1 := ⟨_, rfl⟩
          refine lv_iinc (v := x45) (lv' := [(4, .int x45), (3, .int v51_4), (0, .ref (ad 0)), (1, .int 1), (2, .int v51_2)]) hx hb dX12_weekdays_85 hl (k := 4) rfl ex45.symm (by decide) rfl (fun ls hl => ?_)
          have ex45 : x45.toInt = v51_4.toInt + 1 := by rw [ex45]; exact wk_add (y := 1) (show -2147483648 ≤ v51_4.toInt + 1 by omega) (show v51_4.toInt + 1 ≤ 2147483647 by omega)
          refine lv_goto (tgt := 51) hx hb dX12_weekdays_88 (by decide) ?_
          exact ih51 v51_2 v51_4 x45 f51_12_0 f51_12_1 H locs ls w37 (show 1 ≤ v51_2.toInt by omega) (show v51_2.toInt ≤ 127 by omega) (show 0 ≤ v51_4.toInt by omega) (show v51_4.toInt ≤ 11 by omega) (show 1 ≤ x45.toInt by omega) (show x45.toInt ≤ 12 by omega) (show 1 ≤ f51_12_0.toInt by omega) (show f51_12_0.toInt ≤ 10 by omega) (show 1 ≤ f51_12_1.toInt by omega) (show f51_12_1.toInt ≤ 12 by omega) (show (12 - x45.toInt).toNat < n51 by omega) hw hT hF c41 c42 (lv_sub hl [2, 3, 4, 1, 0] rfl)
  refine lv_aload_n hx hb dX12_weekdays_0 rfl (lv_at hl 0 rfl) ?_
  refine tk_Vi hC hK hw hT hA hE hSR kM_at0 (by decide) rfl (k_X12_isTown_1 l adK adV dC dI cy ad B (by omega) (by omega) qr s1    w0 s.heap.size hT ) (cwV 0 hC.2.2.2.2 gX12_weekdays_X12_isTown rfl rfl rfl (by decide +kernel) ⟨Nat.le_of_ble_eq_true rfl, Nat.le_of_ble_eq_true rfl⟩) rfl hl.1 rfl (Nat.le_of_ble_eq_true rfl) dX12_weekdays_1 (fun r46 w48 H locs hp47 hw => ?_)
  obtain ⟨hT, k49, hg54⟩ := hp47
  have hF := hF.tr k49 (by decide)
  rcases hg54 with ⟨rfl, ⟨x50, c51, rx50, tx50⟩⟩ | ⟨rfl, ⟨x52, c53, rx52, tx52⟩⟩
  · refine lv_if_eq (tgt := 17) hx hb dX12_weekdays_4 (by decide) (fun _ => ?_) (fun c => absurd (by decide) c)
    exact J17 x50 H locs ls w48 (show 0 ≤ x50.toInt by omega) (show x50.toInt ≤ 10 by omega)  hw hT hF c51 (lv_sub hl [0, 1] rfl)
  · refine lv_if_eq (tgt := 17) hx hb dX12_weekdays_4 (by decide) (fun c => absurd c (by decide)) (fun _ => ?_)
    refine lv_iload_n hx hb dX12_weekdays_7 rfl (lv_at hl 1 rfl) ?_
    refine lv_i2l hx hb dX12_weekdays_8 rfl ?_
    refine lv_topl (fun x55 ex55 => ?_)
    have ex55 : x55.toInt = a1.toInt := by rw [ex55]; exact wk_i2l _
    have bx55 := wk_i32 a1
    refine lv_lconst (v := 0) hx hb dX12_weekdays_9 (by decide) ?_
    refine lv_lconst (v := 1) hx hb dX12_weekdays_10 (by decide) ?_
    refine tk_Si hC hK hw hT hA hE hSR (k_X12_in_12 l adK adV dC dI cy ad B (by omega) (by omega) qr s1   x55 (show (-2147483648) ≤ x55.toInt by omega) (show x55.toInt ≤ 2147483647 by omega) w48 H.size hT ) (va_cwS 3 hC.2.2.2.2 gX12_weekdays_X12_in rfl rfl rfl (by decide +kernel) ⟨Nat.le_of_ble_eq_true rfl, Nat.le_of_ble_eq_true rfl⟩) rfl hl.1 rfl (Nat.le_of_ble_eq_true rfl) dX12_weekdays_11 (fun r56 w58 H locs hp57 hw => ?_)
    obtain ⟨hT, k59, hg62⟩ := hp57
    have hF := hF.tr k59 (by decide)
    have c63 := k59.gi kM_at12 (by decide) c53
    rcases hg62 with rfl | ⟨rfl, g60, g61⟩
    · refine lv_if_ne (tgt := 19) hx hb dX12_weekdays_14 (by decide) (fun c => absurd (by decide) c) (fun _ => ?_)
      exact J17 x52 H locs ls w58 (show 0 ≤ x52.toInt by omega) (show x52.toInt ≤ 10 by omega)  hw hT hF c63 (lv_sub hl [0, 1] rfl)
    · refine lv_if_ne (tgt := 19) hx hb dX12_weekdays_14 (by decide) (fun _ => ?_) (fun c => absurd c (by decide))
      refine lv_aload_n hx hb dX12_weekdays_19 rfl (lv_at hl 0 rfl) ?_
      refine tk_Vi hC hK hw hT hA hE hSR kM_at0 (by decide) rfl (k_X12_fitting_1 l adK adV dC dI cy ad B (by omega) (by omega) qr s1    w58 H.size hT ) (cwV 0 hC.2.2.2.2 gX12_weekdays_X12_fitting rfl rfl rfl (by decide +kernel) ⟨Nat.le_of_ble_eq_true rfl, Nat.le_of_ble_eq_true rfl⟩) rfl hl.1 rfl (Nat.le_of_ble_eq_true rfl) dX12_weekdays_20 (fun r64 w66 H locs hp65 hw => ?_)
      obtain ⟨hT, k67, hg70⟩ := hp65
      have hF := hF.tr k67 (by decide)
      have c71 := k67.gi kM_at12 (by decide) c63
      obtain ⟨g68, g69⟩ := hg70
      refine lv_istore_n (lv' := [(2, .int r64), (0, .ref (ad 0)), (1, .int a1)]) hx hb dX12_weekdays_23 rfl hl (by decide) rfl (fun ls hl => ?_)
      refine lv_iload_n hx hb dX12_weekdays_24 rfl (lv_at hl 2 rfl) ?_
      refine lv_if_ne (tgt := 30) hx hb dX12_weekdays_25 (by decide) (fun c72 => ?_) (fun c72 => ?_)
      · have c72 : ¬ a1.toInt = (0 : Int) := wk_eqF c72
        refine lv_iload_n hx hb dX12_weekdays_30 rfl (lv_at hl 0 rfl) ?_
        refine lv_if_eq (tgt := 43) hx hb dX12_weekdays_31 (by decide) (fun c73 => ?_) (fun c73 => ?_)
        · have c73 : r64.toInt = (0 : Int) := wk_eq.mp c73
          obtain rfl : a1 = 1 := wk_eq.mpr (show a1.toInt = 1 by omega)
          exact J43 r64 x52 H locs ls w66 (show 0 ≤ r64.toInt by omega) (show r64.toInt ≤ 127 by omega) (show 1 ≤ x52.toInt by omega) (show x52.toInt ≤ 10 by omega)  hw hT hF c71 (lv_sub hl [1, 2, 0] rfl)
        · have c73 : ¬ r64.toInt = (0 : Int) := wk_eqF c73
          refine lv_aload_n hx hb dX12_weekdays_34 rfl (lv_at hl 1 rfl) ?_
          refine tk_getA hC hK hw hT hinX12 kM_at0 (by decide) rfl 26 (by decide) (List.mem_of_getElem? (i := 1) rfl) rfl rfl dX12_weekdays_35 ?_
          refine lv_iconst (v := 1) hx hb dX12_weekdays_38 (by decide) ?_
          refine tk_ialdR hC hK hw hT kM_at12 rfl (by decide) (by decide) dX12_weekdays_39 (fun x74 c75 Ex74 => ?_)
          have bx74 : 0 ≤ x74.toInt ∧ x74.toInt ≤ 12 := (tk_rg1 rfl).mp Ex74
          have c75 : gi w66 12 1 = x74 := c75
          refine lv_if_ne (tgt := 46) hx hb dX12_weekdays_40 (by decide) (fun c76 => ?_) (fun c76 => ?_)
          · have c76 : ¬ x74.toInt = (0 : Int) := wk_eqF c76
            refine lv_iconst (v := 0) hx hb dX12_weekdays_46 (by decide) ?_
            refine lv_istore_n (lv' := [(3, .int 0), (2, .int r64), (0, .ref (ad 0)), (1, .int a1)]) hx hb dX12_weekdays_47 rfl hl (by decide) rfl (fun ls hl => ?_)
            refine lv_iconst (v := 1) hx hb dX12_weekdays_48 (by decide) ?_
            refine lv_istore (lv' := [(4, .int 1), (3, .int 0), (2, .int r64), (0, .ref (ad 0)), (1, .int a1)]) hx hb dX12_weekdays_49 hl (by decide) rfl (fun ls hl => ?_)
            obtain rfl : a1 = 1 := wk_eq.mpr (show a1.toInt = 1 by omega)
            exact L51 ((12 - (1 : Int)).toNat + 1) r64 0 1 x52 x74 H locs ls w66 (show 1 ≤ r64.toInt by omega) (show r64.toInt ≤ 127 by omega) (by decide) (by decide) (by decide) (by decide) (show 1 ≤ x52.toInt by omega) (show x52.toInt ≤ 10 by omega) (show 1 ≤ x74.toInt by omega) (show x74.toInt ≤ 12 by omega) (Nat.lt_succ_self _) hw hT hF c71 c75 (lv_sub hl [3, 4, 2, 1, 0] rfl)
          · have c76 : x74.toInt = (0 : Int) := wk_eq.mp c76
            obtain rfl : a1 = 1 := wk_eq.mpr (show a1.toInt = 1 by omega)
            exact J43 r64 x52 H locs ls w66 (show 0 ≤ r64.toInt by omega) (show r64.toInt ≤ 127 by omega) (show 1 ≤ x52.toInt by omega) (show x52.toInt ≤ 10 by omega)  hw hT hF c71 (lv_sub hl [1, 2, 0] rfl)
      · have c72 : a1.toInt = (0 : Int) := wk_eq.mp c72
        refine lv_iload_n hx hb dX12_weekdays_28 rfl (lv_at hl 0 rfl) ?_
        exact tk_iret hC hr hlocks hK ⟨hT, hF, (Or.inr (Or.inl ⟨(show 0 ≤ r64.toInt by omega), (show r64.toInt ≤ 127 by omega), ⟨x52, c71, (show 1 ≤ x52.toInt by omega), (show x52.toInt ≤ 10 by omega)⟩⟩))⟩ hw dX12_weekdays_29
abbrev P_X12_came_1 (ad : Nat → Nat) (cy : Nat → ClassId) (B : Int) (qr : Nat) (s1 : Int) (a1 : Int32) (w0 : va_W) : Int32 → va_W → Prop := fun r u => TW ksM ad cy B qr 12 u ∧ FE ksM [(71, 8, 8), (71, 288, 295)] w0 u ∧ ((r = (-2)) ∨ (0 ≤ r.toInt ∧ r.toInt ≤ 8 ∧ (-1) ≤ a1.toInt ∧ a1.toInt ≤ 9 ∧ (∃ y : Int32, gi u 12 8 = y ∧ 0 ≤ y.toInt ∧ y.toInt ≤ 8)))
set_option maxHeartbeats 4000000 in
set_option maxRecDepth 100000 in
theorem k_X12_came_1 (l : Launch) (adK adV : Nat → Nat) (dC : Nat → ClassId) (dI : Nat → Nat → Nat) (cy : Nat → ClassId) (ad : Nat → Nat) (B : Int) (hB0 : 100000 ≤ B) (hB1 : B ≤ 1073741824) (qr : Nat) (s1 : Int)  (a1 : Int32) (w0 : va_W) (sz : Nat) (hT : TW ksM ad cy B qr 12 w0)  : Met l yX12_came wsX12_came ({ frames := 2, cells := 0, slots := 0, locals := 33 }) (va_Pc [.ref (ad 0), .int a1] (wpreS adK adV dC dI cy sz w0)) (va_Qi (P_X12_came_1 ad cy B qr s1 a1 w0) (fun u : va_W => wpost dC dI cy (va_A w0 sz) u) (va_A w0 sz)) 0 0 (va_A w0 sz) := by
  refine Met.ofW (cc := cX12_came) (maxL := 2) (ret := (some .int)) (by decide) rfl ?_
  intro p e s m args below meth c s₁ Bk hml hv
  obtain ⟨rfl, ⟨hsz, hP, hK, hD0⟩, hE, hSR⟩ := hv
  have hx := Bk.exec
  have hb := Bk.bytes
  have hr := Bk.returns
  have hlocks := Bk.notSynchronized
  have hC : CallFix p m c cX12_came 2 s _ wsX12_came RX12 := ⟨hx, hb, hml, findClass_of_methodNamed Bk.named, atoms_spec (ws := wsX12_came) Bk.pre⟩
  subst hsz
  have hD := hD0.self (sz := s.heap.size)
  generalize hAe : va_A w0 s.heap.size = A at hD hE ⊢
  have hA : ∀ q : Nat, s.heap.size ≤ q → A q := fun q h => by rw [← hAe]; exact Or.inr h
  have hw : Wd dC dI A s.heap s.heap [] w0 := ⟨hP, hD, va_S.rf⟩
  have hF : FE ksM [(71, 8, 8), (71, 288, 295)] w0 w0 := FE.rf
  have hl := lv_entry ([.ref (ad 0), .int a1]) (n := 2) (Nat.le_of_ble_eq_true rfl)
  rw [lg_entry_eq]
  generalize (lg_sl ([.ref (ad 0), .int a1]) ++ List.replicate (2 - (lg_sl ([.ref (ad 0), .int a1])).length) Slot.unset).toArray = ls at hl ⊢
  have hl : lv_has ls 2 [(0, .ref (ad 0)), (1, .int a1)] := hl
  generalize hloc : ([] : List Loc) = locs at hw ⊢
  have hinX12 : ∀ w ∈ u_ws RX12 TX12 42, w ∈ wsX12_came := fun _ h => List.mem_cons_of_mem _ (List.mem_append_right _ (h))
  have J35 : ∀ (H : Heap) (locs : List Loc) (ls : Array Slot) (w1 : va_W), Wd dC dI A s.heap H locs w1 → TW ksM ad cy B qr 12 w1 → FE ksM [(71, 8, 8), (71, 288, 295)] w0 w1 → lv_has ls 2 [(0, .ref (ad 0)), (1, .int a1)] → W p l e ({ frames := 2, cells := 0, slots := 0, locals := 33 }) s m (List.toArray [.ref (ad 0), .int a1]) below meth c H locs 0 0 (MQ below (va_Qi (P_X12_came_1 ad cy B qr s1 a1 w0) (fun u : va_W => wpost dC dI cy A u) A) (List.toArray [.ref (ad 0), .int a1]) s 0 0 A) (F0 m 35 ls []) := by
    intro H locs ls w1 hw hT hF hl
    refine lv_bipush (v := (-2)) hx hb dX12_came_35 (by decide) ?_
    exact tk_iret hC hr hlocks hK ⟨hT, hF, (Or.inl rfl)⟩ hw dX12_came_37
  refine lv_iload_n hx hb dX12_came_0 rfl (lv_at hl 1 rfl) ?_
  refine lv_iconst (v := (-1)) hx hb dX12_came_1 (by decide) ?_
  refine lv_icmp_ne (tgt := 15) hx hb dX12_came_2 (by decide) (fun c2 => ?_) (fun c2 => ?_)
  · have c2 : ¬ a1.toInt = (-1 : Int) := wk_eqF c2
    refine lv_aload_n hx hb dX12_came_15 rfl (lv_at hl 0 rfl) ?_
    refine lv_iload_n hx hb dX12_came_16 rfl (lv_at hl 1 rfl) ?_
    refine tk_Vi hC hK hw hT hA hE hSR kM_at0 (by decide) rfl (k_X12_isCorner_1 l adK adV dC dI cy ad B (by omega) (by omega) qr s1   a1 w0 s.heap.size hT ) (cwV 1 hC.2.2.2.2 gX12_came_X12_isCorner rfl rfl rfl (by decide +kernel) ⟨Nat.le_of_ble_eq_true rfl, Nat.le_of_ble_eq_true rfl⟩) rfl hl.1 rfl (Nat.le_of_ble_eq_true rfl) dX12_came_17 (fun r3 w5 H locs hp4 hw => ?_)
    obtain ⟨hT, k6, hg11⟩ := hp4
    have hF := hF.tr k6 (by decide)
    rcases hg11 with rfl | ⟨rfl, g7, g8, ⟨x9, c10, rx9, tx9⟩⟩
    · refine lv_if_eq (tgt := 35) hx hb dX12_came_20 (by decide) (fun _ => ?_) (fun c => absurd (by decide) c)
      exact J35  H locs ls w5   hw hT hF  (lv_sub hl [0, 1] rfl)
    · refine lv_if_eq (tgt := 35) hx hb dX12_came_20 (by decide) (fun c => absurd c (by decide)) (fun _ => ?_)
      refine lv_aload_n hx hb dX12_came_23 rfl (lv_at hl 0 rfl) ?_
      refine tk_getA hC hK hw hT hinX12 kM_at0 (by decide) rfl 26 (by decide) (List.mem_of_getElem? (i := 1) rfl) rfl rfl dX12_came_24 ?_
      refine lv_bipush (v := 8) hx hb dX12_came_27 (by decide) ?_
      refine tk_ialdR hC hK hw hT kM_at12 rfl (by decide) (by decide) dX12_came_29 (fun x12 c13 Ex12 => ?_)
      have bx12 := tk_rgI rfl 8 1 1 0 8 (by decide +kernel) ⟨0, by decide, by decide⟩ Ex12
      have c13 : gi w5 12 8 = x12 := c13
      refine lv_bipush (v := 8) hx hb dX12_came_30 (by decide) ?_
      refine lv_icmp_ne (tgt := 38) hx hb dX12_came_32 (by decide) (fun c14 => ?_) (fun c14 => ?_)
      · have c14 : ¬ x12.toInt = (8 : Int) := wk_eqF c14
        refine lv_aload_n hx hb dX12_came_38 rfl (lv_at hl 0 rfl) ?_
        refine tk_getA hC hK hw hT hinX12 kM_at0 (by decide) rfl 26 (by decide) (List.mem_of_getElem? (i := 1) rfl) rfl rfl dX12_came_39 ?_
        refine lv_sipush (v := 288) hx hb dX12_came_42 (by decide) ?_
        refine lv_aload_n hx hb dX12_came_45 rfl (lv_at hl 0 rfl) ?_
        refine tk_getA hC hK hw hT hinX12 kM_at0 (by decide) rfl 26 (by decide) (List.mem_of_getElem? (i := 1) rfl) rfl rfl dX12_came_46 ?_
        refine lv_bipush (v := 8) hx hb dX12_came_49 (by decide) ?_
        refine tk_ialdR hC hK hw hT kM_at12 rfl (by decide) (by decide) dX12_came_51 (fun x15 c16 Ex15 => ?_)
        refine wk_top x12 (c16.symm.trans c13) ?_
        refine lv_iadd hx hb dX12_came_52 ?_
        refine lv_topi (fun x17 ex17 => ?_)
        have ex17 : x17.toInt = (288 : Int) + x12.toInt := by rw [ex17]; exact wk_add (show (-2147483648) ≤ (288 : Int) + x12.toInt by omega) (show (288 : Int) + x12.toInt ≤ 2147483647 by omega)
        refine lv_iload_n hx hb dX12_came_53 rfl (lv_at hl 1 rfl) ?_
        refine tk_iastR hC hK hw hT kM_at12 (by decide) rfl (show 0 ≤ x17.toInt by omega) (show x17.toInt < 296 by omega) (tk_rgS rfl 288 1 8 0 9 (by decide +kernel) ⟨(x12.toInt - 0).toNat, by omega, show x17.toInt.toNat = 288 + 1 * (x12.toInt - 0).toNat by omega⟩ (show 0 ≤ a1.toInt by omega) (show a1.toInt ≤ 9 by omega)) dX12_came_54 (fun H locs w18 hw hT k20 c19 => ?_)
        have hF := hF.put kM_at12 (inE_of (a := 288) (b := 295) (by decide) (show 288 ≤ x17.toInt.toNat by omega) (show x17.toInt.toNat ≤ 295 by omega)) k20
        have c21 := k20.gi (Or.inr (show 0 ≠ x17.toInt.toNat by omega)) c10
        have c22 := k20.gi (Or.inr (show 8 ≠ x17.toInt.toNat by omega)) c13
        refine lv_aload_n hx hb dX12_came_55 rfl (lv_at hl 0 rfl) ?_
        refine tk_getA hC hK hw hT hinX12 kM_at0 (by decide) rfl 26 (by decide) (List.mem_of_getElem? (i := 1) rfl) rfl rfl dX12_came_56 ?_
        refine lv_bipush (v := 8) hx hb dX12_came_59 (by decide) ?_
        refine lv_dup2_11 hx hb dX12_came_61 rfl rfl ?_
        refine tk_ialdR hC hK hw hT kM_at12 rfl (by decide) (by decide) dX12_came_62 (fun x23 c24 Ex23 => ?_)
        refine wk_top x12 (c24.symm.trans c22) ?_
        refine lv_iconst (v := 1) hx hb dX12_came_63 (by decide) ?_
        refine lv_iadd hx hb dX12_came_64 ?_
        refine lv_topi (fun x25 ex25 => ?_)
        have ex25 : x25.toInt = x12.toInt + (1 : Int) := by rw [ex25]; exact wk_add (show (-2147483648) ≤ x12.toInt + (1 : Int) by omega) (show x12.toInt + (1 : Int) ≤ 2147483647 by omega)
        refine tk_iastR hC hK hw hT kM_at12 (by decide) rfl (by decide) (by decide) (tk_rgS rfl 8 1 1 1 8 (by decide +kernel) ⟨0, by decide, by decide⟩ (show 1 ≤ x25.toInt by omega) (show x25.toInt ≤ 8 by omega)) dX12_came_65 (fun H locs w26 hw hT k28 c27 => ?_)
        have hF := hF.put kM_at12 (inE_of (a := 8) (b := 8) (by decide) (by decide) (by decide)) k28
        have c29 := k28.gi (Or.inr (by decide)) c21
        have c27 : gi w26 12 8 = x25 := c27
        refine lv_aload_n hx hb dX12_came_66 rfl (lv_at hl 0 rfl) ?_
        refine tk_getA hC hK hw hT hinX12 kM_at0 (by decide) rfl 26 (by decide) (List.mem_of_getElem? (i := 1) rfl) rfl rfl dX12_came_67 ?_
        refine lv_bipush (v := 8) hx hb dX12_came_70 (by decide) ?_
        refine tk_ialdR hC hK hw hT kM_at12 rfl (by decide) (by decide) dX12_came_72 (fun x30 c31 Ex30 => ?_)
        refine wk_top x25 (c31.symm.trans c27) ?_
        exact tk_iret hC hr hlocks hK ⟨hT, hF, (Or.inr ⟨(show 0 ≤ x25.toInt by omega), (show x25.toInt ≤ 8 by omega), (show (-1) ≤ a1.toInt by omega), (show a1.toInt ≤ 9 by omega), ⟨x25, c27, (show 0 ≤ x25.toInt by omega), (show x25.toInt ≤ 8 by omega)⟩⟩)⟩ hw dX12_came_73
      · have c14 : x12.toInt = (8 : Int) := wk_eq.mp c14
        exact J35  H locs ls w5   hw hT hF  (lv_sub hl [0, 1] rfl)
  · have c2 : a1.toInt = (-1 : Int) := wk_eq.mp c2
    refine lv_aload_n hx hb dX12_came_5 rfl (lv_at hl 0 rfl) ?_
    refine tk_getA hC hK hw hT hinX12 kM_at0 (by decide) rfl 26 (by decide) (List.mem_of_getElem? (i := 1) rfl) rfl rfl dX12_came_6 ?_
    refine lv_bipush (v := 8) hx hb dX12_came_9 (by decide) ?_
    refine lv_iconst (v := 0) hx hb dX12_came_11 (by decide) ?_
    refine tk_iastR hC hK hw hT kM_at12 (by decide) rfl (by decide) (by decide) (tk_rg0 rfl (show 0 ≤ B by omega) (by decide)) dX12_came_12 (fun H locs w32 hw hT k34 c33 => ?_)
    have hF := hF.put kM_at12 (inE_of (a := 8) (b := 8) (by decide) (by decide) (by decide)) k34
    have c33 : gi w32 12 8 = 0 := c33
    refine lv_iconst (v := 0) hx hb dX12_came_13 (by decide) ?_
    exact tk_iret hC hr hlocks hK ⟨hT, hF, (Or.inr ⟨(by decide), (by decide), (show (-1) ≤ a1.toInt by omega), (show a1.toInt ≤ 9 by omega), ⟨0, c33, (by decide), (by decide)⟩⟩)⟩ hw dX12_came_14
abbrev P_X12_streetOf_11 (ad : Nat → Nat) (cy : Nat → ClassId) (B : Int) (qr : Nat) (s1 : Int) (a1 : Int32) (w0 : va_W) : Int32 → va_W → Prop := fun r u => TW ksM ad cy B qr 13 u ∧ FE ksM ([] : List (Nat × Nat × Nat)) w0 u ∧ ((0 ≤ r.toInt ∧ r.toInt ≤ 9 ∧ gi u 12 (10 * a1.toInt + 10).toNat = r))
set_option maxHeartbeats 4000000 in
set_option maxRecDepth 100000 in
theorem k_X12_streetOf_11 (l : Launch) (adK adV : Nat → Nat) (dC : Nat → ClassId) (dI : Nat → Nat → Nat) (cy : Nat → ClassId) (ad : Nat → Nat) (B : Int) (hB0 : 100000 ≤ B) (hB1 : B ≤ 1073741824) (qr : Nat) (s1 : Int)  (a1 : Int32) (ra1 : 0 ≤ a1.toInt) (ta1 : a1.toInt ≤ 12) (w0 : va_W) (sz : Nat) (hT : TW ksM ad cy B qr 13 w0)  : Met l yX12_streetOf wsX12_streetOf ({ frames := 1, cells := 0, slots := 0, locals := 12 }) (va_Pc [.ref (ad 0), .int a1, .int 0] (wpreS adK adV dC dI cy sz w0)) (va_Qi (P_X12_streetOf_11 ad cy B qr s1 a1 w0) (fun u : va_W => wpost dC dI cy (va_A w0 sz) u) (va_A w0 sz)) 0 0 (va_A w0 sz) := by
  refine Met.ofW (cc := cX12_streetOf) (maxL := 3) (ret := (some .int)) (by decide) rfl ?_
  intro p e s m args below meth c s₁ Bk hml hv
  obtain ⟨rfl, ⟨hsz, hP, hK, hD0⟩, hE, hSR⟩ := hv
  have hx := Bk.exec
  have hb := Bk.bytes
  have hr := Bk.returns
  have hlocks := Bk.notSynchronized
  have hC : CallFix p m c cX12_streetOf 3 s _ wsX12_streetOf RX12 := ⟨hx, hb, hml, findClass_of_methodNamed Bk.named, atoms_spec (ws := wsX12_streetOf) Bk.pre⟩
  subst hsz
  have hD := hD0.self (sz := s.heap.size)
  generalize hAe : va_A w0 s.heap.size = A at hD hE ⊢
  have hA : ∀ q : Nat, s.heap.size ≤ q → A q := fun q h => by rw [← hAe]; exact Or.inr h
  have hw : Wd dC dI A s.heap s.heap [] w0 := ⟨hP, hD, va_S.rf⟩
  have hF : FE ksM ([] : List (Nat × Nat × Nat)) w0 w0 := FE.rf
  have hl := lv_entry ([.ref (ad 0), .int a1, .int 0]) (n := 3) (Nat.le_of_ble_eq_true rfl)
  rw [lg_entry_eq]
  generalize (lg_sl ([.ref (ad 0), .int a1, .int 0]) ++ List.replicate (3 - (lg_sl ([.ref (ad 0), .int a1, .int 0])).length) Slot.unset).toArray = ls at hl ⊢
  have hl : lv_has ls 3 [(0, .ref (ad 0)), (1, .int a1), (2, .int 0)] := hl
  generalize hloc : ([] : List Loc) = locs at hw ⊢
  have hinX12 : ∀ w ∈ u_ws RX12 TX12 42, w ∈ wsX12_streetOf := fun _ h => List.mem_cons_of_mem _ (List.mem_append_right _ (h))
  refine lv_aload_n hx hb dX12_streetOf_0 rfl (lv_at hl 0 rfl) ?_
  refine tk_getA hC hK hw hT hinX12 kM_at0 (by decide) rfl 26 (by decide) (List.mem_of_getElem? (i := 1) rfl) rfl rfl dX12_streetOf_1 ?_
  refine lv_bipush (v := 10) hx hb dX12_streetOf_4 (by decide) ?_
  refine lv_bipush (v := 10) hx hb dX12_streetOf_6 (by decide) ?_
  refine lv_iload_n hx hb dX12_streetOf_8 rfl (lv_at hl 1 rfl) ?_
  refine lv_imul hx hb dX12_streetOf_9 ?_
  refine lv_topi (fun x1 ex1 => ?_)
  have ex1 : x1.toInt = (10 : Int) * a1.toInt := by rw [ex1]; exact wk_mul (show (-2147483648) ≤ (10 : Int) * a1.toInt by omega) (show (10 : Int) * a1.toInt ≤ 2147483647 by omega)
  refine lv_iadd hx hb dX12_streetOf_10 ?_
  refine lv_topi (fun x2 ex2 => ?_)
  have ex2 : x2.toInt = (10 : Int) + x1.toInt := by rw [ex2]; exact wk_add (show (-2147483648) ≤ (10 : Int) + x1.toInt by omega) (show (10 : Int) + x1.toInt ≤ 2147483647 by omega)
  refine lv_iload_n hx hb dX12_streetOf_11 rfl (lv_at hl 2 rfl) ?_
  refine lv_iadd hx hb dX12_streetOf_12 ?_
  refine lv_topi (fun x3 ex3 => ?_)
  have ex3 : x3.toInt = x2.toInt + (0 : Int) := by rw [ex3]; exact wk_add (show (-2147483648) ≤ x2.toInt + (0 : Int) by omega) (show x2.toInt + (0 : Int) ≤ 2147483647 by omega)
  refine tk_ialdR hC hK hw hT kM_at12 rfl (show 0 ≤ x3.toInt by omega) (show x3.toInt < 296 by omega) dX12_streetOf_13 (fun x4 c5 Ex4 => ?_)
  have c5 : gi w0 12 (10 * a1.toInt + 10).toNat = x4 := (congrArg (gi w0 12) (congrArg Int.toNat (show 10 * a1.toInt + 10 = x3.toInt by omega))).trans c5
  have bx4 := tk_rgI rfl 10 10 13 0 9 (by decide +kernel) ⟨(a1.toInt - 0).toNat, by omega, show x3.toInt.toNat = 10 + 10 * (a1.toInt - 0).toNat by omega⟩ Ex4
  exact tk_iret hC hr hlocks hK ⟨hT, hF, ⟨(show 0 ≤ x4.toInt by omega), (show x4.toInt ≤ 9 by omega), c5⟩⟩ hw dX12_streetOf_14
abbrev P_X12_streetOf_12 (ad : Nat → Nat) (cy : Nat → ClassId) (B : Int) (qr : Nat) (s1 : Int) (a1 : Int32) (w0 : va_W) : Int32 → va_W → Prop := fun r u => TW ksM ad cy B qr 13 u ∧ FE ksM ([] : List (Nat × Nat × Nat)) w0 u ∧ ((0 ≤ r.toInt ∧ r.toInt ≤ 9 ∧ gi u 12 (10 * a1.toInt + 11).toNat = r))
set_option maxHeartbeats 4000000 in
set_option maxRecDepth 100000 in
theorem k_X12_streetOf_12 (l : Launch) (adK adV : Nat → Nat) (dC : Nat → ClassId) (dI : Nat → Nat → Nat) (cy : Nat → ClassId) (ad : Nat → Nat) (B : Int) (hB0 : 100000 ≤ B) (hB1 : B ≤ 1073741824) (qr : Nat) (s1 : Int)  (a1 : Int32) (ra1 : 0 ≤ a1.toInt) (ta1 : a1.toInt ≤ 12) (w0 : va_W) (sz : Nat) (hT : TW ksM ad cy B qr 13 w0)  : Met l yX12_streetOf wsX12_streetOf ({ frames := 1, cells := 0, slots := 0, locals := 12 }) (va_Pc [.ref (ad 0), .int a1, .int 1] (wpreS adK adV dC dI cy sz w0)) (va_Qi (P_X12_streetOf_12 ad cy B qr s1 a1 w0) (fun u : va_W => wpost dC dI cy (va_A w0 sz) u) (va_A w0 sz)) 0 0 (va_A w0 sz) := by
  refine Met.ofW (cc := cX12_streetOf) (maxL := 3) (ret := (some .int)) (by decide) rfl ?_
  intro p e s m args below meth c s₁ Bk hml hv
  obtain ⟨rfl, ⟨hsz, hP, hK, hD0⟩, hE, hSR⟩ := hv
  have hx := Bk.exec
  have hb := Bk.bytes
  have hr := Bk.returns
  have hlocks := Bk.notSynchronized
  have hC : CallFix p m c cX12_streetOf 3 s _ wsX12_streetOf RX12 := ⟨hx, hb, hml, findClass_of_methodNamed Bk.named, atoms_spec (ws := wsX12_streetOf) Bk.pre⟩
  subst hsz
  have hD := hD0.self (sz := s.heap.size)
  generalize hAe : va_A w0 s.heap.size = A at hD hE ⊢
  have hA : ∀ q : Nat, s.heap.size ≤ q → A q := fun q h => by rw [← hAe]; exact Or.inr h
  have hw : Wd dC dI A s.heap s.heap [] w0 := ⟨hP, hD, va_S.rf⟩
  have hF : FE ksM ([] : List (Nat × Nat × Nat)) w0 w0 := FE.rf
  have hl := lv_entry ([.ref (ad 0), .int a1, .int 1]) (n := 3) (Nat.le_of_ble_eq_true rfl)
  rw [lg_entry_eq]
  generalize (lg_sl ([.ref (ad 0), .int a1, .int 1]) ++ List.replicate (3 - (lg_sl ([.ref (ad 0), .int a1, .int 1])).length) Slot.unset).toArray = ls at hl ⊢
  have hl : lv_has ls 3 [(0, .ref (ad 0)), (1, .int a1), (2, .int 1)] := hl
  generalize hloc : ([] : List Loc) = locs at hw ⊢
  have hinX12 : ∀ w ∈ u_ws RX12 TX12 42, w ∈ wsX12_streetOf := fun _ h => List.mem_cons_of_mem _ (List.mem_append_right _ (h))
  refine lv_aload_n hx hb dX12_streetOf_0 rfl (lv_at hl 0 rfl) ?_
  refine tk_getA hC hK hw hT hinX12 kM_at0 (by decide) rfl 26 (by decide) (List.mem_of_getElem? (i := 1) rfl) rfl rfl dX12_streetOf_1 ?_
  refine lv_bipush (v := 10) hx hb dX12_streetOf_4 (by decide) ?_
  refine lv_bipush (v := 10) hx hb dX12_streetOf_6 (by decide) ?_
  refine lv_iload_n hx hb dX12_streetOf_8 rfl (lv_at hl 1 rfl) ?_
  refine lv_imul hx hb dX12_streetOf_9 ?_
  refine lv_topi (fun x1 ex1 => ?_)
  have ex1 : x1.toInt = (10 : Int) * a1.toInt := by rw [ex1]; exact wk_mul (show (-2147483648) ≤ (10 : Int) * a1.toInt by omega) (show (10 : Int) * a1.toInt ≤ 2147483647 by omega)
  refine lv_iadd hx hb dX12_streetOf_10 ?_
  refine lv_topi (fun x2 ex2 => ?_)
  have ex2 : x2.toInt = (10 : Int) + x1.toInt := by rw [ex2]; exact wk_add (show (-2147483648) ≤ (10 : Int) + x1.toInt by omega) (show (10 : Int) + x1.toInt ≤ 2147483647 by omega)
  refine lv_iload_n hx hb dX12_streetOf_11 rfl (lv_at hl 2 rfl) ?_
  refine lv_iadd hx hb dX12_streetOf_12 ?_
  refine lv_topi (fun x3 ex3 => ?_)
  have ex3 : x3.toInt = x2.toInt + (1 : Int) := by rw [ex3]; exact wk_add (show (-2147483648) ≤ x2.toInt + (1 : Int) by omega) (show x2.toInt + (1 : Int) ≤ 2147483647 by omega)
  refine tk_ialdR hC hK hw hT kM_at12 rfl (show 0 ≤ x3.toInt by omega) (show x3.toInt < 296 by omega) dX12_streetOf_13 (fun x4 c5 Ex4 => ?_)
  have c5 : gi w0 12 (10 * a1.toInt + 11).toNat = x4 := (congrArg (gi w0 12) (congrArg Int.toNat (show 10 * a1.toInt + 11 = x3.toInt by omega))).trans c5
  have bx4 := tk_rgI rfl 11 10 13 0 9 (by decide +kernel) ⟨(a1.toInt - 0).toNat, by omega, show x3.toInt.toNat = 11 + 10 * (a1.toInt - 0).toNat by omega⟩ Ex4
  exact tk_iret hC hr hlocks hK ⟨hT, hF, ⟨(show 0 ≤ x4.toInt by omega), (show x4.toInt ≤ 9 by omega), c5⟩⟩ hw dX12_streetOf_14
abbrev P_X12_isAt_3 (ad : Nat → Nat) (cy : Nat → ClassId) (B : Int) (qr : Nat) (s1 : Int) (a1 : Int32) (a2 : Int32) (w0 : va_W) : Int32 → va_W → Prop := fun r u => TW ksM ad cy B qr 13 u ∧ FE ksM ([] : List (Nat × Nat × Nat)) w0 u ∧ ((r = 0) ∨ (r = 1))
set_option maxHeartbeats 4000000 in
set_option maxRecDepth 100000 in
theorem k_X12_isAt_3 (l : Launch) (adK adV : Nat → Nat) (dC : Nat → ClassId) (dI : Nat → Nat → Nat) (cy : Nat → ClassId) (ad : Nat → Nat) (B : Int) (hB0 : 100000 ≤ B) (hB1 : B ≤ 1073741824) (qr : Nat) (s1 : Int)  (a1 : Int32) (ra1 : 0 ≤ a1.toInt) (ta1 : a1.toInt ≤ 12) (a2 : Int32) (ra2 : 0 ≤ a2.toInt) (ta2 : a2.toInt ≤ 9) (w0 : va_W) (sz : Nat) (hT : TW ksM ad cy B qr 13 w0)  : Met l yX12_isAt wsX12_isAt ({ frames := 2, cells := 0, slots := 0, locals := 34 }) (va_Pc [.ref (ad 0), .int a1, .int a2] (wpreS adK adV dC dI cy sz w0)) (va_Qi (P_X12_isAt_3 ad cy B qr s1 a1 a2 w0) (fun u : va_W => wpost dC dI cy (va_A w0 sz) u) (va_A w0 sz)) 0 0 (va_A w0 sz) := by
  refine Met.ofW (cc := cX12_isAt) (maxL := 3) (ret := (some .boolean)) (by decide) rfl ?_
  intro p e s m args below meth c s₁ Bk hml hv
  obtain ⟨rfl, ⟨hsz, hP, hK, hD0⟩, hE, hSR⟩ := hv
  have hx := Bk.exec
  have hb := Bk.bytes
  have hr := Bk.returns
  have hlocks := Bk.notSynchronized
  have hC : CallFix p m c cX12_isAt 3 s _ wsX12_isAt RX12 := ⟨hx, hb, hml, findClass_of_methodNamed Bk.named, atoms_spec (ws := wsX12_isAt) Bk.pre⟩
  subst hsz
  have hD := hD0.self (sz := s.heap.size)
  generalize hAe : va_A w0 s.heap.size = A at hD hE ⊢
  have hA : ∀ q : Nat, s.heap.size ≤ q → A q := fun q h => by rw [← hAe]; exact Or.inr h
  have hw : Wd dC dI A s.heap s.heap [] w0 := ⟨hP, hD, va_S.rf⟩
  have hF : FE ksM ([] : List (Nat × Nat × Nat)) w0 w0 := FE.rf
  have hl := lv_entry ([.ref (ad 0), .int a1, .int a2]) (n := 3) (Nat.le_of_ble_eq_true rfl)
  rw [lg_entry_eq]
  generalize (lg_sl ([.ref (ad 0), .int a1, .int a2]) ++ List.replicate (3 - (lg_sl ([.ref (ad 0), .int a1, .int a2])).length) Slot.unset).toArray = ls at hl ⊢
  have hl : lv_has ls 3 [(0, .ref (ad 0)), (1, .int a1), (2, .int a2)] := hl
  generalize hloc : ([] : List Loc) = locs at hw ⊢
  have J20 : ∀ (f20_12__10_a1_toInt_10_toNat : Int32) (H : Heap) (locs : List Loc) (ls : Array Slot) (w1 : va_W), 0 ≤ a1.toInt → a1.toInt ≤ 12 → 0 ≤ a2.toInt → a2.toInt ≤ 9 → 0 ≤ f20_12__10_a1_toInt_10_toNat.toInt → f20_12__10_a1_toInt_10_toNat.toInt ≤ 9 → Wd dC dI A s.heap H locs w1 → TW ksM ad cy B qr 13 w1 → FE ksM ([] : List (Nat × Nat × Nat)) w0 w1 → gi w1 12 (10 * a1.toInt + 10).toNat = f20_12__10_a1_toInt_10_toNat → lv_has ls 3 [(0, .ref (ad 0)), (1, .int a1), (2, .int a2)] → W p l e ({ frames := 2, cells := 0, slots := 0, locals := 34 }) s m (List.toArray [.ref (ad 0), .int a1, .int a2]) below meth c H locs 0 0 (MQ below (va_Qi (P_X12_isAt_3 ad cy B qr s1 a1 a2 w0) (fun u : va_W => wpost dC dI cy A u) A) (List.toArray [.ref (ad 0), .int a1, .int a2]) s 0 0 A) (F0 m 20 ls []) := by
    intro f20_12__10_a1_toInt_10_toNat H locs ls w1 r2 t3 r4 t5 r6 t7 hw hT hF c8 hl
    refine lv_iconst (v := 1) hx hb dX12_isAt_20 (by decide) ?_
    refine lv_goto (tgt := 25) hx hb dX12_isAt_21 (by decide) ?_
    exact tk_zret hC hr rfl hlocks hK ⟨hT, hF, (Or.inr rfl)⟩ hw dX12_isAt_25
  refine lv_aload_n hx hb dX12_isAt_0 rfl (lv_at hl 0 rfl) ?_
  refine lv_iload_n hx hb dX12_isAt_1 rfl (lv_at hl 1 rfl) ?_
  refine lv_iconst (v := 0) hx hb dX12_isAt_2 (by decide) ?_
  refine tk_Vi hC hK hw hT hA hE hSR kM_at0 (by decide) rfl (k_X12_streetOf_11 l adK adV dC dI cy ad B (by omega) (by omega) qr s1   a1 (show 0 ≤ a1.toInt by omega) (show a1.toInt ≤ 12 by omega) w0 s.heap.size hT ) (cwV 2 hC.2.2.2.2 gX12_isAt_X12_streetOf rfl rfl rfl (by decide +kernel) ⟨Nat.le_of_ble_eq_true rfl, Nat.le_of_ble_eq_true rfl⟩) rfl hl.1 rfl (Nat.le_of_ble_eq_true rfl) dX12_isAt_3 (fun r9 w11 H locs hp10 hw => ?_)
  obtain ⟨hT, k12, hg16⟩ := hp10
  have hF := hF.tr k12 (by decide)
  obtain ⟨g13, g14, c15⟩ := hg16
  refine lv_iload_n hx hb dX12_isAt_6 rfl (lv_at hl 2 rfl) ?_
  refine lv_icmp_eq (tgt := 20) hx hb dX12_isAt_7 (by decide) (fun c17 => ?_) (fun c17 => ?_)
  · have c17 : r9.toInt = a2.toInt := wk_eq.mp c17
    exact J20 r9 H locs ls w11 (show 0 ≤ a1.toInt by omega) (show a1.toInt ≤ 12 by omega) (show 0 ≤ a2.toInt by omega) (show a2.toInt ≤ 9 by omega) (show 0 ≤ r9.toInt by omega) (show r9.toInt ≤ 9 by omega)  hw hT hF c15 (lv_sub hl [0, 1, 2] rfl)
  · have c17 : ¬ r9.toInt = a2.toInt := wk_eqF c17
    refine lv_aload_n hx hb dX12_isAt_10 rfl (lv_at hl 0 rfl) ?_
    refine lv_iload_n hx hb dX12_isAt_11 rfl (lv_at hl 1 rfl) ?_
    refine lv_iconst (v := 1) hx hb dX12_isAt_12 (by decide) ?_
    refine tk_Vi hC hK hw hT hA hE hSR kM_at0 (by decide) rfl (k_X12_streetOf_12 l adK adV dC dI cy ad B (by omega) (by omega) qr s1   a1 (show 0 ≤ a1.toInt by omega) (show a1.toInt ≤ 12 by omega) w11 H.size hT ) (cwV 2 hC.2.2.2.2 gX12_isAt_X12_streetOf rfl rfl rfl (by decide +kernel) ⟨Nat.le_of_ble_eq_true rfl, Nat.le_of_ble_eq_true rfl⟩) rfl hl.1 rfl (Nat.le_of_ble_eq_true rfl) dX12_isAt_13 (fun r18 w20 H locs hp19 hw => ?_)
    obtain ⟨hT, k21, hg25⟩ := hp19
    have hF := hF.tr k21 (by decide)
    have c26 := k21.gi kM_at12 rfl c15
    obtain ⟨g22, g23, c24⟩ := hg25
    refine lv_iload_n hx hb dX12_isAt_16 rfl (lv_at hl 2 rfl) ?_
    refine lv_icmp_ne (tgt := 24) hx hb dX12_isAt_17 (by decide) (fun c27 => ?_) (fun c27 => ?_)
    · have c27 : ¬ r18.toInt = a2.toInt := wk_eqF c27
      refine lv_iconst (v := 0) hx hb dX12_isAt_24 (by decide) ?_
      exact tk_zret hC hr rfl hlocks hK ⟨hT, hF, (Or.inl rfl)⟩ hw dX12_isAt_25
    · have c27 : r18.toInt = a2.toInt := wk_eq.mp c27
      exact J20 r9 H locs ls w20 (show 0 ≤ a1.toInt by omega) (show a1.toInt ≤ 12 by omega) (show 0 ≤ a2.toInt by omega) (show a2.toInt ≤ 9 by omega) (show 0 ≤ r9.toInt by omega) (show r9.toInt ≤ 9 by omega)  hw hT hF c26 (lv_sub hl [0, 1, 2] rfl)
abbrev P_X12_streetOf_13 (ad : Nat → Nat) (cy : Nat → ClassId) (B : Int) (qr : Nat) (s1 : Int) (a1 : Int32) (a2 : Int32) (w0 : va_W) : Int32 → va_W → Prop := fun r u => TW ksM ad cy B qr 13 u ∧ FE ksM ([] : List (Nat × Nat × Nat)) w0 u ∧ ((0 ≤ r.toInt ∧ r.toInt ≤ 9))
set_option maxHeartbeats 4000000 in
set_option maxRecDepth 100000 in
theorem k_X12_streetOf_13 (l : Launch) (adK adV : Nat → Nat) (dC : Nat → ClassId) (dI : Nat → Nat → Nat) (cy : Nat → ClassId) (ad : Nat → Nat) (B : Int) (hB0 : 100000 ≤ B) (hB1 : B ≤ 1073741824) (qr : Nat) (s1 : Int)  (a1 : Int32) (ra1 : 0 ≤ a1.toInt) (ta1 : a1.toInt ≤ 12) (a2 : Int32) (ra2 : 3 ≤ a2.toInt) (ta2 : a2.toInt ≤ 9) (w0 : va_W) (sz : Nat) (hT : TW ksM ad cy B qr 13 w0)  : Met l yX12_streetOf wsX12_streetOf ({ frames := 1, cells := 0, slots := 0, locals := 12 }) (va_Pc [.ref (ad 0), .int a1, .int a2] (wpreS adK adV dC dI cy sz w0)) (va_Qi (P_X12_streetOf_13 ad cy B qr s1 a1 a2 w0) (fun u : va_W => wpost dC dI cy (va_A w0 sz) u) (va_A w0 sz)) 0 0 (va_A w0 sz) := by
  refine Met.ofW (cc := cX12_streetOf) (maxL := 3) (ret := (some .int)) (by decide) rfl ?_
  intro p e s m args below meth c s₁ Bk hml hv
  obtain ⟨rfl, ⟨hsz, hP, hK, hD0⟩, hE, hSR⟩ := hv
  have hx := Bk.exec
  have hb := Bk.bytes
  have hr := Bk.returns
  have hlocks := Bk.notSynchronized
  have hC : CallFix p m c cX12_streetOf 3 s _ wsX12_streetOf RX12 := ⟨hx, hb, hml, findClass_of_methodNamed Bk.named, atoms_spec (ws := wsX12_streetOf) Bk.pre⟩
  subst hsz
  have hD := hD0.self (sz := s.heap.size)
  generalize hAe : va_A w0 s.heap.size = A at hD hE ⊢
  have hA : ∀ q : Nat, s.heap.size ≤ q → A q := fun q h => by rw [← hAe]; exact Or.inr h
  have hw : Wd dC dI A s.heap s.heap [] w0 := ⟨hP, hD, va_S.rf⟩
  have hF : FE ksM ([] : List (Nat × Nat × Nat)) w0 w0 := FE.rf
  have hl := lv_entry ([.ref (ad 0), .int a1, .int a2]) (n := 3) (Nat.le_of_ble_eq_true rfl)
  rw [lg_entry_eq]
  generalize (lg_sl ([.ref (ad 0), .int a1, .int a2]) ++ List.replicate (3 - (lg_sl ([.ref (ad 0), .int a1, .int a2])).length) Slot.unset).toArray = ls at hl ⊢
  have hl : lv_has ls 3 [(0, .ref (ad 0)), (1, .int a1), (2, .int a2)] := hl
  generalize hloc : ([] : List Loc) = locs at hw ⊢
  have hinX12 : ∀ w ∈ u_ws RX12 TX12 42, w ∈ wsX12_streetOf := fun _ h => List.mem_cons_of_mem _ (List.mem_append_right _ (h))
  refine lv_aload_n hx hb dX12_streetOf_0 rfl (lv_at hl 0 rfl) ?_
  refine tk_getA hC hK hw hT hinX12 kM_at0 (by decide) rfl 26 (by decide) (List.mem_of_getElem? (i := 1) rfl) rfl rfl dX12_streetOf_1 ?_
  refine lv_bipush (v := 10) hx hb dX12_streetOf_4 (by decide) ?_
  refine lv_bipush (v := 10) hx hb dX12_streetOf_6 (by decide) ?_
  refine lv_iload_n hx hb dX12_streetOf_8 rfl (lv_at hl 1 rfl) ?_
  refine lv_imul hx hb dX12_streetOf_9 ?_
  refine lv_topi (fun x1 ex1 => ?_)
  have ex1 : x1.toInt = (10 : Int) * a1.toInt := by rw [ex1]; exact wk_mul (show (-2147483648) ≤ (10 : Int) * a1.toInt by omega) (show (10 : Int) * a1.toInt ≤ 2147483647 by omega)
  refine lv_iadd hx hb dX12_streetOf_10 ?_
  refine lv_topi (fun x2 ex2 => ?_)
  have ex2 : x2.toInt = (10 : Int) + x1.toInt := by rw [ex2]; exact wk_add (show (-2147483648) ≤ (10 : Int) + x1.toInt by omega) (show (10 : Int) + x1.toInt ≤ 2147483647 by omega)
  refine lv_iload_n hx hb dX12_streetOf_11 rfl (lv_at hl 2 rfl) ?_
  refine lv_iadd hx hb dX12_streetOf_12 ?_
  refine lv_topi (fun x3 ex3 => ?_)
  have ex3 : x3.toInt = x2.toInt + a2.toInt := by rw [ex3]; exact wk_add (show (-2147483648) ≤ x2.toInt + a2.toInt by omega) (show x2.toInt + a2.toInt ≤ 2147483647 by omega)
  refine tk_ialdR hC hK hw hT kM_at12 rfl (show 0 ≤ x3.toInt by omega) (show x3.toInt < 296 by omega) dX12_streetOf_13 (fun x4 c5 Ex4 => ?_)
  have c5 : gi w0 12 (x3.toInt).toNat = x4 := (congrArg (gi w0 12) (congrArg Int.toNat (show x3.toInt = x3.toInt by omega))).trans c5
  have bx4 := tk_rgI rfl 13 1 127 0 9 (by decide +kernel) ⟨(x3.toInt - 13).toNat, by omega, show x3.toInt.toNat = 13 + 1 * (x3.toInt - 13).toNat by omega⟩ Ex4
  exact tk_iret hC hr hlocks hK ⟨hT, hF, ⟨(show 0 ≤ x4.toInt by omega), (show x4.toInt ≤ 9 by omega)⟩⟩ hw dX12_streetOf_14
abbrev P_X12_isOf_9 (ad : Nat → Nat) (cy : Nat → ClassId) (B : Int) (qr : Nat) (s1 : Int) (a0 : Int32) (w0 : va_W) : Int32 → va_W → Prop := fun r u => TW ksM ad cy B qr 13 u ∧ FE ksM ([] : List (Nat × Nat × Nat)) w0 u ∧ ((r = 0) ∨ (r = 1))
set_option maxHeartbeats 4000000 in
set_option maxRecDepth 100000 in
theorem k_X12_isOf_9 (l : Launch) (adK adV : Nat → Nat) (dC : Nat → ClassId) (dI : Nat → Nat → Nat) (cy : Nat → ClassId) (ad : Nat → Nat) (B : Int) (hB0 : 100000 ≤ B) (hB1 : B ≤ 1073741824) (qr : Nat) (s1 : Int)  (a0 : Int32) (ra0 : 0 ≤ a0.toInt) (ta0 : a0.toInt ≤ 9) (w0 : va_W) (sz : Nat) (hT : TW ksM ad cy B qr 13 w0)  : Met l yX12_isOf wsX12_isOf ({ frames := 1, cells := 0, slots := 0, locals := 12 }) (va_Pc [.int a0, .int 1] (wpreS adK adV dC dI cy sz w0)) (va_Qi (P_X12_isOf_9 ad cy B qr s1 a0 w0) (fun u : va_W => wpost dC dI cy (va_A w0 sz) u) (va_A w0 sz)) 0 0 (va_A w0 sz) := by
  refine Met.ofW (cc := cX12_isOf) (maxL := 2) (ret := (some .boolean)) (by decide) rfl ?_
  intro p e s m args below meth c s₁ Bk hml hv
  obtain ⟨rfl, ⟨hsz, hP, hK, hD0⟩, hE, hSR⟩ := hv
  have hx := Bk.exec
  have hb := Bk.bytes
  have hr := Bk.returns
  have hlocks := Bk.notSynchronized
  have hC : CallFix p m c cX12_isOf 2 s _ wsX12_isOf RX12 := ⟨hx, hb, hml, findClass_of_methodNamed Bk.named, atoms_spec (ws := wsX12_isOf) Bk.pre⟩
  subst hsz
  have hD := hD0.self (sz := s.heap.size)
  generalize hAe : va_A w0 s.heap.size = A at hD hE ⊢
  have hA : ∀ q : Nat, s.heap.size ≤ q → A q := fun q h => by rw [← hAe]; exact Or.inr h
  have hw : Wd dC dI A s.heap s.heap [] w0 := ⟨hP, hD, va_S.rf⟩
  have hF : FE ksM ([] : List (Nat × Nat × Nat)) w0 w0 := FE.rf
  have hl := lv_entry ([.int a0, .int 1]) (n := 2) (Nat.le_of_ble_eq_true rfl)
  rw [lg_entry_eq]
  generalize (lg_sl ([.int a0, .int 1]) ++ List.replicate (2 - (lg_sl ([.int a0, .int 1])).length) Slot.unset).toArray = ls at hl ⊢
  have hl : lv_has ls 2 [(0, .int a0), (1, .int 1)] := hl
  generalize hloc : ([] : List Loc) = locs at hw ⊢
  refine lv_iload_n hx hb dX12_isOf_0 rfl (lv_at hl 0 rfl) ?_
  refine lv_iload_n hx hb dX12_isOf_1 rfl (lv_at hl 1 rfl) ?_
  refine lv_ishr hx hb dX12_isOf_2 ?_
  refine lv_topi (fun x1 ex1 => ?_)
  have bx1 : 0 ≤ x1.toInt ∧ x1.toInt ≤ a0.toInt := by rw [ex1]; exact wk_shr (by omega)
  refine lv_iconst (v := 1) hx hb dX12_isOf_3 (by decide) ?_
  refine lv_iand hx hb dX12_isOf_4 ?_
  refine lv_topi (fun x2 ex2 => ?_)
  have bx2 : 0 ≤ x2.toInt ∧ x2.toInt ≤ (1 : Int) := by rw [ex2]; exact wk_and (by decide)
  refine lv_iconst (v := 1) hx hb dX12_isOf_5 (by decide) ?_
  refine lv_icmp_ne (tgt := 13) hx hb dX12_isOf_6 (by decide) (fun c3 => ?_) (fun c3 => ?_)
  · have c3 : ¬ x2.toInt = (1 : Int) := wk_eqF c3
    refine lv_iconst (v := 0) hx hb dX12_isOf_13 (by decide) ?_
    exact tk_zret hC hr rfl hlocks hK ⟨hT, hF, (Or.inl rfl)⟩ hw dX12_isOf_14
  · have c3 : x2.toInt = (1 : Int) := wk_eq.mp c3
    refine lv_iconst (v := 1) hx hb dX12_isOf_9 (by decide) ?_
    refine lv_goto (tgt := 14) hx hb dX12_isOf_10 (by decide) ?_
    exact tk_zret hC hr rfl hlocks hK ⟨hT, hF, (Or.inr rfl)⟩ hw dX12_isOf_14
abbrev P_X12_isOf_10 (ad : Nat → Nat) (cy : Nat → ClassId) (B : Int) (qr : Nat) (s1 : Int) (a0 : Int32) (w0 : va_W) : Int32 → va_W → Prop := fun r u => TW ksM ad cy B qr 13 u ∧ FE ksM ([] : List (Nat × Nat × Nat)) w0 u ∧ ((r = 0) ∨ (r = 1))
set_option maxHeartbeats 4000000 in
set_option maxRecDepth 100000 in
theorem k_X12_isOf_10 (l : Launch) (adK adV : Nat → Nat) (dC : Nat → ClassId) (dI : Nat → Nat → Nat) (cy : Nat → ClassId) (ad : Nat → Nat) (B : Int) (hB0 : 100000 ≤ B) (hB1 : B ≤ 1073741824) (qr : Nat) (s1 : Int)  (a0 : Int32) (ra0 : 0 ≤ a0.toInt) (ta0 : a0.toInt ≤ 9) (w0 : va_W) (sz : Nat) (hT : TW ksM ad cy B qr 13 w0)  : Met l yX12_isOf wsX12_isOf ({ frames := 1, cells := 0, slots := 0, locals := 12 }) (va_Pc [.int a0, .int 0] (wpreS adK adV dC dI cy sz w0)) (va_Qi (P_X12_isOf_10 ad cy B qr s1 a0 w0) (fun u : va_W => wpost dC dI cy (va_A w0 sz) u) (va_A w0 sz)) 0 0 (va_A w0 sz) := by
  refine Met.ofW (cc := cX12_isOf) (maxL := 2) (ret := (some .boolean)) (by decide) rfl ?_
  intro p e s m args below meth c s₁ Bk hml hv
  obtain ⟨rfl, ⟨hsz, hP, hK, hD0⟩, hE, hSR⟩ := hv
  have hx := Bk.exec
  have hb := Bk.bytes
  have hr := Bk.returns
  have hlocks := Bk.notSynchronized
  have hC : CallFix p m c cX12_isOf 2 s _ wsX12_isOf RX12 := ⟨hx, hb, hml, findClass_of_methodNamed Bk.named, atoms_spec (ws := wsX12_isOf) Bk.pre⟩
  subst hsz
  have hD := hD0.self (sz := s.heap.size)
  generalize hAe : va_A w0 s.heap.size = A at hD hE ⊢
  have hA : ∀ q : Nat, s.heap.size ≤ q → A q := fun q h => by rw [← hAe]; exact Or.inr h
  have hw : Wd dC dI A s.heap s.heap [] w0 := ⟨hP, hD, va_S.rf⟩
  have hF : FE ksM ([] : List (Nat × Nat × Nat)) w0 w0 := FE.rf
  have hl := lv_entry ([.int a0, .int 0]) (n := 2) (Nat.le_of_ble_eq_true rfl)
  rw [lg_entry_eq]
  generalize (lg_sl ([.int a0, .int 0]) ++ List.replicate (2 - (lg_sl ([.int a0, .int 0])).length) Slot.unset).toArray = ls at hl ⊢
  have hl : lv_has ls 2 [(0, .int a0), (1, .int 0)] := hl
  generalize hloc : ([] : List Loc) = locs at hw ⊢
  refine lv_iload_n hx hb dX12_isOf_0 rfl (lv_at hl 0 rfl) ?_
  refine lv_iload_n hx hb dX12_isOf_1 rfl (lv_at hl 1 rfl) ?_
  refine lv_ishr hx hb dX12_isOf_2 ?_
  refine lv_topi (fun x1 ex1 => ?_)
  have bx1 : 0 ≤ x1.toInt ∧ x1.toInt ≤ a0.toInt := by rw [ex1]; exact wk_shr (by omega)
  refine lv_iconst (v := 1) hx hb dX12_isOf_3 (by decide) ?_
  refine lv_iand hx hb dX12_isOf_4 ?_
  refine lv_topi (fun x2 ex2 => ?_)
  have bx2 : 0 ≤ x2.toInt ∧ x2.toInt ≤ (1 : Int) := by rw [ex2]; exact wk_and (by decide)
  refine lv_iconst (v := 1) hx hb dX12_isOf_5 (by decide) ?_
  refine lv_icmp_ne (tgt := 13) hx hb dX12_isOf_6 (by decide) (fun c3 => ?_) (fun c3 => ?_)
  · have c3 : ¬ x2.toInt = (1 : Int) := wk_eqF c3
    refine lv_iconst (v := 0) hx hb dX12_isOf_13 (by decide) ?_
    exact tk_zret hC hr rfl hlocks hK ⟨hT, hF, (Or.inl rfl)⟩ hw dX12_isOf_14
  · have c3 : x2.toInt = (1 : Int) := wk_eq.mp c3
    refine lv_iconst (v := 1) hx hb dX12_isOf_9 (by decide) ?_
    refine lv_goto (tgt := 14) hx hb dX12_isOf_10 (by decide) ?_
    exact tk_zret hC hr rfl hlocks hK ⟨hT, hF, (Or.inr rfl)⟩ hw dX12_isOf_14
abbrev P_X12_hasSign_3 (ad : Nat → Nat) (cy : Nat → ClassId) (B : Int) (qr : Nat) (s1 : Int) (a1 : Int32) (a2 : Int32) (a3 : Int32) (w0 : va_W) : Int32 → va_W → Prop := fun r u => TW ksM ad cy B qr 13 u ∧ FE ksM ([] : List (Nat × Nat × Nat)) w0 u ∧ ((r = 0) ∨ (r = 0 ∧ gi u 12 (10 * a2.toInt + 10).toNat = a3) ∨ (r = 1) ∨ (r = 1 ∧ gi u 12 (10 * a2.toInt + 10).toNat = a3))
set_option maxHeartbeats 4000000 in
set_option maxRecDepth 100000 in
theorem k_X12_hasSign_3 (l : Launch) (adK adV : Nat → Nat) (dC : Nat → ClassId) (dI : Nat → Nat → Nat) (cy : Nat → ClassId) (ad : Nat → Nat) (B : Int) (hB0 : 100000 ≤ B) (hB1 : B ≤ 1073741824) (qr : Nat) (s1 : Int)  (a1 : Int32) (ra1 : 0 ≤ a1.toInt) (ta1 : a1.toInt ≤ 9) (a2 : Int32) (ra2 : 0 ≤ a2.toInt) (ta2 : a2.toInt ≤ 12) (a3 : Int32) (ra3 : 0 ≤ a3.toInt) (ta3 : a3.toInt ≤ 9) (w0 : va_W) (sz : Nat) (hT : TW ksM ad cy B qr 13 w0)  : Met l yX12_hasSign wsX12_hasSign ({ frames := 2, cells := 0, slots := 0, locals := 34 }) (va_Pc [.ref (ad 0), .int a1, .int a2, .int a3] (wpreS adK adV dC dI cy sz w0)) (va_Qi (P_X12_hasSign_3 ad cy B qr s1 a1 a2 a3 w0) (fun u : va_W => wpost dC dI cy (va_A w0 sz) u) (va_A w0 sz)) 0 0 (va_A w0 sz) := by
  refine Met.ofW (cc := cX12_hasSign) (maxL := 4) (ret := (some .boolean)) (by decide) rfl ?_
  intro p e s m args below meth c s₁ Bk hml hv
  obtain ⟨rfl, ⟨hsz, hP, hK, hD0⟩, hE, hSR⟩ := hv
  have hx := Bk.exec
  have hb := Bk.bytes
  have hr := Bk.returns
  have hlocks := Bk.notSynchronized
  have hC : CallFix p m c cX12_hasSign 4 s _ wsX12_hasSign RX12 := ⟨hx, hb, hml, findClass_of_methodNamed Bk.named, atoms_spec (ws := wsX12_hasSign) Bk.pre⟩
  subst hsz
  have hD := hD0.self (sz := s.heap.size)
  generalize hAe : va_A w0 s.heap.size = A at hD hE ⊢
  have hA : ∀ q : Nat, s.heap.size ≤ q → A q := fun q h => by rw [← hAe]; exact Or.inr h
  have hw : Wd dC dI A s.heap s.heap [] w0 := ⟨hP, hD, va_S.rf⟩
  have hF : FE ksM ([] : List (Nat × Nat × Nat)) w0 w0 := FE.rf
  have hl := lv_entry ([.ref (ad 0), .int a1, .int a2, .int a3]) (n := 4) (Nat.le_of_ble_eq_true rfl)
  rw [lg_entry_eq]
  generalize (lg_sl ([.ref (ad 0), .int a1, .int a2, .int a3]) ++ List.replicate (4 - (lg_sl ([.ref (ad 0), .int a1, .int a2, .int a3])).length) Slot.unset).toArray = ls at hl ⊢
  have hl : lv_has ls 4 [(0, .ref (ad 0)), (1, .int a1), (2, .int a2), (3, .int a3)] := hl
  generalize hloc : ([] : List Loc) = locs at hw ⊢
  refine lv_iload_n hx hb dX12_hasSign_0 rfl (lv_at hl 1 rfl) ?_
  refine lv_aload_n hx hb dX12_hasSign_1 rfl (lv_at hl 0 rfl) ?_
  refine lv_iload_n hx hb dX12_hasSign_2 rfl (lv_at hl 2 rfl) ?_
  refine lv_iconst (v := 0) hx hb dX12_hasSign_3 (by decide) ?_
  refine tk_Vi hC hK hw hT hA hE hSR kM_at0 (by decide) rfl (k_X12_streetOf_11 l adK adV dC dI cy ad B (by omega) (by omega) qr s1   a2 (show 0 ≤ a2.toInt by omega) (show a2.toInt ≤ 12 by omega) w0 s.heap.size hT ) (cwV 2 hC.2.2.2.2 gX12_hasSign_X12_streetOf rfl rfl rfl (by decide +kernel) ⟨Nat.le_of_ble_eq_true rfl, Nat.le_of_ble_eq_true rfl⟩) rfl hl.1 rfl (Nat.le_of_ble_eq_true rfl) dX12_hasSign_4 (fun r1 w3 H locs hp2 hw => ?_)
  obtain ⟨hT, k4, hg8⟩ := hp2
  have hF := hF.tr k4 (by decide)
  obtain ⟨g5, g6, c7⟩ := hg8
  refine lv_iload_n hx hb dX12_hasSign_7 rfl (lv_at hl 3 rfl) ?_
  refine lv_icmp_ne (tgt := 15) hx hb dX12_hasSign_8 (by decide) (fun c9 => ?_) (fun c9 => ?_)
  · have c9 : ¬ r1.toInt = a3.toInt := wk_eqF c9
    refine lv_iconst (v := 1) hx hb dX12_hasSign_15 (by decide) ?_
    refine tk_Si hC hK hw hT hA hE hSR (k_X12_isOf_9 l adK adV dC dI cy ad B (by omega) (by omega) qr s1   a1 (show 0 ≤ a1.toInt by omega) (show a1.toInt ≤ 9 by omega) w3 H.size hT ) (va_cwS 2 hC.2.2.2.2 gX12_hasSign_X12_isOf rfl rfl rfl (by decide +kernel) ⟨Nat.le_of_ble_eq_true rfl, Nat.le_of_ble_eq_true rfl⟩) rfl hl.1 rfl (Nat.le_of_ble_eq_true rfl) dX12_hasSign_16 (fun r10 w12 H locs hp11 hw => ?_)
    obtain ⟨hT, k13, hg14⟩ := hp11
    have hF := hF.tr k13 (by decide)
    have c15 := k13.gi kM_at12 rfl c7
    rcases hg14 with rfl | rfl
    · exact tk_zret hC hr rfl hlocks hK ⟨hT, hF, (Or.inl rfl)⟩ hw dX12_hasSign_19
    · exact tk_zret hC hr rfl hlocks hK ⟨hT, hF, (Or.inr (Or.inr (Or.inl rfl)))⟩ hw dX12_hasSign_19
  · have c9 : r1.toInt = a3.toInt := wk_eq.mp c9
    refine lv_iconst (v := 0) hx hb dX12_hasSign_11 (by decide) ?_
    refine lv_goto (tgt := 16) hx hb dX12_hasSign_12 (by decide) ?_
    refine tk_Si hC hK hw hT hA hE hSR (k_X12_isOf_10 l adK adV dC dI cy ad B (by omega) (by omega) qr s1   a1 (show 0 ≤ a1.toInt by omega) (show a1.toInt ≤ 9 by omega) w3 H.size hT ) (va_cwS 2 hC.2.2.2.2 gX12_hasSign_X12_isOf rfl rfl rfl (by decide +kernel) ⟨Nat.le_of_ble_eq_true rfl, Nat.le_of_ble_eq_true rfl⟩) rfl hl.1 rfl (Nat.le_of_ble_eq_true rfl) dX12_hasSign_16 (fun r16 w18 H locs hp17 hw => ?_)
    obtain ⟨hT, k19, hg20⟩ := hp17
    have hF := hF.tr k19 (by decide)
    have c21 := k19.gi kM_at12 rfl c7
    rcases hg20 with rfl | rfl
    · exact tk_zret hC hr rfl hlocks hK ⟨hT, hF, (Or.inr (Or.inl ⟨rfl, (c21.trans (wk_eq.mpr (show r1.toInt = a3.toInt by omega)))⟩))⟩ hw dX12_hasSign_19
    · exact tk_zret hC hr rfl hlocks hK ⟨hT, hF, (Or.inr (Or.inr (Or.inr ⟨rfl, (c21.trans (wk_eq.mpr (show r1.toInt = a3.toInt by omega)))⟩)))⟩ hw dX12_hasSign_19
abbrev P_X12_isClosed_2 (ad : Nat → Nat) (cy : Nat → ClassId) (B : Int) (qr : Nat) (s1 : Int) (a1 : Int32) (a2 : Int32) (w0 : va_W) : Int32 → va_W → Prop := fun r u => TW ksM ad cy B qr 13 u ∧ FE ksM ([] : List (Nat × Nat × Nat)) w0 u ∧ ((r = 0) ∨ (r = 1 ∧ (∃ y : Int32, gi u 0 27 = y ∧ 1 ≤ y.toInt ∧ y.toInt ≤ 1) ∧ (∃ y : Int32, gi u 12 2 = y ∧ 1 ≤ y.toInt ∧ y.toInt ≤ 8)))
set_option maxHeartbeats 4000000 in
set_option maxRecDepth 100000 in
theorem k_X12_isClosed_2 (l : Launch) (adK adV : Nat → Nat) (dC : Nat → ClassId) (dI : Nat → Nat → Nat) (cy : Nat → ClassId) (ad : Nat → Nat) (B : Int) (hB0 : 100000 ≤ B) (hB1 : B ≤ 1073741824) (qr : Nat) (s1 : Int)  (a1 : Int32) (ra1 : 0 ≤ a1.toInt) (ta1 : a1.toInt ≤ 9) (a2 : Int32) (ra2 : 0 ≤ a2.toInt) (ta2 : a2.toInt ≤ 359) (w0 : va_W) (sz : Nat) (hT : TW ksM ad cy B qr 13 w0)  : Met l yX12_isClosed wsX12_isClosed ({ frames := 1, cells := 0, slots := 0, locals := 12 }) (va_Pc [.ref (ad 0), .int a1, .int a2] (wpreS adK adV dC dI cy sz w0)) (va_Qi (P_X12_isClosed_2 ad cy B qr s1 a1 a2 w0) (fun u : va_W => wpost dC dI cy (va_A w0 sz) u) (va_A w0 sz)) 0 0 (va_A w0 sz) := by
  refine Met.ofW (cc := cX12_isClosed) (maxL := 4) (ret := (some .boolean)) (by decide) rfl ?_
  intro p e s m args below meth c s₁ Bk hml hv
  obtain ⟨rfl, ⟨hsz, hP, hK, hD0⟩, hE, hSR⟩ := hv
  have hx := Bk.exec
  have hb := Bk.bytes
  have hr := Bk.returns
  have hlocks := Bk.notSynchronized
  have hC : CallFix p m c cX12_isClosed 4 s _ wsX12_isClosed RX12 := ⟨hx, hb, hml, findClass_of_methodNamed Bk.named, atoms_spec (ws := wsX12_isClosed) Bk.pre⟩
  subst hsz
  have hD := hD0.self (sz := s.heap.size)
  generalize hAe : va_A w0 s.heap.size = A at hD hE ⊢
  have hA : ∀ q : Nat, s.heap.size ≤ q → A q := fun q h => by rw [← hAe]; exact Or.inr h
  have hw : Wd dC dI A s.heap s.heap [] w0 := ⟨hP, hD, va_S.rf⟩
  have hF : FE ksM ([] : List (Nat × Nat × Nat)) w0 w0 := FE.rf
  have hl := lv_entry ([.ref (ad 0), .int a1, .int a2]) (n := 4) (Nat.le_of_ble_eq_true rfl)
  rw [lg_entry_eq]
  generalize (lg_sl ([.ref (ad 0), .int a1, .int a2]) ++ List.replicate (4 - (lg_sl ([.ref (ad 0), .int a1, .int a2])).length) Slot.unset).toArray = ls at hl ⊢
  have hl : lv_has ls 4 [(0, .ref (ad 0)), (1, .int a1), (2, .int a2)] := hl
  generalize hloc : ([] : List Loc) = locs at hw ⊢
  have hinX12 : ∀ w ∈ u_ws RX12 TX12 42, w ∈ wsX12_isClosed := fun _ h => List.mem_cons_of_mem _ (List.mem_append_right _ (h))
  have J61 : ∀ (v61_3 : Int32) (f61_12_2 : Int32) (H : Heap) (locs : List Loc) (ls : Array Slot) (w1 : va_W), 0 ≤ a1.toInt → a1.toInt ≤ 9 → 0 ≤ a2.toInt → a2.toInt ≤ 359 → 0 ≤ v61_3.toInt → v61_3.toInt ≤ 8 → 0 ≤ f61_12_2.toInt → f61_12_2.toInt ≤ 8 → Wd dC dI A s.heap H locs w1 → TW ksM ad cy B qr 13 w1 → FE ksM ([] : List (Nat × Nat × Nat)) w0 w1 → gi w1 12 2 = f61_12_2 → lv_has ls 4 [(0, .ref (ad 0)), (1, .int a1), (2, .int a2), (3, .int v61_3)] → W p l e ({ frames := 1, cells := 0, slots := 0, locals := 12 }) s m (List.toArray [.ref (ad 0), .int a1, .int a2]) below meth c H locs 0 0 (MQ below (va_Qi (P_X12_isClosed_2 ad cy B qr s1 a1 a2 w0) (fun u : va_W => wpost dC dI cy A u) A) (List.toArray [.ref (ad 0), .int a1, .int a2]) s 0 0 A) (F0 m 61 ls []) := by
    intro v61_3 f61_12_2 H locs ls w1 r2 t3 r4 t5 r6 t7 r8 t9 hw hT hF c10 hl
    refine lv_iconst (v := 0) hx hb dX12_isClosed_61 (by decide) ?_
    exact tk_zret hC hr rfl hlocks hK ⟨hT, hF, (Or.inl rfl)⟩ hw dX12_isClosed_62
  have L2 : ∀ (n2 : Nat) (v2_3 : Int32) (H : Heap) (locs : List Loc) (ls : Array Slot) (w11 : va_W), 0 ≤ a1.toInt → a1.toInt ≤ 9 → 0 ≤ a2.toInt → a2.toInt ≤ 359 → 0 ≤ v2_3.toInt → v2_3.toInt ≤ 8 → (8 - v2_3.toInt).toNat < n2 → Wd dC dI A s.heap H locs w11 → TW ksM ad cy B qr 13 w11 → FE ksM ([] : List (Nat × Nat × Nat)) w0 w11 → lv_has ls 4 [(0, .ref (ad 0)), (1, .int a1), (2, .int a2), (3, .int v2_3)] → W p l e ({ frames := 1, cells := 0, slots := 0, locals := 12 }) s m (List.toArray [.ref (ad 0), .int a1, .int a2]) below meth c H locs 0 0 (MQ below (va_Qi (P_X12_isClosed_2 ad cy B qr s1 a1 a2 w0) (fun u : va_W => wpost dC dI cy A u) A) (List.toArray [.ref (ad 0), .int a1, .int a2]) s 0 0 A) (F0 m 2 ls []) := by
    intro n2
    induction n2 with
    | zero => intro v2_3 H locs ls w11 r12 t13 r14 t15 r16 t17 hm2 hw hT hF hl; omega
    | succ n2 ih2 =>
      intro v2_3 H locs ls w11 r12 t13 r14 t15 r16 t17 hm2 hw hT hF hl
      have J55 : ∀ (f55_12__2_v2_3_toInt_140_toNat : Int32) (f55_12_2 : Int32) (H : Heap) (locs : List Loc) (ls : Array Slot) (w18 : va_W), 0 ≤ a1.toInt → a1.toInt ≤ 9 → 0 ≤ a2.toInt → a2.toInt ≤ 359 → 0 ≤ v2_3.toInt → v2_3.toInt ≤ 7 → 1 ≤ f55_12_2.toInt → f55_12_2.toInt ≤ 8 → Wd dC dI A s.heap H locs w18 → TW ksM ad cy B qr 13 w18 → FE ksM ([] : List (Nat × Nat × Nat)) w0 w18 → gi w18 0 27 = 1 → gi w18 12 (2 * v2_3.toInt + 140).toNat = f55_12__2_v2_3_toInt_140_toNat → gi w18 12 2 = f55_12_2 → lv_has ls 4 [(0, .ref (ad 0)), (1, .int a1), (2, .int a2), (3, .int v2_3)] → W p l e ({ frames := 1, cells := 0, slots := 0, locals := 12 }) s m (List.toArray [.ref (ad 0), .int a1, .int a2]) below meth c H locs 0 0 (MQ below (va_Qi (P_X12_isClosed_2 ad cy B qr s1 a1 a2 w0) (fun u : va_W => wpost dC dI cy A u) A) (List.toArray [.ref (ad 0), .int a1, .int a2]) s 0 0 A) (F0 m 55 ls []) := by
        intro f55_12__2_v2_3_toInt_140_toNat f55_12_2 H locs ls w18 r19 t20 r21 t22 r23 t24 r27 t28 hw hT hF c25 c26 c29 hl
        obtain ⟨x30, ex30⟩ : ∃ y : Int32, y = v2_3 + Int32.ofInt 1 := ⟨_, rfl⟩
        refine lv_iinc (v := x30) (lv' := [(3, .int x30), (0, .ref (ad 0)), (1, .int a1), (2, .int a2)]) hx hb dX12_isClosed_55 hl (k := 3) rfl ex30.symm (by decide) rfl (fun ls hl => ?_)
        have ex30 : x30.toInt = v2_3.toInt + 1 := by rw [ex30]; exact wk_add (y := 1) (show -2147483648 ≤ v2_3.toInt + 1 by omega) (show v2_3.toInt + 1 ≤ 2147483647 by omega)
        refine lv_goto (tgt := 2) hx hb dX12_isClosed_58 (by decide) ?_
        exact ih2 x30 H locs ls w18 (show 0 ≤ a1.toInt by omega) (show a1.toInt ≤ 9 by omega) (show 0 ≤ a2.toInt by omega) (show a2.toInt ≤ 359 by omega) (show 0 ≤ x30.toInt by omega) (show x30.toInt ≤ 8 by omega) (show (8 - x30.toInt).toNat < n2 by omega) hw hT hF  (lv_sub hl [1, 2, 3, 0] rfl)
      refine lv_iload_n hx hb dX12_isClosed_2 rfl (lv_at hl 3 rfl) ?_
      refine lv_aload_n hx hb dX12_isClosed_3 rfl (lv_at hl 0 rfl) ?_
      refine tk_getA hC hK hw hT hinX12 kM_at0 (by decide) rfl 26 (by decide) (List.mem_of_getElem? (i := 1) rfl) rfl rfl dX12_isClosed_4 ?_
      refine lv_iconst (v := 2) hx hb dX12_isClosed_7 (by decide) ?_
      refine tk_ialdR hC hK hw hT kM_at12 rfl (by decide) (by decide) dX12_isClosed_8 (fun x31 c32 Ex31 => ?_)
      have bx31 := tk_rgI rfl 2 1 1 0 8 (by decide +kernel) ⟨0, by decide, by decide⟩ Ex31
      have c32 : gi w11 12 2 = x31 := c32
      refine lv_icmp_ge (tgt := 61) hx hb dX12_isClosed_9 (by decide) (fun c33 => ?_) (fun c33 => ?_)
      · have c33 : x31.toInt ≤ v2_3.toInt := wk_le.mp c33
        exact J61 v2_3 x31 H locs ls w11 (show 0 ≤ a1.toInt by omega) (show a1.toInt ≤ 9 by omega) (show 0 ≤ a2.toInt by omega) (show a2.toInt ≤ 359 by omega) (show 0 ≤ v2_3.toInt by omega) (show v2_3.toInt ≤ 8 by omega) (show 0 ≤ x31.toInt by omega) (show x31.toInt ≤ 8 by omega)  hw hT hF c32 (lv_sub hl [0, 1, 2, 3] rfl)
      · have c33 : v2_3.toInt < x31.toInt := wk_leF c33
        refine lv_aload_n hx hb dX12_isClosed_12 rfl (lv_at hl 0 rfl) ?_
        refine tk_geti hC hK hw hT hinX12 kM_at0 (by decide) rfl 27 (by decide) (List.mem_of_getElem? (i := 2) rfl) rfl rfl dX12_isClosed_13 (fun x34 c35 rx34 tx34 => ?_)
        refine lv_if_eq (tgt := 61) hx hb dX12_isClosed_16 (by decide) (fun c36 => ?_) (fun c36 => ?_)
        · have c36 : x34.toInt = (0 : Int) := wk_eq.mp c36
          exact J61 v2_3 x31 H locs ls w11 (show 0 ≤ a1.toInt by omega) (show a1.toInt ≤ 9 by omega) (show 0 ≤ a2.toInt by omega) (show a2.toInt ≤ 359 by omega) (show 0 ≤ v2_3.toInt by omega) (show v2_3.toInt ≤ 8 by omega) (show 0 ≤ x31.toInt by omega) (show x31.toInt ≤ 8 by omega)  hw hT hF c32 (lv_sub hl [0, 1, 2, 3] rfl)
        · have c36 : ¬ x34.toInt = (0 : Int) := wk_eqF c36
          refine lv_aload_n hx hb dX12_isClosed_19 rfl (lv_at hl 0 rfl) ?_
          refine tk_getA hC hK hw hT hinX12 kM_at0 (by decide) rfl 26 (by decide) (List.mem_of_getElem? (i := 1) rfl) rfl rfl dX12_isClosed_20 ?_
          refine lv_sipush (v := 140) hx hb dX12_isClosed_23 (by decide) ?_
          refine lv_iconst (v := 2) hx hb dX12_isClosed_26 (by decide) ?_
          refine lv_iload_n hx hb dX12_isClosed_27 rfl (lv_at hl 3 rfl) ?_
          refine lv_imul hx hb dX12_isClosed_28 ?_
          refine lv_topi (fun x37 ex37 => ?_)
          have ex37 : x37.toInt = (2 : Int) * v2_3.toInt := by rw [ex37]; exact wk_mul (show (-2147483648) ≤ (2 : Int) * v2_3.toInt by omega) (show (2 : Int) * v2_3.toInt ≤ 2147483647 by omega)
          refine lv_iadd hx hb dX12_isClosed_29 ?_
          refine lv_topi (fun x38 ex38 => ?_)
          have ex38 : x38.toInt = (140 : Int) + x37.toInt := by rw [ex38]; exact wk_add (show (-2147483648) ≤ (140 : Int) + x37.toInt by omega) (show (140 : Int) + x37.toInt ≤ 2147483647 by omega)
          refine tk_ialdR hC hK hw hT kM_at12 rfl (show 0 ≤ x38.toInt by omega) (show x38.toInt < 296 by omega) dX12_isClosed_30 (fun x39 c40 Ex39 => ?_)
          have c40 : gi w11 12 (2 * v2_3.toInt + 140).toNat = x39 := (congrArg (gi w11 12) (congrArg Int.toNat (show 2 * v2_3.toInt + 140 = x38.toInt by omega))).trans c40
          refine lv_iload_n hx hb dX12_isClosed_31 rfl (lv_at hl 1 rfl) ?_
          refine lv_icmp_ne (tgt := 55) hx hb dX12_isClosed_32 (by decide) (fun c41 => ?_) (fun c41 => ?_)
          · have c41 : ¬ x39.toInt = a1.toInt := wk_eqF c41
            obtain rfl : x34 = 1 := wk_eq.mpr (show x34.toInt = 1 by omega)
            exact J55 x39 x31 H locs ls w11 (show 0 ≤ a1.toInt by omega) (show a1.toInt ≤ 9 by omega) (show 0 ≤ a2.toInt by omega) (show a2.toInt ≤ 359 by omega) (show 0 ≤ v2_3.toInt by omega) (show v2_3.toInt ≤ 7 by omega) (show 1 ≤ x31.toInt by omega) (show x31.toInt ≤ 8 by omega)  hw hT hF c35 c40 c32 (lv_sub hl [0, 1, 2, 3] rfl)
          · have c41 : x39.toInt = a1.toInt := wk_eq.mp c41
            refine lv_aload_n hx hb dX12_isClosed_35 rfl (lv_at hl 0 rfl) ?_
            refine tk_getA hC hK hw hT hinX12 kM_at0 (by decide) rfl 26 (by decide) (List.mem_of_getElem? (i := 1) rfl) rfl rfl dX12_isClosed_36 ?_
            refine lv_sipush (v := 140) hx hb dX12_isClosed_39 (by decide) ?_
            refine lv_iconst (v := 2) hx hb dX12_isClosed_42 (by decide) ?_
            refine lv_iload_n hx hb dX12_isClosed_43 rfl (lv_at hl 3 rfl) ?_
            refine lv_imul hx hb dX12_isClosed_44 ?_
            refine lv_topi (fun x42 ex42 => ?_)
            have ex42 : x42.toInt = (2 : Int) * v2_3.toInt := by rw [ex42]; exact wk_mul (show (-2147483648) ≤ (2 : Int) * v2_3.toInt by omega) (show (2 : Int) * v2_3.toInt ≤ 2147483647 by omega)
            refine lv_iadd hx hb dX12_isClosed_45 ?_
            refine lv_topi (fun x43 ex43 => ?_)
            have ex43 : x43.toInt = (140 : Int) + x42.toInt := by rw [ex43]; exact wk_add (show (-2147483648) ≤ (140 : Int) + x42.toInt by omega) (show (140 : Int) + x42.toInt ≤ 2147483647 by omega)
            refine lv_iconst (v := 1) hx hb dX12_isClosed_46 (by decide) ?_
            refine lv_iadd hx hb dX12_isClosed_47 ?_
            refine lv_topi (fun x44 ex44 => ?_)
            have ex44 : x44.toInt = x43.toInt + (1 : Int) := by rw [ex44]; exact wk_add (show (-2147483648) ≤ x43.toInt + (1 : Int) by omega) (show x43.toInt + (1 : Int) ≤ 2147483647 by omega)
            refine tk_ialdR hC hK hw hT kM_at12 rfl (show 0 ≤ x44.toInt by omega) (show x44.toInt < 296 by omega) dX12_isClosed_48 (fun x45 c46 Ex45 => ?_)
            have c46 : gi w11 12 (2 * v2_3.toInt + 141).toNat = x45 := (congrArg (gi w11 12) (congrArg Int.toNat (show 2 * v2_3.toInt + 141 = x44.toInt by omega))).trans c46
            refine lv_iload_n hx hb dX12_isClosed_49 rfl (lv_at hl 2 rfl) ?_
            refine lv_icmp_ne (tgt := 55) hx hb dX12_isClosed_50 (by decide) (fun c47 => ?_) (fun c47 => ?_)
            · have c47 : ¬ x45.toInt = a2.toInt := wk_eqF c47
              obtain rfl : x34 = 1 := wk_eq.mpr (show x34.toInt = 1 by omega)
              exact J55 x39 x31 H locs ls w11 (show 0 ≤ a1.toInt by omega) (show a1.toInt ≤ 9 by omega) (show 0 ≤ a2.toInt by omega) (show a2.toInt ≤ 359 by omega) (show 0 ≤ v2_3.toInt by omega) (show v2_3.toInt ≤ 7 by omega) (show 1 ≤ x31.toInt by omega) (show x31.toInt ≤ 8 by omega)  hw hT hF c35 c40 c32 (lv_sub hl [0, 1, 2, 3] rfl)
            · have c47 : x45.toInt = a2.toInt := wk_eq.mp c47
              refine lv_iconst (v := 1) hx hb dX12_isClosed_53 (by decide) ?_
              exact tk_zret hC hr rfl hlocks hK ⟨hT, hF, (Or.inr ⟨rfl, ⟨x34, c35, (show 1 ≤ x34.toInt by omega), (show x34.toInt ≤ 1 by omega)⟩, ⟨x31, c32, (show 1 ≤ x31.toInt by omega), (show x31.toInt ≤ 8 by omega)⟩⟩)⟩ hw dX12_isClosed_54
  refine lv_iconst (v := 0) hx hb dX12_isClosed_0 (by decide) ?_
  refine lv_istore_n (lv' := [(3, .int 0), (0, .ref (ad 0)), (1, .int a1), (2, .int a2)]) hx hb dX12_isClosed_1 rfl hl (by decide) rfl (fun ls hl => ?_)
  exact L2 ((8 - (0 : Int)).toNat + 1) 0 s.heap locs ls w0 (show 0 ≤ a1.toInt by omega) (show a1.toInt ≤ 9 by omega) (show 0 ≤ a2.toInt by omega) (show a2.toInt ≤ 359 by omega) (by decide) (by decide) (Nat.lt_succ_self _) hw hT hF  (lv_sub hl [1, 2, 3, 0] rfl)
abbrev P_X12_isDayFor_5 (ad : Nat → Nat) (cy : Nat → ClassId) (B : Int) (qr : Nat) (s1 : Int) (a1 : Int32) (a2 : Int32) (a3 : Int32) (w0 : va_W) : Int32 → va_W → Prop := fun r u => TW ksM ad cy B qr 13 u ∧ FE ksM ([] : List (Nat × Nat × Nat)) w0 u ∧ ((r = 0) ∨ (r = 0 ∧ gi u 12 (10 * a1.toInt + 10).toNat = a2) ∨ (r = 1) ∨ (r = 1 ∧ gi u 12 (10 * a1.toInt + 10).toNat = a2))
set_option maxHeartbeats 4000000 in
set_option maxRecDepth 100000 in
theorem k_X12_isDayFor_5 (l : Launch) (adK adV : Nat → Nat) (dC : Nat → ClassId) (dI : Nat → Nat → Nat) (cy : Nat → ClassId) (ad : Nat → Nat) (B : Int) (hB0 : 100000 ≤ B) (hB1 : B ≤ 1073741824) (qr : Nat) (s1 : Int)  (a1 : Int32) (ra1 : 0 ≤ a1.toInt) (ta1 : a1.toInt ≤ 12) (a2 : Int32) (ra2 : 0 ≤ a2.toInt) (ta2 : a2.toInt ≤ 9) (a3 : Int32) (ra3 : 0 ≤ a3.toInt) (ta3 : a3.toInt ≤ 4249) (w0 : va_W) (sz : Nat) (hT : TW ksM ad cy B qr 13 w0)  : Met l yX12_isDayFor wsX12_isDayFor ({ frames := 3, cells := 0, slots := 0, locals := 57 }) (va_Pc [.ref (ad 0), .int a1, .int a2, .int a3] (wpreS adK adV dC dI cy sz w0)) (va_Qi (P_X12_isDayFor_5 ad cy B qr s1 a1 a2 a3 w0) (fun u : va_W => wpost dC dI cy (va_A w0 sz) u) (va_A w0 sz)) 0 0 (va_A w0 sz) := by
  refine Met.ofW (cc := cX12_isDayFor) (maxL := 4) (ret := (some .boolean)) (by decide) rfl ?_
  intro p e s m args below meth c s₁ Bk hml hv
  obtain ⟨rfl, ⟨hsz, hP, hK, hD0⟩, hE, hSR⟩ := hv
  have hx := Bk.exec
  have hb := Bk.bytes
  have hr := Bk.returns
  have hlocks := Bk.notSynchronized
  have hC : CallFix p m c cX12_isDayFor 4 s _ wsX12_isDayFor RX12 := ⟨hx, hb, hml, findClass_of_methodNamed Bk.named, atoms_spec (ws := wsX12_isDayFor) Bk.pre⟩
  subst hsz
  have hD := hD0.self (sz := s.heap.size)
  generalize hAe : va_A w0 s.heap.size = A at hD hE ⊢
  have hA : ∀ q : Nat, s.heap.size ≤ q → A q := fun q h => by rw [← hAe]; exact Or.inr h
  have hw : Wd dC dI A s.heap s.heap [] w0 := ⟨hP, hD, va_S.rf⟩
  have hF : FE ksM ([] : List (Nat × Nat × Nat)) w0 w0 := FE.rf
  have hl := lv_entry ([.ref (ad 0), .int a1, .int a2, .int a3]) (n := 4) (Nat.le_of_ble_eq_true rfl)
  rw [lg_entry_eq]
  generalize (lg_sl ([.ref (ad 0), .int a1, .int a2, .int a3]) ++ List.replicate (4 - (lg_sl ([.ref (ad 0), .int a1, .int a2, .int a3])).length) Slot.unset).toArray = ls at hl ⊢
  have hl : lv_has ls 4 [(0, .ref (ad 0)), (1, .int a1), (2, .int a2), (3, .int a3)] := hl
  generalize hloc : ([] : List Loc) = locs at hw ⊢
  have J62 : ∀ (f62_12__10_a1_toInt_10_toNat : Int32) (f62_12_2 : Int32) (H : Heap) (locs : List Loc) (ls : Array Slot) (w1 : va_W), 0 ≤ a1.toInt → a1.toInt ≤ 12 → 0 ≤ a2.toInt → a2.toInt ≤ 9 → 0 ≤ a3.toInt → a3.toInt ≤ 4249 → 0 ≤ f62_12__10_a1_toInt_10_toNat.toInt → f62_12__10_a1_toInt_10_toNat.toInt ≤ 9 → 1 ≤ f62_12_2.toInt → f62_12_2.toInt ≤ 8 → Wd dC dI A s.heap H locs w1 → TW ksM ad cy B qr 13 w1 → FE ksM ([] : List (Nat × Nat × Nat)) w0 w1 → gi w1 0 27 = 1 → gi w1 12 (10 * a1.toInt + 10).toNat = f62_12__10_a1_toInt_10_toNat → gi w1 12 2 = f62_12_2 → lv_has ls 4 [(0, .ref (ad 0)), (1, .int a1), (2, .int a2), (3, .int a3)] → W p l e ({ frames := 3, cells := 0, slots := 0, locals := 57 }) s m (List.toArray [.ref (ad 0), .int a1, .int a2, .int a3]) below meth c H locs 0 0 (MQ below (va_Qi (P_X12_isDayFor_5 ad cy B qr s1 a1 a2 a3 w0) (fun u : va_W => wpost dC dI cy A u) A) (List.toArray [.ref (ad 0), .int a1, .int a2, .int a3]) s 0 0 A) (F0 m 62 ls []) := by
    intro f62_12__10_a1_toInt_10_toNat f62_12_2 H locs ls w1 r2 t3 r4 t5 r6 t7 r9 t10 r12 t13 hw hT hF c8 c11 c14 hl
    refine lv_iconst (v := 0) hx hb dX12_isDayFor_62 (by decide) ?_
    exact tk_zret hC hr rfl hlocks hK ⟨hT, hF, (Or.inl rfl)⟩ hw dX12_isDayFor_63
  refine lv_aload_n hx hb dX12_isDayFor_0 rfl (lv_at hl 0 rfl) ?_
  refine lv_aload_n hx hb dX12_isDayFor_1 rfl (lv_at hl 0 rfl) ?_
  refine lv_iload_n hx hb dX12_isDayFor_2 rfl (lv_at hl 1 rfl) ?_
  refine lv_iconst (v := 3) hx hb dX12_isDayFor_3 (by decide) ?_
  refine lv_iload_n hx hb dX12_isDayFor_4 rfl (lv_at hl 3 rfl) ?_
  refine lv_bipush (v := 7) hx hb dX12_isDayFor_5 (by decide) ?_
  refine lv_irem hx hb dX12_isDayFor_7 (by decide) ?_
  refine lv_topi (fun x15 ex15 => ?_)
  have ex15 : x15.toInt = a3.toInt % (7 : Int) := by rw [ex15]; exact wk_rem (show 0 ≤ a3.toInt by omega) (show 0 < (7 : Int) by decide)
  refine lv_iadd hx hb dX12_isDayFor_8 ?_
  refine lv_topi (fun x16 ex16 => ?_)
  have ex16 : x16.toInt = (3 : Int) + x15.toInt := by rw [ex16]; exact wk_add (show (-2147483648) ≤ (3 : Int) + x15.toInt by omega) (show (3 : Int) + x15.toInt ≤ 2147483647 by omega)
  refine tk_Vi hC hK hw hT hA hE hSR kM_at0 (by decide) rfl (k_X12_streetOf_13 l adK adV dC dI cy ad B (by omega) (by omega) qr s1   a1 (show 0 ≤ a1.toInt by omega) (show a1.toInt ≤ 12 by omega) x16 (show 3 ≤ x16.toInt by omega) (show x16.toInt ≤ 9 by omega) w0 s.heap.size hT ) (cwV 2 hC.2.2.2.2 gX12_isDayFor_X12_streetOf rfl rfl rfl (by decide +kernel) ⟨Nat.le_of_ble_eq_true rfl, Nat.le_of_ble_eq_true rfl⟩) rfl hl.1 rfl (Nat.le_of_ble_eq_true rfl) dX12_isDayFor_9 (fun r17 w19 H locs hp18 hw => ?_)
  obtain ⟨hT, k20, hg23⟩ := hp18
  have hF := hF.tr k20 (by decide)
  obtain ⟨g21, g22⟩ := hg23
  refine lv_iload_n hx hb dX12_isDayFor_12 rfl (lv_at hl 1 rfl) ?_
  refine lv_iload_n hx hb dX12_isDayFor_13 rfl (lv_at hl 2 rfl) ?_
  refine tk_Vi hC hK hw hT hA hE hSR kM_at0 (by decide) rfl (k_X12_hasSign_3 l adK adV dC dI cy ad B (by omega) (by omega) qr s1   r17 (show 0 ≤ r17.toInt by omega) (show r17.toInt ≤ 9 by omega) a1 (show 0 ≤ a1.toInt by omega) (show a1.toInt ≤ 12 by omega) a2 (show 0 ≤ a2.toInt by omega) (show a2.toInt ≤ 9 by omega) w19 H.size hT ) (cwV 3 hC.2.2.2.2 gX12_isDayFor_X12_hasSign rfl rfl rfl (by decide +kernel) ⟨Nat.le_of_ble_eq_true rfl, Nat.le_of_ble_eq_true rfl⟩) rfl hl.1 rfl (Nat.le_of_ble_eq_true rfl) dX12_isDayFor_14 (fun r24 w26 H locs hp25 hw => ?_)
  obtain ⟨hT, k27, hg30⟩ := hp25
  have hF := hF.tr k27 (by decide)
  rcases hg30 with rfl | ⟨rfl, c28⟩ | rfl | ⟨rfl, c29⟩
  · refine lv_if_ne (tgt := 22) hx hb dX12_isDayFor_17 (by decide) (fun c => absurd (by decide) c) (fun _ => ?_)
    refine lv_iconst (v := 0) hx hb dX12_isDayFor_20 (by decide) ?_
    exact tk_zret hC hr rfl hlocks hK ⟨hT, hF, (Or.inl rfl)⟩ hw dX12_isDayFor_21
  · refine lv_if_ne (tgt := 22) hx hb dX12_isDayFor_17 (by decide) (fun c => absurd (by decide) c) (fun _ => ?_)
    refine lv_iconst (v := 0) hx hb dX12_isDayFor_20 (by decide) ?_
    exact tk_zret hC hr rfl hlocks hK ⟨hT, hF, (Or.inr (Or.inl ⟨rfl, c28⟩))⟩ hw dX12_isDayFor_21
  · refine lv_if_ne (tgt := 22) hx hb dX12_isDayFor_17 (by decide) (fun _ => ?_) (fun c => absurd c (by decide))
    refine lv_aload_n hx hb dX12_isDayFor_22 rfl (lv_at hl 0 rfl) ?_
    refine lv_aload_n hx hb dX12_isDayFor_23 rfl (lv_at hl 0 rfl) ?_
    refine lv_iload_n hx hb dX12_isDayFor_24 rfl (lv_at hl 1 rfl) ?_
    refine lv_iconst (v := 0) hx hb dX12_isDayFor_25 (by decide) ?_
    refine tk_Vi hC hK hw hT hA hE hSR kM_at0 (by decide) rfl (k_X12_streetOf_11 l adK adV dC dI cy ad B (by omega) (by omega) qr s1   a1 (show 0 ≤ a1.toInt by omega) (show a1.toInt ≤ 12 by omega) w26 H.size hT ) (cwV 2 hC.2.2.2.2 gX12_isDayFor_X12_streetOf rfl rfl rfl (by decide +kernel) ⟨Nat.le_of_ble_eq_true rfl, Nat.le_of_ble_eq_true rfl⟩) rfl hl.1 rfl (Nat.le_of_ble_eq_true rfl) dX12_isDayFor_26 (fun r31 w33 H locs hp32 hw => ?_)
    obtain ⟨hT, k34, hg38⟩ := hp32
    have hF := hF.tr k34 (by decide)
    obtain ⟨g35, g36, c37⟩ := hg38
    refine lv_iload_n hx hb dX12_isDayFor_29 rfl (lv_at hl 3 rfl) ?_
    refine lv_sipush (v := 360) hx hb dX12_isDayFor_30 (by decide) ?_
    refine lv_irem hx hb dX12_isDayFor_33 (by decide) ?_
    refine lv_topi (fun x39 ex39 => ?_)
    have ex39 : x39.toInt = a3.toInt % (360 : Int) := by rw [ex39]; exact wk_rem (show 0 ≤ a3.toInt by omega) (show 0 < (360 : Int) by decide)
    refine tk_Vi hC hK hw hT hA hE hSR kM_at0 (by decide) rfl (k_X12_isClosed_2 l adK adV dC dI cy ad B (by omega) (by omega) qr s1   r31 (show 0 ≤ r31.toInt by omega) (show r31.toInt ≤ 9 by omega) x39 (show 0 ≤ x39.toInt by omega) (show x39.toInt ≤ 359 by omega) w33 H.size hT ) (cwV 2 hC.2.2.2.2 gX12_isDayFor_X12_isClosed rfl rfl rfl (by decide +kernel) ⟨Nat.le_of_ble_eq_true rfl, Nat.le_of_ble_eq_true rfl⟩) rfl hl.1 rfl (Nat.le_of_ble_eq_true rfl) dX12_isDayFor_34 (fun r40 w42 H locs hp41 hw => ?_)
    obtain ⟨hT, k43, hg48⟩ := hp41
    have hF := hF.tr k43 (by decide)
    have c49 := k43.gi kM_at12 rfl c37
    rcases hg48 with rfl | ⟨rfl, ⟨x44, c45, rx44, tx44⟩, ⟨x46, c47, rx46, tx46⟩⟩
    · refine lv_if_ne (tgt := 62) hx hb dX12_isDayFor_37 (by decide) (fun c => absurd (by decide) c) (fun _ => ?_)
      refine lv_aload_n hx hb dX12_isDayFor_40 rfl (lv_at hl 0 rfl) ?_
      refine lv_aload_n hx hb dX12_isDayFor_41 rfl (lv_at hl 0 rfl) ?_
      refine lv_iload_n hx hb dX12_isDayFor_42 rfl (lv_at hl 1 rfl) ?_
      refine lv_iconst (v := 1) hx hb dX12_isDayFor_43 (by decide) ?_
      refine tk_Vi hC hK hw hT hA hE hSR kM_at0 (by decide) rfl (k_X12_streetOf_12 l adK adV dC dI cy ad B (by omega) (by omega) qr s1   a1 (show 0 ≤ a1.toInt by omega) (show a1.toInt ≤ 12 by omega) w42 H.size hT ) (cwV 2 hC.2.2.2.2 gX12_isDayFor_X12_streetOf rfl rfl rfl (by decide +kernel) ⟨Nat.le_of_ble_eq_true rfl, Nat.le_of_ble_eq_true rfl⟩) rfl hl.1 rfl (Nat.le_of_ble_eq_true rfl) dX12_isDayFor_44 (fun r50 w52 H locs hp51 hw => ?_)
      obtain ⟨hT, k53, hg57⟩ := hp51
      have hF := hF.tr k53 (by decide)
      have c58 := k53.gi kM_at12 rfl c49
      obtain ⟨g54, g55, c56⟩ := hg57
      refine lv_iload_n hx hb dX12_isDayFor_47 rfl (lv_at hl 3 rfl) ?_
      refine lv_sipush (v := 360) hx hb dX12_isDayFor_48 (by decide) ?_
      refine lv_irem hx hb dX12_isDayFor_51 (by decide) ?_
      refine lv_topi (fun x59 ex59 => ?_)
      have ex59 : x59.toInt = a3.toInt % (360 : Int) := by rw [ex59]; exact wk_rem (show 0 ≤ a3.toInt by omega) (show 0 < (360 : Int) by decide)
      refine tk_Vi hC hK hw hT hA hE hSR kM_at0 (by decide) rfl (k_X12_isClosed_2 l adK adV dC dI cy ad B (by omega) (by omega) qr s1   r50 (show 0 ≤ r50.toInt by omega) (show r50.toInt ≤ 9 by omega) x59 (show 0 ≤ x59.toInt by omega) (show x59.toInt ≤ 359 by omega) w52 H.size hT ) (cwV 2 hC.2.2.2.2 gX12_isDayFor_X12_isClosed rfl rfl rfl (by decide +kernel) ⟨Nat.le_of_ble_eq_true rfl, Nat.le_of_ble_eq_true rfl⟩) rfl hl.1 rfl (Nat.le_of_ble_eq_true rfl) dX12_isDayFor_52 (fun r60 w62 H locs hp61 hw => ?_)
      obtain ⟨hT, k63, hg68⟩ := hp61
      have hF := hF.tr k63 (by decide)
      have c69 := k63.gi kM_at12 rfl c58
      have c70 := k63.gi kM_at12 rfl c56
      rcases hg68 with rfl | ⟨rfl, ⟨x64, c65, rx64, tx64⟩, ⟨x66, c67, rx66, tx66⟩⟩
      · refine lv_if_ne (tgt := 62) hx hb dX12_isDayFor_55 (by decide) (fun c => absurd (by decide) c) (fun _ => ?_)
        refine lv_iconst (v := 1) hx hb dX12_isDayFor_58 (by decide) ?_
        refine lv_goto (tgt := 63) hx hb dX12_isDayFor_59 (by decide) ?_
        exact tk_zret hC hr rfl hlocks hK ⟨hT, hF, (Or.inr (Or.inr (Or.inl rfl)))⟩ hw dX12_isDayFor_63
      · refine lv_if_ne (tgt := 62) hx hb dX12_isDayFor_55 (by decide) (fun _ => ?_) (fun c => absurd c (by decide))
        obtain rfl : x64 = 1 := wk_eq.mpr (show x64.toInt = 1 by omega)
        exact J62 r31 x66 H locs ls w62 (show 0 ≤ a1.toInt by omega) (show a1.toInt ≤ 12 by omega) (show 0 ≤ a2.toInt by omega) (show a2.toInt ≤ 9 by omega) (show 0 ≤ a3.toInt by omega) (show a3.toInt ≤ 4249 by omega) (show 0 ≤ r31.toInt by omega) (show r31.toInt ≤ 9 by omega) (show 1 ≤ x66.toInt by omega) (show x66.toInt ≤ 8 by omega)  hw hT hF c65 c69 c67 (lv_sub hl [0, 1, 2, 3] rfl)
    · refine lv_if_ne (tgt := 62) hx hb dX12_isDayFor_37 (by decide) (fun _ => ?_) (fun c => absurd c (by decide))
      obtain rfl : x44 = 1 := wk_eq.mpr (show x44.toInt = 1 by omega)
      exact J62 r31 x46 H locs ls w42 (show 0 ≤ a1.toInt by omega) (show a1.toInt ≤ 12 by omega) (show 0 ≤ a2.toInt by omega) (show a2.toInt ≤ 9 by omega) (show 0 ≤ a3.toInt by omega) (show a3.toInt ≤ 4249 by omega) (show 0 ≤ r31.toInt by omega) (show r31.toInt ≤ 9 by omega) (show 1 ≤ x46.toInt by omega) (show x46.toInt ≤ 8 by omega)  hw hT hF c45 c49 c47 (lv_sub hl [0, 1, 2, 3] rfl)
  · refine lv_if_ne (tgt := 22) hx hb dX12_isDayFor_17 (by decide) (fun _ => ?_) (fun c => absurd c (by decide))
    refine lv_aload_n hx hb dX12_isDayFor_22 rfl (lv_at hl 0 rfl) ?_
    refine lv_aload_n hx hb dX12_isDayFor_23 rfl (lv_at hl 0 rfl) ?_
    refine lv_iload_n hx hb dX12_isDayFor_24 rfl (lv_at hl 1 rfl) ?_
    refine lv_iconst (v := 0) hx hb dX12_isDayFor_25 (by decide) ?_
    refine tk_Vi hC hK hw hT hA hE hSR kM_at0 (by decide) rfl (k_X12_streetOf_11 l adK adV dC dI cy ad B (by omega) (by omega) qr s1   a1 (show 0 ≤ a1.toInt by omega) (show a1.toInt ≤ 12 by omega) w26 H.size hT ) (cwV 2 hC.2.2.2.2 gX12_isDayFor_X12_streetOf rfl rfl rfl (by decide +kernel) ⟨Nat.le_of_ble_eq_true rfl, Nat.le_of_ble_eq_true rfl⟩) rfl hl.1 rfl (Nat.le_of_ble_eq_true rfl) dX12_isDayFor_26 (fun r71 w73 H locs hp72 hw => ?_)
    obtain ⟨hT, k74, hg78⟩ := hp72
    have hF := hF.tr k74 (by decide)
    have c79 := k74.gi kM_at12 rfl c29
    obtain ⟨g75, g76, c77⟩ := hg78
    obtain rfl : r71 = a2 := c77.symm.trans c79
    refine lv_iload_n hx hb dX12_isDayFor_29 rfl (lv_at hl 3 rfl) ?_
    refine lv_sipush (v := 360) hx hb dX12_isDayFor_30 (by decide) ?_
    refine lv_irem hx hb dX12_isDayFor_33 (by decide) ?_
    refine lv_topi (fun x80 ex80 => ?_)
    have ex80 : x80.toInt = a3.toInt % (360 : Int) := by rw [ex80]; exact wk_rem (show 0 ≤ a3.toInt by omega) (show 0 < (360 : Int) by decide)
    refine tk_Vi hC hK hw hT hA hE hSR kM_at0 (by decide) rfl (k_X12_isClosed_2 l adK adV dC dI cy ad B (by omega) (by omega) qr s1   a2 (show 0 ≤ a2.toInt by omega) (show a2.toInt ≤ 9 by omega) x80 (show 0 ≤ x80.toInt by omega) (show x80.toInt ≤ 359 by omega) w73 H.size hT ) (cwV 2 hC.2.2.2.2 gX12_isDayFor_X12_isClosed rfl rfl rfl (by decide +kernel) ⟨Nat.le_of_ble_eq_true rfl, Nat.le_of_ble_eq_true rfl⟩) rfl hl.1 rfl (Nat.le_of_ble_eq_true rfl) dX12_isDayFor_34 (fun r81 w83 H locs hp82 hw => ?_)
    obtain ⟨hT, k84, hg89⟩ := hp82
    have hF := hF.tr k84 (by decide)
    have c90 := k84.gi kM_at12 rfl c79
    rcases hg89 with rfl | ⟨rfl, ⟨x85, c86, rx85, tx85⟩, ⟨x87, c88, rx87, tx87⟩⟩
    · refine lv_if_ne (tgt := 62) hx hb dX12_isDayFor_37 (by decide) (fun c => absurd (by decide) c) (fun _ => ?_)
      refine lv_aload_n hx hb dX12_isDayFor_40 rfl (lv_at hl 0 rfl) ?_
      refine lv_aload_n hx hb dX12_isDayFor_41 rfl (lv_at hl 0 rfl) ?_
      refine lv_iload_n hx hb dX12_isDayFor_42 rfl (lv_at hl 1 rfl) ?_
      refine lv_iconst (v := 1) hx hb dX12_isDayFor_43 (by decide) ?_
      refine tk_Vi hC hK hw hT hA hE hSR kM_at0 (by decide) rfl (k_X12_streetOf_12 l adK adV dC dI cy ad B (by omega) (by omega) qr s1   a1 (show 0 ≤ a1.toInt by omega) (show a1.toInt ≤ 12 by omega) w83 H.size hT ) (cwV 2 hC.2.2.2.2 gX12_isDayFor_X12_streetOf rfl rfl rfl (by decide +kernel) ⟨Nat.le_of_ble_eq_true rfl, Nat.le_of_ble_eq_true rfl⟩) rfl hl.1 rfl (Nat.le_of_ble_eq_true rfl) dX12_isDayFor_44 (fun r91 w93 H locs hp92 hw => ?_)
      obtain ⟨hT, k94, hg98⟩ := hp92
      have hF := hF.tr k94 (by decide)
      have c99 := k94.gi kM_at12 rfl c90
      obtain ⟨g95, g96, c97⟩ := hg98
      refine lv_iload_n hx hb dX12_isDayFor_47 rfl (lv_at hl 3 rfl) ?_
      refine lv_sipush (v := 360) hx hb dX12_isDayFor_48 (by decide) ?_
      refine lv_irem hx hb dX12_isDayFor_51 (by decide) ?_
      refine lv_topi (fun x100 ex100 => ?_)
      have ex100 : x100.toInt = a3.toInt % (360 : Int) := by rw [ex100]; exact wk_rem (show 0 ≤ a3.toInt by omega) (show 0 < (360 : Int) by decide)
      refine tk_Vi hC hK hw hT hA hE hSR kM_at0 (by decide) rfl (k_X12_isClosed_2 l adK adV dC dI cy ad B (by omega) (by omega) qr s1   r91 (show 0 ≤ r91.toInt by omega) (show r91.toInt ≤ 9 by omega) x100 (show 0 ≤ x100.toInt by omega) (show x100.toInt ≤ 359 by omega) w93 H.size hT ) (cwV 2 hC.2.2.2.2 gX12_isDayFor_X12_isClosed rfl rfl rfl (by decide +kernel) ⟨Nat.le_of_ble_eq_true rfl, Nat.le_of_ble_eq_true rfl⟩) rfl hl.1 rfl (Nat.le_of_ble_eq_true rfl) dX12_isDayFor_52 (fun r101 w103 H locs hp102 hw => ?_)
      obtain ⟨hT, k104, hg109⟩ := hp102
      have hF := hF.tr k104 (by decide)
      have c110 := k104.gi kM_at12 rfl c99
      have c111 := k104.gi kM_at12 rfl c97
      rcases hg109 with rfl | ⟨rfl, ⟨x105, c106, rx105, tx105⟩, ⟨x107, c108, rx107, tx107⟩⟩
      · refine lv_if_ne (tgt := 62) hx hb dX12_isDayFor_55 (by decide) (fun c => absurd (by decide) c) (fun _ => ?_)
        refine lv_iconst (v := 1) hx hb dX12_isDayFor_58 (by decide) ?_
        refine lv_goto (tgt := 63) hx hb dX12_isDayFor_59 (by decide) ?_
        exact tk_zret hC hr rfl hlocks hK ⟨hT, hF, (Or.inr (Or.inr (Or.inr ⟨rfl, c110⟩)))⟩ hw dX12_isDayFor_63
      · refine lv_if_ne (tgt := 62) hx hb dX12_isDayFor_55 (by decide) (fun _ => ?_) (fun c => absurd c (by decide))
        obtain rfl : x105 = 1 := wk_eq.mpr (show x105.toInt = 1 by omega)
        exact J62 a2 x107 H locs ls w103 (show 0 ≤ a1.toInt by omega) (show a1.toInt ≤ 12 by omega) (show 0 ≤ a2.toInt by omega) (show a2.toInt ≤ 9 by omega) (show 0 ≤ a3.toInt by omega) (show a3.toInt ≤ 4249 by omega) (show 0 ≤ a2.toInt by omega) (show a2.toInt ≤ 9 by omega) (show 1 ≤ x107.toInt by omega) (show x107.toInt ≤ 8 by omega)  hw hT hF c106 c110 c108 (lv_sub hl [0, 1, 2, 3] rfl)
    · refine lv_if_ne (tgt := 62) hx hb dX12_isDayFor_37 (by decide) (fun _ => ?_) (fun c => absurd c (by decide))
      obtain rfl : x85 = 1 := wk_eq.mpr (show x85.toInt = 1 by omega)
      exact J62 a2 x87 H locs ls w83 (show 0 ≤ a1.toInt by omega) (show a1.toInt ≤ 12 by omega) (show 0 ≤ a2.toInt by omega) (show a2.toInt ≤ 9 by omega) (show 0 ≤ a3.toInt by omega) (show a3.toInt ≤ 4249 by omega) (show 0 ≤ a2.toInt by omega) (show a2.toInt ≤ 9 by omega) (show 1 ≤ x87.toInt by omega) (show x87.toInt ≤ 8 by omega)  hw hT hF c86 c90 c88 (lv_sub hl [0, 1, 2, 3] rfl)
abbrev P_X12_isLifted_5 (ad : Nat → Nat) (cy : Nat → ClassId) (B : Int) (qr : Nat) (s1 : Int) (a1 : Int32) (a2 : Int32) (w0 : va_W) : Int32 → va_W → Prop := fun r u => TW ksM ad cy B qr 13 u ∧ FE ksM ([] : List (Nat × Nat × Nat)) w0 u ∧ ((r = 0) ∨ (r = 1 ∧ (∃ y : Int32, gi u 12 3 = y ∧ 1 ≤ y.toInt ∧ y.toInt ≤ 4)))
set_option maxHeartbeats 4000000 in
set_option maxRecDepth 100000 in
theorem k_X12_isLifted_5 (l : Launch) (adK adV : Nat → Nat) (dC : Nat → ClassId) (dI : Nat → Nat → Nat) (cy : Nat → ClassId) (ad : Nat → Nat) (B : Int) (hB0 : 100000 ≤ B) (hB1 : B ≤ 1073741824) (qr : Nat) (s1 : Int)  (a1 : Int32) (ra1 : 0 ≤ a1.toInt) (ta1 : a1.toInt ≤ 12) (a2 : Int32) (ra2 : 0 ≤ a2.toInt) (ta2 : a2.toInt ≤ 101999) (w0 : va_W) (sz : Nat) (hT : TW ksM ad cy B qr 13 w0)  : Met l yX12_isLifted wsX12_isLifted ({ frames := 1, cells := 0, slots := 0, locals := 12 }) (va_Pc [.ref (ad 0), .int a1, .int a2] (wpreS adK adV dC dI cy sz w0)) (va_Qi (P_X12_isLifted_5 ad cy B qr s1 a1 a2 w0) (fun u : va_W => wpost dC dI cy (va_A w0 sz) u) (va_A w0 sz)) 0 0 (va_A w0 sz) := by
  refine Met.ofW (cc := cX12_isLifted) (maxL := 5) (ret := (some .boolean)) (by decide) rfl ?_
  intro p e s m args below meth c s₁ Bk hml hv
  obtain ⟨rfl, ⟨hsz, hP, hK, hD0⟩, hE, hSR⟩ := hv
  have hx := Bk.exec
  have hb := Bk.bytes
  have hr := Bk.returns
  have hlocks := Bk.notSynchronized
  have hC : CallFix p m c cX12_isLifted 5 s _ wsX12_isLifted RX12 := ⟨hx, hb, hml, findClass_of_methodNamed Bk.named, atoms_spec (ws := wsX12_isLifted) Bk.pre⟩
  subst hsz
  have hD := hD0.self (sz := s.heap.size)
  generalize hAe : va_A w0 s.heap.size = A at hD hE ⊢
  have hA : ∀ q : Nat, s.heap.size ≤ q → A q := fun q h => by rw [← hAe]; exact Or.inr h
  have hw : Wd dC dI A s.heap s.heap [] w0 := ⟨hP, hD, va_S.rf⟩
  have hF : FE ksM ([] : List (Nat × Nat × Nat)) w0 w0 := FE.rf
  have hl := lv_entry ([.ref (ad 0), .int a1, .int a2]) (n := 5) (Nat.le_of_ble_eq_true rfl)
  rw [lg_entry_eq]
  generalize (lg_sl ([.ref (ad 0), .int a1, .int a2]) ++ List.replicate (5 - (lg_sl ([.ref (ad 0), .int a1, .int a2])).length) Slot.unset).toArray = ls at hl ⊢
  have hl : lv_has ls 5 [(0, .ref (ad 0)), (1, .int a1), (2, .int a2)] := hl
  generalize hloc : ([] : List Loc) = locs at hw ⊢
  have hinX12 : ∀ w ∈ u_ws RX12 TX12 42, w ∈ wsX12_isLifted := fun _ h => List.mem_cons_of_mem _ (List.mem_append_right _ (h))
  have L2 : ∀ (n2 : Nat) (v2_3 : Int32) (H : Heap) (locs : List Loc) (ls : Array Slot) (w1 : va_W), 0 ≤ a1.toInt → a1.toInt ≤ 12 → 0 ≤ a2.toInt → a2.toInt ≤ 101999 → 0 ≤ v2_3.toInt → v2_3.toInt ≤ 4 → (4 - v2_3.toInt).toNat < n2 → Wd dC dI A s.heap H locs w1 → TW ksM ad cy B qr 13 w1 → FE ksM ([] : List (Nat × Nat × Nat)) w0 w1 → lv_has ls 5 [(0, .ref (ad 0)), (1, .int a1), (2, .int a2), (3, .int v2_3)] → W p l e ({ frames := 1, cells := 0, slots := 0, locals := 12 }) s m (List.toArray [.ref (ad 0), .int a1, .int a2]) below meth c H locs 0 0 (MQ below (va_Qi (P_X12_isLifted_5 ad cy B qr s1 a1 a2 w0) (fun u : va_W => wpost dC dI cy A u) A) (List.toArray [.ref (ad 0), .int a1, .int a2]) s 0 0 A) (F0 m 2 ls []) := by
    intro n2
    induction n2 with
    | zero => intro v2_3 H locs ls w1 r2 t3 r4 t5 r6 t7 hm2 hw hT hF hl; omega
    | succ n2 ih2 =>
      intro v2_3 H locs ls w1 r2 t3 r4 t5 r6 t7 hm2 hw hT hF hl
      have J66 : ∀ (v66_4 : Int32) (f66_12__3_v2_3_toInt_156_toNat : Int32) (f66_12_3 : Int32) (H : Heap) (locs : List Loc) (ls : Array Slot) (w8 : va_W), 0 ≤ a1.toInt → a1.toInt ≤ 12 → 0 ≤ a2.toInt → a2.toInt ≤ 101999 → 0 ≤ v2_3.toInt → v2_3.toInt ≤ 3 → 156 ≤ v66_4.toInt → v66_4.toInt ≤ 165 → v66_4.toInt = 3 * v2_3.toInt + 156 → 1 ≤ f66_12_3.toInt → f66_12_3.toInt ≤ 4 → Wd dC dI A s.heap H locs w8 → TW ksM ad cy B qr 13 w8 → FE ksM ([] : List (Nat × Nat × Nat)) w0 w8 → gi w8 12 (3 * v2_3.toInt + 156).toNat = f66_12__3_v2_3_toInt_156_toNat → gi w8 12 3 = f66_12_3 → lv_has ls 5 [(0, .ref (ad 0)), (1, .int a1), (2, .int a2), (3, .int v2_3), (4, .int v66_4)] → W p l e ({ frames := 1, cells := 0, slots := 0, locals := 12 }) s m (List.toArray [.ref (ad 0), .int a1, .int a2]) below meth c H locs 0 0 (MQ below (va_Qi (P_X12_isLifted_5 ad cy B qr s1 a1 a2 w0) (fun u : va_W => wpost dC dI cy A u) A) (List.toArray [.ref (ad 0), .int a1, .int a2]) s 0 0 A) (F0 m 66 ls []) := by
        intro v66_4 f66_12__3_v2_3_toInt_156_toNat f66_12_3 H locs ls w8 r9 t10 r11 t12 r13 t14 r15 t16 l17 r19 t20 hw hT hF c18 c21 hl
        obtain ⟨x22, ex22⟩ : ∃ y : Int32, y = v2_3 + Int32.ofInt 1 := ⟨_, rfl⟩
        refine lv_iinc (v := x22) (lv' := [(3, .int x22), (0, .ref (ad 0)), (1, .int a1), (2, .int a2), (4, .int v66_4)]) hx hb dX12_isLifted_66 hl (k := 3) rfl ex22.symm (by decide) rfl (fun ls hl => ?_)
        have ex22 : x22.toInt = v2_3.toInt + 1 := by rw [ex22]; exact wk_add (y := 1) (show -2147483648 ≤ v2_3.toInt + 1 by omega) (show v2_3.toInt + 1 ≤ 2147483647 by omega)
        refine lv_goto (tgt := 2) hx hb dX12_isLifted_69 (by decide) ?_
        exact ih2 x22 H locs ls w8 (show 0 ≤ a1.toInt by omega) (show a1.toInt ≤ 12 by omega) (show 0 ≤ a2.toInt by omega) (show a2.toInt ≤ 101999 by omega) (show 0 ≤ x22.toInt by omega) (show x22.toInt ≤ 4 by omega) (show (4 - x22.toInt).toNat < n2 by omega) hw hT hF  (lv_sub hl [1, 2, 3, 0] rfl)
      refine lv_iload_n hx hb dX12_isLifted_2 rfl (lv_at hl 3 rfl) ?_
      refine lv_aload_n hx hb dX12_isLifted_3 rfl (lv_at hl 0 rfl) ?_
      refine tk_getA hC hK hw hT hinX12 kM_at0 (by decide) rfl 26 (by decide) (List.mem_of_getElem? (i := 1) rfl) rfl rfl dX12_isLifted_4 ?_
      refine lv_iconst (v := 3) hx hb dX12_isLifted_7 (by decide) ?_
      refine tk_ialdR hC hK hw hT kM_at12 rfl (by decide) (by decide) dX12_isLifted_8 (fun x23 c24 Ex23 => ?_)
      have bx23 := tk_rgI rfl 3 1 1 0 4 (by decide +kernel) ⟨0, by decide, by decide⟩ Ex23
      have c24 : gi w1 12 3 = x23 := c24
      refine lv_icmp_ge (tgt := 72) hx hb dX12_isLifted_9 (by decide) (fun c25 => ?_) (fun c25 => ?_)
      · have c25 : x23.toInt ≤ v2_3.toInt := wk_le.mp c25
        refine lv_iconst (v := 0) hx hb dX12_isLifted_72 (by decide) ?_
        exact tk_zret hC hr rfl hlocks hK ⟨hT, hF, (Or.inl rfl)⟩ hw dX12_isLifted_73
      · have c25 : v2_3.toInt < x23.toInt := wk_leF c25
        refine lv_sipush (v := 156) hx hb dX12_isLifted_12 (by decide) ?_
        refine lv_iconst (v := 3) hx hb dX12_isLifted_15 (by decide) ?_
        refine lv_iload_n hx hb dX12_isLifted_16 rfl (lv_at hl 3 rfl) ?_
        refine lv_imul hx hb dX12_isLifted_17 ?_
        refine lv_topi (fun x26 ex26 => ?_)
        have ex26 : x26.toInt = (3 : Int) * v2_3.toInt := by rw [ex26]; exact wk_mul (show (-2147483648) ≤ (3 : Int) * v2_3.toInt by omega) (show (3 : Int) * v2_3.toInt ≤ 2147483647 by omega)
        refine lv_iadd hx hb dX12_isLifted_18 ?_
        refine lv_topi (fun x27 ex27 => ?_)
        have ex27 : x27.toInt = (156 : Int) + x26.toInt := by rw [ex27]; exact wk_add (show (-2147483648) ≤ (156 : Int) + x26.toInt by omega) (show (156 : Int) + x26.toInt ≤ 2147483647 by omega)
        refine lv_istore (lv' := [(4, .int x27), (0, .ref (ad 0)), (1, .int a1), (2, .int a2), (3, .int v2_3)]) hx hb dX12_isLifted_19 hl (by decide) rfl (fun ls hl => ?_)
        refine lv_aload_n hx hb dX12_isLifted_21 rfl (lv_at hl 1 rfl) ?_
        refine tk_getA hC hK hw hT hinX12 kM_at0 (by decide) rfl 26 (by decide) (List.mem_of_getElem? (i := 1) rfl) rfl rfl dX12_isLifted_22 ?_
        refine lv_iload hx hb dX12_isLifted_25 (lv_at hl 0 rfl) ?_
        refine tk_ialdR hC hK hw hT kM_at12 rfl (show 0 ≤ x27.toInt by omega) (show x27.toInt < 296 by omega) dX12_isLifted_27 (fun x28 c29 Ex28 => ?_)
        have c29 : gi w1 12 (3 * v2_3.toInt + 156).toNat = x28 := (congrArg (gi w1 12) (congrArg Int.toNat (show 3 * v2_3.toInt + 156 = x27.toInt by omega))).trans c29
        refine lv_iload_n hx hb dX12_isLifted_28 rfl (lv_at hl 2 rfl) ?_
        refine lv_icmp_ne (tgt := 66) hx hb dX12_isLifted_29 (by decide) (fun c30 => ?_) (fun c30 => ?_)
        · have c30 : ¬ x28.toInt = a1.toInt := wk_eqF c30
          exact J66 x27 x28 x23 H locs ls w1 (show 0 ≤ a1.toInt by omega) (show a1.toInt ≤ 12 by omega) (show 0 ≤ a2.toInt by omega) (show a2.toInt ≤ 101999 by omega) (show 0 ≤ v2_3.toInt by omega) (show v2_3.toInt ≤ 3 by omega) (show 156 ≤ x27.toInt by omega) (show x27.toInt ≤ 165 by omega) (show x27.toInt = 3 * v2_3.toInt + 156 by omega) (show 1 ≤ x23.toInt by omega) (show x23.toInt ≤ 4 by omega)  hw hT hF c29 c24 (lv_sub hl [1, 2, 3, 4, 0] rfl)
        · have c30 : x28.toInt = a1.toInt := wk_eq.mp c30
          refine lv_iload_n hx hb dX12_isLifted_32 rfl (lv_at hl 3 rfl) ?_
          refine lv_bipush (v := 24) hx hb dX12_isLifted_33 (by decide) ?_
          refine lv_irem hx hb dX12_isLifted_35 (by decide) ?_
          refine lv_topi (fun x31 ex31 => ?_)
          have ex31 : x31.toInt = a2.toInt % (24 : Int) := by rw [ex31]; exact wk_rem (show 0 ≤ a2.toInt by omega) (show 0 < (24 : Int) by decide)
          refine lv_aload_n hx hb dX12_isLifted_36 rfl (lv_at hl 1 rfl) ?_
          refine tk_getA hC hK hw hT hinX12 kM_at0 (by decide) rfl 26 (by decide) (List.mem_of_getElem? (i := 1) rfl) rfl rfl dX12_isLifted_37 ?_
          refine lv_iload hx hb dX12_isLifted_40 (lv_at hl 0 rfl) ?_
          refine lv_iconst (v := 1) hx hb dX12_isLifted_42 (by decide) ?_
          refine lv_iadd hx hb dX12_isLifted_43 ?_
          refine lv_topi (fun x32 ex32 => ?_)
          have ex32 : x32.toInt = x27.toInt + (1 : Int) := by rw [ex32]; exact wk_add (show (-2147483648) ≤ x27.toInt + (1 : Int) by omega) (show x27.toInt + (1 : Int) ≤ 2147483647 by omega)
          refine tk_ialdR hC hK hw hT kM_at12 rfl (show 0 ≤ x32.toInt by omega) (show x32.toInt < 296 by omega) dX12_isLifted_44 (fun x33 c34 Ex33 => ?_)
          have c34 : gi w1 12 (3 * v2_3.toInt + 157).toNat = x33 := (congrArg (gi w1 12) (congrArg Int.toNat (show 3 * v2_3.toInt + 157 = x32.toInt by omega))).trans c34
          refine lv_icmp_lt (tgt := 66) hx hb dX12_isLifted_45 (by decide) (fun c35 => ?_) (fun c35 => ?_)
          · have c35 : x31.toInt < x33.toInt := wk_lt.mp c35
            exact J66 x27 x28 x23 H locs ls w1 (show 0 ≤ a1.toInt by omega) (show a1.toInt ≤ 12 by omega) (show 0 ≤ a2.toInt by omega) (show a2.toInt ≤ 101999 by omega) (show 0 ≤ v2_3.toInt by omega) (show v2_3.toInt ≤ 3 by omega) (show 156 ≤ x27.toInt by omega) (show x27.toInt ≤ 165 by omega) (show x27.toInt = 3 * v2_3.toInt + 156 by omega) (show 1 ≤ x23.toInt by omega) (show x23.toInt ≤ 4 by omega)  hw hT hF c29 c24 (lv_sub hl [1, 2, 3, 4, 0] rfl)
          · have c35 : x33.toInt ≤ x31.toInt := wk_ltF c35
            refine lv_iload_n hx hb dX12_isLifted_48 rfl (lv_at hl 3 rfl) ?_
            refine lv_bipush (v := 24) hx hb dX12_isLifted_49 (by decide) ?_
            refine lv_irem hx hb dX12_isLifted_51 (by decide) ?_
            refine lv_topi (fun x36 ex36 => ?_)
            have ex36 : x36.toInt = a2.toInt % (24 : Int) := by rw [ex36]; exact wk_rem (show 0 ≤ a2.toInt by omega) (show 0 < (24 : Int) by decide)
            refine lv_aload_n hx hb dX12_isLifted_52 rfl (lv_at hl 1 rfl) ?_
            refine tk_getA hC hK hw hT hinX12 kM_at0 (by decide) rfl 26 (by decide) (List.mem_of_getElem? (i := 1) rfl) rfl rfl dX12_isLifted_53 ?_
            refine lv_iload hx hb dX12_isLifted_56 (lv_at hl 0 rfl) ?_
            refine lv_iconst (v := 2) hx hb dX12_isLifted_58 (by decide) ?_
            refine lv_iadd hx hb dX12_isLifted_59 ?_
            refine lv_topi (fun x37 ex37 => ?_)
            have ex37 : x37.toInt = x27.toInt + (2 : Int) := by rw [ex37]; exact wk_add (show (-2147483648) ≤ x27.toInt + (2 : Int) by omega) (show x27.toInt + (2 : Int) ≤ 2147483647 by omega)
            refine tk_ialdR hC hK hw hT kM_at12 rfl (show 0 ≤ x37.toInt by omega) (show x37.toInt < 296 by omega) dX12_isLifted_60 (fun x38 c39 Ex38 => ?_)
            have c39 : gi w1 12 (3 * v2_3.toInt + 158).toNat = x38 := (congrArg (gi w1 12) (congrArg Int.toNat (show 3 * v2_3.toInt + 158 = x37.toInt by omega))).trans c39
            refine lv_icmp_ge (tgt := 66) hx hb dX12_isLifted_61 (by decide) (fun c40 => ?_) (fun c40 => ?_)
            · have c40 : x38.toInt ≤ x36.toInt := wk_le.mp c40
              exact J66 x27 x28 x23 H locs ls w1 (show 0 ≤ a1.toInt by omega) (show a1.toInt ≤ 12 by omega) (show 0 ≤ a2.toInt by omega) (show a2.toInt ≤ 101999 by omega) (show 0 ≤ v2_3.toInt by omega) (show v2_3.toInt ≤ 3 by omega) (show 156 ≤ x27.toInt by omega) (show x27.toInt ≤ 165 by omega) (show x27.toInt = 3 * v2_3.toInt + 156 by omega) (show 1 ≤ x23.toInt by omega) (show x23.toInt ≤ 4 by omega)  hw hT hF c29 c24 (lv_sub hl [1, 2, 3, 4, 0] rfl)
            · have c40 : x36.toInt < x38.toInt := wk_leF c40
              refine lv_iconst (v := 1) hx hb dX12_isLifted_64 (by decide) ?_
              exact tk_zret hC hr rfl hlocks hK ⟨hT, hF, (Or.inr ⟨rfl, ⟨x23, c24, (show 1 ≤ x23.toInt by omega), (show x23.toInt ≤ 4 by omega)⟩⟩)⟩ hw dX12_isLifted_65
  refine lv_iconst (v := 0) hx hb dX12_isLifted_0 (by decide) ?_
  refine lv_istore_n (lv' := [(3, .int 0), (0, .ref (ad 0)), (1, .int a1), (2, .int a2)]) hx hb dX12_isLifted_1 rfl hl (by decide) rfl (fun ls hl => ?_)
  exact L2 ((4 - (0 : Int)).toNat + 1) 0 s.heap locs ls w0 (show 0 ≤ a1.toInt by omega) (show a1.toInt ≤ 12 by omega) (show 0 ≤ a2.toInt by omega) (show a2.toInt ≤ 101999 by omega) (by decide) (by decide) (Nat.lt_succ_self _) hw hT hF  (lv_sub hl [1, 2, 3, 0] rfl)
abbrev P_X12_firstOpen_4 (ad : Nat → Nat) (cy : Nat → ClassId) (B : Int) (qr : Nat) (s1 : Int) (a1 : Int32) (a2 : Int32) (a3 : Int32) (a4 : Int32) (w0 : va_W) : Int32 → va_W → Prop := fun r u => TW ksM ad cy B qr 13 u ∧ FE ksM ([] : List (Nat × Nat × Nat)) w0 u ∧ ((0 ≤ r.toInt ∧ r.toInt ≤ 100000000) ∨ (0 ≤ r.toInt ∧ r.toInt ≤ 101999 ∧ gi u 12 (10 * a1.toInt + 10).toNat = a2))
set_option maxHeartbeats 4000000 in
set_option maxRecDepth 100000 in
theorem k_X12_firstOpen_4 (l : Launch) (adK adV : Nat → Nat) (dC : Nat → ClassId) (dI : Nat → Nat → Nat) (cy : Nat → ClassId) (ad : Nat → Nat) (B : Int) (hB0 : 100000 ≤ B) (hB1 : B ≤ 1073741824) (qr : Nat) (s1 : Int)  (a1 : Int32) (ra1 : 0 ≤ a1.toInt) (ta1 : a1.toInt ≤ 12) (a2 : Int32) (ra2 : 0 ≤ a2.toInt) (ta2 : a2.toInt ≤ 9) (a3 : Int32) (ra3 : 0 ≤ a3.toInt) (ta3 : a3.toInt ≤ 100000100) (a4 : Int32) (ra4 : 2000 ≤ a4.toInt) (ta4 : a4.toInt ≤ 101999) (w0 : va_W) (sz : Nat) (hT : TW ksM ad cy B qr 13 w0)  : Met l yX12_firstOpen wsX12_firstOpen ({ frames := 4, cells := 0, slots := 0, locals := 80 }) (va_Pc [.ref (ad 0), .int a1, .int a2, .int a3, .int a4] (wpreS adK adV dC dI cy sz w0)) (va_Qi (P_X12_firstOpen_4 ad cy B qr s1 a1 a2 a3 a4 w0) (fun u : va_W => wpost dC dI cy (va_A w0 sz) u) (va_A w0 sz)) 0 0 (va_A w0 sz) := by
  refine Met.ofW (cc := cX12_firstOpen) (maxL := 6) (ret := (some .int)) (by decide) rfl ?_
  intro p e s m args below meth c s₁ Bk hml hv
  obtain ⟨rfl, ⟨hsz, hP, hK, hD0⟩, hE, hSR⟩ := hv
  have hx := Bk.exec
  have hb := Bk.bytes
  have hr := Bk.returns
  have hlocks := Bk.notSynchronized
  have hC : CallFix p m c cX12_firstOpen 6 s _ wsX12_firstOpen RX12 := ⟨hx, hb, hml, findClass_of_methodNamed Bk.named, atoms_spec (ws := wsX12_firstOpen) Bk.pre⟩
  subst hsz
  have hD := hD0.self (sz := s.heap.size)
  generalize hAe : va_A w0 s.heap.size = A at hD hE ⊢
  have hA : ∀ q : Nat, s.heap.size ≤ q → A q := fun q h => by rw [← hAe]; exact Or.inr h
  have hw : Wd dC dI A s.heap s.heap [] w0 := ⟨hP, hD, va_S.rf⟩
  have hF : FE ksM ([] : List (Nat × Nat × Nat)) w0 w0 := FE.rf
  have hl := lv_entry ([.ref (ad 0), .int a1, .int a2, .int a3, .int a4]) (n := 6) (Nat.le_of_ble_eq_true rfl)
  rw [lg_entry_eq]
  generalize (lg_sl ([.ref (ad 0), .int a1, .int a2, .int a3, .int a4]) ++ List.replicate (6 - (lg_sl ([.ref (ad 0), .int a1, .int a2, .int a3, .int a4])).length) Slot.unset).toArray = ls at hl ⊢
  have hl : lv_has ls 6 [(0, .ref (ad 0)), (1, .int a1), (2, .int a2), (3, .int a3), (4, .int a4)] := hl
  generalize hloc : ([] : List Loc) = locs at hw ⊢
  have L3 : ∀ (n3 : Nat) (v3_5 : Int32) (H : Heap) (locs : List Loc) (ls : Array Slot) (w1 : va_W), 0 ≤ a1.toInt → a1.toInt ≤ 12 → 0 ≤ a2.toInt → a2.toInt ≤ 9 → 0 ≤ a3.toInt → a3.toInt ≤ 100000100 → 2000 ≤ a4.toInt → a4.toInt ≤ 101999 → 0 ≤ v3_5.toInt → v3_5.toInt ≤ 100000100 → (100000100 - v3_5.toInt).toNat < n3 → Wd dC dI A s.heap H locs w1 → TW ksM ad cy B qr 13 w1 → FE ksM ([] : List (Nat × Nat × Nat)) w0 w1 → lv_has ls 6 [(0, .ref (ad 0)), (1, .int a1), (2, .int a2), (3, .int a3), (4, .int a4), (5, .int v3_5)] → W p l e ({ frames := 4, cells := 0, slots := 0, locals := 80 }) s m (List.toArray [.ref (ad 0), .int a1, .int a2, .int a3, .int a4]) below meth c H locs 0 0 (MQ below (va_Qi (P_X12_firstOpen_4 ad cy B qr s1 a1 a2 a3 a4 w0) (fun u : va_W => wpost dC dI cy A u) A) (List.toArray [.ref (ad 0), .int a1, .int a2, .int a3, .int a4]) s 0 0 A) (F0 m 3 ls []) := by
    intro n3
    induction n3 with
    | zero => intro v3_5 H locs ls w1 r2 t3 r4 t5 r6 t7 r8 t9 r10 t11 hm3 hw hT hF hl; omega
    | succ n3 ih3 =>
      intro v3_5 H locs ls w1 r2 t3 r4 t5 r6 t7 r8 t9 r10 t11 hm3 hw hT hF hl
      refine lv_iload hx hb dX12_firstOpen_3 (lv_at hl 5 rfl) ?_
      refine lv_iload hx hb dX12_firstOpen_5 (lv_at hl 4 rfl) ?_
      refine lv_icmp_gt (tgt := 58) hx hb dX12_firstOpen_7 (by decide) (fun c12 => ?_) (fun c12 => ?_)
      · have c12 : a4.toInt < v3_5.toInt := wk_lt.mp c12
        refine lv_ldcw (v := 100000000) hx hb hC.2.2.2.1 (hC.2.2.2.2 _ (List.mem_of_getElem? (i := 1) rfl)) dX12_firstOpen_58 ?_
        exact tk_iret hC hr hlocks hK ⟨hT, hF, (Or.inl ⟨(by decide), (by decide)⟩)⟩ hw dX12_firstOpen_61
      · have c12 : v3_5.toInt ≤ a4.toInt := wk_ltF c12
        refine lv_aload_n hx hb dX12_firstOpen_10 rfl (lv_at hl 0 rfl) ?_
        refine lv_iload_n hx hb dX12_firstOpen_11 rfl (lv_at hl 1 rfl) ?_
        refine lv_iload_n hx hb dX12_firstOpen_12 rfl (lv_at hl 2 rfl) ?_
        refine lv_iload hx hb dX12_firstOpen_13 (lv_at hl 5 rfl) ?_
        refine lv_bipush (v := 24) hx hb dX12_firstOpen_15 (by decide) ?_
        refine lv_idiv hx hb dX12_firstOpen_17 (by decide) ?_
        refine lv_topi (fun x13 ex13 => ?_)
        have ex13 : x13.toInt = v3_5.toInt / (24 : Int) := by rw [ex13]; exact wk_div (show 0 ≤ v3_5.toInt by omega) (show 0 < (24 : Int) by decide)
        refine tk_Vi hC hK hw hT hA hE hSR kM_at0 (by decide) rfl (k_X12_isDayFor_5 l adK adV dC dI cy ad B (by omega) (by omega) qr s1   a1 (show 0 ≤ a1.toInt by omega) (show a1.toInt ≤ 12 by omega) a2 (show 0 ≤ a2.toInt by omega) (show a2.toInt ≤ 9 by omega) x13 (show 0 ≤ x13.toInt by omega) (show x13.toInt ≤ 4249 by omega) w1 H.size hT ) (cwV 3 hC.2.2.2.2 gX12_firstOpen_X12_isDayFor rfl rfl rfl (by decide +kernel) ⟨Nat.le_of_ble_eq_true rfl, Nat.le_of_ble_eq_true rfl⟩) rfl hl.1 rfl (Nat.le_of_ble_eq_true rfl) dX12_firstOpen_18 (fun r14 w16 H locs hp15 hw => ?_)
        obtain ⟨hT, k17, hg20⟩ := hp15
        have hF := hF.tr k17 (by decide)
        rcases hg20 with rfl | ⟨rfl, c18⟩ | rfl | ⟨rfl, c19⟩
        · refine lv_if_ne (tgt := 39) hx hb dX12_firstOpen_21 (by decide) (fun c => absurd (by decide) c) (fun _ => ?_)
          refine lv_iload hx hb dX12_firstOpen_24 (lv_at hl 5 rfl) ?_
          refine lv_bipush (v := 24) hx hb dX12_firstOpen_26 (by decide) ?_
          refine lv_idiv hx hb dX12_firstOpen_28 (by decide) ?_
          refine lv_topi (fun x21 ex21 => ?_)
          have ex21 : x21.toInt = v3_5.toInt / (24 : Int) := by rw [ex21]; exact wk_div (show 0 ≤ v3_5.toInt by omega) (show 0 < (24 : Int) by decide)
          refine lv_iconst (v := 1) hx hb dX12_firstOpen_29 (by decide) ?_
          refine lv_iadd hx hb dX12_firstOpen_30 ?_
          refine lv_topi (fun x22 ex22 => ?_)
          have ex22 : x22.toInt = x21.toInt + (1 : Int) := by rw [ex22]; exact wk_add (show (-2147483648) ≤ x21.toInt + (1 : Int) by omega) (show x21.toInt + (1 : Int) ≤ 2147483647 by omega)
          refine lv_bipush (v := 24) hx hb dX12_firstOpen_31 (by decide) ?_
          refine lv_imul hx hb dX12_firstOpen_33 ?_
          refine lv_topi (fun x23 ex23 => ?_)
          have ex23 : x23.toInt = x22.toInt * (24 : Int) := by rw [ex23]; exact wk_mul (show (-2147483648) ≤ x22.toInt * (24 : Int) by omega) (show x22.toInt * (24 : Int) ≤ 2147483647 by omega)
          refine lv_istore (lv' := [(5, .int x23), (0, .ref (ad 0)), (1, .int a1), (2, .int a2), (3, .int a3), (4, .int a4)]) hx hb dX12_firstOpen_34 hl (by decide) rfl (fun ls hl => ?_)
          refine lv_goto (tgt := 3) hx hb dX12_firstOpen_36 (by decide) ?_
          exact ih3 x23 H locs ls w16 (show 0 ≤ a1.toInt by omega) (show a1.toInt ≤ 12 by omega) (show 0 ≤ a2.toInt by omega) (show a2.toInt ≤ 9 by omega) (show 0 ≤ a3.toInt by omega) (show a3.toInt ≤ 100000100 by omega) (show 2000 ≤ a4.toInt by omega) (show a4.toInt ≤ 101999 by omega) (show 0 ≤ x23.toInt by omega) (show x23.toInt ≤ 100000100 by omega) (show (100000100 - x23.toInt).toNat < n3 by omega) hw hT hF  (lv_sub hl [1, 2, 3, 4, 5, 0] rfl)
        · refine lv_if_ne (tgt := 39) hx hb dX12_firstOpen_21 (by decide) (fun c => absurd (by decide) c) (fun _ => ?_)
          refine lv_iload hx hb dX12_firstOpen_24 (lv_at hl 5 rfl) ?_
          refine lv_bipush (v := 24) hx hb dX12_firstOpen_26 (by decide) ?_
          refine lv_idiv hx hb dX12_firstOpen_28 (by decide) ?_
          refine lv_topi (fun x24 ex24 => ?_)
          have ex24 : x24.toInt = v3_5.toInt / (24 : Int) := by rw [ex24]; exact wk_div (show 0 ≤ v3_5.toInt by omega) (show 0 < (24 : Int) by decide)
          refine lv_iconst (v := 1) hx hb dX12_firstOpen_29 (by decide) ?_
          refine lv_iadd hx hb dX12_firstOpen_30 ?_
          refine lv_topi (fun x25 ex25 => ?_)
          have ex25 : x25.toInt = x24.toInt + (1 : Int) := by rw [ex25]; exact wk_add (show (-2147483648) ≤ x24.toInt + (1 : Int) by omega) (show x24.toInt + (1 : Int) ≤ 2147483647 by omega)
          refine lv_bipush (v := 24) hx hb dX12_firstOpen_31 (by decide) ?_
          refine lv_imul hx hb dX12_firstOpen_33 ?_
          refine lv_topi (fun x26 ex26 => ?_)
          have ex26 : x26.toInt = x25.toInt * (24 : Int) := by rw [ex26]; exact wk_mul (show (-2147483648) ≤ x25.toInt * (24 : Int) by omega) (show x25.toInt * (24 : Int) ≤ 2147483647 by omega)
          refine lv_istore (lv' := [(5, .int x26), (0, .ref (ad 0)), (1, .int a1), (2, .int a2), (3, .int a3), (4, .int a4)]) hx hb dX12_firstOpen_34 hl (by decide) rfl (fun ls hl => ?_)
          refine lv_goto (tgt := 3) hx hb dX12_firstOpen_36 (by decide) ?_
          exact ih3 x26 H locs ls w16 (show 0 ≤ a1.toInt by omega) (show a1.toInt ≤ 12 by omega) (show 0 ≤ a2.toInt by omega) (show a2.toInt ≤ 9 by omega) (show 0 ≤ a3.toInt by omega) (show a3.toInt ≤ 100000100 by omega) (show 2000 ≤ a4.toInt by omega) (show a4.toInt ≤ 101999 by omega) (show 0 ≤ x26.toInt by omega) (show x26.toInt ≤ 100000100 by omega) (show (100000100 - x26.toInt).toNat < n3 by omega) hw hT hF  (lv_sub hl [1, 2, 3, 4, 5, 0] rfl)
        · refine lv_if_ne (tgt := 39) hx hb dX12_firstOpen_21 (by decide) (fun _ => ?_) (fun c => absurd c (by decide))
          refine lv_aload_n hx hb dX12_firstOpen_39 rfl (lv_at hl 0 rfl) ?_
          refine lv_iload_n hx hb dX12_firstOpen_40 rfl (lv_at hl 1 rfl) ?_
          refine lv_iload hx hb dX12_firstOpen_41 (lv_at hl 5 rfl) ?_
          refine tk_Vi hC hK hw hT hA hE hSR kM_at0 (by decide) rfl (k_X12_isLifted_5 l adK adV dC dI cy ad B (by omega) (by omega) qr s1   a1 (show 0 ≤ a1.toInt by omega) (show a1.toInt ≤ 12 by omega) v3_5 (show 0 ≤ v3_5.toInt by omega) (show v3_5.toInt ≤ 101999 by omega) w16 H.size hT ) (cwV 2 hC.2.2.2.2 gX12_firstOpen_X12_isLifted rfl rfl rfl (by decide +kernel) ⟨Nat.le_of_ble_eq_true rfl, Nat.le_of_ble_eq_true rfl⟩) rfl hl.1 rfl (Nat.le_of_ble_eq_true rfl) dX12_firstOpen_43 (fun r27 w29 H locs hp28 hw => ?_)
          obtain ⟨hT, k30, hg33⟩ := hp28
          have hF := hF.tr k30 (by decide)
          rcases hg33 with rfl | ⟨rfl, ⟨x31, c32, rx31, tx31⟩⟩
          · refine lv_if_eq (tgt := 55) hx hb dX12_firstOpen_46 (by decide) (fun _ => ?_) (fun c => absurd (by decide) c)
            refine lv_iload hx hb dX12_firstOpen_55 (lv_at hl 5 rfl) ?_
            exact tk_iret hC hr hlocks hK ⟨hT, hF, (Or.inl ⟨(show 0 ≤ v3_5.toInt by omega), (show v3_5.toInt ≤ 100000000 by omega)⟩)⟩ hw dX12_firstOpen_57
          · refine lv_if_eq (tgt := 55) hx hb dX12_firstOpen_46 (by decide) (fun c => absurd c (by decide)) (fun _ => ?_)
            obtain ⟨x34, ex34⟩ : ∃ y : Int32, y = v3_5 + Int32.ofInt 1 := ⟨_, rfl⟩
            refine lv_iinc (v := x34) (lv' := [(5, .int x34), (0, .ref (ad 0)), (1, .int a1), (2, .int a2), (3, .int a3), (4, .int a4)]) hx hb dX12_firstOpen_49 hl (k := 5) rfl ex34.symm (by decide) rfl (fun ls hl => ?_)
            have ex34 : x34.toInt = v3_5.toInt + 1 := by rw [ex34]; exact wk_add (y := 1) (show -2147483648 ≤ v3_5.toInt + 1 by omega) (show v3_5.toInt + 1 ≤ 2147483647 by omega)
            refine lv_goto (tgt := 3) hx hb dX12_firstOpen_52 (by decide) ?_
            exact ih3 x34 H locs ls w29 (show 0 ≤ a1.toInt by omega) (show a1.toInt ≤ 12 by omega) (show 0 ≤ a2.toInt by omega) (show a2.toInt ≤ 9 by omega) (show 0 ≤ a3.toInt by omega) (show a3.toInt ≤ 100000100 by omega) (show 2000 ≤ a4.toInt by omega) (show a4.toInt ≤ 101999 by omega) (show 0 ≤ x34.toInt by omega) (show x34.toInt ≤ 100000100 by omega) (show (100000100 - x34.toInt).toNat < n3 by omega) hw hT hF  (lv_sub hl [1, 2, 3, 4, 5, 0] rfl)
        · refine lv_if_ne (tgt := 39) hx hb dX12_firstOpen_21 (by decide) (fun _ => ?_) (fun c => absurd c (by decide))
          refine lv_aload_n hx hb dX12_firstOpen_39 rfl (lv_at hl 0 rfl) ?_
          refine lv_iload_n hx hb dX12_firstOpen_40 rfl (lv_at hl 1 rfl) ?_
          refine lv_iload hx hb dX12_firstOpen_41 (lv_at hl 5 rfl) ?_
          refine tk_Vi hC hK hw hT hA hE hSR kM_at0 (by decide) rfl (k_X12_isLifted_5 l adK adV dC dI cy ad B (by omega) (by omega) qr s1   a1 (show 0 ≤ a1.toInt by omega) (show a1.toInt ≤ 12 by omega) v3_5 (show 0 ≤ v3_5.toInt by omega) (show v3_5.toInt ≤ 101999 by omega) w16 H.size hT ) (cwV 2 hC.2.2.2.2 gX12_firstOpen_X12_isLifted rfl rfl rfl (by decide +kernel) ⟨Nat.le_of_ble_eq_true rfl, Nat.le_of_ble_eq_true rfl⟩) rfl hl.1 rfl (Nat.le_of_ble_eq_true rfl) dX12_firstOpen_43 (fun r35 w37 H locs hp36 hw => ?_)
          obtain ⟨hT, k38, hg41⟩ := hp36
          have hF := hF.tr k38 (by decide)
          have c42 := k38.gi kM_at12 rfl c19
          rcases hg41 with rfl | ⟨rfl, ⟨x39, c40, rx39, tx39⟩⟩
          · refine lv_if_eq (tgt := 55) hx hb dX12_firstOpen_46 (by decide) (fun _ => ?_) (fun c => absurd (by decide) c)
            refine lv_iload hx hb dX12_firstOpen_55 (lv_at hl 5 rfl) ?_
            exact tk_iret hC hr hlocks hK ⟨hT, hF, (Or.inr ⟨(show 0 ≤ v3_5.toInt by omega), (show v3_5.toInt ≤ 101999 by omega), c42⟩)⟩ hw dX12_firstOpen_57
          · refine lv_if_eq (tgt := 55) hx hb dX12_firstOpen_46 (by decide) (fun c => absurd c (by decide)) (fun _ => ?_)
            obtain ⟨x43, ex43⟩ : ∃ y : Int32, y = v3_5 + Int32.ofInt 1 := ⟨_, rfl⟩
            refine lv_iinc (v := x43) (lv' := [(5, .int x43), (0, .ref (ad 0)), (1, .int a1), (2, .int a2), (3, .int a3), (4, .int a4)]) hx hb dX12_firstOpen_49 hl (k := 5) rfl ex43.symm (by decide) rfl (fun ls hl => ?_)
            have ex43 : x43.toInt = v3_5.toInt + 1 := by rw [ex43]; exact wk_add (y := 1) (show -2147483648 ≤ v3_5.toInt + 1 by omega) (show v3_5.toInt + 1 ≤ 2147483647 by omega)
            refine lv_goto (tgt := 3) hx hb dX12_firstOpen_52 (by decide) ?_
            exact ih3 x43 H locs ls w37 (show 0 ≤ a1.toInt by omega) (show a1.toInt ≤ 12 by omega) (show 0 ≤ a2.toInt by omega) (show a2.toInt ≤ 9 by omega) (show 0 ≤ a3.toInt by omega) (show a3.toInt ≤ 100000100 by omega) (show 2000 ≤ a4.toInt by omega) (show a4.toInt ≤ 101999 by omega) (show 0 ≤ x43.toInt by omega) (show x43.toInt ≤ 100000100 by omega) (show (100000100 - x43.toInt).toNat < n3 by omega) hw hT hF  (lv_sub hl [1, 2, 3, 4, 5, 0] rfl)
  refine lv_iload_n hx hb dX12_firstOpen_0 rfl (lv_at hl 3 rfl) ?_
  refine lv_istore (lv' := [(5, .int a3), (0, .ref (ad 0)), (1, .int a1), (2, .int a2), (3, .int a3), (4, .int a4)]) hx hb dX12_firstOpen_1 hl (by decide) rfl (fun ls hl => ?_)
  exact L3 ((100000100 - a3.toInt).toNat + 1) a3 s.heap locs ls w0 (show 0 ≤ a1.toInt by omega) (show a1.toInt ≤ 12 by omega) (show 0 ≤ a2.toInt by omega) (show a2.toInt ≤ 9 by omega) (show 0 ≤ a3.toInt by omega) (show a3.toInt ≤ 100000100 by omega) (show 2000 ≤ a4.toInt by omega) (show a4.toInt ≤ 101999 by omega) (show 0 ≤ a3.toInt by omega) (show a3.toInt ≤ 100000100 by omega) (Nat.lt_succ_self _) hw hT hF  (lv_sub hl [1, 2, 3, 4, 5, 0] rfl)
abbrev P_X12_otherOf_3 (ad : Nat → Nat) (cy : Nat → ClassId) (B : Int) (qr : Nat) (s1 : Int) (a1 : Int32) (a2 : Int32) (w0 : va_W) : Int32 → va_W → Prop := fun r u => TW ksM ad cy B qr 13 u ∧ FE ksM ([] : List (Nat × Nat × Nat)) w0 u ∧ ((0 ≤ r.toInt ∧ r.toInt ≤ 9) ∨ (0 ≤ r.toInt ∧ r.toInt ≤ 9 ∧ gi u 12 (10 * a1.toInt + 10).toNat = a2))
set_option maxHeartbeats 4000000 in
set_option maxRecDepth 100000 in
theorem k_X12_otherOf_3 (l : Launch) (adK adV : Nat → Nat) (dC : Nat → ClassId) (dI : Nat → Nat → Nat) (cy : Nat → ClassId) (ad : Nat → Nat) (B : Int) (hB0 : 100000 ≤ B) (hB1 : B ≤ 1073741824) (qr : Nat) (s1 : Int)  (a1 : Int32) (ra1 : 0 ≤ a1.toInt) (ta1 : a1.toInt ≤ 12) (a2 : Int32) (ra2 : 0 ≤ a2.toInt) (ta2 : a2.toInt ≤ 9) (w0 : va_W) (sz : Nat) (hT : TW ksM ad cy B qr 13 w0)  : Met l yX12_otherOf wsX12_otherOf ({ frames := 2, cells := 0, slots := 0, locals := 34 }) (va_Pc [.ref (ad 0), .int a1, .int a2] (wpreS adK adV dC dI cy sz w0)) (va_Qi (P_X12_otherOf_3 ad cy B qr s1 a1 a2 w0) (fun u : va_W => wpost dC dI cy (va_A w0 sz) u) (va_A w0 sz)) 0 0 (va_A w0 sz) := by
  refine Met.ofW (cc := cX12_otherOf) (maxL := 3) (ret := (some .int)) (by decide) rfl ?_
  intro p e s m args below meth c s₁ Bk hml hv
  obtain ⟨rfl, ⟨hsz, hP, hK, hD0⟩, hE, hSR⟩ := hv
  have hx := Bk.exec
  have hb := Bk.bytes
  have hr := Bk.returns
  have hlocks := Bk.notSynchronized
  have hC : CallFix p m c cX12_otherOf 3 s _ wsX12_otherOf RX12 := ⟨hx, hb, hml, findClass_of_methodNamed Bk.named, atoms_spec (ws := wsX12_otherOf) Bk.pre⟩
  subst hsz
  have hD := hD0.self (sz := s.heap.size)
  generalize hAe : va_A w0 s.heap.size = A at hD hE ⊢
  have hA : ∀ q : Nat, s.heap.size ≤ q → A q := fun q h => by rw [← hAe]; exact Or.inr h
  have hw : Wd dC dI A s.heap s.heap [] w0 := ⟨hP, hD, va_S.rf⟩
  have hF : FE ksM ([] : List (Nat × Nat × Nat)) w0 w0 := FE.rf
  have hl := lv_entry ([.ref (ad 0), .int a1, .int a2]) (n := 3) (Nat.le_of_ble_eq_true rfl)
  rw [lg_entry_eq]
  generalize (lg_sl ([.ref (ad 0), .int a1, .int a2]) ++ List.replicate (3 - (lg_sl ([.ref (ad 0), .int a1, .int a2])).length) Slot.unset).toArray = ls at hl ⊢
  have hl : lv_has ls 3 [(0, .ref (ad 0)), (1, .int a1), (2, .int a2)] := hl
  generalize hloc : ([] : List Loc) = locs at hw ⊢
  refine lv_aload_n hx hb dX12_otherOf_0 rfl (lv_at hl 0 rfl) ?_
  refine lv_iload_n hx hb dX12_otherOf_1 rfl (lv_at hl 1 rfl) ?_
  refine lv_iconst (v := 0) hx hb dX12_otherOf_2 (by decide) ?_
  refine tk_Vi hC hK hw hT hA hE hSR kM_at0 (by decide) rfl (k_X12_streetOf_11 l adK adV dC dI cy ad B (by omega) (by omega) qr s1   a1 (show 0 ≤ a1.toInt by omega) (show a1.toInt ≤ 12 by omega) w0 s.heap.size hT ) (cwV 2 hC.2.2.2.2 gX12_otherOf_X12_streetOf rfl rfl rfl (by decide +kernel) ⟨Nat.le_of_ble_eq_true rfl, Nat.le_of_ble_eq_true rfl⟩) rfl hl.1 rfl (Nat.le_of_ble_eq_true rfl) dX12_otherOf_3 (fun r1 w3 H locs hp2 hw => ?_)
  obtain ⟨hT, k4, hg8⟩ := hp2
  have hF := hF.tr k4 (by decide)
  obtain ⟨g5, g6, c7⟩ := hg8
  refine lv_iload_n hx hb dX12_otherOf_6 rfl (lv_at hl 2 rfl) ?_
  refine lv_icmp_ne (tgt := 19) hx hb dX12_otherOf_7 (by decide) (fun c9 => ?_) (fun c9 => ?_)
  · have c9 : ¬ r1.toInt = a2.toInt := wk_eqF c9
    refine lv_aload_n hx hb dX12_otherOf_19 rfl (lv_at hl 0 rfl) ?_
    refine lv_iload_n hx hb dX12_otherOf_20 rfl (lv_at hl 1 rfl) ?_
    refine lv_iconst (v := 0) hx hb dX12_otherOf_21 (by decide) ?_
    refine tk_Vi hC hK hw hT hA hE hSR kM_at0 (by decide) rfl (k_X12_streetOf_11 l adK adV dC dI cy ad B (by omega) (by omega) qr s1   a1 (show 0 ≤ a1.toInt by omega) (show a1.toInt ≤ 12 by omega) w3 H.size hT ) (cwV 2 hC.2.2.2.2 gX12_otherOf_X12_streetOf rfl rfl rfl (by decide +kernel) ⟨Nat.le_of_ble_eq_true rfl, Nat.le_of_ble_eq_true rfl⟩) rfl hl.1 rfl (Nat.le_of_ble_eq_true rfl) dX12_otherOf_22 (fun r10 w12 H locs hp11 hw => ?_)
    obtain ⟨hT, k13, hg17⟩ := hp11
    have hF := hF.tr k13 (by decide)
    have c18 := k13.gi kM_at12 rfl c7
    obtain ⟨g14, g15, c16⟩ := hg17
    obtain rfl : r10 = r1 := c16.symm.trans c18
    exact tk_iret hC hr hlocks hK ⟨hT, hF, (Or.inl ⟨(show 0 ≤ r1.toInt by omega), (show r1.toInt ≤ 9 by omega)⟩)⟩ hw dX12_otherOf_25
  · have c9 : r1.toInt = a2.toInt := wk_eq.mp c9
    refine lv_aload_n hx hb dX12_otherOf_10 rfl (lv_at hl 0 rfl) ?_
    refine lv_iload_n hx hb dX12_otherOf_11 rfl (lv_at hl 1 rfl) ?_
    refine lv_iconst (v := 1) hx hb dX12_otherOf_12 (by decide) ?_
    refine tk_Vi hC hK hw hT hA hE hSR kM_at0 (by decide) rfl (k_X12_streetOf_12 l adK adV dC dI cy ad B (by omega) (by omega) qr s1   a1 (show 0 ≤ a1.toInt by omega) (show a1.toInt ≤ 12 by omega) w3 H.size hT ) (cwV 2 hC.2.2.2.2 gX12_otherOf_X12_streetOf rfl rfl rfl (by decide +kernel) ⟨Nat.le_of_ble_eq_true rfl, Nat.le_of_ble_eq_true rfl⟩) rfl hl.1 rfl (Nat.le_of_ble_eq_true rfl) dX12_otherOf_13 (fun r19 w21 H locs hp20 hw => ?_)
    obtain ⟨hT, k22, hg26⟩ := hp20
    have hF := hF.tr k22 (by decide)
    have c27 := k22.gi kM_at12 rfl c7
    obtain ⟨g23, g24, c25⟩ := hg26
    refine lv_goto (tgt := 25) hx hb dX12_otherOf_16 (by decide) ?_
    exact tk_iret hC hr hlocks hK ⟨hT, hF, (Or.inr ⟨(show 0 ≤ r19.toInt by omega), (show r19.toInt ≤ 9 by omega), (c27.trans (wk_eq.mpr (show r1.toInt = a2.toInt by omega)))⟩)⟩ hw dX12_otherOf_25
abbrev P_X12_streetOf_14 (ad : Nat → Nat) (cy : Nat → ClassId) (B : Int) (qr : Nat) (s1 : Int) (a1 : Int32) (w0 : va_W) : Int32 → va_W → Prop := fun r u => TW ksM ad cy B qr 13 u ∧ FE ksM ([] : List (Nat × Nat × Nat)) w0 u ∧ ((0 ≤ r.toInt ∧ r.toInt ≤ 9 ∧ gi u 12 (10 * a1.toInt + 12).toNat = r))
set_option maxHeartbeats 4000000 in
set_option maxRecDepth 100000 in
theorem k_X12_streetOf_14 (l : Launch) (adK adV : Nat → Nat) (dC : Nat → ClassId) (dI : Nat → Nat → Nat) (cy : Nat → ClassId) (ad : Nat → Nat) (B : Int) (hB0 : 100000 ≤ B) (hB1 : B ≤ 1073741824) (qr : Nat) (s1 : Int)  (a1 : Int32) (ra1 : 0 ≤ a1.toInt) (ta1 : a1.toInt ≤ 12) (w0 : va_W) (sz : Nat) (hT : TW ksM ad cy B qr 13 w0)  : Met l yX12_streetOf wsX12_streetOf ({ frames := 1, cells := 0, slots := 0, locals := 12 }) (va_Pc [.ref (ad 0), .int a1, .int 2] (wpreS adK adV dC dI cy sz w0)) (va_Qi (P_X12_streetOf_14 ad cy B qr s1 a1 w0) (fun u : va_W => wpost dC dI cy (va_A w0 sz) u) (va_A w0 sz)) 0 0 (va_A w0 sz) := by
  refine Met.ofW (cc := cX12_streetOf) (maxL := 3) (ret := (some .int)) (by decide) rfl ?_
  intro p e s m args below meth c s₁ Bk hml hv
  obtain ⟨rfl, ⟨hsz, hP, hK, hD0⟩, hE, hSR⟩ := hv
  have hx := Bk.exec
  have hb := Bk.bytes
  have hr := Bk.returns
  have hlocks := Bk.notSynchronized
  have hC : CallFix p m c cX12_streetOf 3 s _ wsX12_streetOf RX12 := ⟨hx, hb, hml, findClass_of_methodNamed Bk.named, atoms_spec (ws := wsX12_streetOf) Bk.pre⟩
  subst hsz
  have hD := hD0.self (sz := s.heap.size)
  generalize hAe : va_A w0 s.heap.size = A at hD hE ⊢
  have hA : ∀ q : Nat, s.heap.size ≤ q → A q := fun q h => by rw [← hAe]; exact Or.inr h
  have hw : Wd dC dI A s.heap s.heap [] w0 := ⟨hP, hD, va_S.rf⟩
  have hF : FE ksM ([] : List (Nat × Nat × Nat)) w0 w0 := FE.rf
  have hl := lv_entry ([.ref (ad 0), .int a1, .int 2]) (n := 3) (Nat.le_of_ble_eq_true rfl)
  rw [lg_entry_eq]
  generalize (lg_sl ([.ref (ad 0), .int a1, .int 2]) ++ List.replicate (3 - (lg_sl ([.ref (ad 0), .int a1, .int 2])).length) Slot.unset).toArray = ls at hl ⊢
  have hl : lv_has ls 3 [(0, .ref (ad 0)), (1, .int a1), (2, .int 2)] := hl
  generalize hloc : ([] : List Loc) = locs at hw ⊢
  have hinX12 : ∀ w ∈ u_ws RX12 TX12 42, w ∈ wsX12_streetOf := fun _ h => List.mem_cons_of_mem _ (List.mem_append_right _ (h))
  refine lv_aload_n hx hb dX12_streetOf_0 rfl (lv_at hl 0 rfl) ?_
  refine tk_getA hC hK hw hT hinX12 kM_at0 (by decide) rfl 26 (by decide) (List.mem_of_getElem? (i := 1) rfl) rfl rfl dX12_streetOf_1 ?_
  refine lv_bipush (v := 10) hx hb dX12_streetOf_4 (by decide) ?_
  refine lv_bipush (v := 10) hx hb dX12_streetOf_6 (by decide) ?_
  refine lv_iload_n hx hb dX12_streetOf_8 rfl (lv_at hl 1 rfl) ?_
  refine lv_imul hx hb dX12_streetOf_9 ?_
  refine lv_topi (fun x1 ex1 => ?_)
  have ex1 : x1.toInt = (10 : Int) * a1.toInt := by rw [ex1]; exact wk_mul (show (-2147483648) ≤ (10 : Int) * a1.toInt by omega) (show (10 : Int) * a1.toInt ≤ 2147483647 by omega)
  refine lv_iadd hx hb dX12_streetOf_10 ?_
  refine lv_topi (fun x2 ex2 => ?_)
  have ex2 : x2.toInt = (10 : Int) + x1.toInt := by rw [ex2]; exact wk_add (show (-2147483648) ≤ (10 : Int) + x1.toInt by omega) (show (10 : Int) + x1.toInt ≤ 2147483647 by omega)
  refine lv_iload_n hx hb dX12_streetOf_11 rfl (lv_at hl 2 rfl) ?_
  refine lv_iadd hx hb dX12_streetOf_12 ?_
  refine lv_topi (fun x3 ex3 => ?_)
  have ex3 : x3.toInt = x2.toInt + (2 : Int) := by rw [ex3]; exact wk_add (show (-2147483648) ≤ x2.toInt + (2 : Int) by omega) (show x2.toInt + (2 : Int) ≤ 2147483647 by omega)
  refine tk_ialdR hC hK hw hT kM_at12 rfl (show 0 ≤ x3.toInt by omega) (show x3.toInt < 296 by omega) dX12_streetOf_13 (fun x4 c5 Ex4 => ?_)
  have c5 : gi w0 12 (10 * a1.toInt + 12).toNat = x4 := (congrArg (gi w0 12) (congrArg Int.toNat (show 10 * a1.toInt + 12 = x3.toInt by omega))).trans c5
  have bx4 := tk_rgI rfl 12 10 13 0 9 (by decide +kernel) ⟨(a1.toInt - 0).toNat, by omega, show x3.toInt.toNat = 12 + 10 * (a1.toInt - 0).toNat by omega⟩ Ex4
  exact tk_iret hC hr hlocks hK ⟨hT, hF, ⟨(show 0 ≤ x4.toInt by omega), (show x4.toInt ≤ 9 by omega), c5⟩⟩ hw dX12_streetOf_14
abbrev P_X12_reaches_3 (ad : Nat → Nat) (cy : Nat → ClassId) (B : Int) (qr : Nat) (s1 : Int) (a1 : Int32) (a2 : Int32) (a3 : Int32) (a4 : Int32) (w0 : va_W) : Int32 → va_W → Prop := fun r u => TW ksM ad cy B qr 13 u ∧ FE ksM [(77, 0, 10), (78, 0, 10)] w0 u ∧ ((0 ≤ r.toInt ∧ r.toInt ≤ 100000100))
set_option maxHeartbeats 4000000 in
set_option maxRecDepth 100000 in
theorem k_X12_reaches_3 (l : Launch) (adK adV : Nat → Nat) (dC : Nat → ClassId) (dI : Nat → Nat → Nat) (cy : Nat → ClassId) (ad : Nat → Nat) (B : Int) (hB0 : 100000 ≤ B) (hB1 : B ≤ 1073741824) (qr : Nat) (s1 : Int)  (a1 : Int32) (ra1 : 0 ≤ a1.toInt) (ta1 : a1.toInt ≤ 9) (a2 : Int32) (ra2 : 0 ≤ a2.toInt) (ta2 : a2.toInt ≤ 9) (a3 : Int32) (ra3 : 0 ≤ a3.toInt) (ta3 : a3.toInt ≤ 99999) (a4 : Int32) (ra4 : 2000 ≤ a4.toInt) (ta4 : a4.toInt ≤ 101999) (w0 : va_W) (sz : Nat) (hT : TW ksM ad cy B qr 13 w0)  : Met l yX12_reaches wsX12_reaches ({ frames := 5, cells := 0, slots := 0, locals := 105 }) (va_Pc [.ref (ad 0), .int a1, .int a2, .int a3, .int a4] (wpreS adK adV dC dI cy sz w0)) (va_Qi (P_X12_reaches_3 ad cy B qr s1 a1 a2 a3 a4 w0) (fun u : va_W => wpost dC dI cy (va_A w0 sz) u) (va_A w0 sz)) 0 0 (va_A w0 sz) := by
  refine Met.ofW (cc := cX12_reaches) (maxL := 9) (ret := (some .int)) (by decide) rfl ?_
  intro p e s m args below meth c s₁ Bk hml hv
  obtain ⟨rfl, ⟨hsz, hP, hK, hD0⟩, hE, hSR⟩ := hv
  have hx := Bk.exec
  have hb := Bk.bytes
  have hr := Bk.returns
  have hlocks := Bk.notSynchronized
  have hC : CallFix p m c cX12_reaches 9 s _ wsX12_reaches RX12 := ⟨hx, hb, hml, findClass_of_methodNamed Bk.named, atoms_spec (ws := wsX12_reaches) Bk.pre⟩
  subst hsz
  have hD := hD0.self (sz := s.heap.size)
  generalize hAe : va_A w0 s.heap.size = A at hD hE ⊢
  have hA : ∀ q : Nat, s.heap.size ≤ q → A q := fun q h => by rw [← hAe]; exact Or.inr h
  have hw : Wd dC dI A s.heap s.heap [] w0 := ⟨hP, hD, va_S.rf⟩
  have hF : FE ksM [(77, 0, 10), (78, 0, 10)] w0 w0 := FE.rf
  have hl := lv_entry ([.ref (ad 0), .int a1, .int a2, .int a3, .int a4]) (n := 9) (Nat.le_of_ble_eq_true rfl)
  rw [lg_entry_eq]
  generalize (lg_sl ([.ref (ad 0), .int a1, .int a2, .int a3, .int a4]) ++ List.replicate (9 - (lg_sl ([.ref (ad 0), .int a1, .int a2, .int a3, .int a4])).length) Slot.unset).toArray = ls at hl ⊢
  have hl : lv_has ls 9 [(0, .ref (ad 0)), (1, .int a1), (2, .int a2), (3, .int a3), (4, .int a4)] := hl
  generalize hloc : ([] : List Loc) = locs at hw ⊢
  have hinX12 : ∀ w ∈ u_ws RX12 TX12 42, w ∈ wsX12_reaches := fun _ h => List.mem_cons_of_mem _ (List.mem_append_right _ (h))
  have L44 : ∀ (n44 : Nat) (v44_5 : Int32) (H : Heap) (locs : List Loc) (ls : Array Slot) (w1 : va_W), 0 ≤ a1.toInt → a1.toInt ≤ 9 → 0 ≤ a2.toInt → a2.toInt ≤ 9 → 0 ≤ a3.toInt → a3.toInt ≤ 99999 → 2000 ≤ a4.toInt → a4.toInt ≤ 101999 → 0 ≤ v44_5.toInt → v44_5.toInt ≤ 10 → 0 ≤ (sumG 19 10 w1) → (10 - (sumG 19 10 w1)).toNat < n44 → Wd dC dI A s.heap H locs w1 → TW ksM ad cy B qr 13 w1 → FE ksM [(77, 0, 10), (78, 0, 10)] w0 w1 → lv_has ls 9 [(0, .ref (ad 0)), (1, .int a1), (2, .int a2), (3, .int a3), (4, .int a4), (5, .int v44_5)] → W p l e ({ frames := 5, cells := 0, slots := 0, locals := 105 }) s m (List.toArray [.ref (ad 0), .int a1, .int a2, .int a3, .int a4]) below meth c H locs 0 0 (MQ below (va_Qi (P_X12_reaches_3 ad cy B qr s1 a1 a2 a3 a4 w0) (fun u : va_W => wpost dC dI cy A u) A) (List.toArray [.ref (ad 0), .int a1, .int a2, .int a3, .int a4]) s 0 0 A) (F0 m 44 ls []) := by
    intro n44
    induction n44 with
    | zero => intro v44_5 H locs ls w1 r2 t3 r4 t5 r6 t7 r8 t9 r10 t11 g12 hm44 hw hT hF hl; omega
    | succ n44 ih44 =>
      intro v44_5 H locs ls w1 r2 t3 r4 t5 r6 t7 r8 t9 r10 t11 g12 hm44 hw hT hF hl
      have L145 : ∀ (n145 : Nat) (v145_5 : Int32) (v145_6 : Int32) (f145_12_0 : Int32) (H : Heap) (locs : List Loc) (ls : Array Slot) (w13 : va_W), 0 ≤ a1.toInt → a1.toInt ≤ 9 → 0 ≤ a2.toInt → a2.toInt ≤ 9 → 0 ≤ a3.toInt → a3.toInt ≤ 99999 → 2000 ≤ a4.toInt → a4.toInt ≤ 101999 → 0 ≤ v145_5.toInt → v145_5.toInt ≤ 9 → 0 ≤ v145_6.toInt → v145_6.toInt ≤ 13 → 0 ≤ f145_12_0.toInt → f145_12_0.toInt ≤ 10 → (sumG 19 10 w1) + 1 ≤ (sumG 19 10 w13) → (13 - v145_6.toInt).toNat < n145 → Wd dC dI A s.heap H locs w13 → TW ksM ad cy B qr 13 w13 → FE ksM [(77, 0, 10), (78, 0, 10)] w0 w13 → gi w13 12 0 = f145_12_0 → lv_has ls 9 [(0, .ref (ad 0)), (1, .int a1), (2, .int a2), (3, .int a3), (4, .int a4), (5, .int v145_5), (6, .int v145_6)] → W p l e ({ frames := 5, cells := 0, slots := 0, locals := 105 }) s m (List.toArray [.ref (ad 0), .int a1, .int a2, .int a3, .int a4]) below meth c H locs 0 0 (MQ below (va_Qi (P_X12_reaches_3 ad cy B qr s1 a1 a2 a3 a4 w0) (fun u : va_W => wpost dC dI cy A u) A) (List.toArray [.ref (ad 0), .int a1, .int a2, .int a3, .int a4]) s 0 0 A) (F0 m 145 ls []) := by
        intro n145
        induction n145 with
        | zero => intro v145_5 v145_6 f145_12_0 H locs ls w13 r14 t15 r16 t17 r18 t19 r20 t21 r22 t23 r24 t25 r26 t27 g29 hm145 hw hT hF c28 hl; omega
        | succ n145 ih145 =>
          intro v145_5 v145_6 f145_12_0 H locs ls w13 r14 t15 r16 t17 r18 t19 r20 t21 r22 t23 r24 t25 r26 t27 g29 hm145 hw hT hF c28 hl
          have J259 : ∀ (f259_12_1 : Int32) (H : Heap) (locs : List Loc) (ls : Array Slot) (w30 : va_W), 0 ≤ a1.toInt → a1.toInt ≤ 9 → 0 ≤ a2.toInt → a2.toInt ≤ 9 → 0 ≤ a3.toInt → a3.toInt ≤ 99999 → 2000 ≤ a4.toInt → a4.toInt ≤ 101999 → 0 ≤ v145_5.toInt → v145_5.toInt ≤ 9 → 0 ≤ v145_6.toInt → v145_6.toInt ≤ 12 → 0 ≤ f145_12_0.toInt → f145_12_0.toInt ≤ 10 → 1 ≤ f259_12_1.toInt → f259_12_1.toInt ≤ 13 → (sumG 19 10 w1) + 1 ≤ (sumG 19 10 w30) → Wd dC dI A s.heap H locs w30 → TW ksM ad cy B qr 13 w30 → FE ksM [(77, 0, 10), (78, 0, 10)] w0 w30 → gi w30 12 0 = f145_12_0 → gi w30 12 1 = f259_12_1 → lv_has ls 9 [(0, .ref (ad 0)), (1, .int a1), (2, .int a2), (3, .int a3), (4, .int a4), (5, .int v145_5), (6, .int v145_6)] → W p l e ({ frames := 5, cells := 0, slots := 0, locals := 105 }) s m (List.toArray [.ref (ad 0), .int a1, .int a2, .int a3, .int a4]) below meth c H locs 0 0 (MQ below (va_Qi (P_X12_reaches_3 ad cy B qr s1 a1 a2 a3 a4 w0) (fun u : va_W => wpost dC dI cy A u) A) (List.toArray [.ref (ad 0), .int a1, .int a2, .int a3, .int a4]) s 0 0 A) (F0 m 259 ls []) := by
            intro f259_12_1 H locs ls w30 r31 t32 r33 t34 r35 t36 r37 t38 r39 t40 r41 t42 r43 t44 r46 t47 g49 hw hT hF c45 c48 hl
            obtain ⟨x50, ex50⟩ : ∃ y : Int32, y = v145_6 + Int32.ofInt 1 := ⟨_, rfl⟩
            refine lv_iinc (v := x50) (lv' := [(6, .int x50), (0, .ref (ad 0)), (1, .int a1), (2, .int a2), (3, .int a3), (4, .int a4), (5, .int v145_5)]) hx hb dX12_reaches_259 hl (k := 6) rfl ex50.symm (by decide) rfl (fun ls hl => ?_)
            have ex50 : x50.toInt = v145_6.toInt + 1 := by rw [ex50]; exact wk_add (y := 1) (show -2147483648 ≤ v145_6.toInt + 1 by omega) (show v145_6.toInt + 1 ≤ 2147483647 by omega)
            refine lv_goto (tgt := 145) hx hb dX12_reaches_262 (by decide) ?_
            have gb51 : 0 ≤ sumG 19 10 w30 ∧ sumG 19 10 w30 ≤ 10 := hT.sum (lo := 0) (hi := 1) kM_at19 rfl (by decide) rfl
            exact ih145 v145_5 x50 f145_12_0 H locs ls w30 (show 0 ≤ a1.toInt by omega) (show a1.toInt ≤ 9 by omega) (show 0 ≤ a2.toInt by omega) (show a2.toInt ≤ 9 by omega) (show 0 ≤ a3.toInt by omega) (show a3.toInt ≤ 99999 by omega) (show 2000 ≤ a4.toInt by omega) (show a4.toInt ≤ 101999 by omega) (show 0 ≤ v145_5.toInt by omega) (show v145_5.toInt ≤ 9 by omega) (show 0 ≤ x50.toInt by omega) (show x50.toInt ≤ 13 by omega) (show 0 ≤ f145_12_0.toInt by omega) (show f145_12_0.toInt ≤ 10 by omega) (show (sumG 19 10 w1) + 1 ≤ (sumG 19 10 w30) by omega) (show (13 - x50.toInt).toNat < n145 by omega) hw hT hF c45 (lv_sub hl [1, 2, 3, 4, 5, 6, 0] rfl)
          refine lv_iload hx hb dX12_reaches_145 (lv_at hl 6 rfl) ?_
          refine lv_aload_n hx hb dX12_reaches_147 rfl (lv_at hl 0 rfl) ?_
          refine tk_getA hC hK hw hT hinX12 kM_at0 (by decide) rfl 26 (by decide) (List.mem_of_getElem? (i := 4) rfl) rfl rfl dX12_reaches_148 ?_
          refine lv_iconst (v := 1) hx hb dX12_reaches_151 (by decide) ?_
          refine tk_ialdR hC hK hw hT kM_at12 rfl (by decide) (by decide) dX12_reaches_152 (fun x52 c53 Ex52 => ?_)
          have bx52 : 0 ≤ x52.toInt ∧ x52.toInt ≤ 13 := (tk_rg1 rfl).mp Ex52
          have c53 : gi w13 12 1 = x52 := c53
          refine lv_icmp_ge (tgt := 265) hx hb dX12_reaches_153 (by decide) (fun c54 => ?_) (fun c54 => ?_)
          · have c54 : x52.toInt ≤ v145_6.toInt := wk_le.mp c54
            refine lv_goto (tgt := 44) hx hb dX12_reaches_265 (by decide) ?_
            have gb55 : 0 ≤ sumG 19 10 w13 ∧ sumG 19 10 w13 ≤ 10 := hT.sum (lo := 0) (hi := 1) kM_at19 rfl (by decide) rfl
            exact ih44 v145_5 H locs ls w13 (show 0 ≤ a1.toInt by omega) (show a1.toInt ≤ 9 by omega) (show 0 ≤ a2.toInt by omega) (show a2.toInt ≤ 9 by omega) (show 0 ≤ a3.toInt by omega) (show a3.toInt ≤ 99999 by omega) (show 2000 ≤ a4.toInt by omega) (show a4.toInt ≤ 101999 by omega) (show 0 ≤ v145_5.toInt by omega) (show v145_5.toInt ≤ 10 by omega) (show 0 ≤ (sumG 19 10 w13) by omega) (show (10 - (sumG 19 10 w13)).toNat < n44 by omega) hw hT hF  (lv_sub hl [0, 1, 2, 3, 4, 5] rfl)
          · have c54 : v145_6.toInt < x52.toInt := wk_leF c54
            refine lv_aload_n hx hb dX12_reaches_156 rfl (lv_at hl 0 rfl) ?_
            refine lv_iload hx hb dX12_reaches_157 (lv_at hl 6 rfl) ?_
            refine lv_iload hx hb dX12_reaches_159 (lv_at hl 5 rfl) ?_
            refine tk_Vi hC hK hw hT hA hE hSR kM_at0 (by decide) rfl (k_X12_isAt_3 l adK adV dC dI cy ad B (by omega) (by omega) qr s1   v145_6 (show 0 ≤ v145_6.toInt by omega) (show v145_6.toInt ≤ 12 by omega) v145_5 (show 0 ≤ v145_5.toInt by omega) (show v145_5.toInt ≤ 9 by omega) w13 H.size hT ) (cwV 2 hC.2.2.2.2 gX12_reaches_X12_isAt rfl rfl rfl (by decide +kernel) ⟨Nat.le_of_ble_eq_true rfl, Nat.le_of_ble_eq_true rfl⟩) rfl hl.1 rfl (Nat.le_of_ble_eq_true rfl) dX12_reaches_161 (fun r56 w58 H locs hp57 hw => ?_)
            obtain ⟨hT, k59, hg60⟩ := hp57
            have gs61 : sumG 19 10 w58 = sumG 19 10 w13 := sumG_FE 10 k59 kM_at19 (fun _ => rfl)
            have hF := hF.tr k59 (by decide)
            have c62 := k59.gi kM_at12 (by decide) c28
            have c63 := k59.gi kM_at12 (by decide) c53
            rcases hg60 with rfl | rfl
            · refine lv_if_ne (tgt := 170) hx hb dX12_reaches_164 (by decide) (fun c => absurd (by decide) c) (fun _ => ?_)
              refine lv_goto (tgt := 259) hx hb dX12_reaches_167 (by decide) ?_
              have gb64 : 0 ≤ sumG 19 10 w58 ∧ sumG 19 10 w58 ≤ 10 := hT.sum (lo := 0) (hi := 1) kM_at19 rfl (by decide) rfl
              exact J259 x52 H locs ls w58 (show 0 ≤ a1.toInt by omega) (show a1.toInt ≤ 9 by omega) (show 0 ≤ a2.toInt by omega) (show a2.toInt ≤ 9 by omega) (show 0 ≤ a3.toInt by omega) (show a3.toInt ≤ 99999 by omega) (show 2000 ≤ a4.toInt by omega) (show a4.toInt ≤ 101999 by omega) (show 0 ≤ v145_5.toInt by omega) (show v145_5.toInt ≤ 9 by omega) (show 0 ≤ v145_6.toInt by omega) (show v145_6.toInt ≤ 12 by omega) (show 0 ≤ f145_12_0.toInt by omega) (show f145_12_0.toInt ≤ 10 by omega) (show 1 ≤ x52.toInt by omega) (show x52.toInt ≤ 13 by omega) (show (sumG 19 10 w1) + 1 ≤ (sumG 19 10 w58) by omega)  hw hT hF c62 c63 (lv_sub hl [0, 1, 2, 3, 4, 5, 6] rfl)
            · refine lv_if_ne (tgt := 170) hx hb dX12_reaches_164 (by decide) (fun _ => ?_) (fun c => absurd c (by decide))
              refine lv_aload_n hx hb dX12_reaches_170 rfl (lv_at hl 0 rfl) ?_
              refine lv_iload hx hb dX12_reaches_171 (lv_at hl 6 rfl) ?_
              refine lv_iload hx hb dX12_reaches_173 (lv_at hl 5 rfl) ?_
              refine lv_aload_n hx hb dX12_reaches_175 rfl (lv_at hl 0 rfl) ?_
              refine tk_getA hC hK hw hT hinX12 kM_at0 (by decide) rfl 35 (by decide) (List.mem_of_getElem? (i := 1) rfl) rfl rfl dX12_reaches_176 ?_
              refine lv_iload hx hb dX12_reaches_179 (lv_at hl 5 rfl) ?_
              refine tk_iald hC hK hw hT kM_at18 rfl rfl (show 0 ≤ v145_5.toInt by omega) (show v145_5.toInt < 10 by omega) dX12_reaches_181 (fun x65 c66 rx65 tx65 => ?_)
              refine lv_iload hx hb dX12_reaches_182 (lv_at hl 4 rfl) ?_
              refine tk_Vi hC hK hw hT hA hE hSR kM_at0 (by decide) rfl (k_X12_firstOpen_4 l adK adV dC dI cy ad B (by omega) (by omega) qr s1   v145_6 (show 0 ≤ v145_6.toInt by omega) (show v145_6.toInt ≤ 12 by omega) v145_5 (show 0 ≤ v145_5.toInt by omega) (show v145_5.toInt ≤ 9 by omega) x65 (show 0 ≤ x65.toInt by omega) (show x65.toInt ≤ 100000100 by omega) a4 (show 2000 ≤ a4.toInt by omega) (show a4.toInt ≤ 101999 by omega) w58 H.size hT ) (cwV 4 hC.2.2.2.2 gX12_reaches_X12_firstOpen rfl rfl rfl (by decide +kernel) ⟨Nat.le_of_ble_eq_true rfl, Nat.le_of_ble_eq_true rfl⟩) rfl hl.1 rfl (Nat.le_of_ble_eq_true rfl) dX12_reaches_184 (fun r67 w69 H locs hp68 hw => ?_)
              obtain ⟨hT, k70, hg76⟩ := hp68
              have gs77 : sumG 19 10 w69 = sumG 19 10 w58 := sumG_FE 10 k70 kM_at19 (fun _ => rfl)
              have hF := hF.tr k70 (by decide)
              have c78 := k70.gi kM_at12 (by decide) c62
              have c79 := k70.gi kM_at12 (by decide) c63
              rcases hg76 with ⟨g71, g72⟩ | ⟨g73, g74, c75⟩
              · refine lv_istore (lv' := [(7, .int r67), (0, .ref (ad 0)), (1, .int a1), (2, .int a2), (3, .int a3), (4, .int a4), (5, .int v145_5), (6, .int v145_6)]) hx hb dX12_reaches_187 hl (by decide) rfl (fun ls hl => ?_)
                refine lv_aload_n hx hb dX12_reaches_189 rfl (lv_at hl 1 rfl) ?_
                refine lv_iload hx hb dX12_reaches_190 (lv_at hl 7 rfl) ?_
                refine lv_iload hx hb dX12_reaches_192 (lv_at hl 6 rfl) ?_
                refine tk_Vi hC hK hw hT hA hE hSR kM_at0 (by decide) rfl (k_X12_otherOf_3 l adK adV dC dI cy ad B (by omega) (by omega) qr s1   v145_6 (show 0 ≤ v145_6.toInt by omega) (show v145_6.toInt ≤ 12 by omega) v145_5 (show 0 ≤ v145_5.toInt by omega) (show v145_5.toInt ≤ 9 by omega) w69 H.size hT ) (cwV 2 hC.2.2.2.2 gX12_reaches_X12_otherOf rfl rfl rfl (by decide +kernel) ⟨Nat.le_of_ble_eq_true rfl, Nat.le_of_ble_eq_true rfl⟩) rfl hl.1 rfl (Nat.le_of_ble_eq_true rfl) dX12_reaches_194 (fun r80 w82 H locs hp81 hw => ?_)
                obtain ⟨hT, k83, hg89⟩ := hp81
                have gs90 : sumG 19 10 w82 = sumG 19 10 w69 := sumG_FE 10 k83 kM_at19 (fun _ => rfl)
                have hF := hF.tr k83 (by decide)
                have c91 := k83.gi kM_at12 (by decide) c78
                have c92 := k83.gi kM_at12 (by decide) c79
                rcases hg89 with ⟨g84, g85⟩ | ⟨g86, g87, c88⟩
                · refine lv_istore (lv' := [(8, .int r80), (7, .int r67), (0, .ref (ad 0)), (1, .int a1), (2, .int a2), (3, .int a3), (4, .int a4), (5, .int v145_5), (6, .int v145_6)]) hx hb dX12_reaches_197 hl (by decide) rfl (fun ls hl => ?_)
                  refine lv_iload hx hb dX12_reaches_199 (lv_at hl 1 rfl) ?_
                  refine lv_ldcw (v := 100000000) hx hb hC.2.2.2.1 (hC.2.2.2.2 _ (List.mem_of_getElem? (i := 2) rfl)) dX12_reaches_201 ?_
                  refine lv_icmp_ge (tgt := 259) hx hb dX12_reaches_204 (by decide) (fun c93 => ?_) (fun c93 => ?_)
                  · have c93 : (100000000 : Int) ≤ r67.toInt := wk_le.mp c93
                    have gb94 : 0 ≤ sumG 19 10 w82 ∧ sumG 19 10 w82 ≤ 10 := hT.sum (lo := 0) (hi := 1) kM_at19 rfl (by decide) rfl
                    exact J259 x52 H locs ls w82 (show 0 ≤ a1.toInt by omega) (show a1.toInt ≤ 9 by omega) (show 0 ≤ a2.toInt by omega) (show a2.toInt ≤ 9 by omega) (show 0 ≤ a3.toInt by omega) (show a3.toInt ≤ 99999 by omega) (show 2000 ≤ a4.toInt by omega) (show a4.toInt ≤ 101999 by omega) (show 0 ≤ v145_5.toInt by omega) (show v145_5.toInt ≤ 9 by omega) (show 0 ≤ v145_6.toInt by omega) (show v145_6.toInt ≤ 12 by omega) (show 0 ≤ f145_12_0.toInt by omega) (show f145_12_0.toInt ≤ 10 by omega) (show 1 ≤ x52.toInt by omega) (show x52.toInt ≤ 13 by omega) (show (sumG 19 10 w1) + 1 ≤ (sumG 19 10 w82) by omega)  hw hT hF c91 c92 (lv_sub hl [2, 3, 4, 5, 6, 7, 8] rfl)
                  · have c93 : r67.toInt < (100000000 : Int) := wk_leF c93
                    refine lv_iload hx hb dX12_reaches_207 (lv_at hl 1 rfl) ?_
                    refine lv_aload_n hx hb dX12_reaches_209 rfl (lv_at hl 2 rfl) ?_
                    refine lv_iload hx hb dX12_reaches_210 (lv_at hl 8 rfl) ?_
                    refine lv_iconst (v := 2) hx hb dX12_reaches_212 (by decide) ?_
                    refine tk_Vi hC hK hw hT hA hE hSR kM_at0 (by decide) rfl (k_X12_streetOf_14 l adK adV dC dI cy ad B (by omega) (by omega) qr s1   v145_6 (show 0 ≤ v145_6.toInt by omega) (show v145_6.toInt ≤ 12 by omega) w82 H.size hT ) (cwV 2 hC.2.2.2.2 gX12_reaches_X12_streetOf rfl rfl rfl (by decide +kernel) ⟨Nat.le_of_ble_eq_true rfl, Nat.le_of_ble_eq_true rfl⟩) rfl hl.1 rfl (Nat.le_of_ble_eq_true rfl) dX12_reaches_213 (fun r95 w97 H locs hp96 hw => ?_)
                    obtain ⟨hT, k98, hg102⟩ := hp96
                    have gs103 : sumG 19 10 w97 = sumG 19 10 w82 := sumG_FE 10 k98 kM_at19 (fun _ => rfl)
                    have hF := hF.tr k98 (by decide)
                    have c104 := k98.gi kM_at12 (by decide) c91
                    have c105 := k98.gi kM_at12 (by decide) c92
                    obtain ⟨g99, g100, c101⟩ := hg102
                    refine lv_iadd hx hb dX12_reaches_216 ?_
                    refine lv_topi (fun x106 ex106 => ?_)
                    have ex106 : x106.toInt = r67.toInt + r95.toInt := by rw [ex106]; exact wk_add (show (-2147483648) ≤ r67.toInt + r95.toInt by omega) (show r67.toInt + r95.toInt ≤ 2147483647 by omega)
                    refine lv_iload hx hb dX12_reaches_217 (lv_at hl 6 rfl) ?_
                    refine lv_icmp_gt (tgt := 259) hx hb dX12_reaches_219 (by decide) (fun c107 => ?_) (fun c107 => ?_)
                    · have c107 : a4.toInt < x106.toInt := wk_lt.mp c107
                      have gb108 : 0 ≤ sumG 19 10 w97 ∧ sumG 19 10 w97 ≤ 10 := hT.sum (lo := 0) (hi := 1) kM_at19 rfl (by decide) rfl
                      exact J259 x52 H locs ls w97 (show 0 ≤ a1.toInt by omega) (show a1.toInt ≤ 9 by omega) (show 0 ≤ a2.toInt by omega) (show a2.toInt ≤ 9 by omega) (show 0 ≤ a3.toInt by omega) (show a3.toInt ≤ 99999 by omega) (show 2000 ≤ a4.toInt by omega) (show a4.toInt ≤ 101999 by omega) (show 0 ≤ v145_5.toInt by omega) (show v145_5.toInt ≤ 9 by omega) (show 0 ≤ v145_6.toInt by omega) (show v145_6.toInt ≤ 12 by omega) (show 0 ≤ f145_12_0.toInt by omega) (show f145_12_0.toInt ≤ 10 by omega) (show 1 ≤ x52.toInt by omega) (show x52.toInt ≤ 13 by omega) (show (sumG 19 10 w1) + 1 ≤ (sumG 19 10 w97) by omega)  hw hT hF c104 c105 (lv_sub hl [2, 3, 4, 5, 6, 7, 8] rfl)
                    · have c107 : x106.toInt ≤ a4.toInt := wk_ltF c107
                      refine lv_iload hx hb dX12_reaches_222 (lv_at hl 1 rfl) ?_
                      refine lv_aload_n hx hb dX12_reaches_224 rfl (lv_at hl 2 rfl) ?_
                      refine lv_iload hx hb dX12_reaches_225 (lv_at hl 8 rfl) ?_
                      refine lv_iconst (v := 2) hx hb dX12_reaches_227 (by decide) ?_
                      refine tk_Vi hC hK hw hT hA hE hSR kM_at0 (by decide) rfl (k_X12_streetOf_14 l adK adV dC dI cy ad B (by omega) (by omega) qr s1   v145_6 (show 0 ≤ v145_6.toInt by omega) (show v145_6.toInt ≤ 12 by omega) w97 H.size hT ) (cwV 2 hC.2.2.2.2 gX12_reaches_X12_streetOf rfl rfl rfl (by decide +kernel) ⟨Nat.le_of_ble_eq_true rfl, Nat.le_of_ble_eq_true rfl⟩) rfl hl.1 rfl (Nat.le_of_ble_eq_true rfl) dX12_reaches_228 (fun r109 w111 H locs hp110 hw => ?_)
                      obtain ⟨hT, k112, hg116⟩ := hp110
                      have gs117 : sumG 19 10 w111 = sumG 19 10 w97 := sumG_FE 10 k112 kM_at19 (fun _ => rfl)
                      have hF := hF.tr k112 (by decide)
                      have c118 := k112.gi kM_at12 (by decide) c104
                      have c119 := k112.gi kM_at12 (by decide) c105
                      have c120 := k112.gi kM_at12 rfl c101
                      obtain ⟨g113, g114, c115⟩ := hg116
                      obtain rfl : r109 = r95 := c115.symm.trans c120
                      refine lv_iadd hx hb dX12_reaches_231 ?_
                      refine lv_topi (fun x121 ex121 => ?_)
                      have ex121 : x121.toInt = r67.toInt + r95.toInt := by rw [ex121]; exact wk_add (show (-2147483648) ≤ r67.toInt + r95.toInt by omega) (show r67.toInt + r95.toInt ≤ 2147483647 by omega)
                      refine lv_aload_n hx hb dX12_reaches_232 rfl (lv_at hl 2 rfl) ?_
                      refine tk_getA hC hK hw hT hinX12 kM_at0 (by decide) rfl 35 (by decide) (List.mem_of_getElem? (i := 1) rfl) rfl rfl dX12_reaches_233 ?_
                      refine lv_iload hx hb dX12_reaches_236 (lv_at hl 0 rfl) ?_
                      refine tk_iald hC hK hw hT kM_at18 rfl rfl (show 0 ≤ r80.toInt by omega) (show r80.toInt < 10 by omega) dX12_reaches_238 (fun x122 c123 rx122 tx122 => ?_)
                      refine lv_icmp_ge (tgt := 259) hx hb dX12_reaches_239 (by decide) (fun c124 => ?_) (fun c124 => ?_)
                      · have c124 : x122.toInt ≤ x121.toInt := wk_le.mp c124
                        have gb125 : 0 ≤ sumG 19 10 w111 ∧ sumG 19 10 w111 ≤ 10 := hT.sum (lo := 0) (hi := 1) kM_at19 rfl (by decide) rfl
                        exact J259 x52 H locs ls w111 (show 0 ≤ a1.toInt by omega) (show a1.toInt ≤ 9 by omega) (show 0 ≤ a2.toInt by omega) (show a2.toInt ≤ 9 by omega) (show 0 ≤ a3.toInt by omega) (show a3.toInt ≤ 99999 by omega) (show 2000 ≤ a4.toInt by omega) (show a4.toInt ≤ 101999 by omega) (show 0 ≤ v145_5.toInt by omega) (show v145_5.toInt ≤ 9 by omega) (show 0 ≤ v145_6.toInt by omega) (show v145_6.toInt ≤ 12 by omega) (show 0 ≤ f145_12_0.toInt by omega) (show f145_12_0.toInt ≤ 10 by omega) (show 1 ≤ x52.toInt by omega) (show x52.toInt ≤ 13 by omega) (show (sumG 19 10 w1) + 1 ≤ (sumG 19 10 w111) by omega)  hw hT hF c118 c119 (lv_sub hl [2, 3, 4, 5, 6, 7, 8] rfl)
                      · have c124 : x121.toInt < x122.toInt := wk_leF c124
                        refine lv_aload_n hx hb dX12_reaches_242 rfl (lv_at hl 2 rfl) ?_
                        refine tk_getA hC hK hw hT hinX12 kM_at0 (by decide) rfl 35 (by decide) (List.mem_of_getElem? (i := 1) rfl) rfl rfl dX12_reaches_243 ?_
                        refine lv_iload hx hb dX12_reaches_246 (lv_at hl 0 rfl) ?_
                        refine lv_iload hx hb dX12_reaches_248 (lv_at hl 1 rfl) ?_
                        refine lv_aload_n hx hb dX12_reaches_250 rfl (lv_at hl 2 rfl) ?_
                        refine lv_iload hx hb dX12_reaches_251 (lv_at hl 8 rfl) ?_
                        refine lv_iconst (v := 2) hx hb dX12_reaches_253 (by decide) ?_
                        refine tk_Vi hC hK hw hT hA hE hSR kM_at0 (by decide) rfl (k_X12_streetOf_14 l adK adV dC dI cy ad B (by omega) (by omega) qr s1   v145_6 (show 0 ≤ v145_6.toInt by omega) (show v145_6.toInt ≤ 12 by omega) w111 H.size hT ) (cwV 2 hC.2.2.2.2 gX12_reaches_X12_streetOf rfl rfl rfl (by decide +kernel) ⟨Nat.le_of_ble_eq_true rfl, Nat.le_of_ble_eq_true rfl⟩) rfl hl.1 rfl (Nat.le_of_ble_eq_true rfl) dX12_reaches_254 (fun r126 w128 H locs hp127 hw => ?_)
                        obtain ⟨hT, k129, hg133⟩ := hp127
                        have gs134 : sumG 19 10 w128 = sumG 19 10 w111 := sumG_FE 10 k129 kM_at19 (fun _ => rfl)
                        have hF := hF.tr k129 (by decide)
                        have c135 := k129.gi kM_at12 (by decide) c118
                        have c136 := k129.gi kM_at12 (by decide) c119
                        have c137 := k129.gi kM_at12 rfl c120
                        obtain ⟨g130, g131, c132⟩ := hg133
                        obtain rfl : r126 = r95 := c132.symm.trans c137
                        refine lv_iadd hx hb dX12_reaches_257 ?_
                        refine lv_topi (fun x138 ex138 => ?_)
                        have ex138 : x138.toInt = r67.toInt + r95.toInt := by rw [ex138]; exact wk_add (show (-2147483648) ≤ r67.toInt + r95.toInt by omega) (show r67.toInt + r95.toInt ≤ 2147483647 by omega)
                        refine tk_iast hC hK hw hT kM_at18 (by decide) rfl rfl (show 0 ≤ r80.toInt by omega) (show r80.toInt < 10 by omega) (show 0 ≤ x138.toInt by omega) (show x138.toInt ≤ 100000100 by omega) dX12_reaches_258 (fun H locs w139 hw hT k141 c140 => ?_)
                        have gs142 : sumG 19 10 w139 = sumG 19 10 w128 := sumG_ne 10 k141 (tk_ne kM_at19 kM_at18 (by decide))
                        have hF := hF.put kM_at18 (inE_of (a := 0) (b := 10) (by decide) (show 0 ≤ r80.toInt.toNat by omega) (show r80.toInt.toNat ≤ 10 by omega)) k141
                        have c143 := k141.gi (Or.inl (tk_ne kM_at12 kM_at18 (by decide))) c135
                        have c144 := k141.gi (Or.inl (tk_ne kM_at12 kM_at18 (by decide))) c136
                        have c145 := k141.gi (Or.inl (tk_ne kM_at12 kM_at18 (by decide))) c137
                        have gb146 : 0 ≤ sumG 19 10 w139 ∧ sumG 19 10 w139 ≤ 10 := hT.sum (lo := 0) (hi := 1) kM_at19 rfl (by decide) rfl
                        exact J259 x52 H locs ls w139 (show 0 ≤ a1.toInt by omega) (show a1.toInt ≤ 9 by omega) (show 0 ≤ a2.toInt by omega) (show a2.toInt ≤ 9 by omega) (show 0 ≤ a3.toInt by omega) (show a3.toInt ≤ 99999 by omega) (show 2000 ≤ a4.toInt by omega) (show a4.toInt ≤ 101999 by omega) (show 0 ≤ v145_5.toInt by omega) (show v145_5.toInt ≤ 9 by omega) (show 0 ≤ v145_6.toInt by omega) (show v145_6.toInt ≤ 12 by omega) (show 0 ≤ f145_12_0.toInt by omega) (show f145_12_0.toInt ≤ 10 by omega) (show 1 ≤ x52.toInt by omega) (show x52.toInt ≤ 13 by omega) (show (sumG 19 10 w1) + 1 ≤ (sumG 19 10 w139) by omega)  hw hT hF c143 c144 (lv_sub hl [2, 3, 4, 5, 6, 7, 8] rfl)
                · refine lv_istore (lv' := [(8, .int r80), (7, .int r67), (0, .ref (ad 0)), (1, .int a1), (2, .int a2), (3, .int a3), (4, .int a4), (5, .int v145_5), (6, .int v145_6)]) hx hb dX12_reaches_197 hl (by decide) rfl (fun ls hl => ?_)
                  refine lv_iload hx hb dX12_reaches_199 (lv_at hl 1 rfl) ?_
                  refine lv_ldcw (v := 100000000) hx hb hC.2.2.2.1 (hC.2.2.2.2 _ (List.mem_of_getElem? (i := 2) rfl)) dX12_reaches_201 ?_
                  refine lv_icmp_ge (tgt := 259) hx hb dX12_reaches_204 (by decide) (fun c147 => ?_) (fun c147 => ?_)
                  · have c147 : (100000000 : Int) ≤ r67.toInt := wk_le.mp c147
                    have gb148 : 0 ≤ sumG 19 10 w82 ∧ sumG 19 10 w82 ≤ 10 := hT.sum (lo := 0) (hi := 1) kM_at19 rfl (by decide) rfl
                    exact J259 x52 H locs ls w82 (show 0 ≤ a1.toInt by omega) (show a1.toInt ≤ 9 by omega) (show 0 ≤ a2.toInt by omega) (show a2.toInt ≤ 9 by omega) (show 0 ≤ a3.toInt by omega) (show a3.toInt ≤ 99999 by omega) (show 2000 ≤ a4.toInt by omega) (show a4.toInt ≤ 101999 by omega) (show 0 ≤ v145_5.toInt by omega) (show v145_5.toInt ≤ 9 by omega) (show 0 ≤ v145_6.toInt by omega) (show v145_6.toInt ≤ 12 by omega) (show 0 ≤ f145_12_0.toInt by omega) (show f145_12_0.toInt ≤ 10 by omega) (show 1 ≤ x52.toInt by omega) (show x52.toInt ≤ 13 by omega) (show (sumG 19 10 w1) + 1 ≤ (sumG 19 10 w82) by omega)  hw hT hF c91 c92 (lv_sub hl [2, 3, 4, 5, 6, 7, 8] rfl)
                  · have c147 : r67.toInt < (100000000 : Int) := wk_leF c147
                    refine lv_iload hx hb dX12_reaches_207 (lv_at hl 1 rfl) ?_
                    refine lv_aload_n hx hb dX12_reaches_209 rfl (lv_at hl 2 rfl) ?_
                    refine lv_iload hx hb dX12_reaches_210 (lv_at hl 8 rfl) ?_
                    refine lv_iconst (v := 2) hx hb dX12_reaches_212 (by decide) ?_
                    refine tk_Vi hC hK hw hT hA hE hSR kM_at0 (by decide) rfl (k_X12_streetOf_14 l adK adV dC dI cy ad B (by omega) (by omega) qr s1   v145_6 (show 0 ≤ v145_6.toInt by omega) (show v145_6.toInt ≤ 12 by omega) w82 H.size hT ) (cwV 2 hC.2.2.2.2 gX12_reaches_X12_streetOf rfl rfl rfl (by decide +kernel) ⟨Nat.le_of_ble_eq_true rfl, Nat.le_of_ble_eq_true rfl⟩) rfl hl.1 rfl (Nat.le_of_ble_eq_true rfl) dX12_reaches_213 (fun r149 w151 H locs hp150 hw => ?_)
                    obtain ⟨hT, k152, hg156⟩ := hp150
                    have gs157 : sumG 19 10 w151 = sumG 19 10 w82 := sumG_FE 10 k152 kM_at19 (fun _ => rfl)
                    have hF := hF.tr k152 (by decide)
                    have c158 := k152.gi kM_at12 (by decide) c91
                    have c159 := k152.gi kM_at12 (by decide) c92
                    have c160 := k152.gi kM_at12 rfl c88
                    obtain ⟨g153, g154, c155⟩ := hg156
                    refine lv_iadd hx hb dX12_reaches_216 ?_
                    refine lv_topi (fun x161 ex161 => ?_)
                    have ex161 : x161.toInt = r67.toInt + r149.toInt := by rw [ex161]; exact wk_add (show (-2147483648) ≤ r67.toInt + r149.toInt by omega) (show r67.toInt + r149.toInt ≤ 2147483647 by omega)
                    refine lv_iload hx hb dX12_reaches_217 (lv_at hl 6 rfl) ?_
                    refine lv_icmp_gt (tgt := 259) hx hb dX12_reaches_219 (by decide) (fun c162 => ?_) (fun c162 => ?_)
                    · have c162 : a4.toInt < x161.toInt := wk_lt.mp c162
                      have gb163 : 0 ≤ sumG 19 10 w151 ∧ sumG 19 10 w151 ≤ 10 := hT.sum (lo := 0) (hi := 1) kM_at19 rfl (by decide) rfl
                      exact J259 x52 H locs ls w151 (show 0 ≤ a1.toInt by omega) (show a1.toInt ≤ 9 by omega) (show 0 ≤ a2.toInt by omega) (show a2.toInt ≤ 9 by omega) (show 0 ≤ a3.toInt by omega) (show a3.toInt ≤ 99999 by omega) (show 2000 ≤ a4.toInt by omega) (show a4.toInt ≤ 101999 by omega) (show 0 ≤ v145_5.toInt by omega) (show v145_5.toInt ≤ 9 by omega) (show 0 ≤ v145_6.toInt by omega) (show v145_6.toInt ≤ 12 by omega) (show 0 ≤ f145_12_0.toInt by omega) (show f145_12_0.toInt ≤ 10 by omega) (show 1 ≤ x52.toInt by omega) (show x52.toInt ≤ 13 by omega) (show (sumG 19 10 w1) + 1 ≤ (sumG 19 10 w151) by omega)  hw hT hF c158 c159 (lv_sub hl [2, 3, 4, 5, 6, 7, 8] rfl)
                    · have c162 : x161.toInt ≤ a4.toInt := wk_ltF c162
                      refine lv_iload hx hb dX12_reaches_222 (lv_at hl 1 rfl) ?_
                      refine lv_aload_n hx hb dX12_reaches_224 rfl (lv_at hl 2 rfl) ?_
                      refine lv_iload hx hb dX12_reaches_225 (lv_at hl 8 rfl) ?_
                      refine lv_iconst (v := 2) hx hb dX12_reaches_227 (by decide) ?_
                      refine tk_Vi hC hK hw hT hA hE hSR kM_at0 (by decide) rfl (k_X12_streetOf_14 l adK adV dC dI cy ad B (by omega) (by omega) qr s1   v145_6 (show 0 ≤ v145_6.toInt by omega) (show v145_6.toInt ≤ 12 by omega) w151 H.size hT ) (cwV 2 hC.2.2.2.2 gX12_reaches_X12_streetOf rfl rfl rfl (by decide +kernel) ⟨Nat.le_of_ble_eq_true rfl, Nat.le_of_ble_eq_true rfl⟩) rfl hl.1 rfl (Nat.le_of_ble_eq_true rfl) dX12_reaches_228 (fun r164 w166 H locs hp165 hw => ?_)
                      obtain ⟨hT, k167, hg171⟩ := hp165
                      have gs172 : sumG 19 10 w166 = sumG 19 10 w151 := sumG_FE 10 k167 kM_at19 (fun _ => rfl)
                      have hF := hF.tr k167 (by decide)
                      have c173 := k167.gi kM_at12 (by decide) c158
                      have c174 := k167.gi kM_at12 (by decide) c159
                      have c175 := k167.gi kM_at12 rfl c160
                      have c176 := k167.gi kM_at12 rfl c155
                      obtain ⟨g168, g169, c170⟩ := hg171
                      obtain rfl : r164 = r149 := c170.symm.trans c176
                      refine lv_iadd hx hb dX12_reaches_231 ?_
                      refine lv_topi (fun x177 ex177 => ?_)
                      have ex177 : x177.toInt = r67.toInt + r149.toInt := by rw [ex177]; exact wk_add (show (-2147483648) ≤ r67.toInt + r149.toInt by omega) (show r67.toInt + r149.toInt ≤ 2147483647 by omega)
                      refine lv_aload_n hx hb dX12_reaches_232 rfl (lv_at hl 2 rfl) ?_
                      refine tk_getA hC hK hw hT hinX12 kM_at0 (by decide) rfl 35 (by decide) (List.mem_of_getElem? (i := 1) rfl) rfl rfl dX12_reaches_233 ?_
                      refine lv_iload hx hb dX12_reaches_236 (lv_at hl 0 rfl) ?_
                      refine tk_iald hC hK hw hT kM_at18 rfl rfl (show 0 ≤ r80.toInt by omega) (show r80.toInt < 10 by omega) dX12_reaches_238 (fun x178 c179 rx178 tx178 => ?_)
                      refine lv_icmp_ge (tgt := 259) hx hb dX12_reaches_239 (by decide) (fun c180 => ?_) (fun c180 => ?_)
                      · have c180 : x178.toInt ≤ x177.toInt := wk_le.mp c180
                        have gb181 : 0 ≤ sumG 19 10 w166 ∧ sumG 19 10 w166 ≤ 10 := hT.sum (lo := 0) (hi := 1) kM_at19 rfl (by decide) rfl
                        exact J259 x52 H locs ls w166 (show 0 ≤ a1.toInt by omega) (show a1.toInt ≤ 9 by omega) (show 0 ≤ a2.toInt by omega) (show a2.toInt ≤ 9 by omega) (show 0 ≤ a3.toInt by omega) (show a3.toInt ≤ 99999 by omega) (show 2000 ≤ a4.toInt by omega) (show a4.toInt ≤ 101999 by omega) (show 0 ≤ v145_5.toInt by omega) (show v145_5.toInt ≤ 9 by omega) (show 0 ≤ v145_6.toInt by omega) (show v145_6.toInt ≤ 12 by omega) (show 0 ≤ f145_12_0.toInt by omega) (show f145_12_0.toInt ≤ 10 by omega) (show 1 ≤ x52.toInt by omega) (show x52.toInt ≤ 13 by omega) (show (sumG 19 10 w1) + 1 ≤ (sumG 19 10 w166) by omega)  hw hT hF c173 c174 (lv_sub hl [2, 3, 4, 5, 6, 7, 8] rfl)
                      · have c180 : x177.toInt < x178.toInt := wk_leF c180
                        refine lv_aload_n hx hb dX12_reaches_242 rfl (lv_at hl 2 rfl) ?_
                        refine tk_getA hC hK hw hT hinX12 kM_at0 (by decide) rfl 35 (by decide) (List.mem_of_getElem? (i := 1) rfl) rfl rfl dX12_reaches_243 ?_
                        refine lv_iload hx hb dX12_reaches_246 (lv_at hl 0 rfl) ?_
                        refine lv_iload hx hb dX12_reaches_248 (lv_at hl 1 rfl) ?_
                        refine lv_aload_n hx hb dX12_reaches_250 rfl (lv_at hl 2 rfl) ?_
                        refine lv_iload hx hb dX12_reaches_251 (lv_at hl 8 rfl) ?_
                        refine lv_iconst (v := 2) hx hb dX12_reaches_253 (by decide) ?_
                        refine tk_Vi hC hK hw hT hA hE hSR kM_at0 (by decide) rfl (k_X12_streetOf_14 l adK adV dC dI cy ad B (by omega) (by omega) qr s1   v145_6 (show 0 ≤ v145_6.toInt by omega) (show v145_6.toInt ≤ 12 by omega) w166 H.size hT ) (cwV 2 hC.2.2.2.2 gX12_reaches_X12_streetOf rfl rfl rfl (by decide +kernel) ⟨Nat.le_of_ble_eq_true rfl, Nat.le_of_ble_eq_true rfl⟩) rfl hl.1 rfl (Nat.le_of_ble_eq_true rfl) dX12_reaches_254 (fun r182 w184 H locs hp183 hw => ?_)
                        obtain ⟨hT, k185, hg189⟩ := hp183
                        have gs190 : sumG 19 10 w184 = sumG 19 10 w166 := sumG_FE 10 k185 kM_at19 (fun _ => rfl)
                        have hF := hF.tr k185 (by decide)
                        have c191 := k185.gi kM_at12 (by decide) c173
                        have c192 := k185.gi kM_at12 (by decide) c174
                        have c193 := k185.gi kM_at12 rfl c175
                        have c194 := k185.gi kM_at12 rfl c176
                        obtain ⟨g186, g187, c188⟩ := hg189
                        obtain rfl : r182 = r149 := c188.symm.trans c194
                        refine lv_iadd hx hb dX12_reaches_257 ?_
                        refine lv_topi (fun x195 ex195 => ?_)
                        have ex195 : x195.toInt = r67.toInt + r149.toInt := by rw [ex195]; exact wk_add (show (-2147483648) ≤ r67.toInt + r149.toInt by omega) (show r67.toInt + r149.toInt ≤ 2147483647 by omega)
                        refine tk_iast hC hK hw hT kM_at18 (by decide) rfl rfl (show 0 ≤ r80.toInt by omega) (show r80.toInt < 10 by omega) (show 0 ≤ x195.toInt by omega) (show x195.toInt ≤ 100000100 by omega) dX12_reaches_258 (fun H locs w196 hw hT k198 c197 => ?_)
                        have gs199 : sumG 19 10 w196 = sumG 19 10 w184 := sumG_ne 10 k198 (tk_ne kM_at19 kM_at18 (by decide))
                        have hF := hF.put kM_at18 (inE_of (a := 0) (b := 10) (by decide) (show 0 ≤ r80.toInt.toNat by omega) (show r80.toInt.toNat ≤ 10 by omega)) k198
                        have c200 := k198.gi (Or.inl (tk_ne kM_at12 kM_at18 (by decide))) c191
                        have c201 := k198.gi (Or.inl (tk_ne kM_at12 kM_at18 (by decide))) c192
                        have c202 := k198.gi (Or.inl (tk_ne kM_at12 kM_at18 (by decide))) c193
                        have c203 := k198.gi (Or.inl (tk_ne kM_at12 kM_at18 (by decide))) c194
                        have gb204 : 0 ≤ sumG 19 10 w196 ∧ sumG 19 10 w196 ≤ 10 := hT.sum (lo := 0) (hi := 1) kM_at19 rfl (by decide) rfl
                        exact J259 x52 H locs ls w196 (show 0 ≤ a1.toInt by omega) (show a1.toInt ≤ 9 by omega) (show 0 ≤ a2.toInt by omega) (show a2.toInt ≤ 9 by omega) (show 0 ≤ a3.toInt by omega) (show a3.toInt ≤ 99999 by omega) (show 2000 ≤ a4.toInt by omega) (show a4.toInt ≤ 101999 by omega) (show 0 ≤ v145_5.toInt by omega) (show v145_5.toInt ≤ 9 by omega) (show 0 ≤ v145_6.toInt by omega) (show v145_6.toInt ≤ 12 by omega) (show 0 ≤ f145_12_0.toInt by omega) (show f145_12_0.toInt ≤ 10 by omega) (show 1 ≤ x52.toInt by omega) (show x52.toInt ≤ 13 by omega) (show (sumG 19 10 w1) + 1 ≤ (sumG 19 10 w196) by omega)  hw hT hF c200 c201 (lv_sub hl [2, 3, 4, 5, 6, 7, 8] rfl)
              · refine lv_istore (lv' := [(7, .int r67), (0, .ref (ad 0)), (1, .int a1), (2, .int a2), (3, .int a3), (4, .int a4), (5, .int v145_5), (6, .int v145_6)]) hx hb dX12_reaches_187 hl (by decide) rfl (fun ls hl => ?_)
                refine lv_aload_n hx hb dX12_reaches_189 rfl (lv_at hl 1 rfl) ?_
                refine lv_iload hx hb dX12_reaches_190 (lv_at hl 7 rfl) ?_
                refine lv_iload hx hb dX12_reaches_192 (lv_at hl 6 rfl) ?_
                refine tk_Vi hC hK hw hT hA hE hSR kM_at0 (by decide) rfl (k_X12_otherOf_3 l adK adV dC dI cy ad B (by omega) (by omega) qr s1   v145_6 (show 0 ≤ v145_6.toInt by omega) (show v145_6.toInt ≤ 12 by omega) v145_5 (show 0 ≤ v145_5.toInt by omega) (show v145_5.toInt ≤ 9 by omega) w69 H.size hT ) (cwV 2 hC.2.2.2.2 gX12_reaches_X12_otherOf rfl rfl rfl (by decide +kernel) ⟨Nat.le_of_ble_eq_true rfl, Nat.le_of_ble_eq_true rfl⟩) rfl hl.1 rfl (Nat.le_of_ble_eq_true rfl) dX12_reaches_194 (fun r205 w207 H locs hp206 hw => ?_)
                obtain ⟨hT, k208, hg214⟩ := hp206
                have gs215 : sumG 19 10 w207 = sumG 19 10 w69 := sumG_FE 10 k208 kM_at19 (fun _ => rfl)
                have hF := hF.tr k208 (by decide)
                have c216 := k208.gi kM_at12 (by decide) c78
                have c217 := k208.gi kM_at12 (by decide) c79
                have c218 := k208.gi kM_at12 rfl c75
                rcases hg214 with ⟨g209, g210⟩ | ⟨g211, g212, c213⟩
                · refine lv_istore (lv' := [(8, .int r205), (7, .int r67), (0, .ref (ad 0)), (1, .int a1), (2, .int a2), (3, .int a3), (4, .int a4), (5, .int v145_5), (6, .int v145_6)]) hx hb dX12_reaches_197 hl (by decide) rfl (fun ls hl => ?_)
                  refine lv_iload hx hb dX12_reaches_199 (lv_at hl 1 rfl) ?_
                  refine lv_ldcw (v := 100000000) hx hb hC.2.2.2.1 (hC.2.2.2.2 _ (List.mem_of_getElem? (i := 2) rfl)) dX12_reaches_201 ?_
                  refine lv_icmp_ge (tgt := 259) hx hb dX12_reaches_204 (by decide) (fun c => absurd c (fun h => absurd (show (100000000 : Int) ≤ r67.toInt from wk_le.mp h) (by omega))) (fun _ => ?_)
                  refine lv_iload hx hb dX12_reaches_207 (lv_at hl 1 rfl) ?_
                  refine lv_aload_n hx hb dX12_reaches_209 rfl (lv_at hl 2 rfl) ?_
                  refine lv_iload hx hb dX12_reaches_210 (lv_at hl 8 rfl) ?_
                  refine lv_iconst (v := 2) hx hb dX12_reaches_212 (by decide) ?_
                  refine tk_Vi hC hK hw hT hA hE hSR kM_at0 (by decide) rfl (k_X12_streetOf_14 l adK adV dC dI cy ad B (by omega) (by omega) qr s1   v145_6 (show 0 ≤ v145_6.toInt by omega) (show v145_6.toInt ≤ 12 by omega) w207 H.size hT ) (cwV 2 hC.2.2.2.2 gX12_reaches_X12_streetOf rfl rfl rfl (by decide +kernel) ⟨Nat.le_of_ble_eq_true rfl, Nat.le_of_ble_eq_true rfl⟩) rfl hl.1 rfl (Nat.le_of_ble_eq_true rfl) dX12_reaches_213 (fun r219 w221 H locs hp220 hw => ?_)
                  obtain ⟨hT, k222, hg226⟩ := hp220
                  have gs227 : sumG 19 10 w221 = sumG 19 10 w207 := sumG_FE 10 k222 kM_at19 (fun _ => rfl)
                  have hF := hF.tr k222 (by decide)
                  have c228 := k222.gi kM_at12 (by decide) c216
                  have c229 := k222.gi kM_at12 (by decide) c217
                  have c230 := k222.gi kM_at12 rfl c218
                  obtain ⟨g223, g224, c225⟩ := hg226
                  refine lv_iadd hx hb dX12_reaches_216 ?_
                  refine lv_topi (fun x231 ex231 => ?_)
                  have ex231 : x231.toInt = r67.toInt + r219.toInt := by rw [ex231]; exact wk_add (show (-2147483648) ≤ r67.toInt + r219.toInt by omega) (show r67.toInt + r219.toInt ≤ 2147483647 by omega)
                  refine lv_iload hx hb dX12_reaches_217 (lv_at hl 6 rfl) ?_
                  refine lv_icmp_gt (tgt := 259) hx hb dX12_reaches_219 (by decide) (fun c232 => ?_) (fun c232 => ?_)
                  · have c232 : a4.toInt < x231.toInt := wk_lt.mp c232
                    have gb233 : 0 ≤ sumG 19 10 w221 ∧ sumG 19 10 w221 ≤ 10 := hT.sum (lo := 0) (hi := 1) kM_at19 rfl (by decide) rfl
                    exact J259 x52 H locs ls w221 (show 0 ≤ a1.toInt by omega) (show a1.toInt ≤ 9 by omega) (show 0 ≤ a2.toInt by omega) (show a2.toInt ≤ 9 by omega) (show 0 ≤ a3.toInt by omega) (show a3.toInt ≤ 99999 by omega) (show 2000 ≤ a4.toInt by omega) (show a4.toInt ≤ 101999 by omega) (show 0 ≤ v145_5.toInt by omega) (show v145_5.toInt ≤ 9 by omega) (show 0 ≤ v145_6.toInt by omega) (show v145_6.toInt ≤ 12 by omega) (show 0 ≤ f145_12_0.toInt by omega) (show f145_12_0.toInt ≤ 10 by omega) (show 1 ≤ x52.toInt by omega) (show x52.toInt ≤ 13 by omega) (show (sumG 19 10 w1) + 1 ≤ (sumG 19 10 w221) by omega)  hw hT hF c228 c229 (lv_sub hl [2, 3, 4, 5, 6, 7, 8] rfl)
                  · have c232 : x231.toInt ≤ a4.toInt := wk_ltF c232
                    refine lv_iload hx hb dX12_reaches_222 (lv_at hl 1 rfl) ?_
                    refine lv_aload_n hx hb dX12_reaches_224 rfl (lv_at hl 2 rfl) ?_
                    refine lv_iload hx hb dX12_reaches_225 (lv_at hl 8 rfl) ?_
                    refine lv_iconst (v := 2) hx hb dX12_reaches_227 (by decide) ?_
                    refine tk_Vi hC hK hw hT hA hE hSR kM_at0 (by decide) rfl (k_X12_streetOf_14 l adK adV dC dI cy ad B (by omega) (by omega) qr s1   v145_6 (show 0 ≤ v145_6.toInt by omega) (show v145_6.toInt ≤ 12 by omega) w221 H.size hT ) (cwV 2 hC.2.2.2.2 gX12_reaches_X12_streetOf rfl rfl rfl (by decide +kernel) ⟨Nat.le_of_ble_eq_true rfl, Nat.le_of_ble_eq_true rfl⟩) rfl hl.1 rfl (Nat.le_of_ble_eq_true rfl) dX12_reaches_228 (fun r234 w236 H locs hp235 hw => ?_)
                    obtain ⟨hT, k237, hg241⟩ := hp235
                    have gs242 : sumG 19 10 w236 = sumG 19 10 w221 := sumG_FE 10 k237 kM_at19 (fun _ => rfl)
                    have hF := hF.tr k237 (by decide)
                    have c243 := k237.gi kM_at12 (by decide) c228
                    have c244 := k237.gi kM_at12 (by decide) c229
                    have c245 := k237.gi kM_at12 rfl c230
                    have c246 := k237.gi kM_at12 rfl c225
                    obtain ⟨g238, g239, c240⟩ := hg241
                    obtain rfl : r234 = r219 := c240.symm.trans c246
                    refine lv_iadd hx hb dX12_reaches_231 ?_
                    refine lv_topi (fun x247 ex247 => ?_)
                    have ex247 : x247.toInt = r67.toInt + r219.toInt := by rw [ex247]; exact wk_add (show (-2147483648) ≤ r67.toInt + r219.toInt by omega) (show r67.toInt + r219.toInt ≤ 2147483647 by omega)
                    refine lv_aload_n hx hb dX12_reaches_232 rfl (lv_at hl 2 rfl) ?_
                    refine tk_getA hC hK hw hT hinX12 kM_at0 (by decide) rfl 35 (by decide) (List.mem_of_getElem? (i := 1) rfl) rfl rfl dX12_reaches_233 ?_
                    refine lv_iload hx hb dX12_reaches_236 (lv_at hl 0 rfl) ?_
                    refine tk_iald hC hK hw hT kM_at18 rfl rfl (show 0 ≤ r205.toInt by omega) (show r205.toInt < 10 by omega) dX12_reaches_238 (fun x248 c249 rx248 tx248 => ?_)
                    refine lv_icmp_ge (tgt := 259) hx hb dX12_reaches_239 (by decide) (fun c250 => ?_) (fun c250 => ?_)
                    · have c250 : x248.toInt ≤ x247.toInt := wk_le.mp c250
                      have gb251 : 0 ≤ sumG 19 10 w236 ∧ sumG 19 10 w236 ≤ 10 := hT.sum (lo := 0) (hi := 1) kM_at19 rfl (by decide) rfl
                      exact J259 x52 H locs ls w236 (show 0 ≤ a1.toInt by omega) (show a1.toInt ≤ 9 by omega) (show 0 ≤ a2.toInt by omega) (show a2.toInt ≤ 9 by omega) (show 0 ≤ a3.toInt by omega) (show a3.toInt ≤ 99999 by omega) (show 2000 ≤ a4.toInt by omega) (show a4.toInt ≤ 101999 by omega) (show 0 ≤ v145_5.toInt by omega) (show v145_5.toInt ≤ 9 by omega) (show 0 ≤ v145_6.toInt by omega) (show v145_6.toInt ≤ 12 by omega) (show 0 ≤ f145_12_0.toInt by omega) (show f145_12_0.toInt ≤ 10 by omega) (show 1 ≤ x52.toInt by omega) (show x52.toInt ≤ 13 by omega) (show (sumG 19 10 w1) + 1 ≤ (sumG 19 10 w236) by omega)  hw hT hF c243 c244 (lv_sub hl [2, 3, 4, 5, 6, 7, 8] rfl)
                    · have c250 : x247.toInt < x248.toInt := wk_leF c250
                      refine lv_aload_n hx hb dX12_reaches_242 rfl (lv_at hl 2 rfl) ?_
                      refine tk_getA hC hK hw hT hinX12 kM_at0 (by decide) rfl 35 (by decide) (List.mem_of_getElem? (i := 1) rfl) rfl rfl dX12_reaches_243 ?_
                      refine lv_iload hx hb dX12_reaches_246 (lv_at hl 0 rfl) ?_
                      refine lv_iload hx hb dX12_reaches_248 (lv_at hl 1 rfl) ?_
                      refine lv_aload_n hx hb dX12_reaches_250 rfl (lv_at hl 2 rfl) ?_
                      refine lv_iload hx hb dX12_reaches_251 (lv_at hl 8 rfl) ?_
                      refine lv_iconst (v := 2) hx hb dX12_reaches_253 (by decide) ?_
                      refine tk_Vi hC hK hw hT hA hE hSR kM_at0 (by decide) rfl (k_X12_streetOf_14 l adK adV dC dI cy ad B (by omega) (by omega) qr s1   v145_6 (show 0 ≤ v145_6.toInt by omega) (show v145_6.toInt ≤ 12 by omega) w236 H.size hT ) (cwV 2 hC.2.2.2.2 gX12_reaches_X12_streetOf rfl rfl rfl (by decide +kernel) ⟨Nat.le_of_ble_eq_true rfl, Nat.le_of_ble_eq_true rfl⟩) rfl hl.1 rfl (Nat.le_of_ble_eq_true rfl) dX12_reaches_254 (fun r252 w254 H locs hp253 hw => ?_)
                      obtain ⟨hT, k255, hg259⟩ := hp253
                      have gs260 : sumG 19 10 w254 = sumG 19 10 w236 := sumG_FE 10 k255 kM_at19 (fun _ => rfl)
                      have hF := hF.tr k255 (by decide)
                      have c261 := k255.gi kM_at12 (by decide) c243
                      have c262 := k255.gi kM_at12 (by decide) c244
                      have c263 := k255.gi kM_at12 rfl c245
                      have c264 := k255.gi kM_at12 rfl c246
                      obtain ⟨g256, g257, c258⟩ := hg259
                      obtain rfl : r252 = r219 := c258.symm.trans c264
                      refine lv_iadd hx hb dX12_reaches_257 ?_
                      refine lv_topi (fun x265 ex265 => ?_)
                      have ex265 : x265.toInt = r67.toInt + r219.toInt := by rw [ex265]; exact wk_add (show (-2147483648) ≤ r67.toInt + r219.toInt by omega) (show r67.toInt + r219.toInt ≤ 2147483647 by omega)
                      refine tk_iast hC hK hw hT kM_at18 (by decide) rfl rfl (show 0 ≤ r205.toInt by omega) (show r205.toInt < 10 by omega) (show 0 ≤ x265.toInt by omega) (show x265.toInt ≤ 100000100 by omega) dX12_reaches_258 (fun H locs w266 hw hT k268 c267 => ?_)
                      have gs269 : sumG 19 10 w266 = sumG 19 10 w254 := sumG_ne 10 k268 (tk_ne kM_at19 kM_at18 (by decide))
                      have hF := hF.put kM_at18 (inE_of (a := 0) (b := 10) (by decide) (show 0 ≤ r205.toInt.toNat by omega) (show r205.toInt.toNat ≤ 10 by omega)) k268
                      have c270 := k268.gi (Or.inl (tk_ne kM_at12 kM_at18 (by decide))) c261
                      have c271 := k268.gi (Or.inl (tk_ne kM_at12 kM_at18 (by decide))) c262
                      have c272 := k268.gi (Or.inl (tk_ne kM_at12 kM_at18 (by decide))) c263
                      have c273 := k268.gi (Or.inl (tk_ne kM_at12 kM_at18 (by decide))) c264
                      have gb274 : 0 ≤ sumG 19 10 w266 ∧ sumG 19 10 w266 ≤ 10 := hT.sum (lo := 0) (hi := 1) kM_at19 rfl (by decide) rfl
                      exact J259 x52 H locs ls w266 (show 0 ≤ a1.toInt by omega) (show a1.toInt ≤ 9 by omega) (show 0 ≤ a2.toInt by omega) (show a2.toInt ≤ 9 by omega) (show 0 ≤ a3.toInt by omega) (show a3.toInt ≤ 99999 by omega) (show 2000 ≤ a4.toInt by omega) (show a4.toInt ≤ 101999 by omega) (show 0 ≤ v145_5.toInt by omega) (show v145_5.toInt ≤ 9 by omega) (show 0 ≤ v145_6.toInt by omega) (show v145_6.toInt ≤ 12 by omega) (show 0 ≤ f145_12_0.toInt by omega) (show f145_12_0.toInt ≤ 10 by omega) (show 1 ≤ x52.toInt by omega) (show x52.toInt ≤ 13 by omega) (show (sumG 19 10 w1) + 1 ≤ (sumG 19 10 w266) by omega)  hw hT hF c270 c271 (lv_sub hl [2, 3, 4, 5, 6, 7, 8] rfl)
                · refine lv_istore (lv' := [(8, .int r205), (7, .int r67), (0, .ref (ad 0)), (1, .int a1), (2, .int a2), (3, .int a3), (4, .int a4), (5, .int v145_5), (6, .int v145_6)]) hx hb dX12_reaches_197 hl (by decide) rfl (fun ls hl => ?_)
                  refine lv_iload hx hb dX12_reaches_199 (lv_at hl 1 rfl) ?_
                  refine lv_ldcw (v := 100000000) hx hb hC.2.2.2.1 (hC.2.2.2.2 _ (List.mem_of_getElem? (i := 2) rfl)) dX12_reaches_201 ?_
                  refine lv_icmp_ge (tgt := 259) hx hb dX12_reaches_204 (by decide) (fun c => absurd c (fun h => absurd (show (100000000 : Int) ≤ r67.toInt from wk_le.mp h) (by omega))) (fun _ => ?_)
                  refine lv_iload hx hb dX12_reaches_207 (lv_at hl 1 rfl) ?_
                  refine lv_aload_n hx hb dX12_reaches_209 rfl (lv_at hl 2 rfl) ?_
                  refine lv_iload hx hb dX12_reaches_210 (lv_at hl 8 rfl) ?_
                  refine lv_iconst (v := 2) hx hb dX12_reaches_212 (by decide) ?_
                  refine tk_Vi hC hK hw hT hA hE hSR kM_at0 (by decide) rfl (k_X12_streetOf_14 l adK adV dC dI cy ad B (by omega) (by omega) qr s1   v145_6 (show 0 ≤ v145_6.toInt by omega) (show v145_6.toInt ≤ 12 by omega) w207 H.size hT ) (cwV 2 hC.2.2.2.2 gX12_reaches_X12_streetOf rfl rfl rfl (by decide +kernel) ⟨Nat.le_of_ble_eq_true rfl, Nat.le_of_ble_eq_true rfl⟩) rfl hl.1 rfl (Nat.le_of_ble_eq_true rfl) dX12_reaches_213 (fun r275 w277 H locs hp276 hw => ?_)
                  obtain ⟨hT, k278, hg282⟩ := hp276
                  have gs283 : sumG 19 10 w277 = sumG 19 10 w207 := sumG_FE 10 k278 kM_at19 (fun _ => rfl)
                  have hF := hF.tr k278 (by decide)
                  have c284 := k278.gi kM_at12 (by decide) c216
                  have c285 := k278.gi kM_at12 (by decide) c217
                  have c286 := k278.gi kM_at12 rfl c218
                  obtain ⟨g279, g280, c281⟩ := hg282
                  refine lv_iadd hx hb dX12_reaches_216 ?_
                  refine lv_topi (fun x287 ex287 => ?_)
                  have ex287 : x287.toInt = r67.toInt + r275.toInt := by rw [ex287]; exact wk_add (show (-2147483648) ≤ r67.toInt + r275.toInt by omega) (show r67.toInt + r275.toInt ≤ 2147483647 by omega)
                  refine lv_iload hx hb dX12_reaches_217 (lv_at hl 6 rfl) ?_
                  refine lv_icmp_gt (tgt := 259) hx hb dX12_reaches_219 (by decide) (fun c288 => ?_) (fun c288 => ?_)
                  · have c288 : a4.toInt < x287.toInt := wk_lt.mp c288
                    have gb289 : 0 ≤ sumG 19 10 w277 ∧ sumG 19 10 w277 ≤ 10 := hT.sum (lo := 0) (hi := 1) kM_at19 rfl (by decide) rfl
                    exact J259 x52 H locs ls w277 (show 0 ≤ a1.toInt by omega) (show a1.toInt ≤ 9 by omega) (show 0 ≤ a2.toInt by omega) (show a2.toInt ≤ 9 by omega) (show 0 ≤ a3.toInt by omega) (show a3.toInt ≤ 99999 by omega) (show 2000 ≤ a4.toInt by omega) (show a4.toInt ≤ 101999 by omega) (show 0 ≤ v145_5.toInt by omega) (show v145_5.toInt ≤ 9 by omega) (show 0 ≤ v145_6.toInt by omega) (show v145_6.toInt ≤ 12 by omega) (show 0 ≤ f145_12_0.toInt by omega) (show f145_12_0.toInt ≤ 10 by omega) (show 1 ≤ x52.toInt by omega) (show x52.toInt ≤ 13 by omega) (show (sumG 19 10 w1) + 1 ≤ (sumG 19 10 w277) by omega)  hw hT hF c284 c285 (lv_sub hl [2, 3, 4, 5, 6, 7, 8] rfl)
                  · have c288 : x287.toInt ≤ a4.toInt := wk_ltF c288
                    refine lv_iload hx hb dX12_reaches_222 (lv_at hl 1 rfl) ?_
                    refine lv_aload_n hx hb dX12_reaches_224 rfl (lv_at hl 2 rfl) ?_
                    refine lv_iload hx hb dX12_reaches_225 (lv_at hl 8 rfl) ?_
                    refine lv_iconst (v := 2) hx hb dX12_reaches_227 (by decide) ?_
                    refine tk_Vi hC hK hw hT hA hE hSR kM_at0 (by decide) rfl (k_X12_streetOf_14 l adK adV dC dI cy ad B (by omega) (by omega) qr s1   v145_6 (show 0 ≤ v145_6.toInt by omega) (show v145_6.toInt ≤ 12 by omega) w277 H.size hT ) (cwV 2 hC.2.2.2.2 gX12_reaches_X12_streetOf rfl rfl rfl (by decide +kernel) ⟨Nat.le_of_ble_eq_true rfl, Nat.le_of_ble_eq_true rfl⟩) rfl hl.1 rfl (Nat.le_of_ble_eq_true rfl) dX12_reaches_228 (fun r290 w292 H locs hp291 hw => ?_)
                    obtain ⟨hT, k293, hg297⟩ := hp291
                    have gs298 : sumG 19 10 w292 = sumG 19 10 w277 := sumG_FE 10 k293 kM_at19 (fun _ => rfl)
                    have hF := hF.tr k293 (by decide)
                    have c299 := k293.gi kM_at12 (by decide) c284
                    have c300 := k293.gi kM_at12 (by decide) c285
                    have c301 := k293.gi kM_at12 rfl c286
                    have c302 := k293.gi kM_at12 rfl c281
                    obtain ⟨g294, g295, c296⟩ := hg297
                    obtain rfl : r290 = r275 := c296.symm.trans c302
                    refine lv_iadd hx hb dX12_reaches_231 ?_
                    refine lv_topi (fun x303 ex303 => ?_)
                    have ex303 : x303.toInt = r67.toInt + r275.toInt := by rw [ex303]; exact wk_add (show (-2147483648) ≤ r67.toInt + r275.toInt by omega) (show r67.toInt + r275.toInt ≤ 2147483647 by omega)
                    refine lv_aload_n hx hb dX12_reaches_232 rfl (lv_at hl 2 rfl) ?_
                    refine tk_getA hC hK hw hT hinX12 kM_at0 (by decide) rfl 35 (by decide) (List.mem_of_getElem? (i := 1) rfl) rfl rfl dX12_reaches_233 ?_
                    refine lv_iload hx hb dX12_reaches_236 (lv_at hl 0 rfl) ?_
                    refine tk_iald hC hK hw hT kM_at18 rfl rfl (show 0 ≤ r205.toInt by omega) (show r205.toInt < 10 by omega) dX12_reaches_238 (fun x304 c305 rx304 tx304 => ?_)
                    refine lv_icmp_ge (tgt := 259) hx hb dX12_reaches_239 (by decide) (fun c306 => ?_) (fun c306 => ?_)
                    · have c306 : x304.toInt ≤ x303.toInt := wk_le.mp c306
                      have gb307 : 0 ≤ sumG 19 10 w292 ∧ sumG 19 10 w292 ≤ 10 := hT.sum (lo := 0) (hi := 1) kM_at19 rfl (by decide) rfl
                      exact J259 x52 H locs ls w292 (show 0 ≤ a1.toInt by omega) (show a1.toInt ≤ 9 by omega) (show 0 ≤ a2.toInt by omega) (show a2.toInt ≤ 9 by omega) (show 0 ≤ a3.toInt by omega) (show a3.toInt ≤ 99999 by omega) (show 2000 ≤ a4.toInt by omega) (show a4.toInt ≤ 101999 by omega) (show 0 ≤ v145_5.toInt by omega) (show v145_5.toInt ≤ 9 by omega) (show 0 ≤ v145_6.toInt by omega) (show v145_6.toInt ≤ 12 by omega) (show 0 ≤ f145_12_0.toInt by omega) (show f145_12_0.toInt ≤ 10 by omega) (show 1 ≤ x52.toInt by omega) (show x52.toInt ≤ 13 by omega) (show (sumG 19 10 w1) + 1 ≤ (sumG 19 10 w292) by omega)  hw hT hF c299 c300 (lv_sub hl [2, 3, 4, 5, 6, 7, 8] rfl)
                    · have c306 : x303.toInt < x304.toInt := wk_leF c306
                      refine lv_aload_n hx hb dX12_reaches_242 rfl (lv_at hl 2 rfl) ?_
                      refine tk_getA hC hK hw hT hinX12 kM_at0 (by decide) rfl 35 (by decide) (List.mem_of_getElem? (i := 1) rfl) rfl rfl dX12_reaches_243 ?_
                      refine lv_iload hx hb dX12_reaches_246 (lv_at hl 0 rfl) ?_
                      refine lv_iload hx hb dX12_reaches_248 (lv_at hl 1 rfl) ?_
                      refine lv_aload_n hx hb dX12_reaches_250 rfl (lv_at hl 2 rfl) ?_
                      refine lv_iload hx hb dX12_reaches_251 (lv_at hl 8 rfl) ?_
                      refine lv_iconst (v := 2) hx hb dX12_reaches_253 (by decide) ?_
                      refine tk_Vi hC hK hw hT hA hE hSR kM_at0 (by decide) rfl (k_X12_streetOf_14 l adK adV dC dI cy ad B (by omega) (by omega) qr s1   v145_6 (show 0 ≤ v145_6.toInt by omega) (show v145_6.toInt ≤ 12 by omega) w292 H.size hT ) (cwV 2 hC.2.2.2.2 gX12_reaches_X12_streetOf rfl rfl rfl (by decide +kernel) ⟨Nat.le_of_ble_eq_true rfl, Nat.le_of_ble_eq_true rfl⟩) rfl hl.1 rfl (Nat.le_of_ble_eq_true rfl) dX12_reaches_254 (fun r308 w310 H locs hp309 hw => ?_)
                      obtain ⟨hT, k311, hg315⟩ := hp309
                      have gs316 : sumG 19 10 w310 = sumG 19 10 w292 := sumG_FE 10 k311 kM_at19 (fun _ => rfl)
                      have hF := hF.tr k311 (by decide)
                      have c317 := k311.gi kM_at12 (by decide) c299
                      have c318 := k311.gi kM_at12 (by decide) c300
                      have c319 := k311.gi kM_at12 rfl c301
                      have c320 := k311.gi kM_at12 rfl c302
                      obtain ⟨g312, g313, c314⟩ := hg315
                      obtain rfl : r308 = r275 := c314.symm.trans c320
                      refine lv_iadd hx hb dX12_reaches_257 ?_
                      refine lv_topi (fun x321 ex321 => ?_)
                      have ex321 : x321.toInt = r67.toInt + r275.toInt := by rw [ex321]; exact wk_add (show (-2147483648) ≤ r67.toInt + r275.toInt by omega) (show r67.toInt + r275.toInt ≤ 2147483647 by omega)
                      refine tk_iast hC hK hw hT kM_at18 (by decide) rfl rfl (show 0 ≤ r205.toInt by omega) (show r205.toInt < 10 by omega) (show 0 ≤ x321.toInt by omega) (show x321.toInt ≤ 100000100 by omega) dX12_reaches_258 (fun H locs w322 hw hT k324 c323 => ?_)
                      have gs325 : sumG 19 10 w322 = sumG 19 10 w310 := sumG_ne 10 k324 (tk_ne kM_at19 kM_at18 (by decide))
                      have hF := hF.put kM_at18 (inE_of (a := 0) (b := 10) (by decide) (show 0 ≤ r205.toInt.toNat by omega) (show r205.toInt.toNat ≤ 10 by omega)) k324
                      have c326 := k324.gi (Or.inl (tk_ne kM_at12 kM_at18 (by decide))) c317
                      have c327 := k324.gi (Or.inl (tk_ne kM_at12 kM_at18 (by decide))) c318
                      have c328 := k324.gi (Or.inl (tk_ne kM_at12 kM_at18 (by decide))) c319
                      have c329 := k324.gi (Or.inl (tk_ne kM_at12 kM_at18 (by decide))) c320
                      have gb330 : 0 ≤ sumG 19 10 w322 ∧ sumG 19 10 w322 ≤ 10 := hT.sum (lo := 0) (hi := 1) kM_at19 rfl (by decide) rfl
                      exact J259 x52 H locs ls w322 (show 0 ≤ a1.toInt by omega) (show a1.toInt ≤ 9 by omega) (show 0 ≤ a2.toInt by omega) (show a2.toInt ≤ 9 by omega) (show 0 ≤ a3.toInt by omega) (show a3.toInt ≤ 99999 by omega) (show 2000 ≤ a4.toInt by omega) (show a4.toInt ≤ 101999 by omega) (show 0 ≤ v145_5.toInt by omega) (show v145_5.toInt ≤ 9 by omega) (show 0 ≤ v145_6.toInt by omega) (show v145_6.toInt ≤ 12 by omega) (show 0 ≤ f145_12_0.toInt by omega) (show f145_12_0.toInt ≤ 10 by omega) (show 1 ≤ x52.toInt by omega) (show x52.toInt ≤ 13 by omega) (show (sumG 19 10 w1) + 1 ≤ (sumG 19 10 w322) by omega)  hw hT hF c326 c327 (lv_sub hl [2, 3, 4, 5, 6, 7, 8] rfl)
      have L59 : ∀ (n59 : Nat) (v59_5 : Int32) (v59_6 : Int32) (H : Heap) (locs : List Loc) (ls : Array Slot) (w331 : va_W), 0 ≤ a1.toInt → a1.toInt ≤ 9 → 0 ≤ a2.toInt → a2.toInt ≤ 9 → 0 ≤ a3.toInt → a3.toInt ≤ 99999 → 2000 ≤ a4.toInt → a4.toInt ≤ 101999 → (-1) ≤ v59_5.toInt → v59_5.toInt ≤ 9 → 0 ≤ v59_6.toInt → v59_6.toInt ≤ 10 → (sumG 19 10 w331) ≤ (sumG 19 10 w1) → (sumG 19 10 w1) ≤ (sumG 19 10 w331) → (v59_5.toInt = -1 ∨ (gi w331 19 (v59_5.toInt).toNat).toInt = 0) → (10 - v59_6.toInt).toNat < n59 → Wd dC dI A s.heap H locs w331 → TW ksM ad cy B qr 13 w331 → FE ksM [(77, 0, 10), (78, 0, 10)] w0 w331 → gi w331 19 (a2.toInt).toNat = 0 → lv_has ls 9 [(0, .ref (ad 0)), (1, .int a1), (2, .int a2), (3, .int a3), (4, .int a4), (5, .int v59_5), (6, .int v59_6)] → W p l e ({ frames := 5, cells := 0, slots := 0, locals := 105 }) s m (List.toArray [.ref (ad 0), .int a1, .int a2, .int a3, .int a4]) below meth c H locs 0 0 (MQ below (va_Qi (P_X12_reaches_3 ad cy B qr s1 a1 a2 a3 a4 w0) (fun u : va_W => wpost dC dI cy A u) A) (List.toArray [.ref (ad 0), .int a1, .int a2, .int a3, .int a4]) s 0 0 A) (F0 m 59 ls []) := by
        intro n59
        induction n59 with
        | zero => intro v59_5 v59_6 H locs ls w331 r332 t333 r334 t335 r336 t337 r338 t339 r340 t341 r342 t343 g345 g346 g347 hm59 hw hT hF c344 hl; omega
        | succ n59 ih59 =>
          intro v59_5 v59_6 H locs ls w331 r332 t333 r334 t335 r336 t337 r338 t339 r340 t341 r342 t343 g345 g346 g347 hm59 hw hT hF c344 hl
          have J119 : ∀ (v119_5 : Int32) (f119_12_0 : Int32) (f119_19__v59_6_toInt_toNat : Int32) (H : Heap) (locs : List Loc) (ls : Array Slot) (w348 : va_W), 0 ≤ a1.toInt → a1.toInt ≤ 9 → 0 ≤ a2.toInt → a2.toInt ≤ 9 → 0 ≤ a3.toInt → a3.toInt ≤ 99999 → 2000 ≤ a4.toInt → a4.toInt ≤ 101999 → (-1) ≤ v119_5.toInt → v119_5.toInt ≤ 9 → 0 ≤ v59_6.toInt → v59_6.toInt ≤ 9 → 1 ≤ f119_12_0.toInt → f119_12_0.toInt ≤ 10 → 0 ≤ f119_19__v59_6_toInt_toNat.toInt → f119_19__v59_6_toInt_toNat.toInt ≤ 1 → (sumG 19 10 w348) ≤ (sumG 19 10 w1) → (sumG 19 10 w1) ≤ (sumG 19 10 w348) → (v119_5.toInt = -1 ∨ (gi w348 19 (v119_5.toInt).toNat).toInt = 0) → Wd dC dI A s.heap H locs w348 → TW ksM ad cy B qr 13 w348 → FE ksM [(77, 0, 10), (78, 0, 10)] w0 w348 → gi w348 12 0 = f119_12_0 → gi w348 19 (a2.toInt).toNat = 0 → gi w348 19 (v59_6.toInt).toNat = f119_19__v59_6_toInt_toNat → lv_has ls 9 [(0, .ref (ad 0)), (1, .int a1), (2, .int a2), (3, .int a3), (4, .int a4), (5, .int v119_5), (6, .int v59_6)] → W p l e ({ frames := 5, cells := 0, slots := 0, locals := 105 }) s m (List.toArray [.ref (ad 0), .int a1, .int a2, .int a3, .int a4]) below meth c H locs 0 0 (MQ below (va_Qi (P_X12_reaches_3 ad cy B qr s1 a1 a2 a3 a4 w0) (fun u : va_W => wpost dC dI cy A u) A) (List.toArray [.ref (ad 0), .int a1, .int a2, .int a3, .int a4]) s 0 0 A) (F0 m 119 ls []) := by
            intro v119_5 f119_12_0 f119_19__v59_6_toInt_toNat H locs ls w348 r349 t350 r351 t352 r353 t354 r355 t356 r357 t358 r359 t360 r361 t362 r365 t366 g368 g369 g370 hw hT hF c363 c364 c367 hl
            obtain ⟨x371, ex371⟩ : ∃ y : Int32, y = v59_6 + Int32.ofInt 1 := ⟨_, rfl⟩
            refine lv_iinc (v := x371) (lv' := [(6, .int x371), (0, .ref (ad 0)), (1, .int a1), (2, .int a2), (3, .int a3), (4, .int a4), (5, .int v119_5)]) hx hb dX12_reaches_119 hl (k := 6) rfl ex371.symm (by decide) rfl (fun ls hl => ?_)
            have ex371 : x371.toInt = v59_6.toInt + 1 := by rw [ex371]; exact wk_add (y := 1) (show -2147483648 ≤ v59_6.toInt + 1 by omega) (show v59_6.toInt + 1 ≤ 2147483647 by omega)
            refine lv_goto (tgt := 59) hx hb dX12_reaches_122 (by decide) ?_
            have gb372 : 0 ≤ sumG 19 10 w348 ∧ sumG 19 10 w348 ≤ 10 := hT.sum (lo := 0) (hi := 1) kM_at19 rfl (by decide) rfl
            exact ih59 v119_5 x371 H locs ls w348 (show 0 ≤ a1.toInt by omega) (show a1.toInt ≤ 9 by omega) (show 0 ≤ a2.toInt by omega) (show a2.toInt ≤ 9 by omega) (show 0 ≤ a3.toInt by omega) (show a3.toInt ≤ 99999 by omega) (show 2000 ≤ a4.toInt by omega) (show a4.toInt ≤ 101999 by omega) (show (-1) ≤ v119_5.toInt by omega) (show v119_5.toInt ≤ 9 by omega) (show 0 ≤ x371.toInt by omega) (show x371.toInt ≤ 10 by omega) (show (sumG 19 10 w348) ≤ (sumG 19 10 w1) by omega) (show (sumG 19 10 w1) ≤ (sumG 19 10 w348) by omega) (show (v119_5.toInt = -1 ∨ (gi w348 19 (v119_5.toInt).toNat).toInt = 0) by first | omega | assumption | (left; omega) | (left; decide) | (right; assumption) | (right; rw [c364]; omega) | (right; rw [c364]; decide) | (right; rw [c367]; omega) | (right; rw [c367]; decide)) (show (10 - x371.toInt).toNat < n59 by omega) hw hT hF c364 (lv_sub hl [1, 2, 3, 4, 5, 6, 0] rfl)
          have J115 : ∀ (f115_12_0 : Int32) (H : Heap) (locs : List Loc) (ls : Array Slot) (w373 : va_W), 0 ≤ a1.toInt → a1.toInt ≤ 9 → 0 ≤ a2.toInt → a2.toInt ≤ 9 → 0 ≤ a3.toInt → a3.toInt ≤ 99999 → 2000 ≤ a4.toInt → a4.toInt ≤ 101999 → (-1) ≤ v59_5.toInt → v59_5.toInt ≤ 9 → 0 ≤ v59_6.toInt → v59_6.toInt ≤ 9 → 1 ≤ f115_12_0.toInt → f115_12_0.toInt ≤ 10 → (sumG 19 10 w373) ≤ (sumG 19 10 w1) → (sumG 19 10 w1) ≤ (sumG 19 10 w373) → (v59_5.toInt = -1 ∨ (gi w373 19 (v59_5.toInt).toNat).toInt = 0) → Wd dC dI A s.heap H locs w373 → TW ksM ad cy B qr 13 w373 → FE ksM [(77, 0, 10), (78, 0, 10)] w0 w373 → gi w373 12 0 = f115_12_0 → gi w373 19 (a2.toInt).toNat = 0 → gi w373 19 (v59_6.toInt).toNat = 0 → lv_has ls 9 [(0, .ref (ad 0)), (1, .int a1), (2, .int a2), (3, .int a3), (4, .int a4), (5, .int v59_5), (6, .int v59_6)] → W p l e ({ frames := 5, cells := 0, slots := 0, locals := 105 }) s m (List.toArray [.ref (ad 0), .int a1, .int a2, .int a3, .int a4]) below meth c H locs 0 0 (MQ below (va_Qi (P_X12_reaches_3 ad cy B qr s1 a1 a2 a3 a4 w0) (fun u : va_W => wpost dC dI cy A u) A) (List.toArray [.ref (ad 0), .int a1, .int a2, .int a3, .int a4]) s 0 0 A) (F0 m 115 ls []) := by
            intro f115_12_0 H locs ls w373 r374 t375 r376 t377 r378 t379 r380 t381 r382 t383 r384 t385 r386 t387 g391 g392 g393 hw hT hF c388 c389 c390 hl
            refine lv_iload hx hb dX12_reaches_115 (lv_at hl 6 rfl) ?_
            refine lv_istore (lv' := [(5, .int v59_6), (0, .ref (ad 0)), (1, .int a1), (2, .int a2), (3, .int a3), (4, .int a4), (6, .int v59_6)]) hx hb dX12_reaches_117 hl (by decide) rfl (fun ls hl => ?_)
            have gb394 : 0 ≤ sumG 19 10 w373 ∧ sumG 19 10 w373 ≤ 10 := hT.sum (lo := 0) (hi := 1) kM_at19 rfl (by decide) rfl
            exact J119 v59_6 f115_12_0 0 H locs ls w373 (show 0 ≤ a1.toInt by omega) (show a1.toInt ≤ 9 by omega) (show 0 ≤ a2.toInt by omega) (show a2.toInt ≤ 9 by omega) (show 0 ≤ a3.toInt by omega) (show a3.toInt ≤ 99999 by omega) (show 2000 ≤ a4.toInt by omega) (show a4.toInt ≤ 101999 by omega) (show (-1) ≤ v59_6.toInt by omega) (show v59_6.toInt ≤ 9 by omega) (show 0 ≤ v59_6.toInt by omega) (show v59_6.toInt ≤ 9 by omega) (show 1 ≤ f115_12_0.toInt by omega) (show f115_12_0.toInt ≤ 10 by omega) (by decide) (by decide) (show (sumG 19 10 w373) ≤ (sumG 19 10 w1) by omega) (show (sumG 19 10 w1) ≤ (sumG 19 10 w373) by omega) (show (v59_6.toInt = -1 ∨ (gi w373 19 (v59_6.toInt).toNat).toInt = 0) by first | omega | assumption | (left; omega) | (left; decide) | (right; assumption) | (right; rw [c389]; omega) | (right; rw [c389]; decide) | (right; rw [c390]; omega) | (right; rw [c390]; decide))  hw hT hF c388 c389 c390 (lv_sub hl [1, 2, 3, 4, 5, 0, 6] rfl)
          refine lv_iload hx hb dX12_reaches_59 (lv_at hl 6 rfl) ?_
          refine lv_aload_n hx hb dX12_reaches_61 rfl (lv_at hl 0 rfl) ?_
          refine tk_getA hC hK hw hT hinX12 kM_at0 (by decide) rfl 26 (by decide) (List.mem_of_getElem? (i := 4) rfl) rfl rfl dX12_reaches_62 ?_
          refine lv_iconst (v := 0) hx hb dX12_reaches_65 (by decide) ?_
          refine tk_ialdR hC hK hw hT kM_at12 rfl (by decide) (by decide) dX12_reaches_66 (fun x395 c396 Ex395 => ?_)
          have bx395 := tk_rgI rfl 0 1 1 0 10 (by decide +kernel) ⟨0, by decide, by decide⟩ Ex395
          have c396 : gi w331 12 0 = x395 := c396
          refine lv_icmp_ge (tgt := 125) hx hb dX12_reaches_67 (by decide) (fun c397 => ?_) (fun c397 => ?_)
          · have c397 : x395.toInt ≤ v59_6.toInt := wk_le.mp c397
            refine lv_iload hx hb dX12_reaches_125 (lv_at hl 5 rfl) ?_
            refine lv_if_ge (tgt := 134) hx hb dX12_reaches_127 (by decide) (fun c398 => ?_) (fun c398 => ?_)
            · have c398 : (0 : Int) ≤ v59_5.toInt := wk_le.mp c398
              refine lv_aload_n hx hb dX12_reaches_134 rfl (lv_at hl 0 rfl) ?_
              refine tk_getA hC hK hw hT hinX12 kM_at0 (by decide) rfl 36 (by decide) (List.mem_of_getElem? (i := 3) rfl) rfl rfl dX12_reaches_135 ?_
              refine lv_iload hx hb dX12_reaches_138 (lv_at hl 5 rfl) ?_
              refine lv_iconst (v := 1) hx hb dX12_reaches_140 (by decide) ?_
              refine tk_zast hC hK hw hT kM_at19 (by decide) rfl rfl (show 0 ≤ v59_5.toInt by omega) (show v59_5.toInt < 10 by omega) (by decide) (by decide) dX12_reaches_141 (fun H locs w399 hw hT k401 c400 => ?_)
              have gs402 : sumG 19 10 w399 = sumG 19 10 w331 - (gi w331 19 (v59_5.toInt.toNat)).toInt + (gi w399 19 (v59_5.toInt.toNat)).toInt := sumG_up (i := v59_5.toInt.toNat) k401 10 (show v59_5.toInt.toNat < 10 by omega)
              rw [show gi w399 19 (v59_5.toInt.toNat) = 1 from c400] at gs402
              rw [show (1 : Int32).toInt = 1 by decide] at gs402
              have hF := hF.put kM_at19 (inE_of (a := 0) (b := 10) (by decide) (show 0 ≤ v59_5.toInt.toNat by omega) (show v59_5.toInt.toNat ≤ 10 by omega)) k401
              have c403 := k401.gi (Or.inl (tk_ne kM_at12 kM_at19 (by decide))) c396
              refine lv_iconst (v := 0) hx hb dX12_reaches_142 (by decide) ?_
              refine lv_istore (lv' := [(6, .int 0), (0, .ref (ad 0)), (1, .int a1), (2, .int a2), (3, .int a3), (4, .int a4), (5, .int v59_5)]) hx hb dX12_reaches_143 hl (by decide) rfl (fun ls hl => ?_)
              have gb404 : 0 ≤ sumG 19 10 w399 ∧ sumG 19 10 w399 ≤ 10 := hT.sum (lo := 0) (hi := 1) kM_at19 rfl (by decide) rfl
              exact L145 ((13 - (0 : Int)).toNat + 1) v59_5 0 x395 H locs ls w399 (show 0 ≤ a1.toInt by omega) (show a1.toInt ≤ 9 by omega) (show 0 ≤ a2.toInt by omega) (show a2.toInt ≤ 9 by omega) (show 0 ≤ a3.toInt by omega) (show a3.toInt ≤ 99999 by omega) (show 2000 ≤ a4.toInt by omega) (show a4.toInt ≤ 101999 by omega) (show 0 ≤ v59_5.toInt by omega) (show v59_5.toInt ≤ 9 by omega) (by decide) (by decide) (show 0 ≤ x395.toInt by omega) (show x395.toInt ≤ 10 by omega) (show (sumG 19 10 w1) + 1 ≤ (sumG 19 10 w399) by omega) (Nat.lt_succ_self _) hw hT hF c403 (lv_sub hl [1, 2, 3, 4, 5, 6, 0] rfl)
            · have c398 : v59_5.toInt < (0 : Int) := wk_leF c398
              refine lv_ldcw (v := 100000000) hx hb hC.2.2.2.1 (hC.2.2.2.2 _ (List.mem_of_getElem? (i := 2) rfl)) dX12_reaches_130 ?_
              exact tk_iret hC hr hlocks hK ⟨hT, hF, ⟨(by decide), (by decide)⟩⟩ hw dX12_reaches_133
          · have c397 : v59_6.toInt < x395.toInt := wk_leF c397
            refine lv_aload_n hx hb dX12_reaches_70 rfl (lv_at hl 0 rfl) ?_
            refine tk_getA hC hK hw hT hinX12 kM_at0 (by decide) rfl 36 (by decide) (List.mem_of_getElem? (i := 3) rfl) rfl rfl dX12_reaches_71 ?_
            refine lv_iload hx hb dX12_reaches_74 (lv_at hl 6 rfl) ?_
            refine tk_zald hC hK hw hT kM_at19 rfl rfl (show 0 ≤ v59_6.toInt by omega) (show v59_6.toInt < 10 by omega) dX12_reaches_76 (fun x405 c406 rx405 tx405 => ?_)
            have c406 : gi w331 19 (v59_6.toInt).toNat = x405 := (congrArg (gi w331 19) (congrArg Int.toNat (show v59_6.toInt = v59_6.toInt by omega))).trans c406
            refine lv_if_ne (tgt := 119) hx hb dX12_reaches_77 (by decide) (fun c407 => ?_) (fun c407 => ?_)
            · have c407 : ¬ x405.toInt = (0 : Int) := wk_eqF c407
              have gb408 : 0 ≤ sumG 19 10 w331 ∧ sumG 19 10 w331 ≤ 10 := hT.sum (lo := 0) (hi := 1) kM_at19 rfl (by decide) rfl
              exact J119 v59_5 x395 x405 H locs ls w331 (show 0 ≤ a1.toInt by omega) (show a1.toInt ≤ 9 by omega) (show 0 ≤ a2.toInt by omega) (show a2.toInt ≤ 9 by omega) (show 0 ≤ a3.toInt by omega) (show a3.toInt ≤ 99999 by omega) (show 2000 ≤ a4.toInt by omega) (show a4.toInt ≤ 101999 by omega) (show (-1) ≤ v59_5.toInt by omega) (show v59_5.toInt ≤ 9 by omega) (show 0 ≤ v59_6.toInt by omega) (show v59_6.toInt ≤ 9 by omega) (show 1 ≤ x395.toInt by omega) (show x395.toInt ≤ 10 by omega) (show 0 ≤ x405.toInt by omega) (show x405.toInt ≤ 1 by omega) (show (sumG 19 10 w331) ≤ (sumG 19 10 w1) by omega) (show (sumG 19 10 w1) ≤ (sumG 19 10 w331) by omega) (show (v59_5.toInt = -1 ∨ (gi w331 19 (v59_5.toInt).toNat).toInt = 0) by first | omega | assumption | (left; omega) | (left; decide) | (right; assumption) | (right; rw [c344]; omega) | (right; rw [c344]; decide) | (right; rw [c406]; omega) | (right; rw [c406]; decide))  hw hT hF c396 c344 c406 (lv_sub hl [0, 1, 2, 3, 4, 5, 6] rfl)
            · have c407 : x405.toInt = (0 : Int) := wk_eq.mp c407
              refine lv_aload_n hx hb dX12_reaches_80 rfl (lv_at hl 0 rfl) ?_
              refine tk_getA hC hK hw hT hinX12 kM_at0 (by decide) rfl 35 (by decide) (List.mem_of_getElem? (i := 1) rfl) rfl rfl dX12_reaches_81 ?_
              refine lv_iload hx hb dX12_reaches_84 (lv_at hl 6 rfl) ?_
              refine tk_iald hC hK hw hT kM_at18 rfl rfl (show 0 ≤ v59_6.toInt by omega) (show v59_6.toInt < 10 by omega) dX12_reaches_86 (fun x409 c410 rx409 tx409 => ?_)
              refine lv_ldcw (v := 100000000) hx hb hC.2.2.2.1 (hC.2.2.2.2 _ (List.mem_of_getElem? (i := 2) rfl)) dX12_reaches_87 ?_
              refine lv_icmp_ge (tgt := 119) hx hb dX12_reaches_90 (by decide) (fun c411 => ?_) (fun c411 => ?_)
              · have c411 : (100000000 : Int) ≤ x409.toInt := wk_le.mp c411
                have gb412 : 0 ≤ sumG 19 10 w331 ∧ sumG 19 10 w331 ≤ 10 := hT.sum (lo := 0) (hi := 1) kM_at19 rfl (by decide) rfl
                exact J119 v59_5 x395 x405 H locs ls w331 (show 0 ≤ a1.toInt by omega) (show a1.toInt ≤ 9 by omega) (show 0 ≤ a2.toInt by omega) (show a2.toInt ≤ 9 by omega) (show 0 ≤ a3.toInt by omega) (show a3.toInt ≤ 99999 by omega) (show 2000 ≤ a4.toInt by omega) (show a4.toInt ≤ 101999 by omega) (show (-1) ≤ v59_5.toInt by omega) (show v59_5.toInt ≤ 9 by omega) (show 0 ≤ v59_6.toInt by omega) (show v59_6.toInt ≤ 9 by omega) (show 1 ≤ x395.toInt by omega) (show x395.toInt ≤ 10 by omega) (show 0 ≤ x405.toInt by omega) (show x405.toInt ≤ 1 by omega) (show (sumG 19 10 w331) ≤ (sumG 19 10 w1) by omega) (show (sumG 19 10 w1) ≤ (sumG 19 10 w331) by omega) (show (v59_5.toInt = -1 ∨ (gi w331 19 (v59_5.toInt).toNat).toInt = 0) by first | omega | assumption | (left; omega) | (left; decide) | (right; assumption) | (right; rw [c344]; omega) | (right; rw [c344]; decide) | (right; rw [c406]; omega) | (right; rw [c406]; decide))  hw hT hF c396 c344 c406 (lv_sub hl [0, 1, 2, 3, 4, 5, 6] rfl)
              · have c411 : x409.toInt < (100000000 : Int) := wk_leF c411
                refine lv_iload hx hb dX12_reaches_93 (lv_at hl 5 rfl) ?_
                refine lv_if_lt (tgt := 115) hx hb dX12_reaches_95 (by decide) (fun c413 => ?_) (fun c413 => ?_)
                · have c413 : v59_5.toInt < (0 : Int) := wk_lt.mp c413
                  have gb414 : 0 ≤ sumG 19 10 w331 ∧ sumG 19 10 w331 ≤ 10 := hT.sum (lo := 0) (hi := 1) kM_at19 rfl (by decide) rfl
                  obtain rfl : x405 = 0 := wk_eq.mpr (show x405.toInt = 0 by omega)
                  exact J115 x395 H locs ls w331 (show 0 ≤ a1.toInt by omega) (show a1.toInt ≤ 9 by omega) (show 0 ≤ a2.toInt by omega) (show a2.toInt ≤ 9 by omega) (show 0 ≤ a3.toInt by omega) (show a3.toInt ≤ 99999 by omega) (show 2000 ≤ a4.toInt by omega) (show a4.toInt ≤ 101999 by omega) (show (-1) ≤ v59_5.toInt by omega) (show v59_5.toInt ≤ 9 by omega) (show 0 ≤ v59_6.toInt by omega) (show v59_6.toInt ≤ 9 by omega) (show 1 ≤ x395.toInt by omega) (show x395.toInt ≤ 10 by omega) (show (sumG 19 10 w331) ≤ (sumG 19 10 w1) by omega) (show (sumG 19 10 w1) ≤ (sumG 19 10 w331) by omega) (show (v59_5.toInt = -1 ∨ (gi w331 19 (v59_5.toInt).toNat).toInt = 0) by first | omega | assumption | (left; omega) | (left; decide) | (right; assumption) | (right; rw [c344]; omega) | (right; rw [c344]; decide) | (right; rw [c406]; omega) | (right; rw [c406]; decide))  hw hT hF c396 c344 c406 (lv_sub hl [0, 1, 2, 3, 4, 5, 6] rfl)
                · have c413 : (0 : Int) ≤ v59_5.toInt := wk_ltF c413
                  refine lv_aload_n hx hb dX12_reaches_98 rfl (lv_at hl 0 rfl) ?_
                  refine tk_getA hC hK hw hT hinX12 kM_at0 (by decide) rfl 35 (by decide) (List.mem_of_getElem? (i := 1) rfl) rfl rfl dX12_reaches_99 ?_
                  refine lv_iload hx hb dX12_reaches_102 (lv_at hl 6 rfl) ?_
                  refine tk_iald hC hK hw hT kM_at18 rfl rfl (show 0 ≤ v59_6.toInt by omega) (show v59_6.toInt < 10 by omega) dX12_reaches_104 (fun x415 c416 rx415 tx415 => ?_)
                  refine lv_aload_n hx hb dX12_reaches_105 rfl (lv_at hl 0 rfl) ?_
                  refine tk_getA hC hK hw hT hinX12 kM_at0 (by decide) rfl 35 (by decide) (List.mem_of_getElem? (i := 1) rfl) rfl rfl dX12_reaches_106 ?_
                  refine lv_iload hx hb dX12_reaches_109 (lv_at hl 5 rfl) ?_
                  refine tk_iald hC hK hw hT kM_at18 rfl rfl (show 0 ≤ v59_5.toInt by omega) (show v59_5.toInt < 10 by omega) dX12_reaches_111 (fun x417 c418 rx417 tx417 => ?_)
                  refine lv_icmp_ge (tgt := 119) hx hb dX12_reaches_112 (by decide) (fun c419 => ?_) (fun c419 => ?_)
                  · have c419 : x417.toInt ≤ x415.toInt := wk_le.mp c419
                    have gb420 : 0 ≤ sumG 19 10 w331 ∧ sumG 19 10 w331 ≤ 10 := hT.sum (lo := 0) (hi := 1) kM_at19 rfl (by decide) rfl
                    exact J119 v59_5 x395 x405 H locs ls w331 (show 0 ≤ a1.toInt by omega) (show a1.toInt ≤ 9 by omega) (show 0 ≤ a2.toInt by omega) (show a2.toInt ≤ 9 by omega) (show 0 ≤ a3.toInt by omega) (show a3.toInt ≤ 99999 by omega) (show 2000 ≤ a4.toInt by omega) (show a4.toInt ≤ 101999 by omega) (show (-1) ≤ v59_5.toInt by omega) (show v59_5.toInt ≤ 9 by omega) (show 0 ≤ v59_6.toInt by omega) (show v59_6.toInt ≤ 9 by omega) (show 1 ≤ x395.toInt by omega) (show x395.toInt ≤ 10 by omega) (show 0 ≤ x405.toInt by omega) (show x405.toInt ≤ 1 by omega) (show (sumG 19 10 w331) ≤ (sumG 19 10 w1) by omega) (show (sumG 19 10 w1) ≤ (sumG 19 10 w331) by omega) (show (v59_5.toInt = -1 ∨ (gi w331 19 (v59_5.toInt).toNat).toInt = 0) by first | omega | assumption | (left; omega) | (left; decide) | (right; assumption) | (right; rw [c344]; omega) | (right; rw [c344]; decide) | (right; rw [c406]; omega) | (right; rw [c406]; decide))  hw hT hF c396 c344 c406 (lv_sub hl [0, 1, 2, 3, 4, 5, 6] rfl)
                  · have c419 : x415.toInt < x417.toInt := wk_leF c419
                    have gb421 : 0 ≤ sumG 19 10 w331 ∧ sumG 19 10 w331 ≤ 10 := hT.sum (lo := 0) (hi := 1) kM_at19 rfl (by decide) rfl
                    obtain rfl : x405 = 0 := wk_eq.mpr (show x405.toInt = 0 by omega)
                    exact J115 x395 H locs ls w331 (show 0 ≤ a1.toInt by omega) (show a1.toInt ≤ 9 by omega) (show 0 ≤ a2.toInt by omega) (show a2.toInt ≤ 9 by omega) (show 0 ≤ a3.toInt by omega) (show a3.toInt ≤ 99999 by omega) (show 2000 ≤ a4.toInt by omega) (show a4.toInt ≤ 101999 by omega) (show (-1) ≤ v59_5.toInt by omega) (show v59_5.toInt ≤ 9 by omega) (show 0 ≤ v59_6.toInt by omega) (show v59_6.toInt ≤ 9 by omega) (show 1 ≤ x395.toInt by omega) (show x395.toInt ≤ 10 by omega) (show (sumG 19 10 w331) ≤ (sumG 19 10 w1) by omega) (show (sumG 19 10 w1) ≤ (sumG 19 10 w331) by omega) (show (v59_5.toInt = -1 ∨ (gi w331 19 (v59_5.toInt).toNat).toInt = 0) by first | omega | assumption | (left; omega) | (left; decide) | (right; assumption) | (right; rw [c344]; omega) | (right; rw [c344]; decide) | (right; rw [c406]; omega) | (right; rw [c406]; decide))  hw hT hF c396 c344 c406 (lv_sub hl [0, 1, 2, 3, 4, 5, 6] rfl)
      refine lv_aload_n hx hb dX12_reaches_44 rfl (lv_at hl 0 rfl) ?_
      refine tk_getA hC hK hw hT hinX12 kM_at0 (by decide) rfl 36 (by decide) (List.mem_of_getElem? (i := 3) rfl) rfl rfl dX12_reaches_45 ?_
      refine lv_iload_n hx hb dX12_reaches_48 rfl (lv_at hl 2 rfl) ?_
      refine tk_zald hC hK hw hT kM_at19 rfl rfl (show 0 ≤ a2.toInt by omega) (show a2.toInt < 10 by omega) dX12_reaches_49 (fun x422 c423 rx422 tx422 => ?_)
      have c423 : gi w1 19 (a2.toInt).toNat = x422 := (congrArg (gi w1 19) (congrArg Int.toNat (show a2.toInt = a2.toInt by omega))).trans c423
      refine lv_if_ne (tgt := 268) hx hb dX12_reaches_50 (by decide) (fun c424 => ?_) (fun c424 => ?_)
      · have c424 : ¬ x422.toInt = (0 : Int) := wk_eqF c424
        refine lv_aload_n hx hb dX12_reaches_268 rfl (lv_at hl 0 rfl) ?_
        refine tk_getA hC hK hw hT hinX12 kM_at0 (by decide) rfl 35 (by decide) (List.mem_of_getElem? (i := 1) rfl) rfl rfl dX12_reaches_269 ?_
        refine lv_iload_n hx hb dX12_reaches_272 rfl (lv_at hl 2 rfl) ?_
        refine tk_iald hC hK hw hT kM_at18 rfl rfl (show 0 ≤ a2.toInt by omega) (show a2.toInt < 10 by omega) dX12_reaches_273 (fun x425 c426 rx425 tx425 => ?_)
        exact tk_iret hC hr hlocks hK ⟨hT, hF, ⟨(show 0 ≤ x425.toInt by omega), (show x425.toInt ≤ 100000100 by omega)⟩⟩ hw dX12_reaches_274
      · have c424 : x422.toInt = (0 : Int) := wk_eq.mp c424
        refine lv_iconst (v := (-1)) hx hb dX12_reaches_53 (by decide) ?_
        refine lv_istore (lv' := [(5, .int (-1)), (0, .ref (ad 0)), (1, .int a1), (2, .int a2), (3, .int a3), (4, .int a4)]) hx hb dX12_reaches_54 hl (by decide) rfl (fun ls hl => ?_)
        refine lv_iconst (v := 0) hx hb dX12_reaches_56 (by decide) ?_
        refine lv_istore (lv' := [(6, .int 0), (5, .int (-1)), (0, .ref (ad 0)), (1, .int a1), (2, .int a2), (3, .int a3), (4, .int a4)]) hx hb dX12_reaches_57 hl (by decide) rfl (fun ls hl => ?_)
        have gb427 : 0 ≤ sumG 19 10 w1 ∧ sumG 19 10 w1 ≤ 10 := hT.sum (lo := 0) (hi := 1) kM_at19 rfl (by decide) rfl
        obtain rfl : x422 = 0 := wk_eq.mpr (show x422.toInt = 0 by omega)
        exact L59 ((10 - (0 : Int)).toNat + 1) (-1) 0 H locs ls w1 (show 0 ≤ a1.toInt by omega) (show a1.toInt ≤ 9 by omega) (show 0 ≤ a2.toInt by omega) (show a2.toInt ≤ 9 by omega) (show 0 ≤ a3.toInt by omega) (show a3.toInt ≤ 99999 by omega) (show 2000 ≤ a4.toInt by omega) (show a4.toInt ≤ 101999 by omega) (by decide) (by decide) (by decide) (by decide) (show (sumG 19 10 w1) ≤ (sumG 19 10 w1) by omega) (show (sumG 19 10 w1) ≤ (sumG 19 10 w1) by omega) (show ((-1 : Int) = -1 ∨ (gi w1 19 ((-1 : Int)).toNat).toInt = 0) by first | omega | assumption | (left; omega) | (left; decide) | (right; assumption) | (right; rw [c423]; omega) | (right; rw [c423]; decide)) (Nat.lt_succ_self _) hw hT hF c423 (lv_sub hl [2, 3, 4, 5, 6, 1, 0] rfl)
  have L3 : ∀ (n3 : Nat) (v3_5 : Int32) (H : Heap) (locs : List Loc) (ls : Array Slot) (w428 : va_W), 0 ≤ a1.toInt → a1.toInt ≤ 9 → 0 ≤ a2.toInt → a2.toInt ≤ 9 → 0 ≤ a3.toInt → a3.toInt ≤ 99999 → 2000 ≤ a4.toInt → a4.toInt ≤ 101999 → 0 ≤ v3_5.toInt → v3_5.toInt ≤ 10 → (10 - v3_5.toInt).toNat < n3 → Wd dC dI A s.heap H locs w428 → TW ksM ad cy B qr 13 w428 → FE ksM [(77, 0, 10), (78, 0, 10)] w0 w428 → lv_has ls 9 [(0, .ref (ad 0)), (1, .int a1), (2, .int a2), (3, .int a3), (4, .int a4), (5, .int v3_5)] → W p l e ({ frames := 5, cells := 0, slots := 0, locals := 105 }) s m (List.toArray [.ref (ad 0), .int a1, .int a2, .int a3, .int a4]) below meth c H locs 0 0 (MQ below (va_Qi (P_X12_reaches_3 ad cy B qr s1 a1 a2 a3 a4 w0) (fun u : va_W => wpost dC dI cy A u) A) (List.toArray [.ref (ad 0), .int a1, .int a2, .int a3, .int a4]) s 0 0 A) (F0 m 3 ls []) := by
    intro n3
    induction n3 with
    | zero => intro v3_5 H locs ls w428 r429 t430 r431 t432 r433 t434 r435 t436 r437 t438 hm3 hw hT hF hl; omega
    | succ n3 ih3 =>
      intro v3_5 H locs ls w428 r429 t430 r431 t432 r433 t434 r435 t436 r437 t438 hm3 hw hT hF hl
      refine lv_iload hx hb dX12_reaches_3 (lv_at hl 5 rfl) ?_
      refine lv_bipush (v := 10) hx hb dX12_reaches_5 (by decide) ?_
      refine lv_icmp_ge (tgt := 44) hx hb dX12_reaches_7 (by decide) (fun c439 => ?_) (fun c439 => ?_)
      · have c439 : (10 : Int) ≤ v3_5.toInt := wk_le.mp c439
        have gb440 : 0 ≤ sumG 19 10 w428 ∧ sumG 19 10 w428 ≤ 10 := hT.sum (lo := 0) (hi := 1) kM_at19 rfl (by decide) rfl
        exact L44 ((10 - (sumG 19 10 w428)).toNat + 1) v3_5 H locs ls w428 (show 0 ≤ a1.toInt by omega) (show a1.toInt ≤ 9 by omega) (show 0 ≤ a2.toInt by omega) (show a2.toInt ≤ 9 by omega) (show 0 ≤ a3.toInt by omega) (show a3.toInt ≤ 99999 by omega) (show 2000 ≤ a4.toInt by omega) (show a4.toInt ≤ 101999 by omega) (show 0 ≤ v3_5.toInt by omega) (show v3_5.toInt ≤ 10 by omega) (show 0 ≤ (sumG 19 10 w428) by omega) (Nat.lt_succ_self _) hw hT hF  (lv_sub hl [0, 1, 2, 3, 4, 5] rfl)
      · have c439 : v3_5.toInt < (10 : Int) := wk_leF c439
        refine lv_aload_n hx hb dX12_reaches_10 rfl (lv_at hl 0 rfl) ?_
        refine tk_getA hC hK hw hT hinX12 kM_at0 (by decide) rfl 35 (by decide) (List.mem_of_getElem? (i := 1) rfl) rfl rfl dX12_reaches_11 ?_
        refine lv_iload hx hb dX12_reaches_14 (lv_at hl 5 rfl) ?_
        refine lv_iload hx hb dX12_reaches_16 (lv_at hl 5 rfl) ?_
        refine lv_iload_n hx hb dX12_reaches_18 rfl (lv_at hl 1 rfl) ?_
        refine lv_icmp_ne (tgt := 26) hx hb dX12_reaches_19 (by decide) (fun c441 => ?_) (fun c441 => ?_)
        · have c441 : ¬ v3_5.toInt = a1.toInt := wk_eqF c441
          refine lv_ldcw (v := 100000000) hx hb hC.2.2.2.1 (hC.2.2.2.2 _ (List.mem_of_getElem? (i := 2) rfl)) dX12_reaches_26 ?_
          refine tk_iast hC hK hw hT kM_at18 (by decide) rfl rfl (show 0 ≤ v3_5.toInt by omega) (show v3_5.toInt < 10 by omega) (by decide) (by decide) dX12_reaches_29 (fun H locs w442 hw hT k444 c443 => ?_)
          have gs445 : sumG 19 10 w442 = sumG 19 10 w428 := sumG_ne 10 k444 (tk_ne kM_at19 kM_at18 (by decide))
          have hF := hF.put kM_at18 (inE_of (a := 0) (b := 10) (by decide) (show 0 ≤ v3_5.toInt.toNat by omega) (show v3_5.toInt.toNat ≤ 10 by omega)) k444
          refine lv_aload_n hx hb dX12_reaches_30 rfl (lv_at hl 0 rfl) ?_
          refine tk_getA hC hK hw hT hinX12 kM_at0 (by decide) rfl 36 (by decide) (List.mem_of_getElem? (i := 3) rfl) rfl rfl dX12_reaches_31 ?_
          refine lv_iload hx hb dX12_reaches_34 (lv_at hl 5 rfl) ?_
          refine lv_iconst (v := 0) hx hb dX12_reaches_36 (by decide) ?_
          refine tk_zast hC hK hw hT kM_at19 (by decide) rfl rfl (show 0 ≤ v3_5.toInt by omega) (show v3_5.toInt < 10 by omega) (by decide) (by decide) dX12_reaches_37 (fun H locs w446 hw hT k448 c447 => ?_)
          have gs449 : sumG 19 10 w446 = sumG 19 10 w442 - (gi w442 19 (v3_5.toInt.toNat)).toInt + (gi w446 19 (v3_5.toInt.toNat)).toInt := sumG_up (i := v3_5.toInt.toNat) k448 10 (show v3_5.toInt.toNat < 10 by omega)
          rw [show gi w446 19 (v3_5.toInt.toNat) = 0 from c447] at gs449
          rw [show (0 : Int32).toInt = 0 by decide] at gs449
          have hF := hF.put kM_at19 (inE_of (a := 0) (b := 10) (by decide) (show 0 ≤ v3_5.toInt.toNat by omega) (show v3_5.toInt.toNat ≤ 10 by omega)) k448
          obtain ⟨x450, ex450⟩ : ∃ y : Int32, y = v3_5 + Int32.ofInt 1 := ⟨_, rfl⟩
          refine lv_iinc (v := x450) (lv' := [(5, .int x450), (0, .ref (ad 0)), (1, .int a1), (2, .int a2), (3, .int a3), (4, .int a4)]) hx hb dX12_reaches_38 hl (k := 5) rfl ex450.symm (by decide) rfl (fun ls hl => ?_)
          have ex450 : x450.toInt = v3_5.toInt + 1 := by rw [ex450]; exact wk_add (y := 1) (show -2147483648 ≤ v3_5.toInt + 1 by omega) (show v3_5.toInt + 1 ≤ 2147483647 by omega)
          refine lv_goto (tgt := 3) hx hb dX12_reaches_41 (by decide) ?_
          exact ih3 x450 H locs ls w446 (show 0 ≤ a1.toInt by omega) (show a1.toInt ≤ 9 by omega) (show 0 ≤ a2.toInt by omega) (show a2.toInt ≤ 9 by omega) (show 0 ≤ a3.toInt by omega) (show a3.toInt ≤ 99999 by omega) (show 2000 ≤ a4.toInt by omega) (show a4.toInt ≤ 101999 by omega) (show 0 ≤ x450.toInt by omega) (show x450.toInt ≤ 10 by omega) (show (10 - x450.toInt).toNat < n3 by omega) hw hT hF  (lv_sub hl [1, 2, 3, 4, 5, 0] rfl)
        · have c441 : v3_5.toInt = a1.toInt := wk_eq.mp c441
          refine lv_iload_n hx hb dX12_reaches_22 rfl (lv_at hl 3 rfl) ?_
          refine lv_goto (tgt := 29) hx hb dX12_reaches_23 (by decide) ?_
          refine tk_iast hC hK hw hT kM_at18 (by decide) rfl rfl (show 0 ≤ v3_5.toInt by omega) (show v3_5.toInt < 10 by omega) (show 0 ≤ a3.toInt by omega) (show a3.toInt ≤ 100000100 by omega) dX12_reaches_29 (fun H locs w451 hw hT k453 c452 => ?_)
          have gs454 : sumG 19 10 w451 = sumG 19 10 w428 := sumG_ne 10 k453 (tk_ne kM_at19 kM_at18 (by decide))
          have hF := hF.put kM_at18 (inE_of (a := 0) (b := 10) (by decide) (show 0 ≤ v3_5.toInt.toNat by omega) (show v3_5.toInt.toNat ≤ 10 by omega)) k453
          refine lv_aload_n hx hb dX12_reaches_30 rfl (lv_at hl 0 rfl) ?_
          refine tk_getA hC hK hw hT hinX12 kM_at0 (by decide) rfl 36 (by decide) (List.mem_of_getElem? (i := 3) rfl) rfl rfl dX12_reaches_31 ?_
          refine lv_iload hx hb dX12_reaches_34 (lv_at hl 5 rfl) ?_
          refine lv_iconst (v := 0) hx hb dX12_reaches_36 (by decide) ?_
          refine tk_zast hC hK hw hT kM_at19 (by decide) rfl rfl (show 0 ≤ v3_5.toInt by omega) (show v3_5.toInt < 10 by omega) (by decide) (by decide) dX12_reaches_37 (fun H locs w455 hw hT k457 c456 => ?_)
          have gs458 : sumG 19 10 w455 = sumG 19 10 w451 - (gi w451 19 (v3_5.toInt.toNat)).toInt + (gi w455 19 (v3_5.toInt.toNat)).toInt := sumG_up (i := v3_5.toInt.toNat) k457 10 (show v3_5.toInt.toNat < 10 by omega)
          rw [show gi w455 19 (v3_5.toInt.toNat) = 0 from c456] at gs458
          rw [show (0 : Int32).toInt = 0 by decide] at gs458
          have hF := hF.put kM_at19 (inE_of (a := 0) (b := 10) (by decide) (show 0 ≤ v3_5.toInt.toNat by omega) (show v3_5.toInt.toNat ≤ 10 by omega)) k457
          obtain ⟨x459, ex459⟩ : ∃ y : Int32, y = v3_5 + Int32.ofInt 1 := ⟨_, rfl⟩
          refine lv_iinc (v := x459) (lv' := [(5, .int x459), (0, .ref (ad 0)), (1, .int a1), (2, .int a2), (3, .int a3), (4, .int a4)]) hx hb dX12_reaches_38 hl (k := 5) rfl ex459.symm (by decide) rfl (fun ls hl => ?_)
          have ex459 : x459.toInt = v3_5.toInt + 1 := by rw [ex459]; exact wk_add (y := 1) (show -2147483648 ≤ v3_5.toInt + 1 by omega) (show v3_5.toInt + 1 ≤ 2147483647 by omega)
          refine lv_goto (tgt := 3) hx hb dX12_reaches_41 (by decide) ?_
          exact ih3 x459 H locs ls w455 (show 0 ≤ a1.toInt by omega) (show a1.toInt ≤ 9 by omega) (show 0 ≤ a2.toInt by omega) (show a2.toInt ≤ 9 by omega) (show 0 ≤ a3.toInt by omega) (show a3.toInt ≤ 99999 by omega) (show 2000 ≤ a4.toInt by omega) (show a4.toInt ≤ 101999 by omega) (show 0 ≤ x459.toInt by omega) (show x459.toInt ≤ 10 by omega) (show (10 - x459.toInt).toNat < n3 by omega) hw hT hF  (lv_sub hl [1, 2, 3, 4, 5, 0] rfl)
  refine lv_iconst (v := 0) hx hb dX12_reaches_0 (by decide) ?_
  refine lv_istore (lv' := [(5, .int 0), (0, .ref (ad 0)), (1, .int a1), (2, .int a2), (3, .int a3), (4, .int a4)]) hx hb dX12_reaches_1 hl (by decide) rfl (fun ls hl => ?_)
  exact L3 ((10 - (0 : Int)).toNat + 1) 0 s.heap locs ls w0 (show 0 ≤ a1.toInt by omega) (show a1.toInt ≤ 9 by omega) (show 0 ≤ a2.toInt by omega) (show a2.toInt ≤ 9 by omega) (show 0 ≤ a3.toInt by omega) (show a3.toInt ≤ 99999 by omega) (show 2000 ≤ a4.toInt by omega) (show a4.toInt ≤ 101999 by omega) (by decide) (by decide) (Nat.lt_succ_self _) hw hT hF  (lv_sub hl [1, 2, 3, 4, 5, 0] rfl)
abbrev P_X12_sumOf_1 (ad : Nat → Nat) (cy : Nat → ClassId) (B : Int) (qr : Nat) (s1 : Int) (a1 : Int32) (w0 : va_W) : Int32 → va_W → Prop := fun r u => TW ksM ad cy B qr 13 u ∧ FE ksM [(77, 0, 10), (78, 0, 10)] w0 u ∧ ((True))
set_option maxHeartbeats 4000000 in
set_option maxRecDepth 100000 in
theorem k_X12_sumOf_1 (l : Launch) (adK adV : Nat → Nat) (dC : Nat → ClassId) (dI : Nat → Nat → Nat) (cy : Nat → ClassId) (ad : Nat → Nat) (B : Int) (hB0 : 100000 ≤ B) (hB1 : B ≤ 1073741824) (qr : Nat) (s1 : Int)  (a1 : Int32) (ra1 : 0 ≤ a1.toInt) (ta1 : a1.toInt ≤ 99999) (w0 : va_W) (sz : Nat) (hT : TW ksM ad cy B qr 13 w0)  : Met l yX12_sumOf wsX12_sumOf ({ frames := 6, cells := 0, slots := 0, locals := 133 }) (va_Pc [.ref (ad 0), .int a1] (wpreS adK adV dC dI cy sz w0)) (va_Qi (P_X12_sumOf_1 ad cy B qr s1 a1 w0) (fun u : va_W => wpost dC dI cy (va_A w0 sz) u) (va_A w0 sz)) 0 0 (va_A w0 sz) := by
  refine Met.ofW (cc := cX12_sumOf) (maxL := 5) (ret := (some .int)) (by decide) rfl ?_
  intro p e s m args below meth c s₁ Bk hml hv
  obtain ⟨rfl, ⟨hsz, hP, hK, hD0⟩, hE, hSR⟩ := hv
  have hx := Bk.exec
  have hb := Bk.bytes
  have hr := Bk.returns
  have hlocks := Bk.notSynchronized
  have hC : CallFix p m c cX12_sumOf 5 s _ wsX12_sumOf RX12 := ⟨hx, hb, hml, findClass_of_methodNamed Bk.named, atoms_spec (ws := wsX12_sumOf) Bk.pre⟩
  subst hsz
  have hD := hD0.self (sz := s.heap.size)
  generalize hAe : va_A w0 s.heap.size = A at hD hE ⊢
  have hA : ∀ q : Nat, s.heap.size ≤ q → A q := fun q h => by rw [← hAe]; exact Or.inr h
  have hw : Wd dC dI A s.heap s.heap [] w0 := ⟨hP, hD, va_S.rf⟩
  have hF : FE ksM [(77, 0, 10), (78, 0, 10)] w0 w0 := FE.rf
  have hl := lv_entry ([.ref (ad 0), .int a1]) (n := 5) (Nat.le_of_ble_eq_true rfl)
  rw [lg_entry_eq]
  generalize (lg_sl ([.ref (ad 0), .int a1]) ++ List.replicate (5 - (lg_sl ([.ref (ad 0), .int a1])).length) Slot.unset).toArray = ls at hl ⊢
  have hl : lv_has ls 5 [(0, .ref (ad 0)), (1, .int a1)] := hl
  generalize hloc : ([] : List Loc) = locs at hw ⊢
  have hinX12 : ∀ w ∈ u_ws RX12 TX12 42, w ∈ wsX12_sumOf := fun _ h => List.mem_cons_of_mem _ (List.mem_append_right _ (h))
  have L4 : ∀ (n4 : Nat) (v4_2 : Int32) (v4_3 : Int32) (H : Heap) (locs : List Loc) (ls : Array Slot) (w1 : va_W), 0 ≤ a1.toInt → a1.toInt ≤ 99999 → 0 ≤ v4_3.toInt → v4_3.toInt ≤ 6 → (6 - v4_3.toInt).toNat < n4 → Wd dC dI A s.heap H locs w1 → TW ksM ad cy B qr 13 w1 → FE ksM [(77, 0, 10), (78, 0, 10)] w0 w1 → lv_has ls 5 [(0, .ref (ad 0)), (1, .int a1), (2, .int v4_2), (3, .int v4_3)] → W p l e ({ frames := 6, cells := 0, slots := 0, locals := 133 }) s m (List.toArray [.ref (ad 0), .int a1]) below meth c H locs 0 0 (MQ below (va_Qi (P_X12_sumOf_1 ad cy B qr s1 a1 w0) (fun u : va_W => wpost dC dI cy A u) A) (List.toArray [.ref (ad 0), .int a1]) s 0 0 A) (F0 m 4 ls []) := by
    intro n4
    induction n4 with
    | zero => intro v4_2 v4_3 H locs ls w1 r2 t3 r4 t5 hm4 hw hT hF hl; omega
    | succ n4 ih4 =>
      intro v4_2 v4_3 H locs ls w1 r2 t3 r4 t5 hm4 hw hT hF hl
      refine lv_iload_n hx hb dX12_sumOf_4 rfl (lv_at hl 3 rfl) ?_
      refine lv_aload_n hx hb dX12_sumOf_5 rfl (lv_at hl 0 rfl) ?_
      refine tk_getA hC hK hw hT hinX12 kM_at0 (by decide) rfl 26 (by decide) (List.mem_of_getElem? (i := 1) rfl) rfl rfl dX12_sumOf_6 ?_
      refine lv_bipush (v := 6) hx hb dX12_sumOf_9 (by decide) ?_
      refine tk_ialdR hC hK hw hT kM_at12 rfl (by decide) (by decide) dX12_sumOf_11 (fun x6 c7 Ex6 => ?_)
      have bx6 := tk_rgI rfl 6 1 1 0 6 (by decide +kernel) ⟨0, by decide, by decide⟩ Ex6
      have c7 : gi w1 12 6 = x6 := c7
      refine lv_icmp_ge (tgt := 80) hx hb dX12_sumOf_12 (by decide) (fun c8 => ?_) (fun c8 => ?_)
      · have c8 : x6.toInt ≤ v4_3.toInt := wk_le.mp c8
        refine lv_iload_n hx hb dX12_sumOf_80 rfl (lv_at hl 2 rfl) ?_
        exact tk_iret hC hr hlocks hK ⟨hT, hF, trivial⟩ hw dX12_sumOf_81
      · have c8 : v4_3.toInt < x6.toInt := wk_leF c8
        refine lv_aload_n hx hb dX12_sumOf_15 rfl (lv_at hl 0 rfl) ?_
        refine lv_aload_n hx hb dX12_sumOf_16 rfl (lv_at hl 0 rfl) ?_
        refine tk_getA hC hK hw hT hinX12 kM_at0 (by decide) rfl 26 (by decide) (List.mem_of_getElem? (i := 1) rfl) rfl rfl dX12_sumOf_17 ?_
        refine lv_sipush (v := 252) hx hb dX12_sumOf_20 (by decide) ?_
        refine lv_iconst (v := 2) hx hb dX12_sumOf_23 (by decide) ?_
        refine lv_iload_n hx hb dX12_sumOf_24 rfl (lv_at hl 3 rfl) ?_
        refine lv_imul hx hb dX12_sumOf_25 ?_
        refine lv_topi (fun x9 ex9 => ?_)
        have ex9 : x9.toInt = (2 : Int) * v4_3.toInt := by rw [ex9]; exact wk_mul (show (-2147483648) ≤ (2 : Int) * v4_3.toInt by omega) (show (2 : Int) * v4_3.toInt ≤ 2147483647 by omega)
        refine lv_iadd hx hb dX12_sumOf_26 ?_
        refine lv_topi (fun x10 ex10 => ?_)
        have ex10 : x10.toInt = (252 : Int) + x9.toInt := by rw [ex10]; exact wk_add (show (-2147483648) ≤ (252 : Int) + x9.toInt by omega) (show (252 : Int) + x9.toInt ≤ 2147483647 by omega)
        refine tk_ialdR hC hK hw hT kM_at12 rfl (show 0 ≤ x10.toInt by omega) (show x10.toInt < 296 by omega) dX12_sumOf_27 (fun x11 c12 Ex11 => ?_)
        have c12 : gi w1 12 (2 * v4_3.toInt + 252).toNat = x11 := (congrArg (gi w1 12) (congrArg Int.toNat (show 2 * v4_3.toInt + 252 = x10.toInt by omega))).trans c12
        have bx11 := tk_rgI rfl 252 2 6 0 9 (by decide +kernel) ⟨(v4_3.toInt - 0).toNat, by omega, show x10.toInt.toNat = 252 + 2 * (v4_3.toInt - 0).toNat by omega⟩ Ex11
        refine lv_aload_n hx hb dX12_sumOf_28 rfl (lv_at hl 0 rfl) ?_
        refine tk_getA hC hK hw hT hinX12 kM_at0 (by decide) rfl 26 (by decide) (List.mem_of_getElem? (i := 1) rfl) rfl rfl dX12_sumOf_29 ?_
        refine lv_sipush (v := 252) hx hb dX12_sumOf_32 (by decide) ?_
        refine lv_iconst (v := 2) hx hb dX12_sumOf_35 (by decide) ?_
        refine lv_iload_n hx hb dX12_sumOf_36 rfl (lv_at hl 3 rfl) ?_
        refine lv_imul hx hb dX12_sumOf_37 ?_
        refine lv_topi (fun x13 ex13 => ?_)
        have ex13 : x13.toInt = (2 : Int) * v4_3.toInt := by rw [ex13]; exact wk_mul (show (-2147483648) ≤ (2 : Int) * v4_3.toInt by omega) (show (2 : Int) * v4_3.toInt ≤ 2147483647 by omega)
        refine lv_iadd hx hb dX12_sumOf_38 ?_
        refine lv_topi (fun x14 ex14 => ?_)
        have ex14 : x14.toInt = (252 : Int) + x13.toInt := by rw [ex14]; exact wk_add (show (-2147483648) ≤ (252 : Int) + x13.toInt by omega) (show (252 : Int) + x13.toInt ≤ 2147483647 by omega)
        refine lv_iconst (v := 1) hx hb dX12_sumOf_39 (by decide) ?_
        refine lv_iadd hx hb dX12_sumOf_40 ?_
        refine lv_topi (fun x15 ex15 => ?_)
        have ex15 : x15.toInt = x14.toInt + (1 : Int) := by rw [ex15]; exact wk_add (show (-2147483648) ≤ x14.toInt + (1 : Int) by omega) (show x14.toInt + (1 : Int) ≤ 2147483647 by omega)
        refine tk_ialdR hC hK hw hT kM_at12 rfl (show 0 ≤ x15.toInt by omega) (show x15.toInt < 296 by omega) dX12_sumOf_41 (fun x16 c17 Ex16 => ?_)
        have c17 : gi w1 12 (2 * v4_3.toInt + 253).toNat = x16 := (congrArg (gi w1 12) (congrArg Int.toNat (show 2 * v4_3.toInt + 253 = x15.toInt by omega))).trans c17
        have bx16 := tk_rgI rfl 253 2 6 0 9 (by decide +kernel) ⟨(v4_3.toInt - 0).toNat, by omega, show x15.toInt.toNat = 253 + 2 * (v4_3.toInt - 0).toNat by omega⟩ Ex16
        refine lv_iload_n hx hb dX12_sumOf_42 rfl (lv_at hl 1 rfl) ?_
        refine lv_iload_n hx hb dX12_sumOf_43 rfl (lv_at hl 1 rfl) ?_
        refine lv_sipush (v := 2000) hx hb dX12_sumOf_44 (by decide) ?_
        refine lv_iadd hx hb dX12_sumOf_47 ?_
        refine lv_topi (fun x18 ex18 => ?_)
        have ex18 : x18.toInt = a1.toInt + (2000 : Int) := by rw [ex18]; exact wk_add (show (-2147483648) ≤ a1.toInt + (2000 : Int) by omega) (show a1.toInt + (2000 : Int) ≤ 2147483647 by omega)
        refine tk_Vi hC hK hw hT hA hE hSR kM_at0 (by decide) rfl (k_X12_reaches_3 l adK adV dC dI cy ad B (by omega) (by omega) qr s1   x11 (show 0 ≤ x11.toInt by omega) (show x11.toInt ≤ 9 by omega) x16 (show 0 ≤ x16.toInt by omega) (show x16.toInt ≤ 9 by omega) a1 (show 0 ≤ a1.toInt by omega) (show a1.toInt ≤ 99999 by omega) x18 (show 2000 ≤ x18.toInt by omega) (show x18.toInt ≤ 101999 by omega) w1 H.size hT ) (cwV 4 hC.2.2.2.2 gX12_sumOf_X12_reaches rfl rfl rfl (by decide +kernel) ⟨Nat.le_of_ble_eq_true rfl, Nat.le_of_ble_eq_true rfl⟩) rfl hl.1 rfl (Nat.le_of_ble_eq_true rfl) dX12_sumOf_48 (fun r19 w21 H locs hp20 hw => ?_)
        obtain ⟨hT, k22, hg25⟩ := hp20
        have hF := hF.tr k22 (by decide)
        have c26 := k22.gi kM_at12 (by decide) c7
        have c27 := k22.gi kM_at12 rfl c12
        have c28 := k22.gi kM_at12 rfl c17
        obtain ⟨g23, g24⟩ := hg25
        refine lv_istore (lv' := [(4, .int r19), (0, .ref (ad 0)), (1, .int a1), (2, .int v4_2), (3, .int v4_3)]) hx hb dX12_sumOf_51 hl (by decide) rfl (fun ls hl => ?_)
        refine lv_iload_n hx hb dX12_sumOf_53 rfl (lv_at hl 3 rfl) ?_
        refine lv_iload hx hb dX12_sumOf_54 (lv_at hl 0 rfl) ?_
        refine lv_ldcw (v := 100000000) hx hb hC.2.2.2.1 (hC.2.2.2.2 _ (List.mem_of_getElem? (i := 2) rfl)) dX12_sumOf_56 ?_
        refine lv_icmp_ne (tgt := 68) hx hb dX12_sumOf_59 (by decide) (fun c29 => ?_) (fun c29 => ?_)
        · have c29 : ¬ r19.toInt = (100000000 : Int) := wk_eqF c29
          refine lv_iload hx hb dX12_sumOf_68 (lv_at hl 0 rfl) ?_
          refine lv_iload_n hx hb dX12_sumOf_70 rfl (lv_at hl 2 rfl) ?_
          refine lv_isub hx hb dX12_sumOf_71 ?_
          refine lv_topi (fun x30 ex30 => ?_)
          have ex30 : x30.toInt = r19.toInt - a1.toInt := by rw [ex30]; exact wk_sub (show (-2147483648) ≤ r19.toInt - a1.toInt by omega) (show r19.toInt - a1.toInt ≤ 2147483647 by omega)
          refine lv_iadd hx hb dX12_sumOf_72 ?_
          have nx31 := wk_i32 v4_2
          refine lv_topi (fun x32 ex32 => ?_)
          refine lv_istore_n (lv' := [(2, .int x32), (4, .int r19), (0, .ref (ad 0)), (1, .int a1), (3, .int v4_3)]) hx hb dX12_sumOf_73 rfl hl (by decide) rfl (fun ls hl => ?_)
          obtain ⟨x33, ex33⟩ : ∃ y : Int32, y = v4_3 + Int32.ofInt 1 := ⟨_, rfl⟩
          refine lv_iinc (v := x33) (lv' := [(3, .int x33), (2, .int x32), (4, .int r19), (0, .ref (ad 0)), (1, .int a1)]) hx hb dX12_sumOf_74 hl (k := 4) rfl ex33.symm (by decide) rfl (fun ls hl => ?_)
          have ex33 : x33.toInt = v4_3.toInt + 1 := by rw [ex33]; exact wk_add (y := 1) (show -2147483648 ≤ v4_3.toInt + 1 by omega) (show v4_3.toInt + 1 ≤ 2147483647 by omega)
          refine lv_goto (tgt := 4) hx hb dX12_sumOf_77 (by decide) ?_
          exact ih4 x32 x33 H locs ls w21 (show 0 ≤ a1.toInt by omega) (show a1.toInt ≤ 99999 by omega) (show 0 ≤ x33.toInt by omega) (show x33.toInt ≤ 6 by omega) (show (6 - x33.toInt).toNat < n4 by omega) hw hT hF  (lv_sub hl [3, 4, 1, 0] rfl)
        · have c29 : r19.toInt = (100000000 : Int) := wk_eq.mp c29
          refine lv_sipush (v := 2001) hx hb dX12_sumOf_62 (by decide) ?_
          refine lv_goto (tgt := 72) hx hb dX12_sumOf_65 (by decide) ?_
          refine lv_iadd hx hb dX12_sumOf_72 ?_
          have nx34 := wk_i32 v4_2
          refine lv_topi (fun x35 ex35 => ?_)
          refine lv_istore_n (lv' := [(2, .int x35), (4, .int r19), (0, .ref (ad 0)), (1, .int a1), (3, .int v4_3)]) hx hb dX12_sumOf_73 rfl hl (by decide) rfl (fun ls hl => ?_)
          obtain ⟨x36, ex36⟩ : ∃ y : Int32, y = v4_3 + Int32.ofInt 1 := ⟨_, rfl⟩
          refine lv_iinc (v := x36) (lv' := [(3, .int x36), (2, .int x35), (4, .int r19), (0, .ref (ad 0)), (1, .int a1)]) hx hb dX12_sumOf_74 hl (k := 4) rfl ex36.symm (by decide) rfl (fun ls hl => ?_)
          have ex36 : x36.toInt = v4_3.toInt + 1 := by rw [ex36]; exact wk_add (y := 1) (show -2147483648 ≤ v4_3.toInt + 1 by omega) (show v4_3.toInt + 1 ≤ 2147483647 by omega)
          refine lv_goto (tgt := 4) hx hb dX12_sumOf_77 (by decide) ?_
          exact ih4 x35 x36 H locs ls w21 (show 0 ≤ a1.toInt by omega) (show a1.toInt ≤ 99999 by omega) (show 0 ≤ x36.toInt by omega) (show x36.toInt ≤ 6 by omega) (show (6 - x36.toInt).toNat < n4 by omega) hw hT hF  (lv_sub hl [3, 4, 1, 0] rfl)
  refine lv_iconst (v := 0) hx hb dX12_sumOf_0 (by decide) ?_
  refine lv_istore_n (lv' := [(2, .int 0), (0, .ref (ad 0)), (1, .int a1)]) hx hb dX12_sumOf_1 rfl hl (by decide) rfl (fun ls hl => ?_)
  refine lv_iconst (v := 0) hx hb dX12_sumOf_2 (by decide) ?_
  refine lv_istore_n (lv' := [(3, .int 0), (2, .int 0), (0, .ref (ad 0)), (1, .int a1)]) hx hb dX12_sumOf_3 rfl hl (by decide) rfl (fun ls hl => ?_)
  exact L4 ((6 - (0 : Int)).toNat + 1) 0 0 s.heap locs ls w0 (show 0 ≤ a1.toInt by omega) (show a1.toInt ≤ 99999 by omega) (by decide) (by decide) (Nat.lt_succ_self _) hw hT hF  (lv_sub hl [2, 3, 1, 0] rfl)
abbrev P_X12_in_15 (ad : Nat → Nat) (cy : Nat → ClassId) (B : Int) (qr : Nat) (s1 : Int) (a0 : Int64) (w0 : va_W) : Int32 → va_W → Prop := fun r u => TW ksM ad cy B qr 12 u ∧ FE ksM ([] : List (Nat × Nat × Nat)) w0 u ∧ ((r = 0) ∨ (r = 1 ∧ 0 ≤ a0.toInt ∧ a0.toInt ≤ 2))
set_option maxHeartbeats 4000000 in
set_option maxRecDepth 100000 in
theorem k_X12_in_15 (l : Launch) (adK adV : Nat → Nat) (dC : Nat → ClassId) (dI : Nat → Nat → Nat) (cy : Nat → ClassId) (ad : Nat → Nat) (B : Int) (hB0 : 100000 ≤ B) (hB1 : B ≤ 1073741824) (qr : Nat) (s1 : Int)  (a0 : Int64) (ra0 : (-2147483648) ≤ a0.toInt) (ta0 : a0.toInt ≤ 2147483647) (w0 : va_W) (sz : Nat) (hT : TW ksM ad cy B qr 12 w0)  : Met l yX12_in wsX12_in ({ frames := 1, cells := 0, slots := 0, locals := 12 }) (va_Pc [.long a0, .long 0, .long 2] (wpreS adK adV dC dI cy sz w0)) (va_Qi (P_X12_in_15 ad cy B qr s1 a0 w0) (fun u : va_W => wpost dC dI cy (va_A w0 sz) u) (va_A w0 sz)) 0 0 (va_A w0 sz) := by
  refine Met.ofW (cc := cX12_in) (maxL := 6) (ret := (some .boolean)) (by decide) rfl ?_
  intro p e s m args below meth c s₁ Bk hml hv
  obtain ⟨rfl, ⟨hsz, hP, hK, hD0⟩, hE, hSR⟩ := hv
  have hx := Bk.exec
  have hb := Bk.bytes
  have hr := Bk.returns
  have hlocks := Bk.notSynchronized
  have hC : CallFix p m c cX12_in 6 s _ wsX12_in RX12 := ⟨hx, hb, hml, findClass_of_methodNamed Bk.named, atoms_spec (ws := wsX12_in) Bk.pre⟩
  subst hsz
  have hD := hD0.self (sz := s.heap.size)
  generalize hAe : va_A w0 s.heap.size = A at hD hE ⊢
  have hA : ∀ q : Nat, s.heap.size ≤ q → A q := fun q h => by rw [← hAe]; exact Or.inr h
  have hw : Wd dC dI A s.heap s.heap [] w0 := ⟨hP, hD, va_S.rf⟩
  have hF : FE ksM ([] : List (Nat × Nat × Nat)) w0 w0 := FE.rf
  have hl := lv_entry ([.long a0, .long 0, .long 2]) (n := 6) (Nat.le_of_ble_eq_true rfl)
  rw [lg_entry_eq]
  generalize (lg_sl ([.long a0, .long 0, .long 2]) ++ List.replicate (6 - (lg_sl ([.long a0, .long 0, .long 2])).length) Slot.unset).toArray = ls at hl ⊢
  have hl : lv_has ls 6 [(0, .long a0), (2, .long 0), (4, .long 2)] := hl
  generalize hloc : ([] : List Loc) = locs at hw ⊢
  have J17 : ∀ (H : Heap) (locs : List Loc) (ls : Array Slot) (w1 : va_W), (-2147483648) ≤ a0.toInt → a0.toInt ≤ 2147483647 → Wd dC dI A s.heap H locs w1 → TW ksM ad cy B qr 12 w1 → FE ksM ([] : List (Nat × Nat × Nat)) w0 w1 → lv_has ls 6 [(0, .long a0), (2, .long 0), (4, .long 2)] → W p l e ({ frames := 1, cells := 0, slots := 0, locals := 12 }) s m (List.toArray [.long a0, .long 0, .long 2]) below meth c H locs 0 0 (MQ below (va_Qi (P_X12_in_15 ad cy B qr s1 a0 w0) (fun u : va_W => wpost dC dI cy A u) A) (List.toArray [.long a0, .long 0, .long 2]) s 0 0 A) (F0 m 17 ls []) := by
    intro H locs ls w1 r2 t3 hw hT hF hl
    refine lv_iconst (v := 0) hx hb dX12_in_17 (by decide) ?_
    exact tk_zret hC hr rfl hlocks hK ⟨hT, hF, (Or.inl rfl)⟩ hw dX12_in_18
  refine lv_lload_n hx hb dX12_in_0 rfl (lv_at hl 0 rfl) ?_
  refine lv_lload_n hx hb dX12_in_1 rfl (lv_at hl 1 rfl) ?_
  refine W.lcmp hx hb dX12_in_2 ?_
  refine lv_if_lt (tgt := 17) hx hb dX12_in_3 (by decide) (fun c4 => ?_) (fun c4 => ?_)
  · have c4 : a0.toInt < (0 : Int) := wk_cltT c4
    exact J17  s.heap locs ls w0 (show (-2147483648) ≤ a0.toInt by omega) (show a0.toInt ≤ 2147483647 by omega)  hw hT hF  (lv_sub hl [0, 1, 2] rfl)
  · have c4 : (0 : Int) ≤ a0.toInt := wk_cltF c4
    refine lv_lload_n hx hb dX12_in_6 rfl (lv_at hl 0 rfl) ?_
    refine lv_lload hx hb dX12_in_7 (lv_at hl 2 rfl) ?_
    refine W.lcmp hx hb dX12_in_9 ?_
    refine lv_if_gt (tgt := 17) hx hb dX12_in_10 (by decide) (fun c5 => ?_) (fun c5 => ?_)
    · have c5 : (2 : Int) < a0.toInt := wk_cgtT c5
      exact J17  s.heap locs ls w0 (show (-2147483648) ≤ a0.toInt by omega) (show a0.toInt ≤ 2147483647 by omega)  hw hT hF  (lv_sub hl [0, 1, 2] rfl)
    · have c5 : a0.toInt ≤ (2 : Int) := wk_cgtF c5
      refine lv_iconst (v := 1) hx hb dX12_in_13 (by decide) ?_
      refine lv_goto (tgt := 18) hx hb dX12_in_14 (by decide) ?_
      exact tk_zret hC hr rfl hlocks hK ⟨hT, hF, (Or.inr ⟨rfl, (show 0 ≤ a0.toInt by omega), (show a0.toInt ≤ 2 by omega)⟩)⟩ hw dX12_in_18
abbrev P_X12_built_1 (ad : Nat → Nat) (cy : Nat → ClassId) (B : Int) (qr : Nat) (s1 : Int) (a1 : Int32) (a2 : Int32) (a3 : Int32) (w0 : va_W) : Int32 → va_W → Prop := fun r u => TW ksM ad cy B qr 12 u ∧ FE ksM [(71, 1, 1), (71, 10, 130), (71, 11, 131), (71, 12, 132), (71, 13, 139), (77, 0, 10), (78, 0, 10)] w0 u ∧ ((1 ≤ a1.toInt ∧ a1.toInt ≤ 9 ∧ 0 ≤ a2.toInt ∧ a2.toInt ≤ 99999 ∧ 0 ≤ a3.toInt ∧ a3.toInt ≤ 2 ∧ (∃ y : Int32, gi u 12 0 = y ∧ 1 ≤ y.toInt ∧ y.toInt ≤ 10)) ∨ (r = (-1)))
set_option maxHeartbeats 4000000 in
set_option maxRecDepth 100000 in
theorem k_X12_built_1 (l : Launch) (adK adV : Nat → Nat) (dC : Nat → ClassId) (dI : Nat → Nat → Nat) (cy : Nat → ClassId) (ad : Nat → Nat) (B : Int) (hB0 : 100000 ≤ B) (hB1 : B ≤ 1073741824) (qr : Nat) (s1 : Int)  (a1 : Int32) (a2 : Int32) (a3 : Int32) (w0 : va_W) (sz : Nat) (hT : TW ksM ad cy B qr 12 w0)  : Met l yX12_built wsX12_built ({ frames := 7, cells := 0, slots := 0, locals := 157 }) (va_Pc [.ref (ad 0), .int a1, .int a2, .int a3] (wpreS adK adV dC dI cy sz w0)) (va_Qi (P_X12_built_1 ad cy B qr s1 a1 a2 a3 w0) (fun u : va_W => wpost dC dI cy (va_A w0 sz) u) (va_A w0 sz)) 0 0 (va_A w0 sz) := by
  refine Met.ofW (cc := cX12_built) (maxL := 11) (ret := (some .int)) (by decide) rfl ?_
  intro p e s m args below meth c s₁ Bk hml hv
  obtain ⟨rfl, ⟨hsz, hP, hK, hD0⟩, hE, hSR⟩ := hv
  have hx := Bk.exec
  have hb := Bk.bytes
  have hr := Bk.returns
  have hlocks := Bk.notSynchronized
  have hC : CallFix p m c cX12_built 11 s _ wsX12_built RX12 := ⟨hx, hb, hml, findClass_of_methodNamed Bk.named, atoms_spec (ws := wsX12_built) Bk.pre⟩
  subst hsz
  have hD := hD0.self (sz := s.heap.size)
  generalize hAe : va_A w0 s.heap.size = A at hD hE ⊢
  have hA : ∀ q : Nat, s.heap.size ≤ q → A q := fun q h => by rw [← hAe]; exact Or.inr h
  have hw : Wd dC dI A s.heap s.heap [] w0 := ⟨hP, hD, va_S.rf⟩
  have hF : FE ksM [(71, 1, 1), (71, 10, 130), (71, 11, 131), (71, 12, 132), (71, 13, 139), (77, 0, 10), (78, 0, 10)] w0 w0 := FE.rf
  have hl := lv_entry ([.ref (ad 0), .int a1, .int a2, .int a3]) (n := 11) (Nat.le_of_ble_eq_true rfl)
  rw [lg_entry_eq]
  generalize (lg_sl ([.ref (ad 0), .int a1, .int a2, .int a3]) ++ List.replicate (11 - (lg_sl ([.ref (ad 0), .int a1, .int a2, .int a3])).length) Slot.unset).toArray = ls at hl ⊢
  have hl : lv_has ls 11 [(0, .ref (ad 0)), (1, .int a1), (2, .int a2), (3, .int a3)] := hl
  generalize hloc : ([] : List Loc) = locs at hw ⊢
  have hinX12 : ∀ w ∈ u_ws RX12 TX12 42, w ∈ wsX12_built := fun _ h => List.mem_cons_of_mem _ (List.mem_append_right _ (h))
  have J38 : ∀ (f38_12_0 : Int32) (H : Heap) (locs : List Loc) (ls : Array Slot) (w1 : va_W), 0 ≤ f38_12_0.toInt → f38_12_0.toInt ≤ 10 → Wd dC dI A s.heap H locs w1 → TW ksM ad cy B qr 12 w1 → FE ksM [(71, 1, 1), (71, 10, 130), (71, 11, 131), (71, 12, 132), (71, 13, 139), (77, 0, 10), (78, 0, 10)] w0 w1 → gi w1 12 0 = f38_12_0 → lv_has ls 11 [(0, .ref (ad 0)), (1, .int a1), (2, .int a2), (3, .int a3)] → W p l e ({ frames := 7, cells := 0, slots := 0, locals := 157 }) s m (List.toArray [.ref (ad 0), .int a1, .int a2, .int a3]) below meth c H locs 0 0 (MQ below (va_Qi (P_X12_built_1 ad cy B qr s1 a1 a2 a3 w0) (fun u : va_W => wpost dC dI cy A u) A) (List.toArray [.ref (ad 0), .int a1, .int a2, .int a3]) s 0 0 A) (F0 m 38 ls []) := by
    intro f38_12_0 H locs ls w1 r2 t3 hw hT hF c4 hl
    refine lv_iconst (v := (-1)) hx hb dX12_built_38 (by decide) ?_
    exact tk_iret hC hr hlocks hK ⟨hT, hF, (Or.inr rfl)⟩ hw dX12_built_39
  have L76 : ∀ (n76 : Nat) (v76_4 : Int32) (v76_5 : Int32) (v76_6 : Int32) (v76_7 : Int32) (v76_8 : Int32) (f76_12_0 : Int32) (f76_12_1 : Int32) (H : Heap) (locs : List Loc) (ls : Array Slot) (w5 : va_W), 1 ≤ a1.toInt → a1.toInt ≤ 9 → 0 ≤ a2.toInt → a2.toInt ≤ 99999 → 0 ≤ a3.toInt → a3.toInt ≤ 2 → 10 ≤ v76_4.toInt → v76_4.toInt ≤ 130 → (-1) ≤ v76_5.toInt → v76_5.toInt ≤ 9 → (-1) ≤ v76_6.toInt → v76_6.toInt ≤ 9 → 0 ≤ v76_8.toInt → v76_8.toInt ≤ 10 → 1 ≤ f76_12_0.toInt → f76_12_0.toInt ≤ 10 → 1 ≤ f76_12_1.toInt → f76_12_1.toInt ≤ 13 → (10 - v76_8.toInt).toNat < n76 → Wd dC dI A s.heap H locs w5 → TW ksM ad cy B qr 13 w5 → FE ksM [(71, 1, 1), (71, 10, 130), (71, 11, 131), (71, 12, 132), (71, 13, 139), (77, 0, 10), (78, 0, 10)] w0 w5 → gi w5 12 0 = f76_12_0 → gi w5 12 1 = f76_12_1 → lv_has ls 11 [(0, .ref (ad 0)), (1, .int a1), (2, .int a2), (3, .int a3), (4, .int v76_4), (5, .int v76_5), (6, .int v76_6), (7, .int v76_7), (8, .int v76_8)] → W p l e ({ frames := 7, cells := 0, slots := 0, locals := 157 }) s m (List.toArray [.ref (ad 0), .int a1, .int a2, .int a3]) below meth c H locs 0 0 (MQ below (va_Qi (P_X12_built_1 ad cy B qr s1 a1 a2 a3 w0) (fun u : va_W => wpost dC dI cy A u) A) (List.toArray [.ref (ad 0), .int a1, .int a2, .int a3]) s 0 0 A) (F0 m 76 ls []) := by
    intro n76
    induction n76 with
    | zero => intro v76_4 v76_5 v76_6 v76_7 v76_8 f76_12_0 f76_12_1 H locs ls w5 r6 t7 r8 t9 r10 t11 r12 t13 r14 t15 r16 t17 r18 t19 r20 t21 r23 t24 hm76 hw hT hF c22 c25 hl; omega
    | succ n76 ih76 =>
      intro v76_4 v76_5 v76_6 v76_7 v76_8 f76_12_0 f76_12_1 H locs ls w5 r6 t7 r8 t9 r10 t11 r12 t13 r14 t15 r16 t17 r18 t19 r20 t21 r23 t24 hm76 hw hT hF c22 c25 hl
      have L93 : ∀ (n93 : Nat) (v93_5 : Int32) (v93_6 : Int32) (v93_7 : Int32) (v93_9 : Int32) (H : Heap) (locs : List Loc) (ls : Array Slot) (w26 : va_W), 1 ≤ a1.toInt → a1.toInt ≤ 9 → 0 ≤ a2.toInt → a2.toInt ≤ 99999 → 0 ≤ a3.toInt → a3.toInt ≤ 2 → 10 ≤ v76_4.toInt → v76_4.toInt ≤ 130 → (-1) ≤ v93_5.toInt → v93_5.toInt ≤ 9 → (-1) ≤ v93_6.toInt → v93_6.toInt ≤ 9 → 0 ≤ v76_8.toInt → v76_8.toInt ≤ 9 → 1 ≤ v93_9.toInt → v93_9.toInt ≤ 10 → 1 ≤ f76_12_0.toInt → f76_12_0.toInt ≤ 10 → 1 ≤ f76_12_1.toInt → f76_12_1.toInt ≤ 13 → (10 - v93_9.toInt).toNat < n93 → Wd dC dI A s.heap H locs w26 → TW ksM ad cy B qr 13 w26 → FE ksM [(71, 1, 1), (71, 10, 130), (71, 11, 131), (71, 12, 132), (71, 13, 139), (77, 0, 10), (78, 0, 10)] w0 w26 → gi w26 12 0 = f76_12_0 → gi w26 12 1 = f76_12_1 → lv_has ls 11 [(0, .ref (ad 0)), (1, .int a1), (2, .int a2), (3, .int a3), (4, .int v76_4), (5, .int v93_5), (6, .int v93_6), (7, .int v93_7), (8, .int v76_8), (9, .int v93_9)] → W p l e ({ frames := 7, cells := 0, slots := 0, locals := 157 }) s m (List.toArray [.ref (ad 0), .int a1, .int a2, .int a3]) below meth c H locs 0 0 (MQ below (va_Qi (P_X12_built_1 ad cy B qr s1 a1 a2 a3 w0) (fun u : va_W => wpost dC dI cy A u) A) (List.toArray [.ref (ad 0), .int a1, .int a2, .int a3]) s 0 0 A) (F0 m 93 ls []) := by
        intro n93
        induction n93 with
        | zero => intro v93_5 v93_6 v93_7 v93_9 H locs ls w26 r27 t28 r29 t30 r31 t32 r33 t34 r35 t36 r37 t38 r39 t40 r41 t42 r43 t44 r46 t47 hm93 hw hT hF c45 c48 hl; omega
        | succ n93 ih93 =>
          intro v93_5 v93_6 v93_7 v93_9 H locs ls w26 r27 t28 r29 t30 r31 t32 r33 t34 r35 t36 r37 t38 r39 t40 r41 t42 r43 t44 r46 t47 hm93 hw hT hF c45 c48 hl
          have J197 : ∀ (v197_5 : Int32) (v197_6 : Int32) (v197_7 : Int32) (v197_10 : Int32) (H : Heap) (locs : List Loc) (ls : Array Slot) (w49 : va_W), 1 ≤ a1.toInt → a1.toInt ≤ 9 → 0 ≤ a2.toInt → a2.toInt ≤ 99999 → 0 ≤ a3.toInt → a3.toInt ≤ 2 → 10 ≤ v76_4.toInt → v76_4.toInt ≤ 130 → 0 ≤ v197_5.toInt → v197_5.toInt ≤ 9 → (-1) ≤ v197_6.toInt → v197_6.toInt ≤ 9 → 0 ≤ v76_8.toInt → v76_8.toInt ≤ 9 → 1 ≤ v93_9.toInt → v93_9.toInt ≤ 9 → 2 ≤ f76_12_0.toInt → f76_12_0.toInt ≤ 10 → 1 ≤ f76_12_1.toInt → f76_12_1.toInt ≤ 13 → Wd dC dI A s.heap H locs w49 → TW ksM ad cy B qr 13 w49 → FE ksM [(71, 1, 1), (71, 10, 130), (71, 11, 131), (71, 12, 132), (71, 13, 139), (77, 0, 10), (78, 0, 10)] w0 w49 → gi w49 12 0 = f76_12_0 → gi w49 12 1 = f76_12_1 → lv_has ls 11 [(0, .ref (ad 0)), (1, .int a1), (2, .int a2), (3, .int a3), (4, .int v76_4), (5, .int v197_5), (6, .int v197_6), (7, .int v197_7), (8, .int v76_8), (9, .int v93_9), (10, .int v197_10)] → W p l e ({ frames := 7, cells := 0, slots := 0, locals := 157 }) s m (List.toArray [.ref (ad 0), .int a1, .int a2, .int a3]) below meth c H locs 0 0 (MQ below (va_Qi (P_X12_built_1 ad cy B qr s1 a1 a2 a3 w0) (fun u : va_W => wpost dC dI cy A u) A) (List.toArray [.ref (ad 0), .int a1, .int a2, .int a3]) s 0 0 A) (F0 m 197 ls []) := by
            intro v197_5 v197_6 v197_7 v197_10 H locs ls w49 r50 t51 r52 t53 r54 t55 r56 t57 r58 t59 r60 t61 r62 t63 r64 t65 r66 t67 r69 t70 hw hT hF c68 c71 hl
            obtain ⟨x72, ex72⟩ : ∃ y : Int32, y = v93_9 + Int32.ofInt 1 := ⟨_, rfl⟩
            refine lv_iinc (v := x72) (lv' := [(9, .int x72), (0, .ref (ad 0)), (1, .int a1), (2, .int a2), (3, .int a3), (4, .int v76_4), (5, .int v197_5), (6, .int v197_6), (7, .int v197_7), (8, .int v76_8), (10, .int v197_10)]) hx hb dX12_built_197 hl (k := 9) rfl ex72.symm (by decide) rfl (fun ls hl => ?_)
            have ex72 : x72.toInt = v93_9.toInt + 1 := by rw [ex72]; exact wk_add (y := 1) (show -2147483648 ≤ v93_9.toInt + 1 by omega) (show v93_9.toInt + 1 ≤ 2147483647 by omega)
            refine lv_goto (tgt := 93) hx hb dX12_built_200 (by decide) ?_
            exact ih93 v197_5 v197_6 v197_7 x72 H locs ls w49 (show 1 ≤ a1.toInt by omega) (show a1.toInt ≤ 9 by omega) (show 0 ≤ a2.toInt by omega) (show a2.toInt ≤ 99999 by omega) (show 0 ≤ a3.toInt by omega) (show a3.toInt ≤ 2 by omega) (show 10 ≤ v76_4.toInt by omega) (show v76_4.toInt ≤ 130 by omega) (show (-1) ≤ v197_5.toInt by omega) (show v197_5.toInt ≤ 9 by omega) (show (-1) ≤ v197_6.toInt by omega) (show v197_6.toInt ≤ 9 by omega) (show 0 ≤ v76_8.toInt by omega) (show v76_8.toInt ≤ 9 by omega) (show 1 ≤ x72.toInt by omega) (show x72.toInt ≤ 10 by omega) (show 1 ≤ f76_12_0.toInt by omega) (show f76_12_0.toInt ≤ 10 by omega) (show 1 ≤ f76_12_1.toInt by omega) (show f76_12_1.toInt ≤ 13 by omega) (show (10 - x72.toInt).toNat < n93 by omega) hw hT hF c68 c71 (lv_sub hl [1, 2, 3, 4, 5, 6, 7, 8, 9, 0] rfl)
          have J185 : ∀ (v185_10 : Int32) (H : Heap) (locs : List Loc) (ls : Array Slot) (w73 : va_W), 1 ≤ a1.toInt → a1.toInt ≤ 9 → 0 ≤ a2.toInt → a2.toInt ≤ 99999 → 0 ≤ a3.toInt → a3.toInt ≤ 2 → 10 ≤ v76_4.toInt → v76_4.toInt ≤ 130 → (-1) ≤ v93_5.toInt → v93_5.toInt ≤ 9 → (-1) ≤ v93_6.toInt → v93_6.toInt ≤ 9 → 0 ≤ v76_8.toInt → v76_8.toInt ≤ 9 → 1 ≤ v93_9.toInt → v93_9.toInt ≤ 9 → 2 ≤ f76_12_0.toInt → f76_12_0.toInt ≤ 10 → 1 ≤ f76_12_1.toInt → f76_12_1.toInt ≤ 13 → Wd dC dI A s.heap H locs w73 → TW ksM ad cy B qr 13 w73 → FE ksM [(71, 1, 1), (71, 10, 130), (71, 11, 131), (71, 12, 132), (71, 13, 139), (77, 0, 10), (78, 0, 10)] w0 w73 → gi w73 12 0 = f76_12_0 → gi w73 12 1 = f76_12_1 → lv_has ls 11 [(0, .ref (ad 0)), (1, .int a1), (2, .int a2), (3, .int a3), (4, .int v76_4), (5, .int v93_5), (6, .int v93_6), (7, .int v93_7), (8, .int v76_8), (9, .int v93_9), (10, .int v185_10)] → W p l e ({ frames := 7, cells := 0, slots := 0, locals := 157 }) s m (List.toArray [.ref (ad 0), .int a1, .int a2, .int a3]) below meth c H locs 0 0 (MQ below (va_Qi (P_X12_built_1 ad cy B qr s1 a1 a2 a3 w0) (fun u : va_W => wpost dC dI cy A u) A) (List.toArray [.ref (ad 0), .int a1, .int a2, .int a3]) s 0 0 A) (F0 m 185 ls []) := by
            intro v185_10 H locs ls w73 r74 t75 r76 t77 r78 t79 r80 t81 r82 t83 r84 t85 r86 t87 r88 t89 r90 t91 r93 t94 hw hT hF c92 c95 hl
            refine lv_iload hx hb dX12_built_185 (lv_at hl 8 rfl) ?_
            refine lv_istore (lv' := [(5, .int v76_8), (0, .ref (ad 0)), (1, .int a1), (2, .int a2), (3, .int a3), (4, .int v76_4), (6, .int v93_6), (7, .int v93_7), (8, .int v76_8), (9, .int v93_9), (10, .int v185_10)]) hx hb dX12_built_187 hl (by decide) rfl (fun ls hl => ?_)
            refine lv_iload hx hb dX12_built_189 (lv_at hl 9 rfl) ?_
            refine lv_istore (lv' := [(6, .int v93_9), (5, .int v76_8), (0, .ref (ad 0)), (1, .int a1), (2, .int a2), (3, .int a3), (4, .int v76_4), (7, .int v93_7), (8, .int v76_8), (9, .int v93_9), (10, .int v185_10)]) hx hb dX12_built_191 hl (by decide) rfl (fun ls hl => ?_)
            refine lv_iload hx hb dX12_built_193 (lv_at hl 10 rfl) ?_
            refine lv_istore (lv' := [(7, .int v185_10), (6, .int v93_9), (5, .int v76_8), (0, .ref (ad 0)), (1, .int a1), (2, .int a2), (3, .int a3), (4, .int v76_4), (8, .int v76_8), (9, .int v93_9), (10, .int v185_10)]) hx hb dX12_built_195 hl (by decide) rfl (fun ls hl => ?_)
            exact J197 v76_8 v93_9 v185_10 v185_10 H locs ls w73 (show 1 ≤ a1.toInt by omega) (show a1.toInt ≤ 9 by omega) (show 0 ≤ a2.toInt by omega) (show a2.toInt ≤ 99999 by omega) (show 0 ≤ a3.toInt by omega) (show a3.toInt ≤ 2 by omega) (show 10 ≤ v76_4.toInt by omega) (show v76_4.toInt ≤ 130 by omega) (show 0 ≤ v76_8.toInt by omega) (show v76_8.toInt ≤ 9 by omega) (show (-1) ≤ v93_9.toInt by omega) (show v93_9.toInt ≤ 9 by omega) (show 0 ≤ v76_8.toInt by omega) (show v76_8.toInt ≤ 9 by omega) (show 1 ≤ v93_9.toInt by omega) (show v93_9.toInt ≤ 9 by omega) (show 2 ≤ f76_12_0.toInt by omega) (show f76_12_0.toInt ≤ 10 by omega) (show 1 ≤ f76_12_1.toInt by omega) (show f76_12_1.toInt ≤ 13 by omega)  hw hT hF c92 c95 (lv_sub hl [3, 4, 5, 6, 7, 2, 1, 0, 8, 9, 10] rfl)
          have L137 : ∀ (n137 : Nat) (v137_10 : Int32) (H : Heap) (locs : List Loc) (ls : Array Slot) (w96 : va_W), 1 ≤ a1.toInt → a1.toInt ≤ 9 → 0 ≤ a2.toInt → a2.toInt ≤ 99999 → 0 ≤ a3.toInt → a3.toInt ≤ 2 → 10 ≤ v76_4.toInt → v76_4.toInt ≤ 130 → (-1) ≤ v93_5.toInt → v93_5.toInt ≤ 9 → (-1) ≤ v93_6.toInt → v93_6.toInt ≤ 9 → 0 ≤ v76_8.toInt → v76_8.toInt ≤ 9 → 1 ≤ v93_9.toInt → v93_9.toInt ≤ 9 → 0 ≤ v137_10.toInt → v137_10.toInt ≤ 7 → 2 ≤ f76_12_0.toInt → f76_12_0.toInt ≤ 10 → 1 ≤ f76_12_1.toInt → f76_12_1.toInt ≤ 13 → (7 - v137_10.toInt).toNat < n137 → Wd dC dI A s.heap H locs w96 → TW ksM ad cy B qr 13 w96 → FE ksM [(71, 1, 1), (71, 10, 130), (71, 11, 131), (71, 12, 132), (71, 13, 139), (77, 0, 10), (78, 0, 10)] w0 w96 → gi w96 12 0 = f76_12_0 → gi w96 12 1 = f76_12_1 → lv_has ls 11 [(0, .ref (ad 0)), (1, .int a1), (2, .int a2), (3, .int a3), (4, .int v76_4), (5, .int v93_5), (6, .int v93_6), (7, .int v93_7), (8, .int v76_8), (9, .int v93_9), (10, .int v137_10)] → W p l e ({ frames := 7, cells := 0, slots := 0, locals := 157 }) s m (List.toArray [.ref (ad 0), .int a1, .int a2, .int a3]) below meth c H locs 0 0 (MQ below (va_Qi (P_X12_built_1 ad cy B qr s1 a1 a2 a3 w0) (fun u : va_W => wpost dC dI cy A u) A) (List.toArray [.ref (ad 0), .int a1, .int a2, .int a3]) s 0 0 A) (F0 m 137 ls []) := by
            intro n137
            induction n137 with
            | zero => intro v137_10 H locs ls w96 r97 t98 r99 t100 r101 t102 r103 t104 r105 t106 r107 t108 r109 t110 r111 t112 r113 t114 r115 t116 r118 t119 hm137 hw hT hF c117 c120 hl; omega
            | succ n137 ih137 =>
              intro v137_10 H locs ls w96 r97 t98 r99 t100 r101 t102 r103 t104 r105 t106 r107 t108 r109 t110 r111 t112 r113 t114 r115 t116 r118 t119 hm137 hw hT hF c117 c120 hl
              refine lv_iload hx hb dX12_built_137 (lv_at hl 10 rfl) ?_
              refine lv_bipush (v := 7) hx hb dX12_built_139 (by decide) ?_
              refine lv_icmp_ge (tgt := 163) hx hb dX12_built_141 (by decide) (fun c121 => ?_) (fun c121 => ?_)
              · have c121 : (7 : Int) ≤ v137_10.toInt := wk_le.mp c121
                refine lv_aload_n hx hb dX12_built_163 rfl (lv_at hl 0 rfl) ?_
                refine lv_iload_n hx hb dX12_built_164 rfl (lv_at hl 2 rfl) ?_
                refine tk_Vi hC hK hw hT hA hE hSR kM_at0 (by decide) rfl (k_X12_sumOf_1 l adK adV dC dI cy ad B (by omega) (by omega) qr s1   a2 (show 0 ≤ a2.toInt by omega) (show a2.toInt ≤ 99999 by omega) w96 H.size hT ) (cwV 1 hC.2.2.2.2 gX12_built_X12_sumOf rfl rfl rfl (by decide +kernel) ⟨Nat.le_of_ble_eq_true rfl, Nat.le_of_ble_eq_true rfl⟩) rfl hl.1 rfl (Nat.le_of_ble_eq_true rfl) dX12_built_165 (fun r122 w124 H locs hp123 hw => ?_)
                obtain ⟨hT, k125, hg126⟩ := hp123
                have hF := hF.tr k125 (by decide)
                have c127 := k125.gi kM_at12 (by decide) c117
                have c128 := k125.gi kM_at12 (by decide) c120
                clear hg126
                refine lv_istore (lv' := [(10, .int r122), (0, .ref (ad 0)), (1, .int a1), (2, .int a2), (3, .int a3), (4, .int v76_4), (5, .int v93_5), (6, .int v93_6), (7, .int v93_7), (8, .int v76_8), (9, .int v93_9)]) hx hb dX12_built_168 hl (by decide) rfl (fun ls hl => ?_)
                refine lv_iload hx hb dX12_built_170 (lv_at hl 6 rfl) ?_
                refine lv_if_lt (tgt := 185) hx hb dX12_built_172 (by decide) (fun c129 => ?_) (fun c129 => ?_)
                · have c129 : v93_5.toInt < (0 : Int) := wk_lt.mp c129
                  exact J185 r122 H locs ls w124 (show 1 ≤ a1.toInt by omega) (show a1.toInt ≤ 9 by omega) (show 0 ≤ a2.toInt by omega) (show a2.toInt ≤ 99999 by omega) (show 0 ≤ a3.toInt by omega) (show a3.toInt ≤ 2 by omega) (show 10 ≤ v76_4.toInt by omega) (show v76_4.toInt ≤ 130 by omega) (show (-1) ≤ v93_5.toInt by omega) (show v93_5.toInt ≤ 9 by omega) (show (-1) ≤ v93_6.toInt by omega) (show v93_6.toInt ≤ 9 by omega) (show 0 ≤ v76_8.toInt by omega) (show v76_8.toInt ≤ 9 by omega) (show 1 ≤ v93_9.toInt by omega) (show v93_9.toInt ≤ 9 by omega) (show 2 ≤ f76_12_0.toInt by omega) (show f76_12_0.toInt ≤ 10 by omega) (show 1 ≤ f76_12_1.toInt by omega) (show f76_12_1.toInt ≤ 13 by omega)  hw hT hF c127 c128 (lv_sub hl [1, 2, 3, 4, 5, 6, 7, 8, 9, 10, 0] rfl)
                · have c129 : (0 : Int) ≤ v93_5.toInt := wk_ltF c129
                  refine lv_iload hx hb dX12_built_175 (lv_at hl 0 rfl) ?_
                  refine lv_iload hx hb dX12_built_177 (lv_at hl 8 rfl) ?_
                  refine lv_icmp_lt (tgt := 185) hx hb dX12_built_179 (by decide) (fun c130 => ?_) (fun c130 => ?_)
                  · have c130 : r122.toInt < v93_7.toInt := wk_lt.mp c130
                    exact J185 r122 H locs ls w124 (show 1 ≤ a1.toInt by omega) (show a1.toInt ≤ 9 by omega) (show 0 ≤ a2.toInt by omega) (show a2.toInt ≤ 99999 by omega) (show 0 ≤ a3.toInt by omega) (show a3.toInt ≤ 2 by omega) (show 10 ≤ v76_4.toInt by omega) (show v76_4.toInt ≤ 130 by omega) (show (-1) ≤ v93_5.toInt by omega) (show v93_5.toInt ≤ 9 by omega) (show (-1) ≤ v93_6.toInt by omega) (show v93_6.toInt ≤ 9 by omega) (show 0 ≤ v76_8.toInt by omega) (show v76_8.toInt ≤ 9 by omega) (show 1 ≤ v93_9.toInt by omega) (show v93_9.toInt ≤ 9 by omega) (show 2 ≤ f76_12_0.toInt by omega) (show f76_12_0.toInt ≤ 10 by omega) (show 1 ≤ f76_12_1.toInt by omega) (show f76_12_1.toInt ≤ 13 by omega)  hw hT hF c127 c128 (lv_sub hl [1, 2, 3, 4, 5, 6, 7, 8, 9, 10, 0] rfl)
                  · have c130 : v93_7.toInt ≤ r122.toInt := wk_ltF c130
                    refine lv_goto (tgt := 197) hx hb dX12_built_182 (by decide) ?_
                    exact J197 v93_5 v93_6 v93_7 r122 H locs ls w124 (show 1 ≤ a1.toInt by omega) (show a1.toInt ≤ 9 by omega) (show 0 ≤ a2.toInt by omega) (show a2.toInt ≤ 99999 by omega) (show 0 ≤ a3.toInt by omega) (show a3.toInt ≤ 2 by omega) (show 10 ≤ v76_4.toInt by omega) (show v76_4.toInt ≤ 130 by omega) (show 0 ≤ v93_5.toInt by omega) (show v93_5.toInt ≤ 9 by omega) (show (-1) ≤ v93_6.toInt by omega) (show v93_6.toInt ≤ 9 by omega) (show 0 ≤ v76_8.toInt by omega) (show v76_8.toInt ≤ 9 by omega) (show 1 ≤ v93_9.toInt by omega) (show v93_9.toInt ≤ 9 by omega) (show 2 ≤ f76_12_0.toInt by omega) (show f76_12_0.toInt ≤ 10 by omega) (show 1 ≤ f76_12_1.toInt by omega) (show f76_12_1.toInt ≤ 13 by omega)  hw hT hF c127 c128 (lv_sub hl [1, 2, 3, 4, 5, 6, 7, 8, 9, 10, 0] rfl)
              · have c121 : v137_10.toInt < (7 : Int) := wk_leF c121
                refine lv_aload_n hx hb dX12_built_144 rfl (lv_at hl 0 rfl) ?_
                refine tk_getA hC hK hw hT hinX12 kM_at0 (by decide) rfl 26 (by decide) (List.mem_of_getElem? (i := 3) rfl) rfl rfl dX12_built_145 ?_
                refine lv_iload hx hb dX12_built_148 (lv_at hl 4 rfl) ?_
                refine lv_iconst (v := 3) hx hb dX12_built_150 (by decide) ?_
                refine lv_iadd hx hb dX12_built_151 ?_
                refine lv_topi (fun x131 ex131 => ?_)
                have ex131 : x131.toInt = v76_4.toInt + (3 : Int) := by rw [ex131]; exact wk_add (show (-2147483648) ≤ v76_4.toInt + (3 : Int) by omega) (show v76_4.toInt + (3 : Int) ≤ 2147483647 by omega)
                refine lv_iload hx hb dX12_built_152 (lv_at hl 10 rfl) ?_
                refine lv_iadd hx hb dX12_built_154 ?_
                refine lv_topi (fun x132 ex132 => ?_)
                have ex132 : x132.toInt = x131.toInt + v137_10.toInt := by rw [ex132]; exact wk_add (show (-2147483648) ≤ x131.toInt + v137_10.toInt by omega) (show x131.toInt + v137_10.toInt ≤ 2147483647 by omega)
                refine lv_iconst (v := 3) hx hb dX12_built_155 (by decide) ?_
                refine tk_iastR hC hK hw hT kM_at12 (by decide) rfl (show 0 ≤ x132.toInt by omega) (show x132.toInt < 296 by omega) (tk_rgS rfl 13 1 127 3 3 (by decide +kernel) ⟨(x132.toInt - 13).toNat, by omega, show x132.toInt.toNat = 13 + 1 * (x132.toInt - 13).toNat by omega⟩ (by decide) (by decide)) dX12_built_156 (fun H locs w133 hw hT k135 c134 => ?_)
                have hF := hF.put kM_at12 (inE_of (a := 13) (b := 139) (by decide) (show 13 ≤ x132.toInt.toNat by omega) (show x132.toInt.toNat ≤ 139 by omega)) k135
                have c136 := k135.gi (Or.inr (show 0 ≠ x132.toInt.toNat by omega)) c117
                have c137 := k135.gi (Or.inr (show 1 ≠ x132.toInt.toNat by omega)) c120
                obtain ⟨x138, ex138⟩ : ∃ y : Int32, y = v137_10 + Int32.ofInt 1 := ⟨_, rfl⟩
                refine lv_iinc (v := x138) (lv' := [(10, .int x138), (0, .ref (ad 0)), (1, .int a1), (2, .int a2), (3, .int a3), (4, .int v76_4), (5, .int v93_5), (6, .int v93_6), (7, .int v93_7), (8, .int v76_8), (9, .int v93_9)]) hx hb dX12_built_157 hl (k := 10) rfl ex138.symm (by decide) rfl (fun ls hl => ?_)
                have ex138 : x138.toInt = v137_10.toInt + 1 := by rw [ex138]; exact wk_add (y := 1) (show -2147483648 ≤ v137_10.toInt + 1 by omega) (show v137_10.toInt + 1 ≤ 2147483647 by omega)
                refine lv_goto (tgt := 137) hx hb dX12_built_160 (by decide) ?_
                exact ih137 x138 H locs ls w133 (show 1 ≤ a1.toInt by omega) (show a1.toInt ≤ 9 by omega) (show 0 ≤ a2.toInt by omega) (show a2.toInt ≤ 99999 by omega) (show 0 ≤ a3.toInt by omega) (show a3.toInt ≤ 2 by omega) (show 10 ≤ v76_4.toInt by omega) (show v76_4.toInt ≤ 130 by omega) (show (-1) ≤ v93_5.toInt by omega) (show v93_5.toInt ≤ 9 by omega) (show (-1) ≤ v93_6.toInt by omega) (show v93_6.toInt ≤ 9 by omega) (show 0 ≤ v76_8.toInt by omega) (show v76_8.toInt ≤ 9 by omega) (show 1 ≤ v93_9.toInt by omega) (show v93_9.toInt ≤ 9 by omega) (show 0 ≤ x138.toInt by omega) (show x138.toInt ≤ 7 by omega) (show 2 ≤ f76_12_0.toInt by omega) (show f76_12_0.toInt ≤ 10 by omega) (show 1 ≤ f76_12_1.toInt by omega) (show f76_12_1.toInt ≤ 13 by omega) (show (7 - x138.toInt).toNat < n137 by omega) hw hT hF c136 c137 (lv_sub hl [1, 2, 3, 4, 5, 6, 7, 8, 9, 10, 0] rfl)
          refine lv_iload hx hb dX12_built_93 (lv_at hl 9 rfl) ?_
          refine lv_aload_n hx hb dX12_built_95 rfl (lv_at hl 0 rfl) ?_
          refine tk_getA hC hK hw hT hinX12 kM_at0 (by decide) rfl 26 (by decide) (List.mem_of_getElem? (i := 3) rfl) rfl rfl dX12_built_96 ?_
          refine lv_iconst (v := 0) hx hb dX12_built_99 (by decide) ?_
          refine tk_ialdR hC hK hw hT kM_at12 rfl (by decide) (by decide) dX12_built_100 (fun x139 c140 Ex139 => ?_)
          refine wk_top f76_12_0 (c140.symm.trans c45) ?_
          refine lv_icmp_ge (tgt := 203) hx hb dX12_built_101 (by decide) (fun c141 => ?_) (fun c141 => ?_)
          · have c141 : f76_12_0.toInt ≤ v93_9.toInt := wk_le.mp c141
            obtain ⟨x142, ex142⟩ : ∃ y : Int32, y = v76_8 + Int32.ofInt 1 := ⟨_, rfl⟩
            refine lv_iinc (v := x142) (lv' := [(8, .int x142), (0, .ref (ad 0)), (1, .int a1), (2, .int a2), (3, .int a3), (4, .int v76_4), (5, .int v93_5), (6, .int v93_6), (7, .int v93_7), (9, .int v93_9)]) hx hb dX12_built_203 hl (k := 8) rfl ex142.symm (by decide) rfl (fun ls hl => ?_)
            have ex142 : x142.toInt = v76_8.toInt + 1 := by rw [ex142]; exact wk_add (y := 1) (show -2147483648 ≤ v76_8.toInt + 1 by omega) (show v76_8.toInt + 1 ≤ 2147483647 by omega)
            refine lv_goto (tgt := 76) hx hb dX12_built_206 (by decide) ?_
            exact ih76 v76_4 v93_5 v93_6 v93_7 x142 f76_12_0 f76_12_1 H locs ls w26 (show 1 ≤ a1.toInt by omega) (show a1.toInt ≤ 9 by omega) (show 0 ≤ a2.toInt by omega) (show a2.toInt ≤ 99999 by omega) (show 0 ≤ a3.toInt by omega) (show a3.toInt ≤ 2 by omega) (show 10 ≤ v76_4.toInt by omega) (show v76_4.toInt ≤ 130 by omega) (show (-1) ≤ v93_5.toInt by omega) (show v93_5.toInt ≤ 9 by omega) (show (-1) ≤ v93_6.toInt by omega) (show v93_6.toInt ≤ 9 by omega) (show 0 ≤ x142.toInt by omega) (show x142.toInt ≤ 10 by omega) (show 1 ≤ f76_12_0.toInt by omega) (show f76_12_0.toInt ≤ 10 by omega) (show 1 ≤ f76_12_1.toInt by omega) (show f76_12_1.toInt ≤ 13 by omega) (show (10 - x142.toInt).toNat < n76 by omega) hw hT hF c45 c48 (lv_sub hl [1, 2, 3, 4, 5, 6, 7, 8, 0] rfl)
          · have c141 : v93_9.toInt < f76_12_0.toInt := wk_leF c141
            refine lv_aload_n hx hb dX12_built_104 rfl (lv_at hl 0 rfl) ?_
            refine tk_getA hC hK hw hT hinX12 kM_at0 (by decide) rfl 26 (by decide) (List.mem_of_getElem? (i := 3) rfl) rfl rfl dX12_built_105 ?_
            refine lv_iload hx hb dX12_built_108 (lv_at hl 4 rfl) ?_
            refine lv_iload hx hb dX12_built_110 (lv_at hl 8 rfl) ?_
            refine tk_iastR hC hK hw hT kM_at12 (by decide) rfl (show 0 ≤ v76_4.toInt by omega) (show v76_4.toInt < 296 by omega) (tk_rgS rfl 10 1 121 0 9 (by decide +kernel) ⟨(v76_4.toInt - 10).toNat, by omega, show v76_4.toInt.toNat = 10 + 1 * (v76_4.toInt - 10).toNat by omega⟩ (show 0 ≤ v76_8.toInt by omega) (show v76_8.toInt ≤ 9 by omega)) dX12_built_112 (fun H locs w143 hw hT k145 c144 => ?_)
            have hF := hF.put kM_at12 (inE_of (a := 10) (b := 130) (by decide) (show 10 ≤ v76_4.toInt.toNat by omega) (show v76_4.toInt.toNat ≤ 130 by omega)) k145
            have c146 := k145.gi (Or.inr (show 0 ≠ v76_4.toInt.toNat by omega)) c45
            have c147 := k145.gi (Or.inr (show 1 ≠ v76_4.toInt.toNat by omega)) c48
            refine lv_aload_n hx hb dX12_built_113 rfl (lv_at hl 0 rfl) ?_
            refine tk_getA hC hK hw hT hinX12 kM_at0 (by decide) rfl 26 (by decide) (List.mem_of_getElem? (i := 3) rfl) rfl rfl dX12_built_114 ?_
            refine lv_iload hx hb dX12_built_117 (lv_at hl 4 rfl) ?_
            refine lv_iconst (v := 1) hx hb dX12_built_119 (by decide) ?_
            refine lv_iadd hx hb dX12_built_120 ?_
            refine lv_topi (fun x148 ex148 => ?_)
            have ex148 : x148.toInt = v76_4.toInt + (1 : Int) := by rw [ex148]; exact wk_add (show (-2147483648) ≤ v76_4.toInt + (1 : Int) by omega) (show v76_4.toInt + (1 : Int) ≤ 2147483647 by omega)
            refine lv_iload hx hb dX12_built_121 (lv_at hl 9 rfl) ?_
            refine tk_iastR hC hK hw hT kM_at12 (by decide) rfl (show 0 ≤ x148.toInt by omega) (show x148.toInt < 296 by omega) (tk_rgS rfl 11 1 121 1 9 (by decide +kernel) ⟨(v76_4.toInt - 10).toNat, by omega, show x148.toInt.toNat = 11 + 1 * (v76_4.toInt - 10).toNat by omega⟩ (show 1 ≤ v93_9.toInt by omega) (show v93_9.toInt ≤ 9 by omega)) dX12_built_123 (fun H locs w149 hw hT k151 c150 => ?_)
            have hF := hF.put kM_at12 (inE_of (a := 11) (b := 131) (by decide) (show 11 ≤ x148.toInt.toNat by omega) (show x148.toInt.toNat ≤ 131 by omega)) k151
            have c152 := k151.gi (Or.inr (show 0 ≠ x148.toInt.toNat by omega)) c146
            have c153 := k151.gi (Or.inr (show 1 ≠ x148.toInt.toNat by omega)) c147
            refine lv_aload_n hx hb dX12_built_124 rfl (lv_at hl 0 rfl) ?_
            refine tk_getA hC hK hw hT hinX12 kM_at0 (by decide) rfl 26 (by decide) (List.mem_of_getElem? (i := 3) rfl) rfl rfl dX12_built_125 ?_
            refine lv_iload hx hb dX12_built_128 (lv_at hl 4 rfl) ?_
            refine lv_iconst (v := 2) hx hb dX12_built_130 (by decide) ?_
            refine lv_iadd hx hb dX12_built_131 ?_
            refine lv_topi (fun x154 ex154 => ?_)
            have ex154 : x154.toInt = v76_4.toInt + (2 : Int) := by rw [ex154]; exact wk_add (show (-2147483648) ≤ v76_4.toInt + (2 : Int) by omega) (show v76_4.toInt + (2 : Int) ≤ 2147483647 by omega)
            refine lv_iload_n hx hb dX12_built_132 rfl (lv_at hl 1 rfl) ?_
            refine tk_iastR hC hK hw hT kM_at12 (by decide) rfl (show 0 ≤ x154.toInt by omega) (show x154.toInt < 296 by omega) (tk_rgS rfl 12 1 121 1 9 (by decide +kernel) ⟨(v76_4.toInt - 10).toNat, by omega, show x154.toInt.toNat = 12 + 1 * (v76_4.toInt - 10).toNat by omega⟩ (show 1 ≤ a1.toInt by omega) (show a1.toInt ≤ 9 by omega)) dX12_built_133 (fun H locs w155 hw hT k157 c156 => ?_)
            have hF := hF.put kM_at12 (inE_of (a := 12) (b := 132) (by decide) (show 12 ≤ x154.toInt.toNat by omega) (show x154.toInt.toNat ≤ 132 by omega)) k157
            have c158 := k157.gi (Or.inr (show 0 ≠ x154.toInt.toNat by omega)) c152
            have c159 := k157.gi (Or.inr (show 1 ≠ x154.toInt.toNat by omega)) c153
            refine lv_iconst (v := 0) hx hb dX12_built_134 (by decide) ?_
            refine lv_istore (lv' := [(10, .int 0), (0, .ref (ad 0)), (1, .int a1), (2, .int a2), (3, .int a3), (4, .int v76_4), (5, .int v93_5), (6, .int v93_6), (7, .int v93_7), (8, .int v76_8), (9, .int v93_9)]) hx hb dX12_built_135 hl (by decide) rfl (fun ls hl => ?_)
            exact L137 ((7 - (0 : Int)).toNat + 1) 0 H locs ls w155 (show 1 ≤ a1.toInt by omega) (show a1.toInt ≤ 9 by omega) (show 0 ≤ a2.toInt by omega) (show a2.toInt ≤ 99999 by omega) (show 0 ≤ a3.toInt by omega) (show a3.toInt ≤ 2 by omega) (show 10 ≤ v76_4.toInt by omega) (show v76_4.toInt ≤ 130 by omega) (show (-1) ≤ v93_5.toInt by omega) (show v93_5.toInt ≤ 9 by omega) (show (-1) ≤ v93_6.toInt by omega) (show v93_6.toInt ≤ 9 by omega) (show 0 ≤ v76_8.toInt by omega) (show v76_8.toInt ≤ 9 by omega) (show 1 ≤ v93_9.toInt by omega) (show v93_9.toInt ≤ 9 by omega) (by decide) (by decide) (show 2 ≤ f76_12_0.toInt by omega) (show f76_12_0.toInt ≤ 10 by omega) (show 1 ≤ f76_12_1.toInt by omega) (show f76_12_1.toInt ≤ 13 by omega) (Nat.lt_succ_self _) hw hT hF c158 c159 (lv_sub hl [1, 2, 3, 4, 5, 6, 7, 8, 9, 10, 0] rfl)
      refine lv_iload hx hb dX12_built_76 (lv_at hl 8 rfl) ?_
      refine lv_aload_n hx hb dX12_built_78 rfl (lv_at hl 0 rfl) ?_
      refine tk_getA hC hK hw hT hinX12 kM_at0 (by decide) rfl 26 (by decide) (List.mem_of_getElem? (i := 3) rfl) rfl rfl dX12_built_79 ?_
      refine lv_iconst (v := 0) hx hb dX12_built_82 (by decide) ?_
      refine tk_ialdR hC hK hw hT kM_at12 rfl (by decide) (by decide) dX12_built_83 (fun x160 c161 Ex160 => ?_)
      refine wk_top f76_12_0 (c161.symm.trans c22) ?_
      refine lv_icmp_ge (tgt := 209) hx hb dX12_built_84 (by decide) (fun c162 => ?_) (fun c162 => ?_)
      · have c162 : f76_12_0.toInt ≤ v76_8.toInt := wk_le.mp c162
        refine lv_aload_n hx hb dX12_built_209 rfl (lv_at hl 0 rfl) ?_
        refine tk_getA hC hK hw hT hinX12 kM_at0 (by decide) rfl 26 (by decide) (List.mem_of_getElem? (i := 3) rfl) rfl rfl dX12_built_210 ?_
        refine lv_iconst (v := 1) hx hb dX12_built_213 (by decide) ?_
        refine lv_dup2_11 hx hb dX12_built_214 rfl rfl ?_
        refine tk_ialdR hC hK hw hT kM_at12 rfl (by decide) (by decide) dX12_built_215 (fun x163 c164 Ex163 => ?_)
        refine wk_top f76_12_1 (c164.symm.trans c25) ?_
        refine lv_iconst (v := 1) hx hb dX12_built_216 (by decide) ?_
        refine lv_isub hx hb dX12_built_217 ?_
        refine lv_topi (fun x165 ex165 => ?_)
        have ex165 : x165.toInt = f76_12_1.toInt - (1 : Int) := by rw [ex165]; exact wk_sub (show (-2147483648) ≤ f76_12_1.toInt - (1 : Int) by omega) (show f76_12_1.toInt - (1 : Int) ≤ 2147483647 by omega)
        refine tk_iastR hC hK hw hT kM_at12 (by decide) rfl (by decide) (by decide) ((tk_rg1 rfl).mpr ⟨(show 0 ≤ x165.toInt by omega), (show x165.toInt ≤ if (71 : Nat) = 71 then (13 : Int) else 12 from (show x165.toInt ≤ 13 by omega))⟩) dX12_built_218 (fun H locs w166 hw hT k168 c167 => ?_)
        have hT := hT.s1d (show (gi w166 12 1).toInt ≤ 12 by rw [show gi w166 12 1 = x165 from c167]; omega)
        have hF := hF.put kM_at12 (inE_of (a := 1) (b := 1) (by decide) (by decide) (by decide)) k168
        have c169 := k168.gi (Or.inr (by decide)) c22
        have c167 : gi w166 12 1 = x165 := c167
        refine lv_iload_n hx hb dX12_built_219 rfl (lv_at hl 3 rfl) ?_
        refine lv_if_ne (tgt := 228) hx hb dX12_built_220 (by decide) (fun c170 => ?_) (fun c170 => ?_)
        · have c170 : ¬ a3.toInt = (0 : Int) := wk_eqF c170
          refine lv_iload_n hx hb dX12_built_228 rfl (lv_at hl 3 rfl) ?_
          refine lv_iconst (v := 1) hx hb dX12_built_229 (by decide) ?_
          refine lv_icmp_ne (tgt := 238) hx hb dX12_built_230 (by decide) (fun c171 => ?_) (fun c171 => ?_)
          · have c171 : ¬ a3.toInt = (1 : Int) := wk_eqF c171
            refine lv_iload hx hb dX12_built_238 (lv_at hl 7 rfl) ?_
            exact tk_iret hC hr hlocks hK ⟨hT, hF, (Or.inl ⟨(show 1 ≤ a1.toInt by omega), (show a1.toInt ≤ 9 by omega), (show 0 ≤ a2.toInt by omega), (show a2.toInt ≤ 99999 by omega), (show 0 ≤ a3.toInt by omega), (show a3.toInt ≤ 2 by omega), ⟨f76_12_0, c169, (show 1 ≤ f76_12_0.toInt by omega), (show f76_12_0.toInt ≤ 10 by omega)⟩⟩)⟩ hw dX12_built_240
          · have c171 : a3.toInt = (1 : Int) := wk_eq.mp c171
            refine lv_iload hx hb dX12_built_233 (lv_at hl 6 rfl) ?_
            refine lv_goto (tgt := 240) hx hb dX12_built_235 (by decide) ?_
            exact tk_iret hC hr hlocks hK ⟨hT, hF, (Or.inl ⟨(show 1 ≤ a1.toInt by omega), (show a1.toInt ≤ 9 by omega), (show 0 ≤ a2.toInt by omega), (show a2.toInt ≤ 99999 by omega), (show 0 ≤ a3.toInt by omega), (show a3.toInt ≤ 2 by omega), ⟨f76_12_0, c169, (show 1 ≤ f76_12_0.toInt by omega), (show f76_12_0.toInt ≤ 10 by omega)⟩⟩)⟩ hw dX12_built_240
        · have c170 : a3.toInt = (0 : Int) := wk_eq.mp c170
          refine lv_iload hx hb dX12_built_223 (lv_at hl 5 rfl) ?_
          refine lv_goto (tgt := 240) hx hb dX12_built_225 (by decide) ?_
          exact tk_iret hC hr hlocks hK ⟨hT, hF, (Or.inl ⟨(show 1 ≤ a1.toInt by omega), (show a1.toInt ≤ 9 by omega), (show 0 ≤ a2.toInt by omega), (show a2.toInt ≤ 99999 by omega), (show 0 ≤ a3.toInt by omega), (show a3.toInt ≤ 2 by omega), ⟨f76_12_0, c169, (show 1 ≤ f76_12_0.toInt by omega), (show f76_12_0.toInt ≤ 10 by omega)⟩⟩)⟩ hw dX12_built_240
      · have c162 : v76_8.toInt < f76_12_0.toInt := wk_leF c162
        refine lv_iload hx hb dX12_built_87 (lv_at hl 8 rfl) ?_
        refine lv_iconst (v := 1) hx hb dX12_built_89 (by decide) ?_
        refine lv_iadd hx hb dX12_built_90 ?_
        refine lv_topi (fun x172 ex172 => ?_)
        have ex172 : x172.toInt = v76_8.toInt + (1 : Int) := by rw [ex172]; exact wk_add (show (-2147483648) ≤ v76_8.toInt + (1 : Int) by omega) (show v76_8.toInt + (1 : Int) ≤ 2147483647 by omega)
        refine lv_istore (lv' := [(9, .int x172), (0, .ref (ad 0)), (1, .int a1), (2, .int a2), (3, .int a3), (4, .int v76_4), (5, .int v76_5), (6, .int v76_6), (7, .int v76_7), (8, .int v76_8)]) hx hb dX12_built_91 hl (by decide) rfl (fun ls hl => ?_)
        exact L93 ((10 - x172.toInt).toNat + 1) v76_5 v76_6 v76_7 x172 H locs ls w5 (show 1 ≤ a1.toInt by omega) (show a1.toInt ≤ 9 by omega) (show 0 ≤ a2.toInt by omega) (show a2.toInt ≤ 99999 by omega) (show 0 ≤ a3.toInt by omega) (show a3.toInt ≤ 2 by omega) (show 10 ≤ v76_4.toInt by omega) (show v76_4.toInt ≤ 130 by omega) (show (-1) ≤ v76_5.toInt by omega) (show v76_5.toInt ≤ 9 by omega) (show (-1) ≤ v76_6.toInt by omega) (show v76_6.toInt ≤ 9 by omega) (show 0 ≤ v76_8.toInt by omega) (show v76_8.toInt ≤ 9 by omega) (show 1 ≤ x172.toInt by omega) (show x172.toInt ≤ 10 by omega) (show 1 ≤ f76_12_0.toInt by omega) (show f76_12_0.toInt ≤ 10 by omega) (show 1 ≤ f76_12_1.toInt by omega) (show f76_12_1.toInt ≤ 13 by omega) (Nat.lt_succ_self _) hw hT hF c22 c25 (lv_sub hl [1, 2, 3, 4, 5, 6, 7, 8, 9, 0] rfl)
  refine lv_aload_n hx hb dX12_built_0 rfl (lv_at hl 0 rfl) ?_
  refine tk_Vi hC hK hw hT hA hE hSR kM_at0 (by decide) rfl (k_X12_isTown_1 l adK adV dC dI cy ad B (by omega) (by omega) qr s1    w0 s.heap.size hT ) (cwV 0 hC.2.2.2.2 gX12_built_X12_isTown rfl rfl rfl (by decide +kernel) ⟨Nat.le_of_ble_eq_true rfl, Nat.le_of_ble_eq_true rfl⟩) rfl hl.1 rfl (Nat.le_of_ble_eq_true rfl) dX12_built_1 (fun r173 w175 H locs hp174 hw => ?_)
  obtain ⟨hT, k176, hg181⟩ := hp174
  have hF := hF.tr k176 (by decide)
  rcases hg181 with ⟨rfl, ⟨x177, c178, rx177, tx177⟩⟩ | ⟨rfl, ⟨x179, c180, rx179, tx179⟩⟩
  · refine lv_if_eq (tgt := 38) hx hb dX12_built_4 (by decide) (fun _ => ?_) (fun c => absurd (by decide) c)
    exact J38 x177 H locs ls w175 (show 0 ≤ x177.toInt by omega) (show x177.toInt ≤ 10 by omega)  hw hT hF c178 (lv_sub hl [0, 1, 2, 3] rfl)
  · refine lv_if_eq (tgt := 38) hx hb dX12_built_4 (by decide) (fun c => absurd c (by decide)) (fun _ => ?_)
    refine lv_iload_n hx hb dX12_built_7 rfl (lv_at hl 1 rfl) ?_
    refine lv_i2l hx hb dX12_built_8 rfl ?_
    refine lv_topl (fun x182 ex182 => ?_)
    have ex182 : x182.toInt = a1.toInt := by rw [ex182]; exact wk_i2l _
    have bx182 := wk_i32 a1
    refine lv_lconst (v := 1) hx hb dX12_built_9 (by decide) ?_
    refine lv_ldc2 (v := 9) hx hb hC.2.2.2.1 (hC.2.2.2.2 _ (List.mem_of_getElem? (i := 1) rfl)) dX12_built_10 ?_
    refine tk_Si hC hK hw hT hA hE hSR (k_X12_in_7 l adK adV dC dI cy ad B (by omega) (by omega) qr s1   x182 (show (-2147483648) ≤ x182.toInt by omega) (show x182.toInt ≤ 2147483647 by omega) w175 H.size hT ) (va_cwS 3 hC.2.2.2.2 gX12_built_X12_in rfl rfl rfl (by decide +kernel) ⟨Nat.le_of_ble_eq_true rfl, Nat.le_of_ble_eq_true rfl⟩) rfl hl.1 rfl (Nat.le_of_ble_eq_true rfl) dX12_built_13 (fun r183 w185 H locs hp184 hw => ?_)
    obtain ⟨hT, k186, hg189⟩ := hp184
    have hF := hF.tr k186 (by decide)
    have c190 := k186.gi kM_at12 (by decide) c180
    rcases hg189 with rfl | ⟨rfl, g187, g188⟩
    · refine lv_if_eq (tgt := 38) hx hb dX12_built_16 (by decide) (fun _ => ?_) (fun c => absurd (by decide) c)
      exact J38 x179 H locs ls w185 (show 0 ≤ x179.toInt by omega) (show x179.toInt ≤ 10 by omega)  hw hT hF c190 (lv_sub hl [0, 1, 2, 3] rfl)
    · refine lv_if_eq (tgt := 38) hx hb dX12_built_16 (by decide) (fun c => absurd c (by decide)) (fun _ => ?_)
      refine lv_iload_n hx hb dX12_built_19 rfl (lv_at hl 2 rfl) ?_
      refine tk_Si hC hK hw hT hA hE hSR (k_X12_isHour_1 l adK adV dC dI cy ad B (by omega) (by omega) qr s1   a2 w185 H.size hT ) (va_cwS 1 hC.2.2.2.2 gX12_built_X12_isHour rfl rfl rfl (by decide +kernel) ⟨Nat.le_of_ble_eq_true rfl, Nat.le_of_ble_eq_true rfl⟩) rfl hl.1 rfl (Nat.le_of_ble_eq_true rfl) dX12_built_20 (fun r191 w193 H locs hp192 hw => ?_)
      obtain ⟨hT, k194, hg197⟩ := hp192
      have hF := hF.tr k194 (by decide)
      have c198 := k194.gi kM_at12 (by decide) c190
      rcases hg197 with rfl | ⟨rfl, g195, g196⟩
      · refine lv_if_eq (tgt := 38) hx hb dX12_built_23 (by decide) (fun _ => ?_) (fun c => absurd (by decide) c)
        exact J38 x179 H locs ls w193 (show 0 ≤ x179.toInt by omega) (show x179.toInt ≤ 10 by omega)  hw hT hF c198 (lv_sub hl [0, 1, 2, 3] rfl)
      · refine lv_if_eq (tgt := 38) hx hb dX12_built_23 (by decide) (fun c => absurd c (by decide)) (fun _ => ?_)
        refine lv_iload_n hx hb dX12_built_26 rfl (lv_at hl 3 rfl) ?_
        refine lv_i2l hx hb dX12_built_27 rfl ?_
        refine lv_topl (fun x199 ex199 => ?_)
        have ex199 : x199.toInt = a3.toInt := by rw [ex199]; exact wk_i2l _
        have bx199 := wk_i32 a3
        refine lv_lconst (v := 0) hx hb dX12_built_28 (by decide) ?_
        refine lv_ldc2 (v := 2) hx hb hC.2.2.2.1 (hC.2.2.2.2 _ (List.mem_of_getElem? (i := 2) rfl)) dX12_built_29 ?_
        refine tk_Si hC hK hw hT hA hE hSR (k_X12_in_15 l adK adV dC dI cy ad B (by omega) (by omega) qr s1   x199 (show (-2147483648) ≤ x199.toInt by omega) (show x199.toInt ≤ 2147483647 by omega) w193 H.size hT ) (va_cwS 3 hC.2.2.2.2 gX12_built_X12_in rfl rfl rfl (by decide +kernel) ⟨Nat.le_of_ble_eq_true rfl, Nat.le_of_ble_eq_true rfl⟩) rfl hl.1 rfl (Nat.le_of_ble_eq_true rfl) dX12_built_32 (fun r200 w202 H locs hp201 hw => ?_)
        obtain ⟨hT, k203, hg206⟩ := hp201
        have hF := hF.tr k203 (by decide)
        have c207 := k203.gi kM_at12 (by decide) c198
        rcases hg206 with rfl | ⟨rfl, g204, g205⟩
        · refine lv_if_ne (tgt := 40) hx hb dX12_built_35 (by decide) (fun c => absurd (by decide) c) (fun _ => ?_)
          exact J38 x179 H locs ls w202 (show 0 ≤ x179.toInt by omega) (show x179.toInt ≤ 10 by omega)  hw hT hF c207 (lv_sub hl [0, 1, 2, 3] rfl)
        · refine lv_if_ne (tgt := 40) hx hb dX12_built_35 (by decide) (fun _ => ?_) (fun c => absurd c (by decide))
          refine lv_bipush (v := 10) hx hb dX12_built_40 (by decide) ?_
          refine lv_bipush (v := 10) hx hb dX12_built_42 (by decide) ?_
          refine lv_aload_n hx hb dX12_built_44 rfl (lv_at hl 0 rfl) ?_
          refine tk_getA hC hK hw hT hinX12 kM_at0 (by decide) rfl 26 (by decide) (List.mem_of_getElem? (i := 3) rfl) rfl rfl dX12_built_45 ?_
          refine lv_iconst (v := 1) hx hb dX12_built_48 (by decide) ?_
          refine tk_ialdR hC hK hw hT kM_at12 rfl (by decide) (by decide) dX12_built_49 (fun x208 c209 Ex208 => ?_)
          have bx208 : 0 ≤ x208.toInt ∧ x208.toInt ≤ 12 := (tk_rg1 rfl).mp Ex208
          have c209 : gi w202 12 1 = x208 := c209
          refine lv_imul hx hb dX12_built_50 ?_
          refine lv_topi (fun x210 ex210 => ?_)
          have ex210 : x210.toInt = (10 : Int) * x208.toInt := by rw [ex210]; exact wk_mul (show (-2147483648) ≤ (10 : Int) * x208.toInt by omega) (show (10 : Int) * x208.toInt ≤ 2147483647 by omega)
          refine lv_iadd hx hb dX12_built_51 ?_
          refine lv_topi (fun x211 ex211 => ?_)
          have ex211 : x211.toInt = (10 : Int) + x210.toInt := by rw [ex211]; exact wk_add (show (-2147483648) ≤ (10 : Int) + x210.toInt by omega) (show (10 : Int) + x210.toInt ≤ 2147483647 by omega)
          refine lv_istore (lv' := [(4, .int x211), (0, .ref (ad 0)), (1, .int a1), (2, .int a2), (3, .int a3)]) hx hb dX12_built_52 hl (by decide) rfl (fun ls hl => ?_)
          refine lv_aload_n hx hb dX12_built_54 rfl (lv_at hl 1 rfl) ?_
          refine tk_getA hC hK hw hT hinX12 kM_at0 (by decide) rfl 26 (by decide) (List.mem_of_getElem? (i := 3) rfl) rfl rfl dX12_built_55 ?_
          refine lv_iconst (v := 1) hx hb dX12_built_58 (by decide) ?_
          refine lv_dup2_11 hx hb dX12_built_59 rfl rfl ?_
          refine tk_ialdR hC hK hw hT kM_at12 rfl (by decide) (by decide) dX12_built_60 (fun x212 c213 Ex212 => ?_)
          refine wk_top x208 (c213.symm.trans c209) ?_
          refine lv_iconst (v := 1) hx hb dX12_built_61 (by decide) ?_
          refine lv_iadd hx hb dX12_built_62 ?_
          refine lv_topi (fun x214 ex214 => ?_)
          have ex214 : x214.toInt = x208.toInt + (1 : Int) := by rw [ex214]; exact wk_add (show (-2147483648) ≤ x208.toInt + (1 : Int) by omega) (show x208.toInt + (1 : Int) ≤ 2147483647 by omega)
          have hT := hT.s1 (s2 := 13) (by decide)
          refine tk_iastR hC hK hw hT kM_at12 (by decide) rfl (by decide) (by decide) ((tk_rg1 rfl).mpr ⟨(show 0 ≤ x214.toInt by omega), (show x214.toInt ≤ if (71 : Nat) = 71 then (13 : Int) else 12 from (show x214.toInt ≤ 13 by omega))⟩) dX12_built_63 (fun H locs w215 hw hT k217 c216 => ?_)
          have hF := hF.put kM_at12 (inE_of (a := 1) (b := 1) (by decide) (by decide) (by decide)) k217
          have c218 := k217.gi (Or.inr (by decide)) c207
          have c216 : gi w215 12 1 = x214 := c216
          refine lv_iconst (v := (-1)) hx hb dX12_built_64 (by decide) ?_
          refine lv_istore (lv' := [(5, .int (-1)), (4, .int x211), (0, .ref (ad 0)), (1, .int a1), (2, .int a2), (3, .int a3)]) hx hb dX12_built_65 hl (by decide) rfl (fun ls hl => ?_)
          refine lv_iconst (v := (-1)) hx hb dX12_built_67 (by decide) ?_
          refine lv_istore (lv' := [(6, .int (-1)), (5, .int (-1)), (4, .int x211), (0, .ref (ad 0)), (1, .int a1), (2, .int a2), (3, .int a3)]) hx hb dX12_built_68 hl (by decide) rfl (fun ls hl => ?_)
          refine lv_iconst (v := 0) hx hb dX12_built_70 (by decide) ?_
          refine lv_istore (lv' := [(7, .int 0), (6, .int (-1)), (5, .int (-1)), (4, .int x211), (0, .ref (ad 0)), (1, .int a1), (2, .int a2), (3, .int a3)]) hx hb dX12_built_71 hl (by decide) rfl (fun ls hl => ?_)
          refine lv_iconst (v := 0) hx hb dX12_built_73 (by decide) ?_
          refine lv_istore (lv' := [(8, .int 0), (7, .int 0), (6, .int (-1)), (5, .int (-1)), (4, .int x211), (0, .ref (ad 0)), (1, .int a1), (2, .int a2), (3, .int a3)]) hx hb dX12_built_74 hl (by decide) rfl (fun ls hl => ?_)
          exact L76 ((10 - (0 : Int)).toNat + 1) x211 (-1) (-1) 0 0 x179 x214 H locs ls w215 (show 1 ≤ a1.toInt by omega) (show a1.toInt ≤ 9 by omega) (show 0 ≤ a2.toInt by omega) (show a2.toInt ≤ 99999 by omega) (show 0 ≤ a3.toInt by omega) (show a3.toInt ≤ 2 by omega) (show 10 ≤ x211.toInt by omega) (show x211.toInt ≤ 130 by omega) (by decide) (by decide) (by decide) (by decide) (by decide) (by decide) (show 1 ≤ x179.toInt by omega) (show x179.toInt ≤ 10 by omega) (show 1 ≤ x214.toInt by omega) (show x214.toInt ≤ 13 by omega) (Nat.lt_succ_self _) hw hT hF c218 c216 (lv_sub hl [5, 6, 7, 8, 4, 3, 2, 1, 0] rfl)
abbrev P_X12_seed_1 (ad : Nat → Nat) (cy : Nat → ClassId) (B : Int) (qr : Nat) (s1 : Int) (a1 : Int32) (w0 : va_W) : Int32 → va_W → Prop := fun r u => TW ksM ad cy B qr 12 u ∧ FE ksM [(71, 9, 9)] w0 u ∧ ((0 ≤ r.toInt ∧ 0 ≤ a1.toInt) ∨ (r = (-1) ∧ a1.toInt ≤ (-1)))
set_option maxHeartbeats 4000000 in
set_option maxRecDepth 100000 in
theorem k_X12_seed_1 (l : Launch) (adK adV : Nat → Nat) (dC : Nat → ClassId) (dI : Nat → Nat → Nat) (cy : Nat → ClassId) (ad : Nat → Nat) (B : Int) (hB0 : 100000 ≤ B) (hB1 : B ≤ 1073741824) (qr : Nat) (s1 : Int)  (a1 : Int32) (w0 : va_W) (sz : Nat) (hT : TW ksM ad cy B qr 12 w0)  : Met l yX12_seed wsX12_seed ({ frames := 1, cells := 0, slots := 0, locals := 12 }) (va_Pc [.ref (ad 0), .int a1] (wpreS adK adV dC dI cy sz w0)) (va_Qi (P_X12_seed_1 ad cy B qr s1 a1 w0) (fun u : va_W => wpost dC dI cy (va_A w0 sz) u) (va_A w0 sz)) 0 0 (va_A w0 sz) := by
  refine Met.ofW (cc := cX12_seed) (maxL := 3) (ret := (some .int)) (by decide) rfl ?_
  intro p e s m args below meth c s₁ Bk hml hv
  obtain ⟨rfl, ⟨hsz, hP, hK, hD0⟩, hE, hSR⟩ := hv
  have hx := Bk.exec
  have hb := Bk.bytes
  have hr := Bk.returns
  have hlocks := Bk.notSynchronized
  have hC : CallFix p m c cX12_seed 3 s _ wsX12_seed RX12 := ⟨hx, hb, hml, findClass_of_methodNamed Bk.named, atoms_spec (ws := wsX12_seed) Bk.pre⟩
  subst hsz
  have hD := hD0.self (sz := s.heap.size)
  generalize hAe : va_A w0 s.heap.size = A at hD hE ⊢
  have hA : ∀ q : Nat, s.heap.size ≤ q → A q := fun q h => by rw [← hAe]; exact Or.inr h
  have hw : Wd dC dI A s.heap s.heap [] w0 := ⟨hP, hD, va_S.rf⟩
  have hF : FE ksM [(71, 9, 9)] w0 w0 := FE.rf
  have hl := lv_entry ([.ref (ad 0), .int a1]) (n := 3) (Nat.le_of_ble_eq_true rfl)
  rw [lg_entry_eq]
  generalize (lg_sl ([.ref (ad 0), .int a1]) ++ List.replicate (3 - (lg_sl ([.ref (ad 0), .int a1])).length) Slot.unset).toArray = ls at hl ⊢
  have hl : lv_has ls 3 [(0, .ref (ad 0)), (1, .int a1)] := hl
  generalize hloc : ([] : List Loc) = locs at hw ⊢
  have hinX12 : ∀ w ∈ u_ws RX12 TX12 42, w ∈ wsX12_seed := fun _ h => List.mem_cons_of_mem _ (List.mem_append_right _ (h))
  refine lv_iload_n hx hb dX12_seed_0 rfl (lv_at hl 1 rfl) ?_
  refine lv_if_ge (tgt := 6) hx hb dX12_seed_1 (by decide) (fun c1 => ?_) (fun c1 => ?_)
  · have c1 : (0 : Int) ≤ a1.toInt := wk_le.mp c1
    refine lv_aload_n hx hb dX12_seed_6 rfl (lv_at hl 0 rfl) ?_
    refine tk_getA hC hK hw hT hinX12 kM_at0 (by decide) rfl 26 (by decide) (List.mem_of_getElem? (i := 1) rfl) rfl rfl dX12_seed_7 ?_
    refine lv_bipush (v := 9) hx hb dX12_seed_10 (by decide) ?_
    refine tk_ialdR hC hK hw hT kM_at12 rfl (by decide) (by decide) dX12_seed_12 (fun x2 c3 Ex2 => ?_)
    have bx2 := tk_rgI rfl 9 1 1 0 2147483647 (by decide +kernel) ⟨0, by decide, by decide⟩ Ex2
    have c3 : gi w0 12 9 = x2 := c3
    refine lv_istore_n (lv' := [(2, .int x2), (0, .ref (ad 0)), (1, .int a1)]) hx hb dX12_seed_13 rfl hl (by decide) rfl (fun ls hl => ?_)
    refine lv_aload_n hx hb dX12_seed_14 rfl (lv_at hl 1 rfl) ?_
    refine tk_getA hC hK hw hT hinX12 kM_at0 (by decide) rfl 26 (by decide) (List.mem_of_getElem? (i := 1) rfl) rfl rfl dX12_seed_15 ?_
    refine lv_bipush (v := 9) hx hb dX12_seed_18 (by decide) ?_
    refine lv_iload_n hx hb dX12_seed_20 rfl (lv_at hl 2 rfl) ?_
    refine tk_iastR hC hK hw hT kM_at12 (by decide) rfl (by decide) (by decide) (tk_rgS rfl 9 1 1 0 2147483647 (by decide +kernel) ⟨0, by decide, by decide⟩ (show 0 ≤ a1.toInt by omega) (wk_i32 a1).2) dX12_seed_21 (fun H locs w4 hw hT k6 c5 => ?_)
    have hF := hF.put kM_at12 (inE_of (a := 9) (b := 9) (by decide) (by decide) (by decide)) k6
    have c5 : gi w4 12 9 = a1 := c5
    refine lv_iload_n hx hb dX12_seed_22 rfl (lv_at hl 0 rfl) ?_
    exact tk_iret hC hr hlocks hK ⟨hT, hF, (Or.inl ⟨(show 0 ≤ x2.toInt by omega), (show 0 ≤ a1.toInt by omega)⟩)⟩ hw dX12_seed_23
  · have c1 : a1.toInt < (0 : Int) := wk_leF c1
    refine lv_iconst (v := (-1)) hx hb dX12_seed_4 (by decide) ?_
    exact tk_iret hC hr hlocks hK ⟨hT, hF, (Or.inr ⟨rfl, (show a1.toInt ≤ (-1) by omega)⟩)⟩ hw dX12_seed_5
abbrev P_X12_count_1 (ad : Nat → Nat) (cy : Nat → ClassId) (B : Int) (qr : Nat) (s1 : Int) (a1 : Int32) (w0 : va_W) : Int32 → va_W → Prop := fun r u => TW ksM ad cy B qr 12 u ∧ FE ksM ([] : List (Nat × Nat × Nat)) w0 u ∧ ((0 ≤ r.toInt ∧ 0 ≤ a1.toInt ∧ a1.toInt ≤ 10) ∨ (0 ≤ r.toInt ∧ r.toInt ≤ 400 ∧ 11 ≤ a1.toInt ∧ a1.toInt ≤ 11 ∧ (∃ y : Int32, gi u 0 1 = y ∧ 0 ≤ y.toInt ∧ y.toInt ≤ 400)) ∨ (r = (-1)))
set_option maxHeartbeats 4000000 in
set_option maxRecDepth 100000 in
theorem k_X12_count_1 (l : Launch) (adK adV : Nat → Nat) (dC : Nat → ClassId) (dI : Nat → Nat → Nat) (cy : Nat → ClassId) (ad : Nat → Nat) (B : Int) (hB0 : 100000 ≤ B) (hB1 : B ≤ 1073741824) (qr : Nat) (s1 : Int)  (a1 : Int32) (w0 : va_W) (sz : Nat) (hT : TW ksM ad cy B qr 12 w0)  : Met l yX12_count wsX12_count ({ frames := 1, cells := 0, slots := 0, locals := 12 }) (va_Pc [.ref (ad 0), .int a1] (wpreS adK adV dC dI cy sz w0)) (va_Qi (P_X12_count_1 ad cy B qr s1 a1 w0) (fun u : va_W => wpost dC dI cy (va_A w0 sz) u) (va_A w0 sz)) 0 0 (va_A w0 sz) := by
  refine Met.ofW (cc := cX12_count) (maxL := 2) (ret := (some .int)) (by decide) rfl ?_
  intro p e s m args below meth c s₁ Bk hml hv
  obtain ⟨rfl, ⟨hsz, hP, hK, hD0⟩, hE, hSR⟩ := hv
  have hx := Bk.exec
  have hb := Bk.bytes
  have hr := Bk.returns
  have hlocks := Bk.notSynchronized
  have hC : CallFix p m c cX12_count 2 s _ wsX12_count RX12 := ⟨hx, hb, hml, findClass_of_methodNamed Bk.named, atoms_spec (ws := wsX12_count) Bk.pre⟩
  subst hsz
  have hD := hD0.self (sz := s.heap.size)
  generalize hAe : va_A w0 s.heap.size = A at hD hE ⊢
  have hA : ∀ q : Nat, s.heap.size ≤ q → A q := fun q h => by rw [← hAe]; exact Or.inr h
  have hw : Wd dC dI A s.heap s.heap [] w0 := ⟨hP, hD, va_S.rf⟩
  have hF : FE ksM ([] : List (Nat × Nat × Nat)) w0 w0 := FE.rf
  have hl := lv_entry ([.ref (ad 0), .int a1]) (n := 2) (Nat.le_of_ble_eq_true rfl)
  rw [lg_entry_eq]
  generalize (lg_sl ([.ref (ad 0), .int a1]) ++ List.replicate (2 - (lg_sl ([.ref (ad 0), .int a1])).length) Slot.unset).toArray = ls at hl ⊢
  have hl : lv_has ls 2 [(0, .ref (ad 0)), (1, .int a1)] := hl
  generalize hloc : ([] : List Loc) = locs at hw ⊢
  have hinX12 : ∀ w ∈ u_ws RX12 TX12 42, w ∈ wsX12_count := fun _ h => List.mem_cons_of_mem _ (List.mem_append_right _ (h))
  refine lv_iload_n hx hb dX12_count_0 rfl (lv_at hl 1 rfl) ?_
  rcases (show a1.toInt = 0 ∨ a1.toInt = 1 ∨ a1.toInt = 2 ∨ a1.toInt = 3 ∨ a1.toInt = 4 ∨ a1.toInt = 5 ∨ a1.toInt = 6 ∨ a1.toInt = 7 ∨ a1.toInt = 8 ∨ a1.toInt = 9 ∨ a1.toInt = 10 ∨ a1.toInt = 11 ∨ (a1.toInt < 0 ∨ 11 < a1.toInt) by omega) with c1 | c1 | c1 | c1 | c1 | c1 | c1 | c1 | c1 | c1 | c1 | c1 | c1
  · refine lv_tableIn (off := 63) (tgt := 64) hx hb dX12_count_1 (by omega) (by omega) (by rw [c1]; rfl) (by decide) ?_
    refine lv_aload_n hx hb dX12_count_64 rfl (lv_at hl 0 rfl) ?_
    refine tk_getA hC hK hw hT hinX12 kM_at0 (by decide) rfl 26 (by decide) (List.mem_of_getElem? (i := 1) rfl) rfl rfl dX12_count_65 ?_
    refine lv_iload_n hx hb dX12_count_68 rfl (lv_at hl 1 rfl) ?_
    refine tk_ialdR hC hK hw hT kM_at12 rfl (show 0 ≤ a1.toInt by omega) (show a1.toInt < 296 by omega) dX12_count_69 (fun x2 c3 Ex2 => ?_)
    have c3 : gi w0 12 (a1.toInt).toNat = x2 := (congrArg (gi w0 12) (congrArg Int.toNat (show a1.toInt = a1.toInt by omega))).trans c3
    have bx2 := tk_rgI rfl 0 1 1 0 10 (by decide +kernel) ⟨(a1.toInt - 0).toNat, by omega, show a1.toInt.toNat = 0 + 1 * (a1.toInt - 0).toNat by omega⟩ Ex2
    exact tk_iret hC hr hlocks hK ⟨hT, hF, (Or.inl ⟨(show 0 ≤ x2.toInt by omega), (show 0 ≤ a1.toInt by omega), (show a1.toInt ≤ 10 by omega)⟩)⟩ hw dX12_count_70
  · refine lv_tableIn (off := 63) (tgt := 64) hx hb dX12_count_1 (by omega) (by omega) (by rw [c1]; rfl) (by decide) ?_
    refine lv_aload_n hx hb dX12_count_64 rfl (lv_at hl 0 rfl) ?_
    refine tk_getA hC hK hw hT hinX12 kM_at0 (by decide) rfl 26 (by decide) (List.mem_of_getElem? (i := 1) rfl) rfl rfl dX12_count_65 ?_
    refine lv_iload_n hx hb dX12_count_68 rfl (lv_at hl 1 rfl) ?_
    refine tk_ialdR hC hK hw hT kM_at12 rfl (show 0 ≤ a1.toInt by omega) (show a1.toInt < 296 by omega) dX12_count_69 (fun x4 c5 Ex4 => ?_)
    have c5 : gi w0 12 (a1.toInt).toNat = x4 := (congrArg (gi w0 12) (congrArg Int.toNat (show a1.toInt = a1.toInt by omega))).trans c5
    have bx4 : 0 ≤ x4.toInt ∧ x4.toInt ≤ 12 := (tk_rg1 rfl).mp Ex4
    exact tk_iret hC hr hlocks hK ⟨hT, hF, (Or.inl ⟨(show 0 ≤ x4.toInt by omega), (show 0 ≤ a1.toInt by omega), (show a1.toInt ≤ 10 by omega)⟩)⟩ hw dX12_count_70
  · refine lv_tableIn (off := 63) (tgt := 64) hx hb dX12_count_1 (by omega) (by omega) (by rw [c1]; rfl) (by decide) ?_
    refine lv_aload_n hx hb dX12_count_64 rfl (lv_at hl 0 rfl) ?_
    refine tk_getA hC hK hw hT hinX12 kM_at0 (by decide) rfl 26 (by decide) (List.mem_of_getElem? (i := 1) rfl) rfl rfl dX12_count_65 ?_
    refine lv_iload_n hx hb dX12_count_68 rfl (lv_at hl 1 rfl) ?_
    refine tk_ialdR hC hK hw hT kM_at12 rfl (show 0 ≤ a1.toInt by omega) (show a1.toInt < 296 by omega) dX12_count_69 (fun x6 c7 Ex6 => ?_)
    have c7 : gi w0 12 (a1.toInt).toNat = x6 := (congrArg (gi w0 12) (congrArg Int.toNat (show a1.toInt = a1.toInt by omega))).trans c7
    have bx6 := tk_rgI rfl 2 1 1 0 8 (by decide +kernel) ⟨(a1.toInt - 2).toNat, by omega, show a1.toInt.toNat = 2 + 1 * (a1.toInt - 2).toNat by omega⟩ Ex6
    exact tk_iret hC hr hlocks hK ⟨hT, hF, (Or.inl ⟨(show 0 ≤ x6.toInt by omega), (show 0 ≤ a1.toInt by omega), (show a1.toInt ≤ 10 by omega)⟩)⟩ hw dX12_count_70
  · refine lv_tableIn (off := 63) (tgt := 64) hx hb dX12_count_1 (by omega) (by omega) (by rw [c1]; rfl) (by decide) ?_
    refine lv_aload_n hx hb dX12_count_64 rfl (lv_at hl 0 rfl) ?_
    refine tk_getA hC hK hw hT hinX12 kM_at0 (by decide) rfl 26 (by decide) (List.mem_of_getElem? (i := 1) rfl) rfl rfl dX12_count_65 ?_
    refine lv_iload_n hx hb dX12_count_68 rfl (lv_at hl 1 rfl) ?_
    refine tk_ialdR hC hK hw hT kM_at12 rfl (show 0 ≤ a1.toInt by omega) (show a1.toInt < 296 by omega) dX12_count_69 (fun x8 c9 Ex8 => ?_)
    have c9 : gi w0 12 (a1.toInt).toNat = x8 := (congrArg (gi w0 12) (congrArg Int.toNat (show a1.toInt = a1.toInt by omega))).trans c9
    have bx8 := tk_rgI rfl 3 1 1 0 4 (by decide +kernel) ⟨(a1.toInt - 3).toNat, by omega, show a1.toInt.toNat = 3 + 1 * (a1.toInt - 3).toNat by omega⟩ Ex8
    exact tk_iret hC hr hlocks hK ⟨hT, hF, (Or.inl ⟨(show 0 ≤ x8.toInt by omega), (show 0 ≤ a1.toInt by omega), (show a1.toInt ≤ 10 by omega)⟩)⟩ hw dX12_count_70
  · refine lv_tableIn (off := 70) (tgt := 71) hx hb dX12_count_1 (by omega) (by omega) (by rw [c1]; rfl) (by decide) ?_
    refine lv_aload_n hx hb dX12_count_71 rfl (lv_at hl 0 rfl) ?_
    refine tk_geti hC hK hw hT hinX12 kM_at0 (by decide) rfl 2 (by decide) (List.mem_of_getElem? (i := 2) rfl) rfl rfl dX12_count_72 (fun x10 c11 rx10 tx10 => ?_)
    exact tk_iret hC hr hlocks hK ⟨hT, hF, (Or.inl ⟨(show 0 ≤ x10.toInt by omega), (show 0 ≤ a1.toInt by omega), (show a1.toInt ≤ 10 by omega)⟩)⟩ hw dX12_count_75
  · refine lv_tableIn (off := 75) (tgt := 76) hx hb dX12_count_1 (by omega) (by omega) (by rw [c1]; rfl) (by decide) ?_
    refine lv_aload_n hx hb dX12_count_76 rfl (lv_at hl 0 rfl) ?_
    refine tk_getA hC hK hw hT hinX12 kM_at0 (by decide) rfl 26 (by decide) (List.mem_of_getElem? (i := 1) rfl) rfl rfl dX12_count_77 ?_
    refine lv_iload_n hx hb dX12_count_80 rfl (lv_at hl 1 rfl) ?_
    refine lv_iconst (v := 1) hx hb dX12_count_81 (by decide) ?_
    refine lv_isub hx hb dX12_count_82 ?_
    refine lv_topi (fun x12 ex12 => ?_)
    have ex12 : x12.toInt = a1.toInt - (1 : Int) := by rw [ex12]; exact wk_sub (show (-2147483648) ≤ a1.toInt - (1 : Int) by omega) (show a1.toInt - (1 : Int) ≤ 2147483647 by omega)
    refine tk_ialdR hC hK hw hT kM_at12 rfl (show 0 ≤ x12.toInt by omega) (show x12.toInt < 296 by omega) dX12_count_83 (fun x13 c14 Ex13 => ?_)
    have bx13 := tk_rgI rfl 4 1 1 0 4 (by decide +kernel) ⟨(a1.toInt - 5).toNat, by omega, show x12.toInt.toNat = 4 + 1 * (a1.toInt - 5).toNat by omega⟩ Ex13
    exact tk_iret hC hr hlocks hK ⟨hT, hF, (Or.inl ⟨(show 0 ≤ x13.toInt by omega), (show 0 ≤ a1.toInt by omega), (show a1.toInt ≤ 10 by omega)⟩)⟩ hw dX12_count_84
  · refine lv_tableIn (off := 75) (tgt := 76) hx hb dX12_count_1 (by omega) (by omega) (by rw [c1]; rfl) (by decide) ?_
    refine lv_aload_n hx hb dX12_count_76 rfl (lv_at hl 0 rfl) ?_
    refine tk_getA hC hK hw hT hinX12 kM_at0 (by decide) rfl 26 (by decide) (List.mem_of_getElem? (i := 1) rfl) rfl rfl dX12_count_77 ?_
    refine lv_iload_n hx hb dX12_count_80 rfl (lv_at hl 1 rfl) ?_
    refine lv_iconst (v := 1) hx hb dX12_count_81 (by decide) ?_
    refine lv_isub hx hb dX12_count_82 ?_
    refine lv_topi (fun x15 ex15 => ?_)
    have ex15 : x15.toInt = a1.toInt - (1 : Int) := by rw [ex15]; exact wk_sub (show (-2147483648) ≤ a1.toInt - (1 : Int) by omega) (show a1.toInt - (1 : Int) ≤ 2147483647 by omega)
    refine tk_ialdR hC hK hw hT kM_at12 rfl (show 0 ≤ x15.toInt by omega) (show x15.toInt < 296 by omega) dX12_count_83 (fun x16 c17 Ex16 => ?_)
    have bx16 := tk_rgI rfl 5 1 1 0 4 (by decide +kernel) ⟨(a1.toInt - 6).toNat, by omega, show x15.toInt.toNat = 5 + 1 * (a1.toInt - 6).toNat by omega⟩ Ex16
    exact tk_iret hC hr hlocks hK ⟨hT, hF, (Or.inl ⟨(show 0 ≤ x16.toInt by omega), (show 0 ≤ a1.toInt by omega), (show a1.toInt ≤ 10 by omega)⟩)⟩ hw dX12_count_84
  · refine lv_tableIn (off := 75) (tgt := 76) hx hb dX12_count_1 (by omega) (by omega) (by rw [c1]; rfl) (by decide) ?_
    refine lv_aload_n hx hb dX12_count_76 rfl (lv_at hl 0 rfl) ?_
    refine tk_getA hC hK hw hT hinX12 kM_at0 (by decide) rfl 26 (by decide) (List.mem_of_getElem? (i := 1) rfl) rfl rfl dX12_count_77 ?_
    refine lv_iload_n hx hb dX12_count_80 rfl (lv_at hl 1 rfl) ?_
    refine lv_iconst (v := 1) hx hb dX12_count_81 (by decide) ?_
    refine lv_isub hx hb dX12_count_82 ?_
    refine lv_topi (fun x18 ex18 => ?_)
    have ex18 : x18.toInt = a1.toInt - (1 : Int) := by rw [ex18]; exact wk_sub (show (-2147483648) ≤ a1.toInt - (1 : Int) by omega) (show a1.toInt - (1 : Int) ≤ 2147483647 by omega)
    refine tk_ialdR hC hK hw hT kM_at12 rfl (show 0 ≤ x18.toInt by omega) (show x18.toInt < 296 by omega) dX12_count_83 (fun x19 c20 Ex19 => ?_)
    have bx19 := tk_rgI rfl 6 1 1 0 6 (by decide +kernel) ⟨(a1.toInt - 7).toNat, by omega, show x18.toInt.toNat = 6 + 1 * (a1.toInt - 7).toNat by omega⟩ Ex19
    exact tk_iret hC hr hlocks hK ⟨hT, hF, (Or.inl ⟨(show 0 ≤ x19.toInt by omega), (show 0 ≤ a1.toInt by omega), (show a1.toInt ≤ 10 by omega)⟩)⟩ hw dX12_count_84
  · refine lv_tableIn (off := 75) (tgt := 76) hx hb dX12_count_1 (by omega) (by omega) (by rw [c1]; rfl) (by decide) ?_
    refine lv_aload_n hx hb dX12_count_76 rfl (lv_at hl 0 rfl) ?_
    refine tk_getA hC hK hw hT hinX12 kM_at0 (by decide) rfl 26 (by decide) (List.mem_of_getElem? (i := 1) rfl) rfl rfl dX12_count_77 ?_
    refine lv_iload_n hx hb dX12_count_80 rfl (lv_at hl 1 rfl) ?_
    refine lv_iconst (v := 1) hx hb dX12_count_81 (by decide) ?_
    refine lv_isub hx hb dX12_count_82 ?_
    refine lv_topi (fun x21 ex21 => ?_)
    have ex21 : x21.toInt = a1.toInt - (1 : Int) := by rw [ex21]; exact wk_sub (show (-2147483648) ≤ a1.toInt - (1 : Int) by omega) (show a1.toInt - (1 : Int) ≤ 2147483647 by omega)
    refine tk_ialdR hC hK hw hT kM_at12 rfl (show 0 ≤ x21.toInt by omega) (show x21.toInt < 296 by omega) dX12_count_83 (fun x22 c23 Ex22 => ?_)
    have bx22 := tk_rgI rfl 7 1 1 0 12 (by decide +kernel) ⟨(a1.toInt - 8).toNat, by omega, show x21.toInt.toNat = 7 + 1 * (a1.toInt - 8).toNat by omega⟩ Ex22
    exact tk_iret hC hr hlocks hK ⟨hT, hF, (Or.inl ⟨(show 0 ≤ x22.toInt by omega), (show 0 ≤ a1.toInt by omega), (show a1.toInt ≤ 10 by omega)⟩)⟩ hw dX12_count_84
  · refine lv_tableIn (off := 75) (tgt := 76) hx hb dX12_count_1 (by omega) (by omega) (by rw [c1]; rfl) (by decide) ?_
    refine lv_aload_n hx hb dX12_count_76 rfl (lv_at hl 0 rfl) ?_
    refine tk_getA hC hK hw hT hinX12 kM_at0 (by decide) rfl 26 (by decide) (List.mem_of_getElem? (i := 1) rfl) rfl rfl dX12_count_77 ?_
    refine lv_iload_n hx hb dX12_count_80 rfl (lv_at hl 1 rfl) ?_
    refine lv_iconst (v := 1) hx hb dX12_count_81 (by decide) ?_
    refine lv_isub hx hb dX12_count_82 ?_
    refine lv_topi (fun x24 ex24 => ?_)
    have ex24 : x24.toInt = a1.toInt - (1 : Int) := by rw [ex24]; exact wk_sub (show (-2147483648) ≤ a1.toInt - (1 : Int) by omega) (show a1.toInt - (1 : Int) ≤ 2147483647 by omega)
    refine tk_ialdR hC hK hw hT kM_at12 rfl (show 0 ≤ x24.toInt by omega) (show x24.toInt < 296 by omega) dX12_count_83 (fun x25 c26 Ex25 => ?_)
    have bx25 := tk_rgI rfl 8 1 1 0 8 (by decide +kernel) ⟨(a1.toInt - 9).toNat, by omega, show x24.toInt.toNat = 8 + 1 * (a1.toInt - 9).toNat by omega⟩ Ex25
    exact tk_iret hC hr hlocks hK ⟨hT, hF, (Or.inl ⟨(show 0 ≤ x25.toInt by omega), (show 0 ≤ a1.toInt by omega), (show a1.toInt ≤ 10 by omega)⟩)⟩ hw dX12_count_84
  · refine lv_tableIn (off := 75) (tgt := 76) hx hb dX12_count_1 (by omega) (by omega) (by rw [c1]; rfl) (by decide) ?_
    refine lv_aload_n hx hb dX12_count_76 rfl (lv_at hl 0 rfl) ?_
    refine tk_getA hC hK hw hT hinX12 kM_at0 (by decide) rfl 26 (by decide) (List.mem_of_getElem? (i := 1) rfl) rfl rfl dX12_count_77 ?_
    refine lv_iload_n hx hb dX12_count_80 rfl (lv_at hl 1 rfl) ?_
    refine lv_iconst (v := 1) hx hb dX12_count_81 (by decide) ?_
    refine lv_isub hx hb dX12_count_82 ?_
    refine lv_topi (fun x27 ex27 => ?_)
    have ex27 : x27.toInt = a1.toInt - (1 : Int) := by rw [ex27]; exact wk_sub (show (-2147483648) ≤ a1.toInt - (1 : Int) by omega) (show a1.toInt - (1 : Int) ≤ 2147483647 by omega)
    refine tk_ialdR hC hK hw hT kM_at12 rfl (show 0 ≤ x27.toInt by omega) (show x27.toInt < 296 by omega) dX12_count_83 (fun x28 c29 Ex28 => ?_)
    have bx28 := tk_rgI rfl 9 1 1 0 2147483647 (by decide +kernel) ⟨(a1.toInt - 10).toNat, by omega, show x27.toInt.toNat = 9 + 1 * (a1.toInt - 10).toNat by omega⟩ Ex28
    exact tk_iret hC hr hlocks hK ⟨hT, hF, (Or.inl ⟨(show 0 ≤ x28.toInt by omega), (show 0 ≤ a1.toInt by omega), (show a1.toInt ≤ 10 by omega)⟩)⟩ hw dX12_count_84
  · refine lv_tableIn (off := 84) (tgt := 85) hx hb dX12_count_1 (by omega) (by omega) (by rw [c1]; rfl) (by decide) ?_
    refine lv_aload_n hx hb dX12_count_85 rfl (lv_at hl 0 rfl) ?_
    refine tk_geti hC hK hw hT hinX12 kM_at0 (by decide) rfl 1 (by decide) (List.mem_of_getElem? (i := 3) rfl) rfl rfl dX12_count_86 (fun x30 c31 rx30 tx30 => ?_)
    exact tk_iret hC hr hlocks hK ⟨hT, hF, (Or.inr (Or.inl ⟨(show 0 ≤ x30.toInt by omega), (show x30.toInt ≤ 400 by omega), (show 11 ≤ a1.toInt by omega), (show a1.toInt ≤ 11 by omega), ⟨x30, c31, (show 0 ≤ x30.toInt by omega), (show x30.toInt ≤ 400 by omega)⟩⟩))⟩ hw dX12_count_89
  · refine lv_tableOut (tgt := 90) hx hb dX12_count_1 c1 (by decide) ?_
    refine lv_iconst (v := (-1)) hx hb dX12_count_90 (by decide) ?_
    exact tk_iret hC hr hlocks hK ⟨hT, hF, (Or.inr (Or.inr rfl))⟩ hw dX12_count_91
abbrev P_X12_image_1 (ad : Nat → Nat) (cy : Nat → ClassId) (B : Int) (qr : Nat) (s1 : Int) (a1 : Int32) (w0 : va_W) : Int32 → va_W → Prop := fun r u => TW ksM ad cy B qr 12 u ∧ FE ksM [(80, 0, 1184), (81, 0, 4)] w0 u ∧ ((0 ≤ r.toInt ∧ r.toInt ≤ 4 ∧ 0 ≤ a1.toInt ∧ a1.toInt ≤ 3) ∨ (r = (-1)))
set_option maxHeartbeats 4000000 in
set_option maxRecDepth 100000 in
theorem k_X12_image_1 (l : Launch) (adK adV : Nat → Nat) (dC : Nat → ClassId) (dI : Nat → Nat → Nat) (cy : Nat → ClassId) (ad : Nat → Nat) (B : Int) (hB0 : 100000 ≤ B) (hB1 : B ≤ 1073741824) (qr : Nat) (s1 : Int)  (a1 : Int32) (w0 : va_W) (sz : Nat) (hT : TW ksM ad cy B qr 12 w0)  : Met l yX12_image wsX12_image ({ frames := 2, cells := 0, slots := 0, locals := 37 }) (va_Pc [.ref (ad 0), .int a1] (wpreS adK adV dC dI cy sz w0)) (va_Qi (P_X12_image_1 ad cy B qr s1 a1 w0) (fun u : va_W => wpost dC dI cy (va_A w0 sz) u) (va_A w0 sz)) 0 0 (va_A w0 sz) := by
  refine Met.ofW (cc := cX12_image) (maxL := 3) (ret := (some .int)) (by decide) rfl ?_
  intro p e s m args below meth c s₁ Bk hml hv
  obtain ⟨rfl, ⟨hsz, hP, hK, hD0⟩, hE, hSR⟩ := hv
  have hx := Bk.exec
  have hb := Bk.bytes
  have hr := Bk.returns
  have hlocks := Bk.notSynchronized
  have hC : CallFix p m c cX12_image 3 s _ wsX12_image RX12 := ⟨hx, hb, hml, findClass_of_methodNamed Bk.named, atoms_spec (ws := wsX12_image) Bk.pre⟩
  subst hsz
  have hD := hD0.self (sz := s.heap.size)
  generalize hAe : va_A w0 s.heap.size = A at hD hE ⊢
  have hA : ∀ q : Nat, s.heap.size ≤ q → A q := fun q h => by rw [← hAe]; exact Or.inr h
  have hw : Wd dC dI A s.heap s.heap [] w0 := ⟨hP, hD, va_S.rf⟩
  have hF : FE ksM [(80, 0, 1184), (81, 0, 4)] w0 w0 := FE.rf
  have hl := lv_entry ([.ref (ad 0), .int a1]) (n := 3) (Nat.le_of_ble_eq_true rfl)
  rw [lg_entry_eq]
  generalize (lg_sl ([.ref (ad 0), .int a1]) ++ List.replicate (3 - (lg_sl ([.ref (ad 0), .int a1])).length) Slot.unset).toArray = ls at hl ⊢
  have hl : lv_has ls 3 [(0, .ref (ad 0)), (1, .int a1)] := hl
  generalize hloc : ([] : List Loc) = locs at hw ⊢
  have hinX12 : ∀ w ∈ u_ws RX12 TX12 42, w ∈ wsX12_image := fun _ h => List.mem_cons_of_mem _ (List.mem_append_right _ (h))
  have L23 : ∀ (n23 : Nat) (v23_2 : Int32) (H : Heap) (locs : List Loc) (ls : Array Slot) (w1 : va_W), 0 ≤ a1.toInt → a1.toInt ≤ 3 → 0 ≤ v23_2.toInt → v23_2.toInt ≤ 296 → (296 - v23_2.toInt).toNat < n23 → Wd dC dI A s.heap H locs w1 → TW ksM ad cy B qr 12 w1 → FE ksM [(80, 0, 1184), (81, 0, 4)] w0 w1 → lv_has ls 3 [(0, .ref (ad 0)), (1, .int a1), (2, .int v23_2)] → W p l e ({ frames := 2, cells := 0, slots := 0, locals := 37 }) s m (List.toArray [.ref (ad 0), .int a1]) below meth c H locs 0 0 (MQ below (va_Qi (P_X12_image_1 ad cy B qr s1 a1 w0) (fun u : va_W => wpost dC dI cy A u) A) (List.toArray [.ref (ad 0), .int a1]) s 0 0 A) (F0 m 23 ls []) := by
    intro n23
    induction n23 with
    | zero => intro v23_2 H locs ls w1 r2 t3 r4 t5 hm23 hw hT hF hl; omega
    | succ n23 ih23 =>
      intro v23_2 H locs ls w1 r2 t3 r4 t5 hm23 hw hT hF hl
      refine lv_iload_n hx hb dX12_image_23 rfl (lv_at hl 2 rfl) ?_
      refine lv_sipush (v := 296) hx hb dX12_image_24 (by decide) ?_
      refine lv_icmp_ge (tgt := 54) hx hb dX12_image_27 (by decide) (fun c6 => ?_) (fun c6 => ?_)
      · have c6 : (296 : Int) ≤ v23_2.toInt := wk_le.mp c6
        refine lv_aload_n hx hb dX12_image_54 rfl (lv_at hl 0 rfl) ?_
        refine tk_getA hC hK hw hT hinX12 kM_at0 (by decide) rfl 26 (by decide) (List.mem_of_getElem? (i := 4) rfl) rfl rfl dX12_image_55 ?_
        refine lv_iconst (v := 5) hx hb dX12_image_58 (by decide) ?_
        refine tk_ialdR hC hK hw hT kM_at12 rfl (by decide) (by decide) dX12_image_59 (fun x7 c8 Ex7 => ?_)
        have bx7 := tk_rgI rfl 5 1 1 0 4 (by decide +kernel) ⟨0, by decide, by decide⟩ Ex7
        have c8 : gi w1 12 5 = x7 := c8
        exact tk_iret hC hr hlocks hK ⟨hT, hF, (Or.inl ⟨(show 0 ≤ x7.toInt by omega), (show x7.toInt ≤ 4 by omega), (show 0 ≤ a1.toInt by omega), (show a1.toInt ≤ 3 by omega)⟩)⟩ hw dX12_image_60
      · have c6 : v23_2.toInt < (296 : Int) := wk_leF c6
        refine lv_aload_n hx hb dX12_image_30 rfl (lv_at hl 0 rfl) ?_
        refine tk_getA hC hK hw hT hinX12 kM_at0 (by decide) rfl 40 (by decide) (List.mem_of_getElem? (i := 3) rfl) rfl rfl dX12_image_31 ?_
        refine lv_sipush (v := 296) hx hb dX12_image_34 (by decide) ?_
        refine lv_iload_n hx hb dX12_image_37 rfl (lv_at hl 1 rfl) ?_
        refine lv_imul hx hb dX12_image_38 ?_
        refine lv_topi (fun x9 ex9 => ?_)
        have ex9 : x9.toInt = (296 : Int) * a1.toInt := by rw [ex9]; exact wk_mul (show (-2147483648) ≤ (296 : Int) * a1.toInt by omega) (show (296 : Int) * a1.toInt ≤ 2147483647 by omega)
        refine lv_iload_n hx hb dX12_image_39 rfl (lv_at hl 2 rfl) ?_
        refine lv_iadd hx hb dX12_image_40 ?_
        refine lv_topi (fun x10 ex10 => ?_)
        have ex10 : x10.toInt = x9.toInt + v23_2.toInt := by rw [ex10]; exact wk_add (show (-2147483648) ≤ x9.toInt + v23_2.toInt by omega) (show x9.toInt + v23_2.toInt ≤ 2147483647 by omega)
        refine lv_aload_n hx hb dX12_image_41 rfl (lv_at hl 0 rfl) ?_
        refine tk_getA hC hK hw hT hinX12 kM_at0 (by decide) rfl 26 (by decide) (List.mem_of_getElem? (i := 4) rfl) rfl rfl dX12_image_42 ?_
        refine lv_iload_n hx hb dX12_image_45 rfl (lv_at hl 2 rfl) ?_
        refine tk_ialdR hC hK hw hT kM_at12 rfl (show 0 ≤ v23_2.toInt by omega) (show v23_2.toInt < 296 by omega) dX12_image_46 (fun x11 c12 Ex11 => ?_)
        have c12 : gi w1 12 (v23_2.toInt).toNat = x11 := (congrArg (gi w1 12) (congrArg Int.toNat (show v23_2.toInt = v23_2.toInt by omega))).trans c12
        refine tk_iastR hC hK hw hT kM_at21 (by decide) rfl (show 0 ≤ x10.toInt by omega) (show x10.toInt < 1184 by omega) (tk_rgC rfl rfl (show v23_2.toInt.toNat % 296 = x10.toInt.toNat % 296 by omega) Ex11) dX12_image_47 (fun H locs w13 hw hT k15 c14 => ?_)
        have hF := hF.put kM_at21 (inE_of (a := 0) (b := 1184) (by decide) (show 0 ≤ x10.toInt.toNat by omega) (show x10.toInt.toNat ≤ 1184 by omega)) k15
        have c16 := k15.gi (Or.inl (tk_ne kM_at12 kM_at21 (by decide))) c12
        obtain ⟨x17, ex17⟩ : ∃ y : Int32, y = v23_2 + Int32.ofInt 1 := ⟨_, rfl⟩
        refine lv_iinc (v := x17) (lv' := [(2, .int x17), (0, .ref (ad 0)), (1, .int a1)]) hx hb dX12_image_48 hl (k := 2) rfl ex17.symm (by decide) rfl (fun ls hl => ?_)
        have ex17 : x17.toInt = v23_2.toInt + 1 := by rw [ex17]; exact wk_add (y := 1) (show -2147483648 ≤ v23_2.toInt + 1 by omega) (show v23_2.toInt + 1 ≤ 2147483647 by omega)
        refine lv_goto (tgt := 23) hx hb dX12_image_51 (by decide) ?_
        exact ih23 x17 H locs ls w13 (show 0 ≤ a1.toInt by omega) (show a1.toInt ≤ 3 by omega) (show 0 ≤ x17.toInt by omega) (show x17.toInt ≤ 296 by omega) (show (296 - x17.toInt).toNat < n23 by omega) hw hT hF  (lv_sub hl [1, 2, 0] rfl)
  refine lv_iload_n hx hb dX12_image_0 rfl (lv_at hl 1 rfl) ?_
  refine lv_i2l hx hb dX12_image_1 rfl ?_
  refine lv_topl (fun x18 ex18 => ?_)
  have ex18 : x18.toInt = a1.toInt := by rw [ex18]; exact wk_i2l _
  have bx18 := wk_i32 a1
  refine lv_lconst (v := 0) hx hb dX12_image_2 (by decide) ?_
  refine lv_ldc2 (v := 3) hx hb hC.2.2.2.1 (hC.2.2.2.2 _ (List.mem_of_getElem? (i := 1) rfl)) dX12_image_3 ?_
  refine tk_Si hC hK hw hT hA hE hSR (k_X12_in_11 l adK adV dC dI cy ad B (by omega) (by omega) qr s1   x18 (show (-2147483648) ≤ x18.toInt by omega) (show x18.toInt ≤ 2147483647 by omega) w0 s.heap.size hT ) (va_cwS 3 hC.2.2.2.2 gX12_image_X12_in rfl rfl rfl (by decide +kernel) ⟨Nat.le_of_ble_eq_true rfl, Nat.le_of_ble_eq_true rfl⟩) rfl hl.1 rfl (Nat.le_of_ble_eq_true rfl) dX12_image_6 (fun r19 w21 H locs hp20 hw => ?_)
  obtain ⟨hT, k22, hg25⟩ := hp20
  have hF := hF.tr k22 (by decide)
  rcases hg25 with rfl | ⟨rfl, g23, g24⟩
  · refine lv_if_ne (tgt := 14) hx hb dX12_image_9 (by decide) (fun c => absurd (by decide) c) (fun _ => ?_)
    refine lv_iconst (v := (-1)) hx hb dX12_image_12 (by decide) ?_
    exact tk_iret hC hr hlocks hK ⟨hT, hF, (Or.inr rfl)⟩ hw dX12_image_13
  · refine lv_if_ne (tgt := 14) hx hb dX12_image_9 (by decide) (fun _ => ?_) (fun c => absurd c (by decide))
    refine lv_aload_n hx hb dX12_image_14 rfl (lv_at hl 0 rfl) ?_
    refine tk_getA hC hK hw hT hinX12 kM_at0 (by decide) rfl 41 (by decide) (List.mem_of_getElem? (i := 2) rfl) rfl rfl dX12_image_15 ?_
    refine lv_iload_n hx hb dX12_image_18 rfl (lv_at hl 1 rfl) ?_
    refine lv_iconst (v := 1) hx hb dX12_image_19 (by decide) ?_
    refine tk_zast hC hK hw hT kM_at22 (by decide) rfl rfl (show 0 ≤ a1.toInt by omega) (show a1.toInt < 4 by omega) (by decide) (by decide) dX12_image_20 (fun H locs w26 hw hT k28 c27 => ?_)
    have hF := hF.put kM_at22 (inE_of (a := 0) (b := 4) (by decide) (show 0 ≤ a1.toInt.toNat by omega) (show a1.toInt.toNat ≤ 4 by omega)) k28
    refine lv_iconst (v := 0) hx hb dX12_image_21 (by decide) ?_
    refine lv_istore_n (lv' := [(2, .int 0), (0, .ref (ad 0)), (1, .int a1)]) hx hb dX12_image_22 rfl hl (by decide) rfl (fun ls hl => ?_)
    exact L23 ((296 - (0 : Int)).toNat + 1) 0 H locs ls w26 (show 0 ≤ a1.toInt by omega) (show a1.toInt ≤ 3 by omega) (by decide) (by decide) (Nat.lt_succ_self _) hw hT hF  (lv_sub hl [1, 2, 0] rfl)
abbrev P_X12_back_1 (ad : Nat → Nat) (cy : Nat → ClassId) (B : Int) (qr : Nat) (s1 : Int) (a1 : Int32) (w0 : va_W) : Int32 → va_W → Prop := fun r u => TW ksM ad cy B qr 12 u ∧ FE ksM [(71, 0, 295)] w0 u ∧ ((0 ≤ r.toInt ∧ r.toInt ≤ 4 ∧ 0 ≤ a1.toInt ∧ a1.toInt ≤ 3) ∨ (r = (-1)))
set_option maxHeartbeats 4000000 in
set_option maxRecDepth 100000 in
theorem k_X12_back_1 (l : Launch) (adK adV : Nat → Nat) (dC : Nat → ClassId) (dI : Nat → Nat → Nat) (cy : Nat → ClassId) (ad : Nat → Nat) (B : Int) (hB0 : 100000 ≤ B) (hB1 : B ≤ 1073741824) (qr : Nat) (s1 : Int)  (a1 : Int32) (w0 : va_W) (sz : Nat) (hT : TW ksM ad cy B qr 12 w0)  : Met l yX12_back wsX12_back ({ frames := 2, cells := 0, slots := 0, locals := 37 }) (va_Pc [.ref (ad 0), .int a1] (wpreS adK adV dC dI cy sz w0)) (va_Qi (P_X12_back_1 ad cy B qr s1 a1 w0) (fun u : va_W => wpost dC dI cy (va_A w0 sz) u) (va_A w0 sz)) 0 0 (va_A w0 sz) := by
  refine Met.ofW (cc := cX12_back) (maxL := 3) (ret := (some .int)) (by decide) rfl ?_
  intro p e s m args below meth c s₁ Bk hml hv
  obtain ⟨rfl, ⟨hsz, hP, hK, hD0⟩, hE, hSR⟩ := hv
  have hx := Bk.exec
  have hb := Bk.bytes
  have hr := Bk.returns
  have hlocks := Bk.notSynchronized
  have hC : CallFix p m c cX12_back 3 s _ wsX12_back RX12 := ⟨hx, hb, hml, findClass_of_methodNamed Bk.named, atoms_spec (ws := wsX12_back) Bk.pre⟩
  subst hsz
  have hD := hD0.self (sz := s.heap.size)
  generalize hAe : va_A w0 s.heap.size = A at hD hE ⊢
  have hA : ∀ q : Nat, s.heap.size ≤ q → A q := fun q h => by rw [← hAe]; exact Or.inr h
  have hw : Wd dC dI A s.heap s.heap [] w0 := ⟨hP, hD, va_S.rf⟩
  have hF : FE ksM [(71, 0, 295)] w0 w0 := FE.rf
  have hl := lv_entry ([.ref (ad 0), .int a1]) (n := 3) (Nat.le_of_ble_eq_true rfl)
  rw [lg_entry_eq]
  generalize (lg_sl ([.ref (ad 0), .int a1]) ++ List.replicate (3 - (lg_sl ([.ref (ad 0), .int a1])).length) Slot.unset).toArray = ls at hl ⊢
  have hl : lv_has ls 3 [(0, .ref (ad 0)), (1, .int a1)] := hl
  generalize hloc : ([] : List Loc) = locs at hw ⊢
  have hinX12 : ∀ w ∈ u_ws RX12 TX12 42, w ∈ wsX12_back := fun _ h => List.mem_cons_of_mem _ (List.mem_append_right _ (h))
  have J21 : ∀ (H : Heap) (locs : List Loc) (ls : Array Slot) (w1 : va_W), Wd dC dI A s.heap H locs w1 → TW ksM ad cy B qr 12 w1 → FE ksM [(71, 0, 295)] w0 w1 → lv_has ls 3 [(0, .ref (ad 0)), (1, .int a1)] → W p l e ({ frames := 2, cells := 0, slots := 0, locals := 37 }) s m (List.toArray [.ref (ad 0), .int a1]) below meth c H locs 0 0 (MQ below (va_Qi (P_X12_back_1 ad cy B qr s1 a1 w0) (fun u : va_W => wpost dC dI cy A u) A) (List.toArray [.ref (ad 0), .int a1]) s 0 0 A) (F0 m 21 ls []) := by
    intro H locs ls w1 hw hT hF hl
    refine lv_iconst (v := (-1)) hx hb dX12_back_21 (by decide) ?_
    exact tk_iret hC hr hlocks hK ⟨hT, hF, (Or.inr rfl)⟩ hw dX12_back_22
  have L25 : ∀ (n25 : Nat) (v25_2 : Int32) (H : Heap) (locs : List Loc) (ls : Array Slot) (w2 : va_W), 0 ≤ a1.toInt → a1.toInt ≤ 3 → 0 ≤ v25_2.toInt → v25_2.toInt ≤ 296 → (296 - v25_2.toInt).toNat < n25 → Wd dC dI A s.heap H locs w2 → TW ksM ad cy B qr 12 w2 → FE ksM [(71, 0, 295)] w0 w2 → lv_has ls 3 [(0, .ref (ad 0)), (1, .int a1), (2, .int v25_2)] → W p l e ({ frames := 2, cells := 0, slots := 0, locals := 37 }) s m (List.toArray [.ref (ad 0), .int a1]) below meth c H locs 0 0 (MQ below (va_Qi (P_X12_back_1 ad cy B qr s1 a1 w0) (fun u : va_W => wpost dC dI cy A u) A) (List.toArray [.ref (ad 0), .int a1]) s 0 0 A) (F0 m 25 ls []) := by
    intro n25
    induction n25 with
    | zero => intro v25_2 H locs ls w2 r3 t4 r5 t6 hm25 hw hT hF hl; omega
    | succ n25 ih25 =>
      intro v25_2 H locs ls w2 r3 t4 r5 t6 hm25 hw hT hF hl
      refine lv_iload_n hx hb dX12_back_25 rfl (lv_at hl 2 rfl) ?_
      refine lv_sipush (v := 296) hx hb dX12_back_26 (by decide) ?_
      refine lv_icmp_ge (tgt := 56) hx hb dX12_back_29 (by decide) (fun c7 => ?_) (fun c7 => ?_)
      · have c7 : (296 : Int) ≤ v25_2.toInt := wk_le.mp c7
        refine lv_aload_n hx hb dX12_back_56 rfl (lv_at hl 0 rfl) ?_
        refine tk_getA hC hK hw hT hinX12 kM_at0 (by decide) rfl 26 (by decide) (List.mem_of_getElem? (i := 3) rfl) rfl rfl dX12_back_57 ?_
        refine lv_iconst (v := 5) hx hb dX12_back_60 (by decide) ?_
        refine tk_ialdR hC hK hw hT kM_at12 rfl (by decide) (by decide) dX12_back_61 (fun x8 c9 Ex8 => ?_)
        have bx8 := tk_rgI rfl 5 1 1 0 4 (by decide +kernel) ⟨0, by decide, by decide⟩ Ex8
        have c9 : gi w2 12 5 = x8 := c9
        exact tk_iret hC hr hlocks hK ⟨hT, hF, (Or.inl ⟨(show 0 ≤ x8.toInt by omega), (show x8.toInt ≤ 4 by omega), (show 0 ≤ a1.toInt by omega), (show a1.toInt ≤ 3 by omega)⟩)⟩ hw dX12_back_62
      · have c7 : v25_2.toInt < (296 : Int) := wk_leF c7
        refine lv_aload_n hx hb dX12_back_32 rfl (lv_at hl 0 rfl) ?_
        refine tk_getA hC hK hw hT hinX12 kM_at0 (by decide) rfl 26 (by decide) (List.mem_of_getElem? (i := 3) rfl) rfl rfl dX12_back_33 ?_
        refine lv_iload_n hx hb dX12_back_36 rfl (lv_at hl 2 rfl) ?_
        refine lv_aload_n hx hb dX12_back_37 rfl (lv_at hl 0 rfl) ?_
        refine tk_getA hC hK hw hT hinX12 kM_at0 (by decide) rfl 40 (by decide) (List.mem_of_getElem? (i := 4) rfl) rfl rfl dX12_back_38 ?_
        refine lv_sipush (v := 296) hx hb dX12_back_41 (by decide) ?_
        refine lv_iload_n hx hb dX12_back_44 rfl (lv_at hl 1 rfl) ?_
        refine lv_imul hx hb dX12_back_45 ?_
        refine lv_topi (fun x10 ex10 => ?_)
        have ex10 : x10.toInt = (296 : Int) * a1.toInt := by rw [ex10]; exact wk_mul (show (-2147483648) ≤ (296 : Int) * a1.toInt by omega) (show (296 : Int) * a1.toInt ≤ 2147483647 by omega)
        refine lv_iload_n hx hb dX12_back_46 rfl (lv_at hl 2 rfl) ?_
        refine lv_iadd hx hb dX12_back_47 ?_
        refine lv_topi (fun x11 ex11 => ?_)
        have ex11 : x11.toInt = x10.toInt + v25_2.toInt := by rw [ex11]; exact wk_add (show (-2147483648) ≤ x10.toInt + v25_2.toInt by omega) (show x10.toInt + v25_2.toInt ≤ 2147483647 by omega)
        refine tk_ialdR hC hK hw hT kM_at21 rfl (show 0 ≤ x11.toInt by omega) (show x11.toInt < 1184 by omega) dX12_back_48 (fun x12 c13 Ex12 => ?_)
        refine tk_iastR hC hK hw hT kM_at12 (by decide) rfl (show 0 ≤ v25_2.toInt by omega) (show v25_2.toInt < 296 by omega) (tk_rgC rfl rfl (show x11.toInt.toNat % 296 = v25_2.toInt.toNat % 296 by omega) Ex12) dX12_back_49 (fun H locs w14 hw hT k16 c15 => ?_)
        have hF := hF.put kM_at12 (inE_of (a := 0) (b := 295) (by decide) (show 0 ≤ v25_2.toInt.toNat by omega) (show v25_2.toInt.toNat ≤ 295 by omega)) k16
        obtain ⟨x17, ex17⟩ : ∃ y : Int32, y = v25_2 + Int32.ofInt 1 := ⟨_, rfl⟩
        refine lv_iinc (v := x17) (lv' := [(2, .int x17), (0, .ref (ad 0)), (1, .int a1)]) hx hb dX12_back_50 hl (k := 2) rfl ex17.symm (by decide) rfl (fun ls hl => ?_)
        have ex17 : x17.toInt = v25_2.toInt + 1 := by rw [ex17]; exact wk_add (y := 1) (show -2147483648 ≤ v25_2.toInt + 1 by omega) (show v25_2.toInt + 1 ≤ 2147483647 by omega)
        refine lv_goto (tgt := 25) hx hb dX12_back_53 (by decide) ?_
        exact ih25 x17 H locs ls w14 (show 0 ≤ a1.toInt by omega) (show a1.toInt ≤ 3 by omega) (show 0 ≤ x17.toInt by omega) (show x17.toInt ≤ 296 by omega) (show (296 - x17.toInt).toNat < n25 by omega) hw hT hF  (lv_sub hl [1, 2, 0] rfl)
  refine lv_iload_n hx hb dX12_back_0 rfl (lv_at hl 1 rfl) ?_
  refine lv_i2l hx hb dX12_back_1 rfl ?_
  refine lv_topl (fun x18 ex18 => ?_)
  have ex18 : x18.toInt = a1.toInt := by rw [ex18]; exact wk_i2l _
  have bx18 := wk_i32 a1
  refine lv_lconst (v := 0) hx hb dX12_back_2 (by decide) ?_
  refine lv_ldc2 (v := 3) hx hb hC.2.2.2.1 (hC.2.2.2.2 _ (List.mem_of_getElem? (i := 1) rfl)) dX12_back_3 ?_
  refine tk_Si hC hK hw hT hA hE hSR (k_X12_in_11 l adK adV dC dI cy ad B (by omega) (by omega) qr s1   x18 (show (-2147483648) ≤ x18.toInt by omega) (show x18.toInt ≤ 2147483647 by omega) w0 s.heap.size hT ) (va_cwS 3 hC.2.2.2.2 gX12_back_X12_in rfl rfl rfl (by decide +kernel) ⟨Nat.le_of_ble_eq_true rfl, Nat.le_of_ble_eq_true rfl⟩) rfl hl.1 rfl (Nat.le_of_ble_eq_true rfl) dX12_back_6 (fun r19 w21 H locs hp20 hw => ?_)
  obtain ⟨hT, k22, hg25⟩ := hp20
  have hF := hF.tr k22 (by decide)
  rcases hg25 with rfl | ⟨rfl, g23, g24⟩
  · refine lv_if_eq (tgt := 21) hx hb dX12_back_9 (by decide) (fun _ => ?_) (fun c => absurd (by decide) c)
    exact J21  H locs ls w21   hw hT hF  (lv_sub hl [0, 1] rfl)
  · refine lv_if_eq (tgt := 21) hx hb dX12_back_9 (by decide) (fun c => absurd c (by decide)) (fun _ => ?_)
    refine lv_aload_n hx hb dX12_back_12 rfl (lv_at hl 0 rfl) ?_
    refine tk_getA hC hK hw hT hinX12 kM_at0 (by decide) rfl 41 (by decide) (List.mem_of_getElem? (i := 2) rfl) rfl rfl dX12_back_13 ?_
    refine lv_iload_n hx hb dX12_back_16 rfl (lv_at hl 1 rfl) ?_
    refine tk_zald hC hK hw hT kM_at22 rfl rfl (show 0 ≤ a1.toInt by omega) (show a1.toInt < 4 by omega) dX12_back_17 (fun x26 c27 rx26 tx26 => ?_)
    refine lv_if_ne (tgt := 23) hx hb dX12_back_18 (by decide) (fun c28 => ?_) (fun c28 => ?_)
    · have c28 : ¬ x26.toInt = (0 : Int) := wk_eqF c28
      refine lv_iconst (v := 0) hx hb dX12_back_23 (by decide) ?_
      refine lv_istore_n (lv' := [(2, .int 0), (0, .ref (ad 0)), (1, .int a1)]) hx hb dX12_back_24 rfl hl (by decide) rfl (fun ls hl => ?_)
      exact L25 ((296 - (0 : Int)).toNat + 1) 0 H locs ls w21 (show 0 ≤ a1.toInt by omega) (show a1.toInt ≤ 3 by omega) (by decide) (by decide) (Nat.lt_succ_self _) hw hT hF  (lv_sub hl [1, 2, 0] rfl)
    · have c28 : x26.toInt = (0 : Int) := wk_eq.mp c28
      exact J21  H locs ls w21   hw hT hF  (lv_sub hl [0, 1] rfl)
